def ChU (x1 x2 x3 : Int32) (nc : Nat) : Prop := ((x1 = 8 ∨ x1 = 9 ∨ x1 = 10) ∧ ∀ m, m < nc → x2 ≠ nI m) ∨ ((x1 = 8 ∨ x1 = 9) ∧ ∀ m, m < nc → x3 ≠ nI m)
def ChX (x1 x2 x3 : Int32) : Prop := (x1 < 0 ∨ 11 < x1) ∨ (x1 = 11 ∧ ((x2 < 0 ∨ 2 < x2) ∨ (¬ x2 < 0 ∧ ¬ 2 < x2 ∧ (x3 < 0 ∨ 3 < x3))))
theorem r_check2 {x1 x2 x3 : Int32} {o : Ob} {nc : Nat} {P : Int32 → Ob → Prop} (hc : o.2.1 21 = nI nc) (hn : nc ≤ 40) (hu : ChU x1 x2 x3 nc → P (-1) o) (hx : ¬ ChU x1 x2 x3 nc → ChX x1 x2 x3 → P (-2) o)
    (hF : ¬ ChU x1 x2 x3 nc → ¬ ChX x1 x2 x3 → nc = 40 → P (-4) o) (hS : ¬ ChU x1 x2 x3 nc → ¬ ChX x1 x2 x3 → nc < 40 → P (nI nc) (o.1, upd o.2.1 21 (nI (nc + 1)), sa (sa (sa o.2.2 22 (upd (o.2.2 22) nc x1)) 23 (upd (o.2.2 23) nc x2)) 24 (upd (o.2.2 24) nc x3))) : w_X10_check x1 x2 x3 o P := by
  have hA := fun u x => r_addC (x1 := x1) (x2 := x2) (x3 := x3) hc hn (hF u x) (hS u x)
  unfold w_X10_check
  refine jn_mk ?_
  generalize hJ : (fun (o_47 : Ob) => w_X10_in x1 (0 : Int32) (11 : Int32) _) = J
  have hj : ¬ ChU x1 x2 x3 nc → J o := by
    intro u
    subst hJ
    refine r_in (fun z => ⟨fun _ => hx u (Or.inl z), fun y => absurd rfl y⟩) (fun a b => ⟨fun z => absurd z (by decide), fun _ => jn_mk ⟨fun e => hA u (fun z => ?_), fun e => r_in (fun z => ⟨fun _ => hx u (Or.inr ⟨e, Or.inl z⟩), fun y => absurd rfl y⟩) (fun c d => ⟨fun z => absurd z (by decide), fun _ => r_in (fun z => ⟨fun y => absurd rfl y, fun _ => hx u (Or.inr ⟨e, Or.inr ⟨c, d, z⟩⟩)⟩) (fun f g => ⟨fun _ => hA u (fun z => ?_), fun z => absurd z (by decide)⟩)⟩)⟩⟩)
    · rcases z with (z | z) | ⟨z, -⟩
      · exact a z
      · exact b z
      · exact e z
    · rcases z with (z | z) | ⟨-, (z | z) | ⟨-, -, z | z⟩⟩
      · exact a z
      · exact b z
      · exact c z
      · exact d z
      · exact f z
      · exact g z
  have h89 : (x1 = 8 ∨ x1 = 9) → w_X10_noCheck x2 o (fun (r7 : Int32) (o_8 : Ob) => ((¬ r7 = 0) → P ((-1)) o_8) ∧ ((r7 = 0) → w_X10_noCheck x3 o_8 (fun (r10 : Int32) (o_11 : Ob) => ((r10 = 0) → J o_11) ∧ (¬ (r10 = 0) → P ((-1)) o_11)))) := by
    intro q
    refine r_noCheck hc hn (fun m hm e => ⟨fun z => absurd rfl z, fun _ => r_noCheck hc hn (fun m2 hm2 e2 => ⟨fun _ => hj (fun z => ?_), fun z => absurd rfl z⟩) (fun h => ⟨fun z => absurd z (by decide), fun _ => hu (Or.inr ⟨q, h⟩)⟩)⟩) (fun h => ⟨fun _ => hu (Or.inl ⟨by rcases q with q | q; exact Or.inl q; exact Or.inr (Or.inl q), h⟩), fun z => absurd z (by decide)⟩)
    rcases z with ⟨-, z⟩ | ⟨-, z⟩
    · exact z m hm e
    · exact z m2 hm2 e2
  refine jn_mk ⟨fun a => h89 (Or.inl a), fun a => ⟨fun b => ⟨fun c => hj (fun z => ?_), fun c => ?_⟩, fun b => h89 (Or.inr b)⟩⟩
  · rcases z with ⟨z | z | z, -⟩ | ⟨z | z, -⟩
    · exact a z
    · exact b z
    · exact c z
    · exact a z
    · exact b z
  · refine r_noCheck hc hn (fun m hm e => ⟨fun _ => hj (fun z => ?_), fun z => absurd rfl z⟩) (fun h => ⟨fun z => absurd z (by decide), fun _ => hu (Or.inl ⟨Or.inr (Or.inr c), h⟩)⟩)
    rcases z with ⟨-, z⟩ | ⟨z | z, -⟩
    · exact z m hm e
    · exact a z
    · exact b z
