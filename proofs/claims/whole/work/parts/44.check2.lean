theorem kf {x1 : Int32} {o : Ob} {Post : Int32 → Ob → Prop} (h : o.2.1 0 = x1) (h1 : (x1 = 8 ∨ x1 = 9 ∨ x1 = 10) → Post 1 o) (h0 : ¬ (x1 = 8 ∨ x1 = 9 ∨ x1 = 10) → Post 0 o) : w_X0_asksFirst o Post := by
  unfold w_X0_asksFirst
  rw [h]
  exact ⟨fun a => h1 (Or.inl a), fun a => ⟨fun b => h1 (Or.inr (Or.inl b)), fun b => ⟨fun c => h0 (fun z => z.elim a (fun z => z.elim b c)), fun c => h1 (Or.inr (Or.inr c))⟩⟩⟩
theorem ks {x1 : Int32} {o : Ob} {Post : Int32 → Ob → Prop} (h : o.2.1 0 = x1) (h1 : (x1 = 8 ∨ x1 = 9) → Post 1 o) (h0 : ¬ (x1 = 8 ∨ x1 = 9) → Post 0 o) : w_X0_asksSecond o Post := by
  unfold w_X0_asksSecond
  rw [h]
  exact ⟨fun a => h1 (Or.inl a), fun a => ⟨fun b => h0 (fun z => z.elim a b), fun b => h1 (Or.inr b)⟩⟩
theorem k_isM {x y : Int32} {Post : Int32 → Prop} (h1 : (∃ a : Nat, a < 3 ∧ x = nI a) → (∃ b : Nat, b < 4 ∧ y = nI b) → Post 1) (h0 : (x < 0 ∨ 2 < x) ∨ (¬ x < 0 ∧ ¬ 2 < x ∧ (y < 0 ∨ 3 < y)) → Post 0) : w_X9_isMachine x y Post := by
  unfold w_X9_isMachine
  refine ⟨fun a => h0 (Or.inl (Or.inl a)), fun a => ⟨fun b => h0 (Or.inl (Or.inr (Int32.lt_of_lt_of_le (by decide) b))), fun b => ?_⟩⟩
  obtain ⟨i, hi, e⟩ := lt0_or (n := 3) (by omega) a b
  have h2 : ¬ 2 < x := by rw [e, show (2 : Int32) = nI 2 from rfl, nI_ltI (by omega) (by omega)]; omega
  refine ⟨fun c => h0 (Or.inr ⟨a, h2, Or.inl c⟩), fun c => ⟨fun d => h0 (Or.inr ⟨a, h2, Or.inr (Int32.lt_of_lt_of_le (by decide) d)⟩), fun d => ?_⟩⟩
  exact h1 ⟨i, hi, e⟩ (lt0_or (n := 4) (by omega) c d)
theorem r_addC {x1 x2 x3 : Int32} {o : Ob} {nc : Nat} {P : Int32 → Ob → Prop} (hc : o.2.1 21 = nI nc) (hn : nc ≤ 40) (hF : nc = 40 → P (-4) o) (hS : nc < 40 → P (nI nc) (o.1, upd o.2.1 21 (nI (nc + 1)), sa (sa (sa o.2.2 22 (upd (o.2.2 22) nc x1)) 23 (upd (o.2.2 23) nc x2)) 24 (upd (o.2.2 24) nc x3))) :
    ((¬ (o.2.1 21) = 40) → vp_in (o.2.1 21) 40 ∧ (vp_in (o.2.1 21) 40 ∧ (vp_in (o.2.1 21) 40 ∧ (P ((((o.2.1 21) + 1)) - 1) ((o.1, (upd o.2.1 21 (((o.2.1 21) + 1))), (sa (sa (sa o.2.2 22 (upd (o.2.2 22) (o.2.1 21).toNatClampNeg x1)) 23 (upd (o.2.2 23) (o.2.1 21).toNatClampNeg x2)) 24 (upd (o.2.2 24) (o.2.1 21).toNatClampNeg x3)))))))) ∧ (((o.2.1 21) = 40) → P ((-4)) o) := by
  rw [hc]
  refine ⟨fun z => ?_, fun z => hF ?_⟩
  · have hlt : nc < 40 := by
      rcases Nat.lt_or_ge nc 40 with q | q
      · exact q
      · exact absurd (by rw [show nc = 40 by omega]; rfl) z
    have hv : vp_in (nI nc) 40 := vp_in_nI hlt (by omega)
    refine ⟨hv, hv, hv, ?_⟩
    rw [nI_1, nI_clamp (by omega), show nI (nc + 1) - 1 = nI nc from by rw [← nI_1, Int32.add_sub_cancel]]
    exact hS hlt
  · rw [show (40 : Int32) = nI 40 from rfl, nI_eq (by omega) (by omega)] at z; exact z
/-- the reference's check, all in one -/
theorem r_check {x1 x2 x3 : Int32} {o : Ob} {nc : Nat} {P : Int32 → Ob → Prop} (hc : o.2.1 21 = nI nc) (hn : nc ≤ 40)
    (hu : ((x1 = 8 ∨ x1 = 9 ∨ x1 = 10) ∧ ∀ m, m < nc → x2 ≠ nI m) ∨ ((x1 = 8 ∨ x1 = 9) ∧ ∀ m, m < nc → x3 ≠ nI m) → P (-1) o)
    (hx : (x1 < 0 ∨ 11 < x1) ∨ (x1 = 11 ∧ ((x2 < 0 ∨ 2 < x2) ∨ (¬ x2 < 0 ∧ ¬ 2 < x2 ∧ (x3 < 0 ∨ 3 < x3)))) → P (-2) o)
    (hF : nc = 40 → P (-4) o) (hS : nc < 40 → P (nI nc) (o.1, upd o.2.1 21 (nI (nc + 1)), sa (sa (sa o.2.2 22 (upd (o.2.2 22) nc x1)) 23 (upd (o.2.2 23) nc x2)) 24 (upd (o.2.2 24) nc x3))) : w_X10_check x1 x2 x3 o P := by
  have hA := r_addC (x1 := x1) (x2 := x2) (x3 := x3) hc hn hF hS
  unfold w_X10_check
  refine jn_mk ?_
  generalize hJ : (fun (o_47 : Ob) => w_X10_in x1 (0 : Int32) (11 : Int32) _) = J
  have hj : J o := by
    subst hJ
    refine r_in (fun z => ⟨fun _ => hx (Or.inl z), fun y => absurd rfl y⟩) (fun a b => ⟨fun z => absurd z (by decide), fun _ => jn_mk ⟨fun _ => hA, fun e => r_in (fun z => ⟨fun _ => hx (Or.inr ⟨e, Or.inl z⟩), fun y => absurd rfl y⟩) (fun c d => ⟨fun z => absurd z (by decide), fun _ => r_in (fun z => ⟨fun y => absurd rfl y, fun _ => hx (Or.inr ⟨e, Or.inr ⟨c, d, z⟩⟩)⟩) (fun _ _ => ⟨fun _ => hA, fun z => absurd z (by decide)⟩)⟩)⟩⟩)
  have h89 : (x1 = 8 ∨ x1 = 9) → w_X10_noCheck x2 o (fun (r7 : Int32) (o_8 : Ob) => ((¬ r7 = 0) → P ((-1)) o_8) ∧ ((r7 = 0) → w_X10_noCheck x3 o_8 (fun (r10 : Int32) (o_11 : Ob) => ((r10 = 0) → J o_11) ∧ (¬ (r10 = 0) → P ((-1)) o_11)))) := by
    intro q
    refine r_noCheck hc hn (fun m hm e => ⟨fun z => absurd rfl z, fun _ => r_noCheck hc hn (fun m hm e => ⟨fun _ => hj, fun z => absurd rfl z⟩) (fun h => ⟨fun z => absurd z (by decide), fun _ => hu (Or.inr ⟨q, h⟩)⟩)⟩) (fun h => ⟨fun _ => hu (Or.inl ⟨by rcases q with q | q; exact Or.inl q; exact Or.inr (Or.inl q), h⟩), fun z => absurd z (by decide)⟩)
  refine jn_mk ⟨fun a => h89 (Or.inl a), fun a => ⟨fun b => ⟨fun _ => hj, fun c => ?_⟩, fun b => h89 (Or.inr b)⟩⟩
  exact r_noCheck hc hn (fun m hm e => ⟨fun _ => hj, fun z => absurd rfl z⟩) (fun h => ⟨fun z => absurd z (by decide), fun _ => hu (Or.inl ⟨Or.inr (Or.inr c), h⟩)⟩)
