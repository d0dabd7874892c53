/-! WHAT A CHECK SAYS: one pure word for both sides -/
theorem m_runs {o : Ob} {n q : Nat} {f : Nat → Int32} {kd ft : Int32} {Post : Int32 → Ob → Prop} (L : LvG o n f) (hq : q ≤ n / 2) (k : ∀ (o2 : Ob) (l2 : Int32), (l2 = 0 ∨ l2 = 1) → Fm runS [26, 27] o o2 → o2.2.1 28 = (anA kd ft f q 0 [] (o.2.1 31)).1 → (o2.2.1 28 = 0 → o2.2.1 31 = (anA kd ft f q 0 [] (o.2.1 31)).2) → o2.2.1 32 = (anA kd 0 f q 0 [] (o.2.1 32)).2 → (0 < q → o2.2.1 29 = actF (f (2 * (q - 1))) ∧ o2.2.1 30 = f (2 * (q - 1) + 1)) → (o2.2.1 28 = 0 → l2 = gwA kd ft f q 0 [] []) → Post l2 o2) : w_X10_runs kd ft (nI q) o Post := by
  have F : Fm runS [26, 27] o (o.1, upd o.2.1 28 0, sa (sa o.2.2 27 (upd (o.2.2 27) (0 : Int32).toNatClampNeg (0 : Int32))) 27 (upd (upd (o.2.2 27) (0 : Int32).toNatClampNeg (0 : Int32)) (1 : Int32).toNatClampNeg (0 : Int32))) :=
    Fm.ia (fun k hk => un_of (S := runS) (by decide) hk) (fun k hk => by rw [sa_un (S := [26, 27]) (by decide) hk, sa_un (S := [26, 27]) (by decide) hk])
  refine ⟨q + 1, m_runL (q := q) rfl hq q 0 1 0 [] [] (o.2.1 31) (o.2.1 32) _ (by omega) (L.keep F (by decide) (by decide)) ⟨?_, by simp, Seg.nil⟩ ⟨?_, by simp, Seg.nil⟩ (Or.inr rfl) ?_ (Or.inl rfl) (fun _ => ?_) ?_ (fun o2 l2 h0 h1 h2 h3 h4 h5 h6 h7 h8 => ?_)⟩
  · show sa (sa o.2.2 27 (upd (o.2.2 27) (0 : Int32).toNatClampNeg (0 : Int32))) 27 (upd (upd (o.2.2 27) (0 : Int32).toNatClampNeg (0 : Int32)) (1 : Int32).toNatClampNeg (0 : Int32)) 27 0 = nI 0
    rw [sa_us, show (1 : Int32).toNatClampNeg = 1 from rfl, show (0 : Int32).toNatClampNeg = 0 from rfl, pk_un (by omega), pk_us]; rfl
  · show sa (sa o.2.2 27 (upd (o.2.2 27) (0 : Int32).toNatClampNeg (0 : Int32))) 27 (upd (upd (o.2.2 27) (0 : Int32).toNatClampNeg (0 : Int32)) (1 : Int32).toNatClampNeg (0 : Int32)) 27 1 = nI 0
    rw [sa_us, show (1 : Int32).toNatClampNeg = 1 from rfl, pk_us]; rfl
  · show upd o.2.1 28 0 28 = 0
    exact pk_us
  · show upd o.2.1 28 0 31 = _
    exact pk_un (by omega)
  · show upd o.2.1 28 0 32 = _
    exact pk_un (by omega)
  · refine k o2 l2 h0 (F.tr h1) ?_ h3 h4 (fun z => ?_) (fun z => h7 z rfl)
    · rw [h2, if_pos rfl]
    · have := h6 z
      rw [show 0 + q - 1 = q - 1 by omega] at this
      exact this
theorem m_machine {o : Ob} {n : Nat} {f : Nat → Int32} {kd ft : Int32} {Post : Int32 → Ob → Prop} (L : LvG o n f) (k : ∀ o2, Fm runS [26, 27] o o2 → Post (mV (gwA kd ft f (n / 2) 0 [] [])) o2) : w_X10_machine kd ft o Post := by
  unfold w_X10_machine
  rw [L.1, show (2 : Int32) = nI 2 from rfl, pk_div (by have := L.2.1; omega) (by omega) (by omega)]
  refine m_runs L (Nat.le_refl _) (fun o2 l2 h0 h1 h2 h3 h4 h5 h6 => ?_)
  have k2 := k o2 h1
  refine ⟨fun c => ?_, fun c => ?_⟩
  · have e := h6 c
    rw [← e] at k2
    rcases h0 with z | z
    · rw [z] at k2 ⊢; exact ⟨fun _ => k2, fun y => absurd rfl y⟩
    · rw [z] at k2 ⊢; exact ⟨fun y => absurd y (by decide), fun _ => k2⟩
  · rw [h2] at c
    rw [gw_thr (n / 2) 0 [] [] _ (by simp) (fun _ => rfl) c] at k2
    exact k2
noncomputable def one (kd a b : Int32) (n : Nat) (f g : Nat → Int32) : Int32 :=
  if kd = 0 then bP (sumA f n 0 0 < a) else if kd = 1 then bP (LeastP f n a) else if kd = 2 then bP (nI n < a) else if kd = 3 then bP (RiseP f n) else if kd = 4 then bP (DiffP f n)
  else if kd = 5 then (if a = 0 then -1 else bP (sumA f n 0 0 - sumA f n 0 0 / a * a = 0)) else if kd = 6 then quoA a f n 0 else if kd = 7 then plaA a n f n 0
  else if kd = 8 then (if g a.toNatClampNeg = 1 then g b.toNatClampNeg else g a.toNatClampNeg) else if kd = 9 then (if g a.toNatClampNeg = 0 then g b.toNatClampNeg else g a.toNatClampNeg)
  else if kd = 10 then (if g a.toNatClampNeg < 0 then g a.toNatClampNeg else 1 - g a.toNatClampNeg) else gwA a b f (n / 2) 0 [] []
noncomputable def vT (ck : Nat → Ob) (n : Nat) (f : Nat → Int32) : Nat → Nat → Int32
  | 0 => fun _ => 0
  | i + 1 => upd (vT ck n f i) i (one ((ck i).2.1 0) ((ck i).2.1 1) ((ck i).2.1 2) n f (vT ck n f i))
noncomputable def vF (ck : Nat → Ob) (n : Nat) (f : Nat → Int32) (c : Nat) : Int32 := vT ck n f (c + 1) c
theorem vT_lt {ck : Nat → Ob} {n : Nat} {f : Nat → Int32} {j : Nat} : ∀ i, j < i → vT ck n f i j = vF ck n f j := by
  intro i
  induction i with
  | zero => intro h; omega
  | succ i ih =>
    intro h
    rcases Nat.lt_or_ge j i with q | q
    · show upd _ i _ j = _
      rw [pk_un (by omega)]; exact ih q
    · have : j = i := by omega
      subst this; rfl
theorem one_congr {c : Ob} {i n : Nat} {f g g2 : Nat → Int32} (w : CkWF c i) (hi : i ≤ 40) (h : ∀ j, j < i → g j = g2 j) : one (c.2.1 0) (c.2.1 1) (c.2.1 2) n f g = one (c.2.1 0) (c.2.1 1) (c.2.1 2) n f g2 := by
  obtain ⟨-, w8, w10, -⟩ := w
  have e8 : (c.2.1 0 = 8 ∨ c.2.1 0 = 9) → g (c.2.1 1).toNatClampNeg = g2 (c.2.1 1).toNatClampNeg ∧ g (c.2.1 2).toNatClampNeg = g2 (c.2.1 2).toNatClampNeg := by
    intro z
    obtain ⟨⟨a, ha, ea⟩, b, hb, eb⟩ := w8 z
    rw [ea, eb, nI_clamp (by omega), nI_clamp (by omega)]
    exact ⟨h a ha, h b hb⟩
  have e10 : c.2.1 0 = 10 → g (c.2.1 1).toNatClampNeg = g2 (c.2.1 1).toNatClampNeg := by
    intro z
    obtain ⟨a, ha, ea⟩ := w10 z
    rw [ea, nI_clamp (by omega)]
    exact h a ha
  unfold one
  by_cases c8 : c.2.1 0 = 8
  · rw [(e8 (Or.inl c8)).1, (e8 (Or.inl c8)).2]
  · rw [if_neg c8, if_neg c8]
    by_cases c9 : c.2.1 0 = 9
    · rw [(e8 (Or.inr c9)).1, (e8 (Or.inr c9)).2]
    · rw [if_neg c9, if_neg c9]
      by_cases c10 : c.2.1 0 = 10
      · rw [e10 c10]
      · rw [if_neg c10, if_neg c10]
theorem vF_eq {ck : Nat → Ob} {n : Nat} {f : Nat → Int32} {c : Nat} (w : CkWF (ck c) c) (hc : c ≤ 40) : vF ck n f c = one ((ck c).2.1 0) ((ck c).2.1 1) ((ck c).2.1 2) n f (vF ck n f) := by
  have : vF ck n f c = one ((ck c).2.1 0) ((ck c).2.1 1) ((ck c).2.1 2) n f (vT ck n f c) := pk_us
  rw [this]
  exact one_congr w hc (fun j hj => vT_lt c hj)
def VS (x : Int32) : Prop := x = 1 ∨ x = 0 ∨ x = -1 ∨ x = -2 ∨ x = -3
theorem VS_b {P : Prop} : VS (bP P) := (bP01 P).elim (fun z => Or.inr (Or.inl z)) Or.inl
theorem quo_VS {a : Int32} {f : Nat → Int32} : ∀ d i, VS (quoA a f d i) := by
  intro d
  induction d with
  | zero => intro i; exact Or.inl rfl
  | succ d ih =>
    intro i; unfold quoA
    split
    · exact Or.inr (Or.inr (Or.inl rfl))
    · split
      · exact Or.inr (Or.inl rfl)
      · exact ih _
theorem pla_VS {a : Int32} {n : Nat} {f : Nat → Int32} : ∀ d i, VS (plaA a n f d i) := by
  intro d
  induction d with
  | zero => intro i; exact Or.inl rfl
  | succ d ih =>
    intro i; unfold plaA
    split
    · exact Or.inr (Or.inr (Or.inr (Or.inl rfl)))
    · split
      · exact Or.inr (Or.inl rfl)
      · exact ih _
theorem gw_VS {kd ft : Int32} {f : Nat → Int32} : ∀ d i hm hd, VS (gwA kd ft f d i hm hd) := by
  intro d
  induction d with
  | zero => intro i hm hd; exact Or.inl rfl
  | succ d ih =>
    intro i hm hd; unfold gwA
    split
    · split
      · exact ih _ _ _
      · exact Or.inr (Or.inl rfl)
    · exact Or.inr (Or.inr (Or.inr (Or.inr rfl)))
theorem one_8 {a b : Int32} {n : Nat} {f g : Nat → Int32} : one 8 a b n f g = if g a.toNatClampNeg = 1 then g b.toNatClampNeg else g a.toNatClampNeg := by
  unfold one
  rw [if_neg (by decide), if_neg (by decide), if_neg (by decide), if_neg (by decide), if_neg (by decide), if_neg (by decide), if_neg (by decide), if_neg (by decide), if_pos rfl]
theorem one_9 {a b : Int32} {n : Nat} {f g : Nat → Int32} : one 9 a b n f g = if g a.toNatClampNeg = 0 then g b.toNatClampNeg else g a.toNatClampNeg := by
  unfold one
  rw [if_neg (by decide), if_neg (by decide), if_neg (by decide), if_neg (by decide), if_neg (by decide), if_neg (by decide), if_neg (by decide), if_neg (by decide), if_neg (by decide), if_pos rfl]
theorem one_10 {a b : Int32} {n : Nat} {f g : Nat → Int32} : one 10 a b n f g = if g a.toNatClampNeg < 0 then g a.toNatClampNeg else 1 - g a.toNatClampNeg := by
  unfold one
  rw [if_neg (by decide), if_neg (by decide), if_neg (by decide), if_neg (by decide), if_neg (by decide), if_neg (by decide), if_neg (by decide), if_neg (by decide), if_neg (by decide), if_neg (by decide), if_pos rfl]
theorem one_VS {c : Ob} {i n : Nat} {f g : Nat → Int32} (w : CkWF c i) (hi : i ≤ 40) (h : ∀ j, j < i → VS (g j)) : VS (one (c.2.1 0) (c.2.1 1) (c.2.1 2) n f g) := by
  obtain ⟨-, w8, w10, -⟩ := w
  have e8 : (c.2.1 0 = 8 ∨ c.2.1 0 = 9) → VS (g (c.2.1 1).toNatClampNeg) ∧ VS (g (c.2.1 2).toNatClampNeg) := by
    intro z
    obtain ⟨⟨a, ha, ea⟩, b, hb, eb⟩ := w8 z
    rw [ea, eb, nI_clamp (by omega), nI_clamp (by omega)]
    exact ⟨h a ha, h b hb⟩
  have e10 : c.2.1 0 = 10 → VS (g (c.2.1 1).toNatClampNeg) := by
    intro z
    obtain ⟨a, ha, ea⟩ := w10 z
    rw [ea, nI_clamp (by omega)]
    exact h a ha
  by_cases c8 : c.2.1 0 = 8
  · obtain ⟨x, y⟩ := e8 (Or.inl c8)
    rw [c8, one_8]
    split
    · exact y
    · exact x
  · by_cases c9 : c.2.1 0 = 9
    · obtain ⟨x, y⟩ := e8 (Or.inr c9)
      rw [c9, one_9]
      split
      · exact y
      · exact x
    · by_cases c10 : c.2.1 0 = 10
      · have x := e10 c10
        rw [c10, one_10]
        rcases x with x | x | x | x | x <;> rw [x]
        · exact Or.inr (Or.inl rfl)
        · exact Or.inl rfl
        · exact Or.inr (Or.inr (Or.inl rfl))
        · exact Or.inr (Or.inr (Or.inr (Or.inl rfl)))
        · exact Or.inr (Or.inr (Or.inr (Or.inr rfl)))
      · unfold one
        rw [if_neg c8, if_neg c9, if_neg c10]
        repeat' split
        all_goals first | exact VS_b | exact quo_VS _ _ | exact pla_VS _ _ | exact gw_VS _ _ _ _ | exact Or.inr (Or.inr (Or.inl rfl))
theorem vF_VS {ck : Nat → Ob} {n nc : Nat} {f : Nat → Int32} (w : ∀ i, i < nc → CkWF (ck i) i) (hn : nc ≤ 40) : ∀ c, c < nc → VS (vF ck n f c) := by
  intro c
  induction c using Nat.strongRecOn with
  | _ c ih =>
    intro hc
    rw [vF_eq (w c hc) (by omega)]
    exact one_VS (w c hc) (by omega) (fun j hj => ih j hj (by omega))
