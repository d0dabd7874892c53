/-! MAKERS, the others -/
theorem jn_mk {T : Type} {B : T → Prop} {J : T} (h : B J) : jn B J := h
theorem cl_nm {nm m : Nat} {k : Ob} (h : k.2.1 1 = nI nm) (hn : nm ≤ 40) (hm : m < nm) : m < (k.2.1 1).toNatClampNeg := by rw [h, nI_clamp (by omega)]; exact hm
theorem ob0_7 {a b c d e f g : Int32} : ((upd (upd (upd (upd (upd (upd (upd ob0.2.1 0 a) 1 b) 2 c) 3 d) 4 e) 5 f) 6 g) 0 = a ∧ (upd (upd (upd (upd (upd (upd (upd ob0.2.1 0 a) 1 b) 2 c) 3 d) 4 e) 5 f) 6 g) 1 = b ∧ (upd (upd (upd (upd (upd (upd (upd ob0.2.1 0 a) 1 b) 2 c) 3 d) 4 e) 5 f) 6 g) 2 = c ∧ (upd (upd (upd (upd (upd (upd (upd ob0.2.1 0 a) 1 b) 2 c) 3 d) 4 e) 5 f) 6 g) 3 = d) := ⟨rfl, rfl, rfl, rfl⟩
theorem mul_nI {a b : Nat} : nI a * nI b = nI (a * b) := pk_mul a b
theorem nI_le24 {n : Nat} (hn : n < 2 ^ 31) : nI n ≤ 24 ↔ n ≤ 24 := by rw [show (24 : Int32) = nI 24 from rfl, nI_leI hn (by omega)]
set_option maxHeartbeats 2000000 in
theorem ok_listOf : OK_listOf Iv := by
  intro ck mk pr xs o v1 v2 hI
  obtain ⟨nm, nc, np, hT, hE, hS, hR⟩ := id hI
  have hn := hT.1.1
  have e0 := hT.2.1.1
  have e4 := hT.2.1.2
  have fin : Iv ck mk pr (ux (ux xs 0 (xs 0)) 4 (xs 4)) o := by rw [ux_self, ux_self]; exact hI
  rcases ix_cases v1 nm with ⟨m, hm, rfl⟩ | hno
  · have hv : vp_in (nI m) 30 := vp_in_nI (by omega) (by omega)
    refine k_at_y e4 hn hm rfl ⟨rfl, fun z => (nomatch z), fun i e => ?_⟩
    cases e
    have hlt := cl_nm e4 (by omega) hm
    have hp := pk_known hT hm
    obtain ⟨w, hw1, hw2, q1, q2, q3⟩ := wt_known hT hm
    refine ⟨fun c => ⟨rfl, r_noMaker_y e0 hn hm rfl ⟨fun _ => r_in_n (Or.inl c) ⟨fun _ => ⟨rfl, fin⟩, fun z => absurd rfl z⟩, fun z => absurd rfl z⟩⟩, fun c => ⟨fun d => ⟨hlt, hlt, ?_, ?_⟩, fun d => ⟨rfl, r_noMaker_y e0 hn hm rfl ⟨fun _ => r_in_n (Or.inr (Int32.not_le.mp d)) ⟨fun _ => ⟨rfl, fin⟩, fun z => absurd rfl z⟩, fun z => absurd rfl z⟩⟩⟩⟩
    · rw [hp.1]; exact hp.2
    · refine add_both (x1 := 1) (x2 := nI m) (x3 := -1) (x4 := v2) (x5 := 0) (x6 := v2 * (o.2.2 6 m)) (x7 := o.2.2 7 m) hI hT hE hS hR hp.2 (by show v2 * (mk m).2.1 5 = _; rw [q1, q2]) (fun h6 tb ht t0 t1 t2 t3 t4 t5 t6 => ?_) (WM := w_X10_listOf (nI m) v2 o) (fun P h => ?_) (fun r mk2 k2 h => ⟨rfl, h⟩)
      · obtain ⟨cc, c1, c2, ev⟩ := le24 c d
        rw [q2, ev, mul_nI] at h6 t5
        have hb : cc * w ≤ 24 * 24 := Nat.mul_le_mul c2 hw2
        have h6' := (nI_le24 (by omega)).mp h6
        have hpos : 1 ≤ cc * w := Nat.mul_pos c1 hw1
        refine ⟨mkwf_1 t0 hpos h6' t5 (by rw [t6]; exact hp.2) ⟨m, hm, t1, cc, c1, c2, by rw [t3, ev], by rw [wtN_of t5 (by omega), ht.wt hm, q3]⟩, mkrel_1 t0 t0.symm (by rw [t5]; show v2 * (mk m).2.1 5 = _; rw [q1, ev, mul_nI]) (by rw [t6]; exact hp.1) ⟨by rw [t1]; rfl, by rw [t3]; rfl⟩⟩
      · refine r_noMaker_y e0 hn hm rfl ⟨fun _ => r_in_y c (Int32.not_lt.mpr d) ⟨fun z => absurd z (by decide), fun _ => ⟨hv, hv, ?_⟩⟩, fun z => absurd rfl z⟩
        rw [nI_clamp (by omega)]; exact h
  · exact k_at_n e4 hn hno ⟨rfl, fun _ => ⟨rfl, r_noMaker_n e0 hn hno ⟨fun z => absurd z (by decide), fun _ => ⟨rfl, fin⟩⟩⟩, fun i z => (nomatch z)⟩
