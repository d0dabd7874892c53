/-! MAKERS, the others -/
theorem jn_mk {T : Type} {B : T → Prop} {J : T} (h : B J) : jn B J := h
theorem cl_nm {nm m : Nat} {k : Ob} (h : k.2.1 1 = nI nm) (hn : nm ≤ 40) (hm : m < nm) : m < (k.2.1 1).toNatClampNeg := by rw [h, nI_clamp (by omega)]; exact hm
theorem ob0_7 {a b c d e f g : Int32} : ((upd (upd (upd (upd (upd (upd (upd ob0.2.1 0 a) 1 b) 2 c) 3 d) 4 e) 5 f) 6 g) 0 = a ∧ (upd (upd (upd (upd (upd (upd (upd ob0.2.1 0 a) 1 b) 2 c) 3 d) 4 e) 5 f) 6 g) 1 = b ∧ (upd (upd (upd (upd (upd (upd (upd ob0.2.1 0 a) 1 b) 2 c) 3 d) 4 e) 5 f) 6 g) 2 = c ∧ (upd (upd (upd (upd (upd (upd (upd ob0.2.1 0 a) 1 b) 2 c) 3 d) 4 e) 5 f) 6 g) 3 = d) := ⟨rfl, rfl, rfl, rfl⟩
theorem mul_nI {a b : Nat} : nI a * nI b = nI (a * b) := pk_mul a b
theorem nI_le24 {n : Nat} (hn : n < 2 ^ 31) : nI n ≤ 24 ↔ n ≤ 24 := by rw [show (24 : Int32) = nI 24 from rfl, nI_leI hn (by omega)]
set_option maxHeartbeats 2000000 in
theorem ok_listOf : OK_listOf Iv := by
  intro ck mk pr xs o v1 v2 hI
  obtain ⟨nm, nc, np, hT, hE, hS, hR⟩ := id hI
  have hn := hT.1.1
  have e0 := hT.2.1.1
  have e4 := hT.2.1.2
  have fin : Iv ck mk pr (ux (ux xs 0 (xs 0)) 4 (xs 4)) o := by rw [ux_self, ux_self]; exact hI
  rcases ix_cases v1 nm with ⟨m, hm, rfl⟩ | hno
  · have hv : vp_in (nI m) 30 := vp_in_nI (by omega) (by omega)
    refine k_at_y e4 hn hm rfl ⟨rfl, fun z => (nomatch z), fun i e => ?_⟩
    cases e
    have hlt := cl_nm e4 (by omega) hm
    have hp := pk_known hT hm
    obtain ⟨w, hw1, hw2, q1, q2, q3⟩ := wt_known hT hm
    refine ⟨fun c => ⟨rfl, r_noMaker_y e0 hn hm rfl ⟨fun _ => r_in_n (Or.inl c) ⟨fun _ => ⟨rfl, fin⟩, fun z => absurd rfl z⟩, fun z => absurd rfl z⟩⟩, fun c => ⟨fun d => ⟨hlt, hlt, ?_, ?_⟩, fun d => ⟨rfl, r_noMaker_y e0 hn hm rfl ⟨fun _ => r_in_n (Or.inr (Int32.not_le.mp d)) ⟨fun _ => ⟨rfl, fin⟩, fun z => absurd rfl z⟩, fun z => absurd rfl z⟩⟩⟩⟩
    · rw [hp.1]; exact hp.2
    · refine add_both (x1 := 1) (x2 := nI m) (x3 := -1) (x4 := v2) (x5 := 0) (x6 := v2 * (o.2.2 6 m)) (x7 := o.2.2 7 m) hI hT hE hS hR hp.2 (by show v2 * (mk m).2.1 5 = _; rw [q1, q2]) (fun h6 tb ht t0 t1 t2 t3 t4 t5 t6 => ?_) (WM := w_X10_listOf (nI m) v2 o) (fun P h => ?_) (fun r mk2 k2 h => ⟨rfl, h⟩)
      · obtain ⟨cc, c1, c2, ev⟩ := le24 c d
        rw [q2, ev, mul_nI] at h6 t5
        have hb : cc * w ≤ 24 * 24 := Nat.mul_le_mul c2 hw2
        have h6' := (nI_le24 (by omega)).mp h6
        have hpos : 1 ≤ cc * w := Nat.mul_pos c1 hw1
        refine ⟨mkwf_1 t0 hpos h6' t5 (by rw [t6]; exact hp.2) ⟨m, hm, t1, cc, c1, c2, by rw [t3, ev], by rw [wtN_of t5 (by omega), ht.wt hm, q3]⟩, mkrel_1 t0 t0.symm (by rw [t5]; show v2 * (mk m).2.1 5 = _; rw [q1, ev, mul_nI]) (by rw [t6]; exact hp.1) ⟨by rw [t1]; rfl, by rw [t3]; rfl⟩⟩
      · refine r_noMaker_y e0 hn hm rfl ⟨fun _ => r_in_y c (Int32.not_lt.mpr d) ⟨fun z => absurd z (by decide), fun _ => ⟨hv, hv, ?_⟩⟩, fun z => absurd rfl z⟩
        rw [nI_clamp (by omega)]; exact h
  · exact k_at_n e4 hn hno ⟨rfl, fun _ => ⟨rfl, r_noMaker_n e0 hn hno ⟨fun z => absurd z (by decide), fun _ => ⟨rfl, fin⟩⟩⟩, fun i z => (nomatch z)⟩
theorem lt5 {x : Int32} (h0 : ¬ x < 0) (h1 : x < 5) : ∃ f : Nat, f < 5 ∧ x = nI f := by
  obtain ⟨j, hj, rfl⟩ := nI_of h0
  rw [show (5 : Int32) = nI 5 from rfl, nI_ltI hj (by omega)] at h1
  exact ⟨j, h1, rfl⟩
theorem le4_lt5 {x : Int32} : ¬ 4 < x ↔ x < 5 := by
  rw [Int32.not_lt, Int32.le_iff_toInt_le, Int32.lt_iff_toInt_lt, show (4 : Int32).toInt = 4 from by decide, show (5 : Int32).toInt = 5 from by decide]
  omega
set_option maxHeartbeats 2000000 in
theorem ok_mapped : OK_mapped Iv := by
  intro ck mk pr xs o v1 v2 hI
  obtain ⟨nm, nc, np, hT, hE, hS, hR⟩ := id hI
  have hn := hT.1.1
  have e0 := hT.2.1.1
  have e4 := hT.2.1.2
  have fin : Iv ck mk pr (ux (ux xs 0 (xs 0)) 4 (xs 4)) o := by rw [ux_self, ux_self]; exact hI
  rcases ix_cases v1 nm with ⟨m, hm, rfl⟩ | hno
  · have hv : vp_in (nI m) 30 := vp_in_nI (by omega) (by omega)
    refine k_at_y e4 hn hm rfl ⟨rfl, fun z => (nomatch z), fun i e => ?_⟩
    cases e
    have hlt := cl_nm e4 (by omega) hm
    have hp := pk_known hT hm
    obtain ⟨w, hw1, hw2, q1, q2, q3⟩ := wt_known hT hm
    refine ⟨fun c => ⟨rfl, r_noMaker_y e0 hn hm rfl ⟨fun _ => r_in_n (Or.inl c) ⟨fun _ => ⟨rfl, fin⟩, fun z => absurd rfl z⟩, fun z => absurd rfl z⟩⟩, fun c => ⟨fun d => ⟨hlt, hlt, ?_, ?_⟩, fun d => ⟨rfl, r_noMaker_y e0 hn hm rfl ⟨fun _ => r_in_n (Or.inr ?_) ⟨fun _ => ⟨rfl, fin⟩, fun z => absurd rfl z⟩, fun z => absurd rfl z⟩⟩⟩⟩
    · rw [hp.1]; exact hp.2
    · refine add_both (x1 := 4) (x2 := nI m) (x3 := -1) (x4 := v2) (x5 := 0) (x6 := o.2.2 6 m + 1) (x7 := o.2.2 7 m) hI hT hE hS hR hp.2 (by show (mk m).2.1 5 + 1 = _; rw [q1, q2]) (fun h6 tb ht t0 t1 t2 t3 t4 t5 t6 => ?_) (WM := w_X10_mapped (nI m) v2 o) (fun P h => ?_) (fun r mk2 k2 h => ⟨rfl, h⟩)
      · obtain ⟨f, hf, ev⟩ := lt5 c d
        rw [q2, nI_1] at h6 t5
        have h6' := (nI_le24 (by omega)).mp h6
        exact ⟨mkwf_4 t0 (by omega) h6' t5 (by rw [t6]; exact hp.2) ⟨m, f, hm, t1, hf, by rw [t3, ev], by rw [wtN_of t5 (by omega), ht.wt hm, q3]⟩, mkrel_4 t0 t0.symm (by rw [t5]; show (mk m).2.1 5 + 1 = _; rw [q1, nI_1]) (by rw [t6]; exact hp.1) ⟨by rw [t1]; rfl, by rw [t3]; rfl⟩⟩
      · refine r_noMaker_y e0 hn hm rfl ⟨fun _ => r_in_y c (le4_lt5.mpr d) ⟨fun z => absurd z (by decide), fun _ => ⟨hv, hv, ?_⟩⟩, fun z => absurd rfl z⟩
        rw [nI_clamp (by omega)]; exact h
    · exact Classical.byContradiction (fun z => d (le4_lt5.mp z))
  · exact k_at_n e4 hn hno ⟨rfl, fun _ => ⟨rfl, r_noMaker_n e0 hn hno ⟨fun z => absurd z (by decide), fun _ => ⟨rfl, fin⟩⟩⟩, fun i z => (nomatch z)⟩
set_option maxHeartbeats 2000000 in
theorem ok_below : OK_below Iv := by
  intro ck mk pr xs o v1 hI
  obtain ⟨nm, nc, np, hT, hE, hS, hR⟩ := id hI
  have hn := hT.1.1
  have e0 := hT.2.1.1
  have e4 := hT.2.1.2
  have fin : Iv ck mk pr (ux (ux xs 0 (xs 0)) 4 (xs 4)) o := by rw [ux_self, ux_self]; exact hI
  rcases ix_cases v1 nm with ⟨m, hm, rfl⟩ | hno
  · have hv : vp_in (nI m) 30 := vp_in_nI (by omega) (by omega)
    refine k_at_y e4 hn hm rfl ⟨rfl, fun z => (nomatch z), fun i e => ?_⟩
    cases e
    have hlt := cl_nm e4 (by omega) hm
    have hp := pk_known hT hm
    obtain ⟨w, hw1, hw2, q1, q2, q3⟩ := wt_known hT hm
    refine ⟨hlt, hlt, ?_, ?_⟩
    · rw [hp.1]; exact hp.2
    · refine add_both (x1 := 7) (x2 := nI m) (x3 := -1) (x4 := 0) (x5 := 0) (x6 := o.2.2 6 m + 1) (x7 := o.2.2 7 m) hI hT hE hS hR hp.2 (by show (mk m).2.1 5 + 1 = _; rw [q1, q2]) (fun h6 tb ht t0 t1 t2 t3 t4 t5 t6 => ?_) (WM := w_X10_below (nI m) o) (fun P h => ?_) (fun r mk2 k2 h => ⟨rfl, h⟩)
      · rw [q2, nI_1] at h6 t5
        have h6' := (nI_le24 (by omega)).mp h6
        exact ⟨mkwf_7 t0 (by omega) h6' t5 (by rw [t6]; exact hp.2) ⟨m, hm, t1, by rw [wtN_of t5 (by omega), ht.wt hm, q3]⟩, mkrel_7 t0 t0.symm (by rw [t5]; show (mk m).2.1 5 + 1 = _; rw [q1, nI_1]) (by rw [t6]; exact hp.1) (by rw [t1]; rfl)⟩
      · refine r_noMaker_y e0 hn hm rfl ⟨fun _ => ⟨hv, hv, ?_⟩, fun z => absurd rfl z⟩
        rw [nI_clamp (by omega)]; exact h
  · exact k_at_n e4 hn hno ⟨rfl, fun _ => ⟨rfl, r_noMaker_n e0 hn hno ⟨fun z => absurd z (by decide), fun _ => ⟨rfl, fin⟩⟩⟩, fun i z => (nomatch z)⟩
set_option maxHeartbeats 2000000 in
theorem ok_shuffled : OK_shuffled Iv := by
  intro ck mk pr xs o v1 hI
  obtain ⟨nm, nc, np, hT, hE, hS, hR⟩ := id hI
  have fin : Iv ck mk pr (ux (ux xs 0 (xs 0)) 4 (xs 4)) o := by rw [ux_self, ux_self]; exact hI
  refine ⟨fun c => ⟨rfl, r_in_n (Or.inl c) ⟨fun _ => ⟨rfl, fin⟩, fun z => absurd rfl z⟩⟩, fun c => ⟨fun d => ⟨Or.inl rfl, ?_⟩, fun d => ⟨rfl, r_in_n (Or.inr (Int32.not_le.mp d)) ⟨fun _ => ⟨rfl, fin⟩, fun z => absurd rfl z⟩⟩⟩⟩
  refine add_both (x1 := 6) (x2 := -1) (x3 := -1) (x4 := v1) (x5 := 0) (x6 := v1) (x7 := 0) hI hT hE hS hR (Or.inl rfl) rfl (fun h6 tb ht t0 t1 t2 t3 t4 t5 t6 => ?_) (WM := w_X10_shuffled v1 o) (fun P h => ?_) (fun r mk2 k2 h => ⟨rfl, h⟩)
  · obtain ⟨n, n1, n2, ev⟩ := le24 c d
    rw [ev] at t5
    exact ⟨mkwf_6 t0 n1 n2 t5 (Or.inl t6) ⟨n, n1, n2, by rw [t3, ev], wtN_of t5 (by omega)⟩, mkrel_6 t0 t0.symm (by rw [t5, ← ev]; rfl) (by rw [t6]; rfl) (by rw [t3]; rfl)⟩
  · exact r_in_y c (Int32.not_lt.mpr d) ⟨fun z => absurd z (by decide), fun _ => h⟩
theorem b01_cases {x : Int32} (h : x = 0 ∨ x = 1) : (x = 0 ∧ ¬ x = 1) ∨ (x = 1 ∧ ¬ x = 0) := by
  rcases h with rfl | rfl
  · exact Or.inl ⟨rfl, by decide⟩
  · exact Or.inr ⟨rfl, by decide⟩
set_option maxHeartbeats 4000000 in
theorem ok_pair : OK_pair Iv := by
  intro ck mk pr xs o v1 v2 hI
  obtain ⟨nm, nc, np, hT, hE, hS, hR⟩ := id hI
  have hn := hT.1.1
  have e0 := hT.2.1.1
  have e4 := hT.2.1.2
  have fin : Iv ck mk pr (ux (ux xs 0 (xs 0)) 4 (xs 4)) o := by rw [ux_self, ux_self]; exact hI
  rcases ix_cases v1 nm with ⟨m, hm, rfl⟩ | hno
  · have hv : vp_in (nI m) 30 := vp_in_nI (by omega) (by omega)
    refine k_at_y e4 hn hm rfl ⟨rfl, fun z => (nomatch z), fun i e => ?_⟩
    cases e
    have hlt := cl_nm e4 (by omega) hm
    have hp := pk_known hT hm
    obtain ⟨w, hw1, hw2, q1, q2, q3⟩ := wt_known hT hm
    rcases ix_cases v2 nm with ⟨m2, hm2, rfl⟩ | hno2
    · have hv2 : vp_in (nI m2) 30 := vp_in_nI (by omega) (by omega)
      refine k_at_y e4 hn hm2 rfl ⟨rfl, fun z => (nomatch z), fun i e => ?_⟩
      cases e
      have hlt2 := cl_nm e4 (by omega) hm2
      have hp2 := pk_known hT hm2
      obtain ⟨w2, hw12, hw22, q12, q22, q32⟩ := wt_known hT hm2
      have hfin : ∀ z : Int32, (z = 0 ∨ z = 1) → (∀ P, w_X10_added 2 (nI m) (nI m2) 0 0 (o.2.2 6 m + o.2.2 6 m2) z o P → w_X10_pair (nI m) (nI m2) o P) → w_X4_init 2 (nI m) (nI m2) 0 0 ((mk m).2.1 5 + (mk m2).2.1 5) z ob0 (fun nw => w_X5_add mk (xs 4) nw (fun r mk2 k2 => (xs 0).2.1 4 = (xs 0).2.1 4 ∧ w_X10_pair (nI m) (nI m2) o (fun r2 o2 => r = r2 ∧ Iv ck mk2 pr (ux (ux xs 0 (xs 0)) 4 k2) o2))) := by
        intro z hz hM
        refine ⟨hz, add_both (x1 := 2) (x2 := nI m) (x3 := nI m2) (x4 := 0) (x5 := 0) (x6 := o.2.2 6 m + o.2.2 6 m2) (x7 := z) hI hT hE hS hR hz (by show (mk m).2.1 5 + (mk m2).2.1 5 = _; rw [q1, q2, q12, q22]) (fun h6 tb ht t0 t1 t2 t3 t4 t5 t6 => ?_) (WM := w_X10_pair (nI m) (nI m2) o) hM (fun r mk2 k2 h => ⟨rfl, h⟩)⟩
        rw [q2, q22, nI_add] at h6 t5
        have h6' := (nI_le24 (by omega)).mp h6
        exact ⟨mkwf_2 t0 (by omega) h6' t5 (by rw [t6]; exact hz) ⟨m, m2, hm, hm2, t1, t2, by rw [wtN_of t5 (by omega), ht.wt hm, ht.wt hm2, q3, q32]⟩, mkrel_2 t0 t0.symm (by rw [t5]; show (mk m).2.1 5 + (mk m2).2.1 5 = _; rw [q1, q12, nI_add]) (by rw [t6]; rfl) ⟨by rw [t1]; rfl, by rw [t2]; rfl⟩⟩
      have hmod : ∀ z : Int32, ((¬ o.2.2 7 m = 0 ∨ ¬ o.2.2 7 m2 = 0) ∧ z = 1) ∨ (o.2.2 7 m = 0 ∧ o.2.2 7 m2 = 0 ∧ z = 0) → ∀ P, w_X10_added 2 (nI m) (nI m2) 0 0 (o.2.2 6 m + o.2.2 6 m2) z o P → w_X10_pair (nI m) (nI m2) o P := by
        intro z hz P h
        refine r_noMaker_y e0 hn hm rfl ⟨fun z => absurd rfl z, fun _ => r_noMaker_y e0 hn hm2 rfl ⟨fun _ => ⟨hv, hv2, hv, jn_mk (jn_mk ⟨fun c => ?_, fun c => ⟨hv2, fun d => ?_, fun d => ?_⟩⟩)⟩, fun z => absurd rfl z⟩⟩
        · rw [nI_clamp (by omega)] at c
          rcases hz with ⟨-, rfl⟩ | ⟨q, -⟩
          · rw [nI_clamp (by omega), nI_clamp (by omega)]; exact h
          · exact absurd q c
        · rw [nI_clamp (by omega)] at c d
          rcases hz with ⟨q | q, -⟩ | ⟨-, -, rfl⟩
          · exact absurd c q
          · exact absurd d q
          · rw [nI_clamp (by omega), nI_clamp (by omega)]; exact h
        · rw [nI_clamp (by omega)] at d
          rcases hz with ⟨-, rfl⟩ | ⟨-, q, -⟩
          · rw [nI_clamp (by omega), nI_clamp (by omega)]; exact h
          · exact absurd q d
      refine ⟨hlt, hlt2, hlt, jn_mk (jn_mk ⟨fun c => ?_, fun c => ⟨hlt2, fun d => ?_, fun d => ?_⟩⟩)⟩
      · exact hfin 1 (Or.inr rfl) (hmod 1 (Or.inl ⟨Or.inl (by rw [← hp.1]; exact c), rfl⟩))
      · exact hfin 0 (Or.inl rfl) (hmod 0 (Or.inr ⟨by rw [← hp.1]; exact c, by rw [← hp2.1]; exact d, rfl⟩))
      · exact hfin 1 (Or.inr rfl) (hmod 1 (Or.inl ⟨Or.inr (by rw [← hp2.1]; exact d), rfl⟩))
    · exact k_at_n e4 hn hno2 ⟨rfl, fun _ => ⟨rfl, r_noMaker_y e0 hn hm rfl ⟨fun z => absurd rfl z, fun _ => r_noMaker_n e0 hn hno2 ⟨fun z => absurd z (by decide), fun _ => ⟨rfl, fin⟩⟩⟩⟩, fun i z => (nomatch z)⟩
  · have hr : w_X10_pair v1 v2 o (fun r2 o2 => -1 = r2 ∧ Iv ck mk pr (ux (ux xs 0 (xs 0)) 4 (xs 4)) o2) := r_noMaker_n e0 hn hno ⟨fun _ => ⟨rfl, fin⟩, fun z => absurd z (by decide)⟩
    refine k_at_n e4 hn hno ⟨rfl, fun _ => k_at e4 hn (fun m hm e => ⟨rfl, fun z => (nomatch z), fun i z => ⟨rfl, hr⟩⟩) (fun _ => ⟨rfl, fun _ => ⟨rfl, hr⟩, fun i z => (nomatch z)⟩), fun i z => (nomatch z)⟩
