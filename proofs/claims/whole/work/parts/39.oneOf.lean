theorem le100 {x : Int32} (h0 : ¬ x < 1) (h1 : ¬ 100 < x) : ∃ c : Nat, 1 ≤ c ∧ c ≤ 100 ∧ x = nI c := by
  have hp : ¬ x < 0 := fun z => h0 (Int32.lt_of_lt_of_le z (show (0 : Int32) ≤ 1 from by decide))
  obtain ⟨j, hj, rfl⟩ := nI_of hp
  rw [show (100 : Int32) = nI 100 from rfl, nI_ltI (by omega) hj] at h1
  rw [show (1 : Int32) = nI 1 from rfl, nI_ltI hj (by omega)] at h0
  exact ⟨j, by omega, by omega, rfl⟩
theorem k_max {w w2 : Nat} (h : w < 1000) (h2 : w2 < 1000) {P : Int32 → Prop} (hP : P (nI (max w w2))) : w_J9_max_7cf53 (nI w) (nI w2) P := by
  refine ⟨fun c => ?_, fun c => ?_⟩
  · rw [nI_ltI (by omega) (by omega)] at c
    rw [show max w w2 = w2 by omega] at hP; exact hP
  · rw [nI_ltI (by omega) (by omega)] at c
    rw [show max w w2 = w by omega] at hP; exact hP
set_option maxHeartbeats 4000000 in
theorem ok_oneOf : OK_oneOf Iv := by
  intro ck mk pr xs o v1 v2 v3 v4 hI
  obtain ⟨nm, nc, np, hT, hE, hS, hR⟩ := id hI
  have hn := hT.1.1
  have e0 := hT.2.1.1
  have e4 := hT.2.1.2
  have fin : Iv ck mk pr (ux (ux xs 0 (xs 0)) 4 (xs 4)) o := by rw [ux_self, ux_self]; exact hI
  rcases ix_cases v1 nm with ⟨m, hm, rfl⟩ | hno
  · have hv : vp_in (nI m) 30 := vp_in_nI (by omega) (by omega)
    refine k_at_y e4 hn hm rfl ⟨rfl, fun z => (nomatch z), fun i e => ?_⟩
    cases e
    have hlt := cl_nm e4 (by omega) hm
    have hp := pk_known hT hm
    obtain ⟨w, hw1, hw2, q1, q2, q3⟩ := wt_known hT hm
    rcases ix_cases v3 nm with ⟨m2, hm2, rfl⟩ | hno2
    · have hv2 : vp_in (nI m2) 30 := vp_in_nI (by omega) (by omega)
      refine k_at_y e4 hn hm2 rfl ⟨rfl, fun z => (nomatch z), fun i e => ?_⟩
      cases e
      have hlt2 := cl_nm e4 (by omega) hm2
      have hp2 := pk_known hT hm2
      obtain ⟨w2, hw12, hw22, q12, q22, q32⟩ := wt_known hT hm2
      have bad2 : v2 < 1 ∨ 100 < v2 → w_X10_oneOf (nI m) v2 (nI m2) v4 o (fun r2 o2 => -2 = r2 ∧ Iv ck mk pr (ux (ux xs 0 (xs 0)) 4 (xs 4)) o2) := fun q => r_noMaker_y e0 hn hm rfl ⟨fun z => absurd rfl z, fun _ => r_noMaker_y e0 hn hm2 rfl ⟨fun _ => r_in_n q ⟨fun _ => ⟨rfl, fin⟩, fun z => absurd rfl z⟩, fun z => absurd rfl z⟩⟩
      refine ⟨fun c => ⟨rfl, bad2 (Or.inl c)⟩, fun c => ⟨fun d => ⟨rfl, bad2 (Or.inr d)⟩, fun d => ?_⟩⟩
      have bad4 : v4 < 1 ∨ 100 < v4 → w_X10_oneOf (nI m) v2 (nI m2) v4 o (fun r2 o2 => -2 = r2 ∧ Iv ck mk pr (ux (ux xs 0 (xs 0)) 4 (xs 4)) o2) := fun q => r_noMaker_y e0 hn hm rfl ⟨fun z => absurd rfl z, fun _ => r_noMaker_y e0 hn hm2 rfl ⟨fun _ => r_in_y c d ⟨fun z => absurd z (by decide), fun _ => r_in_n q ⟨fun z => absurd rfl z, fun _ => ⟨rfl, fin⟩⟩⟩, fun z => absurd rfl z⟩⟩
      refine ⟨fun c4 => ⟨rfl, bad4 (Or.inl c4)⟩, fun c4 => ⟨fun d4 => ⟨hlt, hlt2, ?_⟩, fun d4 => ⟨rfl, bad4 (Or.inr (Int32.not_le.mp d4))⟩⟩⟩
      have d4' := Int32.not_lt.mpr d4
      obtain ⟨p, p1, p2, rfl⟩ := le100 c d
      obtain ⟨q, g1, g2, rfl⟩ := le100 c4 d4'
      rw [q1, q12]
      refine k_max (by omega) (by omega) ?_
      have hfin : ∀ z : Int32, (z = 0 ∨ z = 1) → (∀ P, w_X10_added 3 (nI m) (nI m2) (nI p) (nI q) (nI (max w w2)) z o P → w_X10_oneOf (nI m) (nI p) (nI m2) (nI q) o P) → w_X4_init 3 (nI m) (nI m2) (nI p) (nI q) (nI (max w w2)) z ob0 (fun nw => w_X5_add mk (xs 4) nw (fun r mk2 k2 => (xs 0).2.1 4 = (xs 0).2.1 4 ∧ w_X10_oneOf (nI m) (nI p) (nI m2) (nI q) o (fun r2 o2 => r = r2 ∧ Iv ck mk2 pr (ux (ux xs 0 (xs 0)) 4 k2) o2))) := by
        intro z hz hM
        refine ⟨hz, add_both (x1 := 3) (x2 := nI m) (x3 := nI m2) (x4 := nI p) (x5 := nI q) (x6 := nI (max w w2)) (x7 := z) hI hT hE hS hR hz rfl (fun h6 tb ht t0 t1 t2 t3 t4 t5 t6 => ?_) (WM := w_X10_oneOf (nI m) (nI p) (nI m2) (nI q) o) hM (fun r mk2 k2 h => ⟨rfl, h⟩)⟩
        exact ⟨mkwf_3 t0 (by omega) (by omega) t5 (by rw [t6]; exact hz) ⟨m, m2, p, q, hm, hm2, t1, t2, p1, p2, g1, g2, t3, t4, by rw [wtN_of t5 (by omega), ht.wt hm, q3]; omega, by rw [wtN_of t5 (by omega), ht.wt hm2, q32]; omega⟩, mkrel_3 t0 t0.symm (by rw [t5]; rfl) (by rw [t6]; rfl) ⟨by rw [t1]; rfl, by rw [t2]; rfl, by rw [t3]; rfl, by rw [t4]; rfl⟩⟩
      have hmod : ∀ z : Int32, ((¬ o.2.2 7 m = 0 ∨ ¬ o.2.2 7 m2 = 0) ∧ z = 1) ∨ (o.2.2 7 m = 0 ∧ o.2.2 7 m2 = 0 ∧ z = 0) → ∀ P, w_X10_added 3 (nI m) (nI m2) (nI p) (nI q) (nI (max w w2)) z o P → w_X10_oneOf (nI m) (nI p) (nI m2) (nI q) o P := by
        intro z hz P h
        have last : ∀ y : Int32, y = nI (max w w2) → vp_in (nI m) 30 ∧ (jn (fun J102 : Int32 → Ob → Prop => jn (fun J97 : Ob → Prop => ((¬ ((o.2.2 7) (nI m).toNatClampNeg) = 0) → J97 o) ∧ ((((o.2.2 7) (nI m).toNatClampNeg) = 0) → vp_in (nI m2) 30 ∧ (((((o.2.2 7) (nI m2).toNatClampNeg) = 0) → J102 0 o) ∧ (¬ (((o.2.2 7) (nI m2).toNatClampNeg) = 0) → J97 o)))) (fun (o_97 : Ob) => J102 1 o_97)) (fun (z_102 : Int32) (o_102 : Ob) => w_X10_added (3 : Int32) (nI m) (nI m2) (nI p) (nI q) y z_102 o_102 (fun (r20 : Int32) (o_21 : Ob) => P r20 o_21))) := by
          intro y hy
          subst hy
          rw [nI_clamp (show m < 2 ^ 31 by omega), nI_clamp (show m2 < 2 ^ 31 by omega)]
          refine ⟨hv, jn_mk (jn_mk ⟨fun c => ?_, fun c => ⟨hv2, fun d => ?_, fun d => ?_⟩⟩)⟩
          · rcases hz with ⟨-, rfl⟩ | ⟨q, -⟩
            · exact h
            · exact absurd q c
          · rcases hz with ⟨q | q, -⟩ | ⟨-, -, rfl⟩
            · exact absurd c q
            · exact absurd d q
            · exact h
          · rcases hz with ⟨-, rfl⟩ | ⟨-, q, -⟩
            · exact h
            · exact absurd q d
        refine r_noMaker_y e0 hn hm rfl ⟨fun z => absurd rfl z, fun _ => r_noMaker_y e0 hn hm2 rfl ⟨fun _ => r_in_y c d ⟨fun z => absurd z (by decide), fun _ => r_in_y c4 d4' ⟨fun _ => ⟨hv, hv2, jn_mk ⟨fun c => ⟨hv2, last _ ?_⟩, fun c => ⟨hv, last _ ?_⟩⟩⟩, fun z => absurd z (by decide)⟩⟩, fun z => absurd rfl z⟩⟩
        · rw [nI_clamp (by omega), nI_clamp (by omega), q2, q22, nI_leI (by omega) (by omega)] at c
          rw [nI_clamp (by omega), q22]; congr 1; omega
        · rw [nI_clamp (by omega), nI_clamp (by omega), q2, q22, nI_leI (by omega) (by omega)] at c
          rw [nI_clamp (by omega), q2]; congr 1; omega
      refine ⟨hlt, jn_mk (jn_mk ⟨fun c => ?_, fun c => ⟨hlt2, fun d => ?_, fun d => ?_⟩⟩)⟩
      · exact hfin 1 (Or.inr rfl) (hmod 1 (Or.inl ⟨Or.inl (by rw [← hp.1]; exact c), rfl⟩))
      · exact hfin 0 (Or.inl rfl) (hmod 0 (Or.inr ⟨by rw [← hp.1]; exact c, by rw [← hp2.1]; exact d, rfl⟩))
      · exact hfin 1 (Or.inr rfl) (hmod 1 (Or.inl ⟨Or.inr (by rw [← hp2.1]; exact d), rfl⟩))
    · exact k_at_n e4 hn hno2 ⟨rfl, fun _ => ⟨rfl, r_noMaker_y e0 hn hm rfl ⟨fun z => absurd rfl z, fun _ => r_noMaker_n e0 hn hno2 ⟨fun z => absurd z (by decide), fun _ => ⟨rfl, fin⟩⟩⟩⟩, fun i z => (nomatch z)⟩
  · have hr : w_X10_oneOf v1 v2 v3 v4 o (fun r2 o2 => -1 = r2 ∧ Iv ck mk pr (ux (ux xs 0 (xs 0)) 4 (xs 4)) o2) := r_noMaker_n e0 hn hno ⟨fun _ => ⟨rfl, fin⟩, fun z => absurd z (by decide)⟩
    refine k_at_n e4 hn hno ⟨rfl, fun _ => k_at e4 hn (fun m hm e => ⟨rfl, fun z => (nomatch z), fun i z => ⟨rfl, hr⟩⟩) (fun _ => ⟨rfl, fun _ => ⟨rfl, hr⟩, fun i z => (nomatch z)⟩), fun i z => (nomatch z)⟩
