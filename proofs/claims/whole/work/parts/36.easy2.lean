/-! DRAW, RAN, START -/
theorem lt8_cases {x : Int32} (h0 : ¬ x < 0) (h1 : x < 8) : ∃ c : Nat, c < 8 ∧ x = nI c := by
  obtain ⟨j, hj, rfl⟩ := nI_of h0
  rw [show (8 : Int32) = nI 8 from rfl, nI_ltI hj (by omega)] at h1
  exact ⟨j, h1, rfl⟩
set_option maxHeartbeats 2000000 in
theorem ok_ran : OK_ran Iv := by
  intro ck mk pr xs o v1 hI
  obtain ⟨nm, nc, np, hT, hE, hS, hR⟩ := id hI
  have fin : Iv ck mk pr (ux xs 0 (xs 0)) o := by rw [ux_self]; exact hI
  refine ⟨fun c => ⟨rfl, r_in_n (Or.inl c) ⟨fun z => absurd rfl z, fun _ => ⟨rfl, fin⟩⟩⟩, fun c => ⟨fun d => ?_, fun d => ⟨rfl, r_in_n (Or.inr ?_) ⟨fun z => absurd rfl z, fun _ => ⟨rfl, fin⟩⟩⟩⟩⟩
  · obtain ⟨n, hn, rfl⟩ := lt8_cases c d
    have hin : ¬ (7 : Int32) < nI n := by rw [show (7 : Int32) = nI 7 from rfl, nI_ltI (by omega) (by omega)]; omega
    rcases hR with ⟨r1, r2, -⟩ | ⟨r1, ⟨k, hk, g1, g2⟩, g3, g4, g5, g6, g7, -⟩
    · refine ⟨fun _ => ⟨rfl, r_in_y c hin ⟨fun _ => ⟨fun z => absurd z (by rw [r2]; decide), fun _ => ⟨rfl, fin⟩⟩, fun z => absurd z (by decide)⟩⟩, fun z => absurd r1 z⟩
    · refine ⟨fun z => absurd (r1.symm.trans z) (by decide), fun _ => ⟨vp_in_nI hn (by omega), rfl, r_in_y c hin ⟨fun _ => ⟨fun _ => ?_, fun z => absurd (by rw [g1]; exact nI_pos' (by omega)) z⟩, fun z => absurd z (by decide)⟩⟩⟩
      rw [nI_clamp (by omega)]
      rcases (show n = 0 ∨ n = 1 ∨ n = 2 ∨ n = 3 ∨ n = 4 ∨ n = 5 ∨ n = 6 ∨ n = 7 by omega) with rfl | rfl | rfl | rfl | rfl | rfl | rfl | rfl
      · exact ⟨fun _ => ⟨g2.trans g1.symm, fin⟩, fun z => absurd z (by decide), fun z => absurd z (by decide), fun z => absurd z (by decide), fun z => absurd z (by decide), fun z => absurd rfl z.1⟩
      · exact ⟨fun z => absurd z (by decide), fun _ => ⟨g3.symm, fin⟩, fun z => absurd z (by decide), fun z => absurd z (by decide), fun z => absurd z (by decide), fun z => absurd rfl z.2.1⟩
      · exact ⟨fun z => absurd z (by decide), fun z => absurd z (by decide), fun _ => ⟨g4.symm, fin⟩, fun z => absurd z (by decide), fun z => absurd z (by decide), fun z => absurd rfl z.2.2.1⟩
      · exact ⟨fun z => absurd z (by decide), fun z => absurd z (by decide), fun z => absurd z (by decide), fun _ => ⟨g5.symm, fin⟩, fun z => absurd z (by decide), fun z => absurd rfl z.2.2.2.1⟩
      · exact ⟨fun z => absurd z (by decide), fun z => absurd z (by decide), fun z => absurd z (by decide), fun z => absurd z (by decide), fun _ => ⟨g6.symm, fin⟩, fun z => absurd rfl z.2.2.2.2⟩
      · exact ⟨fun z => absurd z (by decide), fun z => absurd z (by decide), fun z => absurd z (by decide), fun z => absurd z (by decide), fun z => absurd z (by decide), fun _ => by rw [show nI 5 - 5 = nI 0 from by decide]; exact ⟨vp_in_nI (by omega) (by omega), by rw [nI_clamp (by omega)]; exact (g7 0 (by omega)).symm, fin⟩⟩
      · exact ⟨fun z => absurd z (by decide), fun z => absurd z (by decide), fun z => absurd z (by decide), fun z => absurd z (by decide), fun z => absurd z (by decide), fun _ => by rw [show nI 6 - 5 = nI 1 from by decide]; exact ⟨vp_in_nI (by omega) (by omega), by rw [nI_clamp (by omega)]; exact (g7 1 (by omega)).symm, fin⟩⟩
      · exact ⟨fun z => absurd z (by decide), fun z => absurd z (by decide), fun z => absurd z (by decide), fun z => absurd z (by decide), fun z => absurd z (by decide), fun _ => by rw [show nI 7 - 5 = nI 2 from by decide]; exact ⟨vp_in_nI (by omega) (by omega), by rw [nI_clamp (by omega)]; exact (g7 2 (by omega)).symm, fin⟩⟩
  · rw [Int32.lt_iff_toInt_lt, show (8 : Int32).toInt = 8 from by decide] at d
    rw [Int32.lt_iff_toInt_lt, show (7 : Int32).toInt = 7 from by decide]
    omega
theorem iv_start : Iv (fun _ => ob0) (fun _ => ob0) (fun _ => ob0) xs0 mOb0 := by
  refine ⟨0, 0, 0, ⟨⟨by omega, by omega, by omega⟩, ⟨rfl, rfl⟩, ⟨rfl, rfl⟩, ⟨rfl, rfl⟩, fun m hm => absurd hm (Nat.not_lt_zero m), fun m hm => absurd hm (Nat.not_lt_zero m), fun m hm => absurd hm (Nat.not_lt_zero m)⟩, ⟨1500, by omega, rfl, rfl, by decide⟩, Or.inl ⟨rfl, rfl⟩, Or.inl ⟨rfl, rfl, rfl⟩⟩
