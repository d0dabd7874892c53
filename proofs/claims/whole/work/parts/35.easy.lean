/-! THE REST OF THE EASY ONES -/
theorem ux_id {xs : Nat → Ob} {i : Nat} {b : Ob} (h : xs i = b) : ux xs i b = xs := by subst h; exact ux_self
set_option maxHeartbeats 2000000 in
theorem ok_picked : OK_picked Iv := by
  intro ck mk pr xs o v1 v2 hI
  obtain ⟨nm, nc, np, hT, hE, hS, hR⟩ := id hI
  have hn := hT.1.1
  have hnc := hT.1.2.1
  have e0 := hT.2.1.1
  have e4 := hT.2.1.2
  have f0 := hT.2.2.1.1
  have f1 := hT.2.2.1.2
  have u3 : ∀ k2 : Ob, ux (ux (ux xs 0 (xs 0)) 4 k2) 1 (xs 1) = ux (ux xs 0 (xs 0)) 4 k2 := fun k2 => ux_id (by rw [ux_n (by decide), ux_self])
  have fin : Iv ck mk pr (ux (ux (ux xs 0 (xs 0)) 4 (xs 4)) 1 (xs 1)) o := by rw [u3, ux_self, ux_self]; exact hI
  rcases ix_cases v1 nm with ⟨m, hm, rfl⟩ | hno
  · have hv : vp_in (nI m) 30 := vp_in_nI (by omega) (by omega)
    refine k_at_y e4 hn hm rfl ⟨rfl, fun z => (nomatch z), fun i e => ?_⟩
    cases e
    have hlt := cl_nm e4 (by omega) hm
    have hp := pk_known hT hm
    obtain ⟨w, hw1, hw2, q1, q2, q3⟩ := wt_known hT hm
    rcases ix_cases v2 nc with ⟨c, hc, rfl⟩ | hnk
    · refine k_knows_y f1 hnc hc rfl ⟨fun _ => ⟨hlt, fun d => ⟨hlt, ?_⟩, fun d => ⟨rfl, rfl, ?_⟩⟩, fun z => absurd z (by decide)⟩
      · rw [hp.1] at d
        refine ⟨Or.inr rfl, add_both (x1 := 5) (x2 := nI m) (x3 := nI c) (x4 := 0) (x5 := 0) (x6 := o.2.2 6 m + 1) (x7 := 1) hI hT hE hS hR (Or.inr rfl) (by show (mk m).2.1 5 + 1 = _; rw [q1, q2]) (fun h6 tb ht t0 t1 t2 t3 t4 t5 t6 => ?_) (WM := w_X10_picked (nI m) (nI c) o) (fun P h => ?_) (fun r mk2 k2 h => ⟨rfl, rfl, by rw [u3]; exact h⟩)⟩
        · rw [q2, nI_1] at h6 t5
          have h6' := (nI_le24 (by omega)).mp h6
          exact ⟨mkwf_5 t0 (by omega) h6' t5 (Or.inr t6) ⟨m, c, hm, t1, hc, t2, by rw [wtN_of t5 (by omega), ht.wt hm, q3]⟩, mkrel_5 t0 t0.symm (by rw [t5]; show (mk m).2.1 5 + 1 = _; rw [q1, nI_1]) (by rw [t6]; rfl) ⟨by rw [t1]; rfl, by rw [t2]; rfl⟩⟩
        · refine r_noMaker_y e0 hn hm rfl ⟨fun z => absurd rfl z, fun _ => r_noCheck_y f0 hnc hc rfl ⟨fun _ => ⟨hv, fun _ => ⟨hv, ?_⟩, fun z => absurd (by rw [nI_clamp (by omega)]; exact d) z⟩, fun z => absurd rfl z⟩⟩
          rw [nI_clamp (by omega)]; exact h
      · rw [hp.1] at d
        exact r_noMaker_y e0 hn hm rfl ⟨fun z => absurd rfl z, fun _ => r_noCheck_y f0 hnc hc rfl ⟨fun _ => ⟨hv, fun z => absurd (by rw [nI_clamp (by omega)] at z; exact z) d, fun _ => ⟨rfl, fin⟩⟩, fun z => absurd rfl z⟩⟩
    · exact k_knows_n f1 hnc hnk ⟨fun z => absurd rfl z, fun _ => ⟨rfl, rfl, r_noMaker_y e0 hn hm rfl ⟨fun z => absurd rfl z, fun _ => r_noCheck_n f0 hnc hnk ⟨fun z => absurd z (by decide), fun _ => ⟨rfl, fin⟩⟩⟩⟩⟩
  · exact k_at_n e4 hn hno ⟨rfl, fun _ => ⟨rfl, rfl, r_noMaker_n e0 hn hno ⟨fun _ => ⟨rfl, fin⟩, fun z => absurd z (by decide)⟩⟩, fun i z => (nomatch z)⟩
