set_option maxHeartbeats 2000000 in
theorem ok_check : OK_check Iv := by
  intro ck mk pr xs o v1 v2 v3 hI
  obtain ⟨nm, nc, np, hT, hE, hS, hR⟩ := id hI
  have hnc := hT.1.2.1
  have f0 := hT.2.2.1.1
  have f1 := hT.2.2.1.2
  have fin : Iv ck mk pr (ux (ux xs 0 (xs 0)) 1 (xs 1)) o := by rw [ux2]; exact hI
  have bx : ¬ ChU v1 v2 v3 nc → ChX v1 v2 v3 → w_X10_check v1 v2 v3 o (fun r2 o2 => -2 = r2 ∧ Iv ck mk pr (ux (ux xs 0 (xs 0)) 1 (xs 1)) o2) := fun nu x => r_check2 f0 hnc (fun u => absurd u nu) (fun _ _ => ⟨rfl, fin⟩) (fun _ h => absurd x h) (fun _ h => absurd x h)
  have bu : ChU v1 v2 v3 nc → w_X10_check v1 v2 v3 o (fun r2 o2 => -1 = r2 ∧ Iv ck mk pr (ux (ux xs 0 (xs 0)) 1 (xs 1)) o2) := fun u => r_check2 f0 hnc (fun _ => ⟨rfl, fin⟩) (fun nu => absurd u nu) (fun nu => absurd u nu) (fun nu => absurd u nu)
  have fin1 : ¬ ChX v1 v2 v3 → ((v1 = 8 ∨ v1 = 9 ∨ v1 = 10) → ∃ a : Nat, a < nc ∧ v2 = nI a) → ((v1 = 8 ∨ v1 = 9) → ∃ b : Nat, b < nc ∧ v3 = nI b) → (v1 = 11 → (∃ a : Nat, a < 3 ∧ v2 = nI a) ∧ ∃ b : Nat, b < 4 ∧ v3 = nI b) → w_X1_add ck (xs 1) (ob0.1, (upd (upd (upd ob0.2.1 0 v1) 1 v2) 2 v3), ob0.2.2) (fun r22 ck_23 j_24 => (xs 0).2.1 4 = (xs 0).2.1 4 ∧ w_X10_check v1 v2 v3 o (fun r2 o2 => r22 = r2 ∧ Iv ck_23 mk pr (ux (ux xs 0 (xs 0)) 1 j_24) o2)) := by
    intro nX h1 h2 h3
    have nU : ¬ ChU v1 v2 v3 nc := by
      rintro (⟨q, h⟩ | ⟨q, h⟩)
      · obtain ⟨a, ha, e⟩ := h1 q
        exact h a ha e
      · obtain ⟨a, ha, e⟩ := h2 q
        exact h a ha e
    have wf : CkWF (ob0.1, (upd (upd (upd ob0.2.1 0 v1) 1 v2) 2 v3), ob0.2.2) nc := by
      obtain ⟨k, hk, ek⟩ := lt0_or (x := v1) (n := 12) (by omega) (fun z => nX (Or.inl (Or.inl z))) (fun z => nX (Or.inl (Or.inr (Int32.lt_of_lt_of_le (by decide) z))))
      exact ⟨⟨k, hk, ek⟩, fun q => ⟨h1 (Or.elim q Or.inl (fun y => Or.inr (Or.inl y))), h2 q⟩, fun q => h1 (Or.inr (Or.inr q)), fun q => h3 q⟩
    refine k_addC f1 hnc (fun e => ⟨rfl, r_check2 f0 hnc (fun u => absurd u nU) (fun _ x => absurd x nX) (fun _ _ _ => ⟨rfl, fin⟩) (fun _ _ h => absurd e (by omega))⟩) (fun hlt => ⟨rfl, r_check2 f0 hnc (fun u => absurd u nU) (fun _ x => absurd x nX) (fun _ _ e => absurd e (by omega)) (fun _ _ _ => ⟨rfl, ?_⟩)⟩)
    rw [ux_self]
    exact Iv_addC hT hE hS hR hlt wf rfl rfl rfl
  have n0 : (v1 < 0 ∨ 11 < v1) → ¬ ChU v1 v2 v3 nc := by
    intro h z
    have : v1 = 8 ∨ v1 = 9 ∨ v1 = 10 := by
      rcases z with ⟨z, -⟩ | ⟨z, -⟩
      · exact z
      · exact z.elim Or.inl (fun y => Or.inr (Or.inl y))
    rcases this with rfl | rfl | rfl <;> exact absurd h (by decide)
  have n11 : v1 = 11 → ¬ ChU v1 v2 v3 nc := by
    intro h z
    subst h
    rcases z with ⟨z, -⟩ | ⟨z, -⟩ <;> exact absurd z (by decide)
  refine ⟨fun c => ⟨rfl, bx (n0 (Or.inl c)) (Or.inl (Or.inl c))⟩, fun c => ⟨fun d => ⟨rfl, bx (n0 (Or.inr d)) (Or.inl (Or.inr d))⟩, fun d => ?_⟩⟩
  by_cases e : v1 = 11
  · refine jn_mk ⟨fun z => absurd e z, fun _ => k_isM (fun h1 h2 => ⟨fun _ => ?_, fun z => absurd z (by decide)⟩) (fun h => ⟨fun z => absurd rfl z, fun _ => ⟨rfl, bx (n11 e) (Or.inr ⟨e, h⟩)⟩⟩)⟩
    · have hm : v1 = 11 → (∃ a : Nat, a < 3 ∧ v2 = nI a) ∧ ∃ b : Nat, b < 4 ∧ v3 = nI b := fun _ => ⟨h1, h2⟩
      have nX : ¬ ChX v1 v2 v3 := by
        obtain ⟨a, ha, ea⟩ := h1
        obtain ⟨b, hb, eb⟩ := h2
        rintro ((z | z) | ⟨-, (z | z) | ⟨-, -, z | z⟩⟩)
        · exact c z
        · exact d z
        · rw [ea] at z; exact nI_pos (by omega) z
        · rw [ea, show (2 : Int32) = nI 2 from rfl, nI_ltI (by omega) (by omega)] at z; omega
        · rw [eb] at z; exact nI_pos (by omega) z
        · rw [eb, show (3 : Int32) = nI 3 from rfl, nI_ltI (by omega) (by omega)] at z; omega
      unfold w_X0_init
      show w_X0_asksFirst _ _
      refine kf (x1 := v1) rfl (fun q => jn_mk ⟨fun z => absurd z (by decide), fun _ => ?_⟩) (fun q => jn_mk ⟨fun _ => ?_, fun z => absurd rfl z⟩)
      · rcases ix_cases v2 nc with ⟨a, ha, ea⟩ | ha
        · refine k_knows_y f1 hnc ha ea ⟨rfl, fun z => absurd z (by decide), fun _ => ?_⟩
          refine ks (x1 := v1) rfl (fun q2 => jn_mk ⟨fun z => absurd z (by decide), fun _ => ?_⟩) (fun q2 => jn_mk ⟨fun _ => ?_, fun z => absurd rfl z⟩)
          · rcases ix_cases v3 nc with ⟨b, hb, eb⟩ | hb
            · exact k_knows_y f1 hnc hb eb ⟨rfl, fun _ => fin1 nX (fun _ => ⟨a, ha, ea⟩) (fun _ => ⟨b, hb, eb⟩) hm, fun z => absurd z (by decide)⟩
            · exact k_knows_n f1 hnc hb ⟨rfl, fun z => absurd rfl z, fun _ => ⟨rfl, bu (Or.inr ⟨q2, hb⟩)⟩⟩
          · exact fin1 nX (fun _ => ⟨a, ha, ea⟩) (fun z => absurd z q2) hm
        · exact k_knows_n f1 hnc ha ⟨rfl, fun _ => ⟨rfl, bu (Or.inl ⟨q, ha⟩)⟩, fun z => absurd rfl z⟩
      · have q2 : ¬ (v1 = 8 ∨ v1 = 9) := fun z => q (z.elim Or.inl (fun y => Or.inr (Or.inl y)))
        refine ks (x1 := v1) rfl (fun z => absurd z q2) (fun _ => jn_mk ⟨fun _ => ?_, fun z => absurd rfl z⟩)
        exact fin1 nX (fun z => absurd z q) (fun z => absurd z q2) hm
  · refine jn_mk ⟨fun _ => ?_, fun z => absurd z e⟩
    · have hm : v1 = 11 → (∃ a : Nat, a < 3 ∧ v2 = nI a) ∧ ∃ b : Nat, b < 4 ∧ v3 = nI b := fun z => absurd z e
      have nX : ¬ ChX v1 v2 v3 := by
        rintro ((z | z) | ⟨z, -⟩)
        · exact c z
        · exact d z
        · exact e z
      unfold w_X0_init
      show w_X0_asksFirst _ _
      refine kf (x1 := v1) rfl (fun q => jn_mk ⟨fun z => absurd z (by decide), fun _ => ?_⟩) (fun q => jn_mk ⟨fun _ => ?_, fun z => absurd rfl z⟩)
      · rcases ix_cases v2 nc with ⟨a, ha, ea⟩ | ha
        · refine k_knows_y f1 hnc ha ea ⟨rfl, fun z => absurd z (by decide), fun _ => ?_⟩
          refine ks (x1 := v1) rfl (fun q2 => jn_mk ⟨fun z => absurd z (by decide), fun _ => ?_⟩) (fun q2 => jn_mk ⟨fun _ => ?_, fun z => absurd rfl z⟩)
          · rcases ix_cases v3 nc with ⟨b, hb, eb⟩ | hb
            · exact k_knows_y f1 hnc hb eb ⟨rfl, fun _ => fin1 nX (fun _ => ⟨a, ha, ea⟩) (fun _ => ⟨b, hb, eb⟩) hm, fun z => absurd z (by decide)⟩
            · exact k_knows_n f1 hnc hb ⟨rfl, fun z => absurd rfl z, fun _ => ⟨rfl, bu (Or.inr ⟨q2, hb⟩)⟩⟩
          · exact fin1 nX (fun _ => ⟨a, ha, ea⟩) (fun z => absurd z q2) hm
        · exact k_knows_n f1 hnc ha ⟨rfl, fun _ => ⟨rfl, bu (Or.inl ⟨q, ha⟩)⟩, fun z => absurd rfl z⟩
      · have q2 : ¬ (v1 = 8 ∨ v1 = 9) := fun z => q (z.elim Or.inl (fun y => Or.inr (Or.inl y)))
        refine ks (x1 := v1) rfl (fun z => absurd z q2) (fun _ => jn_mk ⟨fun _ => ?_, fun z => absurd rfl z⟩)
        exact fin1 nX (fun z => absurd z q) (fun z => absurd z q2) hm
