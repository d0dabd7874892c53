/-! CALLS OF THE SHOWN CASE: holds, script, told -/
theorem TreeC.keep {b b2 : Ob} {C : List CN} {S A : List Nat} (h : TreeC b C) (f : Fm S A b b2) (h6 : 6 ∉ S) (hA : ∀ k, k < 5 → k ∉ A) : TreeC b2 C := by
  obtain ⟨h1, h2, h3⟩ := h
  refine ⟨(f.2.1 6 h6).trans h1, h2, fun p c hc => ?_⟩
  rw [f.2.2 0 (hA 0 (by omega)), f.2.2 1 (hA 1 (by omega)), f.2.2 2 (hA 2 (by omega)), f.2.2 3 (hA 3 (by omega)), f.2.2 4 (hA 4 (by omega))]
  exact h3 p c hc
theorem Iv_keep {ck mk pr xs xs2 : Nat → Ob} {o o2 : Ob} {S A : List Nat} (h : Iv ck mk pr xs o) (f : Fm S A o o2) (hS : ∀ k ∈ [0, 21, 45, 34, 50, 51, 52, 53, 54, 55], k ∉ S) (hA : ∀ k ∈ [1, 2, 3, 4, 5, 6, 7, 8, 9, 10, 22, 23, 24, 46, 47, 48, 49, 56], k ∉ A)
    (e0 : (xs2 0).2 = (xs 0).2) (e1 : (xs2 1).2.1 = (xs 1).2.1) (e4 : (xs2 4).2.1 1 = (xs 4).2.1 1) (e5 : (xs2 5).2.1 6 = (xs 5).2.1 6) (e11 : ∀ C, TreeC (xs 11) C → TreeC (xs2 11) C) (e12 : ∀ ls, LvC (xs 12) ls → LvC (xs2 12) ls) (e13 : ∀ C, TreeC (xs 13) C → TreeC (xs2 13) C) (e14 : ∀ C, TreeC (xs 14) C → TreeC (xs2 14) C) : Iv ck mk pr xs2 o2 := by
  obtain ⟨nm, nc, np, hT, hE, hS', hR⟩ := h
  have ii : ∀ k ∈ [0, 21, 45, 34, 50, 51, 52, 53, 54, 55], o2.2.1 k = o.2.1 k := fun k hk => f.2.1 k (hS k hk)
  have aa : ∀ k ∈ [1, 2, 3, 4, 5, 6, 7, 8, 9, 10, 22, 23, 24, 46, 47, 48, 49, 56], o2.2.2 k = o.2.2 k := fun k hk => f.2.2 k (hA k hk)
  have et : tbO o2 = tbO o := tbO_keep (fun k hk => aa k (by
    simp only [List.mem_cons, List.not_mem_nil, or_false] at hk ⊢; omega))
  have rk : ∀ t, RK t o o2 := fun t => ⟨by rw [aa 8 (by decide)], fun i _ => ⟨by rw [aa 9 (by decide)], by rw [aa 10 (by decide)]⟩⟩
  have hte : TbEq nm (tbO o) (tbO o2) := by rw [et]; exact TbEq.rf
  have hw : ∀ m, m < nm → MkWF (tbO o) nc m := fun m hm => (hT.2.2.2.2.1 m hm).1
  have hn1 := hT.1.1
  refine ⟨nm, nc, np, hT.keep (fun k hk => ii k ?_) (fun k hk => aa k ?_) (by rw [e0]) (by rw [e1]) e4, ?_, hS'.keep hte hw hn1 (Nat.le_refl _) (rk 0) (by rw [e0]) e11 e12, hR.keep hte hw hn1 (Nat.le_refl _) (rk 1) (rk 2) (fun k hk => ii k ?_) (aa 56 (by decide)) (by rw [e0]) (by rw [e0]) e13 e14⟩
  · simp only [List.mem_cons, List.not_mem_nil, or_false] at hk ⊢; omega
  · simp only [List.mem_cons, List.not_mem_nil, or_false] at hk ⊢; omega
  · obtain ⟨e, he, q1, q2, q5⟩ := hE
    exact ⟨e, he, (ii 34 (by decide)).trans q1, by rw [e1]; exact q2, by rw [e5]; exact q5⟩
  · simp only [List.mem_cons, List.not_mem_nil, or_false] at hk ⊢; omega
theorem HT_o {o : Ob} : HT (tbO o) o := fun f hf => (if_pos hf).symm
theorem RowM.nd {o : Ob} {t : Nat} {R : List Nd} (h : RowM o t R) : NdS o t 0 R := fun i x hx => by
  rw [Nat.add_zero]; exact h.2.2 i x hx
theorem LvC.f {lv : Ob} {ls : List Int32} (h : LvC lv ls) : LvF lv ls.length (hg ls) := ⟨h.1, h.2.1, fun i hi => h.2.2 i _ (by unfold hg; rw [List.getD_eq_getElem?_getD, List.getElem?_eq_getElem hi]; rfl)⟩
theorem RkD.g {o : Ob} {ls : List Int32} {sg : List (Option Int32)} (h : RkD o ls sg) (hl : ls.length ≤ 24) : LvG o ls.length (hg ls) := ⟨h.1, hl, fun i hi => by have := h.2.2.1.get hi; rwa [Nat.zero_add] at this⟩
theorem clit0 : ((0 : Int32)).toNatClampNeg = 0 := rfl
/-- what is known of a case that lies in both -/
theorem Case2.all {nm nc : Nat} {o : Ob} {t : Nat} {b : Ob} {R : List Nd} (h : Case2 (tbO o) nm o t b R) (hw : ∀ m, m < nm → MkWF (tbO o) nc m) (hn : nm ≤ 30) : ∃ m, m < nm ∧ CF (tbO o) R [some m] ∧ BN nm R ∧ (cenc (tbO o) R).length ≤ 744 ∧ (evR (tbO o) R).length ≤ 24 ∧ R.length ≤ (cenc (tbO o) R).length ∧ CC (cenc (tbO o) R) 1 ∧ evC (cenc (tbO o) R) = evR (tbO o) R ∧ RowM o t R ∧ TreeC b (cenc (tbO o) R) := by
  obtain ⟨⟨m, hm, hc⟩, hr, hT⟩ := h
  have hB := CF_bn hw hn R [some m] (fun a ha => by simp only [List.mem_cons, List.not_mem_nil, or_false, Option.some.injEq] at ha; omega) hc
  obtain ⟨b1, b2, b3⟩ := CF_b1 hn hw hc hm hB
  exact ⟨m, hm, hc, hB, b1, b2, b3, CC_cenc hw R _ hc hB, evC_cenc hw R _ hc hB, hr, hT⟩
theorem m_rk {nm nc : Nat} {o : Ob} {t : Nat} {R : List Nd} {m : Nat} {Post : Ob → Prop} (hw : ∀ m, m < nm → MkWF (tbO o) nc m) (hn : nm ≤ 30) (ht : t < 5) (hm : m < nm) (hc : CF (tbO o) R [some m]) (hB : BN nm R) (hr : RowM o t R) (k : ∀ o2, Fm rkS rkA o o2 → RkD o2 (evR (tbO o) R) (sgC (cenc (tbO o) R)) → Post o2) : w_X10_reckon (nI t) 0 (o.2.2 8 t) o Post := by
  obtain ⟨b1, b2, b3⟩ := CF_b1 hn hw hc hm hB
  have h := m_reckon hw hn (p := 0) HT_o hc hB hr.nd ht (by omega) (by omega) b2 (by have := sgC_len (cenc (tbO o) R); omega) k
  rw [Nat.zero_add, ← hr.1] at h
  exact h
theorem row_ge {o : Ob} {t : Nat} {R : List Nd} (h : RowM o t R) : 0 ≤ o.2.2 8 t := by rw [h.1]; have := h.2.1; exact nI_pos' (by omega)
/-- the shown case is reckoned -/
theorem m_shown {nm nc : Nat} {o : Ob} {b : Ob} {R : List Nd} {Post : Ob → Prop} (hw : ∀ m, m < nm → MkWF (tbO o) nc m) (hn : nm ≤ 30) (h : Case2 (tbO o) nm o 0 b R) (k : ∀ o2, Fm rkS rkA o o2 → RkD o2 (evR (tbO o) R) (sgC (cenc (tbO o) R)) → Post o2) : w_X10_reckonShown o Post := by
  obtain ⟨m, hm, hc, hB, -, -, -, -, -, hr, -⟩ := h.all hw hn
  exact m_rk hw hn (t := 0) (by omega) hm hc hB hr k
theorem m_no : ¬ (0 : Int32) ≤ -1 := by decide
theorem mV_c {v : Int32} {P : Int32 → Prop} (h : P (mV v)) : ((0 ≤ v) → P v) ∧ (¬ (0 ≤ v) → P ((-10) + v)) := by
  unfold mV at h
  refine ⟨fun c => ?_, fun c => ?_⟩
  · rwa [if_neg (Int32.not_lt.mpr c)] at h
  · rw [if_pos (Int32.not_le.mp c)] at h
    rwa [Int32.add_comm, show v + (-10) = v - 10 from (Int32.sub_eq_add_neg (a := v) (b := 10)).symm]
set_option maxHeartbeats 2000000 in
theorem ok_holds : OK_holds Iv := by
  intro ck mk pr xs o v1 hI
  obtain ⟨nm, nc, np, hT, hE, hS, hR⟩ := id hI
  have hn := hT.1.1
  have hnc := hT.1.2.1
  have hw : ∀ m, m < nm → MkWF (tbO o) nc m := fun m hm => (hT.2.2.2.2.1 m hm).1
  have hwc : ∀ i, i < nc → CkWF (ck i) i := fun i hi => (hT.2.2.2.2.2.1 i hi).1
  have e21 := hT.2.2.1.1
  have e1 := hT.2.2.1.2
  have fin : ∀ (o2 j2 mc2 md2 : Ob) (S A : List Nat), Fm S A o o2 → (∀ k ∈ [0, 21, 45, 34, 50, 51, 52, 53, 54, 55], k ∉ S) → (∀ k ∈ [1, 2, 3, 4, 5, 6, 7, 8, 9, 10, 22, 23, 24, 46, 47, 48, 49, 56], k ∉ A) → j2.2.1 = (xs 1).2.1 → Iv ck mk pr (ux (ux (ux (ux (ux xs 0 (xs 0)) 1 j2) 2 mc2) 3 md2) 12 (xs 12)) o2 := fun o2 j2 mc2 md2 S A f h1 h2 hj =>
    Iv_keep hI f h1 h2 rfl hj rfl rfl (fun C h => h) (fun C h => h) (fun C h => h) (fun C h => h)
  have f0 : Fm [] [] o o := Fm.rf
  refine k_knows e1 hnc (fun c hc ec => ⟨rfl, ⟨fun _ => ⟨fun h7 => ?_, fun h7 => ?_⟩, fun z => absurd z (by decide)⟩⟩) (fun hno => ⟨rfl, ⟨fun z => absurd rfl z, fun _ => ⟨rfl, ?_⟩⟩⟩)
  · rcases hS with ⟨s1, s2⟩ | ⟨s1, R, s2, s3⟩
    · exact absurd s2 h7
    · subst ec
      refine c_verdict hwc hnc hc e1 s3.f (fun j2 mc2 md2 fj => ?_)
      obtain ⟨m, hm, hcf, hB, b1, b2, b3, -, -, hr, -⟩ := s2.all hw hn
      refine mV_c (v := vF ck (evR (tbO o) R).length (hg (evR (tbO o) R)) c) (P := fun r => ((xs 0).2.1 4 = (xs 0).2.1 4) ∧ w_X10_holds (nI c) o (fun (r2 : Int32) (o2 : Ob) => r = r2 ∧ Iv ck mk pr (ux (ux (ux (ux (ux xs 0 (xs 0)) 1 j2) 2 mc2) 3 md2) 12 (xs 12)) o2)) ⟨rfl, ?_⟩
      refine r_noCheck e21 hnc (fun c2 hc2 ec2 => ⟨fun _ => ⟨fun _ => ?_, fun z => absurd (row_ge hr) z⟩, fun z => absurd rfl z⟩) (fun z => absurd rfl (z c hc))
      refine m_shown hw hn s2 (fun o2 f2 d2 => ?_)
      refine m_result (fun i hi => ?_) hnc hc (d2.g b2) (fun o3 f3 => ⟨rfl, fin o3 j2 mc2 md2 (rkS ++ runS) (rkA ++ [25, 26, 27]) ((f2.mono (fun k hk => List.mem_append_left _ hk) (fun k hk => List.mem_append_left _ hk)).tr (f3.mono (fun k hk => List.mem_append_right _ hk) (fun k hk => List.mem_append_right _ hk))) (by decide) (by decide) (funext fun k => fj.2.1 k (by simp))⟩)
      rw [f2.2.2 22 (by decide), f2.2.2 23 (by decide), f2.2.2 24 (by decide)]
      exact hT.2.2.2.2.2.1 i hi
  · rcases hS with ⟨s1, s2⟩ | ⟨s1, R, s2, s3⟩
    · refine ⟨rfl, r_noCheck e21 hnc (fun c2 hc2 ec2 => ⟨fun _ => ⟨fun z => ?_, fun _ => ⟨rfl, fin o _ _ _ [] [] f0 (by decide) (by decide) rfl⟩⟩, fun z => absurd rfl z⟩) (fun z => absurd ec (z c hc))⟩
      rw [clit0, s1] at z; exact absurd z m_no
    · exact absurd (s1.symm.trans h7) (by decide)
  · exact r_noCheck e21 hnc (fun c2 hc2 ec2 => absurd ec2 (hno c2 hc2)) (fun _ => ⟨fun z => absurd z (by decide), fun _ => ⟨rfl, fin o _ _ _ [] [] f0 (by decide) (by decide) rfl⟩⟩)
set_option maxHeartbeats 2000000 in
theorem ok_told : OK_told Iv := by
  intro ck mk pr xs o v1 hI
  obtain ⟨nm, nc, np, hT, hE, hS, hR⟩ := id hI
  have hn := hT.1.1
  have hw : ∀ m, m < nm → MkWF (tbO o) nc m := fun m hm => (hT.2.2.2.2.1 m hm).1
  have fin : ∀ (o2 : Ob) (S A : List Nat), Fm S A o o2 → (∀ k ∈ [0, 21, 45, 34, 50, 51, 52, 53, 54, 55], k ∉ S) → (∀ k ∈ [1, 2, 3, 4, 5, 6, 7, 8, 9, 10, 22, 23, 24, 46, 47, 48, 49, 56], k ∉ A) → Iv ck mk pr (ux (ux (ux (ux xs 0 (xs 0)) 4 (xs 4)) 1 (xs 1)) 12 (xs 12)) o2 := fun o2 S A f h1 h2 =>
    Iv_keep hI f h1 h2 rfl rfl rfl rfl (fun C h => h) (fun C h => h) (fun C h => h) (fun C h => h)
  have f0 := fin o [] [] Fm.rf (by decide) (by decide)
  refine ⟨fun c => ⟨rfl, rfl, rfl, ?_⟩, fun c => ⟨rfl, rfl, rfl, ?_⟩, fun c => ⟨rfl, rfl, rfl, ?_⟩, fun c => ⟨fun d => ⟨rfl, rfl, rfl, ?_⟩, fun d => ⟨rfl, rfl, rfl, ?_⟩⟩, fun c => ⟨rfl, rfl, rfl, ?_⟩⟩
  · subst c
    exact ⟨fun _ => ⟨hT.2.1.2.trans hT.2.1.1.symm, f0⟩, fun z => absurd z (by decide), fun z => absurd z (by decide), fun z => absurd z (by decide), fun z => absurd rfl z.1⟩
  · subst c
    exact ⟨fun z => absurd z (by decide), fun _ => ⟨hT.2.2.1.2.trans hT.2.2.1.1.symm, f0⟩, fun z => absurd z (by decide), fun z => absurd z (by decide), fun z => absurd rfl z.2.1⟩
  · subst c
    exact ⟨fun z => absurd z (by decide), fun z => absurd z (by decide), fun _ => ⟨hT.2.2.2.1.2.trans hT.2.2.2.1.1.symm, f0⟩, fun z => absurd z (by decide), fun z => absurd rfl z.2.2.1⟩
  · subst c
    refine ⟨fun z => absurd z (by decide), fun z => absurd z (by decide), fun z => absurd z (by decide), fun _ => ?_, fun z => absurd rfl z.2.2.2⟩
    rcases hS with ⟨s1, s2⟩ | ⟨s1, R, s2, s3⟩
    · refine ⟨fun z => ?_, fun _ => ⟨rfl, f0⟩⟩
      rw [clit0, s1] at z; exact absurd z m_no
    · exact absurd (s1.symm.trans d) (by decide)
  · subst c
    refine ⟨fun z => absurd z (by decide), fun z => absurd z (by decide), fun z => absurd z (by decide), fun _ => ?_, fun z => absurd rfl z.2.2.2⟩
    rcases hS with ⟨s1, s2⟩ | ⟨s1, R, s2, s3⟩
    · exact absurd s2 d
    · have hr := s2.2.1
      refine ⟨fun _ => m_shown hw hn s2 (fun o2 f2 d2 => ⟨s3.1.trans d2.1.symm, fin o2 _ _ f2 (by decide) (by decide)⟩), fun z => absurd (row_ge hr) z⟩
  · exact ⟨fun z => absurd z c.1, fun z => absurd z c.2.1, fun z => absurd z c.2.2.1, fun z => absurd z c.2.2.2, fun _ => ⟨rfl, f0⟩⟩
