/-! SIGN -/
theorem in_N {x : Int32} {n : Nat} (hn : n < 100000) : (x < 0 ∨ nI n - 1 < x) ↔ ∀ m, m < n → x ≠ nI m := by
  constructor
  · rintro (h | h) m hm rfl
    · exact nI_pos (by omega) h
    · cases n with
      | zero => omega
      | succ n =>
        rw [nI_pred, nI_ltI (by omega) (by omega)] at h
        omega
  · intro h
    by_cases h0 : x < 0
    · exact Or.inl h0
    · obtain ⟨j, hj, rfl⟩ := nI_of h0
      refine Or.inr ?_
      cases n with
      | zero =>
        rw [show nI 0 - 1 = (-1 : Int32) from rfl]
        exact Int32.lt_of_lt_of_le (show (-1 : Int32) < 0 from by decide) (nI_pos' hj)
      | succ n =>
        rw [nI_pred, nI_ltI (by omega) hj]
        rcases Nat.lt_or_ge n j with q | q
        · exact q
        · exact absurd rfl (h j (by omega))
theorem nI_sub {a b : Nat} (h : b ≤ a) : nI a - nI b = nI (a - b) := by
  have : nI a = nI (a - b) + nI b := by rw [nI_add]; congr 1; omega
  rw [this, Int32.add_sub_cancel]
theorem nI_mod2 {j : Nat} (hj : j < 2 ^ 31) : nI j - nI j / 2 * 2 = nI (j % 2) := by
  rw [show (2 : Int32) = nI 2 from rfl, pk_div hj (by omega) (by omega), mul_nI, nI_sub (by omega)]
  congr 1; omega
theorem nlc_app (b : List (Option Int32)) : ∀ a : List (Option Int32), nlc (a ++ b) = nlc a + nlc b := by
  intro a
  induction a with
  | nil => show nlc b = 0 + _; omega
  | cons x a ih =>
    cases x with
    | none => show nlc (a ++ b) + 1 = nlc a + 1 + _; rw [ih]; omega
    | some v => exact ih
theorem nlc_C (C : List CN) : nlc (sgC C) = lcC C := by
  induction C with
  | nil => rfl
  | cons c C ih =>
    show nlc (sg1 c ++ sgC C) = _
    rw [nlc_app, ih, lcC_c]
    have : nlc (sg1 c) = if c.1 = 0 ∨ c.1 = 8 ∨ c.1 = 9 then 1 else 0 := by
      unfold sg1
      by_cases q : c.1 = 0 ∨ c.1 = 8 ∨ c.1 = 9
      · rw [if_pos q, if_pos q]; rfl
      · rw [if_neg q, if_neg q]
        split <;> rfl
    rw [this]
theorem sg1_len {c : CN} : (sg1 c).length ≤ 1 := by
  have := sgC_len [c]
  rwa [show sgC [c] = sg1 c ++ [] from rfl, List.append_nil] at this
theorem c_signL {x : Int32} {C : List CN} {o lv : Ob} {ls : List Int32} {Post : Int64 → Ob → Ob → Prop} (T : TreeC o C) (L : LvC lv ls) (hl : lcC C = ls.length)
    (k0 : ∀ s y, (sgC C)[s]? = some y → x = nI (2 * s) → Post (k01 y).toInt64 o lv) (k1n : ∀ s, (sgC C)[s]? = some none → x = nI (2 * s + 1) → Post (ls.getD (nlc ((sgC C).take s)) 0).toInt64 o lv) (k1s : ∀ s y, (sgC C)[s]? = some (some y) → x = nI (2 * s + 1) → Post y.toInt64 o lv) (kn : (∀ j, j < 2 * (sgC C).length → x ≠ nI j) → Post (-9223372036854775808) o lv) :
    ∀ (D A : List CN), C = A ++ D → (∀ j, j < 2 * (sgC A).length → x ≠ nI j) → w_X8_signAt_L8 x (fun (k6_63 : Int32) (o_k63 : Ob) (lv_k63 : Ob) => ((k6_63 = 0) → Post 1 o_k63 lv_k63) ∧ (¬ (k6_63 = 0) → Post 0 o_k63 lv_k63)) (fun (k4_81 : Int32) (k5_81 : Int32) (k6_81 : Int32) (o_k81 : Ob) (lv_k81 : Ob) => ((k6_81 = 0) → vp_in k5_81 744 ∧ (Post (((o_k81.2.2 1) k5_81.toNatClampNeg).toInt64) o_k81 lv_k81)) ∧ (¬ (k6_81 = 0) → w_X2_get k4_81 lv_k81 (fun (r15 : Int32) (lv_16 : Ob) => Post r15.toInt64 o_k81 lv_16))) Post (D.length + 1) (nI (2 * (sgC A).length)) (nI (nlc (sgC A))) (nI A.length) o lv := by
  obtain ⟨t1, t2, t3⟩ := T
  have sl := sgC_len C
  intro D
  induction D with
  | nil =>
    intro A hC hno
    rw [List.append_nil] at hC
    subst hC
    exact ⟨fun _ => kn hno, fun z => absurd (show o.2.1 6 ≤ nI C.length by rw [t1]; exact Int32.le_refl _) z⟩
  | cons c D ih =>
    intro A hC hno
    have hlen : C.length = A.length + (D.length + 1) := by rw [hC, List.length_append, List.length_cons]
    have gc : C[A.length]? = some c := by rw [hC]; exact getmid
    obtain ⟨c0, c1, -⟩ := t3 _ _ gc
    have vq : vp_in (nI A.length) 744 := vp_in_nI (by omega) (by omega)
    have eC : C = (A ++ [c]) ++ D := by rw [hC, List.append_assoc]; rfl
    have eS : sgC C = sgC A ++ (sg1 c ++ sgC D) := by rw [hC, sgC_app]; rfl
    have eA : sgC (A ++ [c]) = sgC A ++ sg1 c := by rw [sgC_app]; show _ ++ (sg1 c ++ []) = _; rw [List.append_nil]
    have al : (A ++ [c]).length = A.length + 1 := by rw [List.length_append]; rfl
    have sA := sgC_len A
    have step := ih (A ++ [c]) eC
    rw [al, eA, List.length_append, nlc_app] at step
    have lcA : lcC C = lcC A + lcC (c :: D) := by rw [hC, lcC_app]
    refine ⟨fun z => absurd z (by rw [t1, nI_leI (by omega) (by omega)]; omega), fun _ => ⟨fun z => absurd z (by rw [show (744 : Int32) = nI 744 from rfl, nI_leI (by omega) (by omega)]; omega), fun _ => ⟨vq, ?_⟩⟩⟩
    rw [nI_clamp (by omega), c0]
    -- a sign stands here
    have sign : ∀ (y : Option Int32) (r4 : Int32), sg1 c = [y] → (r4 = 0 ↔ ¬ y = none) → (∀ v, y = some v → v = c.2.1) → ((¬ nI (2 * (sgC A).length) = x) → ((¬ (nI (2 * (sgC A).length) + 1) = x) → jn (fun J120 : Int32 → Ob → Ob → Prop => ((r4 = 0) → J120 0 o lv) ∧ (¬ (r4 = 0) → J120 1 o lv)) (fun (z_120 : Int32) (o_120 : Ob) (lv_120 : Ob) => w_X8_signAt_L8 x (fun (k6_63 : Int32) (o_k63 : Ob) (lv_k63 : Ob) => ((k6_63 = 0) → Post 1 o_k63 lv_k63) ∧ (¬ (k6_63 = 0) → Post 0 o_k63 lv_k63)) (fun (k4_81 : Int32) (k5_81 : Int32) (k6_81 : Int32) (o_k81 : Ob) (lv_k81 : Ob) => ((k6_81 = 0) → vp_in k5_81 744 ∧ (Post (((o_k81.2.2 1) k5_81.toNatClampNeg).toInt64) o_k81 lv_k81)) ∧ (¬ (k6_81 = 0) → w_X2_get k4_81 lv_k81 (fun (r15 : Int32) (lv_16 : Ob) => Post r15.toInt64 o_k81 lv_16))) Post (D.length + 1) (nI (2 * (sgC A).length) + 2) (nI (nlc (sgC A)) + z_120) (nI A.length + 1) o_120 lv_120)) ∧ (((nI (2 * (sgC A).length) + 1) = x) → ((r4 = 0) → vp_in (nI A.length) 744 ∧ (Post (((o.2.2 1) (nI A.length).toNatClampNeg).toInt64) o lv)) ∧ (¬ (r4 = 0) → w_X2_get (nI (nlc (sgC A))) lv (fun (r15 : Int32) (lv_16 : Ob) => Post r15.toInt64 o lv_16)))) ∧ ((nI (2 * (sgC A).length) = x) → ((r4 = 0) → Post 1 o lv) ∧ (¬ (r4 = 0) → Post 0 o lv)) := by
      intro y r4 ey er ev
      rw [ey] at eS step
      have gy : (sgC C)[(sgC A).length]? = some y := by rw [eS]; exact getmid
      have ty : (sgC C).take (sgC A).length = sgC A := by rw [eS, List.take_append_of_le_length (Nat.le_refl _), List.take_length]
      have slt : (sgC A).length < (sgC C).length := (List.getElem?_eq_some_iff.mp gy).1
      rw [nI_1, nI_1]
      refine ⟨fun n0 => ⟨fun n1 => ?_, fun e1 => ⟨fun r0 => ⟨vq, ?_⟩, fun r0 => ?_⟩⟩, fun e0 => ⟨fun r0 => ?_, fun r0 => ?_⟩⟩
      · have nx : ∀ j, j < 2 * ((sgC A).length + 1) → x ≠ nI j := by
          intro j hj
          rcases (show j < 2 * (sgC A).length ∨ j = 2 * (sgC A).length ∨ j = 2 * (sgC A).length + 1 by omega) with q | rfl | rfl
          · exact hno j q
          · exact fun z => n0 z.symm
          · exact fun z => n1 z.symm
        have st := step nx
        rw [show (nI (2 * (sgC A).length) : Int32) + 2 = nI (2 * ((sgC A).length + 1)) by rw [show (2 : Int32) = nI 2 from rfl, nI_add]; rfl]
        cases y with
        | none => exact jn_mk ⟨fun z => absurd rfl (er.mp z), fun _ => by dsimp only; rw [nI_1]; exact st⟩
        | some v => exact jn_mk ⟨fun _ => by dsimp only; rw [show (nI (nlc (sgC A)) : Int32) + 0 = nI (nlc (sgC A)) from Int32.add_zero _]; exact st, fun z => absurd (er.mpr (by intro w; cases w)) z⟩
      · cases y with
        | none => exact absurd rfl (er.mp r0)
        | some v =>
          rw [nI_clamp (by omega), c1, ← ev v rfl]
          exact k1s _ v gy e1.symm
      · cases y with
        | some v => exact absurd (er.mpr (by intro w; cases w)) r0
        | none =>
          have h1 := nlc_lt _ _ gy
          rw [ty, nlc_C C] at h1
          refine c_get L.f (by omega) ?_
          have := k1n _ gy e1.symm
          rw [ty] at this
          exact this
      · cases y with
        | none => exact absurd rfl (er.mp r0)
        | some v => exact k0 _ _ gy e0.symm
      · cases y with
        | some v => exact absurd (er.mpr (by intro w; cases w)) r0
        | none => exact k0 _ _ gy e0.symm
    refine k_leaf (fun q => ?_) (fun q => ?_)
    · exact jn_mk (jn_mk ⟨fun _ => sign none 1 (if_pos q) ⟨fun z => absurd z (by decide), fun z => absurd rfl z⟩ (fun v z => (nomatch z)), fun z => absurd z (by decide)⟩)
    · refine jn_mk (jn_mk ⟨fun z => absurd rfl z, fun _ => ⟨vq, ?_⟩⟩)
      refine k_row (fun q2 => ⟨fun _ => ?_, fun z => absurd z (by decide)⟩) (fun q2 => ⟨fun z => absurd rfl z, fun _ => ?_⟩)
      · exact sign (some c.2.1) 0 ((if_neg q).trans (if_pos q2)) ⟨fun _ => (fun w => nomatch w), fun _ => rfl⟩ (fun v z => by cases z; rfl)
      · have e0 : sg1 c = [] := (if_neg q).trans (if_neg q2)
        rw [e0] at step
        rw [nI_1]
        exact step hno
theorem long_lost : (1 : Int64) = ((1 : Int32)).toInt64 ∧ (0 : Int64) = ((0 : Int32)).toInt64 := by decide
theorem c_sign {x : Int32} {C : List CN} {o lv : Ob} {ls : List Int32} {Post : Int64 → Ob → Ob → Prop} (T : TreeC o C) (L : LvC lv ls) (hl : lcC C = ls.length)
    (k0 : ∀ s y, (sgC C)[s]? = some y → x = nI (2 * s) → Post (k01 y).toInt64 o lv) (k1n : ∀ s, (sgC C)[s]? = some none → x = nI (2 * s + 1) → Post (ls.getD (nlc ((sgC C).take s)) 0).toInt64 o lv) (k1s : ∀ s y, (sgC C)[s]? = some (some y) → x = nI (2 * s + 1) → Post y.toInt64 o lv) (kn : (∀ j, j < 2 * (sgC C).length → x ≠ nI j) → Post (-9223372036854775808) o lv) : w_X8_signAt x o lv Post :=
  ⟨C.length + 1, c_signL T L hl k0 k1n k1s kn C [] rfl (fun j hj => absurd hj (Nat.not_lt_zero _))⟩
set_option maxHeartbeats 2000000 in
theorem ok_sign : OK_sign Iv := by
  intro ck mk pr xs o v1 hI
  obtain ⟨nm, nc, np, hT, hE, hS, hR⟩ := id hI
  have hn := hT.1.1
  have hw : ∀ m, m < nm → MkWF (tbO o) nc m := fun m hm => (hT.2.2.2.2.1 m hm).1
  have fin : ∀ (o2 : Ob) (S A : List Nat), Fm S A o o2 → (∀ k ∈ [0, 21, 45, 34, 50, 51, 52, 53, 54, 55], k ∉ S) → (∀ k ∈ [1, 2, 3, 4, 5, 6, 7, 8, 9, 10, 22, 23, 24, 46, 47, 48, 49, 56], k ∉ A) → Iv ck mk pr (ux (ux (ux xs 0 (xs 0)) 11 (xs 11)) 12 (xs 12)) o2 := fun o2 S A f h1 h2 =>
    Iv_keep hI f h1 h2 rfl rfl rfl rfl (fun C h => h) (fun C h => h) (fun C h => h) (fun C h => h)
  rcases hS with ⟨s1, s2⟩ | ⟨s1, R, s2, s3⟩
  · refine ⟨fun _ => ⟨rfl, ⟨fun z => ?_, fun _ => ⟨rfl, fin o [] [] Fm.rf (by decide) (by decide)⟩⟩⟩, fun z => absurd s2 z⟩
    rw [clit0, s1] at z; exact absurd z m_no
  · have hr := s2.2.1
    obtain ⟨m, hm, hcf, hB, b1, b2, b3, hcc, hev, -, hTr⟩ := s2.all hw hn
    have sl := sgC_len (cenc (tbO o) R)
    refine ⟨fun z => absurd (s1.symm.trans z) (by decide), fun _ => ?_⟩
    have ref : ∀ r : Int64, (∀ o3 : Ob, RkD o3 (evR (tbO o) R) (sgC (cenc (tbO o) R)) → ((∀ j, j < 2 * (sgC (cenc (tbO o) R)).length → v1 ≠ nI j) → r = -9223372036854775808) ∧ (∀ s, s < (sgC (cenc (tbO o) R)).length → v1 = nI (2 * s) → r = (o3.2.2 12 s).toInt64) ∧ (∀ s, s < (sgC (cenc (tbO o) R)).length → v1 = nI (2 * s + 1) → r = (o3.2.2 13 s).toInt64)) → ((xs 0).2.1 4 = (xs 0).2.1 4) ∧ w_X10_sign v1 o (fun (r2 : Int64) (o2 : Ob) => r = r2 ∧ Iv ck mk pr (ux (ux (ux xs 0 (xs 0)) 11 (xs 11)) 12 (xs 12)) o2) := by
      intro r h
      refine ⟨rfl, ⟨fun _ => m_shown hw hn s2 (fun o2 f2 d2 => ?_), fun z => absurd (row_ge hr) z⟩⟩
      obtain ⟨h1, h2, h3⟩ := h o2 d2
      have fi := fin o2 _ _ f2 (by decide) (by decide)
      rw [d2.2.1, two_nI]
      by_cases c : ∀ j, j < 2 * (sgC (cenc (tbO o) R)).length → v1 ≠ nI j
      · exact r_in_n ((in_N (by omega)).mpr c) ⟨fun z => absurd rfl z, fun _ => ⟨h1 c, fi⟩⟩
      · have : ∃ j, j < 2 * (sgC (cenc (tbO o) R)).length ∧ v1 = nI j := Classical.byContradiction (fun z => c (fun j hj e => z ⟨j, hj, e⟩))
        obtain ⟨j, hj, rfl⟩ := this
        refine r_in_y (nI_pos (by omega)) (fun z => c ((in_N (by omega)).mp (Or.inr z))) ⟨fun _ => ?_, fun z => absurd z (by decide)⟩
        rw [nI_mod2 (by omega), show (2 : Int32) = nI 2 from rfl, pk_div (by omega) (by omega) (by omega), nI_clamp (by omega)]
        have vj : vp_in (nI (j / 2)) 1600 := vp_in_nI (by omega) (by omega)
        refine ⟨fun z => ⟨vj, h3 (j / 2) (by omega) ?_, fi⟩, fun z => ⟨vj, h2 (j / 2) (by omega) ?_, fi⟩⟩
        · rcases Nat.mod_two_eq_zero_or_one j with q | q
          · rw [q] at z; exact absurd rfl z
          · congr 1; omega
        · rcases Nat.mod_two_eq_zero_or_one j with q | q
          · congr 1; omega
          · rw [q] at z; exact absurd z (by decide)
    refine c_sign hTr s3 (by rw [← evC_len, hev]) (fun s y gy e => ref _ (fun o3 d3 => ?_)) (fun s gy e => ref _ (fun o3 d3 => ?_)) (fun s y gy e => ref _ (fun o3 d3 => ?_)) (fun hno => ref _ (fun o3 d3 => ?_))
    · have slt := (List.getElem?_eq_some_iff.mp gy).1
      refine ⟨fun z => absurd e (z _ (by omega)), fun s2 hs2 e2 => ?_, fun s2 hs2 e2 => ?_⟩
      · rw [e, nI_eq (by omega) (by omega)] at e2
        rw [show s2 = s by omega]
        have := d3.2.2.2.1 s (k01 y) (by rw [List.getElem?_map, gy]; rfl)
        rw [Nat.zero_add] at this; rw [this]
      · rw [e, nI_eq (by omega) (by omega)] at e2; omega
    · have slt := (List.getElem?_eq_some_iff.mp gy).1
      refine ⟨fun z => absurd e (z _ (by omega)), fun s2 hs2 e2 => ?_, fun s2 hs2 e2 => ?_⟩
      · rw [e, nI_eq (by omega) (by omega)] at e2; omega
      · rw [e, nI_eq (by omega) (by omega)] at e2
        rw [show s2 = s by omega, d3.2.2.2.2.2 s gy]
    · have slt := (List.getElem?_eq_some_iff.mp gy).1
      refine ⟨fun z => absurd e (z _ (by omega)), fun s2 hs2 e2 => ?_, fun s2 hs2 e2 => ?_⟩
      · rw [e, nI_eq (by omega) (by omega)] at e2; omega
      · rw [e, nI_eq (by omega) (by omega)] at e2
        rw [show s2 = s by omega, d3.2.2.2.2.1 s y gy]
    · exact ⟨fun _ => rfl, fun s2 hs2 e2 => absurd e2 (hno _ (by omega)), fun s2 hs2 e2 => absurd e2 (hno _ (by omega))⟩
