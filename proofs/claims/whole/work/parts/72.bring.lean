/-! A CASE BECOMES THE SHOWN ONE -/
theorem idx_nI (t p : Nat) : (1000 : Int32) * nI t + nI p = nI (1000 * t + p) := by rw [show (1000 : Int32) = nI 1000 from rfl, mul_nI, nI_add]
def RKi (n : Nat) (t : Nat) (o o2 : Ob) : Prop := ∀ i, i < n → o2.2.2 9 (1000 * t + i) = o.2.2 9 (1000 * t + i) ∧ o2.2.2 10 (1000 * t + i) = o.2.2 10 (1000 * t + i)
theorem m_copyL {t u : Nat} {R : List Nd} {o0 : Ob} {K Post : Ob → Prop} (ht : t < 5) (hu : u < 5) (hne : t ≠ u) (hr : RowM o0 t R) (k : ∀ o2, Fm [] [9, 10] o0 o2 → (∀ t', t' ≠ u → RKi 1000 t' o0 o2) → (∀ i x, R[i]? = some x → o2.2.2 9 (1000 * u + i) = encM x.1 ∧ o2.2.2 10 (1000 * u + i) = x.2) → K o2) : ∀ (d p : Nat) (o : Ob), p + d = R.length → Fm [] [9, 10] o0 o → (∀ t', t' ≠ u → RKi 1000 t' o0 o) → (∀ i x, i < p → R[i]? = some x → o.2.2 9 (1000 * u + i) = encM x.1 ∧ o.2.2 10 (1000 * u + i) = x.2) → w_X10_copyRow_L2 (nI t) (nI u) K Post (d + 1) (nI p) o := by
  have h8 := hr.1
  have hl := hr.2.1
  intro d
  induction d with
  | zero =>
    intro p o hp f rk hd
    refine ⟨vp_in_nI ht (by omega), fun _ => k o f rk (fun i x hx => hd i x ?_ hx), fun z => absurd ?_ z⟩
    · have := (List.getElem?_eq_some_iff.mp hx).1; omega
    · rw [nI_clamp (by omega), f.2.2 8 (by decide), h8, show R.length = p by omega]; exact Int32.le_refl _
  | succ d ih =>
    intro p o hp f rk hd
    have vt : vp_in (nI (1000 * t + p)) 5000 := vp_in_nI (by omega) (by omega)
    have vu : vp_in (nI (1000 * u + p)) 5000 := vp_in_nI (by omega) (by omega)
    have hx : R[p]? = some R[p] := List.getElem?_eq_getElem (by omega)
    obtain ⟨r1, r2⟩ := hr.2.2 p _ hx
    obtain ⟨q1, q2⟩ := rk t hne p (by omega)
    refine ⟨vp_in_nI ht (by omega), fun z => absurd z ?_, fun _ => ?_⟩
    · rw [nI_clamp (by omega), f.2.2 8 (by decide), h8, nI_leI (by omega) (by omega)]; omega
    · rw [idx_nI, idx_nI]
      refine ⟨vt, vu, vt, vu, ?_⟩
      rw [nI_clamp (by omega), nI_clamp (by omega), q1, q2, r1, r2, nI_1]
      have F : Fm [] [9, 10] o (o.1, o.2.1, sa (sa o.2.2 9 (upd (o.2.2 9) (1000 * u + p) (encM R[p].1))) 10 (upd (o.2.2 10) (1000 * u + p) R[p].2)) := Fm.a (fun k hk => by
        rw [sa_un (S := [9, 10]) (by decide) hk, sa_un (S := [9, 10]) (by decide) hk])
      refine ih (p + 1) _ (by omega) (f.tr F) (fun t' ht' i hi => ?_) (fun i x hi hxi => ?_)
      · obtain ⟨g1, g2⟩ := rk t' ht' i hi
        rw [← g1, ← g2]
        refine ⟨?_, ?_⟩
        · show sa (sa o.2.2 9 (upd (o.2.2 9) (1000 * u + p) (encM R[p].1))) 10 (upd (o.2.2 10) (1000 * u + p) R[p].2) 9 (1000 * t' + i) = _
          rw [sa_ne (by omega), sa_us, pk_un (by omega)]
        · show sa (sa o.2.2 9 (upd (o.2.2 9) (1000 * u + p) (encM R[p].1))) 10 (upd (o.2.2 10) (1000 * u + p) R[p].2) 10 (1000 * t' + i) = _
          rw [sa_us, pk_un (by omega)]
      · show sa (sa o.2.2 9 (upd (o.2.2 9) (1000 * u + p) (encM R[p].1))) 10 (upd (o.2.2 10) (1000 * u + p) R[p].2) 9 (1000 * u + i) = _ ∧ sa (sa o.2.2 9 (upd (o.2.2 9) (1000 * u + p) (encM R[p].1))) 10 (upd (o.2.2 10) (1000 * u + p) R[p].2) 10 (1000 * u + i) = _
        rw [sa_ne (by omega), sa_us, sa_us]
        by_cases q : i = p
        · subst q
          rw [hx] at hxi
          cases hxi
          rw [pk_us, pk_us]; exact ⟨rfl, rfl⟩
        · rw [pk_un (by omega), pk_un (by omega)]
          exact hd i x (by omega) hxi
theorem m_copyRow {t u : Nat} {R : List Nd} {o : Ob} {Post : Ob → Prop} (ht : t < 5) (hu : u < 5) (hne : t ≠ u) (hr : RowM o t R) (k : ∀ o2, Fm [] [8, 9, 10] o o2 → (∀ t', t' ≠ u → RK t' o o2) → RowM o2 u R → Post o2) : w_X10_copyRow (nI t) (nI u) o Post := by
  refine ⟨R.length + 1, m_copyL ht hu hne hr (fun o2 f2 rk2 r2 => ⟨vp_in_nI ht (by omega), vp_in_nI hu (by omega), ?_⟩) R.length 0 o (by omega) Fm.rf (fun _ _ _ _ => ⟨rfl, rfl⟩) (fun i x hi => absurd hi (Nat.not_lt_zero _))⟩
  rw [nI_clamp (by omega), nI_clamp (by omega)]
  have F : Fm [] [8] o2 (o2.1, o2.2.1, sa o2.2.2 8 (upd (o2.2.2 8) u (o2.2.2 8 t))) := Fm.a (fun k hk => sa_un (S := [8]) (by decide) hk)
  have e8 : o2.2.2 8 = o.2.2 8 := f2.2.2 8 (by decide)
  refine k _ ((f2.mono (by decide) (by decide)).tr (F.mono (by decide) (by decide))) (fun t' ht' => ⟨?_, fun i hi => ?_⟩) ⟨?_, hr.2.1, fun i x hx => ?_⟩
  · show sa o2.2.2 8 (upd (o2.2.2 8) u (o2.2.2 8 t)) 8 t' = _
    rw [sa_us, pk_un ht', e8]
  · rw [F.2.2 9 (by decide), F.2.2 10 (by decide)]
    exact rk2 t' ht' i hi
  · show sa o2.2.2 8 (upd (o2.2.2 8) u (o2.2.2 8 t)) 8 u = _
    rw [sa_us, pk_us, e8]; exact hr.1
  · rw [F.2.2 9 (by decide), F.2.2 10 (by decide)]
    exact r2 i x hx
theorem m_shows {nm nc : Nat} {t : Nat} {R : List Nd} {m : Nat} {o : Ob} {Post : Int32 → Ob → Prop} (hw : ∀ m, m < nm → MkWF (tbO o) nc m) (hn : nm ≤ 30) (ht : t < 5) (h0 : t ≠ 0) (hm : m < nm) (hc : CF (tbO o) R [some m]) (hB : BN nm R) (hr : RowM o t R) (k : ∀ o2, Fm rkS (rkA ++ [8, 9, 10]) o o2 → (∀ t', t' ≠ 0 → RK t' o o2) → RowM o2 0 R → Post (nI (2 * (sgC (cenc (tbO o) R)).length)) o2) : w_X10_shows (nI t) o Post := by
  refine m_copyRow (u := 0) ht (by omega) h0 hr (fun o2 f2 rk2 r2 => ?_)
  have et : tbO o2 = tbO o := tbO_keep (fun k hk => f2.2.2 k (by
    simp only [List.mem_cons, List.not_mem_nil, or_false] at hk ⊢; omega))
  have h := m_rk (Post := fun (o_4 : Ob) => Post (2 * (o_4.2.1 11)) o_4) (o := o2) (t := 0) (R := R) (m := m) (nm := nm) (nc := nc) (by rw [et]; exact hw) hn (by omega) hm (by rw [et]; exact hc) hB r2 (fun o3 f3 d3 => ?_)
  · exact h
  · rw [d3.2.1, two_nI, et]
    have f23 : Fm rkS (rkA ++ [8, 9, 10]) o o3 := (f2.mono (by decide) (by decide)).tr (f3.mono (fun k hk => hk) (fun k hk => List.mem_append_left _ hk))
    exact k o3 f23 (fun t' ht' => (rk2 t' ht').tr (RK.of_fr f3.2 (by decide) (by decide) (by decide))) (r2.keep (RK.of_fr f3.2 (by decide) (by decide) (by decide)))
/-! the class -/
theorem cpy_lt {f g : Nat → Int32} {n k : Nat} (h : k < n) : va_cpy f g 0 0 n k = f k := by
  unfold va_cpy
  rw [if_pos ⟨Nat.zero_le _, by omega⟩, Nat.zero_add, Nat.sub_zero]
theorem c_copy {o f : Ob} {C : List CN} {Post : Ob → Ob → Prop} (T : TreeC f C) (k : ∀ o2, TreeC o2 C → Post o2 f) : w_X8_copy o f Post := by
  obtain ⟨t1, t2, t3⟩ := T
  unfold w_X8_copy
  rw [t1]
  refine j_minN (b := 744) (by omega) (by omega) ?_
  rw [show min C.length 744 = C.length by omega]
  refine j_maxN (a := 0) (by omega) (by omega) ?_
  rw [show max 0 C.length = C.length by omega, nI_clamp (by omega), clit0]
  have p0 : ¬ (0 : Int32) < 0 := by decide
  have pn : ¬ nI C.length < 0 := nI_pos (by omega)
  have pl : 0 + C.length ≤ 744 := by omega
  refine ⟨p0, p0, pn, pl, pl, p0, p0, pn, pl, pl, p0, p0, pn, pl, pl, p0, p0, pn, pl, pl, p0, p0, pn, pl, pl, k _ ⟨?_, t2, fun p c hc => ?_⟩⟩
  · exact (show upd o.2.1 6 (nI C.length) 6 = _ from pk_us)
  · have hp := (List.getElem?_eq_some_iff.mp hc).1
    obtain ⟨a0, a1, a2, a3, a4⟩ := t3 p c hc
    refine ⟨?_, ?_, ?_, ?_, ?_⟩
    · show sa (sa (sa (sa (sa o.2.2 0 (va_cpy (f.2.2 0) (o.2.2 0) 0 0 C.length)) 1 (va_cpy (f.2.2 1) (o.2.2 1) 0 0 C.length)) 2 (va_cpy (f.2.2 2) (o.2.2 2) 0 0 C.length)) 3 (va_cpy (f.2.2 3) (o.2.2 3) 0 0 C.length)) 4 (va_cpy (f.2.2 4) (o.2.2 4) 0 0 C.length) 0 p = _
      rw [sa_ne (by omega), sa_ne (by omega), sa_ne (by omega), sa_ne (by omega), sa_us, cpy_lt hp]; exact a0
    · show sa (sa (sa (sa (sa o.2.2 0 (va_cpy (f.2.2 0) (o.2.2 0) 0 0 C.length)) 1 (va_cpy (f.2.2 1) (o.2.2 1) 0 0 C.length)) 2 (va_cpy (f.2.2 2) (o.2.2 2) 0 0 C.length)) 3 (va_cpy (f.2.2 3) (o.2.2 3) 0 0 C.length)) 4 (va_cpy (f.2.2 4) (o.2.2 4) 0 0 C.length) 1 p = _
      rw [sa_ne (by omega), sa_ne (by omega), sa_ne (by omega), sa_us, cpy_lt hp]; exact a1
    · show sa (sa (sa (sa (sa o.2.2 0 (va_cpy (f.2.2 0) (o.2.2 0) 0 0 C.length)) 1 (va_cpy (f.2.2 1) (o.2.2 1) 0 0 C.length)) 2 (va_cpy (f.2.2 2) (o.2.2 2) 0 0 C.length)) 3 (va_cpy (f.2.2 3) (o.2.2 3) 0 0 C.length)) 4 (va_cpy (f.2.2 4) (o.2.2 4) 0 0 C.length) 2 p = _
      rw [sa_ne (by omega), sa_ne (by omega), sa_us, cpy_lt hp]; exact a2
    · show sa (sa (sa (sa (sa o.2.2 0 (va_cpy (f.2.2 0) (o.2.2 0) 0 0 C.length)) 1 (va_cpy (f.2.2 1) (o.2.2 1) 0 0 C.length)) 2 (va_cpy (f.2.2 2) (o.2.2 2) 0 0 C.length)) 3 (va_cpy (f.2.2 3) (o.2.2 3) 0 0 C.length)) 4 (va_cpy (f.2.2 4) (o.2.2 4) 0 0 C.length) 3 p = _
      rw [sa_ne (by omega), sa_us, cpy_lt hp]; exact a3
    · show sa (sa (sa (sa (sa o.2.2 0 (va_cpy (f.2.2 0) (o.2.2 0) 0 0 C.length)) 1 (va_cpy (f.2.2 1) (o.2.2 1) 0 0 C.length)) 2 (va_cpy (f.2.2 2) (o.2.2 2) 0 0 C.length)) 3 (va_cpy (f.2.2 3) (o.2.2 3) 0 0 C.length)) 4 (va_cpy (f.2.2 4) (o.2.2 4) 0 0 C.length) 4 p = _
      rw [sa_us, cpy_lt hp]; exact a4
theorem c_signsL {C : List CN} {o : Ob} {Post : Int32 → Ob → Prop} (h1 : o.2.1 6 = nI C.length) (h2 : C.length ≤ 744) (h3 : ∀ p c, C[p]? = some c → o.2.2 0 p = c.1) (k : Post (nI (2 * (sgC C).length)) o) : ∀ (D A : List CN), C = A ++ D → w_X8_signs_L4 Post (D.length + 1) (nI (2 * (sgC A).length)) (nI A.length) o := by
  intro D
  induction D with
  | nil =>
    intro A hC
    rw [List.append_nil] at hC
    subst hC
    exact ⟨fun _ => k, fun z => absurd (show o.2.1 6 ≤ nI C.length by rw [h1]; exact Int32.le_refl _) z⟩
  | cons c D ih =>
    intro A hC
    have hlen : C.length = A.length + (D.length + 1) := by rw [hC, List.length_append, List.length_cons]
    have gc : C[A.length]? = some c := by rw [hC]; exact getmid
    have c0 := h3 _ _ gc
    have vq : vp_in (nI A.length) 744 := vp_in_nI (by omega) (by omega)
    have eC : C = (A ++ [c]) ++ D := by rw [hC, List.append_assoc]; rfl
    have eA : sgC (A ++ [c]) = sgC A ++ sg1 c := by rw [sgC_app]; show _ ++ (sg1 c ++ []) = _; rw [List.append_nil]
    have step := ih (A ++ [c]) eC
    rw [show (A ++ [c]).length = A.length + 1 by rw [List.length_append]; rfl, eA, List.length_append] at step
    have one : ∀ y, sg1 c = [y] → w_X8_signs_L4 Post (D.length + 1) (nI (2 * (sgC A).length) + 2) (nI A.length + 1) o := by
      intro y ey
      rw [ey] at step
      rw [nI_1, show (nI (2 * (sgC A).length) : Int32) + 2 = nI (2 * ((sgC A).length + 1)) by rw [show (2 : Int32) = nI 2 from rfl, nI_add]; rfl]
      exact step
    refine ⟨fun z => absurd z (by rw [h1, nI_leI (by omega) (by omega)]; omega), fun _ => ⟨fun z => absurd z (by rw [show (744 : Int32) = nI 744 from rfl, nI_leI (by omega) (by omega)]; omega), fun _ => ⟨vq, ?_⟩⟩⟩
    rw [nI_clamp (by omega), c0]
    refine k_leaf (fun q => jn_mk (jn_mk ⟨fun _ => one none (if_pos q), fun z => absurd z (by decide)⟩)) (fun q => jn_mk (jn_mk ⟨fun z => absurd rfl z, fun _ => ⟨vq, ?_⟩⟩))
    refine k_row (fun q2 => ⟨fun z => absurd z (by decide), fun _ => one (some c.2.1) ((if_neg q).trans (if_pos q2))⟩) (fun q2 => ⟨fun _ => ?_, fun z => absurd rfl z⟩)
    have e0 : sg1 c = [] := (if_neg q).trans (if_neg q2)
    rw [e0] at step
    rw [nI_1]
    exact step
theorem TreeC.st {b : Ob} {C : List CN} (T : TreeC b C) : TrS b 0 C := fun i c hc => by
  obtain ⟨a0, a1, -, -, a4⟩ := T.2.2 i c hc
  rw [Nat.zero_add, Nat.zero_add]; exact ⟨a0, a1, a4⟩
theorem c_bring {x sh shl f : Ob} {C : List CN} {Post : Int32 → Ob → Ob → Ob → Ob → Prop} (T : TreeC f C) (hl : lcC C ≤ 24) (hf : ∀ c ∈ C, c.1 = 4 → ∃ k : Nat, k < 5 ∧ c.2.1 = nI k) (k : ∀ sh2 shl2, TreeC sh2 C → LvC shl2 (evC C) → Post (nI (2 * (sgC C).length)) (x.1, upd x.2.1 7 1, x.2.2) sh2 shl2 f) : w_X9_bringOut x sh shl f Post := by
  refine c_copy T (fun sh2 T2 => ?_)
  have h := c_gather (p := 0) (z := C.length) (lv := shl) (Post := fun (sh_5 : Ob) (shl_6 : Ob) => w_X8_signs sh_5 (fun (r7 : Int32) (sh_8 : Ob) => Post r7 ((x.1, (upd x.2.1 7 ((1 : Int32))), x.2.2)) sh_8 shl_6 f)) T2.st T2.1 (by omega) T2.2.1 hl hf (fun b2 lv2 f2 L2 => ?_)
  · rw [Nat.zero_add, ← T2.1] at h
    exact h
  · have T3 := T2.keep f2 (by decide) (fun k hk => by
      rcases (show k = 0 ∨ k = 1 ∨ k = 2 ∨ k = 3 ∨ k = 4 by omega) with rfl | rfl | rfl | rfl | rfl <;> decide)
    exact ⟨C.length + 1, c_signsL T3.1 T3.2.1 (fun p c hc => (T3.2.2 p c hc).1) (k b2 lv2 T3 L2) C [] rfl⟩
theorem maps_ok {tb : Tb} {nm nc : Nat} (hw : ∀ m, m < nm → MkWF tb nc m) : ∀ L : List Nd, BN nm L → ∀ c ∈ cenc tb L, c.1 = 4 → ∃ k : Nat, k < 5 ∧ c.2.1 = nI k := by
  intro L
  induction L with
  | nil => intro _ c hc; cases hc
  | cons x L ih =>
    intro hB c hc h4
    have ih' := ih (fun y hy => hB y (List.mem_cons_of_mem _ hy)) c
    have hd : c = cnN tb x → ∃ k : Nat, k < 5 ∧ c.2.1 = nI k := by
      rintro rfl
      obtain ⟨xm, v⟩ := x
      cases xm with
      | none => exact absurd (show (8 : Int32) = 4 from h4) (by decide)
      | some m =>
        have h4 : tb 0 m = 4 := h4
        obtain ⟨-, -, -, -, -, -, -, k4, -⟩ := hw m (hB _ List.mem_cons_self m rfl)
        obtain ⟨a, f, ha, e2, hf, e3, -⟩ := k4 h4
        exact ⟨f, hf, by rw [cn_4 h4]; exact e3⟩
    rw [cenc_c] at hc
    rcases List.mem_cons.mp hc with q | q
    · exact hd q
    · cases hb : bel tb x
      · rw [hb, if_neg (by decide)] at q
        exact ih' q h4
      · rw [hb, if_pos rfl] at q
        rcases List.mem_append.mp q with q | q
        · exact ih' (List.mem_of_mem_take q) h4
        · rcases List.mem_cons.mp q with q | q
          · rw [q] at h4; exact absurd (show (9 : Int32) = 4 from h4) (by decide)
          · exact ih' (List.mem_of_mem_drop q) h4
theorem Iv_bring {ck mk pr xs xs2 : Nat → Ob} {o o2 : Ob} {S A : List Nat} {nm nc np m : Nat} {R : List Nd} (hT : IvT nm nc np ck mk pr xs o) (hR : IvR nm xs o) (f : Fm S A o o2) (hS : ∀ k ∈ [0, 21, 45, 50, 51, 52, 53, 54, 55], k ∉ S) (hA : ∀ k ∈ [1, 2, 3, 4, 5, 6, 7, 22, 23, 24, 46, 47, 48, 49, 56], k ∉ A) (rk : ∀ t, t = 1 ∨ t = 2 → RK t o o2)
    (hE2 : IvE xs2 o2) (e0 : xs2 0 = ((xs 0).1, upd (xs 0).2.1 7 1, (xs 0).2.2)) (e1 : (xs2 1).2.1 1 = (xs 1).2.1 1) (e4 : (xs2 4).2.1 1 = (xs 4).2.1 1) (hm : m < nm) (hc : CF (tbO o) R [some m]) (hr : RowM o2 0 R) (h11 : TreeC (xs2 11) (cenc (tbO o) R)) (h12 : LvC (xs2 12) (evR (tbO o) R)) (e13 : ∀ C, TreeC (xs 13) C → TreeC (xs2 13) C) (e14 : ∀ C, TreeC (xs 14) C → TreeC (xs2 14) C) : Iv ck mk pr xs2 o2 := by
  have ii : ∀ k ∈ [0, 21, 45, 50, 51, 52, 53, 54, 55], o2.2.1 k = o.2.1 k := fun k hk => f.2.1 k (hS k hk)
  have aa : ∀ k ∈ [1, 2, 3, 4, 5, 6, 7, 22, 23, 24, 46, 47, 48, 49, 56], o2.2.2 k = o.2.2 k := fun k hk => f.2.2 k (hA k hk)
  have et : tbO o2 = tbO o := tbO_keep (fun k hk => aa k (by
    simp only [List.mem_cons, List.not_mem_nil, or_false] at hk ⊢; omega))
  have hte : TbEq nm (tbO o) (tbO o2) := by rw [et]; exact TbEq.rf
  have hw : ∀ m, m < nm → MkWF (tbO o) nc m := fun m hm => (hT.2.2.2.2.1 m hm).1
  have hn1 := hT.1.1
  refine ⟨nm, nc, np, hT.keep (fun k hk => ii k ?_) (fun k hk => aa k ?_) (by rw [e0]; exact (show upd (xs 0).2.1 7 1 4 = _ from pk_un (by decide))) e1 e4, hE2, Or.inr ⟨by rw [e0]; exact (show upd (xs 0).2.1 7 1 7 = _ from pk_us), R, ⟨⟨m, hm, by rw [et]; exact hc⟩, hr, by rw [et]; exact h11⟩, by rw [et]; exact h12⟩, hR.keep hte hw hn1 (Nat.le_refl _) (rk 1 (Or.inl rfl)) (rk 2 (Or.inr rfl)) (fun k hk => ii k ?_) (aa 56 (by decide)) (by rw [e0]; exact (show upd (xs 0).2.1 7 1 9 = _ from pk_un (by decide))) (by rw [e0]) e13 e14⟩
  · simp only [List.mem_cons, List.not_mem_nil, or_false] at hk ⊢; omega
  · simp only [List.mem_cons, List.not_mem_nil, or_false] at hk ⊢; omega
  · simp only [List.mem_cons, List.not_mem_nil, or_false] at hk ⊢; omega
/-- both bring a case out -/
theorem both_bring {nm nc m t : Nat} {o x sh shl f : Ob} {R : List Nd} {P : Int32 → Ob → Ob → Ob → Ob → Prop} (hw : ∀ m, m < nm → MkWF (tbO o) nc m) (hn : nm ≤ 30) (ht : t < 5) (h0 : t ≠ 0) (hm : m < nm) (hc : CF (tbO o) R [some m]) (hr : RowM o t R) (T : TreeC f (cenc (tbO o) R))
    (k : ∀ sh2 shl2, TreeC sh2 (cenc (tbO o) R) → LvC shl2 (evR (tbO o) R) → P (nI (2 * (sgC (cenc (tbO o) R)).length)) (x.1, upd x.2.1 7 1, x.2.2) sh2 shl2 f) : w_X9_bringOut x sh shl f P := by
  have hB := CF_bn hw hn R [some m] (fun a ha => by simp only [List.mem_cons, List.not_mem_nil, or_false, Option.some.injEq] at ha; omega) hc
  obtain ⟨b1, b2, b3⟩ := CF_b1 hn hw hc hm hB
  have hev := evC_cenc hw R _ hc hB
  refine c_bring T (by rw [← evC_len, hev]; exact b2) (maps_ok hw R hB) (fun sh2 shl2 h1 h2 => k sh2 shl2 h1 (by rw [← hev]; exact h2))
theorem CF_BN {nm nc m : Nat} {tb : Tb} {R : List Nd} (hw : ∀ m, m < nm → MkWF tb nc m) (hn : nm ≤ 30) (hm : m < nm) (hc : CF tb R [some m]) : BN nm R := CF_bn hw hn R [some m] (fun a ha => by simp only [List.mem_cons, List.not_mem_nil, or_false, Option.some.injEq] at ha; omega) hc
set_option maxHeartbeats 2000000 in
theorem ok_show : OK_show Iv := by
  intro ck mk pr xs o v1 hv hI
  obtain ⟨nm, nc, np, hT, hE, hS, hR⟩ := id hI
  have hn := hT.1.1
  have hw : ∀ m, m < nm → MkWF (tbO o) nc m := fun m hm => (hT.2.2.2.2.1 m hm).1
  have fin0 : Iv ck mk pr (ux (ux (ux (ux (ux xs 0 (xs 0)) 11 (xs 11)) 12 (xs 12)) 13 (xs 13)) 14 (xs 14)) o :=
    Iv_keep hI (S := []) (A := []) Fm.rf (by decide) (by decide) rfl rfl rfl rfl (fun C h => h) (fun C h => h) (fun C h => h) (fun C h => h)
  have bring : ∀ (t m : Nat) (R : List Nd) (f : Ob), t = 1 ∨ t = 2 → m < nm → CF (tbO o) R [some m] → RowM o t R → TreeC f (cenc (tbO o) R) → ∀ P : Int32 → Ob → Ob → Ob → Ob → Prop, (∀ r x2 sh2 shl2, w_X10_shows (nI t) o (fun (r2 : Int32) (o2 : Ob) => r = r2 ∧ Iv ck mk pr (ux (ux (ux (ux (ux xs 0 x2) 11 sh2) 12 shl2) 13 (xs 13)) 14 (xs 14)) o2) → x2.2.1 4 = (xs 0).2.1 4 → P r x2 sh2 shl2 f) → w_X9_bringOut (xs 0) (xs 11) (xs 12) f P := by
    intro t m R f ht hm hc hr hTr P hP
    have t5 : t < 5 := by omega
    have t0 : t ≠ 0 := by omega
    refine both_bring hw hn t5 t0 hm hc hr hTr (fun sh2 shl2 h1 h2 => hP _ _ sh2 shl2 (m_shows hw hn t5 t0 hm hc (CF_BN hw hn hm hc) hr (fun o2 f2 rk2 r2 => ⟨rfl, ?_⟩)) (show upd (xs 0).2.1 7 1 4 = _ from pk_un (by decide)))
    have hE2 : IvE (ux (ux (ux (ux (ux xs 0 ((xs 0).1, upd (xs 0).2.1 7 1, (xs 0).2.2)) 11 sh2) 12 shl2) 13 (xs 13)) 14 (xs 14)) o2 := by
      obtain ⟨e, he, q1, q2, q5⟩ := hE
      exact ⟨e, he, (f2.2.1 34 (by decide)).trans q1, q2, q5⟩
    exact Iv_bring hT hR f2 (by decide) (by decide) (fun t ht => rk2 t (by omega)) hE2 rfl rfl rfl hm hc r2 h1 h2 (fun C h => h) (fun C h => h)
  rcases hR with ⟨r1, r2, r3⟩ | ⟨r1, ⟨k, hk, g1, g2⟩, g3, g4, g5, g6, g7, g8⟩
  · exact ⟨fun _ => ⟨rfl, ⟨fun _ => ⟨rfl, fin0⟩, fun z => absurd r3 z⟩⟩, fun z => absurd r1 z⟩
  · refine ⟨fun z => absurd (r1.symm.trans z) (by decide), fun _ => ?_⟩
    rcases g8 with ⟨h52, h50⟩ | ⟨h52, h50, ⟨R1, c1⟩, R2, c2⟩
    · exact ⟨fun z => absurd (g1.trans (g2.symm.trans z)) h50, fun _ => ⟨rfl, ⟨fun _ => ⟨rfl, fin0⟩, fun z => absurd h52 z⟩⟩⟩
    · obtain ⟨⟨m1, hm1, hc1⟩, hr1, hT1⟩ := c1
      obtain ⟨⟨m2, hm2, hc2⟩, hr2, hT2⟩ := c2
      have n52 : ¬ o.2.1 52 = 0 := by rw [h52]; decide
      refine ⟨fun _ => ⟨fun z => ?_, fun z => ?_⟩, fun z => absurd (show (xs 0).2.2 8 (0 : Int32).toNatClampNeg = 1 by rw [clit0, g2, ← g1]; exact h50) z⟩
      · refine bring 2 m2 R2 _ (Or.inr rfl) hm2 hc2 hr2 hT2 _ (fun r x2 sh2 shl2 h e => ⟨e, ⟨fun y => absurd y n52, fun _ => jn_mk ⟨fun _ => ?_, fun y => absurd z y⟩⟩⟩)
        exact h
      · refine bring 1 m1 R1 _ (Or.inl rfl) hm1 hc1 hr1 hT1 _ (fun r x2 sh2 shl2 h e => ⟨e, ⟨fun y => absurd y n52, fun _ => jn_mk ⟨fun y => absurd y z, fun _ => ?_⟩⟩⟩)
        exact h
