/-! RECKONING: the whole call -/
def nlc : List (Option Int32) → Nat
  | [] => 0
  | none :: s => nlc s + 1
  | some _ :: s => nlc s
theorem lps_len : ∀ (s : List (Option Int32)) (p : Nat), (lps s p).length = nlc s := by
  intro s
  induction s with
  | nil => intro p; rfl
  | cons x s ih =>
    intro p
    cases x with
    | none => show (lps s (p + 1)).length + 1 = nlc s + 1; rw [ih]
    | some v => exact ih _
theorem lps_get : ∀ (s : List (Option Int32)) (p j : Nat), j < nlc s → ∃ i, i < s.length ∧ (lps s p)[j]? = some (nI (p + i)) ∧ s[i]? = some none ∧ nlc (s.take i) = j := by
  intro s
  induction s with
  | nil => intro p j h; exact absurd h (Nat.not_lt_zero _)
  | cons x s ih =>
    intro p j h
    cases x with
    | none =>
      cases j with
      | zero => exact ⟨0, Nat.succ_pos _, rfl, rfl, rfl⟩
      | succ j =>
        obtain ⟨i, hi, e1, e2, e3⟩ := ih (p + 1) j (Nat.lt_of_succ_lt_succ h)
        refine ⟨i + 1, Nat.succ_lt_succ hi, ?_, e2, ?_⟩
        · show (lps s (p + 1))[j]? = _
          rw [e1, show p + 1 + i = p + (i + 1) by omega]
        · show nlc (s.take i) + 1 = j + 1
          rw [e3]
    | some v =>
      obtain ⟨i, hi, e1, e2, e3⟩ := ih (p + 1) j h
      refine ⟨i + 1, Nat.succ_lt_succ hi, ?_, e2, e3⟩
      show (lps s (p + 1))[j]? = _
      rw [e1, show p + 1 + i = p + (i + 1) by omega]
theorem nlc_lt : ∀ (s : List (Option Int32)) (i : Nat), s[i]? = some none → nlc (s.take i) < nlc s := by
  intro s
  induction s with
  | nil => intro i h; cases h
  | cons x s ih =>
    intro i h
    cases i with
    | zero => cases h; exact Nat.succ_pos _
    | succ i =>
      have := ih i h
      cases x with
      | none => show nlc (s.take i) + 1 < nlc s + 1; omega
      | some v => exact this
theorem nlc_inj : ∀ (s : List (Option Int32)) (i j : Nat), s[i]? = some none → s[j]? = some none → nlc (s.take i) = nlc (s.take j) → i = j := by
  intro s
  induction s with
  | nil => intro i j h; cases h
  | cons x s ih =>
    intro i j h1 h2 e
    cases i with
    | zero =>
      cases j with
      | zero => rfl
      | succ j =>
        cases h1
        exact absurd e (show ¬ 0 = nlc (s.take j) + 1 by omega)
    | succ i =>
      cases j with
      | zero =>
        cases h2
        exact absurd e (show ¬ nlc (s.take i) + 1 = 0 by omega)
      | succ j =>
        have : nlc (s.take i) = nlc (s.take j) := by
          cases x with
          | none => exact Nat.succ.inj e
          | some v => exact e
        rw [ih i j h1 h2 this]
def RkD (o : Ob) (A : List Int32) (sg : List (Option Int32)) : Prop := o.2.1 14 = nI A.length ∧ o.2.1 11 = nI sg.length ∧ Seg (o.2.2 15) 0 A ∧ Seg (o.2.2 12) 0 (sg.map k01) ∧ (∀ i v, sg[i]? = some (some v) → o.2.2 13 i = v) ∧ (∀ i, sg[i]? = some none → o.2.2 13 i = A.getD (nlc (sg.take i)) 0)
theorem m_signL {A : List Int32} {sg : List (Option Int32)} {Post : Ob → Prop} (hA : A.length ≤ 60) (hs : sg.length ≤ 1500) : ∀ (d j : Nat) (o : Ob), j + d = A.length → RkP o A sg → (∀ i, sg[i]? = some none → nlc (sg.take i) < j → o.2.2 13 i = A.getD (nlc (sg.take i)) 0) → (∀ o2, Fm [] [13] o o2 → RkD o2 A sg → Post o2) → w_X10_reckon_L223 Post (d + 1) (nI j) o := by
  intro d
  induction d with
  | zero =>
    intro j o hj R hd k
    obtain ⟨a, b, c, d', e, f, g⟩ := R
    have gn : nlc sg = A.length := by rw [← g, lps_len]
    refine ⟨fun _ => k o Fm.rf ⟨a, b, c, d', e, fun i hi => hd i hi ?_⟩, fun z => absurd (show o.2.1 14 ≤ nI j by rw [a, show j = A.length by omega]; exact Int32.le_refl _) z⟩
    have := nlc_lt sg i hi
    omega
  | succ d ih =>
    intro j o hj R hd k
    have R0 := R
    obtain ⟨a, b, c, d', e, f, g⟩ := R
    have gn : nlc sg = A.length := by rw [← g, lps_len]
    obtain ⟨i, hi, e1, e2, e3⟩ := lps_get sg 0 j (by omega)
    have f1 : o.2.2 16 j = nI i := by have := f j _ e1; rwa [Nat.zero_add, Nat.zero_add] at this
    have c1 : o.2.2 15 j = A.getD j 0 := by
      have := c.get (i := j) (by omega)
      rwa [Nat.zero_add] at this
    refine ⟨fun z => absurd z (by rw [a, nI_leI (by omega) (by omega)]; omega), fun _ => ⟨vp_in_nI (by omega) (by omega), vp_in_nI (by omega) (by omega), ?_⟩⟩
    rw [nI_clamp (by omega), f1, c1, nI_clamp (by omega)]
    refine ⟨vp_in_nI (by omega) (by omega), ?_⟩
    have F : Fm [] [13] o (o.1, o.2.1, sa o.2.2 13 (upd (o.2.2 13) i (A.getD j 0))) := Fm.a (fun k hk => sa_un (S := [13]) (by decide) hk)
    rw [nI_1]
    refine ih (j + 1) _ (by omega) ⟨a, b, ?_, ?_, fun q v hq => ?_, ?_, g⟩ (fun q hq hlt => ?_) (fun o2 f2 r2 => k o2 (F.tr f2) r2)
    · rw [F.2.2 15 (by decide)]; exact c
    · rw [F.2.2 12 (by decide)]; exact d'
    · show sa o.2.2 13 (upd (o.2.2 13) i (A.getD j 0)) 13 q = v
      rw [sa_us, pk_un (fun z => by subst z; rw [e2] at hq; cases hq)]
      exact e q v hq
    · rw [F.2.2 16 (by decide)]; exact f
    · show sa o.2.2 13 (upd (o.2.2 13) i (A.getD j 0)) 13 q = _
      rw [sa_us]
      by_cases z : q = i
      · subst z; rw [pk_us, e3]
      · rw [pk_un z]
        refine hd q hq ?_
        have : ¬ nlc (sg.take q) = j := fun z2 => z (nlc_inj sg q i hq e2 (z2.trans e3.symm))
        omega
section
variable {tb : Tb} {nm nc : Nat}
theorem m_reckon (hw : ∀ m, m < nm → MkWF tb nc m) (hn : nm ≤ 30) {t p : Nat} {L : List Nd} {t0 : Option Nat} {o : Ob} {Post : Ob → Prop} (T0 : HT tb o) (hc : CF tb L [t0]) (hb : BN nm L) (N : NdS o t p L) (ht : t < 5) (hp : p + L.length ≤ 1000) (hL : L.length ≤ 800) (he : (evR tb L).length ≤ 24) (hs : (sgC (cenc tb L)).length ≤ 1500) (k : ∀ o2, Fm rkS rkA o o2 → RkD o2 (evR tb L) (sgC (cenc tb L)) → Post o2) : w_X10_reckon (nI t) (nI p) (nI (p + L.length)) o Post := by
  cases L with
  | nil => exact absurd (show [t0] = [] from hc) (by intro z; cases z)
  | cons x L1 =>
    obtain ⟨t1, ts', e0, hk, h1⟩ := hc
    cases e0
    rw [List.append_nil] at h1
    have hbx := hb x List.mem_cons_self
    have hb1 : BN nm L1 := fun y hy => hb y (List.mem_cons_of_mem _ hy)
    have hX : okX tb nm x := okN_X hk hbx
    have n8 : ∀ m, x.1 = some m → ¬ tb 0 m = 8 := fun m hm => kind_n8 (hw m (hbx m hm))
    have eE := evR_tree (L2 := []) h1 n8
    have eC := cenc_tree (L2 := []) h1
    rw [List.append_nil] at eE eC
    rw [show evR tb [] = [] from rfl, List.append_nil] at eE
    rw [show cenc tb [] = [] from rfl, List.append_nil] at eC
    obtain ⟨pe, pl⟩ := pop_ev hw hbx h1
    have eS : sgC (cenc tb (x :: L1)) = sg1 (cnN tb x) ++ sgC (cenc tb L1) ++ popS tb x := by
      rw [eC]
      show sg1 (cnN tb x) ++ sgC (cenc tb L1 ++ resT tb x) = _
      rw [sgC_app, popS_res, List.append_assoc]
    rw [eS] at hs k
    rw [eE] at he k
    rw [List.length_append, List.length_append] at hs
    rw [List.length_cons] at hp hL
    have l1 : (kidsT tb x).length < 1000 := by
      obtain ⟨xm, v⟩ := x
      cases xm with
      | none => show 0 < 1000; omega
      | some m =>
        obtain ⟨-, h1', h6'⟩ := hX m rfl
        have w := hw m (hbx m rfl)
        rcases kind_cases w with q | q | q | q | q | q | q | q
        · rw [kids_0 q]; show 0 < 1000; omega
        · obtain ⟨j, hj, e⟩ := h1' q
          obtain ⟨-, -, -, -, k1, -⟩ := w
          obtain ⟨a, ha, e1, c, c1, c2, e3, e4⟩ := k1 q
          rw [e3, nI_clamp (by omega)] at hj
          rw [kids_1 q, List.length_replicate, show v = nI j from e, nI_clamp (by omega)]; omega
        · rw [kids_2 q]; show 2 < 1000; omega
        · rw [kids_3 q]; show 1 < 1000; omega
        · rw [kids_4 q]; show 1 < 1000; omega
        · rw [kids_5 q]; show 1 < 1000; omega
        · obtain ⟨-, -, -, -, -, -, -, -, -, k6, -⟩ := w
          obtain ⟨n, n1, n2, e3, -⟩ := k6 q
          rw [kids_6 q, List.length_replicate, show v = nI n from (h6' q).trans e3, nI_clamp (by omega)]; omega
        · rw [kids_7 q]; show 1 < 1000; omega
    have F0 : Fm rkS rkA o (o.1, upd (upd (upd o.2.1 11 0) 14 0) 17 0, o.2.2) := Fm.i (fun k hk => by
      rw [un_of (S := rkS) (by decide) hk, un_of (S := rkS) (by decide) hk, un_of (S := rkS) (by decide) hk])
    have N0 := rk_keepN N F0
    have R0 : RkP (o.1, upd (upd (upd o.2.1 11 0) 14 0) 17 0, o.2.2) [] [] := by
      refine ⟨?_, ?_, Seg.nil, Seg.nil, fun i v h => (nomatch h), Seg.nil, rfl⟩
      · show upd (upd (upd o.2.1 11 0) 14 0) 17 0 14 = _
        rw [pk_un (by omega), pk_us]; rfl
      · show upd (upd (upd o.2.1 11 0) 14 0) 17 0 11 = _
        rw [pk_un (by omega), pk_un (by omega), pk_us]; rfl
    refine ⟨(p + (L1.length + 1) - (p + 1) + 1) + 1, ?_⟩
    rw [List.length_cons]
    refine m_visit hw hn (h := 0) (rk_keepT T0 F0) hX N0.head.1 N0.head.2 ht (by omega) R0 (show upd (upd (upd o.2.1 11 0) 14 0) 17 0 17 = _ by rw [pk_us]; rfl) (by omega) (by show 0 < 60; omega) (by show 0 < 1600; omega) (by rw [nI_leI (by omega) (by omega)]; omega) (fun o2 f2 R2 e17 fr2 e18 e19 e20 => ⟨0 + 2, ?_⟩)
    have F2 := F0.tr f2
    have P1 := m_forest hw hn (t := t) (T := p + (L1.length + 1)) (K := fun (o_k220 : Ob) => ∃ n223, w_X10_reckon_L223 Post n223 0 o_k220) (Post := Post) ht L1 (kidsT tb x) h1
    have l0 : (([] : List Int32) ++ lf0 tb x).length + (evR tb L1).length ≤ 24 := by rw [List.nil_append]; omega
    refine P1 hb1 (p + 1) 0 _ _ o2 (rk_keepT T0 F2) (rk_keepN N.tail F2) R2 e17 e19 (by omega) (by omega) (by omega) l0 (by rw [List.nil_append]; omega) l1 (fun o3 f3 R3 g17 fr3 g18 g20 g19 => ?_)
    have f23 := F2.tr f3
    have n3 := rk_keepN N f23
    rw [List.append_assoc] at R3
    refine m_pop hw hn (A := []) (rk_keepT T0 f23) hX n3.head.1 n3.head.2 ht (by omega) R3 g17 (g18.trans e18) g19 (g20.trans e20) (by omega) (by rw [List.length_append]; show 0 + _ < 60; rw [List.nil_append] at l0; omega) (by rw [List.nil_append, List.length_append]; omega) (fun o4 f4 R4 h17' fr4 d4 => ?_)
    have f24 := f23.tr f4
    rw [pe] at R4
    refine ⟨fun _ => ?_, fun z => absurd (show o4.2.1 17 ≤ 0 by rw [h17']; decide) z⟩
    rw [show p + (L1.length + 1) = p + 1 + L1.length by omega, show p + 1 + L1.length - (p + 1 + L1.length) + 1 = 0 + 1 by omega]
    refine ⟨fun _ => ⟨(evT tb x (evR tb L1)).length + 1, ?_⟩, fun z => absurd (Int32.le_refl _) z⟩
    rw [List.nil_append, List.nil_append] at R4
    exact m_signL (by omega) (by rw [List.length_append, List.length_append]; omega) _ 0 o4 (by omega) R4 (fun i _ h => absurd h (Nat.not_lt_zero _)) (fun o5 f5 r5 => k o5 (f24.tr (f5.mono (by decide) (by decide))) r5)
end
theorem sgC_len : ∀ C : List CN, (sgC C).length ≤ C.length := by
  intro C
  induction C with
  | nil => exact Nat.le_refl _
  | cons c C ih =>
    have : (sg1 c).length ≤ 1 := by
      unfold sg1
      split
      · exact Nat.le_refl _
      · split
        · exact Nat.le_refl _
        · exact Nat.zero_le _
    show (sg1 c ++ sgC C).length ≤ C.length + 1
    rw [List.length_append]; omega
