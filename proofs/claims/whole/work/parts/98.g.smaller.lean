/-! SMALLER: the command, both sides -/
section
variable {ck : Nat → Ob} {tb : Tb} {nm nc : Nat}
def SmC (ck : Nat → Ob) (tb : Tb) (nc : Nat) (R : List Nd) (v k i d e : Nat) (Rn : List Nd) (r : Int32) (R' : List Nd) (e' : Nat) : Prop := ∃ N : Nat, ∀ (K Post : Int32 → Ob → Ob → Ob → Ob → Ob → Ob → Ob → Ob → Ob → Ob → Prop) (x sk sl sb sn j mc md sh shl : Ob), sk.2.1 4 = nI i → sk.2.1 5 = nI d → TreeC sb (cenc tb R) → JC nc e j → (k ≠ 0 → TreeC sn (cenc tb Rn)) → (∀ sk2 sl2 sn2 j2 mc2 md2, JC nc e' j2 → (r = 1 → TreeC sn2 (cenc tb R')) → K (if r = 0 then -9 else r) x sk2 sl2 sb sn2 j2 mc2 md2 sh shl) → w_X9_smaller_L38 ck (nI v) K Post N 1 (nI k) x sk sl sb sn j mc md sh shl
def SmR (ck : Nat → Ob) (tb : Tb) (nm nc : Nat) (R : List Nd) (v k : Nat) (s : Nat × Bool) (ch e : Nat) (Rn : List Nd) (r : Int32) (R' : List Nd) (e' : Nat) : Prop := ∃ N : Nat, ∀ (K47 Post : Int32 → Ob → Prop) (K65 : Ob → Prop) (o : Ob), BS tb nm nc o 0 R → CT ck nc o → o.2.1 42 = nI s.1 → o.2.1 43 = b2i s.2 → o.2.1 44 = nI ch → o.2.1 34 = nI e → (k ≠ 0 → RowM o 3 Rn) → (∀ o2, aF o o2 → o2.2.1 34 = nI e' → (r = 1 → RowM o2 3 R' → K65 o2) ∧ (¬ r = 1 → K47 r o2)) → w_X10_smaller_L32 (nI v) K47 K65 Post N (nI k) o
theorem sm_loop (hw : ∀ m, m < nm → MkWF tb nc m) (hn : nm ≤ 30) (hck : ∀ i, i < nc → CkWF (ck i) i) (hnc : nc ≤ 40) {m0 v : Nat} (hv : v ≤ 20) (hm0 : m0 < nm) {R : List Nd} (hcR : CF tb R [some m0]) : ∀ (n k i d e : Nat) (s : Nat × Bool) (ch : Nat) (Rn : List Nd), k + n = v + 1 → e ≤ 1500 → d ≤ 600 → RelS tb nm nc m0 R i d s ch → (k ≠ 0 → CF tb Rn [some m0]) → ∃ (r : Int32) (R' : List Nd) (e' : Nat), e' ≤ e ∧ (r = 1 ∨ r = 0 ∨ r = -6) ∧ (r = 1 → CF tb R' [some m0]) ∧ SmC ck tb nc R v k i d e Rn r R' e' ∧ SmR ck tb nm nc R v k s ch e Rn r R' e' := by
  have hB := CF_BN hw hn hm0 hcR
  obtain ⟨hl, -⟩ := CF_b1 hn hw hcR hm0 hB
  intro n
  induction n with
  | zero =>
    intro k i d e s ch Rn hk he hd hrel hRn
    have hk : k = v + 1 := hk
    refine ⟨1, Rn, e, Nat.le_refl _, Or.inl rfl, fun _ => hRn (by omega), ⟨1, ?_⟩, ⟨1, ?_⟩⟩
    · intro K Post x sk sl sb sn j mc md sh shl h4 h5 hT hj hsn hK
      exact ⟨fun _ => hK sk sl sn j mc md hj (fun _ => hsn (by omega)), fun z => absurd ((nI_ltI (by omega) (by omega)).mpr (by omega)) z⟩
    · intro K47 Post K65 o S C h42 h43 h44 h34 hr3 hK
      exact ⟨fun _ => (hK o aF.rf h34).1 rfl (hr3 (by omega)), fun z => absurd ((nI_ltI (by omega) (by omega)).mpr (by omega)) z⟩
  | succ n ih =>
    intro k i d e s ch Rn hk he hd hrel hRn
    obtain ⟨r, R', i', d', s', ch', e', g1, g2, g3, ⟨n1, g4⟩, ⟨n2, g5⟩⟩ := adv_all hw hn hck hnc hm0 (show (0 : Nat) ≠ 3 by decide) hcR _ i d e s ch (Nat.le_refl _) he hd hrel
    have hMM : MM tb R i d ≤ 1000000 := by
      unfold MM
      have : ((cenc tb R).length - i) * 1024 ≤ 744 * 1024 := Nat.mul_le_mul (by omega) (Nat.le_refl _)
      exact Nat.le_trans (Nat.add_le_add this (Nat.sub_le 1024 d)) (by decide)
    have nlt : ¬ nI v < nI k := by rw [nI_ltI (by omega) (by omega)]; omega
    by_cases r1 : r = 1
    · subst r1
      obtain ⟨hcR', rel', hd'⟩ := g3 rfl
      obtain ⟨r2, R2, e2, q1, q2, q3, ⟨N1, q4⟩, ⟨N2, q5⟩⟩ := ih (k + 1) i' d' e' s' ch' R' (by omega) (by omega) hd' rel' (fun _ => hcR')
      refine ⟨r2, R2, e2, by omega, q2, q3, ⟨N1 + 1, ?_⟩, ⟨N2 + 1, ?_⟩⟩
      · intro K Post x sk sl sb sn j mc md sh shl h4 h5 hT hj hsn hK
        refine ⟨fun z => absurd z nlt, fun _ => ⟨fun z => absurd rfl z, fun _ => ⟨n1, ?_⟩⟩⟩
        refine g4 0 sk sl sb sn j mc md _ (by omega) h4 h5 hT hj (fun sk2 sl2 sn2 j2 mc2 md2 u1 u2 => ?_)
        obtain ⟨u3, u4, u5⟩ := u2 rfl
        rw [if_neg (show ¬ (1 : Int32) = 0 by decide), nI_1]
        exact q4 K Post x sk2 sl2 sb sn2 j2 mc2 md2 sh shl u3 u4 hT u1 (fun _ => u5) hK
      · intro K47 Post K65 o S C h42 h43 h44 h34 hr3 hK
        refine ⟨fun z => absurd z nlt, fun _ => ⟨n2, ?_⟩⟩
        refine g5 o _ S C h42 h43 h44 h34 (fun o2 A u1 u2 => ⟨fun _ => ?_, fun z => absurd rfl z⟩)
        obtain ⟨u3, u4, u5, u6⟩ := u2 rfl
        rw [nI_1]
        exact q5 K47 Post K65 o2 (A.bs (by decide) S) (A.ct C) u3 u4 u5 u1 (fun _ => u6) (fun o3 A3 w1 => hK o3 (A.tr A3) w1)
    · refine ⟨r, R', e', g1, g2, fun y => absurd y r1, ⟨2, ?_⟩, ⟨1, ?_⟩⟩
      · intro K Post x sk sl sb sn j mc md sh shl h4 h5 hT hj hsn hK
        have ne : ¬ (if r = 0 then (-9 : Int32) else r) = 1 := by
          by_cases z : r = 0
          · rw [if_pos z]; decide
          · rw [if_neg z]; exact r1
        refine ⟨fun z => absurd z nlt, fun _ => ⟨fun z => absurd rfl z, fun _ => ⟨n1, ?_⟩⟩⟩
        refine g4 0 sk sl sb sn j mc md _ (by omega) h4 h5 hT hj (fun sk2 sl2 sn2 j2 mc2 md2 u1 u2 => ?_)
        have hh := hK sk2 sl2 sn2 j2 mc2 md2 u1 (fun y => absurd y r1)
        exact ⟨fun _ => hh, fun _ => ⟨fun _ => hh, fun z => absurd z ne⟩⟩
      · intro K47 Post K65 o S C h42 h43 h44 h34 hr3 hK
        refine ⟨fun z => absurd z nlt, fun _ => ⟨n2, ?_⟩⟩
        exact g5 o _ S C h42 h43 h44 h34 (fun o2 A u1 u2 => ⟨fun y => absurd y r1, fun _ => (hK o2 A u1).2 r1⟩)
theorem rel0 (hw : ∀ m, m < nm → MkWF tb nc m) (hn : nm ≤ 30) {m0 : Nat} (hm0 : m0 < nm) {R : List Nd} (hcR : CF tb R [some m0]) : RelS tb nm nc m0 R 0 0 (0, false) 0 := by
  have hB := CF_BN hw hn hm0 hcR
  obtain ⟨hl, -⟩ := CF_b1 hn hw hcR hm0 hB
  have e : siA tb R 0 = (0, false) := by
    cases R with
    | nil => rfl
    | cons x L => unfold siA; rw [stN_c]; rfl
  have := ent hw hn hm0 hcR (i := 0) (Nat.zero_le _) (fun _ => ?_)
  · rw [e] at this; exact this
  · cases R with
    | nil => exact absurd (show [some m0] = [] from hcR) (by intro z; cases z)
    | cons x L =>
      obtain ⟨t, ts, et, hk, hc⟩ := id hcR
      cases et
      rw [List.append_nil] at hc
      have S : SiN tb nm nc m0 (x :: L) [] x L (some m0) := ⟨rfl, rfl, hk, hc⟩
      obtain ⟨-, p2, -⟩ := site_part hw hn hm0 S (bT_ok hl)
      have p2 : (bT (cenc tb (x :: L))).2.2 0 0 = kindN tb x := p2
      rw [p2, kind_some hk.1]
      exact kind_n8 (hw m0 hm0)
end
set_option maxHeartbeats 4000000 in
theorem ok_smaller : OK_smaller Iv := by
  intro ck mk pr xs o v1 hI
  obtain ⟨nm, nc, np, hT, hE, hS, hR⟩ := id hI
  have hn := hT.1.1
  have hnc := hT.1.2.1
  have hw : ∀ m, m < nm → MkWF (tbO o) nc m := fun m hm => (hT.2.2.2.2.1 m hm).1
  have hck : ∀ i, i < nc → CkWF (ck i) i := fun i hi => (hT.2.2.2.2.2.1 i hi).1
  have e4 := hT.2.1.2
  have e1 := hT.2.2.1.2
  have same : Iv ck mk pr (ux (ux (ux (ux (ux (ux (ux (ux (ux (ux xs 0 (xs 0)) 7 (xs 7)) 8 (xs 8)) 9 (xs 9)) 10 (xs 10)) 1 (xs 1)) 2 (xs 2)) 3 (xs 3)) 11 (xs 11)) 12 (xs 12)) o :=
    Iv_keep hI (S := []) (A := []) Fm.rf (by decide) (by decide) rfl rfl rfl rfl (fun C h => h) (fun C h => h) (fun C h => h) (fun C h => h)
  refine ⟨fun c => ⟨rfl, ⟨fun _ => ⟨fun z => absurd rfl z, fun _ => ⟨rfl, same⟩⟩, fun z => absurd c z⟩⟩, fun c => ⟨fun h20 => ⟨fun x7 => ?_, fun x7 => ⟨rfl, ?_⟩⟩, fun h20 => ⟨rfl, ⟨fun z => absurd z c, fun _ => ⟨fun _ => ⟨fun z => absurd rfl z, fun _ => ⟨rfl, same⟩⟩, fun z => absurd (Int32.not_lt.mp z) h20⟩⟩⟩⟩⟩
  · obtain ⟨v, hv, rfl⟩ := nI_of c
    rw [show (20 : Int32) = nI 20 from rfl, nI_leI hv (by omega)] at h20
    rcases hS with ⟨-, x0⟩ | ⟨s7, R, ⟨⟨m, hm, hcR⟩, hr0, hT11⟩, hL⟩
    · exact absurd x0 x7
    obtain ⟨ef, hef, q1, q2, q5⟩ := id hE
    obtain ⟨r, R', e', g1, g2, g3, ⟨N1, g4⟩, ⟨N2, g5⟩⟩ := sm_loop hw hn hck hnc h20 hm hcR (v + 1) 0 0 0 ef (0, false) 0 [] (by omega) hef (by omega) (rel0 hw hn hm hcR) (fun z => absurd rfl z)
    have hl0 := hr0.2.1
    -- the reference, to its end
    have ref : ∀ Q : Int32 → Ob → Prop, (∀ o2, Fr ([41, 42, 43, 44] ++ (prS ++ [42, 43, 44])) (prA ++ [8, 9]) o o2 → (∀ t, t < 5 → t ≠ 3 → RK t o o2) → o2.2.1 34 = nI e' → (r = 1 → RowM o2 3 R' → w_X10_shows (nI 3) o2 Q) ∧ (¬ r = 1 → Q (if r = 0 then -9 else r) o2)) → w_X10_smaller (nI v) o Q := by
      intro Q hQ
      refine ⟨fun z => absurd z c, fun _ => ⟨fun z => absurd z ?_, fun _ => ⟨fun _ => ⟨fun _ => ⟨N2, ?_⟩, fun z => absurd ?_ z⟩, fun z => absurd z (by decide)⟩⟩⟩
      · rw [show (20 : Int32) = nI 20 from rfl, nI_ltI (by omega) hv]; omega
      · have key : ∀ o5 : Ob, o5 = (o.1, (upd (upd (upd (upd o.2.1 41 0) 42 ((0 : Int32))) 43 ((0 : Int32))) 44 ((0 : Int32))), o.2.2) → w_X10_smaller_L32 (nI v) (fun (k3_47 : Int32) (o_k47 : Ob) => ((¬ k3_47 = 0) → Q ((-6)) o_k47) ∧ ((k3_47 = 0) → Q ((-9)) o_k47)) (fun (o_k65 : Ob) => w_X10_shows  (3 : Int32) o_k65 (fun (r11 : Int32) (o_12 : Ob) => Q r11 o_12)) Q N2 0 o5 := by
          intro o5 h5
          have a1 : o5.2.2 = o.2.2 := by rw [h5]
          have a2 : ∀ f, f ≠ 41 → f ≠ 42 → f ≠ 43 → f ≠ 44 → o5.2.1 f = o.2.1 f := fun f f1 f2 f3 f4 => by
            rw [h5]
            show upd (upd (upd (upd o.2.1 41 0) 42 0) 43 0) 44 0 f = _
            rw [pk_un f4, pk_un f3, pk_un f2, pk_un f1]
          have a41 : o5.2.1 41 = nI 0 := by
            rw [h5]
            show upd (upd (upd (upd o.2.1 41 0) 42 0) 43 0) 44 0 41 = _
            rw [pk_un (by decide), pk_un (by decide), pk_un (by decide), pk_us]; rfl
          have a42 : o5.2.1 42 = nI 0 := by
            rw [h5]
            show upd (upd (upd (upd o.2.1 41 0) 42 0) 43 0) 44 0 42 = _
            rw [pk_un (by decide), pk_un (by decide), pk_us]; rfl
          have a43 : o5.2.1 43 = b2i false := by
            rw [h5]
            show upd (upd (upd (upd o.2.1 41 0) 42 0) 43 0) 44 0 43 = _
            rw [pk_un (by decide), pk_us]; rfl
          have a44 : o5.2.1 44 = nI 0 := by
            rw [h5]
            show upd (upd (upd (upd o.2.1 41 0) 42 0) 43 0) 44 0 44 = _
            rw [pk_us]; rfl
          have F5 : Fr [41, 42, 43, 44] [] o o5 := ⟨fun k hk => a2 k (fun z => hk (by subst z; decide)) (fun z => hk (by subst z; decide)) (fun z => hk (by subst z; decide)) (fun z => hk (by subst z; decide)), fun k _ => by rw [a1]⟩
          have T5 : HT (tbO o) o5 := by
            have := HT_o (o := o)
            intro f hf
            rw [a1]; exact this f hf
          have C5 : CT ck nc o5 := by
            intro i hi
            rw [a1]; exact hT.CT i hi
          refine g5 _ Q _ o5 ⟨T5, by omega, hr0.of a1, a41⟩ C5 a42 a43 a44 ((a2 34 (by decide) (by decide) (by decide) (by decide)).trans q1) (fun z => absurd rfl z) (fun o2 A w1 => ?_)
          obtain ⟨h1, h2⟩ := hQ o2 ((F5.mono (fun k hk => List.mem_append_left _ hk) (fun k hk => absurd hk (List.not_mem_nil))).tr (A.1.mono (fun k hk => List.mem_append_right _ hk) (fun k hk => hk))) (fun t ht h3 => (RK.tr ⟨by rw [a1], fun i _ => by rw [a1]; exact ⟨rfl, rfl⟩⟩ (A.2 t ht h3))) w1
          refine ⟨fun y hr3 => h1 y hr3, fun y => ?_⟩
          have := h2 y
          rcases g2 with z | z | z
          · exact absurd z y
          · rw [if_pos z] at this
            exact ⟨fun k => absurd z k, fun _ => this⟩
          · rw [z, if_neg (show ¬ (-6 : Int32) = 0 by decide)] at this
            rw [z]
            exact ⟨fun _ => this, fun k => absurd k (by decide)⟩
        exact key _ rfl
      · exact row_ge hr0
    refine c_copy hT11 (fun sb2 hsb => ⟨N1, ?_⟩)
    have s4 : ((xs 7).1, (upd (upd (xs 7).2.1 4 ((0 : Int32))) 5 ((0 : Int32))), (xs 7).2.2).2.1 4 = nI 0 := (show upd (upd (xs 7).2.1 4 ((0 : Int32))) 5 ((0 : Int32)) 4 = nI 0 by rw [pk_un (by decide), pk_us]; rfl)
    have s5 : ((xs 7).1, (upd (upd (xs 7).2.1 4 ((0 : Int32))) 5 ((0 : Int32))), (xs 7).2.2).2.1 5 = nI 0 := (show upd (upd (xs 7).2.1 4 ((0 : Int32))) 5 ((0 : Int32)) 5 = nI 0 by rw [pk_us]; rfl)
    refine g4 _ _ _ _ _ _ _ _ _ _ _ _ s4 s5 hsb ⟨e1, q2⟩ (fun z => absurd rfl z) (fun sk2 sl2 sn2 j2 mc2 md2 hj2 hsn2 => ?_)
    have hE2 : ∀ (o2 x2 sh2 shl2 : Ob), o2.2.1 34 = nI e' → IvE (ux (ux (ux (ux (ux (ux (ux (ux (ux (ux xs 0 x2) 7 sk2) 8 sl2) 9 sb2) 10 sn2) 1 j2) 2 mc2) 3 md2) 11 sh2) 12 shl2) o2 := fun o2 x2 sh2 shl2 h34 => ⟨e', by omega, h34, hj2.2, q5⟩
    by_cases r1 : r = 1
    · have hcf := g3 r1
      have T4 := hsn2 r1
      rw [if_neg (by rw [r1]; decide)]
      have hB := CF_BN hw hn hm hcf
      obtain ⟨b1, b2, b3⟩ := CF_b1 hn hw hcf hm hB
      have hev := evC_cenc hw R' _ hcf hB
      refine ⟨fun z => absurd r1 z, fun _ => c_bring T4 (by rw [← evC_len, hev]; exact b2) (maps_ok hw R' hB) (fun sh2 shl2 h1 h2 => ⟨(show upd (xs 0).2.1 7 1 4 = _ from pk_un (by decide)), ref _ (fun o2 F2 R2 h34 => ⟨fun _ hr3 => ?_, fun z => absurd r1 z⟩)⟩)⟩
      rw [hev] at h2
      have et : tbO o2 = tbO o := tbO_keep (fun k hk => F2.2 k (by
        simp only [List.mem_cons, List.not_mem_nil, or_false] at hk
        rcases hk with rfl | rfl | rfl | rfl | rfl | rfl | rfl <;> decide))
      refine m_shows (nm := nm) (nc := nc) (o := o2) (t := 3) (R := R') (m := m) (by rw [et]; exact hw) hn (by omega) (by omega) hm (by rw [et]; exact hcf) hB hr3 (fun o3 f3' rk3 r3 => ⟨by rw [et], ?_⟩)
      have F3 : Fr (([41, 42, 43, 44] ++ (prS ++ [42, 43, 44])) ++ rkS) ((prA ++ [8, 9]) ++ (rkA ++ [8, 9, 10])) o o3 := (F2.mono (fun k hk => List.mem_append_left _ hk) (fun k hk => List.mem_append_left _ hk)).tr (f3'.2.mono (fun k hk => List.mem_append_right _ hk) (fun k hk => List.mem_append_right _ hk))
      exact Iv_bringF hT hR F3 (by decide) (by decide) (fun t ht => (R2 t (by omega) (by omega)).tr (rk3 t (by omega))) (hE2 o3 _ sh2 shl2 ((f3'.2.1 34 (by decide)).trans h34)) rfl (hj2.1.trans e1.symm) rfl hm hcf r3 h1 h2 (fun C h => h) (fun C h => h)
    · have ne : ¬ (if r = 0 then (-9 : Int32) else r) = 1 := by
        by_cases z : r = 0
        · rw [if_pos z]; decide
        · rw [if_neg z]; exact r1
      refine ⟨fun _ => ⟨rfl, ref _ (fun o2 F2 R2 h34 => ⟨fun z => absurd z r1, fun _ => ⟨rfl, ?_⟩⟩)⟩, fun z => absurd z ne⟩
      exact Iv_eff hT (Or.inr ⟨s7, R, ⟨⟨m, hm, hcR⟩, hr0, hT11⟩, hL⟩) hR F2 (by decide) (by decide) (fun t ht => R2 t (by omega) (by omega)) (hE2 o2 _ _ _ h34) rfl (hj2.1.trans e1.symm) rfl (fun C h => h) (fun C h => h) (fun C h => h) (fun C h => h)
  · obtain ⟨v, hv, rfl⟩ := nI_of c
    rw [show (20 : Int32) = nI 20 from rfl, nI_leI hv (by omega)] at h20
    rcases hS with ⟨s0, -⟩ | ⟨s7, -⟩
    · refine ⟨fun z => absurd z c, fun _ => ⟨fun z => absurd z ?_, fun _ => ⟨fun _ => ⟨fun z => absurd z ?_, fun _ => ⟨rfl, same⟩⟩, fun z => absurd z (by decide)⟩⟩⟩
      · rw [show (20 : Int32) = nI 20 from rfl, nI_ltI (by omega) hv]; omega
      · rw [clit0, s0]; exact m_no
    · exact absurd (s7.symm.trans x7) (by decide)
