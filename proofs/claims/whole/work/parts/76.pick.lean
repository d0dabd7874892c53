/-! MAKING in the class: picked, shuffled -/
section
variable {ck mk : Nat → Ob} {tb : Tb} {nm nc : Nat} {w : Int32}
theorem c_cutN {kt : Ob} {q z : Nat} {Post : Ob → Prop} (h6 : kt.2.1 6 = nI z) (hq : q ≤ z) (hz : z ≤ 744) (k : ∀ kt2, kt2.2.1 6 = nI q → kt2.2.2 = kt.2.2 → Post kt2) : w_X8_cut (nI q) kt Post := by
  refine ⟨fun c => absurd c (nI_pos (by omega)), fun _ => ⟨fun c => ?_, fun c => k _ (show upd kt.2.1 6 (nI q) 6 = _ from pk_us) rfl⟩⟩
  rw [h6, nI_leI (by omega) (by omega)] at c
  exact k kt (by rw [h6, show z = q by omega]) rfl
theorem c_payY {j : Ob} {nc e : Nat} {Post : Int32 → Ob → Prop} (h : JC nc (e + 1) j) (he : e < 2000) (k : ∀ j2, JC nc e j2 → Post 1 j2) : w_X1_pay j Post := by
  refine ⟨fun _ => k _ ⟨(show upd j.2.1 2 (j.2.1 2 - 1) 1 = _ from pk_un (by decide)).trans h.1, ?_⟩, fun c => absurd (show (0 : Int32) < j.2.1 2 by rw [h.2, show (0 : Int32) = nI 0 from rfl, nI_ltI (by omega) (by omega)]; omega) c⟩
  show upd j.2.1 2 (j.2.1 2 - 1) 2 = _
  rw [pk_us, h.2, nI_pred]
theorem c_payN {j : Ob} {nc : Nat} {Post : Int32 → Ob → Prop} (h : JC nc 0 j) (k : Post 0 j) : w_X1_pay j Post :=
  ⟨fun c => absurd c (by rw [h.2]; decide), fun _ => k⟩
/-- what a check says of a row of cases -/
noncomputable def vdL (ck : Nat → Ob) (tb : Tb) (L : List Nd) (c : Nat) : Int32 := vF ck (evR tb L).length (hg (evR tb L)) c
def PkC (ck mk : Nat → Ob) (tb : Tb) (nm nc : Nat) (w : Int32) (m i : Nat) (s : Int64) (e : Nat) (r : Int32) (L : List Nd) (s2 : Int64) (e2 : Nat) : Prop := ∀ (D d p z f : Nat) (k kt kl j mc md : Ob) (Post : PC), m < D + 1 → d + m < 30 → p + wtN tb m * (m + 2) ≤ 744 → 9 ≤ f + i → KC nm w k → k.1 5 = s → kt.2.1 6 = nI z → p + 1 ≤ z → z ≤ 744 → JC nc e j → FinC tb nm nc w (p + 1) (nI p) kt r L s2 e2 Post → w_X5_growPicked_L15 ck mk (w_grow ck mk D) m (nI p) (nI d) (fun (k6_111 : Int32) (k_k111 : Ob) (kt_k111 : Ob) (kl_k111 : Ob) (j_k111 : Ob) (mc_k111 : Ob) (md_k111 : Ob) => ((¬ k6_111 = 1) → Post ((-5)) k_k111 kt_k111 kl_k111 j_k111 mc_k111 md_k111) ∧ ((k6_111 = 1) → Post 1 k_k111 kt_k111 kl_k111 j_k111 mc_k111 md_k111)) Post f (nI i) k kt kl j mc md
theorem pk_end {m : Nat} {s s2 : Int64} {e : Nat} {L : List Nd} : PkC ck mk tb nm nc w m 8 s e (-5) L s2 e := by
  intro D d p z f k kt kl j mc md Post hD hd hp hf hk hs h6 hz1 hz2 hj K
  obtain ⟨g, rfl⟩ : ∃ g, f = g + 1 := ⟨f - 1, by omega⟩
  exact ⟨fun _ => K k kt kl j mc md hk (fun z => absurd z (by decide)) hj (by rw [h6]; exact nI_pos (by omega)) (fun z => absurd z (by decide)), fun z => absurd (show (8 : Int32) ≤ nI 8 by decide) z⟩
theorem c_pick1 (hr : ∀ m, m < nm → MkRel tb (mk m) m) {m a c : Nat} (hm : m < nm) (q : tb 0 m = 5) (ea : tb 1 m = nI a) (ec : tb 2 m = nI c) : (mk m).2.1 1 = nI a ∧ (mk m).2.1 2 = nI c := by
  obtain ⟨-, -, -, -, -, -, -, -, r5, -⟩ := hr m hm
  obtain ⟨r1, r2⟩ := r5 q
  exact ⟨r1.trans ea, r2.trans ec⟩
set_option maxHeartbeats 4000000 in
/-- one try -/
theorem pk_try (hw : ∀ m, m < nm → MkWF tb nc m) (hr : ∀ m, m < nm → MkRel tb (mk m) m) (hn : nm ≤ 30) {m a c i : Nat} (hm : m < nm) (q : tb 0 m = 5) (ha : a < m) (ea : tb 1 m = nI a) (ec : tb 2 m = nI c) (hi : i < 8) {s s1 : Int64} {e e1 : Nat} {r1 : Int32} {L1 : List Nd} (g1 : GrC ck mk tb nm nc w a s e r1 L1 s1 e1)
    {D d p z f : Nat} {k kt kl j mc md : Ob} {K : PC} {Post : PC} (hD : m < D + 1) (hd : d + m < 30) (hp : p + wtN tb m * (m + 2) ≤ 744) (hk : KC nm w k) (hs : k.1 5 = s) (h6 : kt.2.1 6 = nI z) (hz1 : p + 1 ≤ z) (hz2 : z ≤ 744) (hj : JC nc e j)
    (kN : ¬ r1 = 1 → ∀ k2 kt2 kl2 j2 mc2 md2, KC nm w k2 → JC nc e1 j2 → ¬ kt2.2.1 6 < 0 → Post r1 k2 kt2 kl2 j2 mc2 md2)
    (kY : r1 = 1 → ∀ k2 kt2 kl2 j2 mc2 md2, KC nm w k2 → k2.1 5 = s1 → JC nc e1 j2 → kt2.2.1 6 = nI (p + 1 + (cenc tb L1).length) → KtE (p + 1) kt kt2 → TrF kt2 (p + 1) (nI p) (cenc tb L1) → w_X1_pay j2 (fun (r16 : Int32) (j_17 : Ob) => (j_17.2.1 1 = j2.2.1 1) ∧ (((¬ r16 = 0) → w_X8_gather (nI p + 1) (kt2.2.1 6) kt2 kl2 (fun (kt_21 : Ob) (kl_22 : Ob) => m < (k2.2.1 1).toNatClampNeg ∧ (w_X1_verdict ck (nI c) j_17 mc2 md2 kl_22 (fun (r24 : Int32) (j_25 : Ob) (mc_26 : Ob) (md_27 : Ob) (kl_28 : Ob) => ((r24 = 0) → w_X5_growPicked_L15 ck mk (w_grow ck mk D) m (nI p) (nI d) K Post f (nI i + 1) k2 kt_21 kl_28 j_25 mc_26 md_27) ∧ (¬ (r24 = 0) → K r24 k2 kt_21 kl_28 j_25 mc_26 md_27))))) ∧ ((r16 = 0) → Post ((-6)) k2 kt2 kl2 j_17 mc2 md2)))) :
    w_X5_growPicked_L15 ck mk (w_grow ck mk D) m (nI p) (nI d) K Post (f + 1) (nI i) k kt kl j mc md := by
  obtain ⟨e1', e2'⟩ := c_pick1 hr hm q ea ec
  have hn1 : m < (k.2.1 1).toNatClampNeg := by rw [hk.1, nI_clamp (by omega)]; exact hm
  have kb := kb_one hw hn (v := 0) (show okX tb nm (some m, 0) from fun m2 e2 => by cases e2; exact ⟨hm, fun z => absurd (q.symm.trans z) (by decide), fun z => absurd (q.symm.trans z) (by decide)⟩) (show kidsT tb (some m, 0) = [some a] by rw [kids_5 q, oneN_eq (by omega) ea])
  refine ⟨fun z => absurd z (by rw [show (8 : Int32) = nI 8 from rfl, nI_leI (by omega) (by omega)]; omega), fun _ => ?_⟩
  rw [nI_1]
  refine c_cutN h6 hz1 hz2 (fun kt2 b6 bE => ⟨hn1, ?_⟩)
  rw [e1', nI_1]
  refine g1 D (d + 1) (p + 1) (nI p) k kt2 kl j mc md _ (by omega) (by omega) (by omega) hk hs b6 hj (fun k3 kt3 kl3 j3 mc3 md3 u1 u2 u3 u4 u5 => ⟨fun y => ?_, fun y => kN y k3 kt3 kl3 j3 mc3 md3 u1 u3 u4⟩)
  obtain ⟨v6, vE, vF⟩ := u5 y
  have := kY y k3 kt3 kl3 j3 mc3 md3 u1 (u2 y) u3 v6 (fun f hf i hi => (vE f hf i hi).trans (by rw [bE])) vF
  rw [nI_1] at this
  rw [e2']
  exact this
theorem pk_fail (hw : ∀ m, m < nm → MkWF tb nc m) (hr : ∀ m, m < nm → MkRel tb (mk m) m) (hn : nm ≤ 30) {m a c i : Nat} (hm : m < nm) (q : tb 0 m = 5) (ha : a < m) (ea : tb 1 m = nI a) (ec : tb 2 m = nI c) (hi : i < 8) {s s1 s2 : Int64} {e e1 : Nat} {r1 : Int32} {L1 L : List Nd} (g1 : GrC ck mk tb nm nc w a s e r1 L1 s1 e1) (n1 : ¬ r1 = 1) : PkC ck mk tb nm nc w m i s e r1 L s2 e1 := by
  intro D d p z f k kt kl j mc md Post hD hd hp hf hk hs h6 hz1 hz2 hj K
  obtain ⟨g, rfl⟩ : ∃ g, f = g + 1 := ⟨f - 1, by omega⟩
  exact pk_try hw hr hn hm q ha ea ec hi g1 hD hd hp hk hs h6 hz1 hz2 hj (fun _ k2 kt2 kl2 j2 mc2 md2 f1 f3 f4 => K k2 kt2 kl2 j2 mc2 md2 f1 (fun z => absurd z n1) f3 f4 (fun z => absurd z n1)) (fun y => absurd y n1)
theorem pk_spent (hw : ∀ m, m < nm → MkWF tb nc m) (hr : ∀ m, m < nm → MkRel tb (mk m) m) (hn : nm ≤ 30) {m a c i : Nat} (hm : m < nm) (q : tb 0 m = 5) (ha : a < m) (ea : tb 1 m = nI a) (ec : tb 2 m = nI c) (hi : i < 8) {s s1 s2 : Int64} {e : Nat} {L1 L : List Nd} (g1 : GrC ck mk tb nm nc w a s e 1 L1 s1 0) (h1 : CF tb L1 [some a]) : PkC ck mk tb nm nc w m i s e (-6) L s2 0 := by
  intro D d p z f k kt kl j mc md Post hD hd hp hf hk hs h6 hz1 hz2 hj K
  obtain ⟨g, rfl⟩ : ∃ g, f = g + 1 := ⟨f - 1, by omega⟩
  refine pk_try hw hr hn hm q ha ea ec hi g1 hD hd hp hk hs h6 hz1 hz2 hj (fun n1 => absurd rfl n1) (fun y k2 kt2 kl2 j2 mc2 md2 f1 f2 f3 f4 f5 f6 => c_payN f3 ⟨rfl, ⟨fun z => absurd rfl z, fun _ => ?_⟩⟩)
  have l2 : ¬ kt2.2.1 6 < 0 := by
    rw [f4]
    obtain ⟨b1, b2, b3⟩ := CF_b1 hn hw h1 (show a < nm by omega) (CF_BN hw hn (by omega) h1)
    exact nI_pos (by omega)
  exact K k2 kt2 kl2 j2 mc2 md2 f1 (fun z => absurd z (by decide)) f3 l2 (fun z => absurd z (by decide))
set_option maxHeartbeats 4000000 in
theorem pk_ask (hw : ∀ m, m < nm → MkWF tb nc m) (hr : ∀ m, m < nm → MkRel tb (mk m) m) (hn : nm ≤ 30) (hck : ∀ i, i < nc → CkWF (ck i) i) (hnc : nc ≤ 40) {m a c i : Nat} (hm : m < nm) (q : tb 0 m = 5) (ha : a < m) (ea : tb 1 m = nI a) (ec : tb 2 m = nI c) (hc : c < nc) (hi : i < 8) {s s1 : Int64} {e e1 : Nat} {L1 : List Nd} (g1 : GrC ck mk tb nm nc w a s e 1 L1 s1 (e1 + 1)) (he : e1 < 2000) (h1 : CF tb L1 [some a])
    {D d p z f : Nat} {k kt kl j mc md : Ob} {K : PC} {Post : PC} (hD : m < D + 1) (hd : d + m < 30) (hp : p + wtN tb m * (m + 2) ≤ 744) (hk : KC nm w k) (hs : k.1 5 = s) (h6 : kt.2.1 6 = nI z) (hz1 : p + 1 ≤ z) (hz2 : z ≤ 744) (hj : JC nc e j)
    (kA : p + 1 + (cenc tb L1).length ≤ 744 → ∀ k3 kt3 kl3 j3 mc3 md3, KC nm w k3 → k3.1 5 = s1 → JC nc e1 j3 → kt3.2.1 6 = nI (p + 1 + (cenc tb L1).length) → KtE (p + 1) kt kt3 → TrF kt3 (p + 1) (nI p) (cenc tb L1) → ((vdL ck tb L1 c = 0 → w_X5_growPicked_L15 ck mk (w_grow ck mk D) m (nI p) (nI d) K Post f (nI (i + 1)) k3 kt3 kl3 j3 mc3 md3) ∧ (¬ vdL ck tb L1 c = 0 → K (vdL ck tb L1 c) k3 kt3 kl3 j3 mc3 md3))) :
    w_X5_growPicked_L15 ck mk (w_grow ck mk D) m (nI p) (nI d) K Post (f + 1) (nI i) k kt kl j mc md := by
  have kb := kb_one hw hn (v := 0) (show okX tb nm (some m, 0) from fun m2 e2 => by cases e2; exact ⟨hm, fun z => absurd (q.symm.trans z) (by decide), fun z => absurd (q.symm.trans z) (by decide)⟩) (show kidsT tb (some m, 0) = [some a] by rw [kids_5 q, oneN_eq (by omega) ea])
  refine pk_try hw hr hn hm q ha ea ec hi g1 hD hd hp hk hs h6 hz1 hz2 hj (fun n1 => absurd rfl n1) (fun y k2 kt2 kl2 j2 mc2 md2 f1 f2 f3 f4 f5 f6 => c_payY f3 he (fun j3 hj3 => ⟨hj3.1.trans f3.1.symm, ⟨fun _ => ?_, fun z => absurd z (by decide)⟩⟩))
  obtain ⟨b2, cc2⟩ := CF_len hw hn (by omega) h1
  have hB := CF_BN hw hn (show a < nm by omega) h1
  obtain ⟨b3, b4, b5⟩ := CF_b1 hn hw h1 (show a < nm by omega) hB
  have hev := evC_cenc hw L1 _ h1 hB
  rw [nI_1, f4, nI_1]
  refine c_gather (z := p + 1 + (cenc tb L1).length) f6.st f4 (Nat.le_refl _) (by omega) (by rw [← evC_len, hev]; exact b4) (maps_ok hw L1 hB) (fun kt3 kl3 fk L3 => ⟨by rw [f1.1, nI_clamp (by omega)]; exact hm, ?_⟩)
  rw [hev] at L3
  refine c_verdict hck hnc hc hj3.1 L3.f (fun j4 mc4 md4 fj => ?_)
  have kE3 : KtE 744 kt2 kt3 := KtE.of fk no5
  exact kA (by omega) k2 kt3 kl3 j4 mc4 md4 f1 f2 ⟨(fj.2.1 1 (by simp)).trans hj3.1, (fj.2.1 2 (by simp)).trans hj3.2⟩ ((fk.2.1 6 (by decide)).trans f4) (f5.tr (kE3.le (by omega))) (kE3.tf f6 (by omega))
theorem pk_fit (hw : ∀ m, m < nm → MkWF tb nc m) (hr : ∀ m, m < nm → MkRel tb (mk m) m) (hn : nm ≤ 30) (hck : ∀ i, i < nc → CkWF (ck i) i) (hnc : nc ≤ 40) {m a c i : Nat} (hm : m < nm) (q : tb 0 m = 5) (ha : a < m) (ea : tb 1 m = nI a) (ec : tb 2 m = nI c) (hc : c < nc) (hi : i < 8) {s s1 : Int64} {e e1 : Nat} {L1 : List Nd} (g1 : GrC ck mk tb nm nc w a s e 1 L1 s1 (e1 + 1)) (he : e1 < 2000) (h1 : CF tb L1 [some a]) (hv : vdL ck tb L1 c = 1) : PkC ck mk tb nm nc w m i s e 1 L1 s1 e1 := by
  intro D d p z f k kt kl j mc md Post hD hd hp hf hk hs h6 hz1 hz2 hj K
  obtain ⟨g, rfl⟩ : ∃ g, f = g + 1 := ⟨f - 1, by omega⟩
  refine pk_ask hw hr hn hck hnc hm q ha ea ec hc hi g1 he h1 hD hd hp hk hs h6 hz1 hz2 hj (fun hb k3 kt3 kl3 j3 mc3 md3 u1 u2 u3 u4 u5 u6 => ?_)
  rw [hv]
  exact ⟨fun z => absurd z (by decide), fun _ => ⟨fun z => absurd rfl z, fun _ => K k3 kt3 kl3 j3 mc3 md3 u1 (fun _ => u2) u3 (by rw [u4]; exact nI_pos (by omega)) (fun _ => ⟨u4, u5, u6⟩)⟩⟩
theorem pk_throw (hw : ∀ m, m < nm → MkWF tb nc m) (hr : ∀ m, m < nm → MkRel tb (mk m) m) (hn : nm ≤ 30) (hck : ∀ i, i < nc → CkWF (ck i) i) (hnc : nc ≤ 40) {m a c i : Nat} (hm : m < nm) (q : tb 0 m = 5) (ha : a < m) (ea : tb 1 m = nI a) (ec : tb 2 m = nI c) (hc : c < nc) (hi : i < 8) {s s1 s2 : Int64} {e e1 : Nat} {L1 L : List Nd} (g1 : GrC ck mk tb nm nc w a s e 1 L1 s1 (e1 + 1)) (he : e1 < 2000) (h1 : CF tb L1 [some a]) (hv : ¬ vdL ck tb L1 c = 1) (hv0 : ¬ vdL ck tb L1 c = 0) : PkC ck mk tb nm nc w m i s e (-5) L s2 e1 := by
  intro D d p z f k kt kl j mc md Post hD hd hp hf hk hs h6 hz1 hz2 hj K
  obtain ⟨g, rfl⟩ : ∃ g, f = g + 1 := ⟨f - 1, by omega⟩
  refine pk_ask hw hr hn hck hnc hm q ha ea ec hc hi g1 he h1 hD hd hp hk hs h6 hz1 hz2 hj (fun hb k3 kt3 kl3 j3 mc3 md3 u1 u2 u3 u4 u5 u6 => ?_)
  exact ⟨fun z => absurd z hv0, fun _ => ⟨fun _ => K k3 kt3 kl3 j3 mc3 md3 u1 (fun z => absurd z (by decide)) u3 (by rw [u4]; exact nI_pos (by omega)) (fun z => absurd z (by decide)), fun z => absurd z hv⟩⟩
theorem pk_again (hw : ∀ m, m < nm → MkWF tb nc m) (hr : ∀ m, m < nm → MkRel tb (mk m) m) (hn : nm ≤ 30) (hck : ∀ i, i < nc → CkWF (ck i) i) (hnc : nc ≤ 40) {m a c i : Nat} (hm : m < nm) (q : tb 0 m = 5) (ha : a < m) (ea : tb 1 m = nI a) (ec : tb 2 m = nI c) (hc : c < nc) (hi : i < 8) {s s1 s2 : Int64} {e e1 e2 : Nat} {r : Int32} {L1 L : List Nd} (g1 : GrC ck mk tb nm nc w a s e 1 L1 s1 (e1 + 1)) (he : e1 < 2000) (h1 : CF tb L1 [some a]) (hv : vdL ck tb L1 c = 0) (hn2 : PkC ck mk tb nm nc w m (i + 1) s1 e1 r L s2 e2) : PkC ck mk tb nm nc w m i s e r L s2 e2 := by
  intro D d p z f k kt kl j mc md Post hD hd hp hf hk hs h6 hz1 hz2 hj K
  obtain ⟨g, rfl⟩ : ∃ g, f = g + 1 := ⟨f - 1, by omega⟩
  refine pk_ask hw hr hn hck hnc hm q ha ea ec hc hi g1 he h1 hD hd hp hk hs h6 hz1 hz2 hj (fun hb k3 kt3 kl3 j3 mc3 md3 u1 u2 u3 u4 u5 u6 => ?_)
  refine ⟨fun _ => hn2 D d p _ g k3 kt3 kl3 j3 mc3 md3 Post hD hd hp (by omega) u1 u2 u4 (by omega) hb u3 (fun k4 kt4 kl4 j4 mc4 md4 v1 v2 v3 v4 v5 => K k4 kt4 kl4 j4 mc4 md4 v1 v2 v3 v4 (fun y => ?_)), fun z => absurd hv z⟩
  obtain ⟨a1, a2, a3⟩ := v5 y
  exact ⟨a1, u5.tr a2, a3⟩
set_option maxHeartbeats 4000000 in
theorem c_picked (hw : ∀ m, m < nm → MkWF tb nc m) (hr : ∀ m, m < nm → MkRel tb (mk m) m) (hn : nm ≤ 30) {m : Nat} (hm : m < nm) {a c : Nat} {s s2 : Int64} {e e2 : Nat} {r : Int32} {L1 : List Nd} (q : tb 0 m = 5) (ha : a < m) (ea : tb 1 m = nI a) (ec : tb 2 m = nI c) (g : PkC ck mk tb nm nc w m 0 s e r L1 s2 e2) (h1 : r = 1 → CF tb L1 [some a]) : GrC ck mk tb nm nc w m s e r ((some m, 0) :: L1) s2 e2 := by
  intro D d p par k kt kl j mc md Post hD hd hp hk hs h6 hj K
  obtain ⟨D, rfl⟩ : ∃ D', D = D' + 1 := ⟨D - 1, by omega⟩
  have hn1 : m < (k.2.1 1).toNatClampNeg := by rw [hk.1, nI_clamp (by omega)]; exact hm
  have kd : (mk m).2.1 0 = 5 := (hr m hm).1.trans q
  show w_X5_grow ck mk (w_grow ck mk D) (nI m) par (nI d) k kt kl j mc md Post
  unfold w_X5_grow
  refine k_at_y hk.1 hn hm rfl ⟨rfl, fun z => (nomatch z), fun i ei => ?_⟩
  cases ei
  refine ⟨fun _ => ⟨hn1, ?_⟩, fun z => absurd (show nI d < 30 by rw [show (30 : Int32) = nI 30 from rfl, nI_ltI (by omega) (by omega)]; omega) z⟩
  have wp := (wt_pos (hw m hm)).1
  have wb : 1 * 2 ≤ wtN tb m * (m + 2) := Nat.mul_le_mul wp (by omega)
  have hx : ∀ v : Int32, (tb 0 m = 1 → ∃ j : Nat, j ≤ (tb 3 m).toNatClampNeg ∧ v = nI j) → (tb 0 m = 6 → v = tb 3 m) → okX tb nm (some m, v) := fun v h1 h6 m2 e2 => by cases e2; exact ⟨hm, h1, h6⟩
  refine c_tadd h6 (by omega) (fun kt1 a6 aE a0 a1 a2 a3 a4 => ⟨fun _ => ⟨hn1, jn_mk ⟨fun z => absurd (kd.symm.trans z) (by decide), fun z => absurd (kd.symm.trans z) (by decide), fun z => absurd (kd.symm.trans z) (by decide), fun z => absurd (kd.symm.trans z) (by decide), fun z => absurd (kd.symm.trans z) (by decide), fun _ => ?_, fun z => absurd (kd.symm.trans z) (by decide), fun z => absurd kd z.2.2.2.2.2.1⟩⟩, fun z => absurd (nI_pos' (by omega)) z⟩)
  rw [kd] at a0
  obtain ⟨e1', e2'⟩ := c_pick1 hr hm q ea ec
  have ek : kidsT tb (some m, 0) = [some a] := by rw [kids_5 q, oneN_eq (by omega) ea]
  have kb := kb_one hw hn (hx 0 (fun z => absurd (q.symm.trans z) (by decide)) (fun z => absurd (q.symm.trans z) (by decide))) ek
  refine ⟨hn1, ?_⟩
  rw [e2']
  refine c_setV a6 (by omega) (by omega) ⟨9, g D d p (p + 1) 9 k (Tu kt1 1 p (nI c)) kl j mc md (fun r84 k_85 kt_86 kl_87 j_88 mc_89 md_90 => w_X8_close (nI p) kt_86 (fun kt_106 => Post r84 k_85 kt_106 kl_87 j_88 mc_89 md_90)) hD hd hp (by omega) hk hs a6 (Nat.le_refl _) (by omega) hj (fun k3 kt3 kl3 j3 mc3 md3 u1 u2 u3 u4 u5 => ?_)⟩
  by_cases q2 : r = 1
  · subst q2
    obtain ⟨v6, vE, vF⟩ := u5 rfl
    obtain ⟨b2, cc2⟩ := CF_len hw hn (by omega) (h1 rfl)
    have hcf : CF tb L1 (kidsT tb (some m, 0)) := by rw [ek]; exact h1 rfl
    have eC := cenc_one hcf
    rw [res_0 (by rw [q]; decide), List.append_nil] at eC
    exact c_fin1 K eC (by rw [cn_5 q]; exact cc2) (c_bd (kt1 := kt1) (v := nI c) v6 vE (by rw [cn_5 q]; exact a0) (by rw [cn_5 q]; exact ec.symm) (by rw [cn_5 q]; exact a2) a3 vF) (aE.tr (Tu_E.tr (vE.le (by omega)))) (by omega) u1 (u2 rfl) u3
  · exact c_finN q2 K u4 (by omega) u1 u3
end
