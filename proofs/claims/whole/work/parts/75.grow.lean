/-! MAKING in the class, kind by kind -/
def KC (nm : Nat) (w : Int32) (k : Ob) : Prop := k.2.1 1 = nI nm ∧ k.2.1 6 = w
def JC (nc e : Nat) (j : Ob) : Prop := j.2.1 1 = nI nc ∧ j.2.1 2 = nI e
abbrev PC : Type := Int32 → Ob → Ob → Ob → Ob → Ob → Ob → Prop
/-- what follows a forest that was added at p -/
def FinC (tb : Tb) (nm nc : Nat) (w : Int32) (p : Nat) (par : Int32) (kt : Ob) (r : Int32) (L : List Nd) (s2 : Int64) (e2 : Nat) (Post : PC) : Prop := ∀ k2 kt2 kl2 j2 mc2 md2, KC nm w k2 → (r = 1 → k2.1 5 = s2) → JC nc e2 j2 → ¬ kt2.2.1 6 < 0 → (r = 1 → kt2.2.1 6 = nI (p + (cenc tb L).length) ∧ KtE p kt kt2 ∧ TrF kt2 p par (cenc tb L)) → Post r k2 kt2 kl2 j2 mc2 md2
def GrC (ck mk : Nat → Ob) (tb : Tb) (nm nc : Nat) (w : Int32) (m : Nat) (s : Int64) (e : Nat) (r : Int32) (L : List Nd) (s2 : Int64) (e2 : Nat) : Prop := ∀ (D d p : Nat) (par : Int32) (k kt kl j mc md : Ob) (Post : PC), m < D → d + m < 30 → p + wtN tb m * (m + 2) ≤ 744 → KC nm w k → k.1 5 = s → kt.2.1 6 = nI p → JC nc e j → FinC tb nm nc w p par kt r L s2 e2 Post → w_grow ck mk D (nI m) par (nI d) k kt kl j mc md Post
def BdP (par : Int32) (p : Nat) (c0 : CN) (F : List CN) (kt : Ob) : Prop := kt.2.1 6 = nI (p + 1 + F.length) ∧ kt.2.2 0 p = c0.1 ∧ kt.2.2 1 p = c0.2.1 ∧ kt.2.2 2 p = c0.2.2 ∧ kt.2.2 3 p = par ∧ TrF kt (p + 1) (nI p) F
theorem cenc_one {tb : Tb} {x : Nd} {L1 : List Nd} (h1 : CF tb L1 (kidsT tb x)) : cenc tb (x :: L1) = cnN tb x :: (cenc tb L1 ++ resT tb x) := by
  have := cenc_tree (L2 := []) h1
  rw [List.append_nil, show cenc tb [] = [] from rfl, List.append_nil] at this
  exact this
theorem res_0 {tb : Tb} {m : Nat} {v : Int32} (h : ¬ tb 0 m = 7) : resT tb (some m, v) = [] := by
  unfold resT bel; rw [kindN_s, if_neg (by rw [decide_eq_true_eq]; exact h)]
theorem res_7 {tb : Tb} {m : Nat} {v : Int32} (h : tb 0 m = 7) : resT tb (some m, v) = [(9, v, 0)] := if_pos (decide_eq_true h)
def bnd (x : Int32) : Int32 := if 0 ≤ x then (if x ≤ 1000000 then x else 1000000) else 0
def evB (tb : Tb) (L : List Nd) : Int32 := bnd (sumA (hg (evR tb L)) (evR tb L).length 0 0)
theorem j_bnd {x : Int32} {Q : Int32 → Prop} (h : Q (bnd x)) : w_J9_min_7cf53 x 1000000 (fun r => w_J9_max_7cf53 0 r (fun r2 => Q r2)) := by
  unfold bnd at h
  refine ⟨fun c => ⟨fun c2 => ?_, fun c2 => absurd (show (0 : Int32) < 1000000 by decide) c2⟩, fun c => ⟨fun c2 => ?_, fun c2 => ?_⟩⟩
  · rwa [if_pos (Int32.le_of_lt (Int32.lt_trans (show (0 : Int32) < 1000000 by decide) c)), if_neg (Int32.not_le.mpr c)] at h
  · rwa [if_pos (Int32.le_of_lt c2), if_pos (Int32.not_lt.mp c)] at h
  · by_cases z : 0 ≤ x
    · have e : x = 0 := Int32.le_antisymm (Int32.not_lt.mp c2) z
      rwa [if_pos z, if_pos (Int32.not_lt.mp c), e] at h
    · rwa [if_neg z] at h
section
variable {ck mk : Nat → Ob} {tb : Tb} {nm nc : Nat} {w : Int32}
theorem c_fin1 {p : Nat} {par : Int32} {kt kt' k' kl' j' mc' md' : Ob} {x : Nd} {L1 : List Nd} {F : List CN} {s2 : Int64} {e2 : Nat} {Post : PC} (K : FinC tb nm nc w p par kt 1 (x :: L1) s2 e2 Post) (eC : cenc tb (x :: L1) = cnN tb x :: F) (cc : CC F (arC (cnN tb x))) (B : BdP par p (cnN tb x) F kt') (E : KtE p kt kt') (hl : p + 1 + F.length ≤ 744) (hk : KC nm w k') (hs : k'.1 5 = s2) (hj : JC nc e2 j') : w_X8_close (nI p) kt' (fun kt_106 => Post 1 k' kt_106 kl' j' mc' md') := by
  obtain ⟨b6, b0, b1, b2, b3, bF⟩ := B
  have e6 : (Tu kt' 4 p (nI (p + 1 + F.length))).2.1 6 = nI (p + (cenc tb (x :: L1)).length) := by
    rw [eC, List.length_cons, show p + (F.length + 1) = p + 1 + F.length by omega]; exact b6
  refine c_clo b6 (by omega) hl (K k' (Tu kt' 4 p (nI (p + 1 + F.length))) kl' j' mc' md' hk (fun _ => hs) hj ?_ (fun _ => ⟨e6, E.tr Tu_E, ?_⟩))
  · rw [show (Tu kt' 4 p (nI (p + 1 + F.length))).2.1 6 = _ from e6]; exact nI_pos (by rw [eC, List.length_cons]; omega)
  · rw [eC]
    exact TrF.cons cc ((Tu_nf (by omega)).trans b0) ((Tu_nf (by omega)).trans b1) ((Tu_nf (by omega)).trans b2) ((Tu_nf (by omega)).trans b3) Tu_us (bF.tu (Or.inl (by omega)))
theorem c_finN {p : Nat} {par : Int32} {kt kt' k' kl' j' mc' md' : Ob} {r : Int32} {L : List Nd} {s2 : Int64} {e2 : Nat} {Post : PC} (hr : ¬ r = 1) (K : FinC tb nm nc w p par kt r L s2 e2 Post) (h6 : ¬ kt'.2.1 6 < 0) (hp : p < 744) (hk : KC nm w k') (hj : JC nc e2 j') : w_X8_close (nI p) kt' (fun kt_106 => Post r k' kt_106 kl' j' mc' md') :=
  c_cloF (fun kt2 e => K k' kt2 kl' j' mc' md' hk (fun z => absurd z hr) hj (by rw [e]; exact h6) (fun z => absurd z hr)) (fun _ _ => vp_in_nI hp (by omega))
theorem c_numB {k : Ob} {s : Int64} {v : Int32} {Post : Int32 → Ob → Prop} (hs : k.1 5 = s) (h : Post (outD (nxt s) v) (sl k.1 5 (nxt s), k.2.1, k.2.2)) : w_X5_numberBelow v k Post := by
  subst hs; exact h
theorem slP {k : Ob} {x : Int64} : (sl k.1 5 x, k.2.1, k.2.2).1 5 = x := by
  show sl k.1 5 x 5 = x
  exact if_pos rfl
theorem CF_len (hw : ∀ m, m < nm → MkWF tb nc m) (hn : nm ≤ 30) {a : Nat} {L : List Nd} (ha : a < nm) (hc : CF tb L [some a]) : (cenc tb L).length ≤ wtN tb a * (a + 2) ∧ CC (cenc tb L) 1 := by
  have hb := CF_BN hw hn ha hc
  have h := (CF_bd hn hw L _ hc hb).1
  have h : (cenc tb L).length ≤ wtN tb a * (a + 2) + 0 := h
  exact ⟨h, CC_cenc hw L _ hc hb⟩
theorem kb_one (hw : ∀ m, m < nm → MkWF tb nc m) (hn : nm ≤ 30) {m a : Nat} {v : Int32} (hX : okX tb nm (some m, v)) (ek : kidsT tb (some m, v) = [some a]) : 1 + wtN tb a * (a + 2) + (resT tb (some m, v)).length ≤ wtN tb m * (m + 2) := by
  have := (kid_bd hn hw hX).1
  rw [ek] at this
  have h : 1 + (wtN tb a * (a + 2) + 0) + (resT tb (some m, v)).length ≤ wtN tb m * (m + 2) := this
  omega
theorem kb_two (hw : ∀ m, m < nm → MkWF tb nc m) (hn : nm ≤ 30) {m a b : Nat} {v : Int32} (hX : okX tb nm (some m, v)) (ek : kidsT tb (some m, v) = [some a, some b]) : 1 + wtN tb a * (a + 2) + wtN tb b * (b + 2) ≤ wtN tb m * (m + 2) := by
  have := (kid_bd hn hw hX).1
  rw [ek] at this
  have h : 1 + (wtN tb a * (a + 2) + (wtN tb b * (b + 2) + 0)) + (resT tb (some m, v)).length ≤ wtN tb m * (m + 2) := this
  omega
/-- the root of a node, its parts having been added behind it -/
theorem c_bd {par v : Int32} {p : Nat} {c0 : CN} {F : List CN} {kt1 kt3 : Ob} (h6 : kt3.2.1 6 = nI (p + 1 + F.length)) (E : KtE (p + 1) (Tu kt1 1 p v) kt3) (a0 : kt1.2.2 0 p = c0.1) (ev : v = c0.2.1) (a2 : kt1.2.2 2 p = c0.2.2) (a3 : kt1.2.2 3 p = par) (t : TrF kt3 (p + 1) (nI p) F) : BdP par p c0 F kt3 :=
  ⟨h6, (E 0 (by omega) p (by omega)).trans ((Tu_nf (by omega)).trans a0), (E 1 (by omega) p (by omega)).trans (Tu_us.trans ev), (E 2 (by omega) p (by omega)).trans ((Tu_nf (by omega)).trans a2), (E 3 (by omega) p (by omega)).trans ((Tu_nf (by omega)).trans a3), t⟩
theorem c_bd0 {par : Int32} {p : Nat} {c0 : CN} {F : List CN} {kt1 kt3 : Ob} (h6 : kt3.2.1 6 = nI (p + 1 + F.length)) (E : KtE (p + 1) kt1 kt3) (a0 : kt1.2.2 0 p = c0.1) (a1 : kt1.2.2 1 p = c0.2.1) (a2 : kt1.2.2 2 p = c0.2.2) (a3 : kt1.2.2 3 p = par) (t : TrF kt3 (p + 1) (nI p) F) : BdP par p c0 F kt3 :=
  ⟨h6, (E 0 (by omega) p (by omega)).trans a0, (E 1 (by omega) p (by omega)).trans a1, (E 2 (by omega) p (by omega)).trans a2, (E 3 (by omega) p (by omega)).trans a3, t⟩
set_option maxHeartbeats 4000000 in
theorem c_whole (hw : ∀ m, m < nm → MkWF tb nc m) (hr : ∀ m, m < nm → MkRel tb (mk m) m) (hn : nm ≤ 30) {m : Nat} (hm : m < nm) (q : tb 0 m = 0) (s : Int64) (e : Nat) : GrC ck mk tb nm nc w m s e 1 [(some m, tb 3 m + outD (nxt s) (tb 4 m - tb 3 m + 1))] (nxt s) e := by
  intro D d p par k kt kl j mc md Post hD hd hp hk hs h6 hj K
  obtain ⟨D, rfl⟩ : ∃ D', D = D' + 1 := ⟨D - 1, by omega⟩
  have hn1 : m < (k.2.1 1).toNatClampNeg := by rw [hk.1, nI_clamp (by omega)]; exact hm
  have kd : (mk m).2.1 0 = 0 := (hr m hm).1.trans q
  show w_X5_grow ck mk (w_grow ck mk D) (nI m) par (nI d) k kt kl j mc md Post
  unfold w_X5_grow
  refine k_at_y hk.1 hn hm rfl ⟨rfl, fun z => (nomatch z), fun i ei => ?_⟩
  cases ei
  refine ⟨fun _ => ⟨hn1, ?_⟩, fun z => absurd (show nI d < 30 by rw [show (30 : Int32) = nI 30 from rfl, nI_ltI (by omega) (by omega)]; omega) z⟩
  have wp := (wt_pos (hw m hm)).1
  have wb : 1 * 2 ≤ wtN tb m * (m + 2) := Nat.mul_le_mul wp (by omega)
  have hx : ∀ v : Int32, (tb 0 m = 1 → ∃ j : Nat, j ≤ (tb 3 m).toNatClampNeg ∧ v = nI j) → (tb 0 m = 6 → v = tb 3 m) → okX tb nm (some m, v) := fun v h1 h6 m2 e2 => by cases e2; exact ⟨hm, h1, h6⟩
  refine c_tadd h6 (by omega) (fun kt1 a6 aE a0 a1 a2 a3 a4 => ⟨fun _ => ⟨hn1, jn_mk ⟨fun _ => ?_, fun z => absurd (kd.symm.trans z) (by decide), fun z => absurd (kd.symm.trans z) (by decide), fun z => absurd (kd.symm.trans z) (by decide), fun z => absurd (kd.symm.trans z) (by decide), fun z => absurd (kd.symm.trans z) (by decide), fun z => absurd (kd.symm.trans z) (by decide), fun z => absurd kd z.1⟩⟩, fun z => absurd (nI_pos' (by omega)) z⟩)
  rw [kd] at a0
  obtain ⟨-, -, -, r0, -⟩ := hr m hm
  obtain ⟨r1, r2⟩ := r0 q
  rw [r1, r2]
  have hk2 : KC nm w (sl k.1 5 (nxt s), k.2.1, k.2.2) := hk
  refine ⟨hn1, hn1, hn1, c_numB hs ⟨rfl, c_setV a6 (by omega) (by omega) ⟨hn1, hn1, ?_⟩⟩⟩
  have go : w_X8_setGoal (nI p) (goalN tb m) (Tu kt1 1 p (tb 3 m + outD (nxt s) (tb 4 m - tb 3 m + 1))) (fun kt_24 => w_X8_close (nI p) kt_24 (fun kt_106 => Post 1 (sl k.1 5 (nxt s), k.2.1, k.2.2) kt_106 kl j mc md)) := by
    refine c_setG (z := p + 1) a6 (by omega) (by omega) ?_
    have eC : cenc tb [(some m, tb 3 m + outD (nxt s) (tb 4 m - tb 3 m + 1))] = cnN tb (some m, tb 3 m + outD (nxt s) (tb 4 m - tb 3 m + 1)) :: [] := by
      rw [cenc_one (L1 := []) (show CF tb [] (kidsT tb _) by rw [kids_0 q]; rfl), res_0 (by rw [q]; decide)]; rfl
    refine c_fin1 (kt' := Tu (Tu kt1 1 p (tb 3 m + outD (nxt s) (tb 4 m - tb 3 m + 1))) 2 p (goalN tb m)) K eC (by rw [cn_0 q]; rfl) ?_ (aE.tr (Tu_E.tr Tu_E)) (by show p + 1 + 0 ≤ 744; omega) hk2 (slP (k := k) (x := nxt s)) hj
    rw [cn_0 q]
    exact ⟨a6, (Tu_nf (by omega)).trans ((Tu_nf (by omega)).trans a0), (Tu_nf (by omega)).trans Tu_us, Tu_us, (Tu_nf (by omega)).trans ((Tu_nf (by omega)).trans a3), TrF.nil⟩
  unfold goalN at go
  refine ⟨fun c => ⟨fun c2 => ?_, fun c2 => ?_⟩, fun c => ⟨fun c2 => ?_, fun c2 => ?_⟩⟩
  · rw [if_pos c, if_pos c2] at go; exact go
  · rw [if_pos c, if_neg c2] at go; exact go
  · rw [if_neg c, if_pos c2] at go; exact go
  · rw [if_neg c, if_neg c2] at go; exact go
theorem c_two (hw : ∀ m, m < nm → MkWF tb nc m) (hr : ∀ m, m < nm → MkRel tb (mk m) m) (hn : nm ≤ 30) {m : Nat} (hm : m < nm) {a b : Nat} (q : tb 0 m = 2) (ea : tb 1 m = nI a) (eb : tb 2 m = nI b) : (mk m).2.1 1 = nI a ∧ (mk m).2.1 2 = nI b := by
  obtain ⟨-, -, -, -, -, r2, -⟩ := hr m hm
  obtain ⟨r1, r2⟩ := r2 q
  exact ⟨r1.trans ea, r2.trans eb⟩
set_option maxHeartbeats 4000000 in
theorem c_pair_a (hw : ∀ m, m < nm → MkWF tb nc m) (hr : ∀ m, m < nm → MkRel tb (mk m) m) (hn : nm ≤ 30) {m : Nat} (hm : m < nm) {a b : Nat} (q : tb 0 m = 2) (ha : a < m) (hb : b < m) (ea : tb 1 m = nI a) (eb : tb 2 m = nI b) {s s1 s2 : Int64} {e e1 : Nat} {r1 : Int32} {L1 L : List Nd} (g1 : GrC ck mk tb nm nc w a s e r1 L1 s1 e1) (n1 : ¬ r1 = 1) : GrC ck mk tb nm nc w m s e r1 L s2 e1 := by
  intro D d p par k kt kl j mc md Post hD hd hp hk hs h6 hj K
  obtain ⟨D, rfl⟩ : ∃ D', D = D' + 1 := ⟨D - 1, by omega⟩
  have hn1 : m < (k.2.1 1).toNatClampNeg := by rw [hk.1, nI_clamp (by omega)]; exact hm
  have kd : (mk m).2.1 0 = 2 := (hr m hm).1.trans q
  show w_X5_grow ck mk (w_grow ck mk D) (nI m) par (nI d) k kt kl j mc md Post
  unfold w_X5_grow
  refine k_at_y hk.1 hn hm rfl ⟨rfl, fun z => (nomatch z), fun i ei => ?_⟩
  cases ei
  refine ⟨fun _ => ⟨hn1, ?_⟩, fun z => absurd (show nI d < 30 by rw [show (30 : Int32) = nI 30 from rfl, nI_ltI (by omega) (by omega)]; omega) z⟩
  have wp := (wt_pos (hw m hm)).1
  have wb : 1 * 2 ≤ wtN tb m * (m + 2) := Nat.mul_le_mul wp (by omega)
  have hx : ∀ v : Int32, (tb 0 m = 1 → ∃ j : Nat, j ≤ (tb 3 m).toNatClampNeg ∧ v = nI j) → (tb 0 m = 6 → v = tb 3 m) → okX tb nm (some m, v) := fun v h1 h6 m2 e2 => by cases e2; exact ⟨hm, h1, h6⟩
  refine c_tadd h6 (by omega) (fun kt1 a6 aE a0 a1 a2 a3 a4 => ⟨fun _ => ⟨hn1, jn_mk ⟨fun z => absurd (kd.symm.trans z) (by decide), fun z => absurd (kd.symm.trans z) (by decide), fun _ => ?_, fun z => absurd (kd.symm.trans z) (by decide), fun z => absurd (kd.symm.trans z) (by decide), fun z => absurd (kd.symm.trans z) (by decide), fun z => absurd (kd.symm.trans z) (by decide), fun z => absurd kd z.2.2.1⟩⟩, fun z => absurd (nI_pos' (by omega)) z⟩)
  rw [kd] at a0
  obtain ⟨r1', r2'⟩ := c_two hw hr hn hm q ea eb
  rw [r1', nI_1]
  have kb := kb_two hw hn (hx 0 (fun z => absurd (q.symm.trans z) (by decide)) (fun z => absurd (q.symm.trans z) (by decide))) (show kidsT tb (some m, 0) = [some a, some b] by rw [kids_2 q, oneN_eq (by omega) ea, twoN_eq (by omega) eb])
  refine c_setV a6 (by omega) (by omega) ⟨hn1, g1 D (d + 1) (p + 1) (nI p) k (Tu kt1 1 p 2) kl j mc md _ (by omega) (by omega) (by omega) hk hs a6 hj (fun k2 kt2 kl2 j2 mc2 md2 f1 f2 f3 f4 f5 => ⟨fun _ => c_finN n1 K f4 (by omega) f1 f3, fun z => absurd z n1⟩)⟩
set_option maxHeartbeats 4000000 in
theorem c_pair_b (hw : ∀ m, m < nm → MkWF tb nc m) (hr : ∀ m, m < nm → MkRel tb (mk m) m) (hn : nm ≤ 30) {m : Nat} (hm : m < nm) {a b : Nat} (q : tb 0 m = 2) (ha : a < m) (hb : b < m) (ea : tb 1 m = nI a) (eb : tb 2 m = nI b) {s s1 s2 : Int64} {e e1 e2 : Nat} {r2 : Int32} {L1 L2 : List Nd} (g1 : GrC ck mk tb nm nc w a s e 1 L1 s1 e1) (h1 : CF tb L1 [some a]) (g2 : GrC ck mk tb nm nc w b s1 e1 r2 L2 s2 e2) (h2 : r2 = 1 → CF tb L2 [some b]) : GrC ck mk tb nm nc w m s e r2 ((some m, 0) :: (L1 ++ L2)) s2 e2 := by
  intro D d p par k kt kl j mc md Post hD hd hp hk hs h6 hj K
  obtain ⟨D, rfl⟩ : ∃ D', D = D' + 1 := ⟨D - 1, by omega⟩
  have hn1 : m < (k.2.1 1).toNatClampNeg := by rw [hk.1, nI_clamp (by omega)]; exact hm
  have kd : (mk m).2.1 0 = 2 := (hr m hm).1.trans q
  show w_X5_grow ck mk (w_grow ck mk D) (nI m) par (nI d) k kt kl j mc md Post
  unfold w_X5_grow
  refine k_at_y hk.1 hn hm rfl ⟨rfl, fun z => (nomatch z), fun i ei => ?_⟩
  cases ei
  refine ⟨fun _ => ⟨hn1, ?_⟩, fun z => absurd (show nI d < 30 by rw [show (30 : Int32) = nI 30 from rfl, nI_ltI (by omega) (by omega)]; omega) z⟩
  have wp := (wt_pos (hw m hm)).1
  have wb : 1 * 2 ≤ wtN tb m * (m + 2) := Nat.mul_le_mul wp (by omega)
  have hx : ∀ v : Int32, (tb 0 m = 1 → ∃ j : Nat, j ≤ (tb 3 m).toNatClampNeg ∧ v = nI j) → (tb 0 m = 6 → v = tb 3 m) → okX tb nm (some m, v) := fun v h1 h6 m2 e2 => by cases e2; exact ⟨hm, h1, h6⟩
  refine c_tadd h6 (by omega) (fun kt1 a6 aE a0 a1 a2 a3 a4 => ⟨fun _ => ⟨hn1, jn_mk ⟨fun z => absurd (kd.symm.trans z) (by decide), fun z => absurd (kd.symm.trans z) (by decide), fun _ => ?_, fun z => absurd (kd.symm.trans z) (by decide), fun z => absurd (kd.symm.trans z) (by decide), fun z => absurd (kd.symm.trans z) (by decide), fun z => absurd (kd.symm.trans z) (by decide), fun z => absurd kd z.2.2.1⟩⟩, fun z => absurd (nI_pos' (by omega)) z⟩)
  rw [kd] at a0
  obtain ⟨r1', r2'⟩ := c_two hw hr hn hm q ea eb
  rw [r1', r2', nI_1]
  have ek : kidsT tb (some m, 0) = [some a, some b] := by rw [kids_2 q, oneN_eq (by omega) ea, twoN_eq (by omega) eb]
  have kb := kb_two hw hn (hx 0 (fun z => absurd (q.symm.trans z) (by decide)) (fun z => absurd (q.symm.trans z) (by decide))) ek
  obtain ⟨b1, cc1⟩ := CF_len hw hn (by omega) h1
  refine c_setV a6 (by omega) (by omega) ⟨hn1, g1 D (d + 1) (p + 1) (nI p) k (Tu kt1 1 p 2) kl j mc md _ (by omega) (by omega) (by omega) hk hs a6 hj (fun k2 kt2 kl2 j2 mc2 md2 f1 f2 f3 f4 f5 => ⟨fun z => absurd rfl z, fun _ => ?_⟩)⟩
  obtain ⟨t6, tE, tF⟩ := f5 rfl
  refine ⟨by rw [f1.1, ← hk.1]; exact hn1, g2 D (d + 1) (p + 1 + (cenc tb L1).length) (nI p) k2 kt2 kl2 j2 mc2 md2 _ (by omega) (by omega) (by omega) f1 (f2 rfl) t6 f3 (fun k3 kt3 kl3 j3 mc3 md3 u1 u2 u3 u4 u5 => ?_)⟩
  by_cases q2 : r2 = 1
  · subst q2
    obtain ⟨v6, vE, vF⟩ := u5 rfl
    obtain ⟨b2, cc2⟩ := CF_len hw hn (by omega) (h2 rfl)
    have hcf : CF tb (L1 ++ L2) (kidsT tb (some m, 0)) := by rw [ek]; exact CF_app (h2 rfl) L1 _ h1
    have eC := cenc_one hcf
    rw [cenc_app L1 _ h1, res_0 (by rw [q]; decide), List.append_nil] at eC
    have E : KtE (p + 1) (Tu kt1 1 p 2) kt3 := tE.tr (vE.le (by omega))
    refine c_fin1 K eC (by rw [cn_2 q]; exact CC_app cc2 _ _ cc1) (c_bd (kt1 := kt1) (v := 2) ?_ E (by rw [cn_2 q]; exact a0) (by rw [cn_2 q]) (by rw [cn_2 q]; exact a2) a3 (TrF.app cc1 cc2 (vE.tf tF (by omega)) vF)) (aE.tr (Tu_E.tr (E.le (by omega)))) (by rw [List.length_append]; omega) u1 (u2 rfl) u3
    rw [v6, List.length_append]; congr 1; omega
  · exact c_finN q2 K u4 (by omega) u1 u3
set_option maxHeartbeats 4000000 in
theorem c_oneof (hw : ∀ m, m < nm → MkWF tb nc m) (hr : ∀ m, m < nm → MkRel tb (mk m) m) (hn : nm ≤ 30) {m : Nat} (hm : m < nm) {c : Nat} {v : Int32} {s s2 : Int64} {e e2 : Nat} {r : Int32} {L1 : List Nd} (q : tb 0 m = 3) (hc : c < m) (ev : v = if tb 3 m ≤ outD (nxt s) (tb 3 m + tb 4 m) then 1 else 0) (ec1 : v = 1 → tb 2 m = nI c) (ec0 : ¬ v = 1 → tb 1 m = nI c) (g1 : GrC ck mk tb nm nc w c (nxt s) e r L1 s2 e2) (h1 : r = 1 → CF tb L1 [some c]) : GrC ck mk tb nm nc w m s e r ((some m, v) :: L1) s2 e2 := by
  intro D d p par k kt kl j mc md Post hD hd hp hk hs h6 hj K
  obtain ⟨D, rfl⟩ : ∃ D', D = D' + 1 := ⟨D - 1, by omega⟩
  have hn1 : m < (k.2.1 1).toNatClampNeg := by rw [hk.1, nI_clamp (by omega)]; exact hm
  have kd : (mk m).2.1 0 = 3 := (hr m hm).1.trans q
  show w_X5_grow ck mk (w_grow ck mk D) (nI m) par (nI d) k kt kl j mc md Post
  unfold w_X5_grow
  refine k_at_y hk.1 hn hm rfl ⟨rfl, fun z => (nomatch z), fun i ei => ?_⟩
  cases ei
  refine ⟨fun _ => ⟨hn1, ?_⟩, fun z => absurd (show nI d < 30 by rw [show (30 : Int32) = nI 30 from rfl, nI_ltI (by omega) (by omega)]; omega) z⟩
  have wp := (wt_pos (hw m hm)).1
  have wb : 1 * 2 ≤ wtN tb m * (m + 2) := Nat.mul_le_mul wp (by omega)
  have hx : ∀ v : Int32, (tb 0 m = 1 → ∃ j : Nat, j ≤ (tb 3 m).toNatClampNeg ∧ v = nI j) → (tb 0 m = 6 → v = tb 3 m) → okX tb nm (some m, v) := fun v h1 h6 m2 e2 => by cases e2; exact ⟨hm, h1, h6⟩
  refine c_tadd h6 (by omega) (fun kt1 a6 aE a0 a1 a2 a3 a4 => ⟨fun _ => ⟨hn1, jn_mk ⟨fun z => absurd (kd.symm.trans z) (by decide), fun z => absurd (kd.symm.trans z) (by decide), fun z => absurd (kd.symm.trans z) (by decide), fun _ => ?_, fun z => absurd (kd.symm.trans z) (by decide), fun z => absurd (kd.symm.trans z) (by decide), fun z => absurd (kd.symm.trans z) (by decide), fun z => absurd kd z.2.2.2.1⟩⟩, fun z => absurd (nI_pos' (by omega)) z⟩)
  rw [kd] at a0
  obtain ⟨-, -, -, -, -, -, r3, -⟩ := hr m hm
  obtain ⟨r1', r2', r3', r4'⟩ := r3 q
  rw [r1', r2', r3', r4']
  have ek : kidsT tb (some m, v) = [some c] := by
    rw [kids_3 q]
    by_cases z : v = 1
    · rw [if_pos z, twoN_eq (by omega) (ec1 z)]
    · rw [if_neg z, oneN_eq (by omega) (ec0 z)]
  have kb := kb_one hw hn (hx v (fun z => absurd (q.symm.trans z) (by decide)) (fun z => absurd (q.symm.trans z) (by decide))) ek
  have hk2 : KC nm w (sl k.1 5 (nxt s), k.2.1, k.2.2) := hk
  have go : w_grow ck mk D (nI c) (nI p) (nI d + 1) (sl k.1 5 (nxt s), k.2.1, k.2.2) kt1 kl j mc md (fun r64 k_65 kt_66 kl_67 j_68 mc_69 md_70 => w_X8_close (nI p) kt_66 (fun kt_106 => Post r64 k_65 kt_106 kl_67 j_68 mc_69 md_70)) := by
    rw [nI_1]
    refine g1 D (d + 1) (p + 1) (nI p) _ kt1 kl j mc md _ (by omega) (by omega) (by omega) hk2 (slP (k := k) (x := nxt s)) a6 hj (fun k3 kt3 kl3 j3 mc3 md3 u1 u2 u3 u4 u5 => ?_)
    by_cases q2 : r = 1
    · subst q2
      obtain ⟨v6, vE, vF⟩ := u5 rfl
      obtain ⟨b2, cc2⟩ := CF_len hw hn (by omega) (h1 rfl)
      have hcf : CF tb L1 (kidsT tb (some m, v)) := by rw [ek]; exact h1 rfl
      have eC := cenc_one hcf
      rw [res_0 (by rw [q]; decide), List.append_nil] at eC
      exact c_fin1 K eC (by rw [cn_3 q]; exact cc2) (c_bd0 (kt1 := kt1) v6 vE (by rw [cn_3 q]; exact a0) (by rw [cn_3 q]; exact a1) (by rw [cn_3 q]; exact a2) a3 vF) (aE.tr (vE.le (by omega))) (by omega) u1 (u2 rfl) u3
    · exact c_finN q2 K u4 (by omega) u1 u3
  refine ⟨hn1, hn1, c_numB hs ⟨rfl, hn1, jn_mk ⟨fun z => jn_mk ⟨fun _ => ⟨hn1, ?_⟩, fun y => absurd rfl y⟩, fun z => jn_mk ⟨fun y => absurd y (by decide), fun _ => ⟨hn1, ?_⟩⟩⟩⟩⟩
  · rw [ec1 (ev.trans (if_pos z))]; exact go
  · rw [ec0 (by rw [ev, if_neg z]; decide)]; exact go
set_option maxHeartbeats 4000000 in
theorem c_mapped (hw : ∀ m, m < nm → MkWF tb nc m) (hr : ∀ m, m < nm → MkRel tb (mk m) m) (hn : nm ≤ 30) {m : Nat} (hm : m < nm) {a f : Nat} {s s2 : Int64} {e e2 : Nat} {r : Int32} {L1 : List Nd} (q : tb 0 m = 4) (ha : a < m) (ea : tb 1 m = nI a) (g1 : GrC ck mk tb nm nc w a s e r L1 s2 e2) (h1 : r = 1 → CF tb L1 [some a]) : GrC ck mk tb nm nc w m s e r ((some m, 0) :: L1) s2 e2 := by
  intro D d p par k kt kl j mc md Post hD hd hp hk hs h6 hj K
  obtain ⟨D, rfl⟩ : ∃ D', D = D' + 1 := ⟨D - 1, by omega⟩
  have hn1 : m < (k.2.1 1).toNatClampNeg := by rw [hk.1, nI_clamp (by omega)]; exact hm
  have kd : (mk m).2.1 0 = 4 := (hr m hm).1.trans q
  show w_X5_grow ck mk (w_grow ck mk D) (nI m) par (nI d) k kt kl j mc md Post
  unfold w_X5_grow
  refine k_at_y hk.1 hn hm rfl ⟨rfl, fun z => (nomatch z), fun i ei => ?_⟩
  cases ei
  refine ⟨fun _ => ⟨hn1, ?_⟩, fun z => absurd (show nI d < 30 by rw [show (30 : Int32) = nI 30 from rfl, nI_ltI (by omega) (by omega)]; omega) z⟩
  have wp := (wt_pos (hw m hm)).1
  have wb : 1 * 2 ≤ wtN tb m * (m + 2) := Nat.mul_le_mul wp (by omega)
  have hx : ∀ v : Int32, (tb 0 m = 1 → ∃ j : Nat, j ≤ (tb 3 m).toNatClampNeg ∧ v = nI j) → (tb 0 m = 6 → v = tb 3 m) → okX tb nm (some m, v) := fun v h1 h6 m2 e2 => by cases e2; exact ⟨hm, h1, h6⟩
  refine c_tadd h6 (by omega) (fun kt1 a6 aE a0 a1 a2 a3 a4 => ⟨fun _ => ⟨hn1, jn_mk ⟨fun z => absurd (kd.symm.trans z) (by decide), fun z => absurd (kd.symm.trans z) (by decide), fun z => absurd (kd.symm.trans z) (by decide), fun z => absurd (kd.symm.trans z) (by decide), fun _ => ?_, fun z => absurd (kd.symm.trans z) (by decide), fun z => absurd (kd.symm.trans z) (by decide), fun z => absurd kd z.2.2.2.2.1⟩⟩, fun z => absurd (nI_pos' (by omega)) z⟩)
  rw [kd] at a0
  obtain ⟨-, -, -, -, -, -, -, r4, -⟩ := hr m hm
  obtain ⟨r1', r2'⟩ := r4 q
  rw [r1', r2', ea, nI_1]
  have ek : kidsT tb (some m, 0) = [some a] := by rw [kids_4 q, oneN_eq (by omega) ea]
  have kb := kb_one hw hn (hx 0 (fun z => absurd (q.symm.trans z) (by decide)) (fun z => absurd (q.symm.trans z) (by decide))) ek
  refine ⟨hn1, c_setV a6 (by omega) (by omega) ⟨hn1, g1 D (d + 1) (p + 1) (nI p) k (Tu kt1 1 p (tb 3 m)) kl j mc md _ (by omega) (by omega) (by omega) hk hs a6 hj (fun k3 kt3 kl3 j3 mc3 md3 u1 u2 u3 u4 u5 => ?_)⟩⟩
  by_cases q2 : r = 1
  · subst q2
    obtain ⟨v6, vE, vF⟩ := u5 rfl
    obtain ⟨b2, cc2⟩ := CF_len hw hn (by omega) (h1 rfl)
    have hcf : CF tb L1 (kidsT tb (some m, 0)) := by rw [ek]; exact h1 rfl
    have eC := cenc_one hcf
    rw [res_0 (by rw [q]; decide), List.append_nil] at eC
    exact c_fin1 K eC (by rw [cn_4 q]; exact cc2) (c_bd (kt1 := kt1) (v := tb 3 m) v6 vE (by rw [cn_4 q]; exact a0) (by rw [cn_4 q]) (by rw [cn_4 q]; exact a2) a3 vF) (aE.tr (Tu_E.tr (vE.le (by omega)))) (by omega) u1 (u2 rfl) u3
  · exact c_finN q2 K u4 (by omega) u1 u3
theorem c_bel1 (hw : ∀ m, m < nm → MkWF tb nc m) (hr : ∀ m, m < nm → MkRel tb (mk m) m) (hn : nm ≤ 30) {m : Nat} (hm : m < nm) {a : Nat} (q : tb 0 m = 7) (ea : tb 1 m = nI a) : (mk m).2.1 1 = nI a := by
  obtain ⟨-, -, -, -, -, -, -, -, -, -, r7⟩ := hr m hm
  exact (r7 q).trans ea
set_option maxHeartbeats 4000000 in
theorem c_below_a (hw : ∀ m, m < nm → MkWF tb nc m) (hr : ∀ m, m < nm → MkRel tb (mk m) m) (hn : nm ≤ 30) {m : Nat} (hm : m < nm) {a : Nat} {s s1 s2 : Int64} {e e1 : Nat} {r : Int32} {L1 L : List Nd} (q : tb 0 m = 7) (ha : a < m) (ea : tb 1 m = nI a) (g1 : GrC ck mk tb nm nc w a s e r L1 s1 e1) (n1 : ¬ r = 1) : GrC ck mk tb nm nc w m s e r L s2 e1 := by
  intro D d p par k kt kl j mc md Post hD hd hp hk hs h6 hj K
  obtain ⟨D, rfl⟩ : ∃ D', D = D' + 1 := ⟨D - 1, by omega⟩
  have hn1 : m < (k.2.1 1).toNatClampNeg := by rw [hk.1, nI_clamp (by omega)]; exact hm
  have kd : (mk m).2.1 0 = 7 := (hr m hm).1.trans q
  show w_X5_grow ck mk (w_grow ck mk D) (nI m) par (nI d) k kt kl j mc md Post
  unfold w_X5_grow
  refine k_at_y hk.1 hn hm rfl ⟨rfl, fun z => (nomatch z), fun i ei => ?_⟩
  cases ei
  refine ⟨fun _ => ⟨hn1, ?_⟩, fun z => absurd (show nI d < 30 by rw [show (30 : Int32) = nI 30 from rfl, nI_ltI (by omega) (by omega)]; omega) z⟩
  have wp := (wt_pos (hw m hm)).1
  have wb : 1 * 2 ≤ wtN tb m * (m + 2) := Nat.mul_le_mul wp (by omega)
  have hx : ∀ v : Int32, (tb 0 m = 1 → ∃ j : Nat, j ≤ (tb 3 m).toNatClampNeg ∧ v = nI j) → (tb 0 m = 6 → v = tb 3 m) → okX tb nm (some m, v) := fun v h1 h6 m2 e2 => by cases e2; exact ⟨hm, h1, h6⟩
  refine c_tadd h6 (by omega) (fun kt1 a6 aE a0 a1 a2 a3 a4 => ⟨fun _ => ⟨hn1, jn_mk ⟨fun z => absurd (kd.symm.trans z) (by decide), fun z => absurd (kd.symm.trans z) (by decide), fun z => absurd (kd.symm.trans z) (by decide), fun z => absurd (kd.symm.trans z) (by decide), fun z => absurd (kd.symm.trans z) (by decide), fun z => absurd (kd.symm.trans z) (by decide), fun z => absurd (kd.symm.trans z) (by decide), fun _ => ?_⟩⟩, fun z => absurd (nI_pos' (by omega)) z⟩)
  rw [kd] at a0
  have kb := kb_one hw hn (hx 0 (fun z => absurd (q.symm.trans z) (by decide)) (fun z => absurd (q.symm.trans z) (by decide))) (show kidsT tb (some m, 0) = [some a] by rw [kids_7 q, oneN_eq (by omega) ea])
  refine c_setV a6 (by omega) (by omega) ⟨hn1, ?_⟩
  rw [c_bel1 hw hr hn hm q ea, nI_1]
  exact g1 D (d + 1) (p + 1) (nI p) k (Tu kt1 1 p 2) kl j mc md _ (by omega) (by omega) (by omega) hk hs a6 hj (fun k2 kt2 kl2 j2 mc2 md2 f1 f2 f3 f4 f5 => ⟨fun z => absurd z n1, fun _ => c_finN n1 K f4 (by omega) f1 f3⟩)
set_option maxHeartbeats 4000000 in
theorem c_below_b (hw : ∀ m, m < nm → MkWF tb nc m) (hr : ∀ m, m < nm → MkRel tb (mk m) m) (hn : nm ≤ 30) {m : Nat} (hm : m < nm) {a : Nat} {v : Int32} {s s1 : Int64} {e e1 : Nat} {L1 : List Nd} (q : tb 0 m = 7) (ha : a < m) (ea : tb 1 m = nI a) (g1 : GrC ck mk tb nm nc w a s e 1 L1 s1 e1) (h1 : CF tb L1 [some a]) (ev : v = outD (nxt s1) (1 + evB tb L1)) : GrC ck mk tb nm nc w m s e 1 ((some m, v) :: L1) (nxt s1) e1 := by
  intro D d p par k kt kl j mc md Post hD hd hp hk hs h6 hj K
  obtain ⟨D, rfl⟩ : ∃ D', D = D' + 1 := ⟨D - 1, by omega⟩
  have hn1 : m < (k.2.1 1).toNatClampNeg := by rw [hk.1, nI_clamp (by omega)]; exact hm
  have kd : (mk m).2.1 0 = 7 := (hr m hm).1.trans q
  show w_X5_grow ck mk (w_grow ck mk D) (nI m) par (nI d) k kt kl j mc md Post
  unfold w_X5_grow
  refine k_at_y hk.1 hn hm rfl ⟨rfl, fun z => (nomatch z), fun i ei => ?_⟩
  cases ei
  refine ⟨fun _ => ⟨hn1, ?_⟩, fun z => absurd (show nI d < 30 by rw [show (30 : Int32) = nI 30 from rfl, nI_ltI (by omega) (by omega)]; omega) z⟩
  have wp := (wt_pos (hw m hm)).1
  have wb : 1 * 2 ≤ wtN tb m * (m + 2) := Nat.mul_le_mul wp (by omega)
  have hx : ∀ v : Int32, (tb 0 m = 1 → ∃ j : Nat, j ≤ (tb 3 m).toNatClampNeg ∧ v = nI j) → (tb 0 m = 6 → v = tb 3 m) → okX tb nm (some m, v) := fun v h1 h6 m2 e2 => by cases e2; exact ⟨hm, h1, h6⟩
  refine c_tadd h6 (by omega) (fun kt1 a6 aE a0 a1 a2 a3 a4 => ⟨fun _ => ⟨hn1, jn_mk ⟨fun z => absurd (kd.symm.trans z) (by decide), fun z => absurd (kd.symm.trans z) (by decide), fun z => absurd (kd.symm.trans z) (by decide), fun z => absurd (kd.symm.trans z) (by decide), fun z => absurd (kd.symm.trans z) (by decide), fun z => absurd (kd.symm.trans z) (by decide), fun z => absurd (kd.symm.trans z) (by decide), fun _ => ?_⟩⟩, fun z => absurd (nI_pos' (by omega)) z⟩)
  rw [kd] at a0
  have ek : kidsT tb (some m, v) = [some a] := by rw [kids_7 q, oneN_eq (by omega) ea]
  have kb := kb_one hw hn (hx v (fun z => absurd (q.symm.trans z) (by decide)) (fun z => absurd (q.symm.trans z) (by decide))) ek
  rw [res_7 q] at kb
  have kb : 1 + wtN tb a * (a + 2) + 1 ≤ wtN tb m * (m + 2) := kb
  refine c_setV a6 (by omega) (by omega) ⟨hn1, ?_⟩
  rw [c_bel1 hw hr hn hm q ea, nI_1]
  refine g1 D (d + 1) (p + 1) (nI p) k (Tu kt1 1 p 2) kl j mc md _ (by omega) (by omega) (by omega) hk hs a6 hj (fun k2 kt2 kl2 j2 mc2 md2 f1 f2 f3 f4 f5 => ⟨fun _ => ?_, fun z => absurd rfl z⟩)
  obtain ⟨t6, tE, tF⟩ := f5 rfl
  obtain ⟨b2, cc2⟩ := CF_len hw hn (by omega) h1
  have hB := CF_BN hw hn (show a < nm by omega) h1
  obtain ⟨b3, b4, b5⟩ := CF_b1 hn hw h1 (show a < nm by omega) hB
  have hev := evC_cenc hw L1 _ h1 hB
  rw [nI_1, t6]
  refine c_gather (z := p + 1 + (cenc tb L1).length) tF.st t6 (Nat.le_refl _) (by omega) (by rw [← evC_len, hev]; exact b4) (maps_ok hw L1 hB) (fun kt3 kl3 fk L3 => ?_)
  rw [hev] at L3
  refine c_sum L3.f (j_bnd (c_numB (f2 rfl) ⟨rfl, ?_⟩))
  have k36 : kt3.2.1 6 = nI (p + 1 + (cenc tb L1).length) := (fk.2.1 6 (by decide)).trans t6
  have kE3 : KtE 744 kt2 kt3 := KtE.of fk no5
  refine c_tadd k36 (by omega) (fun kt4 g6 gE g0 g1' g2' g3 g4 => ?_)
  have hcf : CF tb L1 (kidsT tb (some m, v)) := by rw [ek]; exact h1
  have eC := cenc_one hcf
  rw [res_7 q] at eC
  have ccr : CC [((9 : Int32), v, (0 : Int32))] 1 := ⟨0, rfl, rfl⟩
  have E : KtE (p + 1) (Tu kt1 1 p 2) kt4 := tE.tr ((kE3.le (by omega)).tr (gE.le (by omega)))
  have one : TrF kt4 (p + 1 + (cenc tb L1).length) (nI p) [((9 : Int32), v, (0 : Int32))] := TrF.cons (F := []) rfl g0 (g1'.trans ev.symm) g2' g3 g4 TrF.nil
  refine c_fin1 K eC (by rw [cn_7 q]; exact CC_app ccr _ _ cc2) (c_bd (kt1 := kt1) (v := 2) ?_ E (by rw [cn_7 q]; exact a0) (by rw [cn_7 q]) (by rw [cn_7 q]; exact a2) a3 (TrF.app cc2 ccr (gE.tf (kE3.tf tF (by omega)) (by omega)) one)) (aE.tr (Tu_E.tr (E.le (by omega)))) (by rw [List.length_append]; show p + 1 + ((cenc tb L1).length + 1) ≤ 744; omega) f1 (slP (k := k2) (x := nxt s1)) f3
  rw [g6, List.length_append]; rfl
def SqC (ck mk : Nat → Ob) (tb : Tb) (nm nc : Nat) (w : Int32) (m a n : Nat) (s : Int64) (e : Nat) (r : Int32) (L : List Nd) (s2 : Int64) (e2 : Nat) : Prop := ∀ (D d z pp i : Nat) (k kt kl j mc md : Ob) (Post : PC), a < D → d + 1 + a < 30 → z + n * (wtN tb a * (a + 2)) ≤ 744 → i + n < 100 → m < nm → KC nm w k → k.1 5 = s → kt.2.1 6 = nI z → JC nc e j → FinC tb nm nc w z (nI pp) kt r L s2 e2 Post → w_X5_growList_L32 ck mk (w_grow ck mk D) m (nI pp) (nI d) (nI (i + n)) Post (n + 1) (nI i) k kt kl j mc md
theorem sq_nil {m a : Nat} {s : Int64} {e : Nat} : SqC ck mk tb nm nc w m a 0 s e 1 [] s e := by
  intro D d z pp i k kt kl j mc md Post hD hd hp hi hm hk hs h6 hj K
  refine ⟨fun _ => K k kt kl j mc md hk (fun _ => hs) hj (by rw [h6]; exact nI_pos (by omega)) (fun _ => ⟨h6, KtE.rf, TrF.nil⟩), fun y => absurd (Int32.le_refl _) y⟩
theorem sq_fail (hn : nm ≤ 30) {m a n : Nat} (ea : (mk m).2.1 1 = nI a) {s s1 s2 : Int64} {e e1 : Nat} {r : Int32} {L1 L : List Nd} (g1 : GrC ck mk tb nm nc w a s e r L1 s1 e1) (n1 : ¬ r = 1) : SqC ck mk tb nm nc w m a (n + 1) s e r L s2 e1 := by
  intro D d z pp i k kt kl j mc md Post hD hd hp hi hm hk hs h6 hj K
  rw [Nat.add_mul] at hp
  refine ⟨fun y => absurd y (by rw [nI_leI (by omega) (by omega)]; omega), fun _ => ⟨by rw [hk.1, nI_clamp (by omega)]; exact hm, ?_⟩⟩
  rw [ea, nI_1]
  exact g1 D (d + 1) z (nI pp) k kt kl j mc md _ hD hd (by omega) hk hs h6 hj (fun k2 kt2 kl2 j2 mc2 md2 f1 f2 f3 f4 f5 => ⟨fun z => absurd z n1, fun _ => K k2 kt2 kl2 j2 mc2 md2 f1 (fun z => absurd z n1) f3 f4 (fun z => absurd z n1)⟩)
theorem sq_cons (hw : ∀ m, m < nm → MkWF tb nc m) (hn : nm ≤ 30) {m a n : Nat} (ha : a < nm) (ea : (mk m).2.1 1 = nI a) {s s1 s2 : Int64} {e e1 e2 : Nat} {r : Int32} {L1 L2 : List Nd} (g1 : GrC ck mk tb nm nc w a s e 1 L1 s1 e1) (h1 : CF tb L1 [some a]) (g2 : SqC ck mk tb nm nc w m a n s1 e1 r L2 s2 e2) (h2 : r = 1 → CF tb L2 (List.replicate n (some a))) : SqC ck mk tb nm nc w m a (n + 1) s e r (L1 ++ L2) s2 e2 := by
  intro D d z pp i k kt kl j mc md Post hD hd hp hi hm hk hs h6 hj K
  rw [Nat.add_mul] at hp
  obtain ⟨b1, cc1⟩ := CF_len hw hn ha h1
  refine ⟨fun y => absurd y (by rw [nI_leI (by omega) (by omega)]; omega), fun _ => ⟨by rw [hk.1, nI_clamp (by omega)]; exact hm, ?_⟩⟩
  rw [ea, nI_1]
  refine g1 D (d + 1) z (nI pp) k kt kl j mc md _ hD hd (by omega) hk hs h6 hj (fun k2 kt2 kl2 j2 mc2 md2 f1 f2 f3 f4 f5 => ⟨fun _ => ?_, fun z => absurd rfl z⟩)
  obtain ⟨t6, tE, tF⟩ := f5 rfl
  rw [nI_1, show i + (n + 1) = (i + 1) + n by omega]
  refine g2 D d (z + (cenc tb L1).length) pp (i + 1) k2 kt2 kl2 j2 mc2 md2 Post hD hd (by omega) (by omega) hm f1 (f2 rfl) t6 f3 (fun k3 kt3 kl3 j3 mc3 md3 u1 u2 u3 u4 u5 => K k3 kt3 kl3 j3 mc3 md3 u1 u2 u3 u4 (fun y => ?_))
  obtain ⟨v6, vE, vF⟩ := u5 y
  have c2 := h2 y
  have hb2 : BN nm L2 := CF_bn hw hn L2 _ (fun a' ha' => by rw [List.mem_replicate] at ha'; cases ha'.2; exact ha) c2
  rw [cenc_app L1 _ h1]
  exact ⟨by rw [v6, List.length_append]; congr 1; omega, tE.tr (vE.le (by omega)), TrF.app cc1 (CC_cenc hw L2 _ c2 hb2) (vE.tf tF (Nat.le_refl _)) vF⟩
set_option maxHeartbeats 4000000 in
theorem c_list (hw : ∀ m, m < nm → MkWF tb nc m) (hr : ∀ m, m < nm → MkRel tb (mk m) m) (hn : nm ≤ 30) {m : Nat} (hm : m < nm) {a c n : Nat} {s s2 : Int64} {e e2 : Nat} {r : Int32} {L1 : List Nd} (q : tb 0 m = 1) (ha : a < m) (ea : tb 1 m = nI a) (ec : tb 3 m = nI c) (hc : c ≤ 24) (en : outD (nxt s) (1 + (if w < nI c then w else nI c)) = nI n) (hnc : n ≤ c) (g1 : SqC ck mk tb nm nc w m a n (nxt s) e r L1 s2 e2) (h1 : r = 1 → CF tb L1 (List.replicate n (some a))) : GrC ck mk tb nm nc w m s e r ((some m, nI n) :: L1) s2 e2 := by
  intro D d p par k kt kl j mc md Post hD hd hp hk hs h6 hj K
  obtain ⟨D, rfl⟩ : ∃ D', D = D' + 1 := ⟨D - 1, by omega⟩
  have hn1 : m < (k.2.1 1).toNatClampNeg := by rw [hk.1, nI_clamp (by omega)]; exact hm
  have kd : (mk m).2.1 0 = 1 := (hr m hm).1.trans q
  show w_X5_grow ck mk (w_grow ck mk D) (nI m) par (nI d) k kt kl j mc md Post
  unfold w_X5_grow
  refine k_at_y hk.1 hn hm rfl ⟨rfl, fun z => (nomatch z), fun i ei => ?_⟩
  cases ei
  refine ⟨fun _ => ⟨hn1, ?_⟩, fun z => absurd (show nI d < 30 by rw [show (30 : Int32) = nI 30 from rfl, nI_ltI (by omega) (by omega)]; omega) z⟩
  have wp := (wt_pos (hw m hm)).1
  have wb : 1 * 2 ≤ wtN tb m * (m + 2) := Nat.mul_le_mul wp (by omega)
  have hx : ∀ v : Int32, (tb 0 m = 1 → ∃ j : Nat, j ≤ (tb 3 m).toNatClampNeg ∧ v = nI j) → (tb 0 m = 6 → v = tb 3 m) → okX tb nm (some m, v) := fun v h1 h6 m2 e2 => by cases e2; exact ⟨hm, h1, h6⟩
  refine c_tadd h6 (by omega) (fun kt1 a6 aE a0 a1 a2 a3 a4 => ⟨fun _ => ⟨hn1, jn_mk ⟨fun z => absurd (kd.symm.trans z) (by decide), fun _ => ?_, fun z => absurd (kd.symm.trans z) (by decide), fun z => absurd (kd.symm.trans z) (by decide), fun z => absurd (kd.symm.trans z) (by decide), fun z => absurd (kd.symm.trans z) (by decide), fun z => absurd (kd.symm.trans z) (by decide), fun z => absurd kd z.2.1⟩⟩, fun z => absurd (nI_pos' (by omega)) z⟩)
  rw [kd] at a0
  obtain ⟨-, -, -, -, r1, -⟩ := hr m hm
  obtain ⟨r1', r2'⟩ := r1 q
  have hX : okX tb nm (some m, nI n) := hx (nI n) (fun _ => ⟨n, by rw [ec, nI_clamp (by omega)]; exact hnc, rfl⟩) (fun z => absurd (q.symm.trans z) (by decide))
  have ek : kidsT tb (some m, nI n) = List.replicate n (some a) := by rw [kids_1 q, oneN_eq (by omega) ea, nI_clamp (by omega)]
  have kb := (kid_bd hn hw hX).1
  rw [ek, sumO_rep] at kb
  have kb : 1 + n * (wtN tb a * (a + 2)) + (resT tb (some m, nI n)).length ≤ wtN tb m * (m + 2) := kb
  refine ⟨hn1, ?_⟩
  rw [r2', hk.2, ec]
  have hk2 : KC nm w (sl k.1 5 (nxt s), k.2.1, k.2.2) := hk
  have go : ∀ y : Int32, y = (if w < nI c then w else nI c) → w_X5_numberBelow (1 + y) k (fun (r3 : Int32) (k_4 : Ob) => (k_4.2.1 1 = k.2.1 1) ∧ (w_X8_setValue (nI p) r3 kt1 (fun (kt_7 : Ob) => ∃ n32, w_X5_growList_L32 ck mk (w_grow ck mk D) m (nI p) (nI d) r3 (fun r64 k_65 kt_66 kl_67 j_68 mc_69 md_70 => w_X8_close (nI p) kt_66 (fun kt_106 => Post r64 k_65 kt_106 kl_67 j_68 mc_69 md_70)) n32 0 k_4 kt_7 kl j mc md))) := by
    intro y ey
    rw [ey]
    refine c_numB hs ⟨rfl, ?_⟩
    rw [en]
    refine c_setV a6 (by omega) (by omega) ⟨n + 1, ?_⟩
    have h := g1 D d (p + 1) p 0 (sl k.1 5 (nxt s), k.2.1, k.2.2) (Tu kt1 1 p (nI n)) kl j mc md (fun r64 k_65 kt_66 kl_67 j_68 mc_69 md_70 => w_X8_close (nI p) kt_66 (fun kt_106 => Post r64 k_65 kt_106 kl_67 j_68 mc_69 md_70)) (by omega) (by omega) (by omega) (by omega) hm hk2 (slP (k := k) (x := nxt s)) a6 hj (fun k3 kt3 kl3 j3 mc3 md3 u1 u2 u3 u4 u5 => ?_)
    · rw [Nat.zero_add] at h; exact h
    · by_cases q2 : r = 1
      · subst q2
        obtain ⟨v6, vE, vF⟩ := u5 rfl
        have hcf : CF tb L1 (kidsT tb (some m, nI n)) := by rw [ek]; exact h1 rfl
        have hb1 : BN nm L1 := CF_bn hw hn L1 _ (fun a' ha' => by rw [List.mem_replicate] at ha'; cases ha'.2; omega) (h1 rfl)
        have cc := CC_cenc hw L1 _ (h1 rfl) hb1
        rw [List.length_replicate] at cc
        have cl := (CF_bd hn hw L1 _ (h1 rfl) hb1).1
        rw [sumO_rep] at cl
        have cl : (cenc tb L1).length ≤ n * (wtN tb a * (a + 2)) := cl
        have eC := cenc_one hcf
        rw [res_0 (by rw [q]; decide), List.append_nil] at eC
        refine c_fin1 K eC ?_ (c_bd (kt1 := kt1) (v := nI n) v6 vE (by rw [cn_1 q]; exact a0) (by rw [cn_1 q]) (by rw [cn_1 q]; exact a2) a3 vF) (aE.tr (Tu_E.tr (vE.le (by omega)))) (by omega) u1 (u2 rfl) u3
        rw [cn_1 q, show arC ((1 : Int32), nI n, (0 : Int32)) = (nI n).toNatClampNeg from rfl, nI_clamp (by omega)]; exact cc
      · exact c_finN q2 K u4 (by omega) u1 u3
  exact ⟨fun z => go _ (if_pos z).symm, fun z => go _ (if_neg z).symm⟩
end
