/-! MAKING in the class: shuffled -/
def pl (l : List Int32) : List CN := l.map (fun v => ((8 : Int32), v, (0 : Int32)))
def swL (l : List Int32) (a b : Nat) : List Int32 := (l.set a (l.getD b 0)).set b (l.getD a 0)
def shF : Nat → Int64 → List Int32 → List Int32 × Int64
  | 0, s, l => (l, s)
  | i + 1, s, l => shF i (nxt s) (swL l (i + 1) (outD (nxt s) (nI (i + 2))).toNatClampNeg)
def idx (n : Nat) : List Int32 := (List.range n).map nI
theorem swL_len {l : List Int32} {a b : Nat} : (swL l a b).length = l.length := by unfold swL; rw [List.length_set, List.length_set]
theorem shF_len : ∀ (i : Nat) (s : Int64) (l : List Int32), (shF i s l).1.length = l.length := by
  intro i
  induction i with
  | zero => intro s l; rfl
  | succ i ih => intro s l; show (shF i _ _).1.length = _; rw [ih, swL_len]
theorem idx_len {n : Nat} : (idx n).length = n := by unfold idx; rw [List.length_map, List.length_range]
theorem idx_get {n i : Nat} {v : Int32} (h : (idx n)[i]? = some v) : i < n ∧ v = nI i := by
  have hi := (List.getElem?_eq_some_iff.mp h).1
  rw [idx_len] at hi
  refine ⟨hi, ?_⟩
  unfold idx at h
  rw [List.getElem?_map, List.getElem?_range hi] at h
  cases h; rfl
theorem pl_get {l : List Int32} {i : Nat} {c : CN} (h : (pl l)[i]? = some c) : ∃ v, l[i]? = some v ∧ c = (8, v, 0) := by
  unfold pl at h
  rw [List.getElem?_map] at h
  cases e : l[i]? with
  | none => rw [e] at h; cases h
  | some v => rw [e] at h; cases h; exact ⟨v, rfl, rfl⟩
theorem pl_len {l : List Int32} : (pl l).length = l.length := List.length_map _
theorem pl_CC : ∀ l : List Int32, CC (pl l) l.length := by
  intro l
  induction l with
  | nil => exact rfl
  | cons v l ih =>
    refine ⟨l.length, rfl, ?_⟩
    show CC (pl l) (0 + l.length)
    rw [Nat.zero_add]; exact ih
theorem pl_en {l : List Int32} {i : Nat} (hi : i < l.length) : enC (pl l) i = i + 1 := by
  unfold enC
  have h : (pl l).drop i = ((8 : Int32), l[i], (0 : Int32)) :: pl (l.drop (i + 1)) := by
    unfold pl
    rw [← List.map_drop, List.drop_eq_getElem_cons hi]; rfl
  rw [h, tlC_s]
  show i + (1 + tlC _ 0) = i + 1
  rw [tlC_0]
theorem pl_par {l : List Int32} {i : Nat} (hi : i ≤ l.length) : ∀ q, q ≤ i → parS (pl l) i q = none := by
  intro q
  induction q with
  | zero => intro _; rfl
  | succ q ih => intro hq; rw [parS_s, pl_en (by omega), if_neg (by omega), ih (by omega)]
def PlF (kt : Ob) (p : Nat) (par : Int32) (l : List Int32) : Prop := ∀ i v, l[i]? = some v → kt.2.2 0 (p + i) = 8 ∧ kt.2.2 1 (p + i) = v ∧ kt.2.2 2 (p + i) = 0 ∧ kt.2.2 3 (p + i) = par ∧ kt.2.2 4 (p + i) = nI (p + (i + 1))
theorem PlF.tf {kt : Ob} {p : Nat} {par : Int32} {l : List Int32} (h : PlF kt p par l) : TrF kt p par (pl l) := by
  intro i c hc
  obtain ⟨v, hv, rfl⟩ := pl_get hc
  have hi := (List.getElem?_eq_some_iff.mp hv).1
  obtain ⟨a0, a1, a2, a3, a4⟩ := h i v hv
  refine ⟨a0, a1, a2, ?_, by rw [a4, pl_en hi]⟩
  rw [a3, pl_par (by omega) i (Nat.le_refl _)]; rfl
theorem getD_of {l : List Int32} {i : Nat} {v : Int32} (h : l[i]? = some v) : l.getD i 0 = v := by rw [List.getD_eq_getElem?_getD, h]; rfl
theorem get_of {l : List Int32} {i : Nat} (h : i < l.length) : l[i]? = some (l.getD i 0) := by rw [List.getD_eq_getElem?_getD, List.getElem?_eq_getElem h]; rfl
theorem swL_get {l : List Int32} {a b i : Nat} (ha : a < l.length) (hb : b < l.length) (hi : i < l.length) : (swL l a b)[i]? = some (if i = b then l.getD a 0 else if i = a then l.getD b 0 else l.getD i 0) := by
  unfold swL
  rw [List.getElem?_set]
  by_cases q : b = i
  · subst q
    rw [if_pos rfl, List.length_set, if_pos hb, if_pos rfl]
  · rw [if_neg q, List.getElem?_set, if_neg (show ¬ i = b from fun z => q z.symm)]
    by_cases q2 : a = i
    · subst q2; rw [if_pos rfl, if_pos ha, if_pos rfl]
    · rw [if_neg q2, if_neg (show ¬ i = a from fun z => q2 z.symm)]; exact get_of hi
theorem c_exch {kt : Ob} {q z a b : Nat} {par : Int32} {l : List Int32} {Post : Ob → Prop} (h : PlF kt q par l) (h6 : kt.2.1 6 = nI z) (hz : z ≤ 744) (hq : q + l.length ≤ z) (ha : a < l.length) (hb : b < l.length) (k : ∀ kt2, kt2.2.1 6 = nI z → KtE q kt kt2 → PlF kt2 q par (swL l a b) → Post kt2) : w_X8_exchange (nI (q + a)) (nI (q + b)) kt Post := by
  obtain ⟨-, va, -⟩ := h a _ (get_of ha)
  obtain ⟨-, vb, -⟩ := h b _ (get_of hb)
  refine c_get1 h6 (by omega) hz (c_get1 h6 (by omega) hz ?_)
  rw [va, vb]
  refine c_setV (z := z) h6 (by omega) hz (c_setV (z := z) h6 (by omega) hz (k (Tu (Tu kt 1 (q + a) (l.getD b 0)) 1 (q + b) (l.getD a 0)) h6 (fun f hf i hi => (Tu_np (by omega)).trans (Tu_np (by omega))) (fun i v hv => ?_)))
  have hi : i < l.length := by
    have := (List.getElem?_eq_some_iff.mp hv).1
    rwa [swL_len] at this
  obtain ⟨a0, a1, a2, a3, a4⟩ := h i _ (get_of hi)
  rw [swL_get ha hb hi] at hv
  cases hv
  refine ⟨(Tu_nf (by omega)).trans ((Tu_nf (by omega)).trans a0), ?_, (Tu_nf (by omega)).trans ((Tu_nf (by omega)).trans a2), (Tu_nf (by omega)).trans ((Tu_nf (by omega)).trans a3), (Tu_nf (by omega)).trans ((Tu_nf (by omega)).trans a4)⟩
  by_cases c : i = b
  · subst c; rw [if_pos rfl]; exact Tu_us
  · rw [if_neg c, Tu_np (by omega)]
    by_cases c2 : i = a
    · subst c2; rw [if_pos rfl]; exact Tu_us
    · rw [if_neg c2, Tu_np (by omega)]; exact a1
section
variable {ck mk : Nat → Ob} {tb : Tb} {nm nc : Nat} {w : Int32}
theorem c_shA {n p : Nat} {par : Int32} {k : Ob} {K Post : Ob → Ob → Prop} (hn : n ≤ 24) (hp : p + n ≤ 744) (kt0 : Ob) (kk : ∀ kt2, kt2.2.1 6 = nI (p + n) → KtE p kt0 kt2 → PlF kt2 p par (idx n) → K k kt2) : ∀ (d i : Nat) (kt : Ob), i + d = n → kt.2.1 6 = nI (p + i) → KtE p kt0 kt → PlF kt p par (idx i) → w_X5_growShuffled_L11 (nI n) par K Post (d + 1) (nI i) k kt := by
  intro d
  induction d with
  | zero =>
    intro i kt hi h6 E h
    obtain rfl : i = n := by omega
    exact ⟨fun _ => kk kt h6 E h, fun z => absurd (Int32.le_refl _) z⟩
  | succ d ih =>
    intro i kt hi h6 E h
    refine ⟨fun z => absurd z (by rw [nI_leI (by omega) (by omega)]; omega), fun _ => ?_⟩
    rw [nI_1]
    refine c_tadd h6 (by omega) (fun kt2 g6 gE g0 g1 g2 g3 g4 => ih (i + 1) kt2 (by omega) (by rw [g6]; rfl) (E.tr (gE.le (by omega))) (fun j v hv => ?_))
    obtain ⟨hj, rfl⟩ := idx_get hv
    by_cases q : j = i
    · subst q
      exact ⟨g0, g1, g2, g3, g4⟩
    · have hj2 : (idx i)[j]? = some (nI j) := by
        unfold idx
        rw [List.getElem?_map, List.getElem?_range (by omega)]; rfl
      obtain ⟨a0, a1, a2, a3, a4⟩ := h j _ hj2
      rw [gE 0 (by omega) _ (by omega), gE 1 (by omega) _ (by omega), gE 2 (by omega) _ (by omega), gE 3 (by omega) _ (by omega), gE 4 (by omega) _ (by omega)]
      exact ⟨a0, a1, a2, a3, a4⟩
theorem c_shB {p z : Nat} {par : Int32} {Post : Ob → Ob → Prop} (hz : z ≤ 744) (kt0 : Ob) : ∀ (i : Nat) (s : Int64) (l : List Int32) (k kt : Ob), i + 1 ≤ l.length → l.length ≤ 24 → p + l.length ≤ z → KC nm w k → k.1 5 = s → kt.2.1 6 = nI z → KtE p kt0 kt → PlF kt p par l → (∀ k2 kt2, KC nm w k2 → k2.1 5 = (shF i s l).2 → kt2.2.1 6 = nI z → KtE p kt0 kt2 → PlF kt2 p par (shF i s l).1 → Post k2 kt2) → w_X5_growShuffled_L43 (nI p) Post (i + 1) (nI i) k kt := by
  intro i
  induction i with
  | zero =>
    intro s l k kt hi hl hp hk hs h6 E h kk
    exact ⟨fun _ => kk k kt hk hs h6 E h, fun z => absurd (show nI 0 < 1 by decide) z⟩
  | succ i ih =>
    intro s l k kt hi hl hp hk hs h6 E h kk
    obtain ⟨j, hj, ej⟩ := outD_lt (s := nxt s) (n := i + 2) (by omega) (by omega)
    refine ⟨fun y => absurd y (by rw [show (1 : Int32) = nI 1 from rfl, nI_ltI (by omega) (by omega)]; omega), fun _ => ?_⟩
    rw [nI_1]
    refine c_numB hs ?_
    rw [ej, nI_add, nI_add, neg1, nI_pred]
    refine c_exch h h6 hz hp (by omega) (by omega) (fun kt2 g6 gE gF => ?_)
    refine ih (nxt s) (swL l (i + 1) j) _ kt2 (by rw [swL_len]; omega) (by rw [swL_len]; exact hl) (by rw [swL_len]; exact hp) hk (slP (k := k) (x := nxt s)) g6 (E.tr gE) gF (fun k2 kt3 u1 u2 u3 u4 u5 => kk k2 kt3 u1 ?_ u3 u4 ?_)
    · rw [u2]; show _ = (shF i (nxt s) (swL l (i + 1) (outD (nxt s) (nI (i + 2))).toNatClampNeg)).2
      rw [ej, nI_clamp (by omega)]
    · have : shF (i + 1) s l = shF i (nxt s) (swL l (i + 1) j) := by
        show shF i (nxt s) (swL l (i + 1) (outD (nxt s) (nI (i + 2))).toNatClampNeg) = _
        rw [ej, nI_clamp (by omega)]
      rw [this]; exact u5
/-- the nodes of a shuffled row -/
def plN (l : List Int32) : List Nd := l.map (fun v => (none, v))
theorem plN_CF : ∀ l : List Int32, CF tb (plN l) (List.replicate l.length none) := by
  intro l
  induction l with
  | nil => exact rfl
  | cons v l ih =>
    refine ⟨none, List.replicate l.length none, rfl, ⟨rfl, fun m h => nomatch h⟩, ?_⟩
    rw [kids_n]; exact ih
theorem plN_cenc : ∀ l : List Int32, cenc tb (plN l) = pl l := by
  intro l
  induction l with
  | nil => rfl
  | cons v l ih =>
    show cenc tb ((none, v) :: plN l) = (8, v, 0) :: pl l
    rw [cenc_c, show bel tb (none, v) = false from decide_eq_false (show ¬ (8 : Int32) = 7 by decide), if_neg (by decide), ih]; rfl
set_option maxHeartbeats 4000000 in
theorem c_shuffled (hw : ∀ m, m < nm → MkWF tb nc m) (hr : ∀ m, m < nm → MkRel tb (mk m) m) (hn : nm ≤ 30) {m : Nat} (hm : m < nm) {n : Nat} (q : tb 0 m = 6) (en : tb 3 m = nI n) (h1 : 1 ≤ n) (h2 : n ≤ 24) (ew : wtN tb m = n) (s : Int64) (e : Nat) : GrC ck mk tb nm nc w m s e 1 ((some m, nI n) :: plN (shF (n - 1) s (idx n)).1) (shF (n - 1) s (idx n)).2 e := by
  intro D d p par k kt kl j mc md Post hD hd hp hk hs h6 hj K
  obtain ⟨D, rfl⟩ : ∃ D', D = D' + 1 := ⟨D - 1, by omega⟩
  have hn1 : m < (k.2.1 1).toNatClampNeg := by rw [hk.1, nI_clamp (by omega)]; exact hm
  have kd : (mk m).2.1 0 = 6 := (hr m hm).1.trans q
  show w_X5_grow ck mk (w_grow ck mk D) (nI m) par (nI d) k kt kl j mc md Post
  unfold w_X5_grow
  refine k_at_y hk.1 hn hm rfl ⟨rfl, fun z => (nomatch z), fun i ei => ?_⟩
  cases ei
  refine ⟨fun _ => ⟨hn1, ?_⟩, fun z => absurd (show nI d < 30 by rw [show (30 : Int32) = nI 30 from rfl, nI_ltI (by omega) (by omega)]; omega) z⟩
  have wp := (wt_pos (hw m hm)).1
  have wb : 1 * 2 ≤ wtN tb m * (m + 2) := Nat.mul_le_mul wp (by omega)
  have hx : ∀ v : Int32, (tb 0 m = 1 → ∃ j : Nat, j ≤ (tb 3 m).toNatClampNeg ∧ v = nI j) → (tb 0 m = 6 → v = tb 3 m) → okX tb nm (some m, v) := fun v h1 h6 m2 e2 => by cases e2; exact ⟨hm, h1, h6⟩
  refine c_tadd h6 (by omega) (fun kt1 a6 aE a0 a1 a2 a3 a4 => ⟨fun _ => ⟨hn1, jn_mk ⟨fun z => absurd (kd.symm.trans z) (by decide), fun z => absurd (kd.symm.trans z) (by decide), fun z => absurd (kd.symm.trans z) (by decide), fun z => absurd (kd.symm.trans z) (by decide), fun z => absurd (kd.symm.trans z) (by decide), fun z => absurd (kd.symm.trans z) (by decide), fun _ => ?_, fun z => absurd kd z.2.2.2.2.2.2⟩⟩, fun z => absurd (nI_pos' (by omega)) z⟩)
  rw [kd] at a0
  obtain ⟨-, -, -, -, -, -, -, -, -, r6, -⟩ := hr m hm
  have wb2 : n * 2 ≤ wtN tb m * (m + 2) := by rw [ew]; exact Nat.mul_le_mul (Nat.le_refl _) (by omega)
  have sl1 : (shF (n - 1) s (idx n)).1.length = n := by rw [shF_len, idx_len]
  refine ⟨hn1, ?_⟩
  rw [r6 q, en]
  refine c_setV a6 (by omega) (by omega) ⟨n + 1, ?_⟩
  rw [nI_1]
  have h := c_shA (n := n) (p := p + 1) (par := nI p) (k := k) (K := fun (k_k34 : Ob) (kt_k34 : Ob) => ∃ n43, w_X5_growShuffled_L43 (nI (p + 1)) (fun k_94 kt_95 => (k_94.2.1 1 = k.2.1 1) ∧ w_X8_close (nI p) kt_95 (fun kt_106 => Post 1 k_94 kt_106 kl j mc md)) n43 (nI n - 1) k_k34 kt_k34) (Post := fun k_94 kt_95 => (k_94.2.1 1 = k.2.1 1) ∧ w_X8_close (nI p) kt_95 (fun kt_106 => Post 1 k_94 kt_106 kl j mc md)) h2 (by omega) (Tu kt1 1 p (nI n)) (fun kt2 g6 gE gF => ?_) n 0 (Tu kt1 1 p (nI n)) (by omega) (by rw [Nat.add_zero]; exact a6) KtE.rf (fun i v hv => absurd (idx_get hv).1 (Nat.not_lt_zero _))
  · exact h
  · obtain ⟨n', rfl⟩ : ∃ n', n = n' + 1 := ⟨n - 1, by omega⟩
    refine ⟨n' + 1, ?_⟩
    rw [nI_pred]
    refine c_shB (by omega) (Tu kt1 1 p (nI (n' + 1))) n' s (idx (n' + 1)) k kt2 (by rw [idx_len]; exact Nat.le_refl _) (by rw [idx_len]; exact h2) (by rw [idx_len]; exact Nat.le_refl _) hk hs g6 gE gF (fun k2 kt3 u1 u2 u3 u4 u5 => ⟨u1.1.trans hk.1.symm, ?_⟩)
    have sl2 : (shF n' s (idx (n' + 1))).1.length = n' + 1 := sl1
    have hcf : CF tb (plN (shF n' s (idx (n' + 1))).1) (kidsT tb (some m, nI (n' + 1))) := by
      rw [kids_6 q, nI_clamp (by omega)]
      have := plN_CF (tb := tb) (shF n' s (idx (n' + 1))).1
      rw [sl2] at this; exact this
    have eC := cenc_one hcf
    rw [res_0 (by rw [q]; decide), List.append_nil, plN_cenc] at eC
    have cc := pl_CC (shF n' s (idx (n' + 1))).1
    rw [sl2] at cc
    refine c_fin1 K eC ?_ (c_bd (kt1 := kt1) (v := nI (n' + 1)) (by rw [u3, pl_len, sl2]) u4 (by rw [cn_6 q]; exact a0) (by rw [cn_6 q]) (by rw [cn_6 q]; exact a2) a3 u5.tf) (aE.tr (Tu_E.tr (u4.le (by omega)))) (by rw [pl_len, sl2]; omega) u1 u2 hj
    rw [cn_6 q, show arC ((6 : Int32), nI (n' + 1), (0 : Int32)) = (nI (n' + 1)).toNatClampNeg from rfl, nI_clamp (by omega)]; exact cc
end
