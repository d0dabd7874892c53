/-! EDITS: a shuffled row, both sides -/
theorem c_exch2 {kt : Ob} {q z a b : Nat} {par : Int32} {l : List Int32} {Post : Ob → Prop} (h : PlF kt q par l) (h6 : kt.2.1 6 = nI z) (hz : z ≤ 744) (hq : q + l.length ≤ z) (ha : a < l.length) (hb : b < l.length) (k : ∀ kt2, kt2.2.1 6 = nI z → (∀ f i, i < q ∨ q + l.length ≤ i → kt2.2.2 f i = kt.2.2 f i) → PlF kt2 q par (swL l a b) → Post kt2) : w_X8_exchange (nI (q + a)) (nI (q + b)) kt Post := by
  obtain ⟨-, va, -⟩ := h a _ (get_of ha)
  obtain ⟨-, vb, -⟩ := h b _ (get_of hb)
  refine c_get1 h6 (by omega) hz (c_get1 h6 (by omega) hz ?_)
  rw [va, vb]
  refine c_setV (z := z) h6 (by omega) hz (c_setV (z := z) h6 (by omega) hz (k (Tu (Tu kt 1 (q + a) (l.getD b 0)) 1 (q + b) (l.getD a 0)) h6 (fun f i hi => (Tu_np (by omega)).trans (Tu_np (by omega))) (fun i v hv => ?_)))
  have hi : i < l.length := by
    have := (List.getElem?_eq_some_iff.mp hv).1
    rwa [swL_len] at this
  obtain ⟨a0, a1, a2, a3, a4⟩ := h i _ (get_of hi)
  rw [swL_get ha hb hi] at hv
  cases hv
  refine ⟨(Tu_nf (by omega)).trans ((Tu_nf (by omega)).trans a0), ?_, (Tu_nf (by omega)).trans ((Tu_nf (by omega)).trans a2), (Tu_nf (by omega)).trans ((Tu_nf (by omega)).trans a3), (Tu_nf (by omega)).trans ((Tu_nf (by omega)).trans a4)⟩
  by_cases c : i = b
  · subst c; rw [if_pos rfl]; exact Tu_us
  · rw [if_neg c, Tu_np (by omega)]
    by_cases c2 : i = a
    · subst c2; rw [if_pos rfl]; exact Tu_us
    · rw [if_neg c2, Tu_np (by omega)]; exact a1
theorem sv_mono {x v : Int32} {o : Ob} {P Q : Ob → Prop} (f : ∀ o2, P o2 → Q o2) (a : w_X8_setValue x v o P) : w_X8_setValue x v o Q := by
  have g : ∀ (r1 : Int32), ((r1 = 0 → P o) ∧ (¬ r1 = 0 → vp_in x 744 ∧ P (o.1, o.2.1, sa o.2.2 1 (upd (o.2.2 1) x.toNatClampNeg v)))) → ((r1 = 0 → Q o) ∧ (¬ r1 = 0 → vp_in x 744 ∧ Q (o.1, o.2.1, sa o.2.2 1 (upd (o.2.2 1) x.toNatClampNeg v)))) := fun r h => ⟨fun z => f _ (h.1 z), fun z => ⟨(h.2 z).1, f _ (h.2 z).2⟩⟩
  exact ⟨fun c => g _ (a.1 c), fun c => ⟨fun d => g _ ((a.2 c).1 d), fun d => ⟨fun e => g _ (((a.2 c).2 d).1 e), fun e => g _ (((a.2 c).2 d).2 e)⟩⟩⟩
theorem vl_mono {x : Int32} {o : Ob} {P Q : Int32 → Ob → Prop} (f : ∀ r o2, P r o2 → Q r o2) (a : w_X8_value x o P) : w_X8_value x o Q := by
  have g : ∀ (r1 : Int32), ((r1 = 0 → P 0 o) ∧ (¬ r1 = 0 → vp_in x 744 ∧ P (o.2.2 1 x.toNatClampNeg) o)) → ((r1 = 0 → Q 0 o) ∧ (¬ r1 = 0 → vp_in x 744 ∧ Q (o.2.2 1 x.toNatClampNeg) o)) := fun r h => ⟨fun z => f _ _ (h.1 z), fun z => ⟨(h.2 z).1, f _ _ (h.2 z).2⟩⟩
  exact ⟨fun c => g _ (a.1 c), fun c => ⟨fun d => g _ ((a.2 c).1 d), fun d => ⟨fun e => g _ (((a.2 c).2 d).1 e), fun e => g _ (((a.2 c).2 d).2 e)⟩⟩⟩
theorem ex_mono {x y : Int32} {o : Ob} {P Q : Ob → Prop} (a : w_X8_exchange x y o P) (f : ∀ o2, P o2 → Q o2) : w_X8_exchange x y o Q := vl_mono (fun _ _ h => vl_mono (fun _ _ h2 => sv_mono (fun _ h3 => sv_mono (fun _ h4 => f _ h4) h3) h2) h) a
section
variable {ck : Nat → Ob} {tb : Tb} {nm nc : Nat}
/-- a shuffled row as a site -/
def ShN (tb : Tb) (nm nc m0 : Nat) (R : List Nd) (c : List Frm) (x : Nd) (l : List Int32) (m : Nat) : Prop := SiN tb nm nc m0 R c x (plN l) (some m) ∧ x.1 = some m ∧ tb 0 m = 6 ∧ x.2 = nI l.length ∧ 1 ≤ l.length ∧ l.length ≤ 24
theorem sh_of (hw : ∀ m, m < nm → MkWF tb nc m) {m0 : Nat} {R : List Nd} {c : List Frm} {x : Nd} {L1 : List Nd} {t : Option Nat} (S : SiN tb nm nc m0 R c x L1 t) (hB : BN nm R) (q : kindN tb x = 6) : ∃ l m, L1 = plN l ∧ t = some m ∧ ShN tb nm nc m0 R c x l m := by
  obtain ⟨h0, h1, h2, hk⟩ := id S
  obtain ⟨m, hm, q6⟩ := kind_maker q (by decide)
  have hx : x = (some m, x.2) := Prod.ext hm rfl
  have hxR : R[posR c]? = some x := by rw [← h0]; exact fil_at
  have hmn := hB x (List.mem_of_getElem? hxR) m hm
  obtain ⟨-, -, -, -, -, -, -, -, -, w6, -⟩ := hw m hmn
  obtain ⟨n, n1, n2, en, ew⟩ := w6 q6
  have ht : t = some m := h2.1.symm.trans hm
  have ev : x.2 = nI n := ((h2.2 m ht).2.1 q6).trans en
  rw [hx, kids_6 q6, ev, nI_clamp (by omega)] at hk
  obtain ⟨l, rfl, hl⟩ := CF_pln n L1 hk
  subst ht
  exact ⟨l, m, rfl, rfl, S, hm, q6, by rw [hl]; exact ev, by omega, by omega⟩
theorem sh_cenc {m : Nat} {x : Nd} {l : List Int32} (hm : x.1 = some m) (q : tb 0 m = 6) (ev : x.2 = nI l.length) (hn : l.length ≤ 24) : cenc tb (x :: plN l) = (6, x.2, 0) :: pl l ∧ cnN tb x = (6, x.2, 0) := by
  have hx : x = (some m, x.2) := Prod.ext hm rfl
  have cx : cnN tb x = (6, x.2, 0) := by rw [hx]; exact cn_6 q
  refine ⟨?_, cx⟩
  have hk : CF tb (plN l) (kidsT tb x) := by
    rw [hx, kids_6 q, ev, nI_clamp (by omega)]; exact plN_CF l
  have r0 : resT tb x = [] := by rw [hx]; exact res_0 (by rw [q]; decide)
  rw [cenc_one hk, r0, List.append_nil, plN_cenc, cx]
/-- the places of a shuffled row in the class -/
theorem sh_part (hw : ∀ m, m < nm → MkWF tb nc m) (hn : nm ≤ 30) {m0 m : Nat} (hm0 : m0 < nm) {R : List Nd} {c : List Frm} {x : Nd} {l : List Int32} {b : Ob} (S : ShN tb nm nc m0 R c x l m) (hT : TreeC b (cenc tb R)) : posC tb c + 1 + l.length ≤ (cenc tb R).length ∧ PlF b (posC tb c + 1) (nI (posC tb c)) l := by
  obtain ⟨Si, hm, q, ev, n1, n2⟩ := S
  obtain ⟨p1, p2, p3, p4, p5, p6, p7⟩ := site_part hw hn hm0 Si hT
  obtain ⟨e1, e2⟩ := sh_cenc hm q ev n2
  rw [e1, List.length_cons, pl_len] at p5
  have : cenc tb (plN l) ++ resT tb x = pl l := by rw [e1] at p6; rw [e2] at p6; exact (List.cons.inj p6).2.symm
  rw [this] at p7
  exact ⟨by omega, p7.plf⟩
theorem ed_shx (hw : ∀ m, m < nm → MkWF tb nc m) (hn : nm ≤ 30) {m0 m : Nat} (hm0 : m0 < nm) {R : List Nd} {c : List Frm} {x : Nd} {l : List Int32} (S : ShN tb nm nc m0 R c x l m) {d : Nat} : EdNo tb R (posC tb c) d := by
  intro sk sb sn P h4 h5 hT k
  obtain ⟨p1, p2, -⟩ := site_part hw hn hm0 S.1 hT
  have kk : kindN tb x = 6 := (kind_some S.2.1).trans S.2.2.1
  exact c_none h4 hT p1 (by rw [p2, kk]; decide) k
theorem ed_sh1 (hw : ∀ m, m < nm → MkWF tb nc m) (hn : nm ≤ 30) {m0 m : Nat} (hm0 : m0 < nm) {R : List Nd} {c : List Frm} {x : Nd} {l : List Int32} (S : ShN tb nm nc m0 R c x l m) {k d : Nat} (hk : k < l.length) (hd0 : 0 < d) (hd : d ≤ 1000) : EdNo tb R (posC tb c + 1 + k) d := by
  intro sk sb sn P h4 h5 hT kk
  obtain ⟨p1, p2⟩ := sh_part hw hn hm0 S hT
  obtain ⟨a0, -⟩ := p2 k _ (get_of hk)
  have hl := hT.2.1
  unfold w_X7_edit
  rw [h4]
  refine c_get0 hT.1 (by omega) hl ?_
  rw [a0]
  refine ⟨fun z => absurd z (by decide), fun z => absurd z (by decide), fun _ => ⟨fun _ => kk, fun z => absurd z (by rw [h5]; exact nI_ne0 hd0 (by omega))⟩, fun z => absurd rfl z.2.2.2⟩
/-- the pair at k -/
theorem c_pair (hw : ∀ m, m < nm → MkWF tb nc m) (hn : nm ≤ 30) {m0 m : Nat} (hm0 : m0 < nm) {R : List Nd} {c : List Frm} {x : Nd} {l : List Int32} (S : ShN tb nm nc m0 R c x l m) {k : Nat} (hk : k < l.length) {sk sb sn : Ob} {P : Int32 → Ob → Ob → Ob → Prop} (h4 : sk.2.1 4 = nI (posC tb c + 1 + k)) (h5 : sk.2.1 5 = nI 0) (hT : TreeC sb (cenc tb R))
    (kn : (k + 1 = l.length ∨ ¬ l.getD (k + 1) 0 < l.getD k 0) → P 0 sk sb sn) (ky : k + 1 < l.length → l.getD (k + 1) 0 < l.getD k 0 → ∀ sn0, TreeC sn0 (cenc tb R) → w_X8_exchange (nI (posC tb c + 1 + k)) (nI (posC tb c + 1 + (k + 1))) sn0 (fun sn_13 => P 1 sk sb sn_13)) : w_X7_edit sk sb sn P := by
  obtain ⟨p1, p2⟩ := sh_part hw hn hm0 S hT
  obtain ⟨a0, a1, -⟩ := p2 k _ (get_of hk)
  have hl := hT.2.1
  have hz := hT.1
  have fin : ∀ r16 : Int32, r16 = 0 → (k + 1 = l.length ∨ ¬ l.getD (k + 1) 0 < l.getD k 0) → ((r16 = 0 → P 0 sk sb sn) ∧ (¬ r16 = 0 → P 1 sk sb sn)) := fun r e h => ⟨fun _ => kn h, fun z => absurd e z⟩
  unfold w_X7_edit
  rw [h4]
  refine c_get0 hz (by omega) hl ?_
  rw [a0]
  refine ⟨fun z => absurd z (by decide), fun z => absurd z (by decide), fun _ => ⟨fun z => absurd h5 z, fun _ => ?_⟩, fun z => absurd rfl z.2.2.2⟩
  unfold w_X7_exchangeWithNext
  rw [h4, nI_1]
  by_cases hk1 : k + 1 < l.length
  · obtain ⟨b0, b1, -⟩ := p2 (k + 1) _ (get_of hk1)
    rw [show posC tb c + 1 + (k + 1) = posC tb c + 1 + k + 1 by omega] at b0 b1
    refine c_get0 hz (by omega) hl ?_
    rw [b0]
    refine ⟨fun z => absurd rfl z, fun _ => c_get1 hz (by omega) hl (c_get1 hz (by omega) hl ?_)⟩
    rw [a1, b1]
    refine ⟨fun lt => c_copy hT (fun sn0 T0 => ?_), fun ge => fin 0 rfl (Or.inr ge)⟩
    have := ky hk1 lt sn0 T0
    rw [show posC tb c + 1 + (k + 1) = posC tb c + 1 + k + 1 by omega] at this
    refine ex_mono this (fun o2 h => ⟨fun z => absurd z (by decide), fun _ => h⟩)
  · have ek : k + 1 = l.length := by omega
    -- the part behind is no place
    obtain ⟨Si, hm, q, ev, n1, n2⟩ := id S
    obtain ⟨h0, h1, h2, hkk⟩ := id Si
    have hcf := Si.cf
    have hT' := hT
    rw [← h0] at hT'
    obtain ⟨E1, E2, E3⟩ := tree_ed hw hn hm0 h1 hcf hT'
    obtain ⟨-, hB, -, -, b2, -⟩ := hole_all hw hn hm0 h1 hcf
    obtain ⟨e1, e2⟩ := sh_cenc hm q ev n2
    have len : (cenc tb (x :: plN l)).length = l.length + 1 := by rw [e1, List.length_cons, pl_len]
    have A := aft hw c (some m) (x :: plN l) _ ⟨m, rfl⟩ h1 hB E3
    rw [len] at A b2
    rw [h0] at b2
    rw [show posC tb c + 1 + k + 1 = posC tb c + (l.length + 1) by omega]
    rcases A with A | ⟨A1, A2⟩
    · refine ⟨fun z => absurd z (nI_pos (by omega)), fun _ => ⟨fun _ => ?_, fun z => absurd (show sb.2.1 6 ≤ nI (posC tb c + (l.length + 1)) by rw [hz, b2, A]; exact Int32.le_refl _) z⟩⟩
      exact ⟨fun _ => ⟨fun _ => fin 0 rfl (Or.inl ek), fun z => absurd z (by decide)⟩, fun z => absurd rfl z⟩
    · refine c_get0 hz (by omega) hl ⟨fun _ => fin 0 rfl (Or.inl ek), fun z => absurd z A2⟩
theorem ed_sh0 (hw : ∀ m, m < nm → MkWF tb nc m) (hn : nm ≤ 30) {m0 m : Nat} (hm0 : m0 < nm) {R : List Nd} {c : List Frm} {x : Nd} {l : List Int32} (S : ShN tb nm nc m0 R c x l m) {k : Nat} (hk : k < l.length) (h : k + 1 = l.length ∨ ¬ l.getD (k + 1) 0 < l.getD k 0) : EdNo tb R (posC tb c + 1 + k) 0 := by
  intro sk sb sn P h4 h5 hT kk
  refine c_pair hw hn hm0 S hk h4 h5 hT (fun _ => kk) (fun h1 h2 => ?_)
  rcases h with z | z
  · omega
  · exact absurd h2 z
theorem sh_node {m0 m : Nat} {R : List Nd} {c : List Frm} {x : Nd} {l l2 : List Int32} (S : ShN tb nm nc m0 R c x l m) (hl : l2.length = l.length) : CF tb (x :: plN l2) [some m] := by
  obtain ⟨⟨h0, h1, h2, hk⟩, hm, q, ev, n1, n2⟩ := S
  have hx : x = (some m, x.2) := Prod.ext hm rfl
  refine ⟨some m, [], rfl, h2, ?_⟩
  rw [List.append_nil, hx, kids_6 q, ev, nI_clamp (by omega), ← hl]
  exact plN_CF l2
theorem ed_shy (hw : ∀ m, m < nm → MkWF tb nc m) (hn : nm ≤ 30) {m0 m : Nat} (hm0 : m0 < nm) {R : List Nd} {c : List Frm} {x : Nd} {l : List Int32} (S : ShN tb nm nc m0 R c x l m) {k : Nat} (hk : k + 1 < l.length) (h : l.getD (k + 1) 0 < l.getD k 0) : EdYes tb R (posC tb c + 1 + k) 0 c (x :: plN (swL l k (k + 1))) ∧ PosOk tb (posC tb c + 1 + k) c (x :: plN (swL l k (k + 1))) := by
  obtain ⟨Si, hm, q, ev, n1, n2⟩ := id S
  obtain ⟨h0, h1, h2, hkk⟩ := id Si
  have sl : (swL l k (k + 1)).length = l.length := swL_len
  have hcf := Si.cf
  have hcf2 := sh_node S sl
  obtain ⟨e1, e2⟩ := sh_cenc hm q ev n2
  obtain ⟨e1', -⟩ := sh_cenc (l := swL l k (k + 1)) hm q (by rw [sl]; exact ev) (by rw [sl]; exact n2)
  have len : (cenc tb (x :: plN l)).length = l.length + 1 := by rw [e1, List.length_cons, pl_len]
  have len' : (cenc tb (x :: plN (swL l k (k + 1)))).length = l.length + 1 := by rw [e1', List.length_cons, pl_len, sl]
  have cc : ∀ l' : List Int32, l'.length = l.length → CC (pl l') (arC ((6 : Int32), x.2, (0 : Int32))) := fun l' e => by
    have := pl_CC l'
    rw [show arC ((6 : Int32), x.2, (0 : Int32)) = x.2.toNatClampNeg from rfl, ev, nI_clamp (by omega), ← e]; exact this
  refine ⟨fun sk sb sn P h4 h5 hT kk => ?_, Or.inr ⟨by omega, by rw [len']; omega, fun sn hT => ?_⟩⟩
  · refine c_pair hw hn hm0 S (by omega) h4 h5 hT (fun z => ?_) (fun _ _ sn0 T0 => ?_)
    · rcases z with z | z
      · omega
      · exact absurd h z
    · obtain ⟨p1, p2⟩ := sh_part hw hn hm0 S T0
      refine c_exch2 p2 T0.1 T0.2.1 (by omega) (by omega) hk (fun sn2 g6 gE gF => kk sn2 ?_)
      have T0' := T0
      rw [← h0] at T0'
      obtain ⟨E1, E2, E3⟩ := tree_ed hw hn hm0 h1 hcf T0'
      rw [e1] at E2
      obtain ⟨a0, a1, a2, a3, a4, -⟩ := E2.cons_inv (cc l rfl)
      refine ⟨?_, ?_, ?_⟩
      · rw [g6, ← h0, cenc_fil_len c _ _ h1 hcf, cenc_fil_len c _ _ h1 hcf2, len, len']
      · rw [e1']
        refine TrF.cons (cc _ sl) ?_ ?_ ?_ ?_ ?_ gF.tf
        · rw [gE 0 _ (Or.inl (by omega))]; exact a0
        · rw [gE 1 _ (Or.inl (by omega))]; exact a1
        · rw [gE 2 _ (Or.inl (by omega))]; exact a2
        · rw [gE 3 _ (Or.inl (by omega))]; exact a3
        · rw [gE 4 _ (Or.inl (by omega)), a4, pl_len, pl_len, sl]; congr 1; omega
      · rw [len']
        rw [len] at E3
        exact OutC_in c _ E3 (fun g _ i hi => gE g i (by omega))
  · rw [e1'] at hT
    obtain ⟨a0, a1, a2, a3, a4, a5⟩ := hT.cons_inv (cc _ sl)
    obtain ⟨-, -, -, b3, -⟩ := a5.plf k _ (get_of (by rw [sl]; omega))
    exact ⟨b3, Or.inl a0⟩
theorem ch_none (hn : nm ≤ 30) {tr q ch : Nat} {R : List Nd} {x : Nd} (hB : BN nm R) (hx : R[q]? = some x) (h : x.1 = none) : ChNo tb nm nc tr R (q, false) ch := by
  intro o P BS' h42 h43 h44 k
  have kk : kindN tb x = 8 := by unfold kindN; rw [h]
  exact m_ch0 BS' hx h42 h43 hB hn (fun _ _ => k) (fun m' hm' z => absurd (kk.symm.trans z) (by decide)) (fun z => absurd (kk.symm.trans z) (by decide)) (fun z => absurd (kk.symm.trans z) (by decide))
/-- the reference at a shuffled row -/
theorem ch_sh (hn : nm ≤ 30) {tr m0 m k0 : Nat} (h3 : tr ≠ 3) {R : List Nd} {c : List Frm} {x : Nd} {l : List Int32} (S : ShN tb nm nc m0 R c x l m) (hB : BN nm R) : (k0 + 1 = l.length → ChNo tb nm nc tr R (posR c, false) (desc l k0)) ∧ (k0 + 1 < l.length → l.getD (k0 + 1) 0 < l.getD k0 0 → ChYes tb nm nc tr R (posR c, false) (desc l k0) (fil c (x :: plN (swL l k0 (k0 + 1))))) := by
  obtain ⟨⟨h0, h1, h2, hkk⟩, hm, q, ev, n1, n2⟩ := S
  have hxR : R[posR c]? = some x := by rw [← h0]; exact fil_at
  have kk : kindN tb x = 6 := (kind_some hm).trans q
  have lr : posR c + 1 + l.length ≤ R.length := by rw [← h0, fil_len, List.length_cons, plN_len]; omega
  have vals : ∀ (o : Ob), BS tb nm nc o tr R → ∀ j, j < l.length → o.2.2 10 (1000 * tr + (posR c + 1 + j)) = l.getD j 0 := by
    intro o BS' j hj
    have N : NdS o tr (posR c) (x :: plN l) := by
      have := BS'.2.2.1
      rw [← h0] at this
      exact fil_nd this
    have := N.tail j (none, l.getD j 0) (by unfold plN; rw [List.getElem?_map, get_of hj]; rfl)
    rw [show 1000 * tr + (posR c + 1) + j = 1000 * tr + (posR c + 1 + j) by omega] at this
    exact this.2
  refine ⟨fun e o P BS' h42 h43 h44 k => ?_, fun e lt o P BS' h42 h43 h44 k => ?_⟩
  · refine m_ch0 BS' hxR h42 h43 hB hn (fun z _ => ?_) (fun m' hm' z => absurd (kk.symm.trans z) (by decide)) (fun z => absurd (kk.symm.trans z) (by decide)) (fun _ => ?_)
    · rcases z with z | z
      · exact absurd (kk.symm.trans z) (by decide)
      · exact absurd kk z.2.2
    · have h := m_shcL (n := l.length) (K := fun (k4_56 : Int32) (k5_56 : Int32) (o_k56 : Ob) => w_X10_copyRow (o_k56.2.1 41) (3 : Int32) o_k56 (fun (o_7 : Ob) => vp_in (k5_56 + 1) 5000 ∧ (vp_in (((3000 + nI (posR c)) + 1) + k4_56) 5000 ∧ (vp_in k5_56 5000 ∧ (vp_in (((3000 + nI (posR c)) + 2) + k4_56) 5000 ∧ (((1 : Int32) = 0 ∨ (1 : Int32) = 1) ∧ P 1 ((o_7.1, o_7.2.1, (sa (sa o_7.2.2 10 (upd (o_7.2.2 10) (((3000 + nI (posR c)) + 1) + k4_56).toNatClampNeg ((o_7.2.2 10) (k5_56 + 1).toNatClampNeg))) 10 (upd (upd (o_7.2.2 10) (((3000 + nI (posR c)) + 1) + k4_56).toNatClampNeg ((o_7.2.2 10) (k5_56 + 1).toNatClampNeg)) (((3000 + nI (posR c)) + 2) + k4_56).toNatClampNeg ((upd (o_7.2.2 10) (((3000 + nI (posR c)) + 1) + k4_56).toNatClampNeg ((o_7.2.2 10) (k5_56 + 1).toNatClampNeg)) k5_56.toNatClampNeg)))))))))))
        (Post := fun (r18 : Int32) (o_19 : Ob) => (r18 = 0 ∨ r18 = 1) ∧ (P r18 o_19)) (k0 := k0) BS' rfl n2 (by omega) (vals o BS') (fun z => absurd z (by omega)) (fun _ => ⟨Or.inl rfl, k⟩) (Or.inr e) k0 0 (by omega)
      rw [show desc l 0 = 0 from rfl, Nat.sub_zero, ← h44, ← ev] at h
      exact ⟨k0 + 1, h⟩
  · refine m_ch0 BS' hxR h42 h43 hB hn (fun z _ => ?_) (fun m' hm' z => absurd (kk.symm.trans z) (by decide)) (fun z => absurd (kk.symm.trans z) (by decide)) (fun _ => ?_)
    · rcases z with z | z
      · exact absurd (kk.symm.trans z) (by decide)
      · exact absurd kk z.2.2
    · have h := m_shcL (n := l.length) (K := fun (k4_56 : Int32) (k5_56 : Int32) (o_k56 : Ob) => w_X10_copyRow (o_k56.2.1 41) (3 : Int32) o_k56 (fun (o_7 : Ob) => vp_in (k5_56 + 1) 5000 ∧ (vp_in (((3000 + nI (posR c)) + 1) + k4_56) 5000 ∧ (vp_in k5_56 5000 ∧ (vp_in (((3000 + nI (posR c)) + 2) + k4_56) 5000 ∧ (((1 : Int32) = 0 ∨ (1 : Int32) = 1) ∧ P 1 ((o_7.1, o_7.2.1, (sa (sa o_7.2.2 10 (upd (o_7.2.2 10) (((3000 + nI (posR c)) + 1) + k4_56).toNatClampNeg ((o_7.2.2 10) (k5_56 + 1).toNatClampNeg))) 10 (upd (upd (o_7.2.2 10) (((3000 + nI (posR c)) + 1) + k4_56).toNatClampNeg ((o_7.2.2 10) (k5_56 + 1).toNatClampNeg)) (((3000 + nI (posR c)) + 2) + k4_56).toNatClampNeg ((upd (o_7.2.2 10) (((3000 + nI (posR c)) + 1) + k4_56).toNatClampNeg ((o_7.2.2 10) (k5_56 + 1).toNatClampNeg)) k5_56.toNatClampNeg)))))))))))
        (Post := fun (r18 : Int32) (o_19 : Ob) => (r18 = 0 ∨ r18 = 1) ∧ (P r18 o_19)) (k0 := k0) BS' rfl n2 (by omega) (vals o BS') (fun _ _ => ?_) (fun z => absurd z (by omega)) (Or.inl ⟨e, lt⟩) k0 0 (by omega)
      · rw [show desc l 0 = 0 from rfl, Nat.sub_zero, ← h44, ← ev] at h
        exact ⟨k0 + 1, h⟩
      · obtain ⟨T, ht, hr, h41⟩ := id BS'
        have hl := hr.2.1
        rw [h41]
        refine m_copyRow (u := 3) ht (by omega) h3 hr (fun o2 f2 rk2 r2 => ?_)
        have e1 : (3000 : Int32) + nI (posR c) + 1 + nI k0 = nI (3000 + (posR c + 1 + k0)) := by rw [idx3, nI_1, nI_add]; congr 1; omega
        have e2 : (3000 : Int32) + nI (posR c) + 2 + nI k0 = nI (3000 + (posR c + 1 + (k0 + 1))) := by rw [idx3, show (2 : Int32) = nI 2 from rfl, nI_add, nI_add]; congr 1; omega
        have e3 : (nI (1000 * tr + (posR c + 1 + k0)) : Int32) + 1 = nI (1000 * tr + (posR c + 1 + (k0 + 1))) := by rw [nI_1]; congr 1
        rw [e1, e2, e3, nI_clamp (by omega), nI_clamp (by omega), nI_clamp (by omega), nI_clamp (by omega)]
        have v : ∀ q, q < 5000 → vp_in (nI q) 5000 := fun q hq => vp_in_nI hq (by omega)
        obtain ⟨w1, w2⟩ := (rk2 tr h3).2 (posR c + 1 + k0) (by omega)
        obtain ⟨w3, w4⟩ := (rk2 tr h3).2 (posR c + 1 + (k0 + 1)) (by omega)
        have va := w2.trans (vals o BS' k0 (by omega))
        have vb := w4.trans (vals o BS' (k0 + 1) (by omega))
        rw [vb, pk_un (show 1000 * tr + (posR c + 1 + k0) ≠ 3000 + (posR c + 1 + k0) by omega), va]
        refine ⟨v _ (by omega), v _ (by omega), v _ (by omega), v _ (by omega), Or.inr rfl, ?_⟩
        have key : ∀ X : Ob, X = (o2.1, o2.2.1, sa (sa o2.2.2 10 (upd (o2.2.2 10) (3000 + (posR c + 1 + k0)) (l.getD (k0 + 1) 0))) 10 (upd (upd (o2.2.2 10) (3000 + (posR c + 1 + k0)) (l.getD (k0 + 1) 0)) (3000 + (posR c + 1 + (k0 + 1))) (l.getD k0 0))) → P 1 X := by
          intro X hX
          have x1 : X.2.1 = o2.2.1 := by rw [hX]
          have x2 : X.2.2 = sa (sa o2.2.2 10 (upd (o2.2.2 10) (3000 + (posR c + 1 + k0)) (l.getD (k0 + 1) 0))) 10 (upd (upd (o2.2.2 10) (3000 + (posR c + 1 + k0)) (l.getD (k0 + 1) 0)) (3000 + (posR c + 1 + (k0 + 1))) (l.getD k0 0)) := by rw [hX]
          have xo : ∀ g, g ≠ 10 → X.2.2 g = o2.2.2 g := fun g hg => by rw [x2, sa_ne hg, sa_ne hg]
          have x10 : ∀ q, X.2.2 10 q = upd (upd (o2.2.2 10) (3000 + (posR c + 1 + k0)) (l.getD (k0 + 1) 0)) (3000 + (posR c + 1 + (k0 + 1))) (l.getD k0 0) q := fun q => by rw [x2, sa_us]
          have xn : ∀ q, q ≠ 3000 + (posR c + 1 + k0) → q ≠ 3000 + (posR c + 1 + (k0 + 1)) → X.2.2 10 q = o2.2.2 10 q := fun q h1 h2 => by rw [x10, pk_un h2, pk_un h1]
          have sl : (swL l k0 (k0 + 1)).length = l.length := swL_len
          refine k X ⟨fun k hk => by rw [x1]; exact f2.2.1 k hk, fun k hk => ?_⟩ (fun t' ht' h3' => (rk2 t' h3').tr ⟨by rw [xo 8 (by omega)], fun i hi => ⟨by rw [xo 9 (by omega)], xn _ (by omega) (by omega)⟩⟩) ?_
          · rw [xo k (fun z => hk (by subst z; decide))]; exact f2.2.2 k hk
          · have ll : (fil c (x :: plN (swL l k0 (k0 + 1)))).length = R.length := by rw [← h0, fil_len, fil_len, List.length_cons, List.length_cons, plN_len, plN_len, sl]
            refine ⟨by rw [xo 8 (by omega), ll]; exact r2.1, by rw [ll]; exact hl, fun i y hy => ?_⟩
            have hi := (List.getElem?_eq_some_iff.mp hy).1
            rw [xo 9 (by omega)]
            rw [fil_head] at hy
            have r2' := r2.2.2
            rw [← h0, fil_head] at r2'
            have pl2 := preR_len c
            rcases Nat.lt_or_ge i (posR c + 1) with c1 | c1
            · have hy' : (preR c ++ x :: (plN l ++ sufR c))[i]? = some y := by
                rcases Nat.lt_or_ge i (posR c) with c2 | c2
                · rw [List.getElem?_append_left (by omega)] at hy ⊢; exact hy
                · rw [List.getElem?_append_right (by omega), show i - (preR c).length = 0 by omega] at hy ⊢; exact hy
              have := r2' i y hy'
              rw [xn _ (by omega) (by omega)]; exact this
            · rw [List.getElem?_append_right (by omega), show i - (preR c).length = (i - posR c - 1) + 1 by omega, List.getElem?_cons_succ] at hy
              have base : ∀ z, (plN l ++ sufR c)[i - posR c - 1]? = some z → o2.2.2 9 (1000 * 3 + i) = encM z.1 ∧ o2.2.2 10 (1000 * 3 + i) = z.2 := fun z hz => r2' i z (by
                rw [List.getElem?_append_right (by omega), show i - (preR c).length = (i - posR c - 1) + 1 by omega, List.getElem?_cons_succ]; exact hz)
              rcases Nat.lt_or_ge (i - posR c - 1) l.length with c2 | c2
              · rw [List.getElem?_append_left (by rw [plN_len, sl]; exact c2)] at hy
                unfold plN at hy
                rw [List.getElem?_map, swL_get (by omega) (by omega) c2] at hy
                cases hy
                have b := base (none, l.getD (i - posR c - 1) 0) (by rw [List.getElem?_append_left (by rw [plN_len]; exact c2)]; unfold plN; rw [List.getElem?_map, get_of c2]; rfl)
                refine ⟨b.1, ?_⟩
                rw [x10]
                by_cases d1 : i - posR c - 1 = k0 + 1
                · rw [if_pos d1, show 1000 * 3 + i = 3000 + (posR c + 1 + (k0 + 1)) by omega, pk_us]
                · rw [if_neg d1, pk_un (by omega)]
                  by_cases d2 : i - posR c - 1 = k0
                  · rw [if_pos d2, show 1000 * 3 + i = 3000 + (posR c + 1 + k0) by omega, pk_us]
                  · rw [if_neg d2, pk_un (by omega)]; exact b.2
              · rw [List.getElem?_append_right (by rw [plN_len, sl]; exact c2), plN_len, sl] at hy
                have b := base y (by rw [List.getElem?_append_right (by rw [plN_len]; exact c2), plN_len]; exact hy)
                rw [xn _ (by omega) (by omega)]; exact b
        exact key _ rfl
end
