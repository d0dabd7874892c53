/-! EDITS: a list, the class -/
theorem parS_lt {C : List CN} {p : Nat} : ∀ q r, parS C p q = some r → r < q := by
  intro q
  induction q with
  | zero => intro r h; rw [parS_0] at h; cases h
  | succ q ih =>
    intro r h
    rw [parS_s] at h
    by_cases c : p < enC C q
    · rw [if_pos c] at h; cases h; omega
    · rw [if_neg c] at h; have := ih r h; omega
theorem adI_lo {to g q : Nat} (h : q < to) (ht : to ≤ 744) : adI to g (nI q) = nI q := by unfold adI; rw [if_pos ((nI_ltI (by omega) (by omega)).mpr h)]
theorem adI_hi {to g q : Nat} (h : to ≤ q) (hg : g ≤ q) (hq : q ≤ 744) : adI to g (nI q) = nI (q - g) := by
  unfold adI
  rw [if_neg (by rw [nI_ltI (by omega) (by omega)]; omega), nI_sub hg]
theorem adI_m {to g : Nat} (ht : to ≤ 744) : adI to g (-1) = -1 := by
  unfold adI
  rw [if_pos (Int32.lt_of_lt_of_le (show (-1 : Int32) < 0 by decide) (nI_pos' (by omega)))]
theorem dr_keep {frm to z p : Nat} {kt0 kt : Ob} {par : Int32} {F : List CN} (D : DrP frm to z kt0 kt) (h1 : frm < to) (h2 : to ≤ z) (h3 : z ≤ 744) (hp : p + F.length ≤ frm) (hpar : adI to (to - frm) par = par) (h : TrF kt0 p par F) : TrF kt p par F := by
  intro i c hc
  have hi := (List.getElem?_eq_some_iff.mp hc).1
  obtain ⟨a0, a1, a2, a3, a4⟩ := h i c hc
  obtain ⟨d0, d1, d2, d3, d4⟩ := D (p + i) (by omega) (Or.inl (by omega))
  have e : nwN frm to (p + i) = p + i := by unfold nwN; rw [if_pos (by omega)]
  rw [e] at d0 d1 d2 d3 d4
  have en := (enC_le hi).2
  refine ⟨d0.trans a0, d1.trans a1, d2.trans a2, ?_, ?_⟩
  · rw [d3, a3]
    cases hq : parS F i i with
    | none => exact hpar
    | some r =>
      have := parS_lt _ _ hq
      show adI to (to - frm) (nI (p + r)) = nI (p + r)
      exact adI_lo (by omega) (by omega)
  · rw [d4, a4]; exact adI_lo (by omega) (by omega)
theorem dr_shift {frm to z p : Nat} {kt0 kt : Ob} {par : Int32} {F : List CN} (D : DrP frm to z kt0 kt) (h1 : frm < to) (h3 : z ≤ 744) (hp : to ≤ p) (hl : p + F.length ≤ z) (hpar : adI to (to - frm) par = par) (h : TrF kt0 p par F) : TrF kt (p - (to - frm)) par F := by
  intro i c hc
  have hi := (List.getElem?_eq_some_iff.mp hc).1
  obtain ⟨a0, a1, a2, a3, a4⟩ := h i c hc
  obtain ⟨d0, d1, d2, d3, d4⟩ := D (p + i) (by omega) (Or.inr (by omega))
  have e : nwN frm to (p + i) = p - (to - frm) + i := by unfold nwN; rw [if_neg (by omega)]; omega
  rw [e] at d0 d1 d2 d3 d4
  have en := enC_le hi
  refine ⟨d0.trans a0, d1.trans a1, d2.trans a2, ?_, ?_⟩
  · rw [d3, a3]
    cases hq : parS F i i with
    | none => exact hpar
    | some r =>
      have := parS_lt _ _ hq
      show adI to (to - frm) (nI (p + r)) = nI (p - (to - frm) + r)
      rw [adI_hi (by omega) (by omega) (by omega)]; congr 1; omega
  · rw [d4, a4, adI_hi (by omega) (by omega) (by omega)]; congr 1; omega
section
variable {tb : Tb} {nm nc : Nat}
theorem par_fix {to g : Nat} (ht : to ≤ 744) : ∀ c : List Frm, posC tb c < to → adI to g (parO tb c) = parO tb c := by
  intro c h
  cases c with
  | nil => exact adI_m ht
  | cons f c =>
    have h : posC tb c + 1 + (cenc tb f.2.1).length < to := h
    show adI to g (nI (posC tb c)) = nI (posC tb c)
    exact adI_lo (by omega) ht
theorem dr_nd {frm to z P s : Nat} {kt0 kt : Ob} {par : Int32} {x : Nd} (D : DrP frm to z kt0 kt) (h1 : frm < to) (h3 : z ≤ 744) (hP : P < frm) (hs : to ≤ P + s) (hz : P + s ≤ z) (hpar : adI to (to - frm) par = par) (h : NdC tb kt0 P par x s) : NdC tb kt P par x (s - (to - frm)) := by
  obtain ⟨a0, a1, a2, a3, a4⟩ := h
  obtain ⟨d0, d1, d2, d3, d4⟩ := D P (by omega) (Or.inl hP)
  have e : nwN frm to P = P := by unfold nwN; rw [if_pos hP]
  rw [e] at d0 d1 d2 d3 d4
  refine ⟨d0.trans a0, d1.trans a1, d2.trans a2, by rw [d3, a3]; exact hpar, ?_⟩
  rw [d4, a4, adI_hi (by omega) (by omega) (by omega)]; congr 1; omega
theorem dr_out {frm to z : Nat} {kt0 kt : Ob} (D : DrP frm to z kt0 kt) (h1 : frm < to) (h2 : to ≤ z) (h3 : z ≤ 744) : ∀ (c : List Frm) (s : Nat), posC tb c < frm → to ≤ posC tb c + s → outN tb c s ≤ z → OutC tb kt0 c s → OutC tb kt c (s - (to - frm)) := by
  intro c
  induction c with
  | nil => intro s _ _ _ _; exact trivial
  | cons f c ih =>
    intro s hp hs ho h
    obtain ⟨n, pre, post, up⟩ := h
    have hp : posC tb c + 1 + (cenc tb f.2.1).length < frm := hp
    have hs : to ≤ posC tb c + 1 + (cenc tb f.2.1).length + s := hs
    have ho : outN tb c (szF tb f s) ≤ z := ho
    have sz : szF tb f s = 1 + ((cenc tb f.2.1).length + s + ((cenc tb f.2.2).length + (resT tb f.1).length)) := rfl
    have sz2 : szF tb f (s - (to - frm)) = szF tb f s - (to - frm) := by
      rw [sz]
      show 1 + ((cenc tb f.2.1).length + (s - (to - frm)) + ((cenc tb f.2.2).length + (resT tb f.1).length)) = _
      omega
    have hge := (outN_ge (tb := tb) c (szF tb f s)).1
    have fx : adI to (to - frm) (nI (posC tb c)) = nI (posC tb c) := adI_lo (by omega) (by omega)
    refine ⟨?_, dr_keep D h1 h2 h3 (by omega) fx pre, ?_, ?_⟩
    · rw [sz2]
      exact dr_nd D h1 h3 (by omega) (by omega) (by omega) (par_fix (by omega) c (by omega)) n
    · have := dr_shift D h1 h3 (by omega) (by rw [List.length_append]; omega) fx post
      rw [show posC tb c + 1 + (cenc tb f.2.1).length + s - (to - frm) = posC tb c + 1 + (cenc tb f.2.1).length + (s - (to - frm)) by omega] at this
      exact this
    · rw [sz2]
      exact ih _ (by omega) (by omega) ho up
theorem c_wk8 (hw : ∀ m, m < nm → MkWF tb nc m) {f1 f2 f3 : Int32} {N : Nat} (hN : f2 = nI N) (hNb : N < 1000) {K : Int32 → Ob → Prop} {Post : Ob → Prop} {kt : Ob} {z : Nat} {par : Int32} (h6 : kt.2.1 6 = nI z) (h3 : z ≤ 744) : ∀ (ts : List (Option Nat)) (L : List Nd) (p j : Nat), CF tb L ts → BN nm L → TrF kt p par (cenc tb L) → p + (cenc tb L).length ≤ z → j + ts.length = N → K (nI (p + (cenc tb L).length)) kt → w_X8_dropFromRow_L8 f1 f2 f3 K Post (ts.length + 1) (nI p) (nI j) kt := by
  intro ts
  induction ts with
  | nil =>
    intro L p j hc hB hT hl hj k
    have : L = [] := by
      cases L with
      | nil => rfl
      | cons x M => obtain ⟨t', ts', e, -⟩ := hc; cases e
    subst this
    have hj : j + 0 = N := hj
    exact ⟨fun _ => k, fun y => absurd (by rw [hN, nI_leI (by omega) (by omega)]; omega) y⟩
  | cons t ts ih =>
    intro L p j hc hB hT hl hj k
    obtain ⟨A, B, rfl, a, b⟩ := CF_split L [t] ts hc
    have hj : j + (ts.length + 1) = N := hj
    have cA := CC_cenc hw A _ a (fun y hy => hB y (List.mem_append_left _ hy))
    have hBB : BN nm B := fun y hy => hB y (List.mem_append_right _ hy)
    have cB := CC_cenc hw B _ b hBB
    rw [cenc_app A _ a] at hT hl k
    rw [List.length_append] at hl k
    obtain ⟨t1, t2⟩ := hT.app_inv cA cB
    have pA := (CF_ne a).2
    refine ⟨fun y => absurd y (by rw [hN, nI_leI (by omega) (by omega)]; omega), fun _ => ?_⟩
    refine c_get4 h6 (by omega) h3 ?_
    rw [tree_end t1 cA pA, nI_1]
    exact ih B _ _ b hBB t2 (by omega) (by omega) (by rw [Nat.add_assoc]; exact k)
theorem c_wk35 (hw : ∀ m, m < nm → MkWF tb nc m) {f1 f2 f3 : Int32} {N : Nat} (hN : f2 = nI N) (hNb : N < 1000) {K : Int32 → Ob → Prop} {Post : Ob → Prop} {kt : Ob} {z : Nat} {par : Int32} (h6 : kt.2.1 6 = nI z) (h3 : z ≤ 744) : ∀ (ts : List (Option Nat)) (L : List Nd) (p j : Nat), CF tb L ts → BN nm L → TrF kt p par (cenc tb L) → p + (cenc tb L).length ≤ z → j + ts.length = N → K (nI (p + (cenc tb L).length)) kt → w_X8_dropFromRow_L35 f1 f2 f3 K Post (ts.length + 1) (nI p) (nI j) kt := by
  intro ts
  induction ts with
  | nil =>
    intro L p j hc hB hT hl hj k
    have : L = [] := by
      cases L with
      | nil => rfl
      | cons x M => obtain ⟨t', ts', e, -⟩ := hc; cases e
    subst this
    have hj : j + 0 = N := hj
    exact ⟨fun _ => k, fun y => absurd (by rw [hN, nI_leI (by omega) (by omega)]; omega) y⟩
  | cons t ts ih =>
    intro L p j hc hB hT hl hj k
    obtain ⟨A, B, rfl, a, b⟩ := CF_split L [t] ts hc
    have hj : j + (ts.length + 1) = N := hj
    have cA := CC_cenc hw A _ a (fun y hy => hB y (List.mem_append_left _ hy))
    have hBB : BN nm B := fun y hy => hB y (List.mem_append_right _ hy)
    have cB := CC_cenc hw B _ b hBB
    rw [cenc_app A _ a] at hT hl k
    rw [List.length_append] at hl k
    obtain ⟨t1, t2⟩ := hT.app_inv cA cB
    have pA := (CF_ne a).2
    refine ⟨fun y => absurd y (by rw [hN, nI_leI (by omega) (by omega)]; omega), fun _ => ?_⟩
    refine c_get4 h6 (by omega) h3 ?_
    rw [tree_end t1 cA pA, nI_1]
    exact ih B _ _ b hBB t2 (by omega) (by omega) (by rw [Nat.add_assoc]; exact k)
theorem ls_ok {t : Option Nat} {x : Nd} {n k : Nat} (h : okN tb t x) (q : kindN tb x = 1) (hx : x.2 = nI n) (hn : n ≤ 24) (hk : k ≤ n) (hb : ∃ b : Nat, b ≤ 24 ∧ ∀ m, x.1 = some m → tb 3 m = nI b) : okN tb t (x.1, nI k) := by
  obtain ⟨e, h⟩ := h
  refine ⟨e, fun m hm => ?_⟩
  have kk : tb 0 m = 1 := (kind_some (e.trans hm)).symm.trans q
  refine ⟨fun _ => ?_, fun z => absurd (kk.symm.trans z) (by decide), fun z => absurd (kk.symm.trans z) (by decide), fun z => absurd (kk.symm.trans z) (by decide)⟩
  obtain ⟨j, j1, j2⟩ := (h m hm).1 kk
  obtain ⟨b, b1, b2⟩ := hb
  have b3 := b2 m (e.trans hm)
  rw [b3, nI_clamp (by omega)] at j1
  have : n = j := by have := congrArg Int32.toNatClampNeg (hx.symm.trans j2); rwa [nI_clamp (by omega), nI_clamp (by omega)] at this
  exact ⟨k, by rw [b3, nI_clamp (by omega)]; omega, rfl⟩
/-- the class drops cases of a list -/
theorem c_drop (hw : ∀ m, m < nm → MkWF tb nc m) (hn : nm ≤ 30) {m0 m : Nat} (hm0 : m0 < nm) {R : List Nd} {c : List Frm} {x : Nd} {K1 K2 K3 : List Nd} {t : Option Nat} {ts1 ts2 ts3 : List (Option Nat)} {n c' l' : Nat} (S : SiN tb nm nc m0 R c x (K1 ++ (K2 ++ K3)) t) (hm : x.1 = some m) (q : tb 0 m = 1) (e : x.2 = nI n) (hn2 : n ≤ 24) (g1 : 1 ≤ c') (g2 : c' ≤ n) (k1 : CF tb K1 ts1) (k2 : CF tb K2 ts2) (k3 : CF tb K3 ts3) (l1 : ts1.length = c' * l') (l2 : ts2.length = c') (lb : c' * l' ≤ 24) (hv1 : kidsT tb (x.1, nI (n - c')) = ts1 ++ ts3) (ok : okN tb t (x.1, nI (n - c'))) {sn : Ob} {P : Ob → Prop} (hT : TreeC sn (cenc tb R)) (kk : ∀ sn', EdC tb sn' c ((x.1, nI (n - c')) :: (K1 ++ K3)) → P sn') : w_X8_dropFromRow (nI (posC tb c)) (nI l' * nI c') (nI c') sn P := by
  obtain ⟨h0, h1, h2, hk⟩ := id S
  have hcf := S.cf
  have hT' := hT
  rw [← h0] at hT'
  obtain ⟨E1, E2, E3⟩ := tree_ed hw hn hm0 h1 hcf hT'
  obtain ⟨hcR, hBR, hBT, b1, b2, b3, -, cc, -⟩ := hole_all hw hn hm0 h1 hcf
  have rx : ∀ v, resT tb (x.1, v) = [] := fun v => by rw [hm]; exact res_0 (by rw [q]; decide)
  have hx : x = (some m, x.2) := Prod.ext hm rfl
  have eC := cenc_one hk
  have rx0 := rx x.2
  rw [show ((x.1, x.2) : Nd) = x from rfl] at rx0
  rw [rx0, List.append_nil, cenc_app K1 _ k1, cenc_app K2 _ k2, hx, cn_1 q] at eC
  rw [← hx] at eC
  have hB1 : BN nm K1 := fun y hy => hBT y (List.mem_cons_of_mem _ (List.mem_append_left _ hy))
  have hB2 : BN nm K2 := fun y hy => hBT y (List.mem_cons_of_mem _ (List.mem_append_right _ (List.mem_append_left _ hy)))
  have hB3 : BN nm K3 := fun y hy => hBT y (List.mem_cons_of_mem _ (List.mem_append_right _ (List.mem_append_right _ hy)))
  have cc1 := CC_cenc hw K1 _ k1 hB1
  have cc2 := CC_cenc hw K2 _ k2 hB2
  have cc3 := CC_cenc hw K3 _ k3 hB3
  have len0 : (cenc tb (x :: (K1 ++ (K2 ++ K3)))).length = (cenc tb K1).length + ((cenc tb K2).length + (cenc tb K3).length) + 1 := by rw [eC, List.length_cons, List.length_append, List.length_append]
  have hkn : CF tb (K1 ++ K3) (kidsT tb (x.1, nI (n - c'))) := by rw [hv1]; exact CF_app k3 _ _ k1
  have hcfn : CF tb ((x.1, nI (n - c')) :: (K1 ++ K3)) [t] := ⟨t, [], rfl, ok, by rw [List.append_nil]; exact hkn⟩
  have eCn := cenc_one hkn
  rw [rx, List.append_nil, cenc_app K1 _ k1, hm, cn_1 q] at eCn
  rw [← hm] at eCn
  have lenn : (cenc tb ((x.1, nI (n - c')) :: (K1 ++ K3))).length = (cenc tb K1).length + (cenc tb K3).length + 1 := by rw [eCn, List.length_cons, List.length_append]
  have E2' := E2
  rw [eC] at E2' cc
  obtain ⟨k', ek, cc⟩ := cc
  obtain rfl : k' = 0 := by omega
  obtain ⟨a0, a1, a2, a3, a4, a5⟩ := E2'.cons_inv cc
  obtain ⟨t1, t23⟩ := a5.app_inv cc1 (CC_app cc3 _ _ cc2)
  obtain ⟨t2, t3⟩ := t23.app_inv cc2 cc3
  rw [List.length_append, List.length_append] at a4
  -- the places
  have hge := (outN_ge (tb := tb) c (cenc tb (x :: (K1 ++ (K2 ++ K3)))).length).1
  rw [len0] at hge b2 b3
  have g0 : 0 < (cenc tb K2).length := by
    cases K2 with
    | nil => rw [show ts2 = [] from k2] at l2; have l2 : 0 = c' := l2; omega
    | cons y M => rw [cenc_len]; omega
  have hz : sn.2.1 6 = nI (cenc tb R).length := hT.1
  have hRl : (cenc tb R).length = outN tb c ((cenc tb K1).length + ((cenc tb K2).length + (cenc tb K3).length) + 1) := by rw [← h0, b2]
  have hR4 : (cenc tb R).length ≤ 744 := hT.2.1
  have e1 : nI l' * nI c' = nI (c' * l') := by rw [mul_nI, Nat.mul_comm]
  refine ⟨ts1.length + 1, ?_⟩
  rw [e1, nI_1]
  refine c_wk8 (N := c' * l') hw rfl (by omega) hz hR4 ts1 K1 (posC tb c + 1) 0 k1 hB1 t1 (by omega) (by omega) ⟨ts2.length + 1, ?_⟩
  refine c_wk35 (N := c') hw rfl (by omega) hz hR4 ts2 K2 _ 0 k2 hB2 t2 (by omega) (by omega) ?_
  refine c_get1 hz (by omega) hR4 ?_
  rw [a1, e, nI_sub g2]
  refine c_setV (z := (cenc tb R).length) hz (by omega) hR4 ?_
  have kz : (Tu sn 1 (posC tb c) (nI (n - c'))).2.1 6 = nI (cenc tb R).length := hz
  refine c_dp (frm := posC tb c + 1 + (cenc tb K1).length) (to := posC tb c + 1 + (cenc tb K1).length + (cenc tb K2).length) (kt0 := Tu sn 1 (posC tb c) (nI (n - c'))) (by omega) (by omega) hR4 kz (fun kt f6 D => kk kt ?_)
  have gg : posC tb c + 1 + (cenc tb K1).length + (cenc tb K2).length - (posC tb c + 1 + (cenc tb K1).length) = (cenc tb K2).length := by omega
  have fx : ∀ g, adI (posC tb c + 1 + (cenc tb K1).length + (cenc tb K2).length) g (nI (posC tb c)) = nI (posC tb c) := fun g => adI_lo (by omega) (by omega)
  have w1 := dr_keep D (by omega) (by omega) hR4 (by omega) (fx _) (t1.tu (f := 1) (p := posC tb c) (v := nI (n - c')) (Or.inl (by omega)))
  have w3 := dr_shift D (by omega) hR4 (Nat.le_refl _) (by omega) (fx _) (t3.tu (f := 1) (p := posC tb c) (v := nI (n - c')) (Or.inl (by omega)))
  rw [gg] at w3 f6
  have o1 : OutC tb (Tu sn 1 (posC tb c) (nI (n - c'))) c ((cenc tb K1).length + ((cenc tb K2).length + (cenc tb K3).length) + 1) := by
    rw [len0] at E3
    exact OutC_in c _ E3 (fun g _ i hi => Tu_np (by omega))
  have o2 := dr_out D (by omega) (by omega) hR4 c _ (by omega) (by omega) (by omega) o1
  rw [gg] at o2
  obtain ⟨d0, d1, d2, d3, d4⟩ := D (posC tb c) (by omega) (Or.inl (by omega))
  have en : nwN (posC tb c + 1 + (cenc tb K1).length) (posC tb c + 1 + (cenc tb K1).length + (cenc tb K2).length) (posC tb c) = posC tb c := by unfold nwN; rw [if_pos (by omega)]
  rw [en] at d0 d1 d2 d3 d4
  rw [gg] at d3 d4
  refine ⟨?_, ?_, ?_⟩
  · rw [f6, cenc_fil_len c t _ h1 hcfn, lenn, hRl]
    have := (outN_ge (tb := tb) c ((cenc tb K1).length + (cenc tb K3).length + 1)).2 (cenc tb K2).length
    rw [show (cenc tb K1).length + (cenc tb K3).length + 1 + (cenc tb K2).length = (cenc tb K1).length + ((cenc tb K2).length + (cenc tb K3).length) + 1 by omega] at this
    rw [this]; congr 1; omega
  · rw [eCn]
    have ar : arC ((1 : Int32), nI (n - c'), (0 : Int32)) = ts1.length + ts3.length := by
      have := congrArg List.length hv1
      rw [hm, kids_1 q, List.length_replicate, List.length_append] at this
      show (nI (n - c')).toNatClampNeg = _
      exact this
    refine TrF.cons (by rw [ar]; exact CC_app cc3 _ _ cc1) ?_ ?_ ?_ ?_ ?_ (TrF.app cc1 cc3 w1 ?_)
    · rw [d0, Tu_nf (by omega)]; exact a0
    · rw [d1]; exact Tu_us
    · rw [d2, Tu_nf (by omega)]; exact a2
    · rw [d3, Tu_nf (by omega), a3]; exact par_fix (by omega) c (by omega)
    · rw [d4, Tu_nf (by omega), a4, adI_hi (by omega) (by omega) (by omega), List.length_append]; congr 1; omega
    · rw [show posC tb c + 1 + (cenc tb K1).length + (cenc tb K2).length - (cenc tb K2).length = posC tb c + 1 + (cenc tb K1).length by omega] at w3
      exact w3
  · rw [lenn]
    rw [show (cenc tb K1).length + ((cenc tb K2).length + (cenc tb K3).length) + 1 - (cenc tb K2).length = (cenc tb K1).length + (cenc tb K3).length + 1 by omega] at o2
    exact o2
end
