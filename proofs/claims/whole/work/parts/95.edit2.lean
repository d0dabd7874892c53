/-! EDITS: a whole number, a leaf below -/
section
variable {ck : Nat → Ob} {tb : Tb} {nm nc : Nat}
theorem kids_v {x : Nd} {v : Int32} (h : kindN tb x = 0 ∨ kindN tb x = 7) : kidsT tb (x.1, v) = kidsT tb x := by
  rcases h with h | h
  · obtain ⟨m, hm, q⟩ := kind_maker h (by decide)
    have hx : x = (some m, x.2) := Prod.ext hm rfl
    rw [hm, kids_0 q, hx, kids_0 q]
  · obtain ⟨m, hm, q⟩ := kind_maker h (by decide)
    have hx : x = (some m, x.2) := Prod.ext hm rfl
    rw [hm, kids_7 q, hx, kids_7 q]
theorem ok_num {t : Option Nat} {x : Nd} {v : Int32} (h : okN tb t x) (q : (kindN tb x = 0 ∧ (-1000000) ≤ v ∧ v ≤ 1000000) ∨ (kindN tb x = 7 ∧ 0 ≤ v)) : okN tb t (x.1, v) := by
  obtain ⟨e, h⟩ := h
  refine ⟨e, fun m hm => ?_⟩
  have kk : kindN tb x = tb 0 m := kind_some (e.trans hm)
  rw [kk] at q
  rcases q with ⟨q, a, b⟩ | ⟨q, a⟩
  · exact ⟨fun z => absurd (q.symm.trans z) (by decide), fun z => absurd (q.symm.trans z) (by decide), fun z => absurd (q.symm.trans z) (by decide), fun _ => ⟨a, b⟩⟩
  · exact ⟨fun z => absurd (q.symm.trans z) (by decide), fun z => absurd (q.symm.trans z) (by decide), fun _ => a, fun z => absurd (q.symm.trans z) (by decide)⟩
/-- an outcome of an edit, the same on both sides -/
def EdB (ck : Nat → Ob) (tb : Tb) (nm nc tr m0 : Nat) (R : List Nd) (i d : Nat) (s : Nat × Bool) (ch : Nat) : Prop := (EdNo tb R i d ∧ ChNo tb nm nc tr R s ch) ∨ ∃ (c : List Frm) (t : Option Nat) (Tc T : List Nd), CFx tb c t (some m0) ∧ CF tb Tc [t] ∧ CF tb T [t] ∧ (∃ a, t = some a) ∧ R = fil c Tc ∧ s.1 = posR c ∧ PosOk tb i c T ∧ EdYes tb R i d c T ∧ ChYes tb nm nc tr R s ch (fil c T) ∧ d < 600
theorem ed_whole (hw : ∀ m, m < nm → MkWF tb nc m) (hn : nm ≤ 30) {m0 tr : Nat} (hm0 : m0 < nm) (h3 : tr ≠ 3) {R : List Nd} {c : List Frm} {x : Nd} {L1 : List Nd} {t : Option Nat} (S : SiN tb nm nc m0 R c x L1 t) (hB : BN nm R) (q : kindN tb x = 0) {d : Nat} (hd : d ≤ 1000) : EdB ck tb nm nc tr m0 R (posC tb c) d (posR c, false) d := by
  obtain ⟨h0, h1, h2, hk⟩ := id S
  obtain ⟨m, hm, q0⟩ := kind_maker q (by decide)
  have hx : x = (some m, x.2) := Prod.ext hm rfl
  have hxR : R[posR c]? = some x := by rw [← h0]; exact fil_at
  have hmn := hB x (List.mem_of_getElem? hxR) m hm
  have W := hw m hmn
  obtain ⟨-, -, -, w0, -⟩ := W
  obtain ⟨w1, w2, w3⟩ := w0 q0
  have hL1 : L1 = [] := by
    rw [hx, kids_0 q0] at hk
    cases L1 with
    | nil => rfl
    | cons y L => obtain ⟨t', ts', e, -⟩ := hk; cases e
  subst hL1
  have bx : (-1000000) ≤ x.2 ∧ x.2 ≤ 1000000 := (h2.2 m (h2.1.symm.trans hm)).2.2.2 q0
  obtain ⟨g1, g2⟩ := goal_rng w1 w2 w3
  obtain ⟨nb, rg⟩ := near_rng bx.1 bx.2 g1 g2
  have cnx : cnN tb x = (0, x.2, goalN tb m) := by rw [hx]; exact cn_0 q0
  have ch0 : ∀ (o : Ob) (P : Int32 → Ob → Prop), BS tb nm nc o tr R → o.2.1 42 = nI (posR c) → o.2.1 43 = b2i false → o.2.1 44 = nI d → (hv d (x.2 - goalN tb m) = 0 → P 0 o) → (¬ hv d (x.2 - goalN tb m) = 0 → w_X10_tryWith (nI (posR c)) (x.2 - hv d (x.2 - goalN tb m)) o (fun o_11 => P 1 o_11)) → w_X10_changes o P := by
    intro o P BS' h42 h43 h44 k0 k1
    refine m_ch0 BS' hxR h42 h43 hB hn (fun z _ => ?_) (fun m' hm' _ => ?_) (fun z => absurd (q.symm.trans z) (by decide)) (fun z => absurd (q.symm.trans z) (by decide))
    · rcases z with z | z
      · exact absurd (q.symm.trans z) (by decide)
      · exact absurd q z.1
    · obtain rfl : m = m' := by rw [hm] at hm'; cases hm'; rfl
      rw [h44]
      refine m_near (goalN tb m) (by omega) nb (fun Q hQ => m_nearest w1 hQ) ⟨fun z => k0 (sub_ne.mp z), fun z => k1 (fun y => z (sub_ne.mpr y))⟩
  by_cases z : hv d (x.2 - goalN tb m) = 0
  · refine Or.inl ⟨fun sk sb sn P h4 h5 hT k => ?_, fun o P BS' h42 h43 h44 k => ch0 o P BS' h42 h43 h44 (fun _ => k) (fun y => absurd z y)⟩
    obtain ⟨p1, p2, p3, p4, -⟩ := site_part hw hn hm0 S hT
    rw [cnx] at p3 p4
    exact c_mv h4 h5 hd hT p1 (Or.inl (p2.trans q)) p3 p4 (fun _ => k) (fun y => absurd z y)
  · have hcf : CF tb [(x.1, x.2 - hv d (x.2 - goalN tb m))] [t] := ⟨t, [], rfl, ok_num h2 (Or.inl ⟨q, rg d⟩), by rw [List.append_nil, kids_v (Or.inl q)]; exact hk⟩
    have few := hv_few nb z
    refine Or.inr ⟨c, t, [x], [(x.1, x.2 - hv d (x.2 - goalN tb m))], h1, S.cf, hcf, ⟨m, h2.1.symm.trans hm⟩, h0.symm, rfl, Or.inl rfl, fun sk sb sn P h4 h5 hT k => ?_, fun o P BS' h42 h43 h44 k => ch0 o P BS' h42 h43 h44 (fun y => absurd y z) (fun _ => tw hn h3 h0 BS' (fun o2 a b e => k o2 a b e)), by omega⟩
    obtain ⟨p1, p2, p3, p4, p5, -⟩ := site_part hw hn hm0 S hT
    rw [cnx] at p3 p4
    refine c_mv h4 h5 hd hT p1 (Or.inl (p2.trans q)) p3 p4 (fun y => absurd y z) (fun _ sn0 T0 => k _ ?_)
    rw [← h0] at T0
    obtain ⟨E1, E2, E3⟩ := tree_ed hw hn hm0 h1 S.cf T0
    have r0 : ∀ v, resT tb (x.1, v) = [] := fun v => by rw [hm]; exact res_0 (by rw [q0]; decide)
    have cN : cenc tb [(x.1, x.2 - hv d (x.2 - goalN tb m))] = [(0, x.2 - hv d (x.2 - goalN tb m), goalN tb m)] := by
      rw [cenc_one (L1 := []) (by rw [kids_v (Or.inl q)]; exact hk), r0, hm, cn_0 q0]; rfl
    have cO : cenc tb [x] = [(0, x.2, goalN tb m)] := by
      rw [cenc_one (L1 := []) hk, cnx]
      have := r0 x.2
      rw [show ((x.1, x.2) : Nd) = x from rfl] at this
      rw [this]; rfl
    rw [cO] at E2 E3
    obtain ⟨a0, a1, a2, a3, a4, -⟩ := E2.cons_inv (show CC [] (arC ((0 : Int32), x.2, goalN tb m)) from rfl)
    refine ⟨?_, ?_, ?_⟩
    · show sn0.2.1 6 = _
      rw [E1, cenc_fil_len c t _ h1 hcf, cenc_fil_len c t _ h1 S.cf, cN, cO]; rfl
    · rw [cN]
      exact TrF.cons (F := []) rfl ((Tu_nf (by omega)).trans a0) Tu_us ((Tu_nf (by omega)).trans a2) ((Tu_nf (by omega)).trans a3) ((Tu_nf (by omega)).trans a4) TrF.nil
    · rw [cN]
      refine OutC_in c _ E3 (fun g _ i hi => Tu_np ?_)
      have hi : i < posC tb c ∨ posC tb c + 1 ≤ i := hi
      omega
theorem ed_rest (hw : ∀ m, m < nm → MkWF tb nc m) (hn : nm ≤ 30) {m0 tr : Nat} (hm0 : m0 < nm) (h3 : tr ≠ 3) {R : List Nd} {c : List Frm} {x : Nd} {L1 : List Nd} {t : Option Nat} (S : SiN tb nm nc m0 R c x L1 t) (hB : BN nm R) (q : kindN tb x = 7) {d : Nat} (hd : d ≤ 1000) : EdB ck tb nm nc tr m0 R (posC tb c + 1 + (cenc tb L1).length) d (posR c, true) d := by
  obtain ⟨h0, h1, h2, hk⟩ := id S
  obtain ⟨m, hm, q7⟩ := kind_maker q (by decide)
  have hx : x = (some m, x.2) := Prod.ext hm rfl
  have hxR : R[posR c]? = some x := by rw [← h0]; exact fil_at
  have hmn := hB x (List.mem_of_getElem? hxR) m hm
  have kid : ∀ v, kidsT tb (x.1, v) = [some (oneN tb m)] := fun v => by rw [hm]; exact kids_7 q7
  have hk1 : CF tb L1 [some (oneN tb m)] := by have := hk; rw [hx, kids_7 q7] at this; exact this
  have bx : 0 ≤ x.2 := (h2.2 m (h2.1.symm.trans hm)).2.2.1 q7
  obtain ⟨nb, rg⟩ := pos_rng bx
  obtain ⟨l1p, l1c⟩ := CF_ne hk1
  have resv : ∀ v, resT tb (x.1, v) = [(9, v, 0)] := fun v => by rw [hm]; exact res_7 q7
  have cnv : ∀ v, cnN tb (x.1, v) = (7, 2, 0) := fun v => by rw [hm]; exact cn_7 q7
  have hBx : BN nm (x :: L1) := by rw [← h0] at hB; exact BN_hole hB
  have partR : ∀ b : Ob, TreeC b (cenc tb R) → posC tb c + 1 + (cenc tb L1).length < (cenc tb R).length ∧ b.2.2 0 (posC tb c + 1 + (cenc tb L1).length) = 9 ∧ b.2.2 1 (posC tb c + 1 + (cenc tb L1).length) = x.2 ∧ b.2.2 2 (posC tb c + 1 + (cenc tb L1).length) = 0 := by
    intro b hT
    obtain ⟨p1, p2, p3, p4, p5, p6, p7⟩ := site_part hw hn hm0 S hT
    have rx := resv x.2
    rw [show ((x.1, x.2) : Nd) = x from rfl] at rx
    rw [p6, rx, List.length_cons, List.length_append] at p5
    have p5 : posC tb c + ((cenc tb L1).length + 1 + 1) ≤ (cenc tb R).length := p5
    rw [rx] at p7
    have cc1 := CC_cenc hw L1 _ hk1 (fun y hy => hBx y (List.mem_cons_of_mem _ hy))
    obtain ⟨-, u⟩ := p7.app_inv cc1 (show CC [((9 : Int32), x.2, (0 : Int32))] 1 from ⟨0, rfl, rfl⟩)
    obtain ⟨u0, u1, u2, -⟩ := u.cons_inv (show CC [] (arC ((9 : Int32), x.2, (0 : Int32))) from rfl)
    exact ⟨by omega, u0, u1, u2⟩
  have ch0 : ∀ (o : Ob) (P : Int32 → Ob → Prop), BS tb nm nc o tr R → o.2.1 42 = nI (posR c) → o.2.1 43 = b2i true → o.2.1 44 = nI d → (hv d (x.2 - 0) = 0 → P 0 o) → (¬ hv d (x.2 - 0) = 0 → w_X10_tryWith (nI (posR c)) (x.2 - hv d (x.2 - 0)) o (fun o_11 => P 1 o_11)) → w_X10_changes o P := by
    intro o P BS' h42 h43 h44 k0 k1
    obtain ⟨T, ht, hr, h41⟩ := BS'
    have hl := hr.2.1
    have hq := (List.getElem?_eq_some_iff.mp hxR).1
    obtain ⟨r1, r2⟩ := row_nd hr hxR
    have vq : vp_in (nI (1000 * tr + posR c)) 5000 := vp_in_nI (by omega) (by omega)
    have e0 : o.2.2 1 m = tb 0 m := congrFun (T 0 (by omega)) m
    have em : (encM x.1).toNatClampNeg = m := by rw [hm]; exact nI_clamp (by omega)
    have vm : vp_in (encM x.1) 30 := by rw [hm]; exact vp_in_nI (by omega) (by omega)
    have h43 : o.2.1 43 = 1 := h43
    unfold w_X10_changes
    rw [h41, h42, idx_nI, nI_clamp (by omega), r1, r2, em, e0, h43, h44]
    refine ⟨vq, fun _ => ⟨vq, fun z => absurd z (by decide), fun _ => ?_⟩, fun z => absurd (show 0 ≤ encM x.1 by rw [hm]; exact nI_pos' (show m < 2 ^ 31 by omega)) z⟩
    refine m_near 0 (by omega) nb (fun Q hQ => m_near0 bx hQ) ⟨vm, fun z => absurd q7 z, fun _ => ⟨fun z => k1 (fun y => z (sub_ne.mpr y)), fun z => k0 (sub_ne.mp z)⟩⟩
  by_cases z : hv d (x.2 - 0) = 0
  · refine Or.inl ⟨fun sk sb sn P h4 h5 hT k => ?_, fun o P BS' h42 h43 h44 k => ch0 o P BS' h42 h43 h44 (fun _ => k) (fun y => absurd z y)⟩
    obtain ⟨p1, p2, p3, p4⟩ := partR sb hT
    exact c_mv h4 h5 hd hT p1 (Or.inr p2) p3 p4 (fun _ => k) (fun y => absurd z y)
  · have hkv : CF tb L1 (kidsT tb (x.1, x.2 - hv d (x.2 - 0))) := by rw [kid]; exact hk1
    have okv : okN tb t (x.1, x.2 - hv d (x.2 - 0)) := ok_num h2 (Or.inr ⟨q, rg d⟩)
    have hcf : CF tb ((x.1, x.2 - hv d (x.2 - 0)) :: L1) [t] := ⟨t, [], rfl, okv, by rw [List.append_nil]; exact hkv⟩
    have few := hv_few nb z
    obtain ⟨-, -, hBn, -⟩ := hole_all hw hn hm0 h1 hcf
    have f1 : ∀ v, fil1 ((x.1, v), [], []) L1 = (x.1, v) :: L1 := fun v => by
      show (x.1, v) :: ([] ++ L1 ++ []) = _
      rw [List.append_nil, List.nil_append]
    have szv : ∀ v, szF tb ((x.1, v), [], []) (cenc tb L1).length = (cenc tb L1).length + 2 := fun v => by
      show 1 + (0 + (cenc tb L1).length + (0 + (resT tb (x.1, v)).length)) = _
      rw [resv]; show 1 + (0 + (cenc tb L1).length + (0 + 1)) = _; omega
    have nodeI : ∀ (v : Int32) (kt : Ob), okN tb t (x.1, v) → BN nm ((x.1, v) :: L1) → (TrF kt (posC tb c) (parO tb c) (cenc tb ((x.1, v) :: L1)) ↔ (NdC tb kt (posC tb c) (parO tb c) (x.1, v) ((cenc tb L1).length + 2) ∧ TrF kt (posC tb c + 1) (nI (posC tb c)) (cenc tb L1) ∧ TrF kt (posC tb c + 1 + (cenc tb L1).length) (nI (posC tb c)) [((9 : Int32), v, (0 : Int32))])) := by
      intro v kt ok hb
      have I := TrF_node (kt := kt) (p := posC tb c) (par := parO tb c) (f := ((x.1, v), [], [])) (u := t) (t := some (oneN tb m)) (pre := []) (post := []) (T := L1) hw ok (kid v) rfl rfl hk1 (by rw [f1]; exact hb)
      rw [f1, szv] at I
      rw [I]
      have e : ([] : List CN) ++ resT tb (x.1, v) = [((9 : Int32), v, (0 : Int32))] := by rw [resv]; rfl
      constructor
      · rintro ⟨a, -, b, c'⟩
        refine ⟨a, b, ?_⟩
        have : TrF kt (posC tb c + 1 + 0 + (cenc tb L1).length) (nI (posC tb c)) ([] ++ resT tb (x.1, v)) := c'
        rw [e, Nat.add_zero] at this; exact this
      · rintro ⟨a, b, c'⟩
        refine ⟨a, TrF.nil, b, ?_⟩
        show TrF kt (posC tb c + 1 + 0 + (cenc tb L1).length) (nI (posC tb c)) ([] ++ resT tb (x.1, v))
        rw [e, Nat.add_zero]; exact c'
    have lenv : ∀ v, (cenc tb ((x.1, v) :: L1)).length = (cenc tb L1).length + 2 := fun v => by
      rw [cenc_one (show CF tb L1 (kidsT tb (x.1, v)) by rw [kid]; exact hk1), List.length_cons, List.length_append, resv]; rfl
    refine Or.inr ⟨c, t, x :: L1, (x.1, x.2 - hv d (x.2 - 0)) :: L1, h1, S.cf, hcf, ⟨m, h2.1.symm.trans hm⟩, h0.symm, rfl, Or.inr ⟨by omega, by rw [lenv]; omega, fun sn hT => ?_⟩, fun sk sb sn P h4 h5 hT k => ?_, fun o P BS' h42 h43 h44 k => ch0 o P BS' h42 h43 h44 (fun y => absurd y z) (fun _ => tw hn h3 h0 BS' (fun o2 a b e => k o2 a b e)), by omega⟩
    · obtain ⟨n1, n2, n3⟩ := (nodeI _ sn okv hBn).mp hT
      refine ⟨(n3.cons_inv (show CC [] (arC ((9 : Int32), _, (0 : Int32))) from rfl)).2.2.2.1, Or.inr ⟨?_, by omega⟩⟩
      rw [n1.1, cnv]
    · obtain ⟨p1, p2, p3, p4⟩ := partR sb hT
      refine c_mv h4 h5 hd hT p1 (Or.inr p2) p3 p4 (fun y => absurd y z) (fun _ sn0 T0 => k _ ?_)
      rw [← h0] at T0
      obtain ⟨E1, E2, E3⟩ := tree_ed hw hn hm0 h1 S.cf T0
      have lx := lenv x.2
      rw [show ((x.1, x.2) : Nd) = x from rfl] at lx
      have N0 := nodeI x.2 sn0
      rw [show ((x.1, x.2) : Nd) = x from rfl] at N0
      obtain ⟨⟨n0, n1, n2, n3, n4⟩, n5, n6⟩ := (N0 h2 hBx).mp E2
      obtain ⟨u0, u1, u2, u3, u4, -⟩ := n6.cons_inv (show CC [] (arC ((9 : Int32), x.2, (0 : Int32))) from rfl)
      have cx := cnv x.2
      rw [show ((x.1, x.2) : Nd) = x from rfl] at cx
      rw [cx] at n0 n1 n2
      refine ⟨?_, ?_, ?_⟩
      · show sn0.2.1 6 = _
        rw [E1, cenc_fil_len c t _ h1 hcf, cenc_fil_len c t _ h1 S.cf, lx, lenv]
      · refine (nodeI _ _ okv hBn).mpr ⟨⟨?_, ?_, ?_, ?_, ?_⟩, n5.tu (Or.inr (Nat.le_refl _)), TrF.cons (F := []) rfl ((Tu_nf (by omega)).trans u0) Tu_us ((Tu_nf (by omega)).trans u2) ((Tu_nf (by omega)).trans u3) ((Tu_nf (by omega)).trans u4) TrF.nil⟩
        · rw [Tu_np (by omega), cnv]; exact n0
        · rw [Tu_np (by omega), cnv]; exact n1
        · rw [Tu_np (by omega), cnv]; exact n2
        · rw [Tu_np (by omega)]; exact n3
        · rw [Tu_np (by omega)]; exact n4
      · rw [lenv]
        rw [lx] at E3
        exact OutC_in c _ E3 (fun g _ i hi => Tu_np (by omega))
theorem ed_none (hw : ∀ m, m < nm → MkWF tb nc m) (hn : nm ≤ 30) {m0 tr : Nat} (hm0 : m0 < nm) {R : List Nd} {c : List Frm} {x : Nd} {L1 : List Nd} {t : Option Nat} (S : SiN tb nm nc m0 R c x L1 t) (hB : BN nm R) (q : ¬ kindN tb x = 0 ∧ ¬ kindN tb x = 9 ∧ ¬ kindN tb x = 1 ∧ ¬ kindN tb x = 8 ∧ ¬ kindN tb x = 6) {d ch : Nat} : EdB ck tb nm nc tr m0 R (posC tb c) d (posR c, false) ch := by
  obtain ⟨h0, h1, h2, hk⟩ := id S
  have hxR : R[posR c]? = some x := by rw [← h0]; exact fil_at
  refine Or.inl ⟨fun sk sb sn P h4 h5 hT k => ?_, fun o P BS' h42 h43 h44 k => ?_⟩
  · obtain ⟨p1, p2, -⟩ := site_part hw hn hm0 S hT
    exact c_none h4 hT p1 (by rw [p2]; exact ⟨q.1, q.2.1, q.2.2.1, q.2.2.2.1⟩) k
  · exact m_ch0 BS' hxR h42 h43 hB hn (fun _ _ => k) (fun m' hm' z => absurd z q.1) (fun z => absurd z q.2.2.1) (fun z => absurd z q.2.2.2.2)
end
