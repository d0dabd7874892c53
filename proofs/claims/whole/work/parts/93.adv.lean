/-! THE NEXT SMALLER CASE: one step on both sides -/
def EdC (tb : Tb) (sn : Ob) (c : List Frm) (T : List Nd) : Prop := sn.2.1 6 = nI (cenc tb (fil c T)).length ∧ TrF sn (posC tb c) (parO tb c) (cenc tb T) ∧ OutC tb sn c (cenc tb T).length
def PosOk (tb : Tb) (i : Nat) (c : List Frm) (T : List Nd) : Prop := i = posC tb c ∨ (posC tb c < i ∧ i < posC tb c + (cenc tb T).length ∧ ∀ sn : Ob, TrF sn (posC tb c) (parO tb c) (cenc tb T) → sn.2.2 3 i = nI (posC tb c) ∧ (sn.2.2 0 (posC tb c) = 6 ∨ (sn.2.2 0 (posC tb c) = 7 ∧ i ≠ posC tb c + 1)))
def MM (tb : Tb) (R : List Nd) (i d : Nat) : Nat := ((cenc tb R).length - i) * 1024 + (1024 - d)
abbrev PA : Type := Int32 → Ob → Ob → Ob → Ob → Ob → Ob → Ob → Prop
/-- what the class does from a part and a number of edits on -/
def CSp (ck : Nat → Ob) (tb : Tb) (nc : Nat) (R : List Nd) (i d e : Nat) (r : Int32) (R' : List Nd) (i' d' e' : Nat) : Prop := ∃ n : Nat, ∀ (a : Nat) (sk sl sb sn j mc md : Ob) (Post : PA), a + MM tb R i d ≤ 1000000 → sk.2.1 4 = nI i → sk.2.1 5 = nI d → TreeC sb (cenc tb R) → JC nc e j → (∀ sk2 sl2 sn2 j2 mc2 md2, JC nc e' j2 → (r = 1 → sk2.2.1 4 = nI i' ∧ sk2.2.1 5 = nI d' ∧ TreeC sn2 (cenc tb R')) → Post (if r = 0 then -9 else r) sk2 sl2 sb sn2 j2 mc2 md2) → w_X7_advance_L2 ck Post n (nI a) sk sl sb sn j mc md
def aF (o o2 : Ob) : Prop := Fr (prS ++ [42, 43, 44]) (prA ++ [8, 9]) o o2 ∧ ∀ t, t < 5 → t ≠ 3 → RK t o o2
/-- what the reference does from a site and a number of changes on -/
def RSp (ck : Nat → Ob) (tb : Tb) (nm nc : Nat) (tr : Nat) (R : List Nd) (s : Nat × Bool) (ch e : Nat) (r : Int32) (R' : List Nd) (s' : Nat × Bool) (ch' e' : Nat) : Prop := ∃ n : Nat, ∀ (o : Ob) (Post : Int32 → Ob → Prop), BS tb nm nc o tr R → CT ck nc o → o.2.1 42 = nI s.1 → o.2.1 43 = b2i s.2 → o.2.1 44 = nI ch → o.2.1 34 = nI e → (∀ o2, aF o o2 → o2.2.1 34 = nI e' → (r = 1 → o2.2.1 42 = nI s'.1 ∧ o2.2.1 43 = b2i s'.2 ∧ o2.2.1 44 = nI ch' ∧ RowM o2 3 R') → Post r o2) → w_X10_nextChange_L0 Post n o
/-- an edit that isn't to be had, one that is -/
def EdNo (tb : Tb) (R : List Nd) (i d : Nat) : Prop := ∀ (sk sb sn : Ob) (P : Int32 → Ob → Ob → Ob → Prop), sk.2.1 4 = nI i → sk.2.1 5 = nI d → TreeC sb (cenc tb R) → P 0 sk sb sn → w_X7_edit sk sb sn P
def EdYes (tb : Tb) (R : List Nd) (i d : Nat) (c : List Frm) (T : List Nd) : Prop := ∀ (sk sb sn : Ob) (P : Int32 → Ob → Ob → Ob → Prop), sk.2.1 4 = nI i → sk.2.1 5 = nI d → TreeC sb (cenc tb R) → (∀ sn', EdC tb sn' c T → P 1 sk sb sn') → w_X7_edit sk sb sn P
def ChNo (tb : Tb) (nm nc tr : Nat) (R : List Nd) (s : Nat × Bool) (ch : Nat) : Prop := ∀ (o : Ob) (P : Int32 → Ob → Prop), BS tb nm nc o tr R → o.2.1 42 = nI s.1 → o.2.1 43 = b2i s.2 → o.2.1 44 = nI ch → P 0 o → w_X10_changes o P
def ChYes (tb : Tb) (nm nc tr : Nat) (R : List Nd) (s : Nat × Bool) (ch : Nat) (R' : List Nd) : Prop := ∀ (o : Ob) (P : Int32 → Ob → Prop), BS tb nm nc o tr R → o.2.1 42 = nI s.1 → o.2.1 43 = b2i s.2 → o.2.1 44 = nI ch → (∀ o2, Fr [] [8, 9, 10] o o2 → (∀ t, t < 5 → t ≠ 3 → RK t o o2) → RowM o2 3 R' → P 1 o2) → w_X10_changes o P
section
variable {ck : Nat → Ob} {tb : Tb} {nm nc : Nat}
theorem c_settle (hw : ∀ m, m < nm → MkWF tb nc m) (hn : nm ≤ 30) (hck : ∀ i, i < nc → CkWF (ck i) i) (hnc : nc ≤ 40) {m : Nat} (hm : m < nm) {c : List Frm} {t : Option Nat} {T : List Nd} {e i : Nat} {sk sl sn j mc md : Ob} {P : PS} (h1 : CFx tb c t (some m)) (h2 : CF tb T [t]) (ht : ∃ a, t = some a) (he : e ≤ 1500) (h4 : sk.2.1 4 = nI i) (hE : EdC tb sn c T) (hp : PosOk tb i c T) (hj : JC nc e j) (K : ∀ sl2 sn2 j2 mc2 md2, JC nc (setl ck tb c T e).2.2 j2 → ((setl ck tb c T e).1 = 1 → TreeC sn2 (cenc tb (setl ck tb c T e).2.1)) → P (setl ck tb c T e).1 sk sl2 sn2 j2 mc2 md2) : w_X7_settle ck sk sl sn j mc md P := by
  obtain ⟨hcR, hBR, hBT, b1, b2, b3, b4, cc, hev, -, b5, bT⟩ := hole_all hw hn hm h1 h2
  obtain ⟨h6, hT, hO⟩ := hE
  obtain ⟨-, tl⟩ := CF_ne h2
  have lt : posC tb c < (cenc tb (fil c T)).length := by
    have := (outN_ge (tb := tb) c (cenc tb T).length).1
    omega
  have lt2 : posC tb c + (cenc tb T).length ≤ (cenc tb (fil c T)).length := by
    have := (outN_ge (tb := tb) c (cenc tb T).length).1
    omega
  have par : sn.2.2 3 (posC tb c) = parO tb c := by
    cases hC : cenc tb T with
    | nil => rw [hC] at tl; exact absurd tl (Nat.lt_irrefl _)
    | cons q F =>
      rw [hC] at hT cc
      obtain ⟨k', ek, cc⟩ := cc
      obtain rfl : k' = 0 := by omega
      exact (hT.cons_inv cc).2.2.2.1
  obtain ⟨a, ea⟩ := ht
  have dep := (CFx_depth hw hn c t T h1 hBR).1 a ea
  unfold w_X7_settle
  rw [h4]
  rcases hp with rfl | ⟨p1, p2, p3⟩
  · refine c_get3 h6 lt b1 ?_
    rw [par]
    exact ⟨c.length + 1, c_settleL hw hn hck hnc hm c t T e 0 sl sn j mc md h1 h2 he (by omega) h6 hT hO hj K⟩
  · obtain ⟨q1, q2⟩ := p3 sn hT
    refine c_get3 h6 (by omega) b1 ?_
    rw [q1]
    refine ⟨c.length + 1 + 1, fun z => absurd z (by decide), fun _ => ⟨fun z => absurd z (nI_pos (by omega)), fun _ => c_get0 h6 lt b1 ?_⟩⟩
    have go : w_X8_kind (nI (posC tb c)) sn (fun (r13 : Int32) (sn_14 : Ob) => ((¬ r13 = 5) → w_X8_parent (nI (posC tb c)) sn_14 (fun (r33 : Int32) (sn_34 : Ob) => w_X7_settle_L19 ck P (c.length + 1) (nI (posC tb c)) r33 (0 + 1) sk sl sn_34 j mc md)) ∧ ((r13 = 5) → False)) := by
      refine c_get0 h6 lt b1 ⟨fun _ => c_get3 h6 lt b1 ?_, fun z => ?_⟩
      · rw [par]
        exact c_settleL hw hn hck hnc hm c t T e 1 sl sn j mc md h1 h2 he (by omega) h6 hT hO hj K
      · rcases q2 with y | ⟨y, -⟩ <;> exact absurd (y.symm.trans z) (by decide)
    have J57 : ∀ (Q : Int32 → Ob → Prop), (∀ r o', ((¬ r = 5) → w_X8_parent (nI (posC tb c)) o' (fun (r33 : Int32) (sn_34 : Ob) => w_X7_settle_L19 ck P (c.length + 1) (nI (posC tb c)) r33 (0 + 1) sk sl sn_34 j mc md)) ∧ ((r = 5) → False) → Q r o') → w_X8_kind (nI (posC tb c)) sn Q := by
      intro Q hQ
      refine c_get0 h6 lt b1 (hQ _ _ ⟨fun _ => c_get3 h6 lt b1 ?_, fun z => ?_⟩)
      · rw [par]
        exact c_settleL hw hn hck hnc hm c t T e 1 sl sn j mc md h1 h2 he (by omega) h6 hT hO hj K
      · rcases q2 with y | ⟨y, -⟩ <;> exact absurd (y.symm.trans z) (by decide)
    rcases q2 with y | ⟨y, y2⟩
    · rw [y]
      exact jn_mk (jn_mk ⟨fun _ => J57 _ (fun r o' h => ⟨h.1, fun z => (h.2 z).elim⟩), fun z => absurd z (by decide)⟩)
    · rw [y]
      refine jn_mk (jn_mk ⟨fun z => absurd rfl z, fun _ => ⟨fun _ => J57 _ (fun r o' h => ⟨h.1, fun z => (h.2 z).elim⟩), fun z => absurd z ?_⟩⟩)
      rw [nI_1, nI_eq (by omega) (by omega)]; exact y2
/-- the class: no edit here -/
theorem c_no (hw : ∀ m, m < nm → MkWF tb nc m) {R R' : List Nd} {i d e i' d' e' : Nat} {r : Int32} (hl : (cenc tb R).length ≤ 744) (hi : i < (cenc tb R).length) (hd : d ≤ 1000) (h : EdNo tb R i d) (g : CSp ck tb nc R (i + 1) 0 e r R' i' d' e') : CSp ck tb nc R i d e r R' i' d' e' := by
  obtain ⟨n, g⟩ := g
  refine ⟨n + 1, fun a sk sl sb sn j mc md Post ha h4 h5 hT hj K => ?_⟩
  have hM : MM tb R (i + 1) 0 + 1 ≤ MM tb R i d := by unfold MM; omega
  have ea : a < 1000000 := by have : 1 ≤ MM tb R i d := by omega
                              omega
  refine ⟨fun z => absurd z (by rw [show (1000000 : Int32) = nI 1000000 from rfl, nI_leI (by omega) (by omega)]; omega), fun _ => ⟨fun z => absurd z (by rw [hT.1, h4, nI_leI (by omega) (by omega)]; omega), fun _ => h sk sb sn _ h4 h5 hT (jn_mk ⟨fun _ => ?_, fun z => absurd rfl z⟩)⟩⟩
  rw [nI_1]
  refine g (a + 1) _ sl sb sn j mc md Post (by omega) ?_ ?_ hT hj K
  · show upd (upd sk.2.1 4 (sk.2.1 4 + 1)) 5 0 4 = _
    rw [pk_un (by decide), pk_us, h4, nI_1]
  · show upd (upd sk.2.1 4 (sk.2.1 4 + 1)) 5 0 5 = _
    rw [pk_us]; rfl
/-- the class: at the end -/
theorem c_over {R R' : List Nd} {i d e i' d' : Nat} (hl : (cenc tb R).length ≤ 744) (hi : i = (cenc tb R).length) (hd : d ≤ 1000) : CSp ck tb nc R i d e 0 R' i' d' e := by
  refine ⟨1, fun a sk sl sb sn j mc md Post ha h4 h5 hT hj K => ?_⟩
  have hM : 1 ≤ MM tb R i d := by unfold MM; omega
  have K' : Post (-9) sk sl sb sn j mc md := K sk sl sn j mc md hj (fun z => absurd z (by decide))
  refine ⟨fun _ => K', fun _ => ⟨fun _ => K', fun z => absurd (show sb.2.1 6 ≤ sk.2.1 4 by rw [hT.1, h4, hi]; exact Int32.le_refl _) z⟩⟩
/-- the class: an edit -/
theorem c_yes (hw : ∀ m, m < nm → MkWF tb nc m) (hn : nm ≤ 30) (hck : ∀ i, i < nc → CkWF (ck i) i) (hnc : nc ≤ 40) {m : Nat} (hm : m < nm) {R R' : List Nd} {i d e i' d' e' : Nat} {r : Int32} {c : List Frm} {t : Option Nat} {T : List Nd} (hl : (cenc tb R).length ≤ 744) (hi : i < (cenc tb R).length) (hd : d ≤ 1000) (h : EdYes tb R i d c T) (h1 : CFx tb c t (some m)) (h2 : CF tb T [t]) (ht : ∃ a, t = some a) (hp : PosOk tb i c T) (he : e ≤ 1500)
    (g0 : (setl ck tb c T e).1 = 0 → CSp ck tb nc R i (d + 1) (setl ck tb c T e).2.2 r R' i' d' e') (g1 : ¬ (setl ck tb c T e).1 = 0 → r = (setl ck tb c T e).1 ∧ R' = (setl ck tb c T e).2.1 ∧ i' = i ∧ d' = d + 1 ∧ e' = (setl ck tb c T e).2.2) : CSp ck tb nc R i d e r R' i' d' e' := by
  have hM : MM tb R i (d + 1) + 1 ≤ MM tb R i d := by unfold MM; omega
  obtain ⟨n, hnn⟩ : ∃ n : Nat, (setl ck tb c T e).1 = 0 → ∀ (a : Nat) (sk sl sb sn j mc md : Ob) (Post : PA), a + MM tb R i (d + 1) ≤ 1000000 → sk.2.1 4 = nI i → sk.2.1 5 = nI (d + 1) → TreeC sb (cenc tb R) → JC nc (setl ck tb c T e).2.2 j → (∀ sk2 sl2 sn2 j2 mc2 md2, JC nc e' j2 → (r = 1 → sk2.2.1 4 = nI i' ∧ sk2.2.1 5 = nI d' ∧ TreeC sn2 (cenc tb R')) → Post (if r = 0 then -9 else r) sk2 sl2 sb sn2 j2 mc2 md2) → w_X7_advance_L2 ck Post n (nI a) sk sl sb sn j mc md := by
    by_cases z : (setl ck tb c T e).1 = 0
    · obtain ⟨n, q⟩ := g0 z
      exact ⟨n, fun _ => q⟩
    · exact ⟨0, fun y => absurd y z⟩
  refine ⟨n + 1, fun a sk sl sb sn j mc md Post ha h4 h5 hT hj K => ?_⟩
  refine ⟨fun z => absurd z (by rw [show (1000000 : Int32) = nI 1000000 from rfl, nI_leI (by omega) (by omega)]; omega), fun _ => ⟨fun z => absurd z (by rw [hT.1, h4, nI_leI (by omega) (by omega)]; omega), fun _ => h sk sb sn _ h4 h5 hT (fun sn' hE => jn_mk ⟨fun z => absurd z (by decide), fun _ => ?_⟩)⟩⟩
  have s4 : (sk.1, upd sk.2.1 5 (sk.2.1 5 + 1), sk.2.2).2.1 4 = nI i := (show upd sk.2.1 5 (sk.2.1 5 + 1) 4 = nI i from (pk_un (by decide)).trans h4)
  have s5 : (sk.1, upd sk.2.1 5 (sk.2.1 5 + 1), sk.2.2).2.1 5 = nI (d + 1) := by
    show upd sk.2.1 5 (sk.2.1 5 + 1) 5 = _
    rw [pk_us, h5, nI_1]
  refine c_settle hw hn hck hnc hm h1 h2 ht he s4 hE hp hj (fun sl2 sn2 j2 mc2 md2 k1 k2 => ⟨fun z => ?_, fun z => ?_⟩)
  · rw [nI_1]
    exact hnn z (a + 1) _ sl2 sb sn2 j2 mc2 md2 Post (by omega) s4 s5 hT k1 K
  · obtain ⟨rfl, rfl, rfl, rfl, rfl⟩ := g1 z
    have := K (sk.1, upd sk.2.1 5 (sk.2.1 5 + 1), sk.2.2) sl2 sn2 j2 mc2 md2 k1 (fun y => ⟨s4, s5, k2 y⟩)
    rw [if_neg z] at this
    exact this
/-! the reference -/
theorem aF.rf {o : Ob} : aF o o := ⟨Fr.rf, fun _ _ _ => RK.rf⟩
theorem aF.tr {o o2 o3 : Ob} (a : aF o o2) (b : aF o2 o3) : aF o o3 := ⟨a.1.tr b.1, fun t h1 h2 => (a.2 t h1 h2).tr (b.2 t h1 h2)⟩
theorem aF.bs {o o2 : Ob} {tr : Nat} {R0 : List Nd} (f : aF o o2) (h3 : tr ≠ 3) (S : BS tb nm nc o tr R0) : BS tb nm nc o2 tr R0 := by
  obtain ⟨T, ht, hr, h41⟩ := S
  refine ⟨fun k hk => ?_, ht, hr.keep (f.2 tr ht h3), (f.1.1 41 (by decide)).trans h41⟩
  rcases (show k = 0 ∨ k = 1 ∨ k = 2 ∨ k = 3 ∨ k = 4 ∨ k = 5 ∨ k = 6 by omega) with rfl | rfl | rfl | rfl | rfl | rfl | rfl <;> exact (f.1.2 _ (by decide)).trans (T _ (by omega))
theorem aF.ct {o o2 : Ob} (f : aF o o2) (C : CT ck nc o) : CT ck nc o2 := fun i hi => by
  rw [f.1.2 22 (by decide), f.1.2 23 (by decide), f.1.2 24 (by decide)]; exact C i hi
theorem aF.eq {o o2 : Ob} (h1 : ∀ f, f ≠ 42 → f ≠ 43 → f ≠ 44 → o2.2.1 f = o.2.1 f) (h2 : o2.2.2 = o.2.2) : aF o o2 := ⟨⟨fun k hk => h1 k (fun z => hk (by subst z; decide)) (fun z => hk (by subst z; decide)) (fun z => hk (by subst z; decide)), fun k _ => by rw [h2]⟩, fun t _ _ => ⟨by rw [h2], fun i _ => by rw [h2]; exact ⟨rfl, rfl⟩⟩⟩
theorem r_over {R R' : List Nd} {s s' : Nat × Bool} {ch e ch' tr : Nat} (hs : s.1 = R.length) : RSp ck tb nm nc tr R s ch e 0 R' s' ch' e := by
  refine ⟨1, fun o Post S C h42 h43 h44 h34 K => ?_⟩
  obtain ⟨T, ht, hr, h41⟩ := S
  refine ⟨by rw [h41]; exact vp_in_nI ht (by omega), fun _ => K o aF.rf h34 (fun z => absurd z (by decide)), fun z => absurd ?_ z⟩
  rw [h41, nI_clamp (by omega), hr.1, h42, hs]; exact Int32.le_refl _
theorem r_no (hw : ∀ m, m < nm → MkWF tb nc m) (hn : nm ≤ 30) {R R' : List Nd} {ts : List (Option Nat)} {s s2 s' : Nat × Bool} {ch e ch' e' tr : Nat} {r : Int32} (h3 : tr ≠ 3) (hc : CF tb R ts) (hB : BN nm R) (hs : s.1 < R.length) (h : ChNo tb nm nc tr R s ch) (hx : NxS tb R s s2) (g : RSp ck tb nm nc tr R s2 0 e r R' s' ch' e') : RSp ck tb nm nc tr R s ch e r R' s' ch' e' := by
  obtain ⟨n, g⟩ := g
  refine ⟨n + 1, fun o Post S C h42 h43 h44 h34 K => ?_⟩
  obtain ⟨T, ht, hr, h41⟩ := id S
  have hl := hr.2.1
  refine ⟨by rw [h41]; exact vp_in_nI ht (by omega), fun z => absurd z ?_, fun _ => h o _ S h42 h43 h44 ⟨fun _ => ?_, fun z => absurd rfl z⟩⟩
  · rw [h41, nI_clamp (by omega), hr.1, h42, nI_leI (by omega) (by omega)]; omega
  · refine m_nextSite hw hn hB hc S h42 h43 hs hx (fun o2 k1 k2 k3 k4 k5 k6 => ?_)
    have A := aF.eq k2 k3
    exact g o2 Post (A.bs h3 S) (A.ct C) k4 k5 k6 ((k2 34 (by decide) (by decide) (by decide)).trans h34) (fun o3 q1 q2 q3 => K o3 (A.tr q1) q2 q3)
theorem r_yes (hw : ∀ m, m < nm → MkWF tb nc m) (hn : nm ≤ 30) (hnc : nc ≤ 40) {m : Nat} (hm : m < nm) {R R' : List Nd} {s s' : Nat × Bool} {ch e ch' e' tr : Nat} {r : Int32} {c : List Frm} {t : Option Nat} {Tc T : List Nd} (h3 : tr ≠ 3) (hch : ch < 1000000) (hc : CF tb R [some m]) (h1 : CFx tb c t (some m)) (hTc : CF tb Tc [t]) (h2 : CF tb T [t]) (hR : R = fil c Tc) (hs : s.1 = posR c) (h : ChYes tb nm nc tr R s ch (fil c T)) (he : e ≤ 1500)
    (g0 : (setl ck tb c T e).1 = 0 → RSp ck tb nm nc tr R s (ch + 1) (setl ck tb c T e).2.2 r R' s' ch' e') (g1 : ¬ (setl ck tb c T e).1 = 0 → r = (setl ck tb c T e).1 ∧ R' = (setl ck tb c T e).2.1 ∧ s' = s ∧ ch' = ch + 1 ∧ e' = (setl ck tb c T e).2.2) : RSp ck tb nm nc tr R s ch e r R' s' ch' e' := by
  obtain ⟨n, hnn⟩ : ∃ n : Nat, (setl ck tb c T e).1 = 0 → ∀ (o : Ob) (Post : Int32 → Ob → Prop), BS tb nm nc o tr R → CT ck nc o → o.2.1 42 = nI s.1 → o.2.1 43 = b2i s.2 → o.2.1 44 = nI (ch + 1) → o.2.1 34 = nI (setl ck tb c T e).2.2 → (∀ o2, aF o o2 → o2.2.1 34 = nI e' → (r = 1 → o2.2.1 42 = nI s'.1 ∧ o2.2.1 43 = b2i s'.2 ∧ o2.2.1 44 = nI ch' ∧ RowM o2 3 R') → Post r o2) → w_X10_nextChange_L0 Post n o := by
    by_cases z : (setl ck tb c T e).1 = 0
    · obtain ⟨n, q⟩ := g0 z
      exact ⟨n, fun _ => q⟩
    · exact ⟨0, fun y => absurd y z⟩
  obtain ⟨tlc, -⟩ := CF_ne hTc
  obtain ⟨-, -, -, -, -, -, -, -, -, l1, l2, -⟩ := hole_all hw hn hm h1 hTc
  have hRl : posR c + Tc.length ≤ R.length := by rw [hR, fil_len]; omega
  refine ⟨n + 1, fun o Post S C h42 h43 h44 h34 K => ?_⟩
  obtain ⟨T0, ht, hr, h41⟩ := id S
  have hl := hr.2.1
  refine ⟨by rw [h41]; exact vp_in_nI ht (by omega), fun z => absurd z ?_, fun _ => h o _ S h42 h43 h44 (fun o2 F2 R2 r3 => ⟨fun z => absurd z (by decide), fun _ => ?_⟩)⟩
  · rw [h41, nI_clamp (by omega), hr.1, h42, nI_leI (by omega) (by omega)]; omega
  have A2 : aF o o2 := ⟨F2.mono (by decide) (by decide), R2⟩
  have e42 : o2.2.1 42 = nI (posR c) := ((F2.1 42 (by decide)).trans h42).trans (by rw [hs])
  unfold w_X10_putRight
  rw [e42]
  refine ⟨posR c + 1, m_prL hw hn hnc hm hc h3 (by omega) c t Tc T e o2 h1 hTc h2 hR (Nat.le_refl _) (by omega) (A2.bs h3 S) (A2.ct C) e42 r3 ((F2.1 34 (by decide)).trans h34) he (fun o4 P4 k1 k2 => ?_)⟩
  have A4 : aF o o4 := A2.tr ⟨P4.1.mono (by decide) (by decide), P4.2⟩
  have e44 : o4.2.1 44 = nI ch := ((P4.1.1 44 (by decide)).trans (F2.1 44 (by decide))).trans h44
  have e43 : o4.2.1 43 = b2i s.2 := ((P4.1.1 43 (by decide)).trans (F2.1 43 (by decide))).trans h43
  have e42' : o4.2.1 42 = nI s.1 := by rw [P4.1.1 42 (by decide), e42, hs]
  have A5 : aF o4 (o4.1, upd o4.2.1 44 (o4.2.1 44 + 1), o4.2.2) := aF.eq (fun f f1 f2 f3 => (show upd o4.2.1 44 (o4.2.1 44 + 1) f = _ from pk_un f3)) rfl
  have u44 : (o4.1, upd o4.2.1 44 (o4.2.1 44 + 1), o4.2.2).2.1 44 = nI (ch + 1) := by
    show upd o4.2.1 44 (o4.2.1 44 + 1) 44 = _
    rw [pk_us, e44, nI_1]
  have u42 : (o4.1, upd o4.2.1 44 (o4.2.1 44 + 1), o4.2.2).2.1 42 = nI s.1 := (show upd o4.2.1 44 (o4.2.1 44 + 1) 42 = _ from pk_un (by decide)).trans e42'
  have u43 : (o4.1, upd o4.2.1 44 (o4.2.1 44 + 1), o4.2.2).2.1 43 = b2i s.2 := (show upd o4.2.1 44 (o4.2.1 44 + 1) 43 = _ from pk_un (by decide)).trans e43
  have u34 : (o4.1, upd o4.2.1 44 (o4.2.1 44 + 1), o4.2.2).2.1 34 = nI (setl ck tb c T e).2.2 := (show upd o4.2.1 44 (o4.2.1 44 + 1) 34 = _ from pk_un (by decide)).trans k1
  have A6 := A4.tr A5
  refine ⟨fun z => ?_, fun z => ?_⟩
  · exact hnn z _ Post (A6.bs h3 S) (A6.ct C) u42 u43 u44 u34 (fun o6 q1 q2 q3 => K o6 (A6.tr q1) q2 q3)
  · obtain ⟨rfl, rfl, rfl, rfl, rfl⟩ := g1 z
    exact K _ A6 u34 (fun y => ⟨u42, u43, u44, (k2 y).of rfl⟩)
end
