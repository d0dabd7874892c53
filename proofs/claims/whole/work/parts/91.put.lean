/-! WHAT STANDS AROUND is put right: the reference -/
def prS : List Nat := [11, 14, 17, 28, 29, 30, 31, 32, 34]
def prA : List Nat := [12, 13, 15, 16, 18, 19, 20, 25, 26, 27, 10]
def prF (o o2 : Ob) : Prop := Fr prS prA o o2 ∧ ∀ t, t < 5 → t ≠ 3 → RK t o o2
theorem prF.rf {o : Ob} : prF o o := ⟨Fr.rf, fun _ _ _ => RK.rf⟩
theorem prF.tr {o o2 o3 : Ob} (a : prF o o2) (b : prF o2 o3) : prF o o3 := ⟨a.1.tr b.1, fun t h1 h2 => (a.2 t h1 h2).tr (b.2 t h1 h2)⟩
theorem prF.of {S A : List Nat} {o o2 : Ob} (f : Fr S A o o2) (hS : ∀ k ∈ S, k ∈ prS) (hA : ∀ k ∈ A, k ∈ prA) (h : 10 ∉ A) : prF o o2 := ⟨f.mono hS hA, fun t _ _ => ⟨by rw [f.2 8 (fun z => absurd (hA 8 z) (by decide))], fun i _ => by rw [f.2 9 (fun z => absurd (hA 9 z) (by decide)), f.2 10 h]; exact ⟨rfl, rfl⟩⟩⟩
theorem RowM.set {o o2 : Ob} {t : Nat} {A B : List Nd} {x : Nd} {v : Int32} (h : RowM o t (A ++ x :: B)) (h8 : o2.2.2 8 t = o.2.2 8 t) (h9 : ∀ i, i < 1000 → o2.2.2 9 (1000 * t + i) = o.2.2 9 (1000 * t + i)) (h10 : ∀ i, i < 1000 → i ≠ A.length → o2.2.2 10 (1000 * t + i) = o.2.2 10 (1000 * t + i)) (hv : o2.2.2 10 (1000 * t + A.length) = v) : RowM o2 t (A ++ (x.1, v) :: B) := by
  obtain ⟨a, b, c⟩ := h
  have hl : (A ++ (x.1, v) :: B).length = (A ++ x :: B).length := by rw [List.length_append, List.length_append, List.length_cons, List.length_cons]
  refine ⟨by rw [h8, a, hl], by rw [hl]; exact b, fun i y hy => ?_⟩
  have hi := (List.getElem?_eq_some_iff.mp hy).1
  rw [hl] at hi
  rw [h9 i (by omega)]
  rcases Nat.lt_trichotomy i A.length with q | q | q
  · rw [List.getElem?_append_left q] at hy
    rw [h10 i (by omega) (by omega)]
    exact c i y (by rw [List.getElem?_append_left q]; exact hy)
  · subst q
    rw [getmid] at hy
    cases hy
    exact ⟨(c _ x getmid).1, hv⟩
  · rw [List.getElem?_append_right (by omega)] at hy
    rw [h10 i (by omega) (by omega)]
    refine c i y ?_
    rw [List.getElem?_append_right (by omega)]
    rw [show i - A.length = (i - A.length - 1) + 1 by omega] at hy ⊢
    exact hy
section
variable {ck : Nat → Ob} {tb : Tb} {nm nc : Nat}
theorem fil_head {c : List Frm} {x : Nd} {L : List Nd} : fil c (x :: L) = preR c ++ x :: (L ++ sufR c) := fil_eq c (x :: L)
theorem fil_at {c : List Frm} {x : Nd} {L : List Nd} : (fil c (x :: L))[posR c]? = some x := by
  rw [fil_head, ← preR_len c]; exact getmid
theorem fil_nd {o : Ob} {t : Nat} {c : List Frm} {T : List Nd} (h : RowM o t (fil c T)) : NdS o t (posR c) T := by
  have := h.nd
  rw [fil_eq] at this
  have := this.right.left
  rw [preR_len, Nat.zero_add] at this
  exact this
theorem fil_drop {c : List Frm} {T : List Nd} {j : Nat} : (fil c T).drop (posR c + j) = (T ++ sufR c).drop j := by
  rw [fil_eq, ← preR_len c]; exact drop_mid
theorem enN_hole {c : List Frm} {T : List Nd} {t : Option Nat} (h : CF tb T [t]) : enN tb (fil c T) (posR c) = posR c + T.length := by
  unfold enN
  have e : (fil c T).drop (posR c) = T ++ sufR c := by have := fil_drop (c := c) (T := T) (j := 0); rw [Nat.add_zero, List.drop_zero] at this; exact this
  rw [e]
  have := CF_tl T _ (sufR c) 0 h
  rw [tlN_0] at this
  rw [show (1 : Nat) = 0 + [t].length from rfl, this]; omega
theorem enN_pre {c : List Frm} {f : Frm} {T : List Nd} {pre : List (Option Nat)} (h3 : CF tb f.2.1 pre) {j : Nat} (hj : j < f.2.1.length) : enN tb (fil c (fil1 f T)) (posR c + 1 + j) ≤ posR c + 1 + f.2.1.length := by
  unfold enN
  have e : (fil c (fil1 f T)).drop (posR c + 1 + j) = f.2.1.drop j ++ (T ++ f.2.2 ++ sufR c) := by
    have := fil_drop (c := c) (T := fil1 f T) (j := 1 + j)
    rw [← Nat.add_assoc] at this
    rw [this]
    show (f.1 :: (f.2.1 ++ T ++ f.2.2) ++ sufR c).drop (1 + j) = _
    rw [show 1 + j = j + 1 by omega, List.cons_append, List.drop_succ_cons, List.append_assoc, List.append_assoc, List.drop_append, show j - f.2.1.length = 0 by omega, List.drop_zero, List.append_assoc]
  obtain ⟨ts', hd⟩ := CF_drop f.2.1 pre j h3
  have h1 := CF_pos hd (by rw [List.length_drop]; omega)
  rw [e, tlN_app _ ts' 1 hd h1]
  have := tlN_le (tb := tb) (f.2.1.drop j) 1
  rw [List.length_drop] at this
  omega
theorem kind_some {x : Nd} {m : Nat} (h : x.1 = some m) : kindN tb x = tb 0 m := by unfold kindN; rw [h]
/-- a node that does not stand around -/
theorem m_putN (hw : ∀ m, m < nm → MkWF tb nc m) (hn : nm ≤ 30) {tr site k n : Nat} {R0 : List Nd} {ts : List (Option Nat)} {o : Ob} {Post : Int32 → Ob → Prop} (hB : BN nm R0) (hc : CF tb R0 ts) (S : BS tb nm nc o tr R0) (h42 : o.2.1 42 = nI site) (hs : site ≤ 1000) (hk : k < R0.length) (hno : ∀ x, R0[k]? = some x → (kindN tb x = 7 ∨ kindN tb x = 5) → enN tb R0 k ≤ site) (h : w_X10_putRight_L7 Post n (nI k - 1) o) : w_X10_putRight_L7 Post (n + 1) (nI k) o := by
  obtain ⟨T, ht, hr, h41⟩ := S
  have hl := hr.2.1
  have hx : R0[k]? = some R0[k] := List.getElem?_eq_getElem hk
  obtain ⟨r1, r2⟩ := row_nd hr hx
  have el := enN_le (tb := tb) hk
  refine ⟨fun z => absurd z (nI_pos (by omega)), fun _ => ?_⟩
  rw [h41, idx_nI, nI_clamp (by omega), r1, neg1]
  refine ⟨vp_in_nI (by omega) (by omega), jn_mk (jn_mk ?_)⟩
  cases hm : (R0[k]).1 with
  | none => exact ⟨fun _ => jn_mk ⟨fun _ => h, fun z => absurd rfl z⟩, fun z => absurd (show (-1 : Int32) < 0 by decide) z⟩
  | some m =>
    have hmn := hB _ (List.mem_of_getElem? hx) m hm
    have e0 : o.2.2 1 m = tb 0 m := congrFun (T 0 (by omega)) m
    have kk : kindN tb R0[k] = tb 0 m := kind_some hm
    have em : (encM (some m)).toNatClampNeg = m := nI_clamp (by omega)
    have vm : vp_in (encM (some m)) 30 := vp_in_nI (by omega) (by omega)
    refine ⟨fun z => absurd z (nI_pos (show m < 2 ^ 31 by omega)), fun _ => ⟨vm, ?_⟩⟩
    rw [em, e0]
    refine jn_mk ⟨fun q7 => ?_, fun n7 => ⟨vm, fun n5 => jn_mk ⟨fun _ => h, fun z => absurd rfl z⟩, fun q5 => ?_⟩⟩
    · show w_X10_endOf (o.2.1 41) _ o _
      rw [h41]
      refine m_endOf hw hn T ht hr hB hc hk ⟨fun _ => jn_mk ⟨fun _ => h, fun z => absurd rfl z⟩, fun z => absurd ?_ z⟩
      rw [h42, nI_leI (by omega) (by omega)]
      exact hno _ hx (Or.inl (kk.trans q7))
    · show w_X10_endOf (o.2.1 41) _ o _
      rw [h41]
      refine m_endOf hw hn T ht hr hB hc hk ⟨fun _ => jn_mk ⟨fun _ => h, fun z => absurd rfl z⟩, fun z => absurd ?_ z⟩
      rw [h42, nI_leI (by omega) (by omega)]
      exact hno _ hx (Or.inr (kk.trans q5))
theorem m_putW (hw : ∀ m, m < nm → MkWF tb nc m) (hn : nm ≤ 30) {tr site lo n : Nat} {R0 : List Nd} {ts : List (Option Nat)} {o : Ob} {Post : Int32 → Ob → Prop} (hB : BN nm R0) (hc : CF tb R0 ts) (S : BS tb nm nc o tr R0) (h42 : o.2.1 42 = nI site) (hs : site ≤ 1000) (h : w_X10_putRight_L7 Post n (nI lo - 1) o) : ∀ (d : Nat), lo + d ≤ R0.length → (∀ k, lo ≤ k → k < lo + d → enN tb R0 k ≤ site) → w_X10_putRight_L7 Post (n + d) (nI (lo + d) - 1) o := by
  intro d
  induction d with
  | zero => intro _ _; exact h
  | succ d ih =>
    intro hd hk
    have hnn := ih (by omega) (fun k h1 h2 => hk k h1 (by omega))
    rw [← Nat.add_assoc, ← Nat.add_assoc, nI_pred]
    exact m_putN hw hn hB hc S h42 hs (by omega) (fun x _ _ => hk _ (by omega) (by omega)) hnn
theorem prF.bs {o o2 : Ob} {tr : Nat} {R0 : List Nd} (f : prF o o2) (h3 : tr ≠ 3) (S : BS tb nm nc o tr R0) : BS tb nm nc o2 tr R0 := by
  obtain ⟨T, ht, hr, h41⟩ := S
  refine ⟨fun k hk => ?_, ht, hr.keep (f.2 tr ht h3), (f.1.1 41 (by decide)).trans h41⟩
  rcases (show k = 0 ∨ k = 1 ∨ k = 2 ∨ k = 3 ∨ k = 4 ∨ k = 5 ∨ k = 6 by omega) with rfl | rfl | rfl | rfl | rfl | rfl | rfl <;> exact (f.1.2 _ (by decide)).trans (T _ (by omega))
theorem prF.ct {o o2 : Ob} (f : prF o o2) (C : CT ck nc o) : CT ck nc o2 := fun i hi => by
  rw [f.1.2 22 (by decide), f.1.2 23 (by decide), f.1.2 24 (by decide)]; exact C i hi
theorem idx3 {p : Nat} : (3000 : Int32) + nI p = nI (3000 + p) := by rw [show (3000 : Int32) = nI 3000 from rfl, nI_add]
theorem sum_j {o : Ob} {n : Nat} {g : Nat → Int32} {Q : Int32 → Ob → Prop} (L : LvG o n g) (k : Q (mx0 (sumA g n 0 0)) o) : w_X10_sumOfLeaves o (fun (r26 : Int32) (o_27 : Ob) => jn (fun J158 : Int32 → Ob → Prop => ((0 ≤ r26) → w_X10_sumOfLeaves o_27 (fun (r29 : Int32) (o_30 : Ob) => J158 r29 o_30)) ∧ (¬ (0 ≤ r26) → J158 0 o_27)) Q) := by
  refine m_sum L (jn_mk ⟨fun z => m_sum L ?_, fun z => ?_⟩)
  · unfold mx0 at k
    by_cases p : 0 < sumA g n 0 0
    · rwa [if_pos p] at k
    · rw [if_neg p] at k
      rwa [Int32.le_antisymm (Int32.not_lt.mp p) z]
  · unfold mx0 at k
    rwa [if_neg (fun p => z (Int32.le_of_lt p))] at k
set_option maxHeartbeats 4000000 in
theorem m_prL (hw : ∀ m, m < nm → MkWF tb nc m) (hn : nm ≤ 30) (hnc : nc ≤ 40) {m : Nat} (hm : m < nm) {tr site : Nat} {R0 : List Nd} {Post : Int32 → Ob → Prop} (hc0 : CF tb R0 [some m]) (h3 : tr ≠ 3) (hs : site ≤ 1000) : ∀ (c : List Frm) (t : Option Nat) (Tc T : List Nd) (e : Nat) (o : Ob), CFx tb c t (some m) → CF tb Tc [t] → CF tb T [t] → R0 = fil c Tc → posR c ≤ site → site < posR c + Tc.length → BS tb nm nc o tr R0 → CT ck nc o → o.2.1 42 = nI site → RowM o 3 (fil c T) → o.2.1 34 = nI e → e ≤ 1500 → (∀ o2, prF o o2 → o2.2.1 34 = nI (setl ck tb c T e).2.2 → ((setl ck tb c T e).1 = 1 → RowM o2 3 (setl ck tb c T e).2.1) → Post (setl ck tb c T e).1 o2) → w_X10_putRight_L7 Post (posR c + 1) (nI (posR c) - 1) o := by
  have hB0 := CF_BN hw hn hm hc0
  intro c
  induction c with
  | nil =>
    intro t Tc T e o h1 h2 h2' hR0 hs1 hs2 S C h42 hr3 h34 he K
    exact ⟨fun _ => K o prF.rf h34 (fun _ => hr3), fun z => absurd (show nI 0 - 1 < 0 by decide) z⟩
  | cons f c ih =>
    intro t Tc T e o h1 h2 h2' hR0 hs1 hs2 S C h42 hr3 h34 he K
    obtain ⟨hcR, hBR, hBT, b1, b2, b3, b4, cc, hev, -, b5, bT⟩ := hole_all hw hn hm h1 h2'
    obtain ⟨u, pre, post, o1, o2, o3, o4, o5⟩ := h1
    have hTc1 := (fil1_CF o1 o2 o3 o4 h2).2
    have hT1 := (fil1_CF o1 o2 o3 o4 h2').2
    have hR1 : R0 = fil c (fil1 f Tc) := hR0
    have hr31 : RowM o 3 (fil c (fil1 f T)) := hr3
    have hp : posR (f :: c) = posR c + 1 + f.2.1.length := rfl
    have lenc : (fil1 f Tc).length = 1 + (f.2.1.length + Tc.length + f.2.2.length) := by
      show (f.1 :: (f.2.1 ++ Tc ++ f.2.2)).length = _
      rw [List.length_cons, List.length_append, List.length_append]; omega
    obtain ⟨-, -, -, -, -, -, -, -, -, g1, g2, -⟩ := hole_all hw hn hm o5 hTc1
    obtain ⟨hcF1, hBF1, -, -, -, -, -, -, -, g1', g2', -⟩ := hole_all hw hn hm o5 hT1
    have l0 : R0.length ≤ 744 := by rw [hR1]; exact g1
    have l1 : posR c + (fil1 f Tc).length ≤ R0.length := by rw [hR1, fil_len]; omega
    have hb0 : ∀ m', f.1.1 = some m' → m' < nm := (BN_f (BN_hole (c := c) hBF1)).1
    rw [hp] at hs1 hs2
    -- down to the node itself
    suffices hnode : w_X10_putRight_L7 Post (posR c + 1 + 1) (nI (posR c + 1) - 1) o by
      have := m_putW hw hn hB0 hc0 S h42 hs hnode f.2.1.length (by omega) (fun k k1 k2 => by
        have := enN_pre (tb := tb) (c := c) (f := f) (T := Tc) o3 (j := k - (posR c + 1)) (by omega)
        rw [show posR c + 1 + (k - (posR c + 1)) = k by omega, ← hR1] at this
        omega)
      rw [show posR c + 1 + 1 + f.2.1.length = posR c + 1 + f.2.1.length + 1 by omega] at this
      exact this
    rw [nI_pred]
    have hx : R0[posR c]? = some f.1 := by rw [hR1]; exact fil_at
    have en0 : enN tb R0 (posR c) = posR c + (fil1 f Tc).length := by rw [hR1]; exact enN_hole hTc1
    -- going on above
    have up : ∀ (T1 : List Nd) (e1 : Nat) (o1' : Ob), CF tb T1 [u] → setl ck tb (f :: c) T e = setl ck tb c T1 e1 → prF o o1' → RowM o1' 3 (fil c T1) → o1'.2.1 34 = nI e1 → e1 ≤ 1500 → w_X10_putRight_L7 Post (posR c + 1) (nI (posR c) - 1) o1' := by
      intro T1 e1 o1' k1 k2 k3 k4 k5 k6
      rw [k2] at K
      exact ih u (fil1 f Tc) T1 e1 o1' o5 hTc1 k1 hR1 (by omega) (by rw [lenc]; omega) (k3.bs h3 S) (k3.ct C) ((k3.1.1 42 (by decide)).trans h42) k4 k5 k6 (fun o2 q1 q2 q3 => K o2 (k3.tr q1) q2 q3)
    by_cases k57 : kindN tb f.1 = 7 ∨ kindN tb f.1 = 5
    · obtain ⟨mk2, hmk, hkid⟩ := kid_57 k57
      obtain ⟨te, pe, poe, f1e, f2e⟩ := one_kid o2 o3 o4 (show kidsT tb f.1 = [some (oneN tb mk2)] from hkid f.1.2)
      have hmk2 := hb0 mk2 hmk
      have kk : kindN tb f.1 = tb 0 mk2 := kind_some hmk
      have e0 : o.2.2 1 mk2 = tb 0 mk2 := congrFun (S.1 0 (by omega)) mk2
      have e2 : o.2.2 3 mk2 = tb 2 mk2 := congrFun (S.1 2 (by omega)) mk2
      have em : (encM f.1.1).toNatClampNeg = mk2 := by rw [hmk]; exact nI_clamp (by omega)
      have vm : vp_in (encM f.1.1) 30 := by rw [hmk]; exact vp_in_nI (by omega) (by omega)
      have emp : ¬ encM f.1.1 < 0 := by rw [hmk]; exact nI_pos (show mk2 < 2 ^ 31 by omega)
      have fe : fil1 f T = f.1 :: T := by
        show f.1 :: (f.2.1 ++ T ++ f.2.2) = _
        rw [f1e, f2e, List.append_nil, List.nil_append]
      rw [fe] at hr31 hT1 g1' g2' hcF1 hBF1
      obtain ⟨T0, ht, hr, h41⟩ := id S
      obtain ⟨r1, -⟩ := row_nd hr hx
      have en3 : enN tb (fil c (f.1 :: T)) (posR c) = posR c + 1 + T.length := by rw [enN_hole hT1, List.length_cons]; omega
      have lf3 : posR c < (fil c (f.1 :: T)).length := by rw [fil_len, List.length_cons]; omega
      rw [List.length_cons] at g2'
      have N3 : NdS o 3 (posR c + 1) T := (fil_nd hr31).tail
      have v3 : vp_in (nI (3000 + posR c)) 5000 := vp_in_nI (by omega) (by omega)
      have ar : ¬ nI (enN tb R0 (posR c)) ≤ o.2.1 42 := by
        rw [h42, nI_leI (by omega) (by omega), en0, lenc]; omega
      refine ⟨fun z => absurd z (nI_pos (by omega)), fun _ => ?_⟩
      rw [h41, idx_nI, nI_clamp (by omega), r1, neg1, idx3]
      refine ⟨vp_in_nI (by omega) (by omega), jn_mk (jn_mk ⟨fun z => absurd z emp, fun _ => ⟨vm, ?_⟩⟩)⟩
      rw [em, e0]
      refine jn_mk ⟨fun q7 => ?_, fun n7 => ⟨vm, fun n5 => absurd (k57.resolve_left (fun z => n7 (kk.symm.trans z))) (fun z => n5 (kk.symm.trans z)), fun q5 => ?_⟩⟩
      · show w_X10_endOf (o.2.1 41) _ o _
        rw [h41]
        refine m_endOf hw hn T0 ht hr hB0 hc0 (by omega) ⟨fun z => absurd z ar, fun _ => jn_mk ⟨fun z => absurd z (by decide), fun _ => ⟨vm, jn_mk ⟨fun n5 => ?_, fun y5 => absurd (e0.symm.trans y5) (by rw [q7]; decide)⟩⟩⟩⟩
        refine m_endOf (t := 3) hw hn T0 (by omega) hr31 hBF1 hcF1 lf3 ?_
        rw [nI_1, en3]
        refine m_reckon (t := 3) hw hn T0 h2' hBT N3 (by omega) (by omega) (by omega) b4 (by have := sgC_len (cenc tb T); omega) (fun o6 f6 d6 => ⟨vm, fun z => absurd ?_ z, fun _ => ⟨v3, ?_⟩⟩)
        · rw [f6.2.2 1 (by decide), e0]; exact q7
        have sS : setl ck tb (f :: c) T e = setl ck tb c ((f.1.1, lowV f.1.2 (sumL tb T)) :: T) e := by
          show (if kindN tb f.1 = 7 then _ else _) = _
          rw [if_pos (kk.trans q7)]
        have hT1' : CF tb ((f.1.1, lowV f.1.2 (sumL tb T)) :: T) [u] := by
          refine ⟨u, [], rfl, lower_ok o1 (kk.trans q7), ?_⟩
          rw [List.append_nil, hkid, ← te]; exact h2'
        have P6 : prF o o6 := prF.of f6.2 (by decide) (by decide) (by decide)
        have r36 : RowM o6 3 (fil c (f.1 :: T)) := hr31.keep (RK.of_fr f6.2 (by decide) (by decide) (by decide))
        have v10 : o6.2.2 10 (3000 + posR c) = f.1.2 := (row_nd r36 (i := posR c) fil_at).2
        have fin : ∀ (y : Int32) (X : Ob), X = (o6.1, o6.2.1, sa o6.2.2 10 (upd (o6.2.2 10) (3000 + posR c) y)) → y = lowV f.1.2 (sumL tb T) → w_X10_putRight_L7 Post (posR c + 1) (nI (posR c) - 1) X := by
          intro y X hX ey
          have x1 : X.2.1 = o6.2.1 := by rw [hX]
          have x2 : X.2.2 = sa o6.2.2 10 (upd (o6.2.2 10) (3000 + posR c) y) := by rw [hX]
          have xo : ∀ g, g ≠ 10 → X.2.2 g = o6.2.2 g := fun g hg => by rw [x2, sa_ne hg]
          have x10 : ∀ q, q ≠ 3000 + posR c → X.2.2 10 q = o6.2.2 10 q := fun q hq => by rw [x2, sa_us, pk_un hq]
          have PX : prF o6 X := ⟨⟨fun k _ => by rw [x1], fun k hk => xo k (fun z => hk (by subst z; decide))⟩, fun t' ht' h3' => ⟨by rw [xo 8 (by omega)], fun i hi => ⟨by rw [xo 9 (by omega)], x10 _ (by omega)⟩⟩⟩
          refine up _ e X hT1' sS (P6.tr PX) ?_ (by rw [x1, f6.2.1 34 (by decide)]; exact h34) he
          rw [fil_head] at r36 ⊢
          have hl := preR_len c
          refine r36.set (by rw [xo 8 (by omega)]) (fun i _ => by rw [xo 9 (by omega)]) (fun i hi hne => x10 _ (by omega)) ?_
          rw [hl, x2]
          show sa o6.2.2 10 (upd (o6.2.2 10) (3000 + posR c) y) 10 (3000 + posR c) = _
          rw [sa_us, pk_us, ey]
        rw [nI_clamp (show 3000 + posR c < 2 ^ 31 by omega)]
        refine sum_j (d6.g b4) (jn_mk ?_)
        rw [v10]
        refine ⟨fun z => ⟨v3, v3, ?_⟩, fun z => ⟨v3, ?_⟩⟩
        · exact fin f.1.2 _ rfl (by unfold lowV; exact (if_pos z).symm)
        · exact fin 0 _ rfl (by unfold lowV; exact (if_neg z).symm)
      · show w_X10_endOf (o.2.1 41) _ o _
        rw [h41]
        have sS : setl ck tb (f :: c) T e = (if e = 0 then (-6, [], 0) else if vdL ck tb T (ckN tb f.1) = 1 then setl ck tb c (f.1 :: T) (e - 1) else (0, [], e - 1)) := by
          show (if kindN tb f.1 = 7 then _ else if kindN tb f.1 = 5 then _ else _) = _
          rw [if_neg (by rw [kk, q5]; decide), if_pos (kk.trans q5), fe]
        refine m_endOf hw hn T0 ht hr hB0 hc0 (by omega) ⟨fun z => absurd z ar, fun _ => jn_mk ⟨fun z => absurd z (by decide), fun _ => ⟨vm, jn_mk ⟨fun n5 => absurd (e0.trans q5) n5, fun y5 => ⟨fun z34 => ?_, fun z34 => ?_⟩⟩⟩⟩⟩
        · cases e with
          | zero => exact absurd h34 z34
          | succ e =>
          rw [if_neg (by omega), Nat.add_sub_cancel] at sS
          obtain ⟨-, -, -, -, -, -, -, -, k5, -⟩ := hw mk2 hmk2
          obtain ⟨a1, c1, ha1, ea1, hc1, ec1, -⟩ := k5 q5
          have ckv : ckN tb f.1 = c1 := by
            unfold ckN
            have hxx : f.1 = (some mk2, f.1.2) := Prod.ext hmk rfl
            rw [hxx, cn_5 q5, show ((5 : Int32), tb 2 mk2, (0 : Int32)).2.1 = tb 2 mk2 from rfl, ec1, nI_clamp (by omega)]
          refine m_endOf (t := 3) hw hn T0 (by omega) hr31 hBF1 hcF1 lf3 ?_
          rw [nI_1, en3]
          refine m_reckon (t := 3) hw hn T0 h2' hBT N3 (by omega) (by omega) (by omega) b4 (by have := sgC_len (cenc tb T); omega) (fun o6 f6 d6 => ⟨vm, fun _ => ⟨vm, ?_⟩, fun z => absurd z ?_⟩)
          · rw [f6.2.2 3 (by decide), e2, ec1, f6.2.1 34 (by decide), h34, nI_pred]
            have F7 : Fm [34] [] o6 (o6.1, upd o6.2.1 34 (nI e), o6.2.2) := Fm.i (fun k hk => un_of (S := [34]) (by decide) hk)
            have P7 : prF o (o6.1, upd o6.2.1 34 (nI e), o6.2.2) := (prF.of f6.2 (by decide) (by decide) (by decide)).tr (prF.of F7.2 (by decide) (by decide) (by decide))
            have L7 : LvG (o6.1, upd o6.2.1 34 (nI e), o6.2.2) (evR tb T).length (hg (evR tb T)) := (d6.g b4).keep F7 (by decide) (by decide)
            refine m_result (P7.ct C) hnc hc1 L7 (fun o8 f8 => ?_)
            have P8 : prF o o8 := P7.tr (prF.of f8.2 (by decide) (by decide) (by decide))
            have VV : VS (vdL ck tb T c1) := vF_VS (fun i hi => (C i hi).1) hnc c1 hc1
            have e34 : o8.2.1 34 = nI e := (f8.2.1 34 (by decide)).trans (show upd o6.2.1 34 (nI e) 34 = nI e from pk_us)
            have r38 : RowM o8 3 (fil c (f.1 :: T)) := by
              have q1 : RK 3 o o6 := RK.of_fr f6.2 (by decide) (by decide) (by decide)
              have q2 : RK 3 o6 (o6.1, upd o6.2.1 34 (nI e), o6.2.2) := RK.of_fr F7.2 (by decide) (by decide) (by decide)
              have q3 : RK 3 (o6.1, upd o6.2.1 34 (nI e), o6.2.2) o8 := RK.of_fr f8.2 (by decide) (by decide) (by decide)
              exact hr31.keep ((q1.tr q2).tr q3)
            rw [ckv] at sS
            refine ⟨fun y1 => ?_, fun y1 => ?_⟩
            · have y1 : vdL ck tb T c1 = 1 := (mV_1 VV).mp y1
              rw [if_pos y1] at sS
              exact up _ e o8 hT1 sS P8 r38 e34 (by omega)
            · have y1 : ¬ vdL ck tb T c1 = 1 := fun z => y1 ((mV_1 VV).mpr z)
              rw [if_neg y1] at sS
              rw [sS] at K
              exact K o8 P8 e34 (fun z => absurd (show (0 : Int32) = 1 from z) (by decide))
          · rw [f6.2.2 1 (by decide), e0, q5]; decide
        · have ez : e = 0 := by
            rcases Nat.eq_zero_or_pos e with z | z
            · exact z
            · rw [h34] at z34; exact absurd z34 (nI_ne0 z (by omega))
          subst ez
          rw [if_pos rfl] at sS
          rw [sS] at K
          exact K o prF.rf h34 (fun z => absurd (show (-6 : Int32) = 1 from z) (by decide))
    · have n7 : ¬ kindN tb f.1 = 7 := fun z => k57 (Or.inl z)
      have n5 : ¬ kindN tb f.1 = 5 := fun z => k57 (Or.inr z)
      refine m_putN hw hn hB0 hc0 S h42 hs (by omega) (fun x hx' hk => ?_) (up _ e o hT1 ?_ prF.rf hr31 h34 he)
      · rw [hx] at hx'; cases hx'; exact absurd hk k57
      · show (if kindN tb f.1 = 7 then _ else if kindN tb f.1 = 5 then _ else _) = _
        rw [if_neg n7, if_neg n5]
end
