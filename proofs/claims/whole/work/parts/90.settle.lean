/-! WHAT STANDS AROUND is put right: the class -/
def mx0 (s : Int32) : Int32 := if 0 < s then s else 0
def lowV (v s : Int32) : Int32 := if v ≤ mx0 s then v else 0
def sumL (tb : Tb) (L : List Nd) : Int32 := sumA (hg (evR tb L)) (evR tb L).length 0 0
def ckN (tb : Tb) (x : Nd) : Nat := (cnN tb x).2.1.toNatClampNeg
noncomputable def setl (ck : Nat → Ob) (tb : Tb) : List Frm → List Nd → Nat → Int32 × List Nd × Nat
  | [], T, e => (1, T, e)
  | f :: c, T, e => if kindN tb f.1 = 7 then setl ck tb c ((f.1.1, lowV f.1.2 (sumL tb T)) :: T) e else if kindN tb f.1 = 5 then (if e = 0 then (-6, [], 0) else if vdL ck tb T (ckN tb f.1) = 1 then setl ck tb c (fil1 f T) (e - 1) else (0, [], e - 1)) else setl ck tb c (fil1 f T) e
theorem lowV_nn {v s : Int32} (h : 0 ≤ v) : 0 ≤ lowV v s := by
  unfold lowV
  by_cases c : v ≤ mx0 s
  · rw [if_pos c]; exact h
  · rw [if_neg c]; decide
section
variable {ck : Nat → Ob} {tb : Tb} {nm nc : Nat}
theorem cn1_k {x : Nd} : (cnN tb x).1 = kindN tb x := by
  obtain ⟨xm, v⟩ := x
  cases xm <;> rfl
theorem kind_maker {x : Nd} {k : Int32} (h : kindN tb x = k) (h8 : k ≠ 8) : ∃ m, x.1 = some m ∧ tb 0 m = k := by
  obtain ⟨xm, v⟩ := x
  cases xm with
  | none => exact absurd (show (8 : Int32) = k from h).symm h8
  | some m => exact ⟨m, rfl, h⟩
/-- a frame with one part -/
theorem one_kid {f : Frm} {t : Option Nat} {pre post : List (Option Nat)} {a : Option Nat} (b : kidsT tb f.1 = pre ++ t :: post) (d : CF tb f.2.1 pre) (e : CF tb f.2.2 post) (hk : kidsT tb f.1 = [a]) : t = a ∧ pre = [] ∧ post = [] ∧ f.2.1 = [] ∧ f.2.2 = [] := by
  rw [hk] at b
  cases pre with
  | nil =>
    cases post with
    | nil =>
      have h1 : f.2.1 = [] := by
        cases h : f.2.1 with
        | nil => rfl
        | cons y M => rw [h] at d; obtain ⟨t', ts', e', -⟩ := d; cases e'
      have h2 : f.2.2 = [] := by
        cases h : f.2.2 with
        | nil => rfl
        | cons y M => rw [h] at e; obtain ⟨t', ts', e', -⟩ := e; cases e'
      cases b
      exact ⟨rfl, rfl, rfl, h1, h2⟩
    | cons q post => cases b
  | cons q pre =>
    have := congrArg List.length b
    rw [List.length_cons, List.cons_append, List.length_cons, List.length_append, List.length_cons] at this
    have : 0 + 1 = pre.length + (post.length + 1) + 1 := this
    omega
theorem kid_57 {x : Nd} (h : kindN tb x = 7 ∨ kindN tb x = 5) : ∃ m, x.1 = some m ∧ (∀ v, kidsT tb (x.1, v) = [some (oneN tb m)]) := by
  rcases h with h | h
  · obtain ⟨m, hm, q⟩ := kind_maker h (by decide)
    exact ⟨m, hm, fun v => by rw [hm, kids_7 q]⟩
  · obtain ⟨m, hm, q⟩ := kind_maker h (by decide)
    exact ⟨m, hm, fun v => by rw [hm, kids_5 q]⟩
theorem lower_ok {t : Option Nat} {x : Nd} {s : Int32} (h : okN tb t x) (q : kindN tb x = 7) : okN tb t (x.1, lowV x.2 s) := by
  obtain ⟨e, h⟩ := h
  refine ⟨e, fun m hm => ?_⟩
  obtain ⟨k1, k6, k7, k0⟩ := h m hm
  have q7 : tb 0 m = 7 := by
    obtain ⟨xm, v⟩ := x
    have e : xm = t := e
    subst e
    subst hm
    exact q
  exact ⟨fun z => absurd (q7.symm.trans z) (by decide), fun z => absurd (q7.symm.trans z) (by decide), fun z => lowV_nn (k7 z), fun z => absurd (q7.symm.trans z) (by decide)⟩
theorem OutC_in {kt kt2 : Ob} : ∀ (c : List Frm) (s : Nat), OutC tb kt c s → (∀ f, f < 5 → ∀ i, (i < posC tb c ∨ posC tb c + s ≤ i) → kt2.2.2 f i = kt.2.2 f i) → OutC tb kt2 c s := by
  intro c
  induction c with
  | nil => intro s _ _; exact trivial
  | cons f c ih =>
    intro s h e
    obtain ⟨⟨a0, a1, a2, a3, a4⟩, b, d, g⟩ := h
    have hp : posC tb (f :: c) = posC tb c + 1 + (cenc tb f.2.1).length := rfl
    have hz : szF tb f s = 1 + ((cenc tb f.2.1).length + s + ((cenc tb f.2.2).length + (resT tb f.1).length)) := rfl
    refine ⟨⟨?_, ?_, ?_, ?_, ?_⟩, b.cong (fun k hk i hi => e k hk _ (Or.inl (by omega))), d.cong (fun k hk i hi => e k hk _ (Or.inr (by omega))), ih _ g (fun k hk i hi => e k hk i (by omega))⟩
    · rw [e 0 (by omega) _ (Or.inl (by omega))]; exact a0
    · rw [e 1 (by omega) _ (Or.inl (by omega))]; exact a1
    · rw [e 2 (by omega) _ (Or.inl (by omega))]; exact a2
    · rw [e 3 (by omega) _ (Or.inl (by omega))]; exact a3
    · rw [e 4 (by omega) _ (Or.inl (by omega))]; exact a4
theorem OutC_in3 {kt kt2 : Ob} (k3 : KtE 744 kt kt2) : ∀ (cc : List Frm) (s : Nat), outN tb cc s ≤ 744 → OutC tb kt cc s → OutC tb kt2 cc s := by
  intro cc
  induction cc with
  | nil => intro s _ _; exact trivial
  | cons g cc ih2 =>
    intro s hs h
    obtain ⟨⟨x0, x1, x2, x3, x4⟩, y1, y2, y3⟩ := h
    have hge := (outN_ge (tb := tb) cc (szF tb g s)).1
    have hs' : outN tb cc (szF tb g s) ≤ 744 := hs
    have zz : szF tb g s = 1 + ((cenc tb g.2.1).length + s + ((cenc tb g.2.2).length + (resT tb g.1).length)) := rfl
    refine ⟨⟨?_, ?_, ?_, ?_, ?_⟩, k3.tf y1 (by omega), k3.tf y2 (by rw [List.length_append]; omega), ih2 _ hs' y3⟩
    · rw [k3 0 (by omega) _ (by omega)]; exact x0
    · rw [k3 1 (by omega) _ (by omega)]; exact x1
    · rw [k3 2 (by omega) _ (by omega)]; exact x2
    · rw [k3 3 (by omega) _ (by omega)]; exact x3
    · rw [k3 4 (by omega) _ (by omega)]; exact x4
theorem tree_end {kt : Ob} {p : Nat} {par : Int32} {C : List CN} (h : TrF kt p par C) (cc : CC C 1) (hl : 0 < C.length) : kt.2.2 4 p = nI (p + C.length) := by
  cases C with
  | nil => exact absurd hl (Nat.lt_irrefl _)
  | cons c F =>
    obtain ⟨k', e, cc⟩ := cc
    obtain rfl : k' = 0 := by omega
    have := (h.cons_inv cc).2.2.2.2.1
    rw [this, List.length_cons]; congr 1; omega
theorem CF_ne {L : List Nd} {t : Option Nat} (h : CF tb L [t]) : 0 < L.length ∧ 0 < (cenc tb L).length := by
  cases L with
  | nil => exact absurd (show [t] = [] from h) (by intro z; cases z)
  | cons x L => exact ⟨by rw [List.length_cons]; omega, by rw [cenc_len]; omega⟩
/-- all that a part's case and its surroundings give -/
theorem hole_all (hw : ∀ m, m < nm → MkWF tb nc m) (hn : nm ≤ 30) {m : Nat} (hm : m < nm) {c : List Frm} {t : Option Nat} {T : List Nd} (h1 : CFx tb c t (some m)) (h2 : CF tb T [t]) : CF tb (fil c T) [some m] ∧ BN nm (fil c T) ∧ BN nm T ∧ (cenc tb (fil c T)).length ≤ 744 ∧ (cenc tb (fil c T)).length = outN tb c (cenc tb T).length ∧ posC tb c + (cenc tb T).length ≤ 744 ∧ (evR tb T).length ≤ 24 ∧ CC (cenc tb T) 1 ∧ evC (cenc tb T) = evR tb T ∧ (fil c T).length ≤ 744 ∧ posR c + T.length ≤ 744 ∧ (cenc tb T).length ≤ 744 := by
  have hc := fil_CF c t T h1 h2
  have hB := CF_BN hw hn hm hc
  have hBT := BN_hole hB
  obtain ⟨b1, b2, b3⟩ := CF_b1 hn hw hc hm hB
  have ho := cenc_fil_len c t T h1 h2
  have hg := (outN_ge (tb := tb) c (cenc tb T).length).1
  have ht : (evR tb T).length ≤ 24 := by
    cases t with
    | none =>
      have := (CF_bd hn hw T _ h2 hBT).2.1
      have : (evR tb T).length ≤ 1 + 0 := this
      omega
    | some a =>
      have ha : a < nm := by
        cases T with
        | nil => exact absurd (show [some a] = [] from h2) (by intro z; cases z)
        | cons x T => obtain ⟨t', ts', e, hk, -⟩ := h2; cases e; exact hBT x List.mem_cons_self a hk.1
      exact (CF_b1 hn hw h2 ha hBT).2.1
  have hl : (fil c T).length = posR c + T.length + (sufR c).length := fil_len
  exact ⟨hc, hB, hBT, b1, ho, by omega, ht, CC_cenc hw T _ h2 hBT, evC_cenc hw T _ h2 hBT, by omega, by omega, by omega⟩
theorem mx_j {s : Int32} {Q : Int32 → Prop} (h : Q (mx0 s)) : w_J9_max_7cf53 0 s Q := by
  unfold mx0 at h
  exact ⟨fun c => by rwa [if_pos c] at h, fun c => by rwa [if_neg c] at h⟩
abbrev PS : Type := Int32 → Ob → Ob → Ob → Ob → Ob → Ob → Prop
set_option maxHeartbeats 4000000 in
theorem c_settleL (hw : ∀ m, m < nm → MkWF tb nc m) (hn : nm ≤ 30) (hck : ∀ i, i < nc → CkWF (ck i) i) (hnc : nc ≤ 40) {m : Nat} (hm : m < nm) {sk : Ob} {Post : PS} : ∀ (c : List Frm) (t : Option Nat) (T : List Nd) (e a : Nat) (sl sn j mc md : Ob), CFx tb c t (some m) → CF tb T [t] → e ≤ 1500 → a + c.length ≤ 30 → sn.2.1 6 = nI (cenc tb (fil c T)).length → TrF sn (posC tb c) (parO tb c) (cenc tb T) → OutC tb sn c (cenc tb T).length → JC nc e j → (∀ sl2 sn2 j2 mc2 md2, JC nc (setl ck tb c T e).2.2 j2 → ((setl ck tb c T e).1 = 1 → TreeC sn2 (cenc tb (setl ck tb c T e).2.1)) → Post (setl ck tb c T e).1 sk sl2 sn2 j2 mc2 md2) → w_X7_settle_L19 ck Post (c.length + 1) (nI (posC tb c)) (parO tb c) (nI a) sk sl sn j mc md := by
  intro c
  induction c with
  | nil =>
    intro t T e a sl sn j mc md h1 h2 he ha h6 hT hO hj K
    obtain ⟨-, -, -, b1, b2, -⟩ := hole_all hw hn hm h1 h2
    refine ⟨fun z => absurd z (by rw [show (31 : Int32) = nI 31 from rfl, nI_leI (by omega) (by have : a + 0 ≤ 30 := ha; omega)]; have : a + 0 ≤ 30 := ha; omega), fun _ => ⟨fun _ => K sl sn j mc md hj (fun _ => hT.top h6 b1), fun z => absurd (show (-1 : Int32) < 0 by decide) z⟩⟩
  | cons f c ih =>
    intro t T e a sl sn j mc md h1 h2 he ha h6 hT hO hj K
    obtain ⟨hcR, hBR, hBT, b1, b2, b3, b4, cc, hev, -, -, bT⟩ := hole_all hw hn hm h1 h2
    obtain ⟨u, pre, post, o1, o2, o3, o4, o5⟩ := h1
    have hT1 := (fil1_CF o1 o2 o3 o4 h2).2
    obtain ⟨-, hBR1, hB1, d1, d2, d3, -⟩ := hole_all hw hn hm o5 hT1
    have hsz := cenc_fil1_len o1 o2 o3 o4 h2
    have hP := hO.1
    obtain ⟨⟨n0, n1, n2, n3, n4⟩, hpre, hpost, hO2⟩ := hO
    have ha' : a + (c.length + 1) ≤ 30 := ha
    have hb0 : ∀ m', f.1.1 = some m' → m' < nm := (BN_f hB1).1
    have hz : sn.2.1 6 = nI (cenc tb (fil c (fil1 f T))).length := h6
    have hpc : posC tb (f :: c) = posC tb c + 1 + (cenc tb f.2.1).length := rfl
    have szv : szF tb f (cenc tb T).length = 1 + ((cenc tb f.2.1).length + (cenc tb T).length + ((cenc tb f.2.2).length + (resT tb f.1).length)) := rfl
    have plt : posC tb c < (cenc tb (fil c (fil1 f T))).length := by
      have := (outN_ge (tb := tb) c (cenc tb (fil1 f T)).length).1
      omega
    obtain ⟨tl, tl2⟩ := CF_ne h2
    have nz : (cenc tb (fil1 f T)).length = szF tb f (cenc tb T).length := hsz
    -- the whole node, as it is
    have whole : ∀ kt : Ob, TrF kt (posC tb (f :: c)) (nI (posC tb c)) (cenc tb T) → OutC tb kt (f :: c) (cenc tb T).length → TrF kt (posC tb c) (parO tb c) (cenc tb (fil1 f T)) ∧ OutC tb kt c (cenc tb (fil1 f T)).length := by
      intro kt k1 k2
      obtain ⟨q1, q2, q3, q4⟩ := k2
      exact ⟨(TrF_node hw o1 o2 o3 o4 h2 hB1).mpr ⟨q1, q2, k1, q3⟩, by rw [nz]; exact q4⟩
    -- going on above
    have up : ∀ (T1 : List Nd) (e1 : Nat) (sl1 sn1 j1 mc1 md1 : Ob), CF tb T1 [u] → e1 ≤ 1500 → setl ck tb (f :: c) T e = setl ck tb c T1 e1 → sn1.2.1 6 = nI (cenc tb (fil c T1)).length → TrF sn1 (posC tb c) (parO tb c) (cenc tb T1) → OutC tb sn1 c (cenc tb T1).length → JC nc e1 j1 → w_X8_parent (nI (posC tb c)) sn1 (fun (r33 : Int32) (sn_34 : Ob) => w_X7_settle_L19 ck Post (c.length + 1) (nI (posC tb c)) r33 (nI a + 1) sk sl1 sn_34 j1 mc1 md1) := by
      intro T1 e1 sl1 sn1 j1 mc1 md1 k0 ke k1 k2 k3 k4 k5
      obtain ⟨-, -, -, g1, g2, g3, -, cc1, -⟩ := hole_all hw hn hm o5 k0
      obtain ⟨-, tl1⟩ := CF_ne k0
      have lt : posC tb c < (cenc tb (fil c T1)).length := by
        have := (outN_ge (tb := tb) c (cenc tb T1).length).1
        omega
      have par : sn1.2.2 3 (posC tb c) = parO tb c := by
        cases hC : cenc tb T1 with
        | nil => rw [hC] at tl1; exact absurd tl1 (Nat.lt_irrefl _)
        | cons q F =>
          rw [hC] at k3 cc1
          obtain ⟨k', ek, cc1⟩ := cc1
          obtain rfl : k' = 0 := by omega
          exact (k3.cons_inv cc1).2.2.2.1
      refine c_get3 k2 lt g1 ?_
      rw [par, nI_1]
      rw [k1] at K
      exact ih u T1 e1 (a + 1) sl1 sn1 j1 mc1 md1 o5 k0 ke (by omega) k2 k3 k4 k5 K
    have same : ∀ (e1 : Nat) (sl1 sn1 j1 mc1 md1 : Ob), e1 ≤ 1500 → setl ck tb (f :: c) T e = setl ck tb c (fil1 f T) e1 → (sn1.2.1 6 = sn.2.1 6) → KtE 744 sn sn1 → JC nc e1 j1 → w_X8_parent (nI (posC tb c)) sn1 (fun (r33 : Int32) (sn_34 : Ob) => w_X7_settle_L19 ck Post (c.length + 1) (nI (posC tb c)) r33 (nI a + 1) sk sl1 sn_34 j1 mc1 md1) := by
      intro e1 sl1 sn1 j1 mc1 md1 ke k1 k2 k3 k4
      obtain ⟨w1, w2⟩ := whole sn hT ⟨⟨n0, n1, n2, n3, n4⟩, hpre, hpost, hO2⟩
      refine up (fil1 f T) e1 sl1 sn1 j1 mc1 md1 hT1 ke k1 (k2.trans hz) (k3.tf w1 (by omega)) ?_ k4
      have wl : (cenc tb (fil c (fil1 f T))).length ≤ 744 := d1
      exact OutC_in3 k3 c _ (by rw [← d2]; exact d1) w2
    refine ⟨fun z => absurd z (by rw [show (31 : Int32) = nI 31 from rfl, nI_leI (by omega) (by omega)]; omega), fun _ => ⟨fun z => absurd z (nI_pos (show posC tb c < 2 ^ 31 by omega)), fun _ => ?_⟩⟩
    refine c_get0 hz plt d1 ?_
    rw [n0, cn1_k]
    refine jn_mk (jn_mk ⟨fun n7 => ?_, fun y7 => ⟨fun z => absurd ?_ z, fun _ => ?_⟩⟩)
    · refine c_get0 hz plt d1 ?_
      rw [n0, cn1_k]
      refine ⟨fun n5 => same e sl sn j mc md he ?_ rfl KtE.rf hj, fun y5 => ?_⟩
      · show (if kindN tb f.1 = 7 then _ else if kindN tb f.1 = 5 then _ else _) = _
        rw [if_neg n7, if_neg n5]
      · have sS : setl ck tb (f :: c) T e = (if e = 0 then (-6, [], 0) else if vdL ck tb T (ckN tb f.1) = 1 then setl ck tb c (fil1 f T) (e - 1) else (0, [], e - 1)) := by
          show (if kindN tb f.1 = 7 then _ else if kindN tb f.1 = 5 then _ else _) = _
          rw [if_neg n7, if_pos y5]
        cases e with
        | zero =>
          rw [if_pos rfl] at sS
          rw [sS] at K
          exact c_payN hj ⟨rfl, ⟨fun z => absurd rfl z, fun _ => K sl sn j mc md hj (fun z => absurd z (by decide))⟩⟩
        | succ e =>
          rw [if_neg (by omega), Nat.add_sub_cancel] at sS
          obtain ⟨mk', hmk, q5⟩ := kind_maker y5 (by decide)
          have hmk2 := hb0 mk' hmk
          obtain ⟨-, -, -, -, -, -, -, -, k5, -⟩ := hw mk' hmk2
          obtain ⟨a1, c1, ha1, ea1, hc1, ec1, -⟩ := k5 q5
          have cnv : (cnN tb f.1).2.1 = nI c1 := by
            have hx : f.1 = (some mk', f.1.2) := Prod.ext hmk rfl
            rw [hx, cn_5 q5]; exact ec1
          have ckv : ckN tb f.1 = c1 := by unfold ckN; rw [cnv, nI_clamp (by omega)]
          obtain ⟨mk2, -, hkid⟩ := kid_57 (tb := tb) (Or.inr y5)
          obtain ⟨-, -, -, f1e, f2e⟩ := one_kid o2 o3 o4 (show kidsT tb f.1 = [some (oneN tb mk2)] from hkid f.1.2)
          refine c_payY hj (by omega) (fun j3 hj3 => ⟨hj3.1.trans hj.1.symm, ⟨fun _ => ?_, fun z => absurd z (by decide)⟩⟩)
          have lt2 : posC tb (f :: c) < (cenc tb (fil c (fil1 f T))).length := by
            have := (outN_ge (tb := tb) c (cenc tb (fil1 f T)).length).1
            omega
          refine c_get4 hz lt2 d1 ?_
          rw [tree_end hT cc tl2]
          refine c_gather (z := (cenc tb (fil c (fil1 f T))).length) hT.st hz (by have := (outN_ge (tb := tb) c (cenc tb (fil1 f T)).length).1; omega) d1 (by rw [← evC_len, hev]; exact b4) (maps_ok hw T hBT) (fun sn3 sl3 fk L3 => ?_)
          rw [hev] at L3
          have kE : KtE 744 sn sn3 := KtE.of fk no5
          refine c_get1 ((fk.2.1 6 (by decide)).trans hz) plt d1 ?_
          rw [kE 1 (by omega) _ (by omega), n1, cnv]
          refine c_verdict hck hnc hc1 hj3.1 L3.f (fun j4 mc4 md4 fj => ?_)
          have hj4 : JC nc e j4 := ⟨(fj.2.1 1 (by simp)).trans hj3.1, (fj.2.1 2 (by simp)).trans hj3.2⟩
          rw [ckv] at sS
          refine ⟨fun v1 => ?_, fun v1 => ?_⟩
          · have v1 : vdL ck tb T c1 = 1 := v1
            rw [if_pos v1] at sS
            exact same e sl3 sn3 j4 mc4 md4 (by omega) sS (fk.2.1 6 (by decide)) kE hj4
          · have v1 : ¬ vdL ck tb T c1 = 1 := v1
            rw [if_neg v1] at sS
            rw [sS] at K
            exact K sl3 sn3 j4 mc4 md4 hj4 (fun z => absurd (show (0 : Int32) = 1 from z) (by decide))
    · obtain ⟨mk2, -, hkid⟩ := kid_57 (tb := tb) (Or.inl y7)
      obtain ⟨-, -, -, f1e, f2e⟩ := one_kid o2 o3 o4 (show kidsT tb f.1 = [some (oneN tb mk2)] from hkid f.1.2)
      show nI (posC tb (f :: c)) = nI (posC tb c) + 1
      rw [hpc, f1e, nI_1]; rfl
    · obtain ⟨mk2, hmk2, hkid⟩ := kid_57 (tb := tb) (Or.inl y7)
      obtain ⟨te, pe, poe, f1e, f2e⟩ := one_kid o2 o3 o4 (show kidsT tb f.1 = [some (oneN tb mk2)] from hkid f.1.2)
      have sS : setl ck tb (f :: c) T e = setl ck tb c ((f.1.1, lowV f.1.2 (sumL tb T)) :: T) e := by
        show (if kindN tb f.1 = 7 then _ else _) = _
        rw [if_pos y7]
      have hp1 : posC tb (f :: c) = posC tb c + 1 := by rw [hpc, f1e]; rfl
      have res7 : resT tb f.1 = [(9, f.1.2, 0)] := by
        unfold resT bel
        rw [if_pos (decide_eq_true y7)]
      have sz7 : (cenc tb (fil1 f T)).length = (cenc tb T).length + 2 := by
        rw [nz, szv, f1e, f2e, res7]; show 1 + (0 + (cenc tb T).length + (0 + 1)) = _; omega
      have big := (outN_ge (tb := tb) c (cenc tb (fil1 f T)).length).1
      have hpost2 : TrF sn (posC tb c + 1 + (cenc tb T).length) (nI (posC tb c)) [((9 : Int32), f.1.2, (0 : Int32))] := by
        have := hpost
        rw [f1e, f2e, res7] at this
        exact this
      obtain ⟨p0, p1, p2, p3, p4, -⟩ := hpost2.cons_inv (show CC [] (arC ((9 : Int32), f.1.2, (0 : Int32))) from rfl)
      rw [hp1] at hT ⊢
      refine c_get4 hz (by omega) d1 ?_
      rw [tree_end hT cc tl2]
      refine c_gather (z := (cenc tb (fil c (fil1 f T))).length) hT.st hz (by omega) d1 (by rw [← evC_len, hev]; exact b4) (maps_ok hw T hBT) (fun sn3 sl3 fk L3 => ?_)
      rw [hev] at L3
      have kE : KtE 744 sn sn3 := KtE.of fk no5
      have h63 : sn3.2.1 6 = nI (cenc tb (fil c (fil1 f T))).length := (fk.2.1 6 (by decide)).trans hz
      refine c_get1 h63 (by omega) d1 ?_
      rw [kE 1 (by omega) _ (by omega), p1]
      refine c_sum L3.f (mx_j ?_)
      have hT1' : CF tb ((f.1.1, lowV f.1.2 (sumL tb T)) :: T) [u] := by
        refine ⟨u, [], rfl, lower_ok o1 y7, ?_⟩
        rw [List.append_nil, hkid, ← te]; exact h2
      have fin : ∀ sn4 : Ob, sn4.2.1 6 = sn3.2.1 6 → (∀ g, g < 5 → ∀ i, i ≠ posC tb c + 1 + (cenc tb T).length → sn4.2.2 g i = sn3.2.2 g i) → (∀ g, g < 5 → g ≠ 1 → sn4.2.2 g (posC tb c + 1 + (cenc tb T).length) = sn3.2.2 g (posC tb c + 1 + (cenc tb T).length)) → sn4.2.2 1 (posC tb c + 1 + (cenc tb T).length) = lowV f.1.2 (sumL tb T) → w_X8_parent (nI (posC tb c)) sn4 (fun (r33 : Int32) (sn_34 : Ob) => w_X7_settle_L19 ck Post (c.length + 1) (nI (posC tb c)) r33 (nI a + 1) sk sl3 sn_34 j mc md) := by
        intro sn4 g6 gn go gv
        have eq4 : ∀ g, g < 5 → ∀ i, i ≠ posC tb c + 1 + (cenc tb T).length → i < 744 → sn4.2.2 g i = sn.2.2 g i := fun g hg i hi h7 => (gn g hg i hi).trans (kE g hg i h7)
        have fl : CF tb ((f.1.1, lowV f.1.2 (sumL tb T)) :: T) [u] := hT1'
        obtain ⟨-, hBn, hBn1, l1, l2, -⟩ := hole_all hw hn hm o5 hT1'
        have cl : (cenc tb ((f.1.1, lowV f.1.2 (sumL tb T)) :: T)).length = (cenc tb T).length + 2 := by
          rw [cenc_one (show CF tb T (kidsT tb (f.1.1, lowV f.1.2 (sumL tb T))) by rw [hkid, ← te]; exact h2), List.length_cons, List.length_append]
          have : (resT tb (f.1.1, lowV f.1.2 (sumL tb T))).length = 1 := by
            unfold resT bel
            rw [show kindN tb (f.1.1, lowV f.1.2 (sumL tb T)) = kindN tb f.1 by obtain ⟨⟨xm, xv⟩, y, z⟩ := f; cases xm <;> rfl, if_pos (decide_eq_true y7)]; rfl
          omega
        have cn7 : ∀ v, cnN tb (f.1.1, v) = (7, 2, 0) := fun v => by
          rw [hmk2]
          exact cn_7 (by have := y7; unfold kindN at this; rw [hmk2] at this; exact this)
        have node : TrF sn4 (posC tb c) (parO tb c) (cenc tb ((f.1.1, lowV f.1.2 (sumL tb T)) :: T)) := by
          have k := (TrF_node (kt := sn4) (p := posC tb c) (par := parO tb c) (f := ((f.1.1, lowV f.1.2 (sumL tb T)), [], [])) (u := u) (t := t) (pre := []) (post := []) (T := T) hw (lower_ok o1 y7) (by rw [show ((f.1.1, lowV f.1.2 (sumL tb T)), ([] : List Nd), ([] : List Nd)).1 = (f.1.1, lowV f.1.2 (sumL tb T)) from rfl, hkid, ← te]; rfl) rfl rfl h2 (by show BN nm ((f.1.1, lowV f.1.2 (sumL tb T)) :: ([] ++ T ++ [])); rw [List.append_nil, List.nil_append]; exact hBn1)).mpr
          have hfil : fil1 ((f.1.1, lowV f.1.2 (sumL tb T)), [], []) T = (f.1.1, lowV f.1.2 (sumL tb T)) :: T := by
            show (f.1.1, lowV f.1.2 (sumL tb T)) :: ([] ++ T ++ []) = _
            rw [List.append_nil, List.nil_append]
          rw [hfil] at k
          have szz : szF tb ((f.1.1, lowV f.1.2 (sumL tb T)), [], []) (cenc tb T).length = (cenc tb T).length + 2 := by
            have := cl
            rw [cenc_one (show CF tb T (kidsT tb (f.1.1, lowV f.1.2 (sumL tb T))) by rw [hkid, ← te]; exact h2), List.length_cons, List.length_append] at this
            show 1 + (0 + (cenc tb T).length + (0 + (resT tb (f.1.1, lowV f.1.2 (sumL tb T))).length)) = _
            omega
          have n4' : sn.2.2 4 (posC tb c) = nI (posC tb c + ((cenc tb T).length + 2)) := by rw [n4, ← nz, sz7]
          have cf1 : cnN tb f.1 = (7, 2, 0) := cn7 f.1.2
          refine k ⟨⟨?_, ?_, ?_, ?_, ?_⟩, TrF.nil, ?_, ?_⟩
          · rw [eq4 0 (by omega) _ (by omega) (by omega), n0, cf1, cn7]
          · rw [eq4 1 (by omega) _ (by omega) (by omega), n1, cf1, cn7]
          · rw [eq4 2 (by omega) _ (by omega) (by omega), n2, cf1, cn7]
          · rw [eq4 3 (by omega) _ (by omega) (by omega), n3]
          · rw [eq4 4 (by omega) _ (by omega) (by omega), n4', szz]
          · exact hT.cong (fun g hg i hi => eq4 g hg _ (by show posC tb c + 1 + 0 + i ≠ _; omega) (by show posC tb c + 1 + 0 + i < _; omega))
          · have rr : resT tb (f.1.1, lowV f.1.2 (sumL tb T)) = [(9, lowV f.1.2 (sumL tb T), 0)] := by
              unfold resT bel
              rw [show kindN tb (f.1.1, lowV f.1.2 (sumL tb T)) = kindN tb f.1 by obtain ⟨⟨xm, xv⟩, y, z⟩ := f; cases xm <;> rfl, if_pos (decide_eq_true y7)]
            show TrF sn4 (posC tb c + 1 + 0 + (cenc tb T).length) (nI (posC tb c)) ([] ++ resT tb (f.1.1, lowV f.1.2 (sumL tb T)))
            rw [rr, Nat.add_zero, List.nil_append]
            refine TrF.cons (F := []) rfl ?_ gv ?_ ?_ ?_ TrF.nil
            · rw [go 0 (by omega) (by omega), kE 0 (by omega) _ (by omega)]; exact p0
            · rw [go 2 (by omega) (by omega), kE 2 (by omega) _ (by omega)]; exact p2
            · rw [go 3 (by omega) (by omega), kE 3 (by omega) _ (by omega)]; exact p3
            · rw [go 4 (by omega) (by omega), kE 4 (by omega) _ (by omega)]; exact p4
        refine up _ e sl3 sn4 j mc md hT1' he sS (by rw [g6, h63, l2, d2, cl, sz7]) node ?_ hj
        rw [cl, ← sz7, nz]
        have out3 : OutC tb sn3 c (szF tb f (cenc tb T).length) :=
          OutC_in3 kE c _ (by rw [← nz, ← d2]; exact d1) hO2
        exact OutC_in c _ out3 (fun g hg i hi => gn g hg i (by rw [← nz, sz7] at hi; omega))
      by_cases lv : f.1.2 ≤ mx0 (sumL tb T)
      · refine ⟨fun _ => fin sn3 rfl (fun _ _ _ _ => rfl) (fun _ _ _ => rfl) ?_, fun z => absurd lv z⟩
        rw [kE 1 (by omega) _ (by omega), p1]; unfold lowV; rw [if_pos lv]
      · refine ⟨fun z => absurd z lv, fun _ => c_setV h63 (by omega) d1 (fin (Tu sn3 1 (posC tb c + 1 + (cenc tb T).length) 0) rfl (fun g _ i hi => Tu_np hi) (fun g _ hg => Tu_nf hg) ?_)⟩
        rw [Tu_us]; unfold lowV; rw [if_neg lv]
end
