/-! RUN: the command, both sides -/
section
variable {ck mk pr : Nat → Ob} {tb : Tb} {nm nc : Nat}
def RnC (ck mk pr : Nat → Ob) (tb : Tb) (nm nc q : Nat) (f2 : Int64) (f4 w : Int32) (p e : Nat) (A : Nat → Int32) (st e' : Nat) (A' : Nat → Int32) (R1 R2 : List Nd) : Prop := ∃ N : Nat, ∀ (K Post : PR) (x k kt kl j mc md tr ff fl sk sl sb sn : Ob), k.2.1 1 = nI nm → ¬ kt.2.1 6 < 0 → JC nc e j → XA x A → q < (x.2.1 4).toNatClampNeg → (∀ x2 k2 kt2 kl2 j2 mc2 md2 tr2 ff2 fl2 sk2 sl2 sb2 sn2, xF [1, 2, 3, 4, 5, 6, 7] x x2 → k2.2.1 1 = nI nm → ¬ kt2.2.1 6 < 0 → JC nc e' j2 → XA x2 A' → (st = 1 → TreeC ff2 (cenc tb R1) ∧ TreeC fl2 (cenc tb R2)) → K (nI st) x2 k2 kt2 kl2 j2 mc2 md2 tr2 ff2 fl2 sk2 sl2 sb2 sn2) → w_X9_run_L48 ck mk pr f2 f4 w q K Post N 0 (nI p) x k kt kl j mc md tr ff fl sk sl sb sn
def RnR (ck : Nat → Ob) (tb : Tb) (nm nc q m b nl : Nat) (lb : Nat → Nat) (f2 : Int64) (f4 w : Int32) (p e : Nat) (A : Nat → Int32) (st e' : Nat) (A' : Nat → Int32) (R1 R2 : List Nd) : Prop := ∃ N : Nat, ∀ (Post : Int32 → Ob → Prop) (o : Ob), HT tb o → CT ck nc o → PrO o q m b nl lb → o.2.1 34 = nI e → OA o A → o.2.1 50 = 0 → o.2.1 52 = 0 → (∀ o2, raF o o2 → o2.2.1 34 = nI e' → OA o2 A' → o2.2.1 50 = nI st → ((st = 1 ∧ o2.2.1 52 = 1 ∧ RowM o2 1 R1 ∧ RowM o2 2 R2) ∨ (st ≠ 1 ∧ o2.2.1 52 = 0)) → Post (nI st) o2) → w_X10_run_L106 (nI q) f2 f4 w (nI b) (fun (k8_148 : Int32) (o_k148 : Ob) => jn (fun J161 : Int32 → Ob → Prop => ((¬ k8_148 = ((-5))) → J161 3 o_k148) ∧ ((k8_148 = ((-5))) → J161 2 o_k148)) (fun (z_161 : Int32) (o_161 : Ob) => Post z_161 ((o_161.1, (upd o_161.2.1 50 z_161), o_161.2.2)))) (fun (o_k252 : Ob) => Post 3 ((o_k252.1, (upd o_k252.2.1 50 ((3 : Int32))), o_k252.2.2))) Post N (nI p) o
theorem run_all (hw : ∀ m, m < nm → MkWF tb nc m) (hr : ∀ m, m < nm → MkRel tb (mk m) m) (hn : nm ≤ 30) (hck : ∀ i, i < nc → CkWF (ck i) i) (hnc : nc ≤ 40) {q m b nl : Nat} {lb : Nat → Nat} (hq20 : q < 20) (hm : m < nm) (hb : b < nc) (hnl : nl ≤ 3) (pm : (pr q).2.1 0 = nI m) (pb : (pr q).2.1 1 = nI b) (p3 : (pr q).2.1 3 = nI nl) (plb : ∀ l, l < nl → lb l < nc ∧ (pr q).2.2 2 l = nI (lb l)) {w : Int32} {wn : Nat} (hwn : wn ≤ 24) (ew : w = nI wn) (f2 : Int64) {cnt : Nat} (hcnt : cnt ≤ 50) : ∀ (n p e : Nat) (A : Nat → Int32), p + n = cnt → e ≤ 1500 → ∃ (st e' : Nat) (A' : Nat → Int32) (R1 R2 : List Nd), e' ≤ e ∧ st < 4 ∧ (st = 1 → CF tb R1 [some m] ∧ CF tb R2 [some m]) ∧ RnC ck mk pr tb nm nc q f2 (nI cnt) w p e A st e' A' R1 R2 ∧ RnR ck tb nm nc q m b nl lb f2 (nI cnt) w p e A st e' A' R1 R2 := by
  intro n
  induction n with
  | zero =>
    intro p e A hp he
    have hp : p = cnt := hp
    subst hp
    refine ⟨0, e, A, [], [], Nat.le_refl _, by omega, fun z => absurd z (by decide), ⟨1, ?_⟩, ⟨1, ?_⟩⟩
    · intro K Post x k kt kl j mc md tr ff fl sk sl sb sn hk h6 hj hA hq KK
      exact ⟨fun _ => KK x k kt kl j mc md tr ff fl sk sl sb sn xF.rf hk h6 hj hA (fun z => absurd z (by decide)), fun z => absurd (Int32.le_refl _) z⟩
    · intro Post o T C hP h34 hA h50 h52 KK
      have := KK o raF.rf h34 hA h50 (Or.inr ⟨by decide, h52⟩)
      refine ⟨fun _ => ?_, fun z => absurd (Int32.le_refl _) z⟩
      rw [h50]; exact this
  | succ n ih =>
    intro p e A hp he
    have nle : ¬ nI cnt ≤ nI p := by rw [nI_leI (by omega) (by omega)]; omega
    obtain ⟨st, e1, B, R1, R2, g1, g2, g3, g4, g5⟩ := case_all hw hr hn hck hnc hq20 hm hb hnl pm pb p3 plb hwn ew (f2 + ((nI p).toInt64 * ((-7046029254386353131)))) p e A he
    -- the end of the class after a case
    have clE : ∀ (st : Nat) (K Post : PR), ¬ nI st = 0 → ∀ x k kt kl j mc md tr ff fl sk sl sb sn : Ob, K (nI st) x k kt kl j mc md tr ff fl sk sl sb sn → w_X9_run_L48 ck mk pr f2 (nI cnt) w q K Post 1 (nI st) (nI p + 1) x k kt kl j mc md tr ff fl sk sl sb sn := fun st K Post h x k kt kl j mc md tr ff fl sk sl sb sn kk => ⟨fun _ => kk, fun _ => ⟨fun _ => kk, fun z => absurd z h⟩⟩
    have claG : ∀ N : Nat, (∀ (K Post : PR) (x k kt kl j mc md tr ff fl sk sl sb sn : Ob), k.2.1 1 = nI nm → ¬ kt.2.1 6 < 0 → JC nc e j → XA x A → q < (x.2.1 4).toNatClampNeg → (∀ x2 k2 kt2 kl2 j2 mc2 md2 tr2 ff2 fl2 sk2 sl2 sb2 sn2, xF [1, 2, 3, 4, 5, 6, 7] x x2 → k2.2.1 1 = nI nm → ¬ kt2.2.1 6 < 0 → JC nc e1 j2 → XA x2 B → (st = 1 → TreeC ff2 (cenc tb R1) ∧ TreeC fl2 (cenc tb R2)) → w_X9_run_L48 ck mk pr f2 (nI cnt) w q K Post N (nI st) (nI p + 1) x2 k2 kt2 kl2 j2 mc2 md2 tr2 ff2 fl2 sk2 sl2 sb2 sn2) → w_X9_run_L48 ck mk pr f2 (nI cnt) w q K Post (N + 1) 0 (nI p) x k kt kl j mc md tr ff fl sk sl sb sn) := by
      intro N K Post x k kt kl j mc md tr ff fl sk sl sb sn hk h6 hj hA hq KK
      refine ⟨fun z => absurd z nle, fun _ => ⟨fun z => absurd rfl z, fun _ => ?_⟩⟩
      exact g4 (fun r x2 k2 kt2 kl2 j2 mc2 md2 tr2 ff2 fl2 sk2 sl2 sb2 sn2 => w_X9_run_L48 ck mk pr f2 (nI cnt) w q K Post N r (nI p + 1) x2 k2 kt2 kl2 j2 mc2 md2 tr2 ff2 fl2 sk2 sl2 sb2 sn2) x k kt kl j mc md tr ff fl sk sl sb sn hk h6 hj hA hq KK
    have upk : ∀ (o : Ob) (z : Int32) (X : Ob), X = (o.1, upd o.2.1 50 z, o.2.2) → Fr [50] [] o X ∧ X.2.1 50 = z := fun o z X hX => by
      have x1 : X.2.1 = upd o.2.1 50 z := by rw [hX]
      have x2 : X.2.2 = o.2.2 := by rw [hX]
      exact ⟨⟨fun k hk => by rw [x1, pk_un (fun y => hk (by subst y; decide))], fun k _ => by rw [x2]⟩, by rw [x1, pk_us]⟩
    have hst : st = 0 ∨ st = 1 ∨ st = 2 ∨ st = 3 := by omega
    rcases hst with rfl | rfl | rfl | rfl
    · obtain ⟨st2, e2, A2', Q1, Q2, h1, h2, h3, ⟨N1, h4⟩, ⟨N2, h5⟩⟩ := ih (p + 1) e1 B (by omega) (by omega)
      refine ⟨st2, e2, A2', Q1, Q2, by omega, h2, h3, ⟨N1 + 1, ?_⟩, ⟨N2 + 1, ?_⟩⟩
      · intro K Post x k kt kl j mc md tr ff fl sk sl sb sn hk h6 hj hA hq KK
        refine claG N1 K Post x k kt kl j mc md tr ff fl sk sl sb sn hk h6 hj hA hq (fun x2 k2 kt2 kl2 j2 mc2 md2 tr2 ff2 fl2 sk2 sl2 sb2 sn2 c1 c2 c3 c4 c5 _ => ?_)
        rw [nI_1]
        exact h4 K Post x2 k2 kt2 kl2 j2 mc2 md2 tr2 ff2 fl2 sk2 sl2 sb2 sn2 c2 c3 c4 c5 (by rw [c1.1]; exact hq) (fun x3 k3 kt3 kl3 j3 mc3 md3 tr3 ff3 fl3 sk3 sl3 sb3 sn3 d1 d2 d3 d4 d5 d6 => KK x3 k3 kt3 kl3 j3 mc3 md3 tr3 ff3 fl3 sk3 sl3 sb3 sn3 (c1.tr d1) d2 d3 d4 d5 d6)
      · intro Post o T C hP h34 hA h50 h52 KK
        refine ⟨fun z => absurd z nle, fun _ => ⟨fun z => absurd h50 z, fun _ => ⟨vp_in_nI hq20 (by omega), ?_⟩⟩⟩
        rw [nI_clamp (by omega), hP.1]
        refine g5 _ _ (fun o_335 => w_X10_run_L106 (nI q) f2 (nI cnt) w (nI b) _ _ Post N2 (nI p + 1) o_335) Post (nI cnt) f2 o T C hP h34 hA h50 h52 (fun o2 c1 c2 c3 => ⟨fun _ k50 k52 => ?_, fun z => absurd z (by decide), fun z => absurd z (by decide), fun z => absurd z (by decide)⟩)
        rw [nI_1]
        exact h5 Post o2 (c1.1.ht T (by decide)) (c1.1.ct C (by decide) (by decide) (by decide)) (hP.keep c1.1 (by decide) (by decide) (by decide) (by decide)) c2 c3 k50 k52 (fun o3 d1 d2 d3 d4 d5 => KK o3 (c1.tr d1) d2 d3 d4 d5)
    · refine ⟨1, e1, B, R1, R2, g1, by omega, g3, ⟨2, ?_⟩, ⟨2, ?_⟩⟩
      · intro K Post x k kt kl j mc md tr ff fl sk sl sb sn hk h6 hj hA hq KK
        exact claG 1 K Post x k kt kl j mc md tr ff fl sk sl sb sn hk h6 hj hA hq (fun x2 k2 kt2 kl2 j2 mc2 md2 tr2 ff2 fl2 sk2 sl2 sb2 sn2 c1 c2 c3 c4 c5 c6 => clE 1 K Post (by decide) x2 k2 kt2 kl2 j2 mc2 md2 tr2 ff2 fl2 sk2 sl2 sb2 sn2 (KK x2 k2 kt2 kl2 j2 mc2 md2 tr2 ff2 fl2 sk2 sl2 sb2 sn2 c1 c2 c3 c4 c5 c6))
      · intro Post o T C hP h34 hA h50 h52 KK
        refine ⟨fun z => absurd z nle, fun _ => ⟨fun z => absurd h50 z, fun _ => ⟨vp_in_nI hq20 (by omega), ?_⟩⟩⟩
        rw [nI_clamp (by omega), hP.1]
        refine g5 _ _ (fun o_335 => w_X10_run_L106 (nI q) f2 (nI cnt) w (nI b) _ _ Post 1 (nI p + 1) o_335) Post (nI cnt) f2 o T C hP h34 hA h50 h52 (fun o2 c1 c2 c3 => ⟨fun z => absurd z (by decide), fun _ k50 k52 k1 k2 => ?_, fun z => absurd z (by decide), fun z => absurd z (by decide)⟩)
        have kk := KK o2 c1 c2 c3 k50 (Or.inl ⟨rfl, k52, k1, k2⟩)
        have kk2 : Post (o2.2.1 50) o2 := by rw [k50]; exact kk
        exact ⟨fun _ => kk2, fun _ => ⟨fun _ => kk2, fun z => absurd (k50.symm.trans z) (by decide)⟩⟩
    · refine ⟨2, e1, B, R1, R2, g1, by omega, g3, ⟨2, ?_⟩, ⟨1, ?_⟩⟩
      · intro K Post x k kt kl j mc md tr ff fl sk sl sb sn hk h6 hj hA hq KK
        exact claG 1 K Post x k kt kl j mc md tr ff fl sk sl sb sn hk h6 hj hA hq (fun x2 k2 kt2 kl2 j2 mc2 md2 tr2 ff2 fl2 sk2 sl2 sb2 sn2 c1 c2 c3 c4 c5 c6 => clE 2 K Post (by decide) x2 k2 kt2 kl2 j2 mc2 md2 tr2 ff2 fl2 sk2 sl2 sb2 sn2 (KK x2 k2 kt2 kl2 j2 mc2 md2 tr2 ff2 fl2 sk2 sl2 sb2 sn2 c1 c2 c3 c4 c5 c6))
      · intro Post o T C hP h34 hA h50 h52 KK
        refine ⟨fun z => absurd z nle, fun _ => ⟨fun z => absurd h50 z, fun _ => ⟨vp_in_nI hq20 (by omega), ?_⟩⟩⟩
        rw [nI_clamp (by omega), hP.1]
        refine g5 _ _ _ Post (nI cnt) f2 o T C hP h34 hA h50 h52 (fun o2 c1 c2 c3 => ⟨fun z => absurd z (by decide), fun z => absurd z (by decide), fun _ k50 k52 => ?_, fun z => absurd z (by decide)⟩)
        refine jn_mk ⟨fun z => absurd rfl z, fun _ => ?_⟩
        obtain ⟨F, f50⟩ := upk o2 2 _ rfl
        refine KK _ (c1.tr (raF.of F (by decide) (by decide) (by decide) (by decide) (by decide))) ((F.1 34 (by decide)).trans c2) (c3.keep F (by decide) (by decide) (by decide) (by decide) (by decide)) f50 (Or.inr ⟨by decide, (F.1 52 (by decide)).trans k52⟩)
    · refine ⟨3, e1, B, R1, R2, g1, by omega, g3, ⟨2, ?_⟩, ⟨1, ?_⟩⟩
      · intro K Post x k kt kl j mc md tr ff fl sk sl sb sn hk h6 hj hA hq KK
        exact claG 1 K Post x k kt kl j mc md tr ff fl sk sl sb sn hk h6 hj hA hq (fun x2 k2 kt2 kl2 j2 mc2 md2 tr2 ff2 fl2 sk2 sl2 sb2 sn2 c1 c2 c3 c4 c5 c6 => clE 3 K Post (by decide) x2 k2 kt2 kl2 j2 mc2 md2 tr2 ff2 fl2 sk2 sl2 sb2 sn2 (KK x2 k2 kt2 kl2 j2 mc2 md2 tr2 ff2 fl2 sk2 sl2 sb2 sn2 c1 c2 c3 c4 c5 c6))
      · intro Post o T C hP h34 hA h50 h52 KK
        refine ⟨fun z => absurd z nle, fun _ => ⟨fun z => absurd h50 z, fun _ => ⟨vp_in_nI hq20 (by omega), ?_⟩⟩⟩
        rw [nI_clamp (by omega), hP.1]
        refine g5 _ _ _ Post (nI cnt) f2 o T C hP h34 hA h50 h52 (fun o2 c1 c2 c3 => ⟨fun z => absurd z (by decide), fun z => absurd z (by decide), fun z => absurd z (by decide), fun _ k50 k52 => ?_⟩)
        obtain ⟨F, f50⟩ := upk o2 3 _ rfl
        have kk := KK _ (c1.tr (raF.of F (by decide) (by decide) (by decide) (by decide) (by decide))) ((F.1 34 (by decide)).trans c2) (c3.keep F (by decide) (by decide) (by decide) (by decide) (by decide)) f50 (Or.inr ⟨by decide, (F.1 52 (by decide)).trans k52⟩)
        exact ⟨jn_mk ⟨fun _ => kk, fun z => absurd z (by decide)⟩, kk⟩
def A0 (i : Nat) : Int32 := if i = 2 then -9 else 0
theorem c_startL {K Post : Ob → Prop} {x0 : Ob} (kk : ∀ x2, xF [0, 1, 2, 3, 4, 5, 6, 7] x0 x2 → (∀ i, i < 8 → x2.2.2 8 i = 0) → K x2) : ∀ (D p : Nat) (x : Ob), p + D = 8 → xF [0, 1, 2, 3, 4, 5, 6, 7] x0 x → (∀ i, i < p → x.2.2 8 i = 0) → w_X9_startReport_L2 K Post (D + 1) (nI p) x := by
  intro D
  induction D with
  | zero =>
    intro p x hp hx h0
    have hp : p = 8 := hp
    subst hp
    exact ⟨fun _ => kk x hx h0, fun z => absurd (show (8 : Int32) ≤ nI 8 by decide) z⟩
  | succ D ih =>
    intro p x hp hx h0
    refine ⟨fun z => absurd z (by rw [show (8 : Int32) = nI 8 from rfl, nI_leI (by omega) (by omega)]; omega), fun _ => ⟨vp_in_nI (by omega) (by omega), ?_⟩⟩
    rw [nI_clamp (by omega), nI_1]
    have key : ∀ X : Ob, X = (x.1, x.2.1, sa x.2.2 8 (upd (x.2.2 8) p 0)) → w_X9_startReport_L2 K Post (D + 1) (nI (p + 1)) X := by
      intro X hX
      have y1 : X.2.1 = x.2.1 := by rw [hX]
      have y2 : X.2.2 = sa x.2.2 8 (upd (x.2.2 8) p 0) := by rw [hX]
      refine ih (p + 1) X (by omega) (hx.tr ⟨y1, fun g hg => by rw [y2, sa_ne hg], fun i hi => ?_⟩) (fun i hi => ?_)
      · rw [y2, sa_us, pk_un (fun z => hi (by
          subst z
          have : i = 0 ∨ i = 1 ∨ i = 2 ∨ i = 3 ∨ i = 4 ∨ i = 5 ∨ i = 6 ∨ i = 7 := by omega
          rcases this with rfl | rfl | rfl | rfl | rfl | rfl | rfl | rfl <;> decide))]
      · rw [y2, sa_us]
        by_cases c : i = p
        · rw [c, pk_us]
        · rw [pk_un c]; exact h0 i (by omega)
    exact key _ rfl
theorem c_report {x : Ob} {Post : Ob → Prop} (kk : ∀ x2, x2.2.1 = upd x.2.1 9 1 → XA x2 A0 → Post x2) : w_X9_startReport x Post := by
  refine ⟨9, c_startL (x0 := x) (fun x2 hx h0 => ?_) 8 0 x (by omega) xF.rf (fun i hi => absurd hi (Nat.not_lt_zero _))⟩
  have key : ∀ X : Ob, X = (x2.1, upd x2.2.1 9 1, sa x2.2.2 8 (upd (x2.2.2 8) 2 (-9))) → Post X := by
    intro X hX
    have y1 : X.2.1 = upd x2.2.1 9 1 := by rw [hX]
    have y2 : X.2.2 = sa x2.2.2 8 (upd (x2.2.2 8) 2 (-9)) := by rw [hX]
    refine kk X (by rw [y1, hx.1]) (fun i a b => ?_)
    rw [y2, sa_us]
    by_cases c : i = 2
    · rw [c, pk_us]; rfl
    · rw [pk_un c, h0 i b]; unfold A0; rw [if_neg c]
  exact key _ rfl
theorem m_startL {f1 : Int32} {f2 : Int64} {f4 f5 f6 : Int32} {K : Ob → Prop} {Post : Int32 → Ob → Prop} {o0 : Ob} (kk : ∀ o2, Fr [] [56] o0 o2 → (∀ i, i < 3 → o2.2.2 56 i = 0) → K o2) : ∀ (D p : Nat) (o : Ob), p + D = 3 → Fr [] [56] o0 o → (∀ i, i < p → o.2.2 56 i = 0) → w_X10_run_L83 f1 f2 f4 f5 f6 K Post (D + 1) (nI p) o := by
  intro D
  induction D with
  | zero =>
    intro p o hp F h0
    have hp : p = 3 := hp
    subst hp
    exact ⟨fun _ => kk o F h0, fun z => absurd (show (3 : Int32) ≤ nI 3 by decide) z⟩
  | succ D ih =>
    intro p o hp F h0
    refine ⟨fun z => absurd z (by rw [show (3 : Int32) = nI 3 from rfl, nI_leI (by omega) (by omega)]; omega), fun _ => ⟨vp_in_nI (by omega) (by omega), ?_⟩⟩
    rw [nI_clamp (by omega), nI_1]
    have key : ∀ X : Ob, X = (o.1, o.2.1, sa o.2.2 56 (upd (o.2.2 56) p 0)) → w_X10_run_L83 f1 f2 f4 f5 f6 K Post (D + 1) (nI (p + 1)) X := by
      intro X hX
      have y1 : X.2.1 = o.2.1 := by rw [hX]
      have y2 : X.2.2 = sa o.2.2 56 (upd (o.2.2 56) p 0) := by rw [hX]
      refine ih (p + 1) X (by omega) (F.tr ⟨fun k _ => by rw [y1], fun k hk => by rw [y2, sa_ne (fun z => hk (by subst z; decide))]⟩) (fun i hi => ?_)
      rw [y2, sa_us]
      by_cases c : i = p
      · rw [c, pk_us]
      · rw [pk_un c]; exact h0 i (by omega)
    exact key _ rfl
end
