/-! RUN: shrinking, both sides -/
def xF (S : List Nat) (x x2 : Ob) : Prop := x2.2.1 = x.2.1 ∧ (∀ g, g ≠ 8 → x2.2.2 g = x.2.2 g) ∧ ∀ i, i ∉ S → x2.2.2 8 i = x.2.2 8 i
theorem xF.rf {S : List Nat} {x : Ob} : xF S x x := ⟨rfl, fun _ _ => rfl, fun _ _ => rfl⟩
theorem xF.tr {S : List Nat} {x x2 x3 : Ob} (a : xF S x x2) (b : xF S x2 x3) : xF S x x3 := ⟨b.1.trans a.1, fun g hg => (b.2.1 g hg).trans (a.2.1 g hg), fun i hi => (b.2.2 i hi).trans (a.2.2 i hi)⟩
theorem xF.mono {S S2 : List Nat} {x x2 : Ob} (a : xF S x x2) (h : ∀ i, i ∈ S → i ∈ S2) : xF S2 x x2 := ⟨a.1, a.2.1, fun i hi => a.2.2 i (fun z => hi (h i z))⟩
theorem bg1 {f : Nat → Int32} {t : Int32} : upd (upd (upd (upd f 41 t) 42 0) 43 0) 44 0 41 = t ∧ upd (upd (upd (upd f 41 t) 42 0) 43 0) 44 0 42 = nI 0 ∧ upd (upd (upd (upd f 41 t) 42 0) 43 0) 44 0 43 = b2i false ∧ upd (upd (upd (upd f 41 t) 42 0) 43 0) 44 0 44 = nI 0 ∧ ∀ k, k ≠ 41 → k ≠ 42 → k ≠ 43 → k ≠ 44 → upd (upd (upd (upd f 41 t) 42 0) 43 0) 44 0 k = f k := by
  refine ⟨?_, ?_, ?_, ?_, fun k h1 h2 h3 h4 => ?_⟩
  · rw [pk_un (by decide), pk_un (by decide), pk_un (by decide), pk_us]
  · rw [pk_un (by decide), pk_un (by decide), pk_us]; rfl
  · rw [pk_un (by decide), pk_us]; rfl
  · rw [pk_us]; rfl
  · rw [pk_un h4, pk_un h3, pk_un h2, pk_un h1]
def shS : List Nat := [41, 42, 43, 44, 54, 55] ++ (prS ++ (rkS ++ runS))
def shA : List Nat := prA ++ ([8, 9] ++ (rkA ++ [25, 26, 27]))
def skF (o o2 : Ob) : Prop := Fr shS shA o o2 ∧ ∀ t, t < 2 → RK t o o2
theorem skF.tr {o o2 o3 : Ob} (a : skF o o2) (b : skF o2 o3) : skF o o3 := ⟨a.1.tr b.1, fun t ht => (a.2 t ht).tr (b.2 t ht)⟩
theorem aF.skF {o o2 : Ob} (a : aF o o2) : skF o o2 := ⟨a.1.mono (by decide) (by decide), fun t ht => a.2 t (by omega) (by omega)⟩
theorem skF.of {S A : List Nat} {o o2 : Ob} (f : Fr S A o o2) (hS : ∀ k ∈ S, k ∈ shS) (hA : ∀ k ∈ A, k ∈ shA) (h8 : 8 ∉ A) (h9 : 9 ∉ A) (h10 : 10 ∉ A) : skF o o2 := ⟨f.mono hS hA, fun t _ => RK.of_fr f h8 h9 h10⟩
theorem VS_1 {v : Int32} (h : VS v) : (mV v = 1 ↔ v = 1) ∧ (¬ v = 1 → (0 ≤ mV v → (0 : Int32) = -v) ∧ (¬ 0 ≤ mV v → (-10) - mV v = -v)) := by
  rcases h with rfl | rfl | rfl | rfl | rfl <;> exact ⟨by decide, by decide⟩
section
variable {ck : Nat → Ob} {tb : Tb} {nm nc : Nat}
theorem Fr.ht {S A : List Nat} {o o2 : Ob} (f : Fr S A o o2) (T : HT tb o) (hA : ∀ k, k < 7 → k + 1 ∉ A) : HT tb o2 := fun k hk => by rw [f.2 (k + 1) (hA k hk)]; exact T k hk
theorem Fr.ct {S A : List Nat} {o o2 : Ob} (f : Fr S A o o2) (C : CT ck nc o) (h22 : 22 ∉ A) (h23 : 23 ∉ A) (h24 : 24 ∉ A) : CT ck nc o2 := fun i hi => by rw [f.2 22 h22, f.2 23 h23, f.2 24 h24]; exact C i hi
theorem m_rkT (hw : ∀ m, m < nm → MkWF tb nc m) (hn : nm ≤ 30) {o : Ob} {t m : Nat} {R : List Nd} {Post : Ob → Prop} (T : HT tb o) (ht : t < 5) (hm : m < nm) (hc : CF tb R [some m]) (hr : RowM o t R) (k : ∀ o2, Fm rkS rkA o o2 → RkD o2 (evR tb R) (sgC (cenc tb R)) → Post o2) : w_X10_reckon (nI t) 0 (o.2.2 8 t) o Post := by
  have hB := CF_BN hw hn hm hc
  obtain ⟨b1, b2, b3⟩ := CF_b1 hn hw hc hm hB
  have h := m_reckon hw hn (p := 0) T hc hB hr.nd ht (by omega) (by omega) b2 (by have := sgC_len (cenc tb R); omega) k
  rw [Nat.zero_add, ← hr.1] at h
  exact h
theorem c_gath (hw : ∀ m, m < nm → MkWF tb nc m) (hn : nm ≤ 30) {m : Nat} {R : List Nd} {sn tr : Ob} {Post : Ob → Ob → Prop} (hm : m < nm) (hc : CF tb R [some m]) (T : TreeC sn (cenc tb R)) (k : ∀ sn2 tr2, TreeC sn2 (cenc tb R) → LvC tr2 (evR tb R) → Post sn2 tr2) : w_X8_gather 0 (sn.2.1 6) sn tr Post := by
  have hB := CF_BN hw hn hm hc
  obtain ⟨b1, b2, b3⟩ := CF_b1 hn hw hc hm hB
  have hev := evC_cenc hw R _ hc hB
  have h := c_gather (p := 0) (z := (cenc tb R).length) (lv := tr) (Post := Post) T.st T.1 (by omega) T.2.1 (by rw [← evC_len, hev]; exact b2) (maps_ok hw R hB) (fun b2 lv2 f L => k b2 lv2 (T.keep f (by decide) no5) (by rw [← hev]; exact L))
  rw [Nat.zero_add, ← T.1] at h
  exact h
/-- the reference: a payment, the leaves, the check -/
theorem m_prr (hw : ∀ m, m < nm → MkWF tb nc m) (hn : nm ≤ 30) (hnc : nc ≤ 40) {o : Ob} {t m b e : Nat} {R : List Nd} {P : Int32 → Ob → Prop} (hb : b < nc) (T : HT tb o) (C : CT ck nc o) (ht : t < 5) (hm : m < nm) (hc : CF tb R [some m]) (hr : RowM o t R) (h34 : o.2.1 34 = nI (e + 1)) (k : ∀ o2, Fr ([34] ++ (rkS ++ runS)) (rkA ++ [25, 26, 27]) o o2 → o2.2.1 34 = nI e → P (mV (vdL ck tb R b)) o2) : ∀ X : Ob, X = (o.1, upd o.2.1 34 (o.2.1 34 - 1), o.2.2) → w_X10_reckon (nI t) 0 (o.2.2 8 t) X (fun o_8 => w_X10_result (nI b) o_8 P) := by
  intro X hX
  have x1 : X.2.1 = upd o.2.1 34 (o.2.1 34 - 1) := by rw [hX]
  have x2 : X.2.2 = o.2.2 := by rw [hX]
  have F : Fr [34] [] o X := ⟨fun k hk => by rw [x1, pk_un (fun z => hk (by subst z; decide))], fun k _ => by rw [x2]⟩
  have x34 : X.2.1 34 = nI e := by rw [x1, pk_us, h34, nI_pred]
  obtain ⟨b1, b2, b3⟩ := CF_b1 hn hw hc hm (CF_BN hw hn hm hc)
  rw [← x2]
  refine m_rkT hw hn (F.ht T (fun _ _ => List.not_mem_nil)) ht hm hc (hr.of x2) (fun o2 f2 d2 => ?_)
  refine m_result (ck := ck) (fun i hi => ?_) hnc hb (d2.g b2) (fun o3 f3 => ?_)
  · exact (f2.2.ct (F.ct C List.not_mem_nil List.not_mem_nil List.not_mem_nil) (by decide) (by decide) (by decide)) i hi
  · refine k o3 ((F.mono (fun k hk => List.mem_append_left _ hk) (fun k hk => absurd hk List.not_mem_nil)).tr ((f2.2.mono (fun k hk => List.mem_append_right _ (List.mem_append_left _ hk)) (fun k hk => List.mem_append_left _ hk)).tr (f3.2.mono (fun k hk => List.mem_append_right _ (List.mem_append_right _ hk)) (fun k hk => List.mem_append_right _ hk)))) ?_
    rw [f3.2.1 34 (by decide), f2.2.1 34 (by decide)]; exact x34
def ShC (ck pr : Nat → Ob) (tb : Tb) (nc q : Nat) (R : List Nd) (i d e : Nat) (a3 a4 : Int32) (R' : List Nd) (e' : Nat) (b3 b4 : Int32) : Prop := ∃ N : Nat, ∀ (Post : Ob → Ob → Ob → Ob → Ob → Ob → Ob → Ob → Ob → Ob → Prop) (x sk sl sb sn fl tr j mc md : Ob) (p : Nat), p + e ≤ 1500 → q < (x.2.1 4).toNatClampNeg → sk.2.1 4 = nI i → sk.2.1 5 = nI d → TreeC sb (cenc tb R) → TreeC fl (cenc tb R) → JC nc e j → x.2.2 8 3 = a3 → x.2.2 8 4 = a4 → (∀ x2 sk2 sl2 sb2 sn2 fl2 tr2 j2 mc2 md2, xF [3, 4] x x2 → x2.2.2 8 3 = b3 → x2.2.2 8 4 = b4 → TreeC fl2 (cenc tb R') → JC nc e' j2 → Post x2 sk2 sl2 sb2 sn2 fl2 tr2 j2 mc2 md2) → w_X9_shrink_L13 ck pr q Post N (nI p) x sk sl sb sn fl tr j mc md
def ShR (ck : Nat → Ob) (tb : Tb) (nm nc b : Nat) (R : List Nd) (s : Nat × Bool) (ch e : Nat) (a3 a4 : Int32) (R' : List Nd) (e' : Nat) (b3 b4 : Int32) : Prop := ∃ N : Nat, ∀ (Post : Ob → Prop) (o : Ob), BS tb nm nc o 2 R → CT ck nc o → o.2.1 42 = nI s.1 → o.2.1 43 = b2i s.2 → o.2.1 44 = nI ch → o.2.1 34 = nI e → o.2.1 54 = a3 → o.2.1 55 = a4 → (∀ o2, skF o o2 → o2.2.1 34 = nI e' → RowM o2 2 R' → o2.2.1 54 = b3 → o2.2.1 55 = b4 → Post o2) → w_X10_shrink_L5 (nI b) Post N o
set_option maxHeartbeats 2000000 in
theorem shr_all (hw : ∀ m, m < nm → MkWF tb nc m) (hn : nm ≤ 30) (hck : ∀ i, i < nc → CkWF (ck i) i) (hnc : nc ≤ 40) {pr : Nat → Ob} {m0 q b : Nat} (hm0 : m0 < nm) (hb : b < nc) (pb : (pr q).2.1 1 = nI b) : ∀ (E : Nat) (R : List Nd) (i d e : Nat) (s : Nat × Bool) (ch : Nat) (a3 a4 : Int32), e < E → e ≤ 1500 → CF tb R [some m0] → RelS tb nm nc m0 R i d s ch → d ≤ 600 → ∃ (R' : List Nd) (e' : Nat) (b3 b4 : Int32), e' ≤ e ∧ CF tb R' [some m0] ∧ ShC ck pr tb nc q R i d e a3 a4 R' e' b3 b4 ∧ ShR ck tb nm nc b R s ch e a3 a4 R' e' b3 b4 := by
  intro E
  induction E with
  | zero => intro R i d e s ch a3 a4 hE; exact absurd hE (Nat.not_lt_zero _)
  | succ E ih =>
    intro R i d e s ch a3 a4 hE he hcR hrel hd
    have hB := CF_BN hw hn hm0 hcR
    obtain ⟨hl, -⟩ := CF_b1 hn hw hcR hm0 hB
    obtain ⟨r, R1, i1, d1, s1, ch1, e1, g1, g2, g3, ⟨n1, g4⟩, ⟨n2, g5⟩⟩ := adv_all hw hn hck hnc hm0 (show (2 : Nat) ≠ 3 by decide) hcR _ i d e s ch (Nat.le_refl _) he hd hrel
    have hMM : MM tb R i d ≤ 1000000 := by
      unfold MM
      have : ((cenc tb R).length - i) * 1024 ≤ 744 * 1024 := Nat.mul_le_mul (by omega) (Nat.le_refl _)
      exact Nat.le_trans (Nat.add_le_add this (Nat.sub_le 1024 d)) (by decide)
    have plt : ∀ p, p + e ≤ 1500 → ¬ (1500 : Int32) < nI p := fun p hp => by
      rw [show (1500 : Int32) = nI 1500 from rfl, nI_ltI (by omega) (by omega)]; omega
    by_cases r1 : r = 1
    · subst r1
      obtain ⟨hcR1, rel1, hd1⟩ := g3 rfl
      cases e1 with
      | zero =>
        refine ⟨R, 0, a3, a4, Nat.zero_le _, hcR, ⟨1, ?_⟩, ⟨1, ?_⟩⟩
        · intro Post x sk sl sb sn fl tr j mc md p hp hq h4 h5 hT hF hj x3 x4 K
          refine ⟨fun z => absurd z (plt p hp), fun _ => ⟨n1, g4 0 sk sl sb sn j mc md _ (by omega) h4 h5 hT hj (fun sk2 sl2 sn2 j2 mc2 md2 u1 u2 => ⟨fun z => absurd rfl z, fun _ => c_payN u1 ⟨rfl, ⟨fun z => absurd rfl z, fun _ => K x sk2 sl2 sb sn2 fl tr j2 mc2 md2 xF.rf x3 x4 hF u1⟩⟩⟩)⟩⟩
        · intro Post o S C h42 h43 h44 h34 h54 h55 K
          refine ⟨n2, g5 o _ S C h42 h43 h44 h34 (fun o2 A u1 u2 => ⟨fun z => absurd rfl z, fun _ => ⟨fun z => absurd (by rw [u1]; rfl) z, fun _ => K o2 A.skF u1 (S.2.2.1.keep (A.2 2 (by omega) (by omega))) ((A.1.1 54 (by decide)).trans h54) ((A.1.1 55 (by decide)).trans h55)⟩⟩)⟩
      | succ e1 =>
        have vs : VS (vdL ck tb R1 b) := vF_VS hck hnc b hb
        obtain ⟨v1, v2⟩ := VS_1 vs
        by_cases vv : vdL ck tb R1 b = 1
        · obtain ⟨R', e', b3, b4, q1, q2, ⟨N1, q3⟩, ⟨N2, q4⟩⟩ := ih R i1 d1 e1 s1 ch1 a3 a4 (by omega) (by omega) hcR rel1 hd1
          refine ⟨R', e', b3, b4, by omega, q2, ⟨N1 + 1, ?_⟩, ⟨N2 + 1, ?_⟩⟩
          · intro Post x sk sl sb sn fl tr j mc md p hp hq h4 h5 hT hF hj x3 x4 K
            refine ⟨fun z => absurd z (plt p hp), fun _ => ⟨n1, g4 0 sk sl sb sn j mc md _ (by omega) h4 h5 hT hj (fun sk2 sl2 sn2 j2 mc2 md2 u1 u2 => ⟨fun z => absurd rfl z, fun _ => c_payY u1 (by omega) (fun j3 hj3 => ⟨hj3.1.trans u1.1.symm, ⟨fun _ => c_gath hw hn hm0 hcR1 (u2 rfl).2.2 (fun sn3 tr3 T3 L3 => ⟨hq, ?_⟩), fun z => absurd z (by decide)⟩⟩)⟩)⟩⟩
            rw [pb]
            refine c_verdict hck hnc hb hj3.1 L3.f (fun j4 mc4 md4 fj => jn_mk ⟨fun _ => ?_, fun z => absurd vv z⟩)
            rw [nI_1]
            exact q3 Post x sk2 sl2 sb sn3 fl tr3 j4 mc4 md4 (p + 1) (by omega) hq (u2 rfl).1 (u2 rfl).2.1 hT hF ⟨(fj.2.1 1 (by simp)).trans hj3.1, (fj.2.1 2 (by simp)).trans hj3.2⟩ x3 x4 K
          · intro Post o S C h42 h43 h44 h34 h54 h55 K
            refine ⟨n2, g5 o _ S C h42 h43 h44 h34 (fun o2 A u1 u2 => ⟨fun z => absurd rfl z, fun _ => ⟨fun _ => ?_, fun z => absurd z (by rw [u1]; exact nI_ne0 (by omega) (by omega))⟩⟩)⟩
            obtain ⟨w42, w43, w44, wr⟩ := u2 rfl
            have S2 := A.bs (by decide) S
            have C2 := A.ct C
            refine m_prr (t := 3) hw hn hnc hb S2.1 C2 (by omega) hm0 hcR1 wr u1 (fun o3 F3 w34 => jn_mk ⟨fun _ => ?_, fun z => absurd (v1.mpr vv) z⟩) _ rfl
            have sh3 : skF o2 o3 := skF.of F3 (by decide) (by decide) (by decide) (by decide) (by decide)
            refine q4 Post o3 ⟨F3.ht S2.1 (by decide), by omega, S2.2.2.1.keep (RK.of_fr F3 (by decide) (by decide) (by decide)), (F3.1 41 (by decide)).trans S2.2.2.2⟩ (F3.ct C2 (by decide) (by decide) (by decide)) ((F3.1 42 (by decide)).trans w42) ((F3.1 43 (by decide)).trans w43) ((F3.1 44 (by decide)).trans w44) w34 (((F3.1 54 (by decide)).trans (A.1.1 54 (by decide))).trans h54) (((F3.1 55 (by decide)).trans (A.1.1 55 (by decide))).trans h55) (fun o4 k1 k2 k3 k4 k5 => K o4 (A.skF.tr (sh3.tr k1)) k2 k3 k4 k5)
        · obtain ⟨R', e', b3, b4, q1, q2, ⟨N1, q3⟩, ⟨N2, q4⟩⟩ := ih R1 0 0 e1 (0, false) 0 (a3 + 1) (-(vdL ck tb R1 b)) (by omega) (by omega) hcR1 (rel0 hw hn hm0 hcR1) (by omega)
          refine ⟨R', e', b3, b4, by omega, q2, ⟨N1 + 1, ?_⟩, ⟨N2 + 1, ?_⟩⟩
          · intro Post x sk sl sb sn fl tr j mc md p hp hq h4 h5 hT hF hj x3 x4 K
            refine ⟨fun z => absurd z (plt p hp), fun _ => ⟨n1, g4 0 sk sl sb sn j mc md _ (by omega) h4 h5 hT hj (fun sk2 sl2 sn2 j2 mc2 md2 u1 u2 => ⟨fun z => absurd rfl z, fun _ => c_payY u1 (by omega) (fun j3 hj3 => ⟨hj3.1.trans u1.1.symm, ⟨fun _ => c_gath hw hn hm0 hcR1 (u2 rfl).2.2 (fun sn3 tr3 T3 L3 => ⟨hq, ?_⟩), fun z => absurd z (by decide)⟩⟩)⟩)⟩⟩
            rw [pb]
            refine c_verdict hck hnc hb hj3.1 L3.f (fun j4 mc4 md4 fj => jn_mk ⟨fun z => absurd z vv, fun _ => c_copy T3 (fun fl4 T4 => c_copy T4 (fun sb5 T5 => ?_))⟩)
            rw [nI_1]
            have key : ∀ X : Ob, X = (x.1, x.2.1, (sa (sa x.2.2 8 (upd (x.2.2 8) (3 : Int32).toNatClampNeg (((x.2.2 8) (3 : Int32).toNatClampNeg) + 1))) 8 (upd (upd (x.2.2 8) (3 : Int32).toNatClampNeg (((x.2.2 8) (3 : Int32).toNatClampNeg) + 1)) (4 : Int32).toNatClampNeg (-(vdL ck tb R1 b))))) → w_X9_shrink_L13 ck pr q Post N1 (nI (p + 1)) X (sk2.1, (upd (upd sk2.2.1 4 ((0 : Int32))) 5 ((0 : Int32))), sk2.2.2) sl2 sb5 sn3 fl4 tr3 j4 mc4 md4 := by
              intro X hX
              have y1 : X.2.1 = x.2.1 := by rw [hX]
              have y2 : X.2.2 = (sa (sa x.2.2 8 (upd (x.2.2 8) 3 (x.2.2 8 3 + 1))) 8 (upd (upd (x.2.2 8) 3 (x.2.2 8 3 + 1)) 4 (-(vdL ck tb R1 b)))) := by rw [hX]; rfl
              have y8 : X.2.2 8 = upd (upd (x.2.2 8) 3 (x.2.2 8 3 + 1)) 4 (-(vdL ck tb R1 b)) := by rw [y2, sa_us]
              have fx : xF [3, 4] x X := ⟨y1, fun g hg => by rw [y2, sa_ne hg, sa_ne hg], fun i hi => by rw [y8, pk_un (fun z => hi (by subst z; decide)), pk_un (fun z => hi (by subst z; decide))]⟩
              refine q3 Post X _ sl2 sb5 sn3 fl4 tr3 j4 mc4 md4 (p + 1) (by omega) (by rw [y1]; exact hq) ?_ ?_ T5 T4 ⟨(fj.2.1 1 (by simp)).trans hj3.1, (fj.2.1 2 (by simp)).trans hj3.2⟩ ?_ ?_ (fun x2' sk3 sl3 sb3 sn3' fl3 tr3' j3' mc3 md3 k1 k2 k3 k4 k5 => K x2' sk3 sl3 sb3 sn3' fl3 tr3' j3' mc3 md3 (fx.tr k1) k2 k3 k4 k5)
              · show upd (upd sk2.2.1 4 ((0 : Int32))) 5 ((0 : Int32)) 4 = nI 0
                rw [pk_un (by decide), pk_us]; rfl
              · show upd (upd sk2.2.1 4 ((0 : Int32))) 5 ((0 : Int32)) 5 = nI 0
                rw [pk_us]; rfl
              · rw [y8, pk_un (by decide), pk_us, x3]
              · rw [y8, pk_us]
            exact key _ rfl
          · intro Post o S C h42 h43 h44 h34 h54 h55 K
            refine ⟨n2, g5 o _ S C h42 h43 h44 h34 (fun o2 A u1 u2 => ⟨fun z => absurd rfl z, fun _ => ⟨fun _ => ?_, fun z => absurd z (by rw [u1]; exact nI_ne0 (by omega) (by omega))⟩⟩)⟩
            obtain ⟨w42, w43, w44, wr⟩ := u2 rfl
            have S2 := A.bs (by decide) S
            have C2 := A.ct C
            refine m_prr (t := 3) hw hn hnc hb S2.1 C2 (by omega) hm0 hcR1 wr u1 (fun o3 F3 w34 => jn_mk ⟨fun z => absurd (v1.mp z) vv, fun _ => ?_⟩) _ rfl
            have sh3 : skF o2 o3 := skF.of F3 (by decide) (by decide) (by decide) (by decide) (by decide)
            have r3 := wr.keep (RK.of_fr F3 (by decide) (by decide) (by decide))
            refine m_copyRow (t := 3) (u := 2) (by omega) (by omega) (by omega) r3 (fun o4 f4 rk4 r4 => ?_)
            have sh4 : skF o3 o4 := ⟨f4.2.mono (by decide) (by decide), fun t ht => rk4 t (by omega)⟩
            have T4 : HT tb o4 := f4.2.ht (F3.ht S2.1 (by decide)) (by decide)
            have C4 : CT ck nc o4 := f4.2.ct (F3.ct C2 (by decide) (by decide) (by decide)) (by decide) (by decide) (by decide)
            have w54 : o4.2.1 54 = a3 := by rw [f4.2.1 54 (by decide), F3.1 54 (by decide), A.1.1 54 (by decide)]; exact h54
            have fin : ∀ z : Int32, z = -(vdL ck tb R1 b) → ∀ X : Ob, X = (o4.1, upd (upd (upd (upd (upd (upd o4.2.1 54 (o4.2.1 54 + 1)) 55 z) 41 2) 42 0) 43 0) 44 0, o4.2.2) → w_X10_shrink_L5 (nI b) Post N2 X := by
              intro z hz X hX
              have y1 : X.2.1 = upd (upd (upd (upd (upd (upd o4.2.1 54 (o4.2.1 54 + 1)) 55 z) 41 2) 42 0) 43 0) 44 0 := by rw [hX]
              have y2 : X.2.2 = o4.2.2 := by rw [hX]
              obtain ⟨z1, z2, z3, z4, z5⟩ := bg1 (f := upd (upd o4.2.1 54 (o4.2.1 54 + 1)) 55 z) (t := 2)
              have F5 : Fr [41, 42, 43, 44, 54, 55] [] o4 X := ⟨fun k hk => by
                rw [y1, z5 k (fun y => hk (by subst y; decide)) (fun y => hk (by subst y; decide)) (fun y => hk (by subst y; decide)) (fun y => hk (by subst y; decide)), pk_un (fun y => hk (by subst y; decide)), pk_un (fun y => hk (by subst y; decide))], fun k _ => by rw [y2]⟩
              have sh5 : skF o4 X := skF.of F5 (by decide) (by decide) (by decide) (by decide) (by decide)
              refine q4 Post X ⟨F5.ht T4 (by decide), by omega, r4.of y2, by rw [y1, z1]; rfl⟩ (F5.ct C4 (by decide) (by decide) (by decide)) (by rw [y1, z2]) (by rw [y1, z3]) (by rw [y1, z4]) ?_ ?_ ?_ (fun o6 k1 k2 k3 k4 k5 => K o6 (A.skF.tr (sh3.tr (sh4.tr (sh5.tr k1)))) k2 k3 k4 k5)
              · rw [F5.1 34 (by decide), f4.2.1 34 (by decide)]; exact w34
              · rw [y1, z5 54 (by decide) (by decide) (by decide) (by decide), pk_un (by decide), pk_us, w54]
              · rw [y1, z5 55 (by decide) (by decide) (by decide) (by decide), pk_us]; exact hz
            refine jn_mk (jn_mk ⟨fun c => ?_, fun c => ?_⟩)
            · exact fin _ ((v2 vv).1 c) _ rfl
            · exact fin _ ((v2 vv).2 c) _ rfl
    · have ne : ¬ (if r = 0 then (-9 : Int32) else r) = 1 := by
        by_cases z : r = 0
        · rw [if_pos z]; decide
        · rw [if_neg z]; exact r1
      refine ⟨R, e1, a3, a4, g1, hcR, ⟨1, ?_⟩, ⟨1, ?_⟩⟩
      · intro Post x sk sl sb sn fl tr j mc md p hp hq h4 h5 hT hF hj x3 x4 K
        refine ⟨fun z => absurd z (plt p hp), fun _ => ⟨n1, g4 0 sk sl sb sn j mc md _ (by omega) h4 h5 hT hj (fun sk2 sl2 sn2 j2 mc2 md2 u1 u2 => ⟨fun _ => K x sk2 sl2 sb sn2 fl tr j2 mc2 md2 xF.rf x3 x4 hF u1, fun z => absurd z ne⟩)⟩⟩
      · intro Post o S C h42 h43 h44 h34 h54 h55 K
        refine ⟨n2, g5 o _ S C h42 h43 h44 h34 (fun o2 A u1 u2 => ⟨fun _ => K o2 A.skF u1 (S.2.2.1.keep (A.2 2 (by omega) (by omega))) ((A.1.1 54 (by decide)).trans h54) ((A.1.1 55 (by decide)).trans h55), fun z => absurd z r1⟩)⟩
end
