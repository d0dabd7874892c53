/-! RUN: one case, both sides -/
abbrev PR : Type := Int32 → Ob → Ob → Ob → Ob → Ob → Ob → Ob → Ob → Ob → Ob → Ob → Ob → Ob → Ob → Prop
def XA (x : Ob) (A : Nat → Int32) : Prop := ∀ i, 1 ≤ i → i < 8 → x.2.2 8 i = A i
def OA (o : Ob) (A : Nat → Int32) : Prop := o.2.1 51 = A 1 ∧ o.2.1 53 = A 2 ∧ o.2.1 54 = A 3 ∧ o.2.1 55 = A 4 ∧ ∀ i, i < 3 → o.2.2 56 i = A (5 + i)
theorem XA.of {x : Ob} {A : Nat → Int32} (h1 : x.2.2 8 1 = A 1) (h2 : x.2.2 8 2 = A 2) (h3 : x.2.2 8 3 = A 3) (h4 : x.2.2 8 4 = A 4) (h5 : ∀ i, i < 3 → x.2.2 8 (5 + i) = A (5 + i)) : XA x A := by
  intro i a b
  have : i = 1 ∨ i = 2 ∨ i = 3 ∨ i = 4 ∨ i = 5 + (i - 5) := by omega
  rcases this with rfl | rfl | rfl | rfl | e
  · exact h1
  · exact h2
  · exact h3
  · exact h4
  · rw [e]; exact h5 _ (by omega)
theorem OA.keep {o o2 : Ob} {A : Nat → Int32} {S B : List Nat} (h : OA o A) (f : Fr S B o o2) (h1 : 51 ∉ S) (h2 : 53 ∉ S) (h3 : 54 ∉ S) (h4 : 55 ∉ S) (h5 : 56 ∉ B) : OA o2 A := ⟨(f.1 51 h1).trans h.1, (f.1 53 h2).trans h.2.1, (f.1 54 h3).trans h.2.2.1, (f.1 55 h4).trans h.2.2.2.1, fun i hi => by rw [f.2 56 h5]; exact h.2.2.2.2 i hi⟩
noncomputable def A1 (ck : Nat → Ob) (n : Nat) (f : Nat → Int32) (nl : Nat) (lb : Nat → Nat) (A : Nat → Int32) (i : Nat) : Int32 := if i = 1 then A 1 + 1 else if 5 ≤ i then LA ck n f nl lb (fun l => A (5 + l)) (i - 5) else A i
def A2 (B : Nat → Int32) (p b3 b4 : Int32) (i : Nat) : Int32 := if i = 2 then p else if i = 3 then b3 else if i = 4 then b4 else B i
theorem A1_s {ck : Nat → Ob} {n : Nat} {f : Nat → Int32} {nl : Nat} {lb : Nat → Nat} {A : Nat → Int32} : A1 ck n f nl lb A 1 = A 1 + 1 ∧ A1 ck n f nl lb A 2 = A 2 ∧ A1 ck n f nl lb A 3 = A 3 ∧ A1 ck n f nl lb A 4 = A 4 ∧ ∀ i, A1 ck n f nl lb A (5 + i) = LA ck n f nl lb (fun l => A (5 + l)) i := by
  refine ⟨?_, ?_, ?_, ?_, fun i => ?_⟩
  · unfold A1; rw [if_pos rfl]
  · unfold A1; rw [if_neg (by decide), if_neg (by decide)]
  · unfold A1; rw [if_neg (by decide), if_neg (by decide)]
  · unfold A1; rw [if_neg (by decide), if_neg (by decide)]
  · unfold A1; rw [if_neg (by omega), if_pos (by omega), Nat.add_sub_cancel_left]
theorem A2_s {B : Nat → Int32} {p b3 b4 : Int32} : A2 B p b3 b4 1 = B 1 ∧ A2 B p b3 b4 2 = p ∧ A2 B p b3 b4 3 = b3 ∧ A2 B p b3 b4 4 = b4 ∧ ∀ i, A2 B p b3 b4 (5 + i) = B (5 + i) := by
  refine ⟨?_, ?_, ?_, ?_, fun i => ?_⟩
  · unfold A2; rw [if_neg (by decide), if_neg (by decide), if_neg (by decide)]
  · unfold A2; rw [if_pos rfl]
  · unfold A2; rw [if_neg (by decide), if_pos rfl]
  · unfold A2; rw [if_neg (by decide), if_neg (by decide), if_pos rfl]
  · unfold A2; rw [if_neg (by omega), if_neg (by omega), if_neg (by omega)]
def raS : List Nat := [50, 51, 52, 53] ++ (mkS ++ shS)
def raA : List Nat := [56] ++ (mkA ++ shA)
def raF (o o2 : Ob) : Prop := Fr raS raA o o2 ∧ RK 0 o o2
theorem raF.rf {o : Ob} : raF o o := ⟨Fr.rf, RK.rf⟩
theorem raF.tr {o o2 o3 : Ob} (a : raF o o2) (b : raF o2 o3) : raF o o3 := ⟨a.1.tr b.1, a.2.tr b.2⟩
theorem raF.of {S A : List Nat} {o o2 : Ob} (f : Fr S A o o2) (hS : ∀ k ∈ S, k ∈ raS) (hA : ∀ k ∈ A, k ∈ raA) (h8 : 8 ∉ A) (h9 : 9 ∉ A) (h10 : 10 ∉ A) : raF o o2 := ⟨f.mono hS hA, RK.of_fr f h8 h9 h10⟩
theorem skF.ra {o o2 : Ob} (a : skF o o2) : raF o o2 := ⟨a.1.mono (by decide) (by decide), a.2 0 (by omega)⟩
def PrO (o : Ob) (q m b nl : Nat) (lb : Nat → Nat) : Prop := o.2.2 46 q = nI m ∧ o.2.2 47 q = nI b ∧ o.2.2 48 q = nI nl ∧ ∀ l, l < nl → o.2.2 49 (3 * q + l) = nI (lb l)
theorem PrO.keep {o o2 : Ob} {q m b nl : Nat} {lb : Nat → Nat} {S A : List Nat} (h : PrO o q m b nl lb) (f : Fr S A o o2) (h6 : 46 ∉ A) (h7 : 47 ∉ A) (h8 : 48 ∉ A) (h9 : 49 ∉ A) : PrO o2 q m b nl lb := by
  unfold PrO
  rw [f.2 46 h6, f.2 47 h7, f.2 48 h8, f.2 49 h9]; exact h
section
variable {ck mk pr : Nat → Ob} {tb : Tb} {nm nc : Nat}
def CaC (ck mk pr : Nat → Ob) (tb : Tb) (nm nc q : Nat) (s : Int64) (w : Int32) (p e : Nat) (A : Nat → Int32) (st e' : Nat) (A' : Nat → Int32) (R1 R2 : List Nd) : Prop := ∀ (J : PR) (x k kt kl j mc md tr ff fl sk sl sb sn : Ob), k.2.1 1 = nI nm → ¬ kt.2.1 6 < 0 → JC nc e j → XA x A → q < (x.2.1 4).toNatClampNeg → (∀ x2 k2 kt2 kl2 j2 mc2 md2 tr2 ff2 fl2 sk2 sl2 sb2 sn2, xF [1, 2, 3, 4, 5, 6, 7] x x2 → k2.2.1 1 = nI nm → ¬ kt2.2.1 6 < 0 → JC nc e' j2 → XA x2 A' → (st = 1 → TreeC ff2 (cenc tb R1) ∧ TreeC fl2 (cenc tb R2)) → J (nI st) x2 k2 kt2 kl2 j2 mc2 md2 tr2 ff2 fl2 sk2 sl2 sb2 sn2) → w_X9_tryCase ck mk pr q s w x k kt kl j mc md tr ff fl (fun (r14 : Int32) (x_15 : Ob) (k_16 : Ob) (kt_17 : Ob) (kl_18 : Ob) (j_19 : Ob) (mc_20 : Ob) (md_21 : Ob) (tr_22 : Ob) (ff_23 : Ob) (fl_24 : Ob) => jn (fun J99 : Ob → Ob → Ob → Ob → Ob → Ob → Ob → Ob → Ob → Ob → Ob → Ob → Ob → Ob → Prop => ((¬ r14 = 1) → J99 x_15 k_16 kt_17 kl_18 j_19 mc_20 md_21 tr_22 ff_23 fl_24 sk sl sb sn) ∧ ((r14 = 1) → w_X9_shrink ck pr q ((x_15.1, x_15.2.1, (sa x_15.2.2 8 (upd (x_15.2.2 8) (2 : Int32).toNatClampNeg (nI p))))) sk sl sb sn fl_24 tr_22 j_19 mc_20 md_21 (fun (x_27 : Ob) (sk_28 : Ob) (sl_29 : Ob) (sb_30 : Ob) (sn_31 : Ob) (fl_32 : Ob) (tr_33 : Ob) (j_34 : Ob) (mc_35 : Ob) (md_36 : Ob) => J99 x_27 k_16 kt_17 kl_18 j_34 mc_35 md_36 tr_33 ff_23 fl_32 sk_28 sl_29 sb_30 sn_31))) (fun (x_99 : Ob) (k_99 : Ob) (kt_99 : Ob) (kl_99 : Ob) (j_99 : Ob) (mc_99 : Ob) (md_99 : Ob) (tr_99 : Ob) (ff_99 : Ob) (fl_99 : Ob) (sk_99 : Ob) (sl_99 : Ob) (sb_99 : Ob) (sn_99 : Ob) => J r14 x_99 k_99 kt_99 kl_99 j_99 mc_99 md_99 tr_99 ff_99 fl_99 sk_99 sl_99 sb_99 sn_99))
def CaR (ck : Nat → Ob) (tb : Tb) (nm nc q m b nl : Nat) (lb : Nat → Nat) (s : Int64) (w : Int32) (p e : Nat) (A : Nat → Int32) (st e' : Nat) (A' : Nat → Int32) (R1 R2 : List Nd) : Prop := ∀ (K148 : Int32 → Ob → Prop) (K252 Nx : Ob → Prop) (Post : Int32 → Ob → Prop) (f4 : Int32) (f2 : Int64) (o : Ob), HT tb o → CT ck nc o → PrO o q m b nl lb → o.2.1 34 = nI e → OA o A → o.2.1 50 = 0 → o.2.1 52 = 0 → (∀ o2, raF o o2 → o2.2.1 34 = nI e' → OA o2 A' → (st = 0 → o2.2.1 50 = 0 → o2.2.1 52 = 0 → Nx o2) ∧ (st = 1 → o2.2.1 50 = 1 → o2.2.1 52 = 1 → RowM o2 1 R1 → RowM o2 2 R2 → Nx o2) ∧ (st = 2 → o2.2.1 50 = 0 → o2.2.1 52 = 0 → K148 (-5) o2) ∧ (st = 3 → o2.2.1 50 = 0 → o2.2.1 52 = 0 → K148 (-6) o2 ∧ K252 o2)) → w_X10_makes (nI m) s w o (fun (r13 : Int32) (o_14 : Ob) => ((0 ≤ r13) → w_X10_reckon  (4 : Int32) (0 : Int32) ((o_14.2.2 8) (4 : Int32).toNatClampNeg) ((o_14.1, (upd o_14.2.1 51 (((o_14.2.1 51) + 1))), o_14.2.2)) (fun (o_17 : Ob) => ∃ n194, w_X10_run_L194 (nI q) f2 f4 w (nI b) (nI p) (fun (o_k245 : Ob) => ((¬ (o_k245.2.1 34) = 0) → w_X10_result  (nI b) ((o_k245.1, (upd o_k245.2.1 34 (((o_k245.2.1 34) - 1))), o_k245.2.2)) (fun (r27 : Int32) (o_28 : Ob) => jn (fun J335 : Ob → Prop => ((r27 = 1) → J335 o_28) ∧ (¬ (r27 = 1) → jn (fun J314 : Int32 → Ob → Prop => ((0 ≤ r27) → J314 0 ((o_28.1, (upd (upd (upd o_28.2.1 50 ((1 : Int32))) 52 ((1 : Int32))) 53 (nI p)), o_28.2.2))) ∧ (¬ (0 ≤ r27) → J314 (((-10)) - r27) ((o_28.1, (upd (upd (upd o_28.2.1 50 ((1 : Int32))) 52 ((1 : Int32))) 53 (nI p)), o_28.2.2)))) (fun (z_314 : Int32) (o_314 : Ob) => w_X10_copyRow  (4 : Int32) (1 : Int32) ((o_314.1, (upd o_314.2.1 55 z_314), o_314.2.2)) (fun (o_32 : Ob) => w_X10_copyRow  (4 : Int32) (2 : Int32) o_32 (fun (o_34 : Ob) => w_X10_shrink  (nI b) o_34 (fun (o_36 : Ob) => J335 o_36)))))) (fun (o_335 : Ob) => Nx o_335))) ∧ (((o_k245.2.1 34) = 0) → K252 o_k245)) Post n194 0 o_17)) ∧ (¬ (0 ≤ r13) → K148 r13 o_14))
set_option maxHeartbeats 4000000 in
theorem case_all (hw : ∀ m, m < nm → MkWF tb nc m) (hr : ∀ m, m < nm → MkRel tb (mk m) m) (hn : nm ≤ 30) (hck : ∀ i, i < nc → CkWF (ck i) i) (hnc : nc ≤ 40) {q m b nl : Nat} {lb : Nat → Nat} (hq20 : q < 20) (hm : m < nm) (hb : b < nc) (hnl : nl ≤ 3) (pm : (pr q).2.1 0 = nI m) (pb : (pr q).2.1 1 = nI b) (p3 : (pr q).2.1 3 = nI nl) (plb : ∀ l, l < nl → lb l < nc ∧ (pr q).2.2 2 l = nI (lb l)) {w : Int32} {wn : Nat} (hwn : wn ≤ 24) (ew : w = nI wn) (s : Int64) (p e : Nat) (A : Nat → Int32) (he : e ≤ 1500) : ∃ (st e' : Nat) (A' : Nat → Int32) (R1 R2 : List Nd), e' ≤ e ∧ st < 4 ∧ (st = 1 → CF tb R1 [some m] ∧ CF tb R2 [some m]) ∧ CaC ck mk pr tb nm nc q s w p e A st e' A' R1 R2 ∧ CaR ck tb nm nc q m b nl lb s w p e A st e' A' R1 R2 := by
  obtain ⟨r, L, s2, e2, k1, k2, k3, g1, g2⟩ := mk_all hw hr hn hck hnc hwn ew (m + 1) m (Nat.lt_succ_self m) hm s e he
  have cl : r = 1 → (cenc tb L).length ≤ 744 ∧ L.length ≤ 744 := fun y => by
    obtain ⟨b1, b2, b3⟩ := CF_b1 hn hw (k3 y) hm (CF_BN hw hn hm (k3 y))
    exact ⟨b1, by omega⟩
  have XA1 : ∀ (n : Nat) (f : Nat → Int32) (x X x2 : Ob), XA x A → X.2.1 = x.2.1 → X.2.2 = sa x.2.2 8 (upd (x.2.2 8) 1 (x.2.2 8 1 + 1)) → xF [5, 6, 7] X x2 → (∀ i, i < 3 → x2.2.2 8 (5 + i) = LA ck n f nl lb (fun l => A (5 + l)) i) → XA x2 (A1 ck n f nl lb A) ∧ xF [1, 2, 3, 4, 5, 6, 7] x x2 := by
    intro n f x X x2 hA h1 h2 hf h5
    obtain ⟨s1, s2, s3, s4, s5⟩ := A1_s (ck := ck) (n := n) (f := f) (nl := nl) (lb := lb) (A := A)
    have X8 : X.2.2 8 = upd (x.2.2 8) 1 (x.2.2 8 1 + 1) := by rw [h2, sa_us]
    have fX : xF [1, 2, 3, 4, 5, 6, 7] x X := ⟨h1, fun g hg => by rw [h2, sa_ne hg], fun i hi => by rw [X8, pk_un (fun z => hi (by subst z; decide))]⟩
    refine ⟨XA.of ?_ ?_ ?_ ?_ (fun i hi => (h5 i hi).trans (s5 i).symm), fX.tr (hf.mono (by decide))⟩
    · rw [s1, hf.2.2 1 (by decide), X8, pk_us, hA 1 (by omega) (by omega)]
    · rw [s2, hf.2.2 2 (by decide), X8, pk_un (by decide), hA 2 (by omega) (by omega)]
    · rw [s3, hf.2.2 3 (by decide), X8, pk_un (by decide), hA 3 (by omega) (by omega)]
    · rw [s4, hf.2.2 4 (by decide), X8, pk_un (by decide), hA 4 (by omega) (by omega)]
  by_cases r1 : r = 1
  · have hcL := k3 r1
    obtain ⟨b1, b2, b3⟩ := CF_b1 hn hw hcL hm (CF_BN hw hn hm hcL)
    -- the reference up to the payment
    have refA : ∀ (K148 : Int32 → Ob → Prop) (K252 Nx : Ob → Prop) (Post : Int32 → Ob → Prop) (f4 : Int32) (f2 : Int64) (o : Ob), HT tb o → CT ck nc o → PrO o q m b nl lb → o.2.1 34 = nI e → OA o A → o.2.1 50 = 0 → o.2.1 52 = 0 → (∀ o4, raF o o4 → o4.2.1 34 = nI e2 → OA o4 (A1 ck (evR tb L).length (hg (evR tb L)) nl lb A) → o4.2.1 50 = 0 → o4.2.1 52 = 0 → RowM o4 4 L → HT tb o4 → CT ck nc o4 → LvG o4 (evR tb L).length (hg (evR tb L)) → ((fun (o_k245 : Ob) => ((¬ (o_k245.2.1 34) = 0) → w_X10_result  (nI b) ((o_k245.1, (upd o_k245.2.1 34 (((o_k245.2.1 34) - 1))), o_k245.2.2)) (fun (r27 : Int32) (o_28 : Ob) => jn (fun J335 : Ob → Prop => ((r27 = 1) → J335 o_28) ∧ (¬ (r27 = 1) → jn (fun J314 : Int32 → Ob → Prop => ((0 ≤ r27) → J314 0 ((o_28.1, (upd (upd (upd o_28.2.1 50 ((1 : Int32))) 52 ((1 : Int32))) 53 (nI p)), o_28.2.2))) ∧ (¬ (0 ≤ r27) → J314 (((-10)) - r27) ((o_28.1, (upd (upd (upd o_28.2.1 50 ((1 : Int32))) 52 ((1 : Int32))) 53 (nI p)), o_28.2.2)))) (fun (z_314 : Int32) (o_314 : Ob) => w_X10_copyRow  (4 : Int32) (1 : Int32) ((o_314.1, (upd o_314.2.1 55 z_314), o_314.2.2)) (fun (o_32 : Ob) => w_X10_copyRow  (4 : Int32) (2 : Int32) o_32 (fun (o_34 : Ob) => w_X10_shrink  (nI b) o_34 (fun (o_36 : Ob) => J335 o_36)))))) (fun (o_335 : Ob) => Nx o_335))) ∧ (((o_k245.2.1 34) = 0) → K252 o_k245))) o4) → w_X10_makes (nI m) s w o (fun (r13 : Int32) (o_14 : Ob) => ((0 ≤ r13) → w_X10_reckon  (4 : Int32) (0 : Int32) ((o_14.2.2 8) (4 : Int32).toNatClampNeg) ((o_14.1, (upd o_14.2.1 51 (((o_14.2.1 51) + 1))), o_14.2.2)) (fun (o_17 : Ob) => ∃ n194, w_X10_run_L194 (nI q) f2 f4 w (nI b) (nI p) (fun (o_k245 : Ob) => ((¬ (o_k245.2.1 34) = 0) → w_X10_result  (nI b) ((o_k245.1, (upd o_k245.2.1 34 (((o_k245.2.1 34) - 1))), o_k245.2.2)) (fun (r27 : Int32) (o_28 : Ob) => jn (fun J335 : Ob → Prop => ((r27 = 1) → J335 o_28) ∧ (¬ (r27 = 1) → jn (fun J314 : Int32 → Ob → Prop => ((0 ≤ r27) → J314 0 ((o_28.1, (upd (upd (upd o_28.2.1 50 ((1 : Int32))) 52 ((1 : Int32))) 53 (nI p)), o_28.2.2))) ∧ (¬ (0 ≤ r27) → J314 (((-10)) - r27) ((o_28.1, (upd (upd (upd o_28.2.1 50 ((1 : Int32))) 52 ((1 : Int32))) 53 (nI p)), o_28.2.2)))) (fun (z_314 : Int32) (o_314 : Ob) => w_X10_copyRow  (4 : Int32) (1 : Int32) ((o_314.1, (upd o_314.2.1 55 z_314), o_314.2.2)) (fun (o_32 : Ob) => w_X10_copyRow  (4 : Int32) (2 : Int32) o_32 (fun (o_34 : Ob) => w_X10_shrink  (nI b) o_34 (fun (o_36 : Ob) => J335 o_36)))))) (fun (o_335 : Ob) => Nx o_335))) ∧ (((o_k245.2.1 34) = 0) → K252 o_k245)) Post n194 0 o_17)) ∧ (¬ (0 ≤ r13) → K148 r13 o_14)) := by
      intro K148 K252 Nx Post f4 f2 o T C hP h34 hA h50 h52 K
      refine m_make g2 (hw m hm) (by omega) T C h34 (fun y => (cl y).2) (fun _ o2 F2 R2 e34 r4 => ⟨fun _ => ?_, fun z => absurd (by decide) z⟩) (fun y => absurd r1 y)
      have key : ∀ (Q : Ob → Prop) (X : Ob), X = (o2.1, upd o2.2.1 51 (o2.2.1 51 + 1), o2.2.2) → (∀ o3, Fr ([51] ++ rkS) rkA o2 o3 → o3.2.1 51 = A 1 + 1 → LvG o3 (evR tb L).length (hg (evR tb L)) → Q o3) → w_X10_reckon (nI 4) 0 (o2.2.2 8 4) X Q := by
        intro Q X hX hQ
        have x1 : X.2.1 = upd o2.2.1 51 (o2.2.1 51 + 1) := by rw [hX]
        have x2 : X.2.2 = o2.2.2 := by rw [hX]
        have F : Fr [51] [] o2 X := ⟨fun k hk => by rw [x1, pk_un (fun z => hk (by subst z; decide))], fun k _ => by rw [x2]⟩
        rw [← x2]
        refine m_rkT hw hn (F.ht (F2.ht T (by decide)) (by decide)) (by omega) hm hcL (r4.of x2) (fun o3 f3 d3 => hQ o3 ((F.mono (by decide) (by decide)).tr (f3.2.mono (by decide) (by decide))) ?_ (d3.g b2))
        rw [f3.2.1 51 (by decide), x1, pk_us, F2.1 51 (by decide), hA.1]
      refine key _ _ rfl (fun o3 F3 e51 L3 => ⟨nl + 1, ?_⟩)
      have T3 : HT tb o3 := F3.ht (F2.ht T (by decide)) (by decide)
      have C3 : CT ck nc o3 := F3.ct (F2.ct C (by decide) (by decide) (by decide)) (by decide) (by decide) (by decide)
      have P3 := (hP.keep F2 (by decide) (by decide) (by decide) (by decide)).keep F3 (by decide) (by decide) (by decide) (by decide)
      refine m_lab (A := fun l => A (5 + l)) hck hnc hq20 hnl (o0 := o3) (fun l hl => ⟨(plb l hl).1, P3.2.2.2 l hl⟩) P3.2.2.1 C3 L3 (fun o4 F4 hA4 => ?_) nl 0 o3 (by omega) Fr.rf (fun i hi => ?_)
      · obtain ⟨s1, s2, s3, s4, s5⟩ := A1_s (ck := ck) (n := (evR tb L).length) (f := hg (evR tb L)) (nl := nl) (lb := lb) (A := A)
        have ra2 : raF o o2 := ⟨F2.mono (by decide) (by decide), R2 0 (by omega)⟩
        have ra3 : raF o2 o3 := raF.of F3 (by decide) (by decide) (by decide) (by decide) (by decide)
        have ra4 : raF o3 o4 := raF.of F4 (by decide) (by decide) (by decide) (by decide) (by decide)
        refine K o4 (ra2.tr (ra3.tr ra4)) ?_ ⟨?_, ?_, ?_, ?_, fun i hi => (hA4 i hi).trans (s5 i).symm⟩ ?_ ?_ ((r4.keep (RK.of_fr F3 (by decide) (by decide) (by decide))).keep (RK.of_fr F4 (by decide) (by decide) (by decide))) (F4.ht T3 (by decide)) (F4.ct C3 (by decide) (by decide) (by decide)) ⟨by rw [F4.1 14 (by decide)]; exact L3.1, L3.2.1, fun i hi => by rw [F4.2 15 (by decide)]; exact L3.2.2 i hi⟩
        · rw [F4.1 34 (by decide), F3.1 34 (by decide)]; exact e34
        · rw [s1, F4.1 51 (by decide)]; exact e51
        · rw [s2, F4.1 53 (by decide), F3.1 53 (by decide), F2.1 53 (by decide)]; exact hA.2.1
        · rw [s3, F4.1 54 (by decide), F3.1 54 (by decide), F2.1 54 (by decide)]; exact hA.2.2.1
        · rw [s4, F4.1 55 (by decide), F3.1 55 (by decide), F2.1 55 (by decide)]; exact hA.2.2.2.1
        · rw [F4.1 50 (by decide), F3.1 50 (by decide), F2.1 50 (by decide)]; exact h50
        · rw [F4.1 52 (by decide), F3.1 52 (by decide), F2.1 52 (by decide)]; exact h52
      · rw [if_neg (Nat.not_lt_zero _), F3.2 56 (by decide), F2.2 56 (by decide)]
        exact hA.2.2.2.2 i hi
    -- the reference: the payment and the check
    have refB : ∀ (o4 : Ob) (e3 : Nat) (Q : Int32 → Ob → Prop), CT ck nc o4 → LvG o4 (evR tb L).length (hg (evR tb L)) → o4.2.1 34 = nI (e3 + 1) → (∀ o5, Fr ([34] ++ runS) [25, 26, 27] o4 o5 → o5.2.1 34 = nI e3 → Q (mV (vdL ck tb L b)) o5) → ∀ X : Ob, X = (o4.1, upd o4.2.1 34 (o4.2.1 34 - 1), o4.2.2) → w_X10_result (nI b) X Q := by
      intro o4 e3 Q C4 L4 h34 hQ X hX
      have x1 : X.2.1 = upd o4.2.1 34 (o4.2.1 34 - 1) := by rw [hX]
      have x2 : X.2.2 = o4.2.2 := by rw [hX]
      have F : Fr [34] [] o4 X := ⟨fun k hk => by rw [x1, pk_un (fun z => hk (by subst z; decide))], fun k _ => by rw [x2]⟩
      refine m_result (ck := ck) (F.ct C4 (by decide) (by decide) (by decide)) hnc hb (f := hg (evR tb L)) (n := (evR tb L).length) ⟨by rw [F.1 14 (by decide)]; exact L4.1, L4.2.1, fun i hi => by rw [x2]; exact L4.2.2 i hi⟩ (fun o5 f5 => hQ o5 ((F.mono (by decide) (by decide)).tr (f5.2.mono (by decide) (by decide))) ?_)
      rw [f5.2.1 34 (by decide), x1, pk_us, h34, nI_pred]
    -- the class up to the payment
    have claA : ∀ (J : PR) (x k kt kl j mc md tr ff fl sk sl sb sn : Ob), k.2.1 1 = nI nm → ¬ kt.2.1 6 < 0 → JC nc e j → XA x A → q < (x.2.1 4).toNatClampNeg → (∀ x2 k2 kt2 kl2 j2 mc2 md2 tr2, xF [1, 2, 3, 4, 5, 6, 7] x x2 → k2.2.1 1 = nI nm → ¬ kt2.2.1 6 < 0 → TreeC kt2 (cenc tb L) → LvC tr2 (evR tb L) → JC nc e2 j2 → XA x2 (A1 ck (evR tb L).length (hg (evR tb L)) nl lb A) → ((fun (x_k138 : Ob) (k_k138 : Ob) (kt_k138 : Ob) (kl_k138 : Ob) (j_k138 : Ob) (mc_k138 : Ob) (md_k138 : Ob) (tr_k138 : Ob) (ff_k138 : Ob) (fl_k138 : Ob) => w_X1_pay   j_k138 (fun (r31 : Int32) (j_32 : Ob) => (j_32.2.1 1 = j_k138.2.1 1) ∧ (((¬ r31 = 0) → q < (x_k138.2.1 4).toNatClampNeg ∧ (w_X1_verdict ck ((pr q).2.1 1) j_32 mc_k138 md_k138 tr_k138 (fun (r36 : Int32) (j_37 : Ob) (mc_38 : Ob) (md_39 : Ob) (tr_40 : Ob) => ((¬ r36 = 1) → w_X8_copy   ff_k138 kt_k138 (fun (ff_43 : Ob) (kt_44 : Ob) => w_X8_copy   fl_k138 kt_44 (fun (fl_46 : Ob) (kt_47 : Ob) => ((fun (r14 : Int32) (x_15 : Ob) (k_16 : Ob) (kt_17 : Ob) (kl_18 : Ob) (j_19 : Ob) (mc_20 : Ob) (md_21 : Ob) (tr_22 : Ob) (ff_23 : Ob) (fl_24 : Ob) => jn (fun J99 : Ob → Ob → Ob → Ob → Ob → Ob → Ob → Ob → Ob → Ob → Ob → Ob → Ob → Ob → Prop => ((¬ r14 = 1) → J99 x_15 k_16 kt_17 kl_18 j_19 mc_20 md_21 tr_22 ff_23 fl_24 sk sl sb sn) ∧ ((r14 = 1) → w_X9_shrink ck pr q ((x_15.1, x_15.2.1, (sa x_15.2.2 8 (upd (x_15.2.2 8) (2 : Int32).toNatClampNeg (nI p))))) sk sl sb sn fl_24 tr_22 j_19 mc_20 md_21 (fun (x_27 : Ob) (sk_28 : Ob) (sl_29 : Ob) (sb_30 : Ob) (sn_31 : Ob) (fl_32 : Ob) (tr_33 : Ob) (j_34 : Ob) (mc_35 : Ob) (md_36 : Ob) => J99 x_27 k_16 kt_17 kl_18 j_34 mc_35 md_36 tr_33 ff_23 fl_32 sk_28 sl_29 sb_30 sn_31))) (fun (x_99 : Ob) (k_99 : Ob) (kt_99 : Ob) (kl_99 : Ob) (j_99 : Ob) (mc_99 : Ob) (md_99 : Ob) (tr_99 : Ob) (ff_99 : Ob) (fl_99 : Ob) (sk_99 : Ob) (sl_99 : Ob) (sb_99 : Ob) (sn_99 : Ob) => J r14 x_99 k_99 kt_99 kl_99 j_99 mc_99 md_99 tr_99 ff_99 fl_99 sk_99 sl_99 sb_99 sn_99))) 1 ((x_k138.1, x_k138.2.1, (sa x_k138.2.2 8 (upd (x_k138.2.2 8) (4 : Int32).toNatClampNeg (-r36))))) k_k138 kt_47 kl_k138 j_37 mc_38 md_39 tr_40 ff_43 fl_46))) ∧ ((r36 = 1) → ((fun (r14 : Int32) (x_15 : Ob) (k_16 : Ob) (kt_17 : Ob) (kl_18 : Ob) (j_19 : Ob) (mc_20 : Ob) (md_21 : Ob) (tr_22 : Ob) (ff_23 : Ob) (fl_24 : Ob) => jn (fun J99 : Ob → Ob → Ob → Ob → Ob → Ob → Ob → Ob → Ob → Ob → Ob → Ob → Ob → Ob → Prop => ((¬ r14 = 1) → J99 x_15 k_16 kt_17 kl_18 j_19 mc_20 md_21 tr_22 ff_23 fl_24 sk sl sb sn) ∧ ((r14 = 1) → w_X9_shrink ck pr q ((x_15.1, x_15.2.1, (sa x_15.2.2 8 (upd (x_15.2.2 8) (2 : Int32).toNatClampNeg (nI p))))) sk sl sb sn fl_24 tr_22 j_19 mc_20 md_21 (fun (x_27 : Ob) (sk_28 : Ob) (sl_29 : Ob) (sb_30 : Ob) (sn_31 : Ob) (fl_32 : Ob) (tr_33 : Ob) (j_34 : Ob) (mc_35 : Ob) (md_36 : Ob) => J99 x_27 k_16 kt_17 kl_18 j_34 mc_35 md_36 tr_33 ff_23 fl_32 sk_28 sl_29 sb_30 sn_31))) (fun (x_99 : Ob) (k_99 : Ob) (kt_99 : Ob) (kl_99 : Ob) (j_99 : Ob) (mc_99 : Ob) (md_99 : Ob) (tr_99 : Ob) (ff_99 : Ob) (fl_99 : Ob) (sk_99 : Ob) (sl_99 : Ob) (sb_99 : Ob) (sn_99 : Ob) => J r14 x_99 k_99 kt_99 kl_99 j_99 mc_99 md_99 tr_99 ff_99 fl_99 sk_99 sl_99 sb_99 sn_99))) 0 x_k138 k_k138 kt_k138 kl_k138 j_37 mc_38 md_39 tr_40 ff_k138 fl_k138)))) ∧ ((r31 = 0) → ((fun (r14 : Int32) (x_15 : Ob) (k_16 : Ob) (kt_17 : Ob) (kl_18 : Ob) (j_19 : Ob) (mc_20 : Ob) (md_21 : Ob) (tr_22 : Ob) (ff_23 : Ob) (fl_24 : Ob) => jn (fun J99 : Ob → Ob → Ob → Ob → Ob → Ob → Ob → Ob → Ob → Ob → Ob → Ob → Ob → Ob → Prop => ((¬ r14 = 1) → J99 x_15 k_16 kt_17 kl_18 j_19 mc_20 md_21 tr_22 ff_23 fl_24 sk sl sb sn) ∧ ((r14 = 1) → w_X9_shrink ck pr q ((x_15.1, x_15.2.1, (sa x_15.2.2 8 (upd (x_15.2.2 8) (2 : Int32).toNatClampNeg (nI p))))) sk sl sb sn fl_24 tr_22 j_19 mc_20 md_21 (fun (x_27 : Ob) (sk_28 : Ob) (sl_29 : Ob) (sb_30 : Ob) (sn_31 : Ob) (fl_32 : Ob) (tr_33 : Ob) (j_34 : Ob) (mc_35 : Ob) (md_36 : Ob) => J99 x_27 k_16 kt_17 kl_18 j_34 mc_35 md_36 tr_33 ff_23 fl_32 sk_28 sl_29 sb_30 sn_31))) (fun (x_99 : Ob) (k_99 : Ob) (kt_99 : Ob) (kl_99 : Ob) (j_99 : Ob) (mc_99 : Ob) (md_99 : Ob) (tr_99 : Ob) (ff_99 : Ob) (fl_99 : Ob) (sk_99 : Ob) (sl_99 : Ob) (sb_99 : Ob) (sn_99 : Ob) => J r14 x_99 k_99 kt_99 kl_99 j_99 mc_99 md_99 tr_99 ff_99 fl_99 sk_99 sl_99 sb_99 sn_99))) 3 x_k138 k_k138 kt_k138 kl_k138 j_32 mc_k138 md_k138 tr_k138 ff_k138 fl_k138))))) x2 k2 kt2 kl2 j2 mc2 md2 tr2 ff fl) → w_X9_tryCase ck mk pr q s w x k kt kl j mc md tr ff fl (fun (r14 : Int32) (x_15 : Ob) (k_16 : Ob) (kt_17 : Ob) (kl_18 : Ob) (j_19 : Ob) (mc_20 : Ob) (md_21 : Ob) (tr_22 : Ob) (ff_23 : Ob) (fl_24 : Ob) => jn (fun J99 : Ob → Ob → Ob → Ob → Ob → Ob → Ob → Ob → Ob → Ob → Ob → Ob → Ob → Ob → Prop => ((¬ r14 = 1) → J99 x_15 k_16 kt_17 kl_18 j_19 mc_20 md_21 tr_22 ff_23 fl_24 sk sl sb sn) ∧ ((r14 = 1) → w_X9_shrink ck pr q ((x_15.1, x_15.2.1, (sa x_15.2.2 8 (upd (x_15.2.2 8) (2 : Int32).toNatClampNeg (nI p))))) sk sl sb sn fl_24 tr_22 j_19 mc_20 md_21 (fun (x_27 : Ob) (sk_28 : Ob) (sl_29 : Ob) (sb_30 : Ob) (sn_31 : Ob) (fl_32 : Ob) (tr_33 : Ob) (j_34 : Ob) (mc_35 : Ob) (md_36 : Ob) => J99 x_27 k_16 kt_17 kl_18 j_34 mc_35 md_36 tr_33 ff_23 fl_32 sk_28 sl_29 sb_30 sn_31))) (fun (x_99 : Ob) (k_99 : Ob) (kt_99 : Ob) (kl_99 : Ob) (j_99 : Ob) (mc_99 : Ob) (md_99 : Ob) (tr_99 : Ob) (ff_99 : Ob) (fl_99 : Ob) (sk_99 : Ob) (sl_99 : Ob) (sb_99 : Ob) (sn_99 : Ob) => J r14 x_99 k_99 kt_99 kl_99 j_99 mc_99 md_99 tr_99 ff_99 fl_99 sk_99 sl_99 sb_99 sn_99)) := by
      intro J x k kt kl j mc md tr ff fl sk sl sb sn hk h6 hj hA hq K
      unfold w_X9_tryCase
      rw [pm]
      refine c_make g1 (hw m hm) (by omega) hk h6 hj (fun y => (cl y).1) (P := fun (r6 : Int32) (k_7 : Ob) (kt_8 : Ob) (kl_9 : Ob) (j_10 : Ob) (mc_11 : Ob) (md_12 : Ob) => ((r6 = 1) → _) ∧ (¬ (r6 = 1) → _)) (fun k2' kt2 kl2 j2 mc2 md2 f1 f2 f3 f4 => ⟨fun y => ?_, fun y => absurd r1 y⟩) (fun k8 kt9 a b => ⟨a, hq, b⟩)
      refine c_gath hw hn hm hcL (f4 r1) (fun kt3 tr3 T3 L3 => ⟨nl + 1, ?_⟩)
      have h63 : ¬ kt3.2.1 6 < 0 := by rw [T3.1]; exact nI_pos (by have := T3.2.1; omega)
      refine c_lab (A := fun l => A (5 + l)) (e := e2) (x0 := (x.1, x.2.1, (sa x.2.2 8 (upd (x.2.2 8) (1 : Int32).toNatClampNeg (((x.2.2 8) (1 : Int32).toNatClampNeg) + 1))))) hck hnc p3 hnl plb L3.f (fun x2 j3 mc3 md3 fx hx hj3 => ?_) nl 0 _ j2 mc2 md2 (by omega) hq f2 xF.rf (fun i hi => ?_)
      · obtain ⟨u1, u2⟩ := XA1 _ _ x (x.1, x.2.1, (sa x.2.2 8 (upd (x.2.2 8) 1 (x.2.2 8 1 + 1)))) x2 hA rfl rfl fx hx
        exact K x2 k2' kt3 kl2 j3 mc3 md3 tr3 u2 f1.1 h63 T3 L3 hj3 u1
      · rw [if_neg (Nat.not_lt_zero _)]
        show sa x.2.2 8 (upd (x.2.2 8) 1 (x.2.2 8 1 + 1)) 8 (5 + i) = _
        rw [sa_us, pk_un (by omega)]
        exact hA (5 + i) (by omega) (by omega)
    cases e2 with
    | zero =>
      refine ⟨3, 0, A1 ck (evR tb L).length (hg (evR tb L)) nl lb A, [], [], Nat.zero_le _, by omega, fun z => absurd z (by decide), ?_, ?_⟩
      · intro J x k kt kl j mc md tr ff fl sk sl sb sn hk h6 hj hA hq K
        refine claA J x k kt kl j mc md tr ff fl sk sl sb sn hk h6 hj hA hq (fun x2 k2' kt2 kl2 j2 mc2 md2 tr2 c1 c2 c3 c4 c5 c6 c7 => ?_)
        exact c_payN c6 ⟨rfl, ⟨fun z => absurd rfl z, fun _ => jn_mk ⟨fun _ => K x2 k2' kt2 kl2 j2 mc2 md2 tr2 ff fl sk sl sb sn c1 c2 c3 c6 c7 (fun z => absurd z (by decide)), fun z => absurd z (by decide)⟩⟩⟩
      · intro K148 K252 Nx Post f4 f2 o T C hP h34 hA h50 h52 K
        refine refA K148 K252 Nx Post f4 f2 o T C hP h34 hA h50 h52 (fun o4 c1 c2 c3 c4 c5 c6 c7 c8 c9 => ⟨fun z => absurd (by rw [c2]; rfl) z, fun _ => (((K o4 c1 c2 c3).2.2.2 rfl) c4 c5).2⟩)
    | succ e3 =>
      have vs : VS (vdL ck tb L b) := vF_VS hck hnc b hb
      obtain ⟨v1, v2⟩ := VS_1 vs
      by_cases vv : vdL ck tb L b = 1
      · refine ⟨0, e3, A1 ck (evR tb L).length (hg (evR tb L)) nl lb A, [], [], by omega, by omega, fun z => absurd z (by decide), ?_, ?_⟩
        · intro J x k kt kl j mc md tr ff fl sk sl sb sn hk h6 hj hA hq K
          refine claA J x k kt kl j mc md tr ff fl sk sl sb sn hk h6 hj hA hq (fun x2 k2' kt2 kl2 j2 mc2 md2 tr2 c1 c2 c3 c4 c5 c6 c7 => ?_)
          refine c_payY c6 (by omega) (fun j3 hj3 => ⟨hj3.1.trans c6.1.symm, ⟨fun _ => ⟨by rw [c1.1]; exact hq, ?_⟩, fun z => absurd z (by decide)⟩⟩)
          rw [pb]
          refine c_verdict hck hnc hb hj3.1 c5.f (fun j4 mc4 md4 fj => ⟨fun z => absurd vv z, fun _ => jn_mk ⟨fun _ => K x2 k2' kt2 kl2 j4 mc4 md4 tr2 ff fl sk sl sb sn c1 c2 c3 ⟨(fj.2.1 1 (by simp)).trans hj3.1, (fj.2.1 2 (by simp)).trans hj3.2⟩ c7 (fun z => absurd z (by decide)), fun z => absurd z (by decide)⟩⟩)
        · intro K148 K252 Nx Post f4 f2 o T C hP h34 hA h50 h52 K
          refine refA K148 K252 Nx Post f4 f2 o T C hP h34 hA h50 h52 (fun o4 c1 c2 c3 c4 c5 c6 c7 c8 c9 => ⟨fun _ => refB o4 e3 _ c8 c9 c2 (fun o5 F5 e5 => jn_mk ⟨fun _ => ?_, fun z => absurd (v1.mpr vv) z⟩) _ rfl, fun z => absurd z (by rw [c2]; exact nI_ne0 (by omega) (by omega))⟩)
          have ra5 : raF o4 o5 := raF.of F5 (by decide) (by decide) (by decide) (by decide) (by decide)
          exact (K o5 (c1.tr ra5) e5 (c3.keep F5 (by decide) (by decide) (by decide) (by decide) (by decide))).1 rfl ((F5.1 50 (by decide)).trans c4) ((F5.1 52 (by decide)).trans c5)
      · obtain ⟨R', e', b3', b4, q1, q2, ⟨N1, q3⟩, ⟨N2, q4⟩⟩ := shr_all hw hn hck hnc (pr := pr) (q := q) hm hb pb (e3 + 1) L 0 0 e3 (0, false) 0 (A 3) (-(vdL ck tb L b)) (by omega) (by omega) hcL (rel0 hw hn hm hcL) (by omega)
        obtain ⟨t1, t2, t3, t4, t5⟩ := A2_s (B := A1 ck (evR tb L).length (hg (evR tb L)) nl lb A) (p := nI p) (b3 := b3') (b4 := b4)
        obtain ⟨s1, s2', s3, s4, s5⟩ := A1_s (ck := ck) (n := (evR tb L).length) (f := hg (evR tb L)) (nl := nl) (lb := lb) (A := A)
        refine ⟨1, e', A2 (A1 ck (evR tb L).length (hg (evR tb L)) nl lb A) (nI p) b3' b4, L, R', by omega, by omega, fun _ => ⟨hcL, q2⟩, ?_, ?_⟩
        · intro J x k kt kl j mc md tr ff fl sk sl sb sn hk h6 hj hA hq K
          refine claA J x k kt kl j mc md tr ff fl sk sl sb sn hk h6 hj hA hq (fun x2 k2' kt2 kl2 j2 mc2 md2 tr2 c1 c2 c3 c4 c5 c6 c7 => ?_)
          refine c_payY c6 (by omega) (fun j3 hj3 => ⟨hj3.1.trans c6.1.symm, ⟨fun _ => ⟨by rw [c1.1]; exact hq, ?_⟩, fun z => absurd z (by decide)⟩⟩)
          rw [pb]
          refine c_verdict hck hnc hb hj3.1 c5.f (fun j4 mc4 md4 fj => ⟨fun _ => c_copy c4 (fun ff4 Tf => c_copy c4 (fun fl4 Tl => ?_)), fun z => absurd z vv⟩)
          have hj4 : JC nc e3 j4 := ⟨(fj.2.1 1 (by simp)).trans hj3.1, (fj.2.1 2 (by simp)).trans hj3.2⟩
          refine jn_mk ⟨fun z => absurd rfl z, fun _ => ?_⟩
          unfold w_X9_shrink w_X7_start
          refine c_copy Tl (fun sb5 T5 => ⟨N1, ?_⟩)
          have key : ∀ X : Ob, X.2.1 = x2.2.1 → X.2.2 = sa (sa x2.2.2 8 (upd (x2.2.2 8) 4 (-(vdL ck tb L b)))) 8 (upd (sa x2.2.2 8 (upd (x2.2.2 8) 4 (-(vdL ck tb L b))) 8) 2 (nI p)) → ∀ Q : Ob → Ob → Ob → Ob → Ob → Ob → Ob → Ob → Ob → Ob → Prop, (∀ x3 sk3 sl3 sb3 sn3 fl3 tr3 j5 mc5 md5, xF [1, 2, 3, 4, 5, 6, 7] x x3 → JC nc e' j5 → XA x3 (A2 (A1 ck (evR tb L).length (hg (evR tb L)) nl lb A) (nI p) b3' b4) → TreeC fl3 (cenc tb R') → Q x3 sk3 sl3 sb3 sn3 fl3 tr3 j5 mc5 md5) → w_X9_shrink_L13 ck pr q Q N1 0 X (sk.1, (upd (upd sk.2.1 4 ((0 : Int32))) 5 ((0 : Int32))), sk.2.2) sl sb5 sn fl4 tr2 j4 mc4 md4 := by
            intro X y1 y2 Q hQ
            have y8 : X.2.2 8 = upd (upd (x2.2.2 8) 4 (-(vdL ck tb L b))) 2 (nI p) := by rw [y2, sa_us, sa_us]
            have fX : xF [1, 2, 3, 4, 5, 6, 7] x2 X := ⟨y1, fun g hg => by rw [y2, sa_ne hg, sa_ne hg], fun i hi => by rw [y8, pk_un (fun z => hi (by subst z; decide)), pk_un (fun z => hi (by subst z; decide))]⟩
            refine q3 Q X _ sl sb5 sn fl4 tr2 j4 mc4 md4 0 (by omega) (by rw [y1, c1.1]; exact hq) ?_ ?_ T5 Tl hj4 ?_ ?_ (fun x3 sk3 sl3 sb3 sn3 fl3 tr3 j5 mc5 md5 d1 d2 d3 d4 d5 => hQ x3 sk3 sl3 sb3 sn3 fl3 tr3 j5 mc5 md5 (c1.tr (fX.tr (d1.mono (by decide)))) d5 (XA.of ?_ ?_ ?_ ?_ (fun i hi => ?_)) d4)
            · show upd (upd sk.2.1 4 ((0 : Int32))) 5 ((0 : Int32)) 4 = nI 0
              rw [pk_un (by decide), pk_us]; rfl
            · show upd (upd sk.2.1 4 ((0 : Int32))) 5 ((0 : Int32)) 5 = nI 0
              rw [pk_us]; rfl
            · rw [y8, pk_un (by decide), pk_un (by decide), c7 3 (by omega) (by omega), s3]
            · rw [y8, pk_un (by decide), pk_us]
            · rw [t1, d1.2.2 1 (by decide), y8, pk_un (by decide), pk_un (by decide), c7 1 (by omega) (by omega)]
            · rw [t2, d1.2.2 2 (by decide), y8, pk_us]
            · rw [t3]; exact d2
            · rw [t4]; exact d3
            · have : 5 + i ∉ [3, 4] := fun z => by
                simp only [List.mem_cons, List.not_mem_nil, or_false] at z; omega
              rw [t5, d1.2.2 (5 + i) this, y8, pk_un (by omega), pk_un (by omega), c7 (5 + i) (by omega) (by omega)]
          refine key _ ?_ ?_ _ (fun x3 sk3 sl3 sb3 sn3 fl3 tr3 j5 mc5 md5 d1 d2 d3 d4 => K x3 k2' kt2 kl2 j5 mc5 md5 tr3 ff4 fl3 sk3 sl3 sb3 sn3 d1 c2 c3 d2 d3 (fun _ => ⟨Tf, d4⟩))
          · rfl
          · rfl
        · intro K148 K252 Nx Post f4 f2 o T C hP h34 hA h50 h52 K
          refine refA K148 K252 Nx Post f4 f2 o T C hP h34 hA h50 h52 (fun o4 c1 c2 c3 c4 c5 c6 c7 c8 c9 => ⟨fun _ => refB o4 e3 _ c8 c9 c2 (fun o5 F5 e5 => jn_mk ⟨fun z => absurd (v1.mp z) vv, fun _ => ?_⟩) _ rfl, fun z => absurd z (by rw [c2]; exact nI_ne0 (by omega) (by omega))⟩)
          have ra5 : raF o4 o5 := raF.of F5 (by decide) (by decide) (by decide) (by decide) (by decide)
          have A5 : OA o5 (A1 ck (evR tb L).length (hg (evR tb L)) nl lb A) := c3.keep F5 (by decide) (by decide) (by decide) (by decide) (by decide)
          have fin : ∀ z : Int32, z = -(vdL ck tb L b) → ∀ X : Ob, X = (o5.1, upd (upd (upd (upd o5.2.1 50 1) 52 1) 53 (nI p)) 55 z, o5.2.2) → w_X10_copyRow (4 : Int32) (1 : Int32) X (fun (o_32 : Ob) => w_X10_copyRow (4 : Int32) (2 : Int32) o_32 (fun (o_34 : Ob) => w_X10_shrink (nI b) o_34 (fun (o_36 : Ob) => Nx o_36))) := by
            intro z hz X hX
            have x1 : X.2.1 = upd (upd (upd (upd o5.2.1 50 1) 52 1) 53 (nI p)) 55 z := by rw [hX]
            have x2 : X.2.2 = o5.2.2 := by rw [hX]
            have FX : Fr [50, 52, 53, 55] [] o5 X := ⟨fun k hk => by
              rw [x1, pk_un (fun y => hk (by subst y; decide)), pk_un (fun y => hk (by subst y; decide)), pk_un (fun y => hk (by subst y; decide)), pk_un (fun y => hk (by subst y; decide))], fun k _ => by rw [x2]⟩
            have rX : RowM X 4 L := (c6.keep (RK.of_fr F5 (by decide) (by decide) (by decide))).of x2
            refine m_copyRow (t := 4) (u := 1) (by omega) (by omega) (by omega) rX (fun o6 f6 rk6 r6 => ?_)
            refine m_copyRow (t := 4) (u := 2) (by omega) (by omega) (by omega) (rX.keep (rk6 4 (by omega))) (fun o7 f7 rk7 r7 => ⟨N2, ?_⟩)
            have raX : raF o5 X := raF.of FX (by decide) (by decide) (by decide) (by decide) (by decide)
            have ra6 : raF X o6 := ⟨f6.2.mono (by decide) (by decide), rk6 0 (by omega)⟩
            have ra7 : raF o6 o7 := ⟨f7.2.mono (by decide) (by decide), rk7 0 (by omega)⟩
            have F57 : Fr [50, 52, 53, 55] [8, 9, 10] o5 o7 := (FX.mono (fun k hk => hk) (by decide)).tr ((f6.2.mono (by decide) (fun k hk => hk)).tr (f7.2.mono (by decide) (fun k hk => hk)))
            have e7 : ∀ k, o7.2.1 k = X.2.1 k := fun k => (f7.2.1 k List.not_mem_nil).trans (f6.2.1 k List.not_mem_nil)
            have key : ∀ Y : Ob, Y = (o7.1, upd (upd (upd (upd o7.2.1 41 2) 42 0) 43 0) 44 0, o7.2.2) → w_X10_shrink_L5 (nI b) (fun (o_36 : Ob) => Nx o_36) N2 Y := by
              intro Y hY
              have y1 : Y.2.1 = upd (upd (upd (upd o7.2.1 41 2) 42 0) 43 0) 44 0 := by rw [hY]
              have y2 : Y.2.2 = o7.2.2 := by rw [hY]
              obtain ⟨z1, z2, z3, z4, z5⟩ := bg1 (f := o7.2.1) (t := 2)
              have FY : Fr [41, 42, 43, 44] [] o7 Y := ⟨fun k hk => by
                rw [y1, z5 k (fun y => hk (by subst y; decide)) (fun y => hk (by subst y; decide)) (fun y => hk (by subst y; decide)) (fun y => hk (by subst y; decide))], fun k _ => by rw [y2]⟩
              have raY : raF o7 Y := raF.of FY (by decide) (by decide) (by decide) (by decide) (by decide)
              have T5 : HT tb o7 := F57.ht (F5.ht c7 (by decide)) (by decide)
              have C5 : CT ck nc o7 := F57.ct (F5.ct c8 (by decide) (by decide) (by decide)) (by decide) (by decide) (by decide)
              refine q4 _ Y ⟨FY.ht T5 (by decide), by omega, r7.of y2, by rw [y1, z1]; rfl⟩ (FY.ct C5 (by decide) (by decide) (by decide)) (by rw [y1, z2]) (by rw [y1, z3]) (by rw [y1, z4]) ?_ ?_ ?_ (fun o8 k1 k2 k3 k4 k5 => ?_)
              · rw [FY.1 34 (by decide), F57.1 34 (by decide)]; exact e5
              · rw [FY.1 54 (by decide), F57.1 54 (by decide), A5.2.2.1, s3]
              · rw [FY.1 55 (by decide), e7, x1, pk_us]; exact hz
              · have E : ∀ k, k ∉ shS → o8.2.1 k = X.2.1 k := fun k hk => by
                  rw [k1.1.1 k hk, FY.1 k (fun y => hk (by
                    have : ∀ a ∈ [41, 42, 43, 44], a ∈ shS := by decide
                    exact this k y)), e7]
                have A8 : OA o8 (A2 (A1 ck (evR tb L).length (hg (evR tb L)) nl lb A) (nI p) b3' b4) := by
                  refine ⟨?_, ?_, ?_, ?_, fun i hi => ?_⟩
                  · rw [t1, E 51 (by decide), x1, pk_un (by decide), pk_un (by decide), pk_un (by decide), pk_un (by decide)]; exact A5.1
                  · rw [t2, E 53 (by decide), x1, pk_un (by decide), pk_us]
                  · rw [t3]; exact k4
                  · rw [t4]; exact k5
                  · rw [t5, k1.1.2 56 (by decide), FY.2 56 (by decide), F57.2 56 (by decide)]; exact A5.2.2.2.2 i hi
                refine (K o8 (c1.tr (ra5.tr (raX.tr (ra6.tr (ra7.tr (raY.tr k1.ra)))))) k2 A8).2.1 rfl ?_ ?_ ?_ k3
                · rw [E 50 (by decide), x1, pk_un (by decide), pk_un (by decide), pk_un (by decide), pk_us]
                · rw [E 52 (by decide), x1, pk_un (by decide), pk_un (by decide), pk_us]
                · exact ((r6.keep (rk7 1 (by omega))).of y2).keep (k1.2 1 (by omega))
            exact key _ rfl
          refine jn_mk (jn_mk ⟨fun c => ?_, fun c => ?_⟩)
          · exact fin _ ((v2 vv).1 c) _ rfl
          · exact fin _ ((v2 vv).2 c) _ rfl
  · have hr56 : r = -5 ∨ r = -6 := by rcases k2 with z | z; exact absurd z r1; exact z
    have hr0 : ¬ 0 ≤ r := by rcases hr56 with z | z <;> rw [z] <;> decide
    refine ⟨if r = -5 then 2 else 3, e2, A, [], [], k1, by split <;> omega, fun z => absurd z (by split <;> decide), ?_, ?_⟩
    · intro J x k kt kl j mc md tr ff fl sk sl sb sn hk h6 hj hA hq K
      unfold w_X9_tryCase
      rw [pm]
      refine c_make g1 (hw m hm) (by omega) hk h6 hj (fun y => (cl y).1) (P := fun (r6 : Int32) (k_7 : Ob) (kt_8 : Ob) (kl_9 : Ob) (j_10 : Ob) (mc_11 : Ob) (md_12 : Ob) => ((r6 = 1) → _) ∧ (¬ (r6 = 1) → _)) (fun k2' kt2 kl2 j2 mc2 md2 f1 f2 f3 f4 => ⟨fun y => absurd y r1, fun _ => ?_⟩) (fun k8 kt9 a b => ⟨a, hq, b⟩)
      have K' := K x k2' kt2 kl2 j2 mc2 md2 tr ff fl sk sl sb sn xF.rf f1.1 f3 f2 hA (fun z => absurd z (by split <;> decide))
      rcases hr56 with z | z
      · rw [if_pos z] at K'
        exact ⟨fun _ => jn_mk ⟨fun _ => K', fun y => absurd y (by decide)⟩, fun y => absurd (z.symm.trans y) (by decide)⟩
      · rw [if_neg (by rw [z]; decide)] at K'
        exact ⟨fun y => absurd z y, fun _ => jn_mk ⟨fun _ => K', fun y => absurd y (by decide)⟩⟩
    · intro K148 K252 Nx Post f4 f2 o T C hP h34 hA h50 h52 K
      refine m_make g2 (hw m hm) (by omega) T C h34 (fun y => (cl y).2) (fun y => absurd y r1) (fun _ o2 F2 R2 e34 => ⟨fun y => absurd y hr0, fun _ => ?_⟩)
      have ra2 : raF o o2 := ⟨F2.mono (by decide) (by decide), R2 0 (by omega)⟩
      obtain ⟨-, -, k5, k6⟩ := K o2 ra2 e34 (hA.keep F2 (by decide) (by decide) (by decide) (by decide) (by decide))
      have h50' := (F2.1 50 (by decide)).trans h50
      have h52' := (F2.1 52 (by decide)).trans h52
      rcases hr56 with z | z
      · have := k5 (by rw [if_pos z]) h50' h52'
        rw [z]; exact this
      · have := (k6 (by rw [if_neg (by rw [z]; decide)]) h50' h52').1
        rw [z]; exact this
end
