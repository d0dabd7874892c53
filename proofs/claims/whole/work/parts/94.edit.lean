/-! EDITS: numbers; parts that have none -/
theorem sm_mono {v l h k : Int32} {P Q : Int32 → Prop} (a : w_X10_smallerNumber v l h k P) (f : ∀ r, P r → Q r) : w_X10_smallerNumber v l h k Q := by
  unfold w_X10_smallerNumber w_X10_nearest jn at a ⊢
  have g : ∀ r1 : Int32, (((k ≤ 30) → ¬ ((1 : Int32) <<< (k &&& 31)) = 0 ∧ (P (v - ((v - r1) / ((1 : Int32) <<< (k &&& 31)))))) ∧ (¬ (k ≤ 30) → P v)) → (((k ≤ 30) → ¬ ((1 : Int32) <<< (k &&& 31)) = 0 ∧ (Q (v - ((v - r1) / ((1 : Int32) <<< (k &&& 31)))))) ∧ (¬ (k ≤ 30) → Q v)) := fun r1 b => ⟨fun z => ⟨(b.1 z).1, f _ (b.1 z).2⟩, fun z => f _ (b.2 z)⟩
  exact ⟨fun c => ⟨fun z => g _ ((a.1 c).1 z), fun z => g _ ((a.1 c).2 z)⟩, fun c => ⟨fun c2 => ⟨fun z => g _ (((a.2 c).1 c2).1 z), fun z => g _ (((a.2 c).1 c2).2 z)⟩, fun c2 => g _ ((a.2 c).2 c2)⟩⟩
theorem cp_mono {f1 f2 : Int32} {K K2 P P2 : Ob → Prop} (f : ∀ o, K o → K2 o) : ∀ (n : Nat) (p : Int32) (o : Ob), w_X10_copyRow_L2 f1 f2 K P n p o → w_X10_copyRow_L2 f1 f2 K2 P2 n p o := by
  intro n
  induction n with
  | zero => intro p o h; exact h
  | succ n ih =>
    intro p o h
    obtain ⟨a, b, c⟩ := h
    refine ⟨a, fun z => f _ (b z), fun z => ?_⟩
    obtain ⟨d, e, g, i, j⟩ := c z
    exact ⟨d, e, g, i, ih _ _ j⟩
theorem tw_mono {x v : Int32} {o : Ob} {P Q : Ob → Prop} (a : w_X10_tryWith x v o P) (f : ∀ o2, P o2 → Q o2) : w_X10_tryWith x v o Q := by
  obtain ⟨n, a⟩ := a
  refine ⟨n, cp_mono (fun o2 h => ?_) n _ _ a⟩
  obtain ⟨h1, h2, h3, h4⟩ := h
  exact ⟨h1, h2, h3, f _ h4⟩
section
variable {ck : Nat → Ob} {tb : Tb} {nm nc : Nat}
/-- a site: a node, what belongs to it, what stands around -/
def SiN (tb : Tb) (nm nc m0 : Nat) (R : List Nd) (c : List Frm) (x : Nd) (L1 : List Nd) (t : Option Nat) : Prop := fil c (x :: L1) = R ∧ CFx tb c t (some m0) ∧ okN tb t x ∧ CF tb L1 (kidsT tb x)
theorem SiN.cf {m0 : Nat} {R : List Nd} {c : List Frm} {x : Nd} {L1 : List Nd} {t : Option Nat} (h : SiN tb nm nc m0 R c x L1 t) : CF tb (x :: L1) [t] := ⟨t, [], rfl, h.2.2.1, by rw [List.append_nil]; exact h.2.2.2⟩
theorem tree_ed (hw : ∀ m, m < nm → MkWF tb nc m) (hn : nm ≤ 30) {m0 : Nat} (hm : m0 < nm) {c : List Frm} {t : Option Nat} {T : List Nd} {b : Ob} (h1 : CFx tb c t (some m0)) (h2 : CF tb T [t]) (hT : TreeC b (cenc tb (fil c T))) : EdC tb b c T := by
  obtain ⟨-, hB, -⟩ := hole_all hw hn hm h1 h2
  obtain ⟨q1, q2⟩ := (OutC_iff hw c t T h1 h2 hB).mp hT.tf
  exact ⟨hT.1, q1, q2⟩
theorem ed_tree (hw : ∀ m, m < nm → MkWF tb nc m) (hn : nm ≤ 30) {m0 : Nat} (hm : m0 < nm) {c : List Frm} {t : Option Nat} {T : List Nd} {b : Ob} (h1 : CFx tb c t (some m0)) (h2 : CF tb T [t]) (hE : EdC tb b c T) : TreeC b (cenc tb (fil c T)) := by
  obtain ⟨-, hB, -, b1, -⟩ := hole_all hw hn hm h1 h2
  exact ((OutC_iff hw c t T h1 h2 hB).mpr ⟨hE.2.1, hE.2.2⟩).top hE.1 b1
/-- a number is moved in the class -/
theorem c_mv {C : List CN} {sk sb sn : Ob} {P : Int32 → Ob → Ob → Ob → Prop} {i d : Nat} {v g : Int32} (h4 : sk.2.1 4 = nI i) (h5 : sk.2.1 5 = nI d) (hd : d ≤ 1000) (hT : TreeC sb C) (hi : i < C.length) (e0 : sb.2.2 0 i = 0 ∨ sb.2.2 0 i = 9) (e1 : sb.2.2 1 i = v) (e2 : sb.2.2 2 i = g) (k0 : hv d (v - g) = 0 → P 0 sk sb sn) (k1 : ¬ hv d (v - g) = 0 → ∀ sn0, TreeC sn0 C → P 1 sk sb (Tu sn0 1 i (v - hv d (v - g)))) : w_X7_edit sk sb sn P := by
  have hl := hT.2.1
  have hz := hT.1
  unfold w_X7_edit
  rw [h4]
  refine c_get0 hz hi hl ?_
  refine ⟨fun _ => ?_, fun z => ?_, fun z => ?_, fun z => ?_⟩
  · unfold w_X7_moveNearer
    rw [h4]
    refine c_get1 hz hi hl (c_get2 hz hi hl ?_)
    rw [e1, e2]
    refine ⟨d + 1, c_nearL h5 (by omega) d 0 (v - g) (by omega) ⟨fun n0 => c_copy hT (fun sn0 T0 => ?_), fun y0 => ⟨Or.inl rfl, k0 y0⟩⟩⟩
    rw [h4]
    exact c_setV (z := C.length) T0.1 hi hl ⟨Or.inr rfl, k1 n0 sn0 T0⟩
  · rcases e0 with y | y <;> exact absurd (y.symm.trans z) (by decide)
  · rcases e0 with y | y <;> exact absurd (y.symm.trans z) (by decide)
  · rcases e0 with y | y
    · exact absurd y z.1
    · exact absurd y z.2.1
theorem c_none {C : List CN} {sk sb sn : Ob} {P : Int32 → Ob → Ob → Ob → Prop} {i : Nat} (h4 : sk.2.1 4 = nI i) (hT : TreeC sb C) (hi : i < C.length) (e0 : ¬ sb.2.2 0 i = 0 ∧ ¬ sb.2.2 0 i = 9 ∧ ¬ sb.2.2 0 i = 1 ∧ ¬ sb.2.2 0 i = 8) (k : P 0 sk sb sn) : w_X7_edit sk sb sn P := by
  unfold w_X7_edit
  rw [h4]
  refine c_get0 hT.1 hi hT.2.1 ⟨fun z => absurd z (fun y => y.elim e0.1 e0.2.1), fun z => absurd z e0.2.2.1, fun z => absurd z e0.2.2.2, fun _ => k⟩
/-- what a site's part is -/
theorem site_part (hw : ∀ m, m < nm → MkWF tb nc m) (hn : nm ≤ 30) {m0 : Nat} (hm : m0 < nm) {R : List Nd} {c : List Frm} {x : Nd} {L1 : List Nd} {t : Option Nat} {b : Ob} (S : SiN tb nm nc m0 R c x L1 t) (hT : TreeC b (cenc tb R)) : posC tb c < (cenc tb R).length ∧ b.2.2 0 (posC tb c) = kindN tb x ∧ b.2.2 1 (posC tb c) = (cnN tb x).2.1 ∧ b.2.2 2 (posC tb c) = (cnN tb x).2.2 ∧ posC tb c + (cenc tb (x :: L1)).length ≤ (cenc tb R).length ∧ cenc tb (x :: L1) = cnN tb x :: (cenc tb L1 ++ resT tb x) ∧ TrF b (posC tb c + 1) (nI (posC tb c)) (cenc tb L1 ++ resT tb x) := by
  obtain ⟨h0, h1, h2, h3⟩ := id S
  have hcf := S.cf
  rw [← h0] at hT ⊢
  obtain ⟨E1, E2, E3⟩ := tree_ed hw hn hm h1 hcf hT
  obtain ⟨-, -, hBT, -, b2, -, -, cc, -⟩ := hole_all hw hn hm h1 hcf
  have eC := cenc_one h3
  have lt := (outN_ge (tb := tb) c (cenc tb (x :: L1)).length).1
  rw [eC] at E2 cc
  obtain ⟨k', ek, cc⟩ := cc
  obtain rfl : k' = 0 := by omega
  obtain ⟨a0, a1, a2, a3, a4, a5⟩ := E2.cons_inv cc
  have pos := (CF_ne hcf).2
  exact ⟨by omega, by rw [a0, cn1_k], a1, a2, by omega, eC, a5⟩
theorem RS_bd {v g : Int32} : v - hv 0 (v - g) = v - (v - g) := rfl
theorem tw (hn : nm ≤ 30) {tr : Nat} (h3 : tr ≠ 3) {R : List Nd} {c : List Frm} {x : Nd} {L1 : List Nd} {v : Int32} {o : Ob} {P : Ob → Prop} (hR : fil c (x :: L1) = R) (S : BS tb nm nc o tr R) (k : ∀ o2, Fr [] [8, 9, 10] o o2 → (∀ t, t < 5 → t ≠ 3 → RK t o o2) → RowM o2 3 (fil c ((x.1, v) :: L1)) → P o2) : w_X10_tryWith (nI (posR c)) v o P := by
  obtain ⟨T, ht, hr, h41⟩ := S
  have hl := hr.2.1
  have hp : posR c < R.length := by rw [← hR, fil_len, List.length_cons]; omega
  unfold w_X10_tryWith
  rw [h41]
  refine m_copyRow (u := 3) ht (by omega) h3 hr (fun o2 f2 rk2 r2 => ?_)
  rw [idx3, nI_clamp (by omega)]
  refine ⟨vp_in_nI (by omega) (by omega), ?_⟩
  have key : ∀ X : Ob, X = (o2.1, o2.2.1, sa o2.2.2 10 (upd (o2.2.2 10) (3000 + posR c) v)) → P X := by
    intro X hX
    have x1 : X.2.1 = o2.2.1 := by rw [hX]
    have x2 : X.2.2 = sa o2.2.2 10 (upd (o2.2.2 10) (3000 + posR c) v) := by rw [hX]
    have xo : ∀ g, g ≠ 10 → X.2.2 g = o2.2.2 g := fun g hg => by rw [x2, sa_ne hg]
    have x10 : ∀ q, q ≠ 3000 + posR c → X.2.2 10 q = o2.2.2 10 q := fun q hq => by rw [x2, sa_us, pk_un hq]
    refine k X ⟨fun k hk => by rw [x1]; exact f2.2.1 k hk, fun k hk => ?_⟩ (fun t' ht' h3' => (rk2 t' h3').tr ⟨by rw [xo 8 (by omega)], fun i hi => ⟨by rw [xo 9 (by omega)], x10 _ (by omega)⟩⟩) ?_
    · rw [xo k (fun z => hk (by subst z; decide))]; exact f2.2.2 k hk
    · rw [← hR, fil_head] at r2
      rw [fil_head]
      have hl2 := preR_len c
      refine r2.set (by rw [xo 8 (by omega)]) (fun i _ => by rw [xo 9 (by omega)]) (fun i hi hne => x10 _ (by omega)) ?_
      rw [hl2, x2]
      show sa o2.2.2 10 (upd (o2.2.2 10) (3000 + posR c) v) 10 (3000 + posR c) = _
      rw [sa_us, pk_us]
  exact key _ rfl
/-- the ways of the reference at a site -/
theorem m_ch0 {tr : Nat} {R : List Nd} {o : Ob} {q : Nat} {x : Nd} {P : Int32 → Ob → Prop} (S : BS tb nm nc o tr R) (hx : R[q]? = some x) (h42 : o.2.1 42 = nI q) (h43 : o.2.1 43 = 0) (hB : BN nm R) (hn : nm ≤ 30) (kn : (kindN tb x = 8 ∨ (¬ kindN tb x = 0 ∧ ¬ kindN tb x = 1 ∧ ¬ kindN tb x = 6)) → x.1 = none ∨ (∃ m, x.1 = some m) → P 0 o)
    (k0 : ∀ m, x.1 = some m → kindN tb x = 0 → w_X10_smallerNumber x.2 (tb 3 m) (tb 4 m) (o.2.1 44) (fun (r8 : Int32) => (r8 = x.2 → P 0 o) ∧ (¬ r8 = x.2 → w_X10_tryWith (nI q) r8 o (fun o_11 => P 1 o_11))))
    (k1 : kindN tb x = 1 → w_X10_listChange (nI q) x.2 o (fun (r14 : Int32) (o_15 : Ob) => (r14 = 0 ∨ r14 = 1) ∧ (P r14 o_15))) (k6 : kindN tb x = 6 → w_X10_shuffleChange (nI q) x.2 o (fun (r18 : Int32) (o_19 : Ob) => (r18 = 0 ∨ r18 = 1) ∧ (P r18 o_19))) : w_X10_changes o P := by
  obtain ⟨T, ht, hr, h41⟩ := S
  have hl := hr.2.1
  have hq := (List.getElem?_eq_some_iff.mp hx).1
  obtain ⟨r1, r2⟩ := row_nd hr hx
  have vq : vp_in (nI (1000 * tr + q)) 5000 := vp_in_nI (by omega) (by omega)
  unfold w_X10_changes
  rw [h41, h42, idx_nI, nI_clamp (by omega), r1, r2]
  refine ⟨vq, ?_⟩
  cases hm : x.1 with
  | none =>
    refine ⟨fun z => absurd z (show ¬ (0 : Int32) ≤ -1 by decide), fun _ => kn (Or.inl ?_) (Or.inl hm)⟩
    unfold kindN; rw [hm]
  | some m =>
    have hmn := hB x (List.mem_of_getElem? hx) m hm
    have kk : kindN tb x = tb 0 m := kind_some hm
    have e0 : o.2.2 1 m = tb 0 m := congrFun (T 0 (by omega)) m
    have e3 : o.2.2 4 m = tb 3 m := congrFun (T 3 (by omega)) m
    have e4 : o.2.2 5 m = tb 4 m := congrFun (T 4 (by omega)) m
    have em : (encM (some m)).toNatClampNeg = m := nI_clamp (by omega)
    have vm : vp_in (encM (some m)) 30 := vp_in_nI (by omega) (by omega)
    rw [em, e0, e3, e4]
    refine ⟨fun _ => ⟨vq, fun _ => ⟨vm, fun q0 => ⟨vm, vm, ?_⟩, fun q1 => k1 (kk.trans q1), fun q6 => k6 (kk.trans q6), fun z => kn (Or.inr (by rw [kk]; exact ⟨z.1, z.2.1, z.2.2⟩)) (Or.inr ⟨m, hm⟩)⟩, fun z => absurd h43 z⟩, fun z => absurd (nI_pos' (show m < 2 ^ 31 by omega)) z⟩
    have K := k0 m hm (kk.trans q0)
    refine sm_mono K (fun r h => jn_mk ⟨fun z => ⟨fun _ => h.1 z, fun y => absurd z y⟩, fun z => tw_mono (h.2 z) (fun o2 p => ⟨fun y => absurd y z, fun _ => p⟩)⟩)
end
