/-! SHRINKING in the reference: ends, the next site -/
section
variable {tb : Tb} {nm nc : Nat}
theorem row_nd {o : Ob} {t : Nat} {R : List Nd} (h : RowM o t R) {i : Nat} {x : Nd} (hx : R[i]? = some x) : o.2.2 9 (1000 * t + i) = encM x.1 ∧ o.2.2 10 (1000 * t + i) = x.2 := h.2.2 i x hx
theorem CF_tsl : ∀ (L : List Nd) (ts : List (Option Nat)), CF tb L ts → ts.length ≤ L.length := by
  intro L
  induction L with
  | nil => intro ts h; rw [show ts = [] from h]; exact Nat.le_refl _
  | cons x L ih =>
    intro ts h
    obtain ⟨t, ts', rfl, hk, h⟩ := h
    have := ih _ h
    rw [List.length_append] at this
    rw [List.length_cons, List.length_cons]; omega
theorem sub1 {a b : Int32} : a + (b - 1) = a + b - 1 := by rw [Int32.sub_eq_add_neg, Int32.sub_eq_add_neg, Int32.add_assoc]
theorem m_endL (hw : ∀ m, m < nm → MkWF tb nc m) (hn : nm ≤ 30) {o : Ob} {t : Nat} {R : List Nd} {P : Int32 → Ob → Prop} (T : HT tb o) (ht : t < 5) (hr : RowM o t R) (hB : BN nm R) : ∀ (L A : List Nd) (ts : List (Option Nat)) (w : Nat), R = A ++ L → CF tb L ts → w ≤ ts.length → P (nI (A.length + tlN tb L w)) o → ∃ n, w_X10_endOf_L5 (nI t) P n (nI w) (nI A.length) o := by
  have hl := hr.2.1
  intro L
  induction L with
  | nil =>
    intro A ts w hR hc hw' k
    rw [show ts = [] from hc] at hw'
    have hw' : w ≤ 0 := hw'
    rw [show w = 0 by omega] at k ⊢
    exact ⟨1, fun _ => k, fun z => absurd (show nI 0 ≤ 0 by decide) z⟩
  | cons x L ih =>
    intro A ts w hR hc hw' k
    have tl := CF_tsl _ _ hc
    obtain ⟨t0, ts', rfl, hk, hc⟩ := hc
    have tl2 := CF_tsl _ _ hc
    cases w with
    | zero => rw [tlN_0] at k; exact ⟨1, fun _ => k, fun z => absurd (show nI 0 ≤ 0 by decide) z⟩
    | succ w =>
      rw [tlN_s] at k
      rw [List.length_cons] at hw' tl
      have hlen : R.length = A.length + (L.length + 1) := by rw [hR, List.length_append, List.length_cons]
      have hx : R[A.length]? = some x := by rw [hR]; exact getmid
      obtain ⟨r1, r2⟩ := row_nd hr hx
      have har : arN tb x = (kidsT tb x).length := rfl
      rw [List.length_append] at tl2
      obtain ⟨n, hnn⟩ := ih (A ++ [x]) _ (w + arN tb x) (by rw [hR, List.append_assoc]; rfl) hc (by rw [List.length_append]; omega) (by rw [List.length_append, show A.length + [x].length + tlN tb L (w + arN tb x) = A.length + (1 + tlN tb L (w + arN tb x)) by show A.length + 1 + _ = _; omega]; exact k)
      refine ⟨n + 1, fun z => absurd z (nI_nle (by omega) (by omega)), fun _ => ?_⟩
      rw [idx_nI]
      refine m_parts hw hn T (by omega) r1 r2 (okN_X hk (fun m hm => hB x (List.mem_of_getElem? hx) m hm)) ?_
      rw [sub1, nI_add, show w + 1 + arN tb x = (w + arN tb x) + 1 by omega, nI_pred, nI_1]
      rw [List.length_append] at hnn
      exact hnn
theorem CF_pos {L : List Nd} {ts : List (Option Nat)} (h : CF tb L ts) (hl : 0 < L.length) : 1 ≤ ts.length := by
  cases L with
  | nil => exact absurd hl (Nat.lt_irrefl _)
  | cons x L => obtain ⟨t, ts', rfl, -⟩ := h; rw [List.length_cons]; omega
theorem m_endOf (hw : ∀ m, m < nm → MkWF tb nc m) (hn : nm ≤ 30) {o : Ob} {t k : Nat} {R : List Nd} {ts : List (Option Nat)} {P : Int32 → Ob → Prop} (T : HT tb o) (ht : t < 5) (hr : RowM o t R) (hB : BN nm R) (hc : CF tb R ts) (hk : k < R.length) (kk : P (nI (enN tb R k)) o) : w_X10_endOf (nI t) (nI k) o P := by
  obtain ⟨ts', hd⟩ := CF_drop R ts k hc
  have h1 := CF_pos hd (by rw [List.length_drop]; omega)
  have hA : (R.take k).length = k := by rw [List.length_take]; omega
  obtain ⟨n, h⟩ := m_endL hw hn T ht hr hB (R.drop k) (R.take k) ts' 1 (List.take_append_drop k R).symm hd h1 (by rw [hA]; exact kk)
  rw [hA] at h
  exact ⟨n, h⟩
theorem enN_le {R : List Nd} {k : Nat} (hk : k < R.length) : k < enN tb R k ∧ enN tb R k ≤ R.length := by
  unfold enN
  have h := tlN_le (tb := tb) (R.drop k) 1
  rw [List.length_drop] at h
  have : 1 ≤ tlN tb (R.drop k) 1 := by
    rw [List.drop_eq_getElem_cons hk]
    show 1 ≤ 1 + _; omega
  omega
/-- the base of the changes: a row of the reference -/
def BS (tb : Tb) (nm nc : Nat) (o : Ob) (t : Nat) (R : List Nd) : Prop := HT tb o ∧ t < 5 ∧ RowM o t R ∧ o.2.1 41 = nI t
theorem m_isB (hw : ∀ m, m < nm → MkWF tb nc m) (hn : nm ≤ 30) {o : Ob} {t k : Nat} {R : List Nd} {P : Int32 → Ob → Prop} (S : BS tb nm nc o t R) (hB : BN nm R) (hk : k < R.length) (k1 : blN tb R k → P 1 o) (k0 : ¬ blN tb R k → P 0 o) : w_X10_isBelow (nI k) o P := by
  obtain ⟨T, ht, hr, h41⟩ := S
  have hx : R[k]? = some R[k] := List.getElem?_eq_getElem hk
  have hl := hr.2.1
  obtain ⟨r1, r2⟩ := row_nd hr hx
  unfold w_X10_isBelow
  rw [h41, idx_nI, nI_clamp (by omega), r1]
  refine ⟨vp_in_nI (by omega) (by omega), ?_⟩
  have iff : blN tb R k ↔ bel tb R[k] = true := ⟨fun ⟨y, hy, hb⟩ => by rw [hx] at hy; cases hy; exact hb, fun hb => ⟨_, hx, hb⟩⟩
  cases hm : (R[k]).1 with
  | none =>
    have : ¬ blN tb R k := fun z => by
      have := iff.mp z
      unfold bel kindN at this
      rw [hm, decide_eq_true_eq] at this
      exact absurd (show (8 : Int32) = 7 from this) (by decide)
    exact ⟨fun _ => k0 this, fun z => absurd (show (-1 : Int32) < 0 by decide) z⟩
  | some m =>
    have hmn := hB _ (List.mem_of_getElem? hx) m hm
    have e0 : o.2.2 1 m = tb 0 m := congrFun (T 0 (by omega)) m
    have iff2 : blN tb R k ↔ tb 0 m = 7 := by
      rw [iff]; unfold bel kindN; rw [hm, decide_eq_true_eq]
    show (nI m < 0 → P 0 o) ∧ (¬ nI m < 0 → vp_in (nI m) 30 ∧ ((¬ o.2.2 1 (nI m).toNatClampNeg = 7 → P 0 o) ∧ (o.2.2 1 (nI m).toNatClampNeg = 7 → P 1 o)))
    rw [nI_clamp (by omega), e0]
    exact ⟨fun z => absurd z (nI_pos (by omega)), fun _ => ⟨vp_in_nI (by omega) (by omega), fun z => k0 (fun y => z (iff2.mp y)), fun z => k1 (iff2.mpr z)⟩⟩
theorem RowM.of {o o2 : Ob} {t : Nat} {R : List Nd} (h : RowM o t R) (e : o2.2.2 = o.2.2) : RowM o2 t R := by
  unfold RowM
  rw [e]; exact h
/-- the search for the innermost BELOW that ends here -/
theorem m_nxL (hw : ∀ m, m < nm → MkWF tb nc m) (hn : nm ≤ 30) {t a : Nat} {R : List Nd} {ts : List (Option Nat)} {K Post : Ob → Prop} (hB : BN nm R) (hc : CF tb R ts) (ha : a ≤ 1000) {o : Ob} (S : BS tb nm nc o t R) (h43 : o.2.1 43 = 0) : ∀ (u : Nat), u ≤ R.length →
    (∀ k, k < u → blN tb R k → enN tb R k = a → (∀ k', k < k' → k' < u → ¬ (blN tb R k' ∧ enN tb R k' = a)) → K (o.1, upd (upd o.2.1 42 (nI k)) 43 1, o.2.2)) → ((∀ k, k < u → ¬ (blN tb R k ∧ enN tb R k = a)) → K o) → w_X10_nextSite_L59 (nI a) K Post (u + 2) (nI u - 1) o := by
  have hl := S.2.2.1.2.1
  intro u
  induction u with
  | zero => intro _ _ k0; exact ⟨fun _ => k0 (fun k hk => absurd hk (Nat.not_lt_zero _)), fun z => absurd (show nI 0 - 1 < 0 by decide) z⟩
  | succ u ih =>
    intro hu k1 k0
    rw [nI_pred]
    refine ⟨fun z => absurd z (nI_pos (by omega)), fun _ => ⟨fun z => absurd h43 z, fun _ => ?_⟩⟩
    have go : ¬ (blN tb R u ∧ enN tb R u = a) → w_X10_nextSite_L59 (nI a) K Post (u + 2) (nI u + (-1)) o := by
      intro hno
      rw [neg1]
      refine ih (by omega) (fun k hk b e h => k1 k (by omega) b e (fun k' h1 h2 => ?_)) (fun h => k0 (fun k hk => ?_))
      · rcases Nat.lt_or_ge k' u with q | q
        · exact h k' h1 q
        · rw [show k' = u by omega]; exact hno
      · rcases Nat.lt_or_ge k u with q | q
        · exact h k q
        · rw [show k = u by omega]; exact hno
    refine m_isB hw hn S hB (by omega) (fun b => jn_mk ⟨fun z => absurd z (by decide), fun _ => ?_⟩) (fun b => jn_mk ⟨fun _ => go (fun z => b z.1), fun z => absurd rfl z⟩)
    obtain ⟨T, ht, hr, h41⟩ := S
    rw [h41]
    have el := enN_le (tb := tb) (R := R) (k := u) (by omega)
    refine m_endOf hw hn T ht hr hB hc (by omega) ⟨fun z => go (fun y => z (by rw [y.2])), fun z => ?_⟩
    rw [nI_eq (by omega) (by omega)] at z
    have kk := k1 u (Nat.lt_succ_self u) b z (fun k' h1 h2 => absurd h1 (by omega))
    -- the flag is set: the loop ends
    rw [neg1]
    have e43 : ¬ (o.1, upd (upd o.2.1 42 (nI u)) 43 1, o.2.2).2.1 43 = 0 := by
      show ¬ upd (upd o.2.1 42 (nI u)) 43 1 43 = 0
      rw [pk_us]; decide
    exact ⟨fun _ => kk, fun _ => ⟨fun _ => kk, fun y => absurd y e43⟩⟩
def b2i (b : Bool) : Int32 := if b = true then 1 else 0
theorem m_nextSite (hw : ∀ m, m < nm → MkWF tb nc m) (hn : nm ≤ 30) {t : Nat} {R : List Nd} {ts : List (Option Nat)} {o : Ob} {s s2 : Nat × Bool} {Post : Ob → Prop} (hB : BN nm R) (hc : CF tb R ts) (S : BS tb nm nc o t R) (h42 : o.2.1 42 = nI s.1) (h43 : o.2.1 43 = b2i s.2) (hs : s.1 < R.length) (hx : NxS tb R s s2) (k : ∀ o2, o2.1 = o.1 → (∀ f, f ≠ 42 → f ≠ 43 → f ≠ 44 → o2.2.1 f = o.2.1 f) → o2.2.2 = o.2.2 → o2.2.1 42 = nI s2.1 → o2.2.1 43 = b2i s2.2 → o2.2.1 44 = 0 → Post o2) : w_X10_nextSite o Post := by
  obtain ⟨T, ht, hr, h41⟩ := id S
  have hl := hr.2.1
  -- from where the search goes
  have main : ∀ (a u : Nat) (z : Ob), a = atN tb R s → u = ouN s → a ≤ R.length → u ≤ R.length → z.1 = o.1 → (∀ f, f ≠ 42 → f ≠ 43 → f ≠ 44 → z.2.1 f = o.2.1 f) → z.2.2 = o.2.2 → z.2.1 43 = 0 → z.2.1 44 = 0 → ∃ n59, w_X10_nextSite_L59 (nI a) (fun (o_k107 : Ob) => jn (fun J123 : Int32 → Ob → Prop => (((o_k107.2.1 43) = 0) → J123 (nI a) o_k107) ∧ (¬ ((o_k107.2.1 43) = 0) → J123 (o_k107.2.1 42) o_k107)) (fun (z_123 : Int32) (o_123 : Ob) => Post ((o_123.1, (upd o_123.2.1 42 z_123), o_123.2.2)))) Post n59 (nI u - 1) z := by
    intro a u z ea eu hal hul z1 z2 z3 z43 z44
    have Sz : BS tb nm nc z t R := ⟨fun f hf => by rw [z3]; exact T f hf, ht, hr.of z3, (z2 41 (by omega) (by omega) (by omega)).trans h41⟩
    refine ⟨u + 2, m_nxL hw hn hB hc (by omega) Sz z43 u hul (fun q hq b e h => ?_) (fun h => ?_)⟩
    · rcases hx with ⟨x1, x2, x3, x4, x5⟩ | ⟨x1, x2, x3⟩
      · have eq : q = s2.1 := by
          rcases Nat.lt_trichotomy q s2.1 with y | y | y
          · exact absurd ⟨x3, x4.trans ea.symm⟩ (h s2.1 y (by rw [eu]; exact x2))
          · exact y
          · exact absurd ⟨b, e.trans ea⟩ (x5 q y (by rw [← eu]; exact hq))
        have e43 : (z.1, upd (upd z.2.1 42 (nI q)) 43 1, z.2.2).2.1 43 = 1 := (show upd (upd z.2.1 42 (nI q)) 43 1 43 = 1 from pk_us)
        refine jn_mk ⟨fun y => absurd (e43.symm.trans y) (by decide), fun _ => ?_⟩
        have e42 : (z.1, upd (upd z.2.1 42 (nI q)) 43 1, z.2.2).2.1 42 = nI q := by
          show upd (upd z.2.1 42 (nI q)) 43 1 42 = _
          rw [pk_un (by decide), pk_us]
        rw [e42]
        refine k (z.1, upd (upd (upd z.2.1 42 (nI q)) 43 1) 42 (nI q), z.2.2) z1 (fun f f1 f2 f3 => ?_) z3 ?_ ?_ ?_
        · show upd (upd (upd z.2.1 42 (nI q)) 43 1) 42 (nI q) f = _
          rw [pk_un f1, pk_un f2, pk_un f1]; exact z2 f f1 f2 f3
        · show upd (upd (upd z.2.1 42 (nI q)) 43 1) 42 (nI q) 42 = _
          rw [pk_us, eq]
        · show upd (upd (upd z.2.1 42 (nI q)) 43 1) 42 (nI q) 43 = _
          rw [pk_un (by decide), pk_us, x1]; rfl
        · show upd (upd (upd z.2.1 42 (nI q)) 43 1) 42 (nI q) 44 = _
          rw [pk_un (by decide), pk_un (by decide), pk_un (by decide)]; exact z44
      · exact absurd ⟨b, e.trans ea⟩ (x3 q (by rw [← eu]; exact hq))
    · rcases hx with ⟨x1, x2, x3, x4, x5⟩ | ⟨x1, x2, x3⟩
      · exact absurd ⟨x3, x4.trans ea.symm⟩ (h s2.1 (by rw [eu]; exact x2))
      · refine jn_mk ⟨fun _ => ?_, fun y => absurd z43 y⟩
        refine k (z.1, upd z.2.1 42 (nI a), z.2.2) z1 (fun f f1 f2 f3 => ?_) z3 ?_ ?_ ?_
        · show upd z.2.1 42 (nI a) f = _
          rw [pk_un f1]; exact z2 f f1 f2 f3
        · show upd z.2.1 42 (nI a) 42 = _
          rw [pk_us, x2, ea]
        · show upd z.2.1 42 (nI a) 43 = _
          rw [pk_un (by decide), x1]; exact z43
        · show upd z.2.1 42 (nI a) 44 = _
          rw [pk_un (by decide)]; exact z44
  have ex := enN_le (tb := tb) hs
  unfold w_X10_nextSite
  cases hb : s.2 with
  | false =>
    rw [hb] at h43
    have h43 : o.2.1 43 = 0 := h43
    rw [h43, h42, nI_1]
    refine jn_mk ⟨fun _ => ?_, fun y => absurd rfl y⟩
    have e43 : (o.1, upd o.2.1 44 0, o.2.2).2.1 43 = 0 := (show upd o.2.1 44 0 43 = 0 from (pk_un (by decide)).trans h43)
    refine jn_mk ⟨fun _ => ?_, fun y => absurd e43 y⟩
    refine main (s.1 + 1) (s.1 + 1) (o.1, upd (upd o.2.1 44 0) 43 0, o.2.2) (by unfold atN; rw [hb]; rfl) (by unfold ouN; rw [hb]; rfl) (by omega) (by omega) rfl (fun f f1 f2 f3 => ?_) rfl ?_ ?_
    · show upd (upd o.2.1 44 0) 43 0 f = _
      rw [pk_un f2, pk_un f3]
    · show upd (upd o.2.1 44 0) 43 0 43 = _
      exact pk_us
    · show upd (upd o.2.1 44 0) 43 0 44 = _
      rw [pk_un (by decide), pk_us]
  | true =>
    rw [hb] at h43
    have h43 : o.2.1 43 = 1 := h43
    rw [h43, h42, h41]
    refine jn_mk ⟨fun y => absurd y (by decide), fun _ => ?_⟩
    refine m_endOf (o := (o.1, upd o.2.1 44 0, o.2.2)) hw hn T ht (hr.of rfl) hB hc hs ?_
    have e43 : (o.1, upd o.2.1 44 0, o.2.2).2.1 43 = 1 := (show upd o.2.1 44 0 43 = 1 from (pk_un (by decide)).trans h43)
    have e42 : (o.1, upd o.2.1 44 0, o.2.2).2.1 42 = nI s.1 := (show upd o.2.1 44 0 42 = nI s.1 from (pk_un (by decide)).trans h42)
    refine jn_mk ⟨fun y => absurd (e43.symm.trans y) (by decide), fun _ => ?_⟩
    rw [e42]
    refine main (enN tb R s.1) s.1 (o.1, upd (upd o.2.1 44 0) 43 0, o.2.2) (by unfold atN; rw [hb]; rfl) (by unfold ouN; rw [hb]; rfl) (by omega) (by omega) rfl (fun f f1 f2 f3 => ?_) rfl ?_ ?_
    · show upd (upd o.2.1 44 0) 43 0 f = _
      rw [pk_un f2, pk_un f3]
    · show upd (upd o.2.1 44 0) 43 0 43 = _
      exact pk_us
    · show upd (upd o.2.1 44 0) 43 0 44 = _
      rw [pk_un (by decide), pk_us]
end
