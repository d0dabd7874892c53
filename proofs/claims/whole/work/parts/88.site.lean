/-! THE NEXT SITE -/
def enN (tb : Tb) (R : List Nd) (k : Nat) : Nat := k + tlN tb (R.drop k) 1
def blN (tb : Tb) (R : List Nd) (k : Nat) : Prop := ∃ x, R[k]? = some x ∧ bel tb x = true
def atN (tb : Tb) (R : List Nd) (s : Nat × Bool) : Nat := if s.2 = true then enN tb R s.1 else s.1 + 1
def ouN (s : Nat × Bool) : Nat := if s.2 = true then s.1 else s.1 + 1
def NxS (tb : Tb) (R : List Nd) (s s2 : Nat × Bool) : Prop := (s2.2 = true ∧ s2.1 < ouN s ∧ blN tb R s2.1 ∧ enN tb R s2.1 = atN tb R s ∧ ∀ k, s2.1 < k → k < ouN s → ¬ (blN tb R k ∧ enN tb R k = atN tb R s)) ∨ (s2.2 = false ∧ s2.1 = atN tb R s ∧ ∀ k, k < ouN s → ¬ (blN tb R k ∧ enN tb R k = atN tb R s))
theorem CF_drop {tb : Tb} : ∀ (L : List Nd) (ts : List (Option Nat)) (k : Nat), CF tb L ts → ∃ ts', CF tb (L.drop k) ts' := by
  intro L
  induction L with
  | nil => intro ts k h; exact ⟨ts, by rw [List.drop_nil]; exact h⟩
  | cons x L ih =>
    intro ts k h
    cases k with
    | zero => exact ⟨ts, h⟩
    | succ k =>
      obtain ⟨t, ts', rfl, hk, h⟩ := h
      exact ih _ k h
theorem tlN_app {tb : Tb} {B : List Nd} : ∀ (L : List Nd) (ts : List (Option Nat)) (j : Nat), CF tb L ts → j ≤ ts.length → tlN tb (L ++ B) j = tlN tb L j := by
  intro L
  induction L with
  | nil => intro ts j h hj; rw [show ts = [] from h] at hj; rw [show j = 0 by have : j ≤ 0 := hj; omega, tlN_0, tlN_0]
  | cons x L ih =>
    intro ts j h hj
    obtain ⟨t, ts', rfl, hk, h⟩ := h
    cases j with
    | zero => rfl
    | succ j =>
      rw [List.length_cons] at hj
      rw [List.cons_append, tlN_s, tlN_s, ih _ _ h (by rw [List.length_append]; unfold arN; omega)]
theorem tlN_le {tb : Tb} : ∀ (L : List Nd) (k : Nat), tlN tb L k ≤ L.length := by
  intro L
  induction L with
  | nil => intro k; exact Nat.le_refl _
  | cons x L ih =>
    intro k
    cases k with
    | zero => exact Nat.zero_le _
    | succ k => have := ih (k + arN tb x); rw [tlN_s, List.length_cons]; omega
theorem tlN_tree {tb : Tb} {x : Nd} {L1 L2 : List Nd} (h1 : CF tb L1 (kidsT tb x)) : tlN tb (x :: (L1 ++ L2)) 1 = 1 + L1.length := by
  have := CF_tl L1 _ L2 0 h1
  rw [tlN_0, Nat.zero_add] at this
  rw [show (1 : Nat) = 0 + 1 from rfl, tlN_s, show 0 + arN tb x = (kidsT tb x).length by unfold arN; omega, this]; omega
def Cha (tb : Tb) (R : List Nd) (S : List (Nat × Bool)) : Prop := ∀ i s s2, S[i]? = some s → S[i + 1]? = some s2 → NxS tb R s s2
theorem Cha_app {tb : Tb} {R : List Nd} {A B : List (Nat × Bool)} (h1 : Cha tb R A) (h2 : Cha tb R B) (h : ∀ s s2, A.getLast? = some s → B.head? = some s2 → NxS tb R s s2) : Cha tb R (A ++ B) := by
  intro i s s2 e1 e2
  rcases Nat.lt_or_ge (i + 1) A.length with q | q
  · rw [List.getElem?_append_left q] at e2
    rw [List.getElem?_append_left (by omega)] at e1
    exact h1 i s s2 e1 e2
  · rcases Nat.lt_or_ge i A.length with q2 | q2
    · rw [List.getElem?_append_left q2] at e1
      rw [List.getElem?_append_right q, show i + 1 - A.length = 0 by omega] at e2
      refine h s s2 ?_ ?_
      · rw [List.getLast?_eq_getElem?, show A.length - 1 = i by omega]; exact e1
      · rw [List.head?_eq_getElem?]; exact e2
    · rw [List.getElem?_append_right q2] at e1
      rw [List.getElem?_append_right q, show i + 1 - A.length = (i - A.length) + 1 by omega] at e2
      exact h2 _ s s2 e1 e2
theorem Cha_1 {tb : Tb} {R : List Nd} {s : Nat × Bool} : Cha tb R [s] := fun i a b _ e2 => nomatch e2
theorem Cha_0 {tb : Tb} {R : List Nd} : Cha tb R [] := fun i a b _ e2 => nomatch e2
theorem stN_head {tb : Tb} {x : Nd} {L : List Nd} {p : Nat} : (stN tb (x :: L) p).head? = some (p, false) := rfl
def SiP (tb : Tb) (R : List Nd) (L : List Nd) (p : Nat) : Prop := Cha tb R (stN tb L p) ∧ ∀ s, (stN tb L p).getLast? = some s → p ≤ s.1 ∧ atN tb R s = p + L.length ∧ ∀ k, p ≤ k → k < ouN s → ¬ (blN tb R k ∧ enN tb R k = p + L.length)
theorem last_app {α : Type} {A B : List α} {s : α} (h : (A ++ B).getLast? = some s) : (B = [] ∧ A.getLast? = some s) ∨ (B ≠ [] ∧ B.getLast? = some s) := by
  cases B with
  | nil => rw [List.append_nil] at h; exact Or.inl ⟨rfl, h⟩
  | cons b B =>
    cases hh : (b :: B).getLast? with
    | none => simp at hh
    | some v =>
      rw [List.getLast?_append, hh] at h
      exact Or.inr ⟨by simp, h⟩
set_option maxHeartbeats 2000000 in
theorem sites {tb : Tb} {R : List Nd} (hk7 : ∀ x ∈ R, bel tb x = true → ¬ kidsT tb x = []) (L : List Nd) (ts : List (Option Nat)) (hc : CF tb L ts) : ∀ p, (∀ k, k < L.length → R[p + k]? = L[k]?) → (∀ k, k < L.length → enN tb R (p + k) = p + k + tlN tb (L.drop k) 1) → (∀ k, k < p → enN tb R k ≤ p ∨ p + L.length ≤ enN tb R k) → SiP tb R L p := by
  refine CF_ind (P := fun L ts => ∀ p, (∀ k, k < L.length → R[p + k]? = L[k]?) → (∀ k, k < L.length → enN tb R (p + k) = p + k + tlN tb (L.drop k) 1) → (∀ k, k < p → enN tb R k ≤ p ∨ p + L.length ≤ enN tb R k) → SiP tb R L p) ?_ ?_ L.length L ts (Nat.le_refl _) hc
  · intro p _ _ _; exact ⟨Cha_0, fun s h => nomatch h⟩
  · intro x t ts L1 L2 hk h1 P1 h2 P2 p H1 H2 H3
    have ll : (x :: (L1 ++ L2)).length = L1.length + L2.length + 1 := by rw [List.length_cons, List.length_append]
    rw [ll] at H1 H2 H3
    have rp : R[p]? = some x := by have := H1 0 (by omega); rw [Nat.add_zero] at this; exact this
    have ep : enN tb R p = p + 1 + L1.length := by
      have := H2 0 (by omega)
      rw [Nat.add_zero, List.drop_zero, tlN_tree h1] at this
      rw [this]; omega
    have bp : blN tb R p ↔ bel tb x = true := ⟨fun ⟨y, hy, hb⟩ => by rw [rp] at hy; cases hy; exact hb, fun hb => ⟨x, rp, hb⟩⟩
    have e1 : ∀ k, k < L1.length → enN tb R (p + 1 + k) = p + 1 + k + tlN tb (L1.drop k) 1 := by
      intro k hk1
      have := H2 (k + 1) (by omega)
      rw [show p + (k + 1) = p + 1 + k by omega, List.drop_succ_cons, List.drop_append, show k - L1.length = 0 by omega, List.drop_zero] at this
      obtain ⟨ts', hd⟩ := CF_drop L1 _ k h1
      have : enN tb R (p + 1 + k) = p + 1 + k + tlN tb (L1.drop k ++ L2) 1 := this
      rw [tlN_app _ ts' 1 hd] at this
      · exact this
      · cases ts' with
        | nil =>
          have hl : (L1.drop k).length = 0 := by
            cases hL : L1.drop k with
            | nil => rfl
            | cons y M => rw [hL] at hd; obtain ⟨t', ts'', e, -⟩ := hd; cases e
          rw [List.length_drop] at hl; omega
        | cons a b => rw [List.length_cons]; omega
    have e2 : ∀ k, k < L2.length → enN tb R (p + 1 + L1.length + k) = p + 1 + L1.length + k + tlN tb (L2.drop k) 1 := by
      intro k hk1
      have := H2 (L1.length + k + 1) (by omega)
      rw [show p + (L1.length + k + 1) = p + 1 + L1.length + k by omega, List.drop_succ_cons, drop_mid] at this
      exact this
    have g1 : ∀ k, k < L1.length → enN tb R (p + 1 + k) ≤ p + 1 + L1.length := by
      intro k hk1
      have := tlN_le (tb := tb) (L1.drop k) 1
      rw [List.length_drop] at this
      rw [e1 k hk1]; omega
    have I1 : SiP tb R L1 (p + 1) := P1 (p + 1) (fun k hk1 => by
      have := H1 (k + 1) (by omega)
      rw [show p + (k + 1) = p + 1 + k by omega] at this
      rw [this]; show (L1 ++ L2)[k]? = _; rw [List.getElem?_append_left hk1]) e1 (fun k hk1 => by
      rcases Nat.lt_or_ge k p with q | q
      · rcases H3 k q with z | z <;> omega
      · rw [show k = p by omega, ep]; omega)
    have I2 : SiP tb R L2 (p + 1 + L1.length) := P2 (p + 1 + L1.length) (fun k hk1 => by
      have := H1 (L1.length + k + 1) (by omega)
      rw [show p + (L1.length + k + 1) = p + 1 + L1.length + k by omega] at this
      rw [this]; show (L1 ++ L2)[L1.length + k]? = _; rw [List.getElem?_append_right (by omega), show L1.length + k - L1.length = k by omega]) e2 (fun k hk1 => by
      rcases Nat.lt_or_ge k p with q | q
      · rcases H3 k q with z | z <;> omega
      · rcases Nat.lt_or_ge p k with q2 | q2
        · have := g1 (k - (p + 1)) (by omega)
          rw [show p + 1 + (k - (p + 1)) = k by omega] at this
          exact Or.inl this
        · rw [show k = p by omega, ep]; omega)
    have kl : bel tb x = true → L1 ≠ [] := fun hb e => by
      subst e
      exact hk7 x (List.mem_of_getElem? rp) hb h1
    have n0 : ∀ k, k < p → ∀ a, p < a → a < p + (L1.length + L2.length + 1) → ¬ (blN tb R k ∧ enN tb R k = a) := by
      rintro k hk1 a ha1 ha2 ⟨-, z⟩
      rcases H3 k hk1 with y | y <;> omega
    rw [SiP, stN_tree h1]
    have eS : (p, false) :: (stN tb L1 (p + 1) ++ resS tb x p ++ stN tb L2 (p + 1 + L1.length)) = [(p, false)] ++ (stN tb L1 (p + 1) ++ (resS tb x p ++ stN tb L2 (p + 1 + L1.length))) := by
      rw [List.append_assoc]; rfl
    rw [eS]
    -- the head of what stands behind
    have hd2 : ∀ s2, (stN tb L2 (p + 1 + L1.length)).head? = some s2 → s2 = (p + 1 + L1.length, false) ∧ 0 < L2.length := by
      intro s2 h
      cases L2 with
      | nil => cases h
      | cons y M => cases h; exact ⟨rfl, by rw [List.length_cons]; omega⟩
    have hres : (bel tb x = true ∧ resS tb x p = [(p, true)]) ∨ (bel tb x = false ∧ resS tb x p = []) := by
      unfold resS
      cases bel tb x
      · exact Or.inr ⟨rfl, rfl⟩
      · exact Or.inl ⟨rfl, rfl⟩
    refine ⟨Cha_app Cha_1 (Cha_app I1.1 (Cha_app ?_ I2.1 ?_) ?_) ?_, ?_⟩
    · rcases hres with ⟨-, e⟩ | ⟨-, e⟩
      · rw [e]; exact Cha_1
      · rw [e]; exact Cha_0
    · intro s s2 l1 l2
      rcases hres with ⟨hb, e⟩ | ⟨hb, e⟩
      · rw [e] at l1; cases l1
        obtain ⟨rfl, hl⟩ := hd2 s2 l2
        refine Or.inr ⟨rfl, ?_, fun k hk1 => ?_⟩
        · show p + 1 + L1.length = enN tb R p; rw [ep]
        · show ¬ (blN tb R k ∧ enN tb R k = enN tb R p)
          rw [ep]
          exact n0 k hk1 _ (by omega) (by omega)
      · rw [e] at l1; cases l1
    · intro s s2 l1 l2
      obtain ⟨b0, b1, b2⟩ := I1.2 s l1
      have hL1 : L1 ≠ [] := fun z => by subst z; cases l1
      have ho : p < ouN s := by unfold ouN; split <;> omega
      rcases hres with ⟨hb, e⟩ | ⟨hb, e⟩
      · rw [e] at l2; cases l2
        refine Or.inl ⟨rfl, ho, bp.mpr hb, by rw [ep, b1], fun k hk1 hk2 => ?_⟩
        rw [b1]; exact b2 k (by show p + 1 ≤ k; exact hk1) hk2
      · rw [e, List.nil_append] at l2
        obtain ⟨rfl, hl⟩ := hd2 s2 l2
        refine Or.inr ⟨rfl, by rw [b1], fun k hk1 => ?_⟩
        rw [b1]
        rcases Nat.lt_or_ge k p with q | q
        · exact n0 k q _ (by omega) (by omega)
        · rcases Nat.lt_or_ge p k with q2 | q2
          · exact b2 k (by omega) hk1
          · rw [show k = p by omega]
            rintro ⟨z, -⟩
            rw [bp.mp z] at hb; cases hb
    · intro s s2 l1 l2
      cases l1
      cases hL : L1 with
      | nil =>
        subst hL
        rcases hres with ⟨hb, e⟩ | ⟨hb, e⟩
        · exact absurd rfl (kl hb)
        · rw [e] at l2
          obtain ⟨rfl, hl⟩ := hd2 s2 l2
          refine Or.inr ⟨rfl, rfl, fun k hk1 => ?_⟩
          have hk1 : k < p + 1 := hk1
          show ¬ (blN tb R k ∧ enN tb R k = p + 1)
          rcases Nat.lt_or_ge k p with q | q
          · exact n0 k q _ (by omega) (by show p + 1 < p + (0 + L2.length + 1); omega)
          · rw [show k = p by omega]
            rintro ⟨z, -⟩
            rw [bp.mp z] at hb; cases hb
      | cons y M =>
        rw [hL] at l2 ep n0
        cases l2
        refine Or.inr ⟨rfl, rfl, fun k hk1 => ?_⟩
        have hk1 : k < p + 1 := hk1
        show ¬ (blN tb R k ∧ enN tb R k = p + 1)
        rw [List.length_cons] at ep n0
        rcases Nat.lt_or_ge k p with q | q
        · exact n0 k q _ (by omega) (by omega)
        · rw [show k = p by omega, ep]
          rintro ⟨-, z⟩; omega
    · intro s ls
      rw [ll]
      have p2 : ∀ k, p ≤ k → k < p + 1 + L1.length → 0 < L2.length → ¬ (blN tb R k ∧ enN tb R k = p + (L1.length + L2.length + 1)) := by
        rintro k hk1 hk2 hl ⟨-, z⟩
        rcases Nat.lt_or_ge p k with q2 | q2
        · have := g1 (k - (p + 1)) (by omega)
          rw [show p + 1 + (k - (p + 1)) = k by omega] at this
          omega
        · rw [show k = p by omega, ep] at z; omega
      rcases last_app ls with ⟨hb, l1⟩ | ⟨-, l1⟩
      · cases l1
        rw [List.append_eq_nil_iff, List.append_eq_nil_iff] at hb
        obtain ⟨z1, z2, z3⟩ := hb
        have n1 : L1.length = 0 := by have := stN_len (tb := tb) L1 (p + 1); rw [z1] at this; have c := cenc_len (tb := tb) (x := x) (L := L1); cases L1 with
          | nil => rfl
          | cons y M => rw [cenc_len] at this; have : 0 = _ := this; omega
        have n2 : L2.length = 0 := by have := stN_len (tb := tb) L2 (p + 1 + L1.length); rw [z3] at this; cases L2 with
          | nil => rfl
          | cons y M => rw [cenc_len] at this; have : 0 = _ := this; omega
        refine ⟨Nat.le_refl _, by show p + 1 = _; omega, fun k hk1 hk2 => ?_⟩
        have hk2 : k < p + 1 := hk2
        rw [show k = p by omega]
        rintro ⟨z, -⟩
        rcases hres with ⟨hb, e⟩ | ⟨hb, e⟩
        · rw [e] at z2; cases z2
        · rw [bp.mp z] at hb; cases hb
      · rcases last_app l1 with ⟨hb, l1⟩ | ⟨-, l1⟩
        · rw [List.append_eq_nil_iff] at hb
          obtain ⟨z2, z3⟩ := hb
          have n2 : L2.length = 0 := by have := stN_len (tb := tb) L2 (p + 1 + L1.length); rw [z3] at this; cases L2 with
            | nil => rfl
            | cons y M => rw [cenc_len] at this; have : 0 = _ := this; omega
          obtain ⟨b0, b1, b2⟩ := I1.2 s l1
          refine ⟨by omega, by rw [b1]; omega, fun k hk1 hk2 => ?_⟩
          rw [show p + (L1.length + L2.length + 1) = p + 1 + L1.length by omega]
          rcases Nat.lt_or_ge p k with q2 | q2
          · exact b2 k (by omega) hk2
          · rw [show k = p by omega]
            rintro ⟨z, -⟩
            rcases hres with ⟨hb, e⟩ | ⟨hb, e⟩
            · rw [e] at z2; cases z2
            · rw [bp.mp z] at hb; cases hb
        · rcases last_app l1 with ⟨z3, l1⟩ | ⟨-, l1⟩
          · have n2 : L2.length = 0 := by have := stN_len (tb := tb) L2 (p + 1 + L1.length); rw [z3] at this; cases L2 with
              | nil => rfl
              | cons y M => rw [cenc_len] at this; have : 0 = _ := this; omega
            rcases hres with ⟨hb, e⟩ | ⟨hb, e⟩
            · rw [e] at l1; cases l1
              refine ⟨Nat.le_refl _, by show enN tb R p = _; rw [ep]; omega, fun k hk1 hk2 => absurd (show k < p from hk2) (by omega)⟩
            · rw [e] at l1; cases l1
          · obtain ⟨b0, b1, b2⟩ := I2.2 s l1
            have hl2 : 0 < L2.length := by
              cases L2 with
              | nil => cases l1
              | cons y M => rw [List.length_cons]; omega
            refine ⟨by omega, by rw [b1]; omega, fun k hk1 hk2 => ?_⟩
            rcases Nat.lt_or_ge k (p + 1 + L1.length) with q | q
            · exact p2 k hk1 q hl2
            · rw [show p + (L1.length + L2.length + 1) = p + 1 + L1.length + L2.length by omega]
              exact b2 k q hk2
