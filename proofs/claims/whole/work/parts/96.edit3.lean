/-! EDITS: a shuffled row -/
def desc (l : List Int32) : Nat → Nat
  | 0 => 0
  | k + 1 => desc l k + (if l.getD (k + 1) 0 < l.getD k 0 then 1 else 0)
theorem desc_le {l : List Int32} : ∀ {j k : Nat}, j ≤ k → desc l j ≤ desc l k := by
  intro j k h
  induction k with
  | zero => rw [show j = 0 by omega]; exact Nat.le_refl _
  | succ k ih =>
    rcases Nat.lt_or_ge k j with q | q
    · rw [show j = k + 1 by omega]; exact Nat.le_refl _
    · exact Nat.le_trans (ih q) (Nat.le_add_right _ _)
theorem desc_b {l : List Int32} : ∀ k, desc l k ≤ k := by
  intro k
  induction k with
  | zero => exact Nat.le_refl _
  | succ k ih =>
    show desc l k + (if l.getD (k + 1) 0 < l.getD k 0 then 1 else 0) ≤ k + 1
    split <;> omega
theorem TrF.plf {kt : Ob} {p : Nat} {par : Int32} {l : List Int32} (h : TrF kt p par (pl l)) : PlF kt p par l := by
  intro i v hv'
  have hi := (List.getElem?_eq_some_iff.mp hv').1
  obtain ⟨a0, a1, a2, a3, a4⟩ := h i (8, v, 0) (by unfold pl; rw [List.getElem?_map, hv']; rfl)
  rw [pl_par (by omega) i (Nat.le_refl _)] at a3
  rw [pl_en hi] at a4
  exact ⟨a0, a1, a2, a3, a4⟩
section
variable {ck : Nat → Ob} {tb : Tb} {nm nc : Nat}
theorem CF_pln : ∀ (n : Nat) (L : List Nd), CF tb L (List.replicate n none) → ∃ l, L = plN l ∧ l.length = n := by
  intro n
  induction n with
  | zero =>
    intro L h
    cases L with
    | nil => exact ⟨[], rfl, rfl⟩
    | cons y L => obtain ⟨t, ts, e, -⟩ := h; cases e
  | succ n ih =>
    intro L h
    cases L with
    | nil => exact absurd (show List.replicate (n + 1) none = ([] : List (Option Nat)) from h) (by intro z; cases z)
    | cons y L =>
      obtain ⟨t, ts, e, hk, h⟩ := h
      cases e
      have hy : y = (none, y.2) := Prod.ext hk.1 rfl
      rw [hy, kids_n] at h
      obtain ⟨l, rfl, e⟩ := ih L h
      exact ⟨y.2 :: l, by rw [hy]; rfl, by rw [List.length_cons, e]⟩
/-- what comes behind a maker's case is no leaf of a shuffled row -/
theorem aft (hw : ∀ m, m < nm → MkWF tb nc m) {kt : Ob} {r : Option Nat} : ∀ (c : List Frm) (t : Option Nat) (T : List Nd) (s : Nat), (∃ a, t = some a) → CFx tb c t r → BN nm (fil c T) → OutC tb kt c s → posC tb c + s = outN tb c s ∨ (posC tb c + s < outN tb c s ∧ ¬ kt.2.2 0 (posC tb c + s) = 8) := by
  intro c
  induction c with
  | nil => intro t T s _ _ _ _; exact Or.inl (by show 0 + s = s; omega)
  | cons f c ih =>
    intro t T s ht h1 hB hO
    obtain ⟨a, rfl⟩ := ht
    obtain ⟨u, pre, post, o1, o2, o3, o4, o5⟩ := h1
    obtain ⟨q1, q2, q3, q4⟩ := hO
    obtain ⟨b0, b1, b2, b3⟩ := BN_f (BN_hole (c := c) (show BN nm (fil c (fil1 f T)) from hB))
    have eu : f.1.1 = u := o1.1
    cases u with
    | none =>
      have hx : f.1 = (none, f.1.2) := Prod.ext eu rfl
      rw [hx, kids_n] at o2
      have := congrArg List.length o2
      rw [List.length_append, List.length_cons] at this
      have : 0 = pre.length + (post.length + 1) := this
      omega
    | some v =>
      have W := hw v (b0 v eu)
      have hx : f.1 = (some v, f.1.2) := Prod.ext eu rfl
      have n6 : ¬ tb 0 v = 6 := by
        intro z
        have hm : some a ∈ kidsT tb f.1 := by rw [o2]; exact List.mem_append_right _ List.mem_cons_self
        rw [hx, kids_6 z, List.mem_replicate] at hm
        cases hm.2
      have kidsome : ∀ t' ∈ kidsT tb f.1, ∃ b, t' = some b := by
        intro t' ht'
        rw [hx] at ht'
        rcases kind_cases W with q | q | q | q | q | q | q | q
        · rw [kids_0 q] at ht'; cases ht'
        · rw [kids_1 q, List.mem_replicate] at ht'; exact ⟨_, ht'.2⟩
        · rw [kids_2 q] at ht'
          rcases List.mem_cons.mp ht' with rfl | ht'
          · exact ⟨_, rfl⟩
          · rcases List.mem_cons.mp ht' with rfl | ht'
            · exact ⟨_, rfl⟩
            · cases ht'
        · rw [kids_3 q] at ht'
          rcases List.mem_cons.mp ht' with rfl | ht'
          · exact ⟨_, rfl⟩
          · cases ht'
        · rw [kids_4 q] at ht'
          rcases List.mem_cons.mp ht' with rfl | ht'
          · exact ⟨_, rfl⟩
          · cases ht'
        · rw [kids_5 q] at ht'
          rcases List.mem_cons.mp ht' with rfl | ht'
          · exact ⟨_, rfl⟩
          · cases ht'
        · exact absurd q n6
        · rw [kids_7 q] at ht'
          rcases List.mem_cons.mp ht' with rfl | ht'
          · exact ⟨_, rfl⟩
          · cases ht'
      have hp : posC tb (f :: c) = posC tb c + 1 + (cenc tb f.2.1).length := rfl
      have hz : szF tb f s = 1 + ((cenc tb f.2.1).length + s + ((cenc tb f.2.2).length + (resT tb f.1).length)) := rfl
      have ho : outN tb (f :: c) s = outN tb c (szF tb f s) := rfl
      have hge := (outN_ge (tb := tb) c (szF tb f s)).1
      cases hF : f.2.2 with
      | nil =>
        rw [hF] at q3 hz
        have hz : szF tb f s = 1 + ((cenc tb f.2.1).length + s + (0 + (resT tb f.1).length)) := hz
        cases hR : resT tb f.1 with
        | nil =>
          rw [hR] at hz
          have hz : szF tb f s = 1 + ((cenc tb f.2.1).length + s + (0 + 0)) := hz
          have := ih (some v) (fil1 f T) (szF tb f s) ⟨v, rfl⟩ o5 hB q4
          rw [hp, ho]
          rw [show posC tb c + szF tb f s = posC tb c + 1 + (cenc tb f.2.1).length + s by omega] at this
          exact this
        | cons z Z =>
          rw [hR] at q3 hz
          rw [List.length_cons] at hz
          right
          refine ⟨by rw [hp, ho]; omega, ?_⟩
          obtain ⟨a0, -⟩ := q3 0 z rfl
          rw [Nat.add_zero] at a0
          rw [hp, a0]
          have hz9 : z.1 = 9 := by
            unfold resT at hR
            cases hb : bel tb f.1
            · rw [hb, if_neg (by decide)] at hR; cases hR
            · rw [hb, if_pos rfl] at hR; cases hR; rfl
          rw [hz9]; decide
      | cons y Y =>
        rw [hF] at q3 hz o4 b2
        have lc : (cenc tb (y :: Y)).length = 1 + (if bel tb y then 1 else 0) + (cenc tb Y).length := cenc_len
        right
        refine ⟨by rw [hp, ho]; omega, ?_⟩
        obtain ⟨a0, -⟩ := q3 0 (cnN tb y) (by rw [cenc_c]; rfl)
        rw [Nat.add_zero] at a0
        rw [hp, a0, cn1_k]
        obtain ⟨t', ts', e', hk', -⟩ := o4
        obtain ⟨b, rfl⟩ := kidsome t' (by rw [o2, e']; exact List.mem_append_right _ (List.mem_cons_of_mem _ List.mem_cons_self))
        rw [kind_some hk'.1]
        exact kind_n8 (hw b (b2 y List.mem_cons_self b hk'.1))
/-- the reference looks for the k-th pair in the wrong order -/
theorem m_shcL {tr q n k0 : Nat} {l : List Int32} {R : List Nd} {o : Ob} {K : Int32 → Int32 → Ob → Prop} {Post : Int32 → Ob → Prop} (S : BS tb nm nc o tr R) (hl : l.length = n) (hn : n ≤ 24) (hq : q + 1 + n ≤ R.length) (hv' : ∀ j, j < n → o.2.2 10 (1000 * tr + (q + 1 + j)) = l.getD j 0)
    (kf : k0 + 1 < n → l.getD (k0 + 1) 0 < l.getD k0 0 → K (nI k0) (nI (1000 * tr + (q + 1 + k0))) o) (kn : k0 + 1 = n → Post 0 o) (hk : (k0 + 1 < n ∧ l.getD (k0 + 1) 0 < l.getD k0 0) ∨ k0 + 1 = n) : ∀ (d j : Nat), j + d = k0 → w_X10_shuffleChange_L8 (nI q) (nI n) K Post (d + 1) (nI (desc l k0 - desc l j)) (nI j) o := by
  obtain ⟨T, ht, hr, h41⟩ := S
  have hl2 := hr.2.1
  intro d
  induction d with
  | zero =>
    intro j hj
    obtain rfl : j = k0 := by omega
    rw [Nat.sub_self]
    rcases hk with ⟨h1, h2⟩ | h1
    · refine ⟨fun z => absurd z (by rw [nI_1, nI_leI (by omega) (by omega)]; omega), fun _ => ?_⟩
      rw [h41, idx_nI, nI_1, nI_add, nI_1, show 1000 * tr + q + 1 + j = 1000 * tr + (q + 1 + j) by omega, show 1000 * tr + (q + 1 + j) + 1 = 1000 * tr + (q + 1 + (j + 1)) by omega, nI_clamp (by omega), nI_clamp (by omega), hv' j (by omega), hv' (j + 1) h1]
      exact ⟨vp_in_nI (by omega) (by omega), vp_in_nI (by omega) (by omega), jn_mk ⟨fun z => absurd z (Int32.not_le.mpr h2), fun _ => ⟨fun z => absurd (show nI 0 = 0 from rfl) z, fun _ => kf h1 h2⟩⟩⟩
    · exact ⟨fun _ => kn h1, fun z => absurd (show nI n ≤ nI j + 1 by rw [nI_1, nI_leI (by omega) (by omega)]; omega) z⟩
  | succ d ih =>
    intro j hj
    have hj1 : j + 1 < n := by rcases hk with ⟨h1, -⟩ | h1 <;> omega
    have ih' := ih (j + 1) (by omega)
    have db := desc_b (l := l) k0
    have dm := desc_le (l := l) (show j + 1 ≤ k0 by omega)
    refine ⟨fun z => absurd z (by rw [nI_1, nI_leI (by omega) (by omega)]; omega), fun _ => ?_⟩
    rw [h41, idx_nI, nI_1, nI_add, nI_1, nI_1, show 1000 * tr + q + 1 + j = 1000 * tr + (q + 1 + j) by omega, show 1000 * tr + (q + 1 + j) + 1 = 1000 * tr + (q + 1 + (j + 1)) by omega, nI_clamp (by omega), nI_clamp (by omega), hv' j (by omega), hv' (j + 1) hj1, neg1]
    refine ⟨vp_in_nI (by omega) (by omega), vp_in_nI (by omega) (by omega), jn_mk ⟨fun z => ?_, fun z => ?_⟩⟩
    · have e : desc l (j + 1) = desc l j := by
        show desc l j + (if l.getD (j + 1) 0 < l.getD j 0 then 1 else 0) = _
        rw [if_neg (Int32.not_lt.mpr z)]; rfl
      rw [e] at ih'
      exact ih'
    · have e : desc l (j + 1) = desc l j + 1 := by
        show desc l j + (if l.getD (j + 1) 0 < l.getD j 0 then 1 else 0) = _
        rw [if_pos (Int32.not_le.mp z)]
      rw [e] at ih' dm
      refine ⟨fun _ => ?_, fun y => absurd y (nI_ne0 (by omega) (by omega))⟩
      rw [show desc l k0 - desc l j = (desc l k0 - (desc l j + 1)) + 1 by omega, nI_pred]
      exact ih'
end
