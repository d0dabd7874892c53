/-! WHAT STANDS AROUND a part: frames from within, sites in the order of the class's parts -/
abbrev Frm : Type := Nd × List Nd × List Nd
def fil1 (f : Frm) (T : List Nd) : List Nd := f.1 :: (f.2.1 ++ T ++ f.2.2)
def fil : List Frm → List Nd → List Nd
  | [], T => T
  | f :: c, T => fil c (fil1 f T)
def CFx (tb : Tb) : List Frm → Option Nat → Option Nat → Prop
  | [], t, r => t = r
  | f :: c, t, r => ∃ u pre post, okN tb u f.1 ∧ kidsT tb f.1 = pre ++ t :: post ∧ CF tb f.2.1 pre ∧ CF tb f.2.2 post ∧ CFx tb c u r
def posR : List Frm → Nat
  | [] => 0
  | f :: c => posR c + 1 + f.2.1.length
def posC (tb : Tb) : List Frm → Nat
  | [] => 0
  | f :: c => posC tb c + 1 + (cenc tb f.2.1).length
def preR : List Frm → List Nd
  | [] => []
  | f :: c => preR c ++ f.1 :: f.2.1
def sufR : List Frm → List Nd
  | [] => []
  | f :: c => f.2.2 ++ sufR c
theorem fil_eq : ∀ (c : List Frm) (T : List Nd), fil c T = preR c ++ (T ++ sufR c) := by
  intro c
  induction c with
  | nil => intro T; show T = [] ++ (T ++ []); rw [List.append_nil, List.nil_append]
  | cons f c ih =>
    intro T
    show fil c (fil1 f T) = (preR c ++ f.1 :: f.2.1) ++ (T ++ (f.2.2 ++ sufR c))
    rw [ih]
    show preR c ++ ((f.1 :: (f.2.1 ++ T ++ f.2.2)) ++ sufR c) = _
    simp only [List.append_assoc, List.cons_append]
theorem preR_len : ∀ c : List Frm, (preR c).length = posR c := by
  intro c
  induction c with
  | nil => rfl
  | cons f c ih =>
    show (preR c ++ f.1 :: f.2.1).length = posR c + 1 + f.2.1.length
    rw [List.length_append, ih, List.length_cons]; omega
theorem fil_len {c : List Frm} {T : List Nd} : (fil c T).length = posR c + T.length + (sufR c).length := by
  rw [fil_eq, List.length_append, List.length_append, preR_len]; omega
theorem fil1_CF {tb : Tb} {f : Frm} {u t : Option Nat} {pre post : List (Option Nat)} {T : List Nd} (h1 : okN tb u f.1) (h2 : kidsT tb f.1 = pre ++ t :: post) (h3 : CF tb f.2.1 pre) (h4 : CF tb f.2.2 post) (h : CF tb T [t]) : CF tb (f.2.1 ++ T ++ f.2.2) (kidsT tb f.1) ∧ CF tb (fil1 f T) [u] := by
  have hc : CF tb (f.2.1 ++ T ++ f.2.2) (kidsT tb f.1) := by
    rw [h2, show pre ++ t :: post = (pre ++ [t]) ++ post by rw [List.append_assoc]; rfl]
    exact CF_app h4 _ _ (CF_app h _ _ h3)
  exact ⟨hc, u, [], rfl, h1, by rw [List.append_nil]; exact hc⟩
theorem fil_CF {tb : Tb} {r : Option Nat} : ∀ (c : List Frm) (t : Option Nat) (T : List Nd), CFx tb c t r → CF tb T [t] → CF tb (fil c T) [r] := by
  intro c
  induction c with
  | nil => intro t T h1 h2; rw [show t = r from h1] at h2; exact h2
  | cons f c ih =>
    intro t T h1 h2
    obtain ⟨u, pre, post, a, b, d, e, g⟩ := h1
    exact ih u _ g (fil1_CF a b d e h2).2
theorem fil_snoc : ∀ (c : List Frm) (f : Frm) (T : List Nd), fil (c ++ [f]) T = fil1 f (fil c T) := by
  intro c
  induction c with
  | nil => intro f T; rfl
  | cons g c ih => intro f T; exact ih f _
theorem posR_snoc : ∀ (c : List Frm) (f : Frm), posR (c ++ [f]) = 1 + f.2.1.length + posR c := by
  intro c
  induction c with
  | nil => intro f; show 0 + 1 + f.2.1.length = 1 + f.2.1.length + 0; omega
  | cons g c ih => intro f; show posR (c ++ [f]) + 1 + g.2.1.length = _ + (posR c + 1 + g.2.1.length); rw [ih]; omega
theorem posC_snoc {tb : Tb} : ∀ (c : List Frm) (f : Frm), posC tb (c ++ [f]) = 1 + (cenc tb f.2.1).length + posC tb c := by
  intro c
  induction c with
  | nil => intro f; show 0 + 1 + (cenc tb f.2.1).length = 1 + (cenc tb f.2.1).length + 0; omega
  | cons g c ih => intro f; show posC tb (c ++ [f]) + 1 + (cenc tb g.2.1).length = _ + (posC tb c + 1 + (cenc tb g.2.1).length); rw [ih]; omega
theorem CFx_snoc {tb : Tb} {f : Frm} {u r : Option Nat} {pre post : List (Option Nat)} (h1 : okN tb r f.1) (h2 : kidsT tb f.1 = pre ++ u :: post) (h3 : CF tb f.2.1 pre) (h4 : CF tb f.2.2 post) : ∀ (c : List Frm) (t : Option Nat), CFx tb c t u → CFx tb (c ++ [f]) t r := by
  intro c
  induction c with
  | nil => intro t h; rw [show t = u from h]; exact ⟨r, pre, post, h1, h2, h3, h4, rfl⟩
  | cons g c ih =>
    intro t h
    obtain ⟨v, p, q, a, b, d, e, k⟩ := h
    exact ⟨v, p, q, a, b, d, e, ih v k⟩
/-- the sites of a row in the order of the class's parts -/
def stN (tb : Tb) : List Nd → Nat → List (Nat × Bool)
  | [], _ => []
  | x :: L, p => (p, false) :: (if bel tb x then (stN tb L (p + 1)).take (ctlN tb L (arN tb x)) ++ (p, true) :: (stN tb L (p + 1)).drop (ctlN tb L (arN tb x)) else stN tb L (p + 1))
theorem stN_c {tb : Tb} (x : Nd) (L : List Nd) (p : Nat) : stN tb (x :: L) p = (p, false) :: (if bel tb x then (stN tb L (p + 1)).take (ctlN tb L (arN tb x)) ++ (p, true) :: (stN tb L (p + 1)).drop (ctlN tb L (arN tb x)) else stN tb L (p + 1)) := rfl
theorem stN_len {tb : Tb} : ∀ (L : List Nd) (p : Nat), (stN tb L p).length = (cenc tb L).length := by
  intro L
  induction L with
  | nil => intro p; rfl
  | cons x L ih =>
    intro p
    have h := td_len (l := stN tb L (p + 1)) (k := ctlN tb L (arN tb x))
    have e := ih (p + 1)
    rw [cenc_len, stN_c, List.length_cons]
    cases bel tb x
    · rw [if_neg (by decide), if_neg (by decide)]; omega
    · rw [if_pos rfl, if_pos rfl, List.length_append, List.length_cons]; omega
theorem stN_app {tb : Tb} {S : List Nd} : ∀ (L : List Nd) (ts : List (Option Nat)) (p : Nat), CF tb L ts → stN tb (L ++ S) p = stN tb L p ++ stN tb S (p + L.length) := by
  intro L
  induction L with
  | nil => intro ts p _; rfl
  | cons x L ih =>
    intro ts p h
    obtain ⟨t, ts', rfl, hk, h⟩ := h
    have e := ih _ (p + 1) h
    obtain ⟨L1, L2, rfl, h1, h2⟩ := CF_split L _ _ h
    have k1 : ctlN tb (L1 ++ L2 ++ S) (arN tb x) = (cenc tb L1).length := by
      have := CF_ctl L1 _ (L2 ++ S) 0 h1
      rw [ctlN_0, Nat.zero_add, ← List.append_assoc] at this
      exact this
    have k2 : ctlN tb (L1 ++ L2) (arN tb x) = (cenc tb L1).length := by
      have := CF_ctl L1 _ L2 0 h1
      rw [ctlN_0, Nat.zero_add] at this
      exact this
    have hle : (cenc tb L1).length ≤ (stN tb (L1 ++ L2) (p + 1)).length := by
      have := CF_ctl (L1 ++ L2) _ [] 0 h
      rw [ctlN_0, Nat.zero_add, List.append_nil, List.length_append] at this
      have q := CF_ctl L1 _ L2 ts'.length h1
      rw [Nat.add_comm ts'.length, this] at q
      rw [stN_len]
      omega
    rw [List.cons_append]
    rw [stN_c x (L1 ++ L2 ++ S), stN_c x (L1 ++ L2), e, k1, k2, List.take_append_of_le_length hle, List.drop_append_of_le_length hle, List.cons_append, List.length_cons, show p + ((L1 ++ L2).length + 1) = p + 1 + (L1 ++ L2).length by omega]
    split
    · rw [List.append_assoc, List.cons_append]
    · rfl
def resS (tb : Tb) (x : Nd) (p : Nat) : List (Nat × Bool) := if bel tb x then [(p, true)] else []
theorem stN_tree {tb : Tb} {x : Nd} {L1 L2 : List Nd} {p : Nat} (h1 : CF tb L1 (kidsT tb x)) : stN tb (x :: (L1 ++ L2)) p = (p, false) :: (stN tb L1 (p + 1) ++ resS tb x p ++ stN tb L2 (p + 1 + L1.length)) := by
  have k2 : ctlN tb (L1 ++ L2) (arN tb x) = (stN tb L1 (p + 1)).length := by
    have := CF_ctl L1 _ L2 0 h1
    rw [ctlN_0, Nat.zero_add] at this
    rw [stN_len]; exact this
  have e := stN_app (S := L2) L1 _ (p + 1) h1
  unfold resS
  rw [stN_c, k2, e, List.take_left, List.drop_left]
  split
  · rw [List.append_assoc]; rfl
  · rw [List.append_nil]
theorem stN_one {tb : Tb} {x : Nd} {L1 : List Nd} {p : Nat} (h1 : CF tb L1 (kidsT tb x)) : stN tb (x :: L1) p = (p, false) :: (stN tb L1 (p + 1) ++ resS tb x p) := by
  have := stN_tree (L2 := []) (p := p) h1
  rw [List.append_nil, show stN tb [] (p + 1 + L1.length) = [] from rfl, List.append_nil] at this
  exact this
theorem resS_len {tb : Tb} {x : Nd} {p : Nat} : (resS tb x p).length = (resT tb x).length := by
  unfold resS resT; cases bel tb x <;> rfl
/-- which case of a row of cases a part belongs to -/
theorem kid_find {tb : Tb} (L : List Nd) (ts : List (Option Nat)) (hc : CF tb L ts) : ∀ j, j < (cenc tb L).length → ∃ (A T B : List Nd) (ta : List (Option Nat)) (t : Option Nat) (tb' : List (Option Nat)), L = A ++ (T ++ B) ∧ ts = ta ++ t :: tb' ∧ CF tb A ta ∧ CF tb T [t] ∧ CF tb B tb' ∧ (cenc tb A).length ≤ j ∧ j < (cenc tb A).length + (cenc tb T).length := by
  refine CF_ind (P := fun L ts => ∀ j, j < (cenc tb L).length → ∃ (A T B : List Nd) (ta : List (Option Nat)) (t : Option Nat) (tb' : List (Option Nat)), L = A ++ (T ++ B) ∧ ts = ta ++ t :: tb' ∧ CF tb A ta ∧ CF tb T [t] ∧ CF tb B tb' ∧ (cenc tb A).length ≤ j ∧ j < (cenc tb A).length + (cenc tb T).length) ?_ ?_ L.length L ts (Nat.le_refl _) hc
  · intro j hj; exact absurd hj (Nat.not_lt_zero _)
  · intro x t ts L1 L2 hk h1 P1 h2 P2 j hj
    have hT : CF tb (x :: L1) [t] := ⟨t, [], rfl, hk, by rw [List.append_nil]; exact h1⟩
    have e : cenc tb (x :: (L1 ++ L2)) = cenc tb (x :: L1) ++ cenc tb L2 := by
      have := cenc_app (S := L2) (x :: L1) _ hT
      exact this
    rw [e, List.length_append] at hj
    rcases Nat.lt_or_ge j (cenc tb (x :: L1)).length with q | q
    · exact ⟨[], x :: L1, L2, [], t, ts, rfl, rfl, rfl, hT, h2, Nat.zero_le _, by show j < 0 + _; omega⟩
    · obtain ⟨A, T, B, ta, t', tb', rfl, rfl, a, b, d, e1, e2⟩ := P2 (j - (cenc tb (x :: L1)).length) (by omega)
      refine ⟨x :: L1 ++ A, T, B, t :: ta, t', tb', ?_, rfl, CF_app a _ _ hT, b, d, ?_, ?_⟩
      · show x :: (L1 ++ (A ++ (T ++ B))) = x :: (L1 ++ A) ++ (T ++ B)
        rw [List.cons_append, List.append_assoc]
      · rw [cenc_app (x :: L1) _ hT, List.length_append]; omega
      · rw [cenc_app (x :: L1) _ hT, List.length_append]; omega
/-- the part at i: its site, what stands around it -/
theorem ctx_at {tb : Tb} : ∀ (N : Nat) (R : List Nd) (r : Option Nat), R.length ≤ N → CF tb R [r] → ∀ i, i < (cenc tb R).length → ∃ (c : List Frm) (x : Nd) (L1 : List Nd) (t : Option Nat), fil c (x :: L1) = R ∧ CFx tb c t r ∧ okN tb t x ∧ CF tb L1 (kidsT tb x) ∧ ((i = posC tb c ∧ ∀ p, (stN tb R p)[i]? = some (p + posR c, false)) ∨ (bel tb x = true ∧ i = posC tb c + 1 + (cenc tb L1).length ∧ ∀ p, (stN tb R p)[i]? = some (p + posR c, true))) := by
  intro N
  induction N with
  | zero =>
    intro R r hN hc i hi
    have : R = [] := List.length_eq_zero_iff.mp (by omega)
    subst this
    exact absurd hi (Nat.not_lt_zero _)
  | succ N ih =>
    intro R r hN hc i hi
    cases R with
    | nil => exact absurd hi (Nat.not_lt_zero _)
    | cons x L1 =>
      obtain ⟨t, ts', e0, hk, h1⟩ := hc
      cases e0
      rw [List.append_nil] at h1
      cases i with
      | zero => exact ⟨[], x, L1, r, rfl, rfl, hk, h1, Or.inl ⟨rfl, fun p => by rw [stN_one h1]; rfl⟩⟩
      | succ j =>
        rw [cenc_one h1, List.length_cons, List.length_append] at hi
        rcases Nat.lt_or_ge j (cenc tb L1).length with q | q
        · obtain ⟨A, T, B, ta, t', tb', rfl, ek, a, b, d, e1, e2⟩ := kid_find L1 _ h1 j q
          rw [List.length_cons, List.length_append, List.length_append] at hN
          obtain ⟨c, y, L, u, f1, f2, f3, f4, f5⟩ := ih T t' (by omega) b (j - (cenc tb A).length) (by omega)
          have sT : ∀ p s, (stN tb T (p + 1 + A.length))[j - (cenc tb A).length]? = some s → (stN tb (x :: (A ++ (T ++ B))) p)[j + 1]? = some s := by
            intro p s hs
            rw [stN_one h1]
            show (stN tb (A ++ (T ++ B)) (p + 1) ++ resS tb x p)[j]? = some s
            rw [stN_app A _ (p + 1) a, stN_app T _ _ b, List.append_assoc, List.getElem?_append_right (by rw [stN_len]; exact e1), stN_len, List.append_assoc, List.getElem?_append_left (by rw [stN_len]; omega)]
            exact hs
          refine ⟨c ++ [(x, A, B)], y, L, u, ?_, CFx_snoc hk ek a d c u f2, f3, f4, ?_⟩
          · rw [fil_snoc, f1]
            show x :: (A ++ T ++ B) = _
            rw [List.append_assoc]
          · rcases f5 with ⟨g1, g2⟩ | ⟨g0, g1, g2⟩
            · refine Or.inl ⟨?_, fun p => ?_⟩
              · rw [posC_snoc]; show j + 1 = 1 + (cenc tb A).length + posC tb c; omega
              · rw [posR_snoc, sT p _ (g2 (p + 1 + A.length))]
                show some (p + 1 + A.length + posR c, false) = some (p + (1 + A.length + posR c), false)
                rw [show p + 1 + A.length + posR c = p + (1 + A.length + posR c) by omega]
            · refine Or.inr ⟨g0, ?_, fun p => ?_⟩
              · rw [posC_snoc]; show j + 1 = 1 + (cenc tb A).length + posC tb c + 1 + _; omega
              · rw [posR_snoc, sT p _ (g2 (p + 1 + A.length))]
                show some (p + 1 + A.length + posR c, true) = some (p + (1 + A.length + posR c), true)
                rw [show p + 1 + A.length + posR c = p + (1 + A.length + posR c) by omega]
        · have rl : (resT tb x).length ≤ 1 := by unfold resT; cases bel tb x <;> simp
          have hb : bel tb x = true := by
            cases hb : bel tb x
            · exfalso
              unfold resT at hi
              rw [hb, if_neg (by decide)] at hi
              have hi : j + 1 < (cenc tb L1).length + 0 + 1 := hi
              omega
            · rfl
          refine ⟨[], x, L1, r, rfl, rfl, hk, h1, Or.inr ⟨hb, by show j + 1 = 0 + 1 + (cenc tb L1).length; omega, fun p => ?_⟩⟩
          rw [stN_one h1]
          show (stN tb L1 (p + 1) ++ resS tb x p)[j]? = some (p + 0, true)
          rw [List.getElem?_append_right (by rw [stN_len]; exact q), stN_len, show j - (cenc tb L1).length = 0 by omega]
          unfold resS
          rw [hb, if_pos rfl]; rfl
