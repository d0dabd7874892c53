/-! STRETCHES OF ROWS; small machines as lists -/
def Seg (g : Nat → Int32) (lo : Nat) (l : List Int32) : Prop := ∀ i x, l[i]? = some x → g (lo + i) = x
theorem Seg.nil {g : Nat → Int32} {lo : Nat} : Seg g lo [] := fun i x h => by cases h
theorem Seg.app {g : Nat → Int32} {lo : Nat} {a b : List Int32} (h1 : Seg g lo a) (h2 : Seg g (lo + a.length) b) : Seg g lo (a ++ b) := by
  intro i x h
  rcases Nat.lt_or_ge i a.length with q | q
  · rw [List.getElem?_append_left q] at h; exact h1 i x h
  · rw [List.getElem?_append_right q] at h
    have := h2 _ x h
    rwa [show lo + a.length + (i - a.length) = lo + i by omega] at this
theorem Seg.left {g : Nat → Int32} {lo : Nat} {a b : List Int32} (h : Seg g lo (a ++ b)) : Seg g lo a := fun i x hx => h i x (by rw [List.getElem?_append_left (List.getElem?_eq_some_iff.mp hx).1]; exact hx)
theorem Seg.right {g : Nat → Int32} {lo : Nat} {a b : List Int32} (h : Seg g lo (a ++ b)) : Seg g (lo + a.length) b := fun i x hx => by
  have := h (a.length + i) x (by rw [List.getElem?_append_right (by omega), show a.length + i - a.length = i by omega]; exact hx)
  rwa [show lo + (a.length + i) = lo + a.length + i by omega] at this
theorem Seg.cons {g : Nat → Int32} {lo : Nat} {x : Int32} {b : List Int32} (h1 : g lo = x) (h2 : Seg g (lo + 1) b) : Seg g lo (x :: b) := by
  intro i y h
  cases i with
  | zero => cases h; exact h1
  | succ i => have := h2 i y h; rwa [show lo + 1 + i = lo + (i + 1) by omega] at this
theorem Seg.head {g : Nat → Int32} {lo : Nat} {x : Int32} {b : List Int32} (h : Seg g lo (x :: b)) : g lo = x := h 0 x rfl
theorem Seg.tail {g : Nat → Int32} {lo : Nat} {x : Int32} {b : List Int32} (h : Seg g lo (x :: b)) : Seg g (lo + 1) b := fun i y hy => by
  have := h (i + 1) y hy; rwa [show lo + (i + 1) = lo + 1 + i by omega] at this
theorem Seg.upd {g : Nat → Int32} {lo k : Nat} {y : Int32} {b : List Int32} (h : Seg g lo b) (hk : k < lo ∨ lo + b.length ≤ k) : Seg (upd g k y) lo b := fun i x hx => by
  have := (List.getElem?_eq_some_iff.mp hx).1
  rw [pk_un (by omega)]; exact h i x hx
theorem Seg.one {g : Nat → Int32} {lo : Nat} {x : Int32} (h : g lo = x) : Seg g lo [x] := Seg.cons h Seg.nil
theorem snoc_of {α : Type} {l : List α} {n : Nat} (h : l.length = n + 1) : ∃ l' x, l = l' ++ [x] ∧ l'.length = n := by
  have hne : l ≠ [] := fun z => by rw [z] at h; cases h
  exact ⟨l.dropLast, l.getLast hne, (List.dropLast_concat_getLast hne).symm, by rw [List.length_dropLast]; omega⟩
theorem insE_nil (v : Int32) : insE v [] = [v] := rfl
theorem insE_snoc (v x : Int32) (l : List Int32) : insE v (l ++ [x]) = if v < x then insE v l ++ [x] else l ++ [x, v] := by
  unfold insE
  rw [List.reverse_append]
  show (insR v (x :: l.reverse)).reverse = _
  unfold insR
  by_cases h : v < x
  · rw [if_pos h, if_pos h]
    cases e : l.reverse <;> simp [insR]
  · rw [if_neg h, if_neg h]; simp
theorem insE_len (v : Int32) : ∀ l : List Int32, (insE v l).length = l.length + 1 := by
  have h : ∀ l, (insR v l).length = l.length + 1 := by
    intro l
    induction l with
    | nil => rfl
    | cons x l ih =>
      unfold insR
      by_cases h : v < x
      · rw [if_pos h, List.length_cons, ih, List.length_cons]
      · rw [if_neg h]; rfl
  intro l
  unfold insE
  rw [List.length_reverse, h, List.length_reverse]
/-- longs, ints outside S, rows outside A as they were -/
def Fm (S A : List Nat) (o o2 : Ob) : Prop := o2.1 = o.1 ∧ Fr S A o o2
theorem Fm.rf {S A : List Nat} {o : Ob} : Fm S A o o := ⟨rfl, Fr.rf⟩
theorem Fm.tr {S A : List Nat} {o o2 o3 : Ob} (h : Fm S A o o2) (h2 : Fm S A o2 o3) : Fm S A o o3 := ⟨h2.1.trans h.1, h.2.tr h2.2⟩
theorem Fm.mono {S A S' A' : List Nat} {o o2 : Ob} (h : Fm S A o o2) (hS : ∀ k ∈ S, k ∈ S') (hA : ∀ k ∈ A, k ∈ A') : Fm S' A' o o2 := ⟨h.1, h.2.mono hS hA⟩
theorem Fm.i {S A : List Nat} {o : Ob} {f : Nat → Int32} (h : ∀ k, k ∉ S → f k = o.2.1 k) : Fm S A o (o.1, f, o.2.2) := ⟨rfl, h, fun _ _ => rfl⟩
theorem Fm.a {S A : List Nat} {o : Ob} {f : Nat → Nat → Int32} (h : ∀ k, k ∉ A → f k = o.2.2 k) : Fm S A o (o.1, o.2.1, f) := ⟨rfl, fun _ _ => rfl, h⟩
theorem Fm.ia {S A : List Nat} {o : Ob} {f : Nat → Int32} {g : Nat → Nat → Int32} (h1 : ∀ k, k ∉ S → f k = o.2.1 k) (h : ∀ k, k ∉ A → g k = o.2.2 k) : Fm S A o (o.1, f, g) := ⟨rfl, h1, h⟩
theorem un_of {f : Nat → Int32} {k j : Nat} {x : Int32} {S : List Nat} (hk : k ∈ S) (hj : j ∉ S) : upd f k x j = f j := pk_un (fun z => hj (z ▸ hk))
theorem sa_un {f : Nat → Nat → Int32} {k j : Nat} {x : Nat → Int32} {S : List Nat} (hk : k ∈ S) (hj : j ∉ S) : sa f k x j = f j := if_neg (fun z => by subst z; exact hj hk)
theorem sa_us {f : Nat → Nat → Int32} {k : Nat} {x : Nat → Int32} : sa f k x k = x := if_pos rfl
theorem sa_ne {f : Nat → Nat → Int32} {k j : Nat} {x : Nat → Int32} (h : j ≠ k) : sa f k x j = f j := if_neg h
theorem c_putL {v : Int32} {K : Int32 → Ob → Prop} {Post : Ob → Prop} : ∀ (n : Nat) (l rest : List Int32) (o : Ob), l.length = n → n + rest.length ≤ 4 → o.2.1 2 = 2 → Seg (o.2.2 0) 0 l → Seg (o.2.2 0) (n + 1) rest → (∀ (p : Nat) (o2 : Ob), p ≤ 4 → Fm [] [0] o o2 → Seg (upd (o2.2.2 0) p v) 0 (insE v l ++ rest) → K (nI p) o2) → w_X3_put_L21 v K Post (n + 1) (nI n) o := by
  intro n
  induction n with
  | zero =>
    intro l rest o hl hr h2 hs ht k
    have : l = [] := List.length_eq_zero_iff.mp hl
    subst this
    refine ⟨fun z => absurd h2 z, fun _ => ⟨fun _ => k 0 o (by omega) Fm.rf ?_, fun z => absurd (Int32.le_refl _) z⟩⟩
    exact Seg.cons pk_us (ht.upd (Or.inl (by omega)))
  | succ n ih =>
    intro l rest o hl hr h2 hs ht k
    obtain ⟨l', x, rfl, hl'⟩ := snoc_of hl
    have hx : o.2.2 0 n = x := by have := hs.right.head; rwa [Nat.zero_add, hl'] at this
    have st := hs.left
    refine ⟨fun z => absurd h2 z, fun _ => ⟨fun z => absurd z (nI_nle (by omega) (by omega)), fun _ => ?_⟩⟩
    rw [nI_pred, nI_clamp (by omega), nI_clamp (by omega), hx, pk_m1]
    refine ⟨vp_in_nI (by omega) (by omega), fun c => k (n + 1) o (by omega) Fm.rf ?_, fun c => ⟨vp_in_nI (by omega) (by omega), vp_in_nI (by omega) (by omega), ?_⟩⟩
    · rw [insE_snoc, if_neg (Int32.not_lt.mpr c), show l' ++ [x, v] ++ rest = (l' ++ [x]) ++ (v :: rest) by simp]
      refine Seg.app (hs.upd (Or.inr (by rw [hl]; omega))) ?_
      rw [hl, Nat.zero_add]
      exact Seg.cons pk_us (ht.upd (Or.inl (by omega)))
    · refine ih l' (x :: rest) _ hl' (by rw [List.length_cons]; omega) h2 ?_ ?_ (fun p o2 hp hf hg => k p o2 hp ?_ ?_)
      · show Seg (sa o.2.2 0 _ 0) _ _; rw [sa_us]; exact st.upd (Or.inr (by rw [hl']; omega))
      · show Seg (sa o.2.2 0 _ 0) _ _; rw [sa_us]; exact Seg.cons pk_us (ht.upd (Or.inl (by omega)))
      · exact (Fm.a (fun k hk => sa_un (S := [0]) (by simp) hk)).tr hf
      · rw [insE_snoc, if_pos (Int32.not_le.mp c)]; simpa using hg
theorem m_putL {v f2 : Int32} {b : Nat} {K : Int32 → Ob → Prop} {Post : Ob → Prop} (hb : b ≤ 5) : ∀ (n : Nat) (l rest : List Int32) (o : Ob), l.length = n → n + rest.length ≤ 4 → Seg (o.2.2 26) b l → Seg (o.2.2 26) (b + n + 1) rest → (∀ (p : Nat) (o2 : Ob), p ≤ 4 → Fm [] [26] o o2 → (∀ q, q < b ∨ b + 5 ≤ q → o2.2.2 26 q = o.2.2 26 q) → Seg (upd (o2.2.2 26) (b + p) v) b (insE v l ++ rest) → K (nI p) o2) → w_X10_putIn_L13 2 f2 v (nI b) K Post (n + 1) (nI n) o := by
  intro n
  induction n with
  | zero =>
    intro l rest o hl hr hs ht k
    have : l = [] := List.length_eq_zero_iff.mp hl
    subst this
    refine ⟨fun z => absurd rfl z, fun _ => ⟨fun _ => k 0 o (by omega) Fm.rf (fun _ _ => rfl) ?_, fun z => absurd (Int32.le_refl _) z⟩⟩
    exact Seg.cons pk_us (ht.upd (Or.inl (by omega)))
  | succ n ih =>
    intro l rest o hl hr hs ht k
    obtain ⟨l', x, rfl, hl'⟩ := snoc_of hl
    have hx : o.2.2 26 (b + n) = x := by have := hs.right.head; rwa [hl'] at this
    have st := hs.left
    refine ⟨fun z => absurd rfl z, fun _ => ⟨fun z => absurd z (nI_nle (by omega) (by omega)), fun _ => ?_⟩⟩
    rw [nI_add, show b + (n + 1) = (b + n) + 1 by omega, nI_pred, nI_clamp (by omega), nI_clamp (by omega), hx, pk_m1]
    refine ⟨vp_in_nI (by omega) (by omega), fun c => k (n + 1) o (by omega) Fm.rf (fun _ _ => rfl) ?_, fun c => ⟨vp_in_nI (by omega) (by omega), vp_in_nI (by omega) (by omega), ?_⟩⟩
    · rw [insE_snoc, if_neg (Int32.not_lt.mpr c), show l' ++ [x, v] ++ rest = (l' ++ [x]) ++ (v :: rest) by simp]
      refine Seg.app (hs.upd (Or.inr (by rw [hl]; omega))) ?_
      rw [hl]
      exact Seg.cons pk_us (ht.upd (Or.inl (by omega)))
    · refine ih l' (x :: rest) _ hl' (by rw [List.length_cons]; omega) ?_ ?_ (fun p o2 hp hf hq hg => k p o2 hp ?_ ?_ ?_)
      · show Seg (sa o.2.2 26 _ 26) _ _; rw [sa_us]; exact st.upd (Or.inr (by rw [hl']; omega))
      · show Seg (sa o.2.2 26 _ 26) _ _; rw [sa_us]; exact Seg.cons (by rw [show b + n + 1 = (b + n) + 1 by omega]; exact pk_us) (ht.upd (Or.inl (by omega)))
      · exact (Fm.a (fun k hk => sa_un (S := [26]) (by simp) hk)).tr hf
      · intro q h1
        rw [hq q h1]; show sa o.2.2 26 (upd (o.2.2 26) (b + n + 1) x) 26 q = _; rw [sa_us, pk_un (by omega)]
      · rw [insE_snoc, if_pos (Int32.not_le.mp c)]; simpa using hg
