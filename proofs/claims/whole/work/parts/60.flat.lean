/-! CASES AS FLAT ROWS: one case behind another -/
theorem evR_c {tb : Tb} (x : Nd) (L : List Nd) : evR tb (x :: L) = if kindN tb x = 8 ∨ kindN tb x = 0 then x.2 :: evR tb L else if kindN tb x = 4 then mapF (cnN tb x).2.1 ((evR tb L).take (lfN tb L (arN tb x))) ++ (evR tb L).drop (lfN tb L (arN tb x)) else if kindN tb x = 7 then (evR tb L).take (lfN tb L (arN tb x)) ++ x.2 :: (evR tb L).drop (lfN tb L (arN tb x)) else evR tb L := rfl
theorem cenc_c {tb : Tb} (x : Nd) (L : List Nd) : cenc tb (x :: L) = cnN tb x :: (if bel tb x then (cenc tb L).take (ctlN tb L (arN tb x)) ++ (9, x.2, 0) :: (cenc tb L).drop (ctlN tb L (arN tb x)) else cenc tb L) := rfl
theorem lfN_0 {tb : Tb} {L : List Nd} : lfN tb L 0 = 0 := by cases L <;> rfl
theorem ctlN_0 {tb : Tb} {L : List Nd} : ctlN tb L 0 = 0 := by cases L <;> rfl
theorem tlN_0 {tb : Tb} {L : List Nd} : tlN tb L 0 = 0 := by cases L <;> rfl
theorem lfN_s {tb : Tb} {x : Nd} {L : List Nd} {k : Nat} : lfN tb (x :: L) (k + 1) = leafN tb x + lfN tb L (k + arN tb x) := rfl
theorem ctlN_s {tb : Tb} {x : Nd} {L : List Nd} {k : Nat} : ctlN tb (x :: L) (k + 1) = 1 + (if bel tb x then 1 else 0) + ctlN tb L (k + arN tb x) := rfl
theorem tlN_s {tb : Tb} {x : Nd} {L : List Nd} {k : Nat} : tlN tb (x :: L) (k + 1) = 1 + tlN tb L (k + arN tb x) := rfl
theorem mapF_len {f : Int32} {l : List Int32} : (mapF f l).length = l.length := by
  unfold mapF
  split
  · exact List.length_map _
  split
  · exact List.length_map _
  split
  · exact List.length_map _
  split
  · exact List.length_map _
  have h : ∀ (l a : List Int32), (l.foldl (fun acc v => insE v acc) a).length = a.length + l.length := by
    intro l
    induction l with
    | nil => intro a; rfl
    | cons x l ih => intro a; rw [List.foldl_cons, ih, insE_len, List.length_cons]; omega
  rw [h]; simp
theorem td_len {α : Type} {l : List α} {k : Nat} : (l.take k).length + (l.drop k).length = l.length := by
  rw [← List.length_append, List.take_append_drop]
theorem evR_len {tb : Tb} {x : Nd} {L : List Nd} : (evR tb (x :: L)).length = leafN tb x + (evR tb L).length := by
  have h := td_len (l := evR tb L) (k := lfN tb L (arN tb x))
  unfold leafN
  rw [evR_c]
  by_cases c : kindN tb x = 8 ∨ kindN tb x = 0
  · rw [if_pos c, if_pos (c.elim Or.inl (fun z => Or.inr (Or.inl z))), List.length_cons]; omega
  · rw [if_neg c]
    by_cases c4 : kindN tb x = 4
    · rw [if_pos c4, if_neg (by rw [c4]; decide), List.length_append, mapF_len]; omega
    · rw [if_neg c4]
      by_cases c7 : kindN tb x = 7
      · rw [if_pos c7, if_pos (Or.inr (Or.inr c7)), List.length_append, List.length_cons]; omega
      · rw [if_neg c7, if_neg (fun z => z.elim (fun y => c (Or.inl y)) (fun y => y.elim (fun q => c (Or.inr q)) c7))]; omega
theorem cenc_len {tb : Tb} {x : Nd} {L : List Nd} : (cenc tb (x :: L)).length = 1 + (if bel tb x then 1 else 0) + (cenc tb L).length := by
  have h := td_len (l := cenc tb L) (k := ctlN tb L (arN tb x))
  rw [cenc_c]
  rw [List.length_cons]
  cases bel tb x
  · rw [if_neg (by decide), if_neg (by decide)]; omega
  · rw [if_pos rfl, if_pos rfl, List.length_append, List.length_cons]; omega
theorem CF_lf {tb : Tb} : ∀ (L : List Nd) (ts : List (Option Nat)) (S : List Nd) (a : Nat), CF tb L ts → lfN tb (L ++ S) (a + ts.length) = (evR tb L).length + lfN tb S a := by
  intro L
  induction L with
  | nil => intro ts S a h; rw [show ts = [] from h]; show lfN tb S a = 0 + _; omega
  | cons x L ih =>
    intro ts S a h
    obtain ⟨t, ts', rfl, hk, h⟩ := h
    rw [List.cons_append, List.length_cons, show a + (ts'.length + 1) = (a + ts'.length) + 1 by omega, lfN_s, evR_len]
    have := ih _ S a h
    rw [List.length_append] at this
    rw [show a + ts'.length + arN tb x = a + ((kidsT tb x).length + ts'.length) by unfold arN; omega, this]
    omega
theorem CF_ctl {tb : Tb} : ∀ (L : List Nd) (ts : List (Option Nat)) (S : List Nd) (a : Nat), CF tb L ts → ctlN tb (L ++ S) (a + ts.length) = (cenc tb L).length + ctlN tb S a := by
  intro L
  induction L with
  | nil => intro ts S a h; rw [show ts = [] from h]; show ctlN tb S a = 0 + _; omega
  | cons x L ih =>
    intro ts S a h
    obtain ⟨t, ts', rfl, hk, h⟩ := h
    rw [List.cons_append, List.length_cons, show a + (ts'.length + 1) = (a + ts'.length) + 1 by omega, ctlN_s, cenc_len]
    have := ih _ S a h
    rw [List.length_append] at this
    rw [show a + ts'.length + arN tb x = a + ((kidsT tb x).length + ts'.length) by unfold arN; omega, this]
    omega
theorem CF_tl {tb : Tb} : ∀ (L : List Nd) (ts : List (Option Nat)) (S : List Nd) (a : Nat), CF tb L ts → tlN tb (L ++ S) (a + ts.length) = L.length + tlN tb S a := by
  intro L
  induction L with
  | nil => intro ts S a h; rw [show ts = [] from h]; show tlN tb S a = 0 + _; omega
  | cons x L ih =>
    intro ts S a h
    obtain ⟨t, ts', rfl, hk, h⟩ := h
    rw [List.cons_append, List.length_cons, show a + (ts'.length + 1) = (a + ts'.length) + 1 by omega, tlN_s, List.length_cons]
    have := ih _ S a h
    rw [List.length_append] at this
    rw [show a + ts'.length + arN tb x = a + ((kidsT tb x).length + ts'.length) by unfold arN; omega, this]
    omega
theorem CF_split {tb : Tb} : ∀ (L : List Nd) (ts1 ts2 : List (Option Nat)), CF tb L (ts1 ++ ts2) → ∃ L1 L2, L = L1 ++ L2 ∧ CF tb L1 ts1 ∧ CF tb L2 ts2 := by
  intro L
  induction L with
  | nil =>
    intro ts1 ts2 h
    have h : ts1 ++ ts2 = [] := h
    rw [List.append_eq_nil_iff] at h
    exact ⟨[], [], rfl, h.1, h.2⟩
  | cons x L ih =>
    intro ts1 ts2 h
    cases ts1 with
    | nil => exact ⟨[], x :: L, rfl, rfl, h⟩
    | cons t1 ts1 =>
      obtain ⟨t, ts', e, hk, h⟩ := h
      rw [List.cons_append, List.cons.injEq] at e
      obtain ⟨rfl, rfl⟩ := e
      rw [← List.append_assoc] at h
      obtain ⟨L1, L2, rfl, h1, h2⟩ := ih _ _ h
      exact ⟨x :: L1, L2, rfl, ⟨t1, ts1, rfl, hk, h1⟩, h2⟩
theorem CF_app {tb : Tb} {L2 : List Nd} {ts2 : List (Option Nat)} (h2 : CF tb L2 ts2) : ∀ (L1 : List Nd) (ts1 : List (Option Nat)), CF tb L1 ts1 → CF tb (L1 ++ L2) (ts1 ++ ts2) := by
  intro L1
  induction L1 with
  | nil => intro ts1 h; rw [show ts1 = [] from h]; exact h2
  | cons x L ih =>
    intro ts1 h
    obtain ⟨t, ts', rfl, hk, h⟩ := h
    refine ⟨t, ts' ++ ts2, rfl, hk, ?_⟩
    rw [← List.append_assoc]
    exact ih _ h
/-- a row of cases, case by case: a node, what belongs to it, what stands behind -/
theorem CF_ind {tb : Tb} {P : List Nd → List (Option Nat) → Prop} (h0 : P [] []) (hs : ∀ (x : Nd) (t : Option Nat) (ts : List (Option Nat)) (L1 L2 : List Nd), okN tb t x → CF tb L1 (kidsT tb x) → P L1 (kidsT tb x) → CF tb L2 ts → P L2 ts → P (x :: (L1 ++ L2)) (t :: ts)) : ∀ (n : Nat) (L : List Nd) (ts : List (Option Nat)), L.length ≤ n → CF tb L ts → P L ts := by
  intro n
  induction n with
  | zero =>
    intro L ts hl h
    have : L = [] := List.length_eq_zero_iff.mp (by omega)
    subst this
    rw [show ts = [] from h]; exact h0
  | succ n ih =>
    intro L ts hl h
    cases L with
    | nil => rw [show ts = [] from h]; exact h0
    | cons x L =>
      obtain ⟨t, ts', rfl, hk, h⟩ := h
      obtain ⟨L1, L2, rfl, h1, h2⟩ := CF_split L _ _ h
      rw [List.length_cons, List.length_append] at hl
      exact hs x t ts' L1 L2 hk h1 (ih L1 _ (by omega) h1) h2 (ih L2 _ (by omega) h2)
theorem evR_app {tb : Tb} {S : List Nd} : ∀ (L : List Nd) (ts : List (Option Nat)), CF tb L ts → evR tb (L ++ S) = evR tb L ++ evR tb S := by
  intro L
  induction L with
  | nil => intro ts _; rfl
  | cons x L ih =>
    intro ts h
    obtain ⟨t, ts', rfl, hk, h⟩ := h
    have e := ih _ h
    obtain ⟨L1, L2, rfl, h1, h2⟩ := CF_split L _ _ h
    have k1 : lfN tb (L1 ++ L2 ++ S) (arN tb x) = (evR tb L1).length := by
      have := CF_lf L1 _ (L2 ++ S) 0 h1
      rw [lfN_0, Nat.zero_add, ← List.append_assoc] at this
      exact this
    have k2 : lfN tb (L1 ++ L2) (arN tb x) = (evR tb L1).length := by
      have := CF_lf L1 _ L2 0 h1
      rw [lfN_0, Nat.zero_add] at this
      exact this
    have hle : (evR tb L1).length ≤ (evR tb (L1 ++ L2)).length := by
      have := CF_lf (L1 ++ L2) _ [] 0 h
      rw [lfN_0, Nat.zero_add, List.append_nil, List.length_append] at this
      have q := CF_lf L1 _ L2 ts'.length h1
      rw [Nat.add_comm ts'.length, this] at q
      omega
    rw [List.cons_append]
    rw [evR_c x (L1 ++ L2 ++ S), evR_c x (L1 ++ L2), e, k1, k2, List.take_append_of_le_length hle, List.drop_append_of_le_length hle]
    split
    · rfl
    · split
      · rw [List.append_assoc]
      · split
        · rw [List.append_assoc, List.cons_append]
        · rfl
theorem cenc_app {tb : Tb} {S : List Nd} : ∀ (L : List Nd) (ts : List (Option Nat)), CF tb L ts → cenc tb (L ++ S) = cenc tb L ++ cenc tb S := by
  intro L
  induction L with
  | nil => intro ts _; rfl
  | cons x L ih =>
    intro ts h
    obtain ⟨t, ts', rfl, hk, h⟩ := h
    have e := ih _ h
    obtain ⟨L1, L2, rfl, h1, h2⟩ := CF_split L _ _ h
    have k1 : ctlN tb (L1 ++ L2 ++ S) (arN tb x) = (cenc tb L1).length := by
      have := CF_ctl L1 _ (L2 ++ S) 0 h1
      rw [ctlN_0, Nat.zero_add, ← List.append_assoc] at this
      exact this
    have k2 : ctlN tb (L1 ++ L2) (arN tb x) = (cenc tb L1).length := by
      have := CF_ctl L1 _ L2 0 h1
      rw [ctlN_0, Nat.zero_add] at this
      exact this
    have hle : (cenc tb L1).length ≤ (cenc tb (L1 ++ L2)).length := by
      have := CF_ctl (L1 ++ L2) _ [] 0 h
      rw [ctlN_0, Nat.zero_add, List.append_nil, List.length_append] at this
      have q := CF_ctl L1 _ L2 ts'.length h1
      rw [Nat.add_comm ts'.length, this] at q
      omega
    rw [List.cons_append]
    rw [cenc_c x (L1 ++ L2 ++ S), cenc_c x (L1 ++ L2), e, k1, k2, List.take_append_of_le_length hle, List.drop_append_of_le_length hle, List.cons_append]
    split
    · rw [List.append_assoc, List.cons_append]
    · rfl
def evT (tb : Tb) (x : Nd) (l : List Int32) : List Int32 := if kindN tb x = 8 ∨ kindN tb x = 0 then [x.2] else if kindN tb x = 4 then mapF (cnN tb x).2.1 l else if kindN tb x = 7 then l ++ [x.2] else l
theorem kids_leaf {tb : Tb} {x : Nd} (h : kindN tb x = 8 ∨ kindN tb x = 0) (hw : ∀ m, x.1 = some m → ¬ tb 0 m = 8) : kidsT tb x = [] := by
  obtain ⟨xm, v⟩ := x
  cases xm with
  | none => rfl
  | some m => exact kids_0 (h.resolve_left (hw m rfl))
theorem evR_tree {tb : Tb} {x : Nd} {L1 L2 : List Nd} (h1 : CF tb L1 (kidsT tb x)) (hw : ∀ m, x.1 = some m → ¬ tb 0 m = 8) : evR tb (x :: (L1 ++ L2)) = evT tb x (evR tb L1) ++ evR tb L2 := by
  have k2 : lfN tb (L1 ++ L2) (arN tb x) = (evR tb L1).length := by
    have := CF_lf L1 _ L2 0 h1
    rw [lfN_0, Nat.zero_add] at this
    exact this
  have e := evR_app (S := L2) L1 _ h1
  unfold evT
  rw [evR_c, k2, e, List.take_left, List.drop_left]
  split
  · rename_i c
    have hk := kids_leaf c hw
    rw [hk] at h1
    cases L1 with
    | nil => rfl
    | cons y L1 => obtain ⟨t, ts', e2, -⟩ := h1; cases e2
  · split
    · rfl
    · split
      · rw [List.append_assoc]; rfl
      · rfl
def resT (tb : Tb) (x : Nd) : List CN := if bel tb x then [(9, x.2, 0)] else []
theorem cenc_tree {tb : Tb} {x : Nd} {L1 L2 : List Nd} (h1 : CF tb L1 (kidsT tb x)) : cenc tb (x :: (L1 ++ L2)) = cnN tb x :: (cenc tb L1 ++ resT tb x ++ cenc tb L2) := by
  have k2 : ctlN tb (L1 ++ L2) (arN tb x) = (cenc tb L1).length := by
    have := CF_ctl L1 _ L2 0 h1
    rw [ctlN_0, Nat.zero_add] at this
    exact this
  have e := cenc_app (S := L2) L1 _ h1
  unfold resT
  rw [cenc_c, k2, e, List.take_left, List.drop_left]
  split
  · rw [List.append_assoc]; rfl
  · rw [List.append_nil]
