/-! THE CLASS'S PARTS: whole cases, one behind another; their leaves -/
def CC : List CN → Nat → Prop
  | [], k => k = 0
  | c :: C, k => ∃ k', k = k' + 1 ∧ CC C (arC c + k')
theorem CC_app {B : List CN} {b : Nat} (hB : CC B b) : ∀ (A : List CN) (a : Nat), CC A a → CC (A ++ B) (a + b) := by
  intro A
  induction A with
  | nil => intro a h; rw [show a = 0 from h, Nat.zero_add]; exact hB
  | cons c A ih =>
    intro a h
    obtain ⟨k', rfl, h⟩ := h
    refine ⟨k' + b, by omega, ?_⟩
    have := ih _ h
    rwa [Nat.add_assoc] at this
theorem CC_drop : ∀ (C : List CN) (k i : Nat), CC C k → ∃ k', CC (C.drop i) k' := by
  intro C
  induction C with
  | nil => intro k i h; exact ⟨k, by rw [List.drop_nil]; exact h⟩
  | cons c C ih =>
    intro k i h
    cases i with
    | zero => exact ⟨k, h⟩
    | succ i =>
      obtain ⟨k', rfl, h⟩ := h
      exact ih _ i h
theorem tlC_0 {C : List CN} : tlC C 0 = 0 := by cases C <;> rfl
theorem tlC_s {c : CN} {C : List CN} {k : Nat} : tlC (c :: C) (k + 1) = 1 + tlC C (k + arC c) := rfl
theorem tlC_le : ∀ (C : List CN) (k : Nat), tlC C k ≤ C.length := by
  intro C
  induction C with
  | nil => intro k; exact Nat.le_refl _
  | cons c C ih =>
    intro k
    cases k with
    | zero => exact Nat.zero_le _
    | succ k => have := ih (k + arC c); rw [tlC_s, List.length_cons]; omega
theorem tlC_app {B : List CN} : ∀ (C : List CN) (k j : Nat), CC C k → j ≤ k → tlC (C ++ B) j = tlC C j := by
  intro C
  induction C with
  | nil => intro k j h hj; rw [show j = 0 by have : k = 0 := h; omega, tlC_0, tlC_0]
  | cons c C ih =>
    intro k j h hj
    obtain ⟨k', rfl, h⟩ := h
    cases j with
    | zero => rfl
    | succ j => rw [List.cons_append, tlC_s, tlC_s, ih _ _ h (by omega)]
theorem tlC_full {B : List CN} : ∀ (C : List CN) (k a : Nat), CC C k → tlC (C ++ B) (k + a) = C.length + tlC B a := by
  intro C
  induction C with
  | nil => intro k a h; rw [show k = 0 from h]; show tlC B (0 + a) = 0 + _; rw [Nat.zero_add, Nat.zero_add]
  | cons c C ih =>
    intro k a h
    obtain ⟨k', rfl, h⟩ := h
    rw [List.cons_append, show k' + 1 + a = (k' + a) + 1 by omega, tlC_s, show k' + a + arC c = arC c + k' + a by omega, ih _ _ h, List.length_cons]; omega
theorem CC_pos {C : List CN} {k : Nat} (h : CC C k) (hl : 0 < C.length) : 1 ≤ k := by
  cases C with
  | nil => exact absurd hl (Nat.lt_irrefl _)
  | cons c C => obtain ⟨k', rfl, -⟩ := h; omega
theorem drop_mid {α : Type} {A C : List α} {i : Nat} : (A ++ C).drop (A.length + i) = C.drop i := by
  rw [List.drop_append, List.drop_eq_nil_of_le (by omega), List.nil_append, show A.length + i - A.length = i by omega]
theorem enC_mid {A C B : List CN} {k i : Nat} (h : CC C k) (hi : i < C.length) : enC (A ++ (C ++ B)) (A.length + i) = A.length + enC C i := by
  unfold enC
  obtain ⟨k', h'⟩ := CC_drop C k i h
  have hl : 0 < (C.drop i).length := by rw [List.length_drop]; omega
  rw [drop_mid, List.drop_append, show i - C.length = 0 by omega, List.drop_zero, tlC_app _ _ _ h' (CC_pos h' hl)]; omega
theorem enC_le {C : List CN} {i : Nat} (hi : i < C.length) : i < enC C i ∧ enC C i ≤ C.length := by
  unfold enC
  have h := tlC_le (C.drop i) 1
  rw [List.length_drop] at h
  have : 1 ≤ tlC (C.drop i) 1 := by
    rw [List.drop_eq_getElem_cons hi]
    show 1 ≤ 1 + _; omega
  omega
section
variable {tb : Tb} {nm nc : Nat}
theorem arC_cn (hw : ∀ m, m < nm → MkWF tb nc m) {x : Nd} (hX : okX tb nm x) : arC (cnN tb x) = arN tb x + (resT tb x).length := by
  obtain ⟨xm, v⟩ := x
  cases xm with
  | none => rfl
  | some m =>
    obtain ⟨hm, h1', h6'⟩ := hX m rfl
    have w := hw m hm
    have pn := parts_n w h1' h6'
    have r0 : ¬ tb 0 m = 7 → (resT tb (some m, v)).length = 0 := fun h => by
      unfold resT bel; rw [kindN_s, if_neg (by rw [decide_eq_true_eq]; exact h)]; rfl
    rcases kind_cases w with q | q | q | q | q | q | q | q
    · rw [cn_0 q, r0 (by rw [q]; decide)]; unfold arN; rw [kids_0 q]; rfl
    · rw [cn_1 q, r0 (by rw [q]; decide)]; unfold arN; rw [kids_1 q, List.length_replicate]; rfl
    · rw [cn_2 q, r0 (by rw [q]; decide)]; unfold arN; rw [kids_2 q]; rfl
    · rw [cn_3 q, r0 (by rw [q]; decide)]; unfold arN; rw [kids_3 q]; rfl
    · rw [cn_4 q, r0 (by rw [q]; decide)]; unfold arN; rw [kids_4 q]; rfl
    · rw [cn_5 q, r0 (by rw [q]; decide)]; unfold arN; rw [kids_5 q]; rfl
    · rw [cn_6 q, r0 (by rw [q]; decide)]; unfold arN; rw [kids_6 q, List.length_replicate]; rfl
    · rw [cn_7 q, show resT tb (some m, v) = [(9, v, 0)] from if_pos (decide_eq_true q)]; unfold arN; rw [kids_7 q]; rfl
theorem arC_9 {v : Int32} : arC (9, v, 0) = 0 := rfl
theorem CC_res {x : Nd} : CC (resT tb x) (resT tb x).length := by
  unfold resT
  cases bel tb x
  · exact rfl
  · exact ⟨0, rfl, rfl⟩
theorem CC_cenc (hw : ∀ m, m < nm → MkWF tb nc m) (L : List Nd) (ts : List (Option Nat)) (hc : CF tb L ts) : BN nm L → CC (cenc tb L) ts.length := by
  refine CF_ind (P := fun L ts => BN nm L → CC (cenc tb L) ts.length) ?_ ?_ L.length L ts (Nat.le_refl _) hc
  · intro _; exact rfl
  · intro x t ts L1 L2 hk h1 P1 h2 P2 hb
    have hbx := hb x List.mem_cons_self
    have p1 := P1 (fun y hy => hb y (List.mem_cons_of_mem _ (List.mem_append_left _ hy)))
    have p2 := P2 (fun y hy => hb y (List.mem_cons_of_mem _ (List.mem_append_right _ hy)))
    rw [cenc_tree h1]
    refine ⟨ts.length, rfl, ?_⟩
    rw [arC_cn hw (okN_X hk hbx)]
    exact CC_app p2 _ _ (CC_app CC_res _ _ p1)
end
def LfC (c : CN) : Prop := c.1 = 0 ∨ c.1 = 8 ∨ c.1 = 9
def lcC : List CN → Nat
  | [] => 0
  | c :: C => (if c.1 = 0 ∨ c.1 = 8 ∨ c.1 = 9 then 1 else 0) + lcC C
def rawC : List CN → List Int32
  | [] => []
  | c :: C => if c.1 = 0 ∨ c.1 = 8 ∨ c.1 = 9 then c.2.1 :: rawC C else rawC C
def evC : List CN → List Int32
  | [] => []
  | c :: C => if c.1 = 0 ∨ c.1 = 8 ∨ c.1 = 9 then c.2.1 :: evC C else if c.1 = 4 then mapF c.2.1 ((evC C).take (lcC (C.take (tlC C 1)))) ++ (evC C).drop (lcC (C.take (tlC C 1))) else evC C
theorem lcC_c {c : CN} {C : List CN} : lcC (c :: C) = (if c.1 = 0 ∨ c.1 = 8 ∨ c.1 = 9 then 1 else 0) + lcC C := rfl
theorem lcC_app (B : List CN) : ∀ A : List CN, lcC (A ++ B) = lcC A + lcC B := by
  intro A
  induction A with
  | nil => show lcC B = 0 + _; omega
  | cons c A ih => rw [List.cons_append, lcC_c, lcC_c, ih]; omega
theorem lcC_take (C : List CN) (k : Nat) : lcC (C.take k) ≤ lcC C := by
  have := lcC_app (C.drop k) (C.take k)
  rw [List.take_append_drop] at this
  omega
theorem rawC_app (B : List CN) : ∀ A : List CN, rawC (A ++ B) = rawC A ++ rawC B := by
  intro A
  induction A with
  | nil => rfl
  | cons c A ih =>
    show (if c.1 = 0 ∨ c.1 = 8 ∨ c.1 = 9 then c.2.1 :: rawC (A ++ B) else rawC (A ++ B)) = (if c.1 = 0 ∨ c.1 = 8 ∨ c.1 = 9 then c.2.1 :: rawC A else rawC A) ++ rawC B
    rw [ih]
    by_cases q : c.1 = 0 ∨ c.1 = 8 ∨ c.1 = 9
    · rw [if_pos q, if_pos q]; rfl
    · rw [if_neg q, if_neg q]
theorem rawC_len : ∀ A : List CN, (rawC A).length = lcC A := by
  intro A
  induction A with
  | nil => rfl
  | cons c A ih =>
    show (if c.1 = 0 ∨ c.1 = 8 ∨ c.1 = 9 then c.2.1 :: rawC A else rawC A).length = _
    rw [lcC_c]
    by_cases q : c.1 = 0 ∨ c.1 = 8 ∨ c.1 = 9
    · rw [if_pos q, if_pos q, List.length_cons, ih]; omega
    · rw [if_neg q, if_neg q, ih]; omega
theorem evC_c {c : CN} {C : List CN} : evC (c :: C) = if c.1 = 0 ∨ c.1 = 8 ∨ c.1 = 9 then c.2.1 :: evC C else if c.1 = 4 then mapF c.2.1 ((evC C).take (lcC (C.take (tlC C 1)))) ++ (evC C).drop (lcC (C.take (tlC C 1))) else evC C := rfl
theorem evC_len : ∀ A : List CN, (evC A).length = lcC A := by
  intro A
  induction A with
  | nil => rfl
  | cons c A ih =>
    rw [evC_c, lcC_c]
    by_cases q : c.1 = 0 ∨ c.1 = 8 ∨ c.1 = 9
    · rw [if_pos q, if_pos q, List.length_cons, ih]; omega
    · rw [if_neg q, if_neg q]
      by_cases q4 : c.1 = 4
      · rw [if_pos q4, List.length_append, mapF_len, td_len, ih]; omega
      · rw [if_neg q4, ih]; omega
theorem evC_app {B : List CN} : ∀ (C : List CN) (k : Nat), CC C k → evC (C ++ B) = evC C ++ evC B := by
  intro C
  induction C with
  | nil => intro k h; rfl
  | cons c C ih =>
    intro k h
    obtain ⟨k', rfl, h⟩ := h
    rw [List.cons_append, evC_c, evC_c, ih _ h]
    by_cases q : c.1 = 0 ∨ c.1 = 8 ∨ c.1 = 9
    · rw [if_pos q, if_pos q]; rfl
    · rw [if_neg q, if_neg q]
      by_cases q4 : c.1 = 4
      · have a1 : arC c = 1 := by
          unfold arC
          rw [q4]; rfl
        rw [if_pos q4, if_pos q4, tlC_app _ _ _ h (by omega), List.take_append_of_le_length (tlC_le _ _)]
        have hl : lcC (C.take (tlC C 1)) ≤ (evC C).length := by rw [evC_len]; exact lcC_take _ _
        rw [List.take_append_of_le_length hl, List.drop_append_of_le_length hl, List.append_assoc]
      · rw [if_neg q4, if_neg q4]
section
variable {tb : Tb} {nm nc : Nat}
theorem evC_cenc (hw : ∀ m, m < nm → MkWF tb nc m) (L : List Nd) (ts : List (Option Nat)) (hc : CF tb L ts) : BN nm L → evC (cenc tb L) = evR tb L := by
  refine CF_ind (P := fun L ts => BN nm L → evC (cenc tb L) = evR tb L) ?_ ?_ L.length L ts (Nat.le_refl _) hc
  · intro _; exact rfl
  · intro x t ts L1 L2 hk h1 P1 h2 P2 hb
    have hbx := hb x List.mem_cons_self
    have hb1 : BN nm L1 := fun y hy => hb y (List.mem_cons_of_mem _ (List.mem_append_left _ hy))
    have p1 := P1 hb1
    have p2 := P2 (fun y hy => hb y (List.mem_cons_of_mem _ (List.mem_append_right _ hy)))
    have n8 : ∀ m, x.1 = some m → ¬ tb 0 m = 8 := fun m hm => kind_n8 (hw m (hbx m hm))
    have c1 := CC_cenc hw L1 _ h1 hb1
    have cr : CC (resT tb x) (resT tb x).length := CC_res
    rw [cenc_tree h1, evR_tree h1 n8, evC_c]
    have eA : evC (cenc tb L1 ++ resT tb x ++ cenc tb L2) = evR tb L1 ++ evC (resT tb x) ++ evR tb L2 := by
      rw [evC_app _ _ (CC_app cr _ _ c1), evC_app _ _ c1, p1, p2]
    have r0 : ¬ kindN tb x = 7 → resT tb x = [] := fun h => by
      unfold resT bel; rw [if_neg (by rw [decide_eq_true_eq]; exact h)]
    have k1 : (cnN tb x).1 = kindN tb x := by
      obtain ⟨xm, v⟩ := x
      cases xm <;> rfl
    have n9 : ¬ kindN tb x = 9 := by
      obtain ⟨xm, v⟩ := x
      cases xm with
      | none => show ¬ (8 : Int32) = 9; decide
      | some m =>
        rw [kindN_s]
        intro z
        rcases kind_cases (hw m (hbx m rfl)) with q | q | q | q | q | q | q | q <;> exact absurd (q.symm.trans z) (by decide)
    rw [k1, eA]
    unfold evT
    by_cases c : kindN tb x = 8 ∨ kindN tb x = 0
    · have hk0 := kids_leaf c n8
      rw [hk0] at h1
      have e1 : L1 = [] := by
        cases L1 with
        | nil => rfl
        | cons y L1 => obtain ⟨t, ts', e2, -⟩ := h1; cases e2
      subst e1
      have v1 : (cnN tb x).2.1 = x.2 := by
        obtain ⟨xm, v⟩ := x
        cases xm with
        | none => rfl
        | some m =>
          rcases c with c | c
          · exact absurd c (n8 m rfl)
          · rw [cn_0 c]
      rw [if_pos c, if_pos (c.elim (fun z => Or.inr (Or.inl z)) Or.inl), v1, r0 (fun z => by rw [z] at c; rcases c with c | c <;> exact absurd c (by decide))]
      rfl
    · rw [if_neg c, if_neg (fun z => z.elim (fun y => c (Or.inr y)) (fun y => y.elim (fun q => c (Or.inl q)) n9))]
      by_cases c4 : kindN tb x = 4
      · rw [if_pos c4, if_pos c4, r0 (by rw [c4]; decide)]
        have a1 : (kidsT tb x).length = 1 := by
          obtain ⟨xm, v⟩ := x
          cases xm with
          | none => exact absurd (show (8 : Int32) = 4 from c4) (by decide)
          | some m => rw [kids_4 c4]; rfl
        rw [a1] at c1
        have t1 : tlC (cenc tb L1 ++ [] ++ cenc tb L2) 1 = (cenc tb L1).length := by
          rw [List.append_nil]
          have := tlC_full (B := cenc tb L2) _ _ 0 c1
          rw [tlC_0] at this
          exact this
        rw [t1, List.append_nil, List.take_append_of_le_length (Nat.le_refl _), List.take_length, ← evC_len, p1, show evC ([] : List CN) = [] from rfl, List.append_nil, List.take_append_of_le_length (Nat.le_refl _), List.take_length, List.drop_append_of_le_length (Nat.le_refl _), List.drop_length, List.nil_append]
      · rw [if_neg c4, if_neg c4]
        by_cases c7 : kindN tb x = 7
        · rw [if_pos c7, show resT tb x = [(9, x.2, 0)] from if_pos (decide_eq_true c7)]; rfl
        · rw [if_neg c7, r0 c7]
          show evR tb L1 ++ [] ++ _ = _
          rw [List.append_nil]
end
