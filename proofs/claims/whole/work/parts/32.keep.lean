/-! WHAT KEEPS THE INVARIANT -/
def RK (t : Nat) (o o2 : Ob) : Prop := o2.2.2 8 t = o.2.2 8 t ∧ ∀ i, i < 1000 → o2.2.2 9 (1000 * t + i) = o.2.2 9 (1000 * t + i) ∧ o2.2.2 10 (1000 * t + i) = o.2.2 10 (1000 * t + i)
theorem RK.rf {t : Nat} {o : Ob} : RK t o o := ⟨rfl, fun _ _ => ⟨rfl, rfl⟩⟩
theorem RK.tr {t : Nat} {o o2 o3 : Ob} (h : RK t o o2) (h2 : RK t o2 o3) : RK t o o3 := ⟨h2.1.trans h.1, fun i hi => ⟨((h2.2 i hi).1).trans (h.2 i hi).1, ((h2.2 i hi).2).trans (h.2 i hi).2⟩⟩
theorem RK.of_fr {t : Nat} {S A : List Nat} {o o2 : Ob} (h : Fr S A o o2) (h8 : 8 ∉ A) (h9 : 9 ∉ A) (h10 : 10 ∉ A) : RK t o o2 := ⟨by rw [h.2 8 h8], fun i _ => ⟨by rw [h.2 9 h9], by rw [h.2 10 h10]⟩⟩
theorem RowM.keep {t : Nat} {o o2 : Ob} {R : List Nd} (h : RowM o t R) (hk : RK t o o2) : RowM o2 t R := by
  obtain ⟨h1, h2, h3⟩ := h
  refine ⟨hk.1.trans h1, h2, fun i x hx => ?_⟩
  have hi := (List.getElem?_eq_some_iff.mp hx).1
  have h4 := hk.2 i (by omega)
  rw [h4.1, h4.2]
  exact h3 i x hx
theorem Case2.keep {nm nm2 nc : Nat} {tb tb2 : Tb} {o o2 : Ob} {t : Nat} {b b2 : Ob} {R : List Nd} (h : Case2 tb nm o t b R) (ht : TbEq nm tb tb2) (hw : ∀ m, m < nm → MkWF tb nc m) (hn : nm ≤ 30) (hn2 : nm ≤ nm2) (hk : RK t o o2) (hb : ∀ C, TreeC b C → TreeC b2 C) : Case2 tb2 nm2 o2 t b2 R ∧ evR tb2 R = evR tb R := by
  obtain ⟨⟨m, hm, hc⟩, hr, hT⟩ := h
  have hB := CF_bn hw hn R [some m] (fun a ha => by simp only [List.mem_cons, List.not_mem_nil, or_false, Option.some.injEq] at ha; omega) hc
  exact ⟨⟨⟨m, by omega, CF_congr ht R _ hB hc⟩, hr.keep hk, by rw [cenc_congr ht R hB]; exact hb _ hT⟩, evR_congr ht R hB⟩
theorem IvS.keep {nm nm2 nc : Nat} {xs xs2 : Nat → Ob} {o o2 : Ob} (h : IvS nm xs o) (ht : TbEq nm (tbO o) (tbO o2)) (hw : ∀ m, m < nm → MkWF (tbO o) nc m) (hn : nm ≤ 30) (hn2 : nm ≤ nm2) (hk : RK 0 o o2) (h7 : (xs2 0).2.1 7 = (xs 0).2.1 7) (hb : ∀ C, TreeC (xs 11) C → TreeC (xs2 11) C) (hl : ∀ ls, LvC (xs 12) ls → LvC (xs2 12) ls) : IvS nm2 xs2 o2 := by
  rcases h with ⟨h1, h2⟩ | ⟨h1, R, h2, h3⟩
  · exact Or.inl ⟨hk.1.trans h1, h7.trans h2⟩
  · obtain ⟨g1, g2⟩ := h2.keep ht hw hn hn2 hk hb
    exact Or.inr ⟨h7.trans h1, R, g1, by rw [g2]; exact hl _ h3⟩
theorem IvR.keep {nm nm2 nc : Nat} {xs xs2 : Nat → Ob} {o o2 : Ob} (h : IvR nm xs o) (ht : TbEq nm (tbO o) (tbO o2)) (hw : ∀ m, m < nm → MkWF (tbO o) nc m) (hn : nm ≤ 30) (hn2 : nm ≤ nm2) (h1 : RK 1 o o2) (h2 : RK 2 o o2) (hi : ∀ k ∈ [50, 51, 52, 53, 54, 55], o2.2.1 k = o.2.1 k) (ha : o2.2.2 56 = o.2.2 56) (h9 : (xs2 0).2.1 9 = (xs 0).2.1 9) (h8 : (xs2 0).2.2 8 = (xs 0).2.2 8) (hb : ∀ C, TreeC (xs 13) C → TreeC (xs2 13) C) (hb2 : ∀ C, TreeC (xs 14) C → TreeC (xs2 14) C) : IvR nm2 xs2 o2 := by
  have i50 := hi 50 (by decide)
  have i51 := hi 51 (by decide)
  have i52 := hi 52 (by decide)
  have i53 := hi 53 (by decide)
  have i54 := hi 54 (by decide)
  have i55 := hi 55 (by decide)
  unfold IvR
  rw [i50, i51, i52, i53, i54, i55, ha, h9, h8]
  rcases h with h | ⟨g1, g2, g3, g4, g5, g6, g7, g8⟩
  · exact Or.inl h
  · refine Or.inr ⟨g1, g2, g3, g4, g5, g6, g7, ?_⟩
    rcases g8 with g8 | ⟨k1, k2, ⟨R1, k3⟩, R2, k4⟩
    · exact Or.inl g8
    · exact Or.inr ⟨k1, k2, ⟨R1, (k3.keep ht hw hn hn2 h1 hb).1⟩, R2, (k4.keep ht hw hn hn2 h2 hb2).1⟩
theorem IvT.keep {nm nc np : Nat} {ck mk pr xs xs2 : Nat → Ob} {o o2 : Ob} (h : IvT nm nc np ck mk pr xs o) (hi : ∀ k ∈ [0, 21, 45], o2.2.1 k = o.2.1 k) (ha : ∀ k ∈ [1, 2, 3, 4, 5, 6, 7, 22, 23, 24, 46, 47, 48, 49], o2.2.2 k = o.2.2 k) (h0 : (xs2 0).2.1 4 = (xs 0).2.1 4) (h1 : (xs2 1).2.1 1 = (xs 1).2.1 1) (h4 : (xs2 4).2.1 1 = (xs 4).2.1 1) : IvT nm nc np ck mk pr xs2 o2 := by
  have et : tbO o2 = tbO o := by
    funext f
    unfold tbO
    by_cases hf : f < 7
    · rw [if_pos hf, if_pos hf]
      rcases (show f = 0 ∨ f = 1 ∨ f = 2 ∨ f = 3 ∨ f = 4 ∨ f = 5 ∨ f = 6 by omega) with rfl | rfl | rfl | rfl | rfl | rfl | rfl <;> exact ha _ (by decide)
    · rw [if_neg hf, if_neg hf]
  have i0 := hi 0 (by decide)
  have i21 := hi 21 (by decide)
  have i45 := hi 45 (by decide)
  have a22 := ha 22 (by decide)
  have a23 := ha 23 (by decide)
  have a24 := ha 24 (by decide)
  have a46 := ha 46 (by decide)
  have a47 := ha 47 (by decide)
  have a48 := ha 48 (by decide)
  have a49 := ha 49 (by decide)
  unfold IvT
  rw [i0, i21, i45, h0, h1, h4, et, a22, a23, a24, a46, a47, a48, a49]
  exact h
theorem tbO_keep {o o2 : Ob} (ha : ∀ k ∈ [1, 2, 3, 4, 5, 6, 7], o2.2.2 k = o.2.2 k) : tbO o2 = tbO o := by
  funext f
  unfold tbO
  by_cases hf : f < 7
  · rw [if_pos hf, if_pos hf]
    rcases (show f = 0 ∨ f = 1 ∨ f = 2 ∨ f = 3 ∨ f = 4 ∨ f = 5 ∨ f = 6 by omega) with rfl | rfl | rfl | rfl | rfl | rfl | rfl <;> exact ha _ (by decide)
  · rw [if_neg hf, if_neg hf]
theorem TbEq.rf {nm : Nat} {tb : Tb} : TbEq nm tb tb := fun _ _ _ => rfl
theorem ux_0 {xs : Nat → Ob} {i : Nat} {b : Ob} : ux xs i b i = b := if_pos rfl
theorem ux_n {xs : Nat → Ob} {i j : Nat} {b : Ob} (h : j ≠ i) : ux xs i b j = xs j := if_neg h
theorem ux_self {xs : Nat → Ob} {i : Nat} : ux xs i (xs i) = xs := by
  funext j; unfold ux; by_cases h : j = i
  · rw [if_pos h, h]
  · rw [if_neg h]
theorem Iv.parts {ck mk pr xs : Nat → Ob} {o : Ob} {P : Prop} (h : Iv ck mk pr xs o) (k : ∀ nm nc np : Nat, nm ≤ 30 → nc ≤ 40 → np ≤ 20 → o.2.1 0 = nI nm → (xs 4).2.1 1 = nI nm → o.2.1 21 = nI nc → (xs 1).2.1 1 = nI nc → o.2.1 45 = nI np → (xs 0).2.1 4 = nI np → IvT nm nc np ck mk pr xs o → P) : P := by
  obtain ⟨nm, nc, np, h1, -⟩ := h
  exact k nm nc np h1.1.1 h1.1.2.1 h1.1.2.2 h1.2.1.1 h1.2.1.2 h1.2.2.1.1 h1.2.2.1.2 h1.2.2.2.1.1 h1.2.2.2.1.2 h1
/-! the calls that change nothing -/
theorem ok_effort : OK_effort Iv := by
  intro ck mk pr xs o hI
  obtain ⟨nm, nc, np, hT, ⟨e, he, h1, h2, h5⟩, hS, hR⟩ := id hI
  refine ⟨rfl, rfl, ?_, ?_⟩
  · rw [h1, h2]
  · rw [ux_self, ux_self]; exact hI
