/-! EDITS: a list, the reference -/
def SfP (f4 f5 tr p : Nat) (o2 o : Ob) : Prop := o.2.1 = o2.2.1 ∧ (∀ g, g ≠ 9 → g ≠ 10 → o.2.2 g = o2.2.2 g) ∧ ∀ g, g = 9 ∨ g = 10 → (∀ i, (i < 3000 + f4 ∨ 3000 + f4 + (p - f5) ≤ i) → o.2.2 g i = o2.2.2 g i) ∧ ∀ j, j < p - f5 → o.2.2 g (3000 + f4 + j) = o2.2.2 g (1000 * tr + (f5 + j))
theorem m_sft {tr f4 f5 z : Nat} {x1 x3 : Int32} {K Post : Ob → Prop} {o2 : Ob} (ht : tr < 5) (h3 : tr ≠ 3) (h45 : f4 ≤ f5) (hz : z ≤ 744) (h41 : o2.2.1 41 = nI tr) (h8 : o2.2.2 8 tr = nI z) (k : ∀ o, SfP f4 f5 tr z o2 o → K o) : ∀ (d p : Nat) (o : Ob), p + d = z → f5 ≤ p → SfP f4 f5 tr p o2 o → w_X10_tryWithout_L76 x1 x3 (nI f4) (nI f5) K Post (d + 1) (nI p) o := by
  intro d
  induction d with
  | zero =>
    intro p o hp hf S
    have hp : p = z := hp
    subst hp
    have e8 : o.2.2 8 tr = nI p := by rw [S.2.1 8 (by decide) (by decide)]; exact h8
    have e41 : o.2.1 41 = nI tr := by rw [S.1]; exact h41
    refine ⟨by rw [e41]; exact vp_in_nI ht (by omega), fun _ => k o S, fun y => absurd ?_ y⟩
    rw [e41, nI_clamp (by omega), e8]; exact Int32.le_refl _
  | succ d ih =>
    intro p o hp hf S
    have e8 : o.2.2 8 tr = nI z := by rw [S.2.1 8 (by decide) (by decide)]; exact h8
    have e41 : o.2.1 41 = nI tr := by rw [S.1]; exact h41
    have ei : (3000 : Int32) + nI f4 + nI p - nI f5 = nI (3000 + f4 + (p - f5)) := by rw [idx3, nI_add, nI_sub (by omega)]; congr 1; omega
    refine ⟨by rw [e41]; exact vp_in_nI ht (by omega), fun y => absurd y ?_, fun _ => ?_⟩
    · rw [e41, nI_clamp (by omega), e8, nI_leI (by omega) (by omega)]; omega
    rw [e41, idx_nI, ei, nI_clamp (by omega), nI_clamp (by omega)]
    have v1 : vp_in (nI (1000 * tr + p)) 5000 := vp_in_nI (by omega) (by omega)
    have v2 : vp_in (nI (3000 + f4 + (p - f5))) 5000 := vp_in_nI (by omega) (by omega)
    refine ⟨v1, v2, v1, v2, ?_⟩
    have key : ∀ X : Ob, X = (o.1, o.2.1, sa (sa o.2.2 9 (upd (o.2.2 9) (3000 + f4 + (p - f5)) (o.2.2 9 (1000 * tr + p)))) 10 (upd (o.2.2 10) (3000 + f4 + (p - f5)) (o.2.2 10 (1000 * tr + p)))) → w_X10_tryWithout_L76 x1 x3 (nI f4) (nI f5) K Post (d + 1) (nI p + 1) X := by
      intro X hX
      have y1 : X.2.1 = o.2.1 := by rw [hX]
      have y2 : X.2.2 = sa (sa o.2.2 9 (upd (o.2.2 9) (3000 + f4 + (p - f5)) (o.2.2 9 (1000 * tr + p)))) 10 (upd (o.2.2 10) (3000 + f4 + (p - f5)) (o.2.2 10 (1000 * tr + p))) := by rw [hX]
      have yg : ∀ g, g = 9 ∨ g = 10 → ∀ i, X.2.2 g i = upd (o.2.2 g) (3000 + f4 + (p - f5)) (o.2.2 g (1000 * tr + p)) i := by
        intro g hg i
        rcases hg with rfl | rfl
        · rw [y2, sa_ne (by omega), sa_us]
        · rw [y2, sa_us]
      rw [nI_1]
      refine ih (p + 1) X (by omega) (by omega) ⟨y1.trans S.1, fun g h9 h10 => ?_, fun g hg => ⟨fun i hi => ?_, fun j hj => ?_⟩⟩
      · rw [y2, sa_ne h10, sa_ne h9]; exact S.2.1 g h9 h10
      · rw [yg g hg, pk_un (by omega)]; exact (S.2.2 g hg).1 i (by omega)
      · rw [yg g hg]
        by_cases c : j = p - f5
        · rw [c, pk_us, show f5 + (p - f5) = p by omega]; exact (S.2.2 g hg).1 _ (by omega)
        · rw [pk_un (by omega)]; exact (S.2.2 g hg).2 j (by omega)
    exact key _ rfl
section
variable {tb : Tb} {nm nc : Nat}
theorem enN_sub {R A T B : List Nd} {t : Option Nat} (hR : R = A ++ (T ++ B)) (h : CF tb T [t]) : enN tb R A.length = A.length + T.length := by
  unfold enN
  rw [hR, List.drop_left, tlN_app T _ 1 h (Nat.le_refl _)]
  cases T with
  | nil => exact absurd (show [t] = [] from h) (by intro z; cases z)
  | cons x L =>
    obtain ⟨t', ts', e, hk, h⟩ := h
    cases e
    rw [List.append_nil] at h
    have := tlN_tree (tb := tb) (x := x) (L2 := []) h
    rw [List.append_nil] at this
    rw [this, List.length_cons]; omega
theorem m_wk8 (hw : ∀ m, m < nm → MkWF tb nc m) (hn : nm ≤ 30) {f1 f3 : Int32} {N tr : Nat} (hNb : N < 1000) {K : Int32 → Ob → Prop} {Post : Ob → Prop} {o : Ob} {R : List Nd} {rs : List (Option Nat)} (S : BS tb nm nc o tr R) (hB : BN nm R) (hcR : CF tb R rs) : ∀ (ts : List (Option Nat)) (A L B : List Nd) (j : Nat), R = A ++ (L ++ B) → CF tb L ts → j + ts.length = N → K (nI (A.length + L.length)) o → w_X10_tryWithout_L8 f1 (nI N) f3 K Post (ts.length + 1) (nI A.length) (nI j) o := by
  intro ts
  induction ts with
  | nil =>
    intro A L B j hR hc hj k
    have : L = [] := by
      cases L with
      | nil => rfl
      | cons x M => obtain ⟨t', ts', e, -⟩ := hc; cases e
    subst this
    have hj : j + 0 = N := hj
    exact ⟨fun _ => k, fun y => absurd (by rw [nI_leI (by omega) (by omega)]; omega) y⟩
  | cons t ts ih =>
    intro A L B j hR hc hj k
    obtain ⟨C, D, rfl, a, b⟩ := CF_split L [t] ts hc
    have hj : j + (ts.length + 1) = N := hj
    obtain ⟨T, ht, hr, h41⟩ := id S
    have hR1 : R = A ++ (C ++ (D ++ B)) := by rw [hR, List.append_assoc]
    have pC := (CF_ne a).1
    have lR : R.length = A.length + (C.length + (D.length + B.length)) := by rw [hR1, List.length_append, List.length_append, List.length_append]
    refine ⟨fun y => absurd y (by rw [nI_leI (by omega) (by omega)]; omega), fun _ => ?_⟩
    rw [h41]
    refine m_endOf hw hn T ht hr hB hcR (by omega) ?_
    rw [enN_sub hR1 a, nI_1]
    have := ih (A ++ C) D B (j + 1) (by rw [hR1, List.append_assoc]) b (by omega) (by
      rw [List.length_append] at k ⊢
      rw [Nat.add_assoc]; exact k)
    rw [List.length_append] at this
    exact this
theorem m_wk39 (hw : ∀ m, m < nm → MkWF tb nc m) (hn : nm ≤ 30) {f1 f3 : Int32} {N tr : Nat} (hNb : N < 1000) {K : Int32 → Ob → Prop} {Post : Ob → Prop} {o : Ob} {R : List Nd} {rs : List (Option Nat)} (S : BS tb nm nc o tr R) (hB : BN nm R) (hcR : CF tb R rs) : ∀ (ts : List (Option Nat)) (A L B : List Nd) (j : Nat), R = A ++ (L ++ B) → CF tb L ts → j + ts.length = N → K (nI (A.length + L.length)) o → w_X10_tryWithout_L39 f1 (nI N) f3 K Post (ts.length + 1) (nI A.length) (nI j) o := by
  intro ts
  induction ts with
  | nil =>
    intro A L B j hR hc hj k
    have : L = [] := by
      cases L with
      | nil => rfl
      | cons x M => obtain ⟨t', ts', e, -⟩ := hc; cases e
    subst this
    have hj : j + 0 = N := hj
    exact ⟨fun _ => k, fun y => absurd (by rw [nI_leI (by omega) (by omega)]; omega) y⟩
  | cons t ts ih =>
    intro A L B j hR hc hj k
    obtain ⟨C, D, rfl, a, b⟩ := CF_split L [t] ts hc
    have hj : j + (ts.length + 1) = N := hj
    obtain ⟨T, ht, hr, h41⟩ := id S
    have hR1 : R = A ++ (C ++ (D ++ B)) := by rw [hR, List.append_assoc]
    have pC := (CF_ne a).1
    have lR : R.length = A.length + (C.length + (D.length + B.length)) := by rw [hR1, List.length_append, List.length_append, List.length_append]
    refine ⟨fun y => absurd y (by rw [nI_leI (by omega) (by omega)]; omega), fun _ => ?_⟩
    rw [h41]
    refine m_endOf hw hn T ht hr hB hcR (by omega) ?_
    rw [enN_sub hR1 a, nI_1]
    have := ih (A ++ C) D B (j + 1) (by rw [hR1, List.append_assoc]) b (by omega) (by
      rw [List.length_append] at k ⊢
      rw [Nat.add_assoc]; exact k)
    rw [List.length_append] at this
    exact this
theorem m_two (hw : ∀ m, m < nm → MkWF tb nc m) (hn : nm ≤ 30) {tr : Nat} (h3 : tr ≠ 3) {R : List Nd} {rs : List (Option Nat)} {c : List Frm} {x : Nd} {K1 K2 K3 : List Nd} {ts1 ts2 : List (Option Nat)} {n c' l' : Nat} (h0 : fil c (x :: (K1 ++ (K2 ++ K3))) = R) (e : x.2 = nI n) (g2 : c' ≤ n) (hn2 : n ≤ 24) (lb : c' * l' ≤ 24) (k1 : CF tb K1 ts1) (k2 : CF tb K2 ts2) (l1 : ts1.length = c' * l') (l2 : ts2.length = c') (hcR : CF tb R rs) (hB : BN nm R) {o : Ob} {P : Ob → Prop} (S : BS tb nm nc o tr R) (k : ∀ o2, Fr [] [8, 9, 10] o o2 → (∀ t, t < 5 → t ≠ 3 → RK t o o2) → RowM o2 3 (fil c ((x.1, nI (n - c')) :: (K1 ++ K3))) → P o2) : w_X10_tryWithout (nI (posR c)) (nI c' * nI l') (nI c') o P := by
  obtain ⟨T, ht, hr, h41⟩ := id S
  have hl := hr.2.1
  have pl := preR_len c
  have hR1 : R = (preR c ++ [x]) ++ (K1 ++ (K2 ++ (K3 ++ sufR c))) := by
    rw [← h0, fil_head]; simp only [List.append_assoc, List.cons_append, List.nil_append]
  have hR2 : R = (preR c ++ [x] ++ K1) ++ (K2 ++ (K3 ++ sufR c)) := by rw [hR1]; simp only [List.append_assoc]
  have la : (preR c ++ [x]).length = posR c + 1 := by rw [List.length_append, pl]; rfl
  have lb2 : (preR c ++ [x] ++ K1).length = posR c + 1 + K1.length := by rw [List.length_append, la]
  have lR : R.length = posR c + 1 + K1.length + (K2.length + (K3 ++ sufR c).length) := by rw [hR2, List.length_append, lb2, List.length_append]
  refine ⟨ts1.length + 1, ?_⟩
  rw [mul_nI, nI_1, ← la]
  refine m_wk8 (N := c' * l') hw hn (by omega) S hB hcR ts1 _ K1 _ 0 hR1 k1 (by omega) ⟨ts2.length + 1, ?_⟩
  rw [← List.length_append]
  refine m_wk39 (N := c') hw hn (by omega) S hB hcR ts2 _ K2 _ 0 hR2 k2 (by omega) ?_
  rw [h41, lb2]
  refine m_copyRow (u := 3) ht (by omega) h3 hr (fun o2 f2 rk2 r2 => ?_)
  have q41 : o2.2.1 41 = nI tr := (f2.2.1 41 (by decide)).trans h41
  obtain ⟨q8, qi⟩ := rk2 tr h3
  refine ⟨(K3 ++ sufR c).length + 1, m_sft (z := R.length) (o2 := o2) ht h3 (by omega) hl q41 (q8.trans hr.1) (fun o3 F3 => ?_) _ _ o2 (by omega) (Nat.le_refl _) ⟨rfl, fun _ _ _ => rfl, fun g _ => ⟨fun _ _ => rfl, fun j hj => absurd hj (by omega)⟩⟩⟩
  obtain ⟨y1, y2, y3⟩ := F3
  have e41 : o3.2.1 41 = nI tr := by rw [y1]; exact q41
  have e8 : o3.2.2 8 tr = nI R.length := by rw [y2 8 (by decide) (by decide)]; exact q8.trans hr.1
  have hxR : R[posR c]? = some x := by rw [← h0]; exact fil_at
  have e10 : o3.2.2 10 (3000 + posR c) = nI n := by
    rw [(y3 10 (Or.inr rfl)).1 _ (Or.inl (by omega))]
    exact (r2.2.2 _ _ hxR).2.trans e
  rw [e41, idx3, nI_clamp (by omega), nI_clamp (by omega), e8, e10, nI_sub g2, nI_sub (by omega), nI_sub (by omega)]
  refine ⟨vp_in_nI ht (by omega), vp_in_nI (by omega) (by omega), vp_in_nI (by omega) (by omega), ?_⟩
  have gz : R.length - (posR c + 1 + K1.length + K2.length - (posR c + 1 + K1.length)) = posR c + 1 + K1.length + (K3 ++ sufR c).length := by omega
  rw [gz]
  have key : ∀ X : Ob, X = (o3.1, o3.2.1, sa (sa o3.2.2 8 (upd (o3.2.2 8) 3 (nI (posR c + 1 + K1.length + (K3 ++ sufR c).length)))) 10 (upd (o3.2.2 10) (3000 + posR c) (nI (n - c')))) → P X := by
    intro X hX
    have x1 : X.2.1 = o3.2.1 := by rw [hX]
    have x2 : X.2.2 = sa (sa o3.2.2 8 (upd (o3.2.2 8) 3 (nI (posR c + 1 + K1.length + (K3 ++ sufR c).length)))) 10 (upd (o3.2.2 10) (3000 + posR c) (nI (n - c'))) := by rw [hX]
    have xo : ∀ g, g ≠ 8 → g ≠ 10 → X.2.2 g = o3.2.2 g := fun g h8 h10 => by rw [x2, sa_ne h10, sa_ne h8]
    have x8 : ∀ i, X.2.2 8 i = upd (o3.2.2 8) 3 (nI (posR c + 1 + K1.length + (K3 ++ sufR c).length)) i := fun i => by rw [x2, sa_ne (by omega), sa_us]
    have x10 : ∀ i, X.2.2 10 i = upd (o3.2.2 10) (3000 + posR c) (nI (n - c')) i := fun i => by rw [x2, sa_us]
    refine k X ⟨fun k hk => ?_, fun k hk => ?_⟩ (fun t' ht' h3' => (rk2 t' h3').tr ⟨?_, fun i hi => ⟨?_, ?_⟩⟩) ?_
    · rw [x1, y1]; exact f2.2.1 k hk
    · rw [xo k (fun z => hk (by subst z; decide)) (fun z => hk (by subst z; decide)), y2 k (fun z => hk (by subst z; decide)) (fun z => hk (by subst z; decide))]
      exact f2.2.2 k hk
    · rw [x8, pk_un h3', y2 8 (by decide) (by decide)]
    · rw [xo 9 (by omega) (by omega)]; exact (y3 9 (Or.inl rfl)).1 _ (by omega)
    · rw [x10, pk_un (by omega)]; exact (y3 10 (Or.inr rfl)).1 _ (by omega)
    · have M : RowM (o3.1, o3.2.1, sa o3.2.2 8 (upd (o3.2.2 8) 3 (nI (posR c + 1 + K1.length + (K3 ++ sufR c).length)))) 3 (preR c ++ x :: (K1 ++ (K3 ++ sufR c))) := by
        have ll : (preR c ++ x :: (K1 ++ (K3 ++ sufR c))).length = posR c + 1 + K1.length + (K3 ++ sufR c).length := by rw [List.length_append, pl, List.length_cons, List.length_append]; omega
        refine ⟨?_, by rw [ll]; omega, fun i y hy => ?_⟩
        · show sa o3.2.2 8 (upd (o3.2.2 8) 3 (nI (posR c + 1 + K1.length + (K3 ++ sufR c).length))) 8 3 = _
          rw [sa_us, pk_us, ll]
        · show sa o3.2.2 8 (upd (o3.2.2 8) 3 (nI (posR c + 1 + K1.length + (K3 ++ sufR c).length))) 9 (1000 * 3 + i) = _ ∧ sa o3.2.2 8 (upd (o3.2.2 8) 3 (nI (posR c + 1 + K1.length + (K3 ++ sufR c).length))) 10 (1000 * 3 + i) = _
          rw [sa_ne (by omega), sa_ne (by omega)]
          have hi := (List.getElem?_eq_some_iff.mp hy).1
          rw [show preR c ++ x :: (K1 ++ (K3 ++ sufR c)) = (preR c ++ [x] ++ K1) ++ (K3 ++ sufR c) by simp only [List.append_assoc, List.cons_append, List.nil_append]] at hy
          rcases Nat.lt_or_ge i (posR c + 1 + K1.length) with c1 | c1
          · rw [List.getElem?_append_left (by omega)] at hy
            have hy2 : R[i]? = some y := by rw [hR2, List.getElem?_append_left (by omega)]; exact hy
            rw [(y3 9 (Or.inl rfl)).1 _ (Or.inl (by omega)), (y3 10 (Or.inr rfl)).1 _ (Or.inl (by omega))]
            exact r2.2.2 i y hy2
          · rw [List.getElem?_append_right (by omega), lb2] at hy
            have hy2 : R[i + K2.length]? = some y := by
              rw [hR2, List.getElem?_append_right (by omega), lb2, List.getElem?_append_right (by omega), show i + K2.length - (posR c + 1 + K1.length) - K2.length = i - (posR c + 1 + K1.length) by omega]; exact hy
            have s9 := (y3 9 (Or.inl rfl)).2 (i - (posR c + 1 + K1.length)) (by omega)
            have s10 := (y3 10 (Or.inr rfl)).2 (i - (posR c + 1 + K1.length)) (by omega)
            rw [show 3000 + (posR c + 1 + K1.length) + (i - (posR c + 1 + K1.length)) = 1000 * 3 + i by omega, show posR c + 1 + K1.length + K2.length + (i - (posR c + 1 + K1.length)) = i + K2.length by omega] at s9 s10
            rw [s9, s10]
            obtain ⟨w1, w2⟩ := qi (i + K2.length) (by omega)
            rw [w1, w2]
            exact hr.2.2 _ _ hy2
      have e' : fil c ((x.1, nI (n - c')) :: (K1 ++ K3)) = preR c ++ (x.1, nI (n - c')) :: (K1 ++ (K3 ++ sufR c)) := by rw [fil_head, List.append_assoc]
      rw [e']
      refine M.set ?_ (fun i _ => ?_) (fun i hi hne => ?_) ?_
      · show X.2.2 8 3 = sa o3.2.2 8 (upd (o3.2.2 8) 3 (nI (posR c + 1 + K1.length + (K3 ++ sufR c).length))) 8 3; rw [x8, sa_us]
      · rw [xo 9 (by omega) (by omega)]; show o3.2.2 9 (1000 * 3 + i) = sa o3.2.2 8 (upd (o3.2.2 8) 3 (nI (posR c + 1 + K1.length + (K3 ++ sufR c).length))) 9 (1000 * 3 + i); rw [sa_ne (by omega)]
      · rw [x10, pk_un (by omega)]; show o3.2.2 10 (1000 * 3 + i) = sa o3.2.2 8 (upd (o3.2.2 8) 3 (nI (posR c + 1 + K1.length + (K3 ++ sufR c).length))) 10 (1000 * 3 + i); rw [sa_ne (by omega)]
      · rw [x10, pl]; exact pk_us
  exact key _ rfl
end
