/-! TABLES: small calls on both sides, what holds over them -/
theorem ix_cases (x : Int32) (n : Nat) : (∃ m, m < n ∧ x = nI m) ∨ ∀ m, m < n → x ≠ nI m := by
  by_cases h : ∃ m, m < n ∧ x = nI m
  · exact Or.inl h
  · exact Or.inr (fun m hm e => h ⟨m, hm, e⟩)
theorem r_in {x l h : Int32} {Post : Int32 → Prop} (h0 : x < l ∨ h < x → Post 0) (h1 : ¬ x < l → ¬ h < x → Post 1) : w_X10_in x l h Post := by
  unfold w_X10_in
  exact ⟨fun c => h0 (Or.inl c), fun c => ⟨fun d => h0 (Or.inr d), fun d => h1 c d⟩⟩
theorem lt0_or {x : Int32} {n : Nat} (hn : n < 2 ^ 31) (h0 : ¬ x < 0) (h1 : ¬ nI n ≤ x) : ∃ m, m < n ∧ x = nI m := by
  obtain ⟨j, hj, rfl⟩ := nI_of h0
  rw [nI_leI hn hj] at h1
  exact ⟨j, by omega, rfl⟩
theorem nI_m1 {n : Nat} : nI n - 1 = Int32.ofInt ((n : Int) - 1) := by
  have h : nI n = Int32.ofInt (n : Int) := rfl
  rw [h, show (1 : Int32) = Int32.ofInt 1 from rfl, ← Int32.ofInt_sub]
/-- below, above: what 'in 0 to n - 1' means -/
theorem in_n {x : Int32} {n : Nat} (hn : n < 1000) : (x < 0 ∨ nI n - 1 < x) ↔ ∀ m, m < n → x ≠ nI m := by
  constructor
  · rintro (h | h) m hm rfl
    · exact nI_pos (by omega) h
    · cases n with
      | zero => omega
      | succ n =>
        rw [← nI_1, Int32.add_sub_cancel] at h
        rw [nI_ltI (by omega) (by omega)] at h
        omega
  · intro h
    by_cases h0 : x < 0
    · exact Or.inl h0
    · obtain ⟨j, hj, rfl⟩ := nI_of h0
      refine Or.inr ?_
      cases n with
      | zero =>
        rw [show nI 0 - 1 = (-1 : Int32) from rfl]
        exact Int32.lt_of_lt_of_le (show (-1 : Int32) < 0 from by decide) (nI_pos' hj)
      | succ n =>
        rw [← nI_1, Int32.add_sub_cancel, nI_ltI (by omega) hj]
        rcases Nat.lt_or_ge n j with q | q
        · exact q
        · exact absurd rfl (h j (by omega))
theorem r_noMaker {x : Int32} {nm : Nat} {o : Ob} {Post : Int32 → Ob → Prop} (hc : o.2.1 0 = nI nm) (hn : nm ≤ 30) (h0 : ∀ m, m < nm → x = nI m → Post 0 o) (h1 : (∀ m, m < nm → x ≠ nI m) → Post 1 o) : w_X10_noMaker x o Post := by
  unfold w_X10_noMaker
  rw [hc]
  refine r_in (fun h => ⟨fun z => absurd rfl z, fun _ => h1 ((in_n (by omega)).mp h)⟩) (fun a b => ⟨fun _ => ?_, fun z => absurd z (by decide)⟩)
  rcases ix_cases x nm with ⟨m, hm, e⟩ | h
  · exact h0 m hm e
  · exact ((in_n (n := nm) (by omega)).mpr h).elim (fun z => absurd z a) (fun z => absurd z b)
theorem r_noCheck {x : Int32} {nc : Nat} {o : Ob} {Post : Int32 → Ob → Prop} (hc : o.2.1 21 = nI nc) (hn : nc ≤ 40) (h0 : ∀ m, m < nc → x = nI m → Post 0 o) (h1 : (∀ m, m < nc → x ≠ nI m) → Post 1 o) : w_X10_noCheck x o Post := by
  unfold w_X10_noCheck
  rw [hc]
  refine r_in (fun h => ⟨fun z => absurd rfl z, fun _ => h1 ((in_n (by omega)).mp h)⟩) (fun a b => ⟨fun _ => ?_, fun z => absurd z (by decide)⟩)
  rcases ix_cases x nc with ⟨m, hm, e⟩ | h
  · exact h0 m hm e
  · exact ((in_n (n := nc) (by omega)).mpr h).elim (fun z => absurd z a) (fun z => absurd z b)
theorem k_at {x : Int32} {nm : Nat} {k : Ob} {Post : Option Nat → Ob → Prop} (hc : k.2.1 1 = nI nm) (hn : nm ≤ 30) (h0 : ∀ m, m < nm → x = nI m → Post (some m) k) (h1 : (∀ m, m < nm → x ≠ nI m) → Post none k) : w_X5_at x k Post := by
  unfold w_X5_at
  rw [hc]
  have key : ∀ m, m < nm → nI m < 0 → False := fun m hm h => nI_pos (by omega) h
  refine ⟨fun h => h1 (fun m hm e => key m hm (e ▸ h)), fun a => ⟨fun h => h1 (fun m hm e => by rw [e, nI_leI (by omega) (by omega)] at h; omega), fun b => ?_⟩⟩
  obtain ⟨m, hm, rfl⟩ := lt0_or (by omega) a b
  refine ⟨fun h => ?_, fun _ => ⟨vp_in_nI (by omega) (by omega), ?_⟩⟩
  · rw [show (30 : Int32) = nI 30 from rfl, nI_leI (by omega) (by omega)] at h; omega
  · rw [nI_clamp (by omega), nI_clamp (by omega)]
    exact ⟨fun _ => h0 m hm rfl, fun h => absurd hm h⟩
theorem k_knows {x : Int32} {nc : Nat} {j : Ob} {Post : Int32 → Ob → Prop} (hc : j.2.1 1 = nI nc) (hn : nc ≤ 40) (h0 : ∀ m, m < nc → x = nI m → Post 1 j) (h1 : (∀ m, m < nc → x ≠ nI m) → Post 0 j) : w_X1_knows x j Post := by
  unfold w_X1_knows
  rw [hc]
  refine ⟨fun h => h1 (fun m hm e => nI_pos (by omega) (e ▸ h)), fun a => ⟨fun h => h1 (fun m hm e => by rw [e, nI_leI (by omega) (by omega)] at h; omega), fun b => ?_⟩⟩
  obtain ⟨m, hm, rfl⟩ := lt0_or (by omega) a b
  exact ⟨fun h => by rw [show (40 : Int32) = nI 40 from rfl, nI_leI (by omega) (by omega)] at h; omega, fun _ => h0 m hm rfl⟩
/-- words of nodes depend on the makers below nm alone -/
theorem tbO_fr {S A : List Nat} {o o2 : Ob} (h : Fr S A o o2) (hA : ∀ k ∈ A, k = 0 ∨ 7 < k) : tbO o2 = tbO o := by
  funext f
  unfold tbO
  by_cases hf : f < 7
  · rw [if_pos hf, if_pos hf]
    exact h.2 _ (fun z => by rcases hA _ z with q | q <;> omega)
  · rw [if_neg hf, if_neg hf]
def TbEq (nm : Nat) (tb tb2 : Tb) : Prop := ∀ f a, a < nm → tb2 f a = tb f a
def BN (nm : Nat) (R : List Nd) : Prop := ∀ x ∈ R, ∀ m, x.1 = some m → m < nm
theorem TbEq.wt {nm : Nat} {tb tb2 : Tb} (h : TbEq nm tb tb2) {a : Nat} (ha : a < nm) : wtN tb2 a = wtN tb a := by unfold wtN; rw [h 5 a ha]
theorem MkWF.congr {nm nc nc2 m : Nat} {tb tb2 : Tb} (h : TbEq nm tb tb2) (hm : m < nm) (hc : nc ≤ nc2) (w : MkWF tb nc m) : MkWF tb2 nc2 m := by
  obtain ⟨h1, h2, h3, k0, k1, k2, k3, k4, k5, k6, k7⟩ := w
  have hw : ∀ a, a < m → wtN tb2 a = wtN tb a := fun a ha => h.wt (by omega)
  unfold MkWF
  rw [h 0 m hm, h 5 m hm, h 6 m hm, h 3 m hm, h 4 m hm, h 1 m hm, h 2 m hm, h.wt hm]
  refine ⟨h1, h2, h3, k0, fun e => ?_, fun e => ?_, fun e => ?_, fun e => ?_, fun e => ?_, k6, fun e => ?_⟩
  · obtain ⟨a, ha, e1, c, c1, c2, e3, e4⟩ := k1 e
    exact ⟨a, ha, e1, c, c1, c2, e3, by rw [hw a ha]; exact e4⟩
  · obtain ⟨a, b, ha, hb, e1, e2, e3⟩ := k2 e
    exact ⟨a, b, ha, hb, e1, e2, by rw [hw a ha, hw b hb]; exact e3⟩
  · obtain ⟨a, b, p, q, ha, hb, e1, e2, p1, p2, q1, q2, e3, e4, e5, e6⟩ := k3 e
    exact ⟨a, b, p, q, ha, hb, e1, e2, p1, p2, q1, q2, e3, e4, by rw [hw a ha]; exact e5, by rw [hw b hb]; exact e6⟩
  · obtain ⟨a, f, ha, e1, hf, e3, e4⟩ := k4 e
    exact ⟨a, f, ha, e1, hf, e3, by rw [hw a ha]; exact e4⟩
  · obtain ⟨a, c, ha, e1, hf, e3, e4⟩ := k5 e
    exact ⟨a, c, ha, e1, by omega, e3, by rw [hw a ha]; exact e4⟩
  · obtain ⟨a, ha, e1, e2⟩ := k7 e
    exact ⟨a, ha, e1, by rw [hw a ha]; exact e2⟩
theorem MkRel.congr {nm m : Nat} {tb tb2 : Tb} {mo : Ob} (h : TbEq nm tb tb2) (hm : m < nm) (w : MkRel tb mo m) : MkRel tb2 mo m := by
  unfold MkRel
  rw [h 0 m hm, h 5 m hm, h 6 m hm, h 3 m hm, h 4 m hm, h 1 m hm, h 2 m hm]
  exact w
theorem kids_0 {tb : Tb} {m : Nat} {v : Int32} (h : tb 0 m = 0) : kidsT tb (some m, v) = [] := by unfold kidsT; dsimp only; rw [h]; rfl
theorem kids_1 {tb : Tb} {m : Nat} {v : Int32} (h : tb 0 m = 1) : kidsT tb (some m, v) = List.replicate v.toNatClampNeg (some (oneN tb m)) := by unfold kidsT; dsimp only; rw [h]; rfl
theorem kids_2 {tb : Tb} {m : Nat} {v : Int32} (h : tb 0 m = 2) : kidsT tb (some m, v) = [some (oneN tb m), some (twoN tb m)] := by unfold kidsT; dsimp only; rw [h]; rfl
theorem kids_3 {tb : Tb} {m : Nat} {v : Int32} (h : tb 0 m = 3) : kidsT tb (some m, v) = [some (if v = 1 then twoN tb m else oneN tb m)] := by unfold kidsT; dsimp only; rw [h]; rfl
theorem kids_4 {tb : Tb} {m : Nat} {v : Int32} (h : tb 0 m = 4) : kidsT tb (some m, v) = [some (oneN tb m)] := by unfold kidsT; dsimp only; rw [h]; rfl
theorem kids_5 {tb : Tb} {m : Nat} {v : Int32} (h : tb 0 m = 5) : kidsT tb (some m, v) = [some (oneN tb m)] := by unfold kidsT; dsimp only; rw [h]; rfl
theorem kids_6 {tb : Tb} {m : Nat} {v : Int32} (h : tb 0 m = 6) : kidsT tb (some m, v) = List.replicate v.toNatClampNeg none := by unfold kidsT; dsimp only; rw [h]; rfl
theorem kids_7 {tb : Tb} {m : Nat} {v : Int32} (h : tb 0 m = 7) : kidsT tb (some m, v) = [some (oneN tb m)] := by unfold kidsT; dsimp only; rw [h]; rfl
theorem kids_n {tb : Tb} {v : Int32} : kidsT tb (none, v) = [] := rfl
theorem oneN_eq {tb : Tb} {m a : Nat} (h : a < 2 ^ 31) (e : tb 1 m = nI a) : oneN tb m = a := by unfold oneN; rw [e, nI_clamp h]
theorem twoN_eq {tb : Tb} {m a : Nat} (h : a < 2 ^ 31) (e : tb 2 m = nI a) : twoN tb m = a := by unfold twoN; rw [e, nI_clamp h]
theorem kind_cases {tb : Tb} {nc m : Nat} (w : MkWF tb nc m) : tb 0 m = 0 ∨ tb 0 m = 1 ∨ tb 0 m = 2 ∨ tb 0 m = 3 ∨ tb 0 m = 4 ∨ tb 0 m = 5 ∨ tb 0 m = 6 ∨ tb 0 m = 7 := by
  obtain ⟨⟨k, hk, ek⟩, -⟩ := w
  rcases (show k = 0 ∨ k = 1 ∨ k = 2 ∨ k = 3 ∨ k = 4 ∨ k = 5 ∨ k = 6 ∨ k = 7 by omega) with rfl | rfl | rfl | rfl | rfl | rfl | rfl | rfl
  · exact Or.inl ek
  · exact Or.inr (Or.inl ek)
  · exact Or.inr (Or.inr (Or.inl ek))
  · exact Or.inr (Or.inr (Or.inr (Or.inl ek)))
  · exact Or.inr (Or.inr (Or.inr (Or.inr (Or.inl ek))))
  · exact Or.inr (Or.inr (Or.inr (Or.inr (Or.inr (Or.inl ek)))))
  · exact Or.inr (Or.inr (Or.inr (Or.inr (Or.inr (Or.inr (Or.inl ek))))))
  · exact Or.inr (Or.inr (Or.inr (Or.inr (Or.inr (Or.inr (Or.inr ek))))))
theorem kids_bn {nc : Nat} {tb : Tb} {m : Nat} (w : MkWF tb nc m) (hm : m < 1000) (v : Int32) : ∀ a, some a ∈ kidsT tb (some m, v) → a < m := by
  have kc := kind_cases w
  obtain ⟨h1, h2, h3, k0, k1, k2, k3, k4, k5, k6, k7⟩ := w
  intro a ha
  rcases kc with e | e | e | e | e | e | e | e
  · rw [kids_0 e] at ha; cases ha
  · obtain ⟨b, hb, eb, -⟩ := k1 e
    rw [kids_1 e, oneN_eq (by omega) eb] at ha
    have := (List.mem_replicate.mp ha).2
    cases this; exact hb
  · obtain ⟨b, c, hb, hc, eb, ec, -⟩ := k2 e
    rw [kids_2 e, oneN_eq (by omega) eb, twoN_eq (by omega) ec] at ha
    simp only [List.mem_cons, List.not_mem_nil, or_false, Option.some.injEq] at ha
    rcases ha with rfl | rfl <;> assumption
  · obtain ⟨b, c, p, q, hb, hc, eb, ec, -⟩ := k3 e
    rw [kids_3 e, oneN_eq (by omega) eb, twoN_eq (by omega) ec] at ha
    simp only [List.mem_cons, List.not_mem_nil, or_false, Option.some.injEq] at ha
    by_cases q1 : v = 1
    · rw [if_pos q1] at ha; omega
    · rw [if_neg q1] at ha; omega
  · obtain ⟨b, f, hb, eb, -⟩ := k4 e
    rw [kids_4 e, oneN_eq (by omega) eb] at ha
    simp only [List.mem_cons, List.not_mem_nil, or_false, Option.some.injEq] at ha; omega
  · obtain ⟨b, f, hb, eb, -⟩ := k5 e
    rw [kids_5 e, oneN_eq (by omega) eb] at ha
    simp only [List.mem_cons, List.not_mem_nil, or_false, Option.some.injEq] at ha; omega
  · rw [kids_6 e] at ha
    have := (List.mem_replicate.mp ha).2
    cases this
  · obtain ⟨b, hb, eb, -⟩ := k7 e
    rw [kids_7 e, oneN_eq (by omega) eb] at ha
    simp only [List.mem_cons, List.not_mem_nil, or_false, Option.some.injEq] at ha; omega
/-- what is expected lies below nm: so do all makers of the row -/
theorem CF_bn {nm nc : Nat} {tb : Tb} (hw : ∀ m, m < nm → MkWF tb nc m) (hn : nm ≤ 30) : ∀ (R : List Nd) (ts : List (Option Nat)), (∀ a, some a ∈ ts → a < nm) → CF tb R ts → BN nm R := by
  intro R
  induction R with
  | nil => intro ts _ _ x hx; cases hx
  | cons x L ih =>
    intro ts ht hc
    obtain ⟨t, ts', e, hk, hc⟩ := hc
    subst e
    have hx : ∀ m, x.1 = some m → m < nm := fun m hm => ht m (by rw [← hk.1.symm.trans hm]; exact List.mem_cons_self)
    have hL := ih _ (fun a ha => by
      rcases List.mem_append.mp ha with q | q
      · obtain ⟨xm, v⟩ := x
        cases xm with
        | none => cases q
        | some m => have := hx m rfl; have := kids_bn (hw m this) (by omega) v a q; omega
      · exact ht a (List.mem_cons_of_mem _ q)) hc
    intro y hy
    rcases List.mem_cons.mp hy with rfl | hy
    · exact hx
    · exact hL y hy
theorem kindN_congr {nm : Nat} {tb tb2 : Tb} (h : TbEq nm tb tb2) {x : Nd} (hx : ∀ m, x.1 = some m → m < nm) : kindN tb2 x = kindN tb x := by
  unfold kindN
  cases e : x.1 with
  | none => rfl
  | some m => exact h 0 m (hx m e)
theorem kidsT_congr {nm : Nat} {tb tb2 : Tb} (h : TbEq nm tb tb2) {x : Nd} (hx : ∀ m, x.1 = some m → m < nm) : kidsT tb2 x = kidsT tb x := by
  unfold kidsT
  cases e : x.1 with
  | none => rfl
  | some m => dsimp only; unfold oneN twoN; rw [h 0 m (hx m e), h 1 m (hx m e), h 2 m (hx m e)]
theorem cnN_congr {nm : Nat} {tb tb2 : Tb} (h : TbEq nm tb tb2) {x : Nd} (hx : ∀ m, x.1 = some m → m < nm) : cnN tb2 x = cnN tb x := by
  unfold cnN
  cases e : x.1 with
  | none => rfl
  | some m => dsimp only; unfold goalN; rw [h 0 m (hx m e), h 2 m (hx m e), h 3 m (hx m e), h 4 m (hx m e)]
theorem CF_congr {nm : Nat} {tb tb2 : Tb} (h : TbEq nm tb tb2) : ∀ (R : List Nd) (ts : List (Option Nat)), BN nm R → CF tb R ts → CF tb2 R ts := by
  intro R
  induction R with
  | nil => intro ts _ hc; exact hc
  | cons x L ih =>
    intro ts hb hc
    obtain ⟨t, ts', e, hk, hc⟩ := hc
    have hx := hb x List.mem_cons_self
    refine ⟨t, ts', e, ?_, ?_⟩
    · obtain ⟨e1, e2⟩ := hk
      refine ⟨e1, fun m hm => ?_⟩
      have := e2 m hm
      have hl := hx m (e1.trans hm)
      rw [h 0 m hl, h 3 m hl]; exact this
    · rw [kidsT_congr h hx]
      exact ih _ (fun y hy => hb y (List.mem_cons_of_mem _ hy)) hc
theorem ctlN_congr {nm : Nat} {tb tb2 : Tb} (h : TbEq nm tb tb2) : ∀ (R : List Nd) (k : Nat), BN nm R → ctlN tb2 R k = ctlN tb R k := by
  intro R
  induction R with
  | nil => intro k _; cases k <;> rfl
  | cons x L ih =>
    intro k hb
    cases k with
    | zero => rfl
    | succ k =>
      have hx := hb x List.mem_cons_self
      show 1 + (if bel tb2 x then 1 else 0) + ctlN tb2 L (k + arN tb2 x) = 1 + (if bel tb x then 1 else 0) + ctlN tb L (k + arN tb x)
      rw [ih _ (fun y hy => hb y (List.mem_cons_of_mem _ hy))]
      unfold bel arN
      rw [kindN_congr h hx, kidsT_congr h hx]
theorem lfN_congr {nm : Nat} {tb tb2 : Tb} (h : TbEq nm tb tb2) : ∀ (R : List Nd) (k : Nat), BN nm R → lfN tb2 R k = lfN tb R k := by
  intro R
  induction R with
  | nil => intro k _; cases k <;> rfl
  | cons x L ih =>
    intro k hb
    cases k with
    | zero => rfl
    | succ k =>
      have hx := hb x List.mem_cons_self
      show leafN tb2 x + lfN tb2 L (k + arN tb2 x) = leafN tb x + lfN tb L (k + arN tb x)
      rw [ih _ (fun y hy => hb y (List.mem_cons_of_mem _ hy))]
      unfold leafN arN
      rw [kindN_congr h hx, kidsT_congr h hx]
theorem cenc_congr {nm : Nat} {tb tb2 : Tb} (h : TbEq nm tb tb2) : ∀ (R : List Nd), BN nm R → cenc tb2 R = cenc tb R := by
  intro R
  induction R with
  | nil => intro _; rfl
  | cons x L ih =>
    intro hb
    have hx := hb x List.mem_cons_self
    have hL := fun y hy => hb y (List.mem_cons_of_mem x hy)
    unfold cenc
    rw [ih hL, cnN_congr h hx, ctlN_congr h L _ hL]
    unfold bel arN
    rw [kindN_congr h hx, kidsT_congr h hx]
theorem evR_congr {nm : Nat} {tb tb2 : Tb} (h : TbEq nm tb tb2) : ∀ (R : List Nd), BN nm R → evR tb2 R = evR tb R := by
  intro R
  induction R with
  | nil => intro _; rfl
  | cons x L ih =>
    intro hb
    have hx := hb x List.mem_cons_self
    have hL := fun y hy => hb y (List.mem_cons_of_mem x hy)
    unfold evR
    rw [ih hL, cnN_congr h hx, lfN_congr h L _ hL]
    unfold arN
    rw [kindN_congr h hx, kidsT_congr h hx]
