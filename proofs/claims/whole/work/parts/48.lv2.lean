/-! order, atLeast: pairs of leaves -/
def RiseP (f : Nat → Int32) (n : Nat) : Prop := ∀ k, 0 < k → k < n → f (k - 1) ≤ f k
def DiffP (f : Nat → Int32) (n : Nat) : Prop := ∀ j k, j < k → k < n → ¬ f k = f j
def LeastP (f : Nat → Int32) (n : Nat) (a : Int32) : Prop := ∀ k, k < n → a ≤ f k
section
variable {lv o : Ob} {n : Nat} {f : Nat → Int32}
theorem c_leastL {a : Int32} {Post : Int32 → Ob → Prop} (h : LvF lv n f) (k : Post (bP (LeastP f n a)) lv) : ∀ (d i : Nat), i + d = n → (∀ k, k < i → a ≤ f k) → w_X2_allFrom_L2 a Post (d + 1) (nI i) lv := by
  have hn := h.2.1
  intro d
  induction d with
  | zero =>
    intro i e q
    refine ⟨fun _ => ?_, fun z => ?_⟩
    · rw [bP_t (show LeastP f n a from fun j hj => q j (by omega))] at k; exact k
    · rw [h.1] at z; exact absurd (by rw [show i = n by omega]; exact Int32.le_refl _) z
  | succ d ih =>
    intro i e q
    refine ⟨fun z => ?_, fun _ => c_get h (by omega) ⟨fun c => ?_, fun c => ?_⟩⟩
    · rw [h.1, nI_leI (by omega) (by omega)] at z; omega
    · rw [nI_1]
      refine ih (i + 1) (by omega) (fun j hj => ?_)
      rcases Nat.lt_or_ge j i with q1 | q1
      · exact q j q1
      · rw [show j = i by omega]; exact c
    · rw [bP_f (fun z => c (z i (by omega)))] at k; exact k
theorem c_least {a : Int32} {Post : Int32 → Ob → Prop} (h : LvF lv n f) (k : Post (bP (LeastP f n a)) lv) : w_X2_allFrom a lv Post := ⟨n + 1, c_leastL h k n 0 (by omega) (fun j hj => absurd hj (Nat.not_lt_zero j))⟩
theorem c_riseL {Post : Int32 → Ob → Prop} (h : LvF lv n f) (k : Post (bP (RiseP f n)) lv) : ∀ (d i : Nat), n ≤ i + d → 1 ≤ i → i < 100 → (∀ k, 0 < k → k < i → k < n → f (k - 1) ≤ f k) → w_X2_rise_L2 Post (d + 1) (nI i) lv := by
  have hn := h.2.1
  have hx : ∀ i, n ≤ i → (∀ k, 0 < k → k < i → k < n → f (k - 1) ≤ f k) → Post 1 lv := fun i h1 h2 => by
    rw [bP_t (show RiseP f n from fun j h3 h4 => h2 j h3 (by omega) h4)] at k; exact k
  intro d
  induction d with
  | zero =>
    intro i e e1 e2 q
    refine ⟨fun _ => hx i (by omega) q, fun z => ?_⟩
    rw [h.1, nI_leI (by omega) (by omega)] at z; omega
  | succ d ih =>
    intro i e e1 e2 q
    refine ⟨fun z => ?_, fun z => ?_⟩
    · rw [h.1, nI_leI (by omega) (by omega)] at z; exact hx i z q
    · rw [h.1, nI_leI (by omega) (by omega)] at z
      rw [show (1 : Int32) = nI 1 from rfl, pk_sub e1]
      refine c_get h (by omega) (c_get h (by omega) ⟨fun c => ?_, fun c => ?_⟩)
      · rw [nI_add]
        refine ih (i + 1) (by omega) (by omega) (by omega) (fun j h1 h2 h3 => ?_)
        rcases Nat.lt_or_ge j i with q1 | q1
        · exact q j h1 q1 h3
        · rw [show j = i by omega]; exact c
      · rw [bP_f (fun z2 => c (z2 i (by omega) (by omega)))] at k; exact k
theorem c_rise {Post : Int32 → Ob → Prop} (h : LvF lv n f) (k : Post (bP (RiseP f n)) lv) : w_X2_rise lv Post := ⟨n + 1, c_riseL h k n 1 (by omega) (by omega) (by omega) (fun j h1 h2 _ => by omega)⟩
theorem c_diffI {Post : Int32 → Ob → Prop} {K : Ob → Prop} {i : Nat} (h : LvF lv n f) (hi : i < n) (k0 : (¬ ∀ j, j < i → ¬ f i = f j) → Post 0 lv) (k1 : (∀ j, j < i → ¬ f i = f j) → K lv) : ∀ (d j : Nat), j + d = i → (∀ q, q < j → ¬ f i = f q) → w_X2_allDiffer_L12 (nI i) K Post (d + 1) (nI j) lv := by
  have hn := h.2.1
  intro d
  induction d with
  | zero =>
    intro j e q
    refine ⟨fun _ => k1 (fun a b => q a (by omega)), fun z => ?_⟩
    exact absurd (by rw [show j = i by omega]; exact Int32.le_refl _) z
  | succ d ih =>
    intro j e q
    refine ⟨fun z => ?_, fun _ => c_get h hi (c_get h (by omega) ⟨fun c => ?_, fun c => ?_⟩)⟩
    · rw [nI_leI (by omega) (by omega)] at z; omega
    · rw [nI_1]
      refine ih (j + 1) (by omega) (fun a b => ?_)
      rcases Nat.lt_or_ge a j with q1 | q1
      · exact q a q1
      · rw [show a = j by omega]; exact c
    · exact k0 (fun z => z j (by omega) c)
theorem c_diffL {Post : Int32 → Ob → Prop} (h : LvF lv n f) (k : Post (bP (DiffP f n)) lv) : ∀ (d i : Nat), n ≤ i + d → 1 ≤ i → i < 100 → (∀ j k, j < k → k < i → k < n → ¬ f k = f j) → w_X2_allDiffer_L2 Post (d + 1) (nI i) lv := by
  have hn := h.2.1
  have hx : ∀ i, n ≤ i → (∀ j k, j < k → k < i → k < n → ¬ f k = f j) → Post 1 lv := fun i h1 h2 => by
    rw [bP_t (show DiffP f n from fun j q h3 h4 => h2 j q h3 (by omega) h4)] at k; exact k
  intro d
  induction d with
  | zero =>
    intro i e e1 e2 q
    refine ⟨fun _ => hx i (by omega) q, fun z => ?_⟩
    rw [h.1, nI_leI (by omega) (by omega)] at z; omega
  | succ d ih =>
    intro i e e1 e2 q
    refine ⟨fun z => ?_, fun z => ?_⟩
    · rw [h.1, nI_leI (by omega) (by omega)] at z; exact hx i z q
    · rw [h.1, nI_leI (by omega) (by omega)] at z
      refine ⟨i + 1, c_diffI h (by omega) (fun c => ?_) (fun c => ?_) i 0 (by omega) (fun a b => by omega)⟩
      · rw [bP_f (fun z2 => c (fun j hj => z2 j i hj (by omega)))] at k; exact k
      · rw [nI_1]
        refine ih (i + 1) (by omega) (by omega) (by omega) (fun j p h1 h2 h3 => ?_)
        rcases Nat.lt_or_ge p i with q1 | q1
        · exact q j p h1 q1 h3
        · have : p = i := by omega
          subst this; exact c j h1
theorem c_diff {Post : Int32 → Ob → Prop} (h : LvF lv n f) (k : Post (bP (DiffP f n)) lv) : w_X2_allDiffer lv Post := ⟨n + 1, c_diffL h k n 1 (by omega) (by omega) (by omega) (fun j p h1 h2 _ => by omega)⟩
theorem bP01 (P : Prop) : bP P = 0 ∨ bP P = 1 := by
  by_cases h : P
  · exact Or.inr (bP_t h)
  · exact Or.inl (bP_f h)
theorem bP_0 {P : Prop} (h : bP P = 0) : ¬ P := fun z => by rw [bP_t z] at h; exact absurd h (by decide)
theorem bP_1 {P : Prop} (h : ¬ bP P = 0) : P := Classical.byContradiction (fun z => h (bP_f z))
theorem truth_b {P : Prop} {Post : Int32 → Prop} (k : Post (bP P)) : w_X10_truth (bP P) Post := by
  refine ⟨fun z => ?_, fun z => ?_⟩
  · rw [z] at k; exact k
  · rw [bP_t (bP_1 z)] at k; exact k
theorem m_leastL {a : Int32} {K Post : Int32 → Ob → Prop} (h : LvG o n f) : ∀ (d i : Nat) (G : Prop), i + d = n → K (bP (G ∧ ∀ k, i ≤ k → k < n → a ≤ f k)) o → w_X10_atLeast_L4 a K Post (d + 1) (bP G) (nI i) o := by
  have hn := h.2.1
  intro d
  induction d with
  | zero =>
    intro i G e k
    refine ⟨fun _ => ?_, fun z => ?_⟩
    · rw [bP_congr (show G ↔ (G ∧ ∀ k, i ≤ k → k < n → a ≤ f k) from ⟨fun g => ⟨g, fun k h1 h2 => by omega⟩, fun g => g.1⟩)]; exact k
    · rw [h.1] at z; exact absurd (by rw [show i = n by omega]; exact Int32.le_refl _) z
  | succ d ih =>
    intro i G e k
    have st : ∀ x : Int32, x = bP (G ∧ a ≤ f i) → w_X10_atLeast_L4 a K Post (d + 1) x (nI i + 1) o := by
      rintro x rfl
      rw [nI_1]
      refine ih (i + 1) _ (by omega) ?_
      rw [bP_congr (show ((G ∧ a ≤ f i) ∧ ∀ k, i + 1 ≤ k → k < n → a ≤ f k) ↔ (G ∧ ∀ k, i ≤ k → k < n → a ≤ f k) from ⟨fun g => ⟨g.1.1, fun q h1 h2 => ?_⟩, fun g => ⟨⟨g.1, g.2 i (by omega) (by omega)⟩, fun q h1 h2 => g.2 q (by omega) h2⟩⟩)]
      · exact k
      · rcases Nat.lt_or_ge i q with q1 | q1
        · exact g.2 q q1 h2
        · rw [show q = i by omega]; exact g.1.2
    refine ⟨fun z => ?_, fun _ => jn_mk (jn_mk ⟨fun z => ?_, fun z => ⟨vp_in_nI (by omega) (by omega), ?_⟩⟩)⟩
    · rw [h.1, nI_leI (by omega) (by omega)] at z; omega
    · exact st 0 (bP_f (fun g => bP_0 z g.1)).symm
    · rw [nI_clamp (by omega), h.2.2 i (by omega)]
      exact ⟨fun c => st 0 (bP_f (fun g => absurd g.2 (Int32.not_le.mpr c))).symm, fun c => st 1 (bP_t ⟨bP_1 z, Int32.not_lt.mp c⟩).symm⟩
theorem m_least {a : Int32} {Post : Int32 → Ob → Prop} (h : LvG o n f) (k : Post (bP (LeastP f n a)) o) : w_X10_atLeast a o Post := by
  refine ⟨n + 1, ?_⟩
  rw [show (1 : Int32) = bP True from (bP_t trivial).symm]
  refine m_leastL h n 0 True (by omega) (truth_b ?_)
  rw [bP_congr (show (True ∧ ∀ k, 0 ≤ k → k < n → a ≤ f k) ↔ LeastP f n a from ⟨fun g q hq => g.2 q (by omega) hq, fun g => ⟨trivial, fun q _ hq => g q hq⟩⟩)]
  exact k
def RQ (x : Int32) (f : Nat → Int32) (j k : Nat) : Prop := if x = 0 then ¬ f k < f j else ¬ f j = f k
theorem m_ordI {x : Int32} {K Post : Int32 → Ob → Prop} {p : Nat} (h : LvG o n f) (hp : p < n) : ∀ (d j : Nat) (G : Prop), j + d = p → K (bP (G ∧ ∀ q, j ≤ q → q < p → RQ x f q p)) o → w_X10_order_L15 x (nI p) K Post (d + 1) (bP G) (nI j) o := by
  have hn := h.2.1
  intro d
  induction d with
  | zero =>
    intro j G e k
    refine ⟨fun _ => ?_, fun z => ?_⟩
    · rw [bP_congr (show G ↔ (G ∧ ∀ q, j ≤ q → q < p → RQ x f q p) from ⟨fun g => ⟨g, fun k h1 h2 => by omega⟩, fun g => g.1⟩)]; exact k
    · exact absurd (by rw [show j = p by omega]; exact Int32.le_refl _) z
  | succ d ih =>
    intro j G e k
    have st : ∀ y : Int32, y = bP (G ∧ RQ x f j p) → w_X10_order_L15 x (nI p) K Post (d + 1) y (nI j + 1) o := by
      rintro y rfl
      rw [nI_1]
      refine ih (j + 1) _ (by omega) ?_
      rw [bP_congr (show ((G ∧ RQ x f j p) ∧ ∀ q, j + 1 ≤ q → q < p → RQ x f q p) ↔ (G ∧ ∀ q, j ≤ q → q < p → RQ x f q p) from ⟨fun g => ⟨g.1.1, fun q h1 h2 => ?_⟩, fun g => ⟨⟨g.1, g.2 j (by omega) (by omega)⟩, fun q h1 h2 => g.2 q (by omega) h2⟩⟩)]
      · exact k
      · rcases Nat.lt_or_ge j q with q1 | q1
        · exact g.2 q q1 h2
        · rw [show q = j by omega]; exact g.1.2
    refine ⟨fun z => ?_, fun _ => jn_mk (jn_mk ⟨fun z => ?_, fun z => jn_mk ⟨fun c => ⟨vp_in_nI (by omega) (by omega), vp_in_nI (by omega) (by omega), ?_⟩, fun c => ⟨vp_in_nI (by omega) (by omega), vp_in_nI (by omega) (by omega), ?_⟩⟩⟩)⟩
    · rw [nI_leI (by omega) (by omega)] at z; omega
    · exact st 0 (bP_f (fun g => bP_0 z g.1)).symm
    · rw [nI_clamp (by omega), nI_clamp (by omega), h.2.2 j (by omega), h.2.2 p (by omega)]
      have e1 : RQ x f j p = ¬ f p < f j := if_pos c
      rw [e1] at st
      exact ⟨fun c => st 0 (bP_f (fun g => g.2 c)).symm, fun c => st 1 (bP_t ⟨bP_1 z, c⟩).symm⟩
    · rw [nI_clamp (by omega), nI_clamp (by omega), h.2.2 j (by omega), h.2.2 p (by omega)]
      have e1 : RQ x f j p = ¬ f j = f p := if_neg c
      rw [e1] at st
      exact ⟨fun c => st 0 (bP_f (fun g => g.2 c)).symm, fun c => st 1 (bP_t ⟨bP_1 z, c⟩).symm⟩
theorem m_ordL {x : Int32} {K Post : Int32 → Ob → Prop} (h : LvG o n f) : ∀ (d i : Nat) (G : Prop), i + d = n → K (bP (G ∧ ∀ p, i ≤ p → p < n → ∀ q, q < p → RQ x f q p)) o → w_X10_order_L4 x K Post (d + 1) (bP G) (nI i) o := by
  have hn := h.2.1
  intro d
  induction d with
  | zero =>
    intro i G e k
    refine ⟨fun _ => ?_, fun z => ?_⟩
    · rw [bP_congr (show G ↔ (G ∧ ∀ p, i ≤ p → p < n → ∀ q, q < p → RQ x f q p) from ⟨fun g => ⟨g, fun k h1 h2 => by omega⟩, fun g => g.1⟩)]; exact k
    · rw [h.1] at z; exact absurd (by rw [show i = n by omega]; exact Int32.le_refl _) z
  | succ d ih =>
    intro i G e k
    refine ⟨fun z => ?_, fun _ => ⟨i + 1, m_ordI h (by omega) i 0 G (by omega) ?_⟩⟩
    · rw [h.1, nI_leI (by omega) (by omega)] at z; omega
    · rw [nI_1]
      refine ih (i + 1) _ (by omega) ?_
      rw [bP_congr (show ((G ∧ ∀ q, 0 ≤ q → q < i → RQ x f q i) ∧ ∀ p, i + 1 ≤ p → p < n → ∀ q, q < p → RQ x f q p) ↔ (G ∧ ∀ p, i ≤ p → p < n → ∀ q, q < p → RQ x f q p) from ⟨fun g => ⟨g.1.1, fun p h1 h2 => ?_⟩, fun g => ⟨⟨g.1, fun q _ hq => g.2 i (by omega) (by omega) q hq⟩, fun p h1 h2 => g.2 p (by omega) h2⟩⟩)]
      · exact k
      · rcases Nat.lt_or_ge i p with q1 | q1
        · exact g.2 p q1 h2
        · have : p = i := by omega
          subst this; exact fun q hq => g.1.2 q (by omega) hq
theorem m_ord {x : Int32} {Post : Int32 → Ob → Prop} (h : LvG o n f) (k : Post (bP (∀ p, p < n → ∀ q, q < p → RQ x f q p)) o) : w_X10_order x o Post := by
  refine ⟨n + 1, ?_⟩
  rw [show (1 : Int32) = bP True from (bP_t trivial).symm]
  refine m_ordL h n 0 True (by omega) (truth_b ?_)
  rw [bP_congr (show (True ∧ ∀ p, 0 ≤ p → p < n → ∀ q, q < p → RQ x f q p) ↔ (∀ p, p < n → ∀ q, q < p → RQ x f q p) from ⟨fun g q hq => g.2 q (by omega) hq, fun g => ⟨trivial, fun q _ hq => g q hq⟩⟩)]
  exact k
theorem rise_iff : (∀ p, p < n → ∀ q, q < p → RQ 0 f q p) ↔ RiseP f n := by
  constructor
  · intro h k h1 h2
    exact Int32.not_lt.mp (h k h2 (k - 1) (by omega))
  · intro h p
    induction p with
    | zero => intro _ q hq; omega
    | succ p ih =>
      intro hp q hq
      have h1 : f p ≤ f (p + 1) := h (p + 1) (by omega) hp
      refine Int32.not_lt.mpr ?_
      rcases Nat.lt_or_ge q p with q1 | q1
      · exact Int32.le_trans (Int32.not_lt.mp (ih (by omega) q q1)) h1
      · rw [show q = p by omega]; exact h1
theorem diff_iff : (∀ p, p < n → ∀ q, q < p → RQ 1 f q p) ↔ DiffP f n := ⟨fun h j k h1 h2 z => h k h2 j h1 z.symm, fun h p hp q hq z => h q p hq hp z.symm⟩
end
