/-! SMALLER NUMBERS: nearer to a goal -/
def hv : Nat → Int32 → Int32
  | 0, x => x
  | k + 1, x => hv k (x / 2)
def ngI (n : Nat) : Int32 := Int32.ofInt (-(n : Int))
theorem ngI_toInt {n : Nat} (h : n ≤ 2 ^ 31) : (ngI n).toInt = -(n : Int) := Int32.toInt_ofInt_of_le (by omega) (by omega)
theorem ngI_div {n d : Nat} (hn : n ≤ 2 ^ 31) (h0 : 0 < d) (hd : d < 2 ^ 31) : ngI n / nI d = ngI (n / d) := by
  have hle : n / d ≤ n := Nat.div_le_self n d
  apply Int32.toInt_inj.mp
  rw [Int32.toInt_div_of_ne_right _ _ (fun z => by
    have := congrArg Int32.toInt z
    rw [nI_toInt hd, show (-1 : Int32).toInt = -1 from by decide] at this
    omega), ngI_toInt hn, nI_toInt hd, ngI_toInt (by omega), Int.neg_tdiv, Int.tdiv_eq_ediv_of_nonneg (by omega), Int.natCast_ediv]
theorem sgn_cases (x : Int32) : (∃ n : Nat, n < 2 ^ 31 ∧ x = nI n) ∨ ∃ n : Nat, 0 < n ∧ n ≤ 2 ^ 31 ∧ x = ngI n := by
  by_cases h : x < 0
  · right
    have b1 := Int32.le_toInt x
    have b2 := Int32.toInt_lt x
    rw [Int32.lt_iff_toInt_lt, show (0 : Int32).toInt = 0 from by decide] at h
    refine ⟨(-x.toInt).toNat, by omega, by omega, ?_⟩
    unfold ngI
    rw [show -(((-x.toInt).toNat : Nat) : Int) = x.toInt by omega, Int32.ofInt_toInt]
  · exact Or.inl (nI_of h)
theorem hv_p : ∀ (k n : Nat), n < 2 ^ 31 → hv k (nI n) = nI (n / 2 ^ k) := by
  intro k
  induction k with
  | zero => intro n h; rw [Nat.pow_zero, Nat.div_one]; rfl
  | succ k ih =>
    intro n h
    show hv k (nI n / 2) = _
    rw [show (2 : Int32) = nI 2 from rfl, pk_div h (by omega) (by omega), ih _ (by omega), Nat.div_div_eq_div_mul, Nat.pow_succ, Nat.mul_comm]
theorem hv_n : ∀ (k n : Nat), n ≤ 2 ^ 31 → hv k (ngI n) = ngI (n / 2 ^ k) := by
  intro k
  induction k with
  | zero => intro n h; rw [Nat.pow_zero, Nat.div_one]; rfl
  | succ k ih =>
    intro n h
    show hv k (ngI n / 2) = _
    rw [show (2 : Int32) = nI 2 from rfl, ngI_div h (by omega) (by omega), ih _ (by omega), Nat.div_div_eq_div_mul, Nat.pow_succ, Nat.mul_comm]
theorem p2_lt {k : Nat} (h : k ≤ 30) : 0 < 2 ^ k ∧ 2 ^ k < 2 ^ 31 := ⟨Nat.pow_pos (by omega), Nat.pow_lt_pow_right (by omega) (by omega)⟩
theorem hv_div {k : Nat} (h : k ≤ 30) (x : Int32) : x / nI (2 ^ k) = hv k x := by
  obtain ⟨p1, p2⟩ := p2_lt h
  rcases sgn_cases x with ⟨n, hn, rfl⟩ | ⟨n, h0, hn, rfl⟩
  · rw [pk_div hn p1 p2, hv_p k n hn]
  · rw [ngI_div hn p1 p2, hv_n k n hn]
theorem ngI_0 : ngI 0 = 0 := by decide
theorem hv_big {k : Nat} (h : 31 ≤ k) {x : Int32} (hx : ¬ x = ngI (2 ^ 31)) : hv k x = 0 := by
  have hp : 2 ^ 31 ≤ 2 ^ k := Nat.pow_le_pow_right (by omega) h
  rcases sgn_cases x with ⟨n, hn, rfl⟩ | ⟨n, h0, hn, rfl⟩
  · rw [hv_p k n hn, Nat.div_eq_of_lt (by omega)]; rfl
  · have : ¬ n = 2 ^ 31 := fun z => hx (by rw [z])
    rw [hv_n k n hn, Nat.div_eq_of_lt (by omega), ngI_0]
theorem shl_eq : ∀ k, k < 31 → (1 : Int32) <<< (nI k &&& 31) = nI (2 ^ k) := by decide +kernel
theorem hv_0 : ∀ k, hv k 0 = 0 := by
  intro k
  induction k with
  | zero => rfl
  | succ k ih => show hv k (0 / 2) = 0; rw [show (0 : Int32) / 2 = 0 by decide]; exact ih
/-- the class halves -/
theorem c_nearL {f1 : Int32} {K : Int32 → Ob → Ob → Ob → Prop} {Post : Int32 → Ob → Ob → Ob → Prop} {sk sb sn : Ob} {d : Nat} (h5 : sk.2.1 5 = nI d) (hd : d < 2000) : ∀ (j i : Nat) (x : Int32), i + j = d → K (hv j x) sk sb sn → w_X7_moveNearer_L28 f1 K Post (j + 1) x (nI i) sk sb sn := by
  intro j
  induction j with
  | zero => intro i x hi k; exact ⟨fun _ => k, fun z => absurd (show sk.2.1 5 ≤ nI i by rw [h5, show i = d by omega]; exact Int32.le_refl _) z⟩
  | succ j ih =>
    intro i x hi k
    refine ⟨fun z => absurd z (by rw [h5, nI_leI (by omega) (by omega)]; omega), fun _ => ⟨fun z => ?_, fun _ => ?_⟩⟩
    · rw [z, hv_0] at k
      rw [z]; exact k
    · rw [nI_1]
      exact ih (i + 1) (x / 2) (by omega) k
/-- the reference divides -/
theorem m_near {l h v : Int32} {k : Nat} {P : Int32 → Prop} (g : Int32) (hk : k < 2000) (hb : ¬ v - g = ngI (2 ^ 31)) (hg : ∀ Q : Int32 → Prop, Q g → w_X10_nearest l h Q) (p : P (v - hv k (v - g))) : w_X10_smallerNumber v l h (nI k) P := by
  refine hg _ ⟨fun c => ?_, fun c => ?_⟩
  · rw [show (30 : Int32) = nI 30 from rfl, nI_leI (by omega) (by omega)] at c
    obtain ⟨p1, p2⟩ := p2_lt c
    rw [shl_eq k (by omega), hv_div c]
    exact ⟨nI_ne0 p1 p2, p⟩
  · rw [show (30 : Int32) = nI 30 from rfl, nI_leI (by omega) (by omega)] at c
    rw [hv_big (by omega) hb, Int32.sub_zero] at p
    exact p
theorem m_nearest {tb : Tb} {m : Nat} (h : tb 3 m ≤ tb 4 m) {Q : Int32 → Prop} (q : Q (goalN tb m)) : w_X10_nearest (tb 3 m) (tb 4 m) Q := by
  unfold goalN at q
  refine jn_mk ⟨fun c => ?_, fun c => ⟨fun c2 => ?_, fun c2 => ?_⟩⟩
  · have n1 : ¬ tb 4 m < 0 := fun z => absurd (Int32.lt_of_lt_of_le c h) (fun y => absurd (Int32.lt_trans y z) (by decide))
    have n2 : ¬ tb 3 m < 0 := fun z => absurd (Int32.lt_trans c z) (by decide)
    refine ⟨fun z => absurd (Int32.lt_of_lt_of_le c z) (by decide), fun _ => ?_⟩
    rwa [if_neg n1, if_neg n2] at q
  · refine ⟨fun _ => ?_, fun z => absurd (Int32.not_lt.mp c) z⟩
    rw [if_pos c2] at q
    by_cases e : tb 3 m < tb 4 m
    · rwa [if_pos e] at q
    · rw [if_neg e] at q
      rwa [Int32.le_antisymm h (Int32.not_lt.mp e)] at q
  · rw [if_neg c2] at q
    by_cases e : tb 3 m < 0
    · rwa [if_pos e] at q
    · rw [if_neg e] at q
      rwa [Int32.le_antisymm (Int32.not_lt.mp c) (Int32.not_lt.mp e)] at q
theorem m_near0 {v : Int32} (h : 0 ≤ v) {Q : Int32 → Prop} (q : Q 0) : w_X10_nearest 0 v Q := jn_mk ⟨fun c => absurd c (by decide), fun _ => ⟨fun c => absurd h (Int32.not_le.mpr c), fun _ => q⟩⟩
/-- a whole number's goal and the number are not far from each other -/
theorem goal_rng {tb : Tb} {m : Nat} (h1 : tb 3 m ≤ tb 4 m) (h2 : (-1000000) ≤ tb 3 m) (h3 : tb 4 m ≤ 1000000) : (-1000000) ≤ goalN tb m ∧ goalN tb m ≤ 1000000 := by
  unfold goalN
  by_cases c : tb 4 m < 0
  · rw [if_pos c]
    by_cases e : tb 3 m < tb 4 m
    · rw [if_pos e]; exact ⟨Int32.le_trans h2 h1, h3⟩
    · rw [if_neg e]; exact ⟨h2, Int32.le_trans h1 h3⟩
  · rw [if_neg c]
    by_cases e : tb 3 m < 0
    · rw [if_pos e]; exact ⟨by decide, by decide⟩
    · rw [if_neg e]; exact ⟨h2, Int32.le_trans h1 h3⟩
theorem near_rng {v g : Int32} (v1 : (-1000000) ≤ v) (v2 : v ≤ 1000000) (g1 : (-1000000) ≤ g) (g2 : g ≤ 1000000) : ¬ v - g = ngI (2 ^ 31) ∧ ∀ k, (-1000000) ≤ v - hv k (v - g) ∧ v - hv k (v - g) ≤ 1000000 := by
  rw [Int32.le_iff_toInt_le] at v1 v2 g1 g2
  rw [show (-1000000 : Int32).toInt = -1000000 from by decide] at v1 g1
  rw [show (1000000 : Int32).toInt = 1000000 from by decide] at v2 g2
  have ed : (v - g).toInt = v.toInt - g.toInt := by
    rw [Int32.toInt_sub, Int.bmod_eq_of_le_mul_two (by omega) (by omega)]
  refine ⟨fun z => ?_, fun k => ?_⟩
  · rw [z, ngI_toInt (Nat.le_refl _)] at ed; omega
  · rw [Int32.le_iff_toInt_le, Int32.le_iff_toInt_le, show (-1000000 : Int32).toInt = -1000000 from by decide, show (1000000 : Int32).toInt = 1000000 from by decide]
    rcases sgn_cases (v - g) with ⟨n, hn, e⟩ | ⟨n, h0, hn, e⟩
    · rw [e, hv_p k n hn]
      rw [e, nI_toInt hn] at ed
      have hle : n / 2 ^ k ≤ n := Nat.div_le_self _ _
      obtain ⟨q, hq⟩ : ∃ q, n / 2 ^ k = q := ⟨_, rfl⟩
      rw [hq] at hle ⊢
      rw [Int32.toInt_sub, nI_toInt (by omega), Int.bmod_eq_of_le_mul_two (by omega) (by omega)]
      omega
    · rw [e, hv_n k n hn]
      rw [e, ngI_toInt hn] at ed
      have hle : n / 2 ^ k ≤ n := Nat.div_le_self _ _
      obtain ⟨q, hq⟩ : ∃ q, n / 2 ^ k = q := ⟨_, rfl⟩
      rw [hq] at hle ⊢
      rw [Int32.toInt_sub, ngI_toInt (by omega), Int.bmod_eq_of_le_mul_two (by omega) (by omega)]
      omega
theorem pos_rng {v : Int32} (h : 0 ≤ v) : ¬ v - 0 = ngI (2 ^ 31) ∧ ∀ k, 0 ≤ v - hv k (v - 0) := by
  rw [Int32.sub_zero]
  obtain ⟨n, hn, rfl⟩ := nI_of (Int32.not_lt.mpr h)
  refine ⟨fun z => ?_, fun k => ?_⟩
  · have := congrArg Int32.toInt z
    rw [nI_toInt hn, ngI_toInt (Nat.le_refl _)] at this; omega
  · rw [hv_p k n hn, nI_sub (Nat.div_le_self _ _)]
    have := Nat.sub_le n (n / 2 ^ k)
    exact nI_pos' (Nat.lt_of_le_of_lt this hn)
/-- how often a number can be moved -/
theorem hv_few {k : Nat} {x : Int32} (hx : ¬ x = ngI (2 ^ 31)) (h : ¬ hv k x = 0) : k < 31 := by
  rcases Nat.lt_or_ge k 31 with q | q
  · exact q
  · exact absurd (hv_big q hx) h
theorem sub_ne {v x : Int32} : v - x = v ↔ x = 0 := by
  constructor
  · intro h
    have e : v - x + x = v + x := by rw [h]
    rw [Int32.sub_add_cancel] at e
    have e2 : v + x - v = v - v := by rw [← e]
    rw [Int32.add_comm, Int32.add_sub_cancel, Int32.sub_self] at e2
    exact e2
  · intro h; rw [h, Int32.sub_zero]
