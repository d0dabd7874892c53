/-! the act of a leaf -/
theorem tdiv4n {x : Int} (h : x < 0) : x.tdiv 4 = -((-x) / 4) := by
  have := Int.neg_tdiv (-x) 4
  rw [Int.neg_neg, Int.tdiv_eq_ediv_of_nonneg (a := -x) (by omega)] at this
  exact this
theorem rem4 (x : Int32) : (x - x / 4 * 4).toInt = x.toInt.tmod 4 := by
  have b1 := Int32.le_toInt x
  have b2 := Int32.toInt_lt x
  have e4 : (4 : Int32).toInt = 4 := by decide
  have hq : (x / 4).toInt = x.toInt.tdiv 4 := by rw [Int32.toInt_div_of_ne_right _ _ (by decide), e4]
  have h1 := Int.mul_tdiv_add_tmod x.toInt 4
  have h2 := Int.tmod_lt_of_pos x.toInt (b := 4) (by decide)
  have h3 := Int.lt_tmod_of_pos x.toInt (b := 4) (by decide)
  have hm : (x / 4 * 4).toInt = x.toInt.tdiv 4 * 4 := by
    rw [Int32.toInt_mul, hq, e4]
    rcases Int.lt_or_le x.toInt 0 with c | c
    · have := tdiv4n c
      exact Int.bmod_eq_of_le_mul_two (by omega) (by omega)
    · have := Int.tdiv_eq_ediv_of_nonneg (b := 4) c
      exact Int.bmod_eq_of_le_mul_two (by omega) (by omega)
  rw [Int32.toInt_sub, hm, Int.bmod_eq_of_le_mul_two (by omega) (by omega)]
  omega
theorem nn_iff (z : Int32) : 0 ≤ z ↔ z.toBitVec.msb = false := by
  rw [Int32.le_iff_toInt_le, BitVec.msb_eq_toInt]
  show (0 : Int) ≤ z.toInt ↔ decide (z.toInt < 0) = false
  rw [decide_eq_false_iff_not]
  omega
theorem xor4 (x : Int32) : 0 ≤ (x ^^^ 4) ↔ 0 ≤ x := by
  rw [nn_iff, nn_iff, Int32.toBitVec_xor, BitVec.msb_xor, show ((4 : Int32).toBitVec).msb = false from by decide, Bool.xor_false]
def actF (x : Int32) : Int32 := if 0 ≤ x - x / 4 * 4 then x - x / 4 * 4 else x - x / 4 * 4 + 4
theorem i32_eq {a b : Int32} (h : a.toInt = b.toInt) : a = b := Int32.toInt_inj.mp h
theorem act4 (x : Int32) : actF x = 0 ∨ actF x = 1 ∨ actF x = 2 ∨ actF x = 3 := by
  have h := rem4 x
  have h2 := Int.tmod_lt_of_pos x.toInt (b := 4) (by decide)
  have h3 := Int.lt_tmod_of_pos x.toInt (b := 4) (by decide)
  rw [← h] at h2 h3
  unfold actF
  generalize x - x / 4 * 4 = r at h2 h3
  have e0 : (0 : Int32).toInt = 0 := by decide
  have key : ∀ y : Int32, y.toInt = 0 ∨ y.toInt = 1 ∨ y.toInt = 2 ∨ y.toInt = 3 → y = 0 ∨ y = 1 ∨ y = 2 ∨ y = 3 := by
    rintro y (h | h | h | h)
    · exact Or.inl (i32_eq h)
    · exact Or.inr (Or.inl (i32_eq h))
    · exact Or.inr (Or.inr (Or.inl (i32_eq h)))
    · exact Or.inr (Or.inr (Or.inr (i32_eq h)))
  by_cases c : 0 ≤ r
  · rw [if_pos c]
    rw [Int32.le_iff_toInt_le, e0] at c
    exact key r (by omega)
  · rw [if_neg c]
    rw [Int32.le_iff_toInt_le, e0] at c
    refine key _ ?_
    rw [Int32.toInt_add, show (4 : Int32).toInt = 4 by decide, Int.bmod_eq_of_le_mul_two (by omega) (by omega)]
    omega
theorem floor4 {x : Int32} {Post : Int32 → Prop} (k : Post (actF x)) : w_J9_floorMod_7cf53 x 4 Post := by
  have h := rem4 x
  have e0 : (0 : Int32).toInt = 0 := by decide
  unfold actF at k
  refine ⟨by decide, fun c => ?_, fun c => ?_⟩
  · rw [xor4, Int32.le_iff_toInt_le, e0] at c
    have := Int.tmod_nonneg 4 c
    rw [← h] at this
    rw [if_pos (by rw [Int32.le_iff_toInt_le, e0]; exact this)] at k
    exact k
  · rw [xor4, Int32.le_iff_toInt_le, e0] at c
    have hq := Int.mul_tdiv_add_tmod x.toInt 4
    have hn := tdiv4n (show x.toInt < 0 by omega)
    have hle : x.toInt.tmod 4 ≤ 0 := by omega
    rw [← h] at hle
    refine ⟨fun z => ?_, fun z => ?_⟩
    · rw [if_pos (by rw [z]; decide)] at k; exact k
    · rw [if_neg (fun q => z ?_)] at k
      · exact k
      · rw [Int32.le_iff_toInt_le, e0] at q
        exact i32_eq (by omega)
