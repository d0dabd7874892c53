/-! LEAVES AND CHECKS: what a row of leaves says, on both sides -/
noncomputable def bP (P : Prop) : Int32 := @ite _ P (Classical.propDecidable P) 1 0
theorem bP_t {P : Prop} (h : P) : bP P = 1 := if_pos h
theorem bP_f {P : Prop} (h : ¬ P) : bP P = 0 := if_neg h
theorem bP_congr {P Q : Prop} (h : P ↔ Q) : bP P = bP Q := by rw [show P = Q from propext h]
/-- n leaves, f tells them: in the class, in the reference -/
def LvF (lv : Ob) (n : Nat) (f : Nat → Int32) : Prop := lv.2.1 1 = nI n ∧ n ≤ 24 ∧ ∀ i, i < n → lv.2.2 0 i = f i
def LvG (o : Ob) (n : Nat) (f : Nat → Int32) : Prop := o.2.1 14 = nI n ∧ n ≤ 24 ∧ ∀ i, i < n → o.2.2 15 i = f i
def sumA (f : Nat → Int32) : Nat → Nat → Int32 → Int32
  | 0, _, s => s
  | d + 1, i, s => sumA f d (i + 1) (s + f i)
def quoA (a : Int32) (f : Nat → Int32) : Nat → Nat → Int32
  | 0, _ => 1
  | d + 1, i => if f i - a = 0 then -1 else if 1000 / (f i - a) = 7 then 0 else quoA a f d (i + 1)
def plaA (a : Int32) (n : Nat) (f : Nat → Int32) : Nat → Nat → Int32
  | 0, _ => 1
  | d + 1, i => if f i < 0 ∨ ¬ f i < nI n then -2 else if f (f i).toNatClampNeg = a then 0 else plaA a n f d (i + 1)
section
variable {lv o : Ob} {n : Nat} {f : Nat → Int32}
theorem c_get {i : Nat} {Post : Int32 → Ob → Prop} (h : LvF lv n f) (hi : i < n) (k : Post (f i) lv) : w_X2_get (nI i) lv Post := by
  obtain ⟨h1, h2, h3⟩ := h
  unfold w_X2_get
  rw [h1]
  refine ⟨fun z => absurd z (nI_pos (by omega)), fun _ => ⟨fun z => ?_, fun _ => ⟨fun z => ?_, fun _ => ⟨vp_in_nI (by omega) (by omega), ?_⟩⟩⟩⟩
  · rw [nI_leI (by omega) (by omega)] at z; omega
  · rw [show (24 : Int32) = nI 24 from rfl, nI_leI (by omega) (by omega)] at z; omega
  · rw [nI_clamp (by omega), h3 i hi]; exact k
theorem c_sumL {Post : Int32 → Ob → Prop} (h : LvF lv n f) : ∀ (d i : Nat) (s : Int32), i + d = n → Post (sumA f d i s) lv → w_X2_sum_L4 Post (d + 1) s (nI i) lv := by
  intro d
  induction d with
  | zero =>
    intro i s e k
    refine ⟨fun _ => k, fun z => ?_⟩
    rw [h.1] at z; exact absurd (by rw [show i = n by omega]; exact Int32.le_refl _) z
  | succ d ih =>
    intro i s e k
    have hn := h.2.1
    refine ⟨fun z => ?_, fun _ => c_get h (by omega) ?_⟩
    · rw [h.1, nI_leI (by omega) (by omega)] at z; omega
    · rw [nI_1]; exact ih (i + 1) _ (by omega) k
theorem c_sum {Post : Int32 → Ob → Prop} (h : LvF lv n f) (k : Post (sumA f n 0 0) lv) : w_X2_sum lv Post := ⟨n + 1, c_sumL h n 0 0 (by omega) k⟩
theorem m_sumL {Post : Int32 → Ob → Prop} (h : LvG o n f) : ∀ (d i : Nat) (s : Int32), i + d = n → Post (sumA f d i s) o → w_X10_sumOfLeaves_L4 Post (d + 1) s (nI i) o := by
  intro d
  induction d with
  | zero =>
    intro i s e k
    refine ⟨fun _ => k, fun z => ?_⟩
    rw [h.1] at z; exact absurd (by rw [show i = n by omega]; exact Int32.le_refl _) z
  | succ d ih =>
    intro i s e k
    have hn := h.2.1
    refine ⟨fun z => ?_, fun _ => ⟨vp_in_nI (by omega) (by omega), ?_⟩⟩
    · rw [h.1, nI_leI (by omega) (by omega)] at z; omega
    · rw [nI_1, nI_clamp (by omega), h.2.2 i (by omega)]; exact ih (i + 1) _ (by omega) k
theorem m_sum {Post : Int32 → Ob → Prop} (h : LvG o n f) (k : Post (sumA f n 0 0) o) : w_X10_sumOfLeaves o Post := ⟨n + 1, m_sumL h n 0 0 (by omega) k⟩
theorem c_quoL {a : Int32} {Post : Int32 → Ob → Prop} (h : LvF lv n f) : ∀ (d i : Nat), i + d = n → Post (quoA a f d i) lv → w_X2_noQuotientSeven_L2 a Post (d + 1) (nI i) lv := by
  intro d
  induction d with
  | zero =>
    intro i e k
    refine ⟨fun _ => k, fun z => ?_⟩
    rw [h.1] at z; exact absurd (by rw [show i = n by omega]; exact Int32.le_refl _) z
  | succ d ih =>
    intro i e k
    have hn := h.2.1
    unfold quoA at k
    refine ⟨fun z => ?_, fun _ => c_get h (by omega) ⟨fun c => ⟨c, fun c2 => ?_, fun c2 => ?_⟩, fun c => ?_⟩⟩
    · rw [h.1, nI_leI (by omega) (by omega)] at z; omega
    · rw [if_neg c, if_neg c2] at k; rw [nI_1]; exact ih (i + 1) (by omega) k
    · rw [if_neg c, if_pos c2] at k; exact k
    · rw [if_pos c] at k; exact k
def mV (v : Int32) : Int32 := if v < 0 then v - 10 else v
theorem m_quoL {a : Int32} {Post : Int32 → Ob → Prop} (h : LvG o n f) : ∀ (d i : Nat), i + d = n → Post (mV (quoA a f d i)) o → w_X10_quotients_L2 a Post (d + 1) (nI i) o := by
  intro d
  induction d with
  | zero =>
    intro i e k
    refine ⟨fun _ => k, fun z => ?_⟩
    rw [h.1] at z; exact absurd (by rw [show i = n by omega]; exact Int32.le_refl _) z
  | succ d ih =>
    intro i e k
    have hn := h.2.1
    unfold quoA at k
    refine ⟨fun z => ?_, fun _ => ⟨vp_in_nI (by omega) (by omega), ?_⟩⟩
    · rw [h.1, nI_leI (by omega) (by omega)] at z; omega
    · rw [nI_1, nI_clamp (by omega), h.2.2 i (by omega)]
      refine ⟨fun c => ⟨c, fun c2 => ?_, fun c2 => ?_⟩, fun c => ?_⟩
      · rw [if_neg c, if_neg c2] at k; exact ih (i + 1) (by omega) k
      · rw [if_neg c, if_pos c2] at k; exact k
      · rw [if_pos c] at k; exact k
theorem c_plaL {a : Int32} {Post : Int32 → Ob → Prop} (h : LvF lv n f) : ∀ (d i : Nat), i + d = n → Post (plaA a n f d i) lv → w_X2_noneTellsOf_L2 a Post (d + 1) (nI i) lv := by
  intro d
  induction d with
  | zero =>
    intro i e k
    refine ⟨fun _ => k, fun z => ?_⟩
    rw [h.1] at z; exact absurd (by rw [show i = n by omega]; exact Int32.le_refl _) z
  | succ d ih =>
    intro i e k
    have hn := h.2.1
    unfold plaA at k
    refine ⟨fun z => ?_, fun _ => c_get h (by omega) ⟨fun c => ?_, fun c => ⟨fun c2 => ?_, fun c2 => ?_⟩⟩⟩
    · rw [h.1, nI_leI (by omega) (by omega)] at z; omega
    · rw [if_pos (Or.inl c)] at k; exact k
    · rw [h.1] at c2
      rw [if_neg (fun z => z.elim c (fun z => z c2))] at k
      obtain ⟨q, hq, eq⟩ := nI_of c
      have hqn : q < n := by rw [eq, nI_ltI hq (by omega)] at c2; exact c2
      rw [eq] at k ⊢
      rw [nI_clamp hq] at k
      refine c_get h hqn ⟨fun c3 => ?_, fun c3 => ?_⟩
      · rw [if_neg c3] at k; rw [nI_1]; exact ih (i + 1) (by omega) k
      · rw [if_pos c3] at k; exact k
    · rw [h.1] at c2
      rw [if_pos (Or.inr c2)] at k; exact k
theorem m_plaL {a : Int32} {Post : Int32 → Ob → Prop} (h : LvG o n f) : ∀ (d i : Nat), i + d = n → Post (mV (plaA a n f d i)) o → w_X10_places_L2 a Post (d + 1) (nI i) o := by
  intro d
  induction d with
  | zero =>
    intro i e k
    refine ⟨fun _ => k, fun z => ?_⟩
    rw [h.1] at z; exact absurd (by rw [show i = n by omega]; exact Int32.le_refl _) z
  | succ d ih =>
    intro i e k
    have hn := h.2.1
    unfold plaA at k
    refine ⟨fun z => ?_, fun _ => ⟨vp_in_nI (by omega) (by omega), ?_⟩⟩
    · rw [h.1, nI_leI (by omega) (by omega)] at z; omega
    rw [nI_1, nI_clamp (by omega), h.2.2 i (by omega), h.1]
    by_cases c : f i < 0
    · rw [if_pos (Or.inl c)] at k
      exact r_in_n (Or.inl c) ⟨fun z => absurd rfl z, fun _ => k⟩
    · obtain ⟨q, hq, eq⟩ := nI_of c
      by_cases c2 : f i < nI n
      · rw [if_neg (fun z => z.elim c (fun z => z c2))] at k
        have hqn : q < n := by rw [eq, nI_ltI hq (by omega)] at c2; exact c2
        refine r_in_y c (fun z => ?_) ⟨fun _ => ⟨vp_in_nI (by omega) (by omega), ?_⟩, fun z => absurd z (by decide)⟩
        · exact ((in_n (x := f i) (n := n) (by omega)).mp (Or.inr z)) q hqn eq
        · rw [eq] at k ⊢
          rw [nI_clamp hq] at k ⊢
          rw [h.2.2 q hqn]
          refine ⟨vp_in_nI (by omega) (by omega), fun c3 => ?_, fun c3 => ?_⟩
          · rw [if_neg c3] at k; exact ih (i + 1) (by omega) k
          · rw [if_pos c3] at k; exact k
      · rw [if_pos (Or.inr c2)] at k
        refine r_in_n ((in_n (by omega)).mpr (fun m hm e2 => c2 ?_)) ⟨fun z => absurd rfl z, fun _ => k⟩
        rw [e2, nI_ltI (by omega) (by omega)]; exact hm
end
