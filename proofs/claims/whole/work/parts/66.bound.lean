/-! HOW MANY: parts and leaves of a case -/
def bdO (tb : Tb) : Option Nat → Nat
  | none => 1
  | some m => wtN tb m * (m + 2)
def wtO (tb : Tb) : Option Nat → Nat
  | none => 1
  | some m => wtN tb m
def sumO (f : Option Nat → Nat) : List (Option Nat) → Nat
  | [] => 0
  | t :: ts => f t + sumO f ts
theorem sumO_app (f : Option Nat → Nat) (b : List (Option Nat)) : ∀ a, sumO f (a ++ b) = sumO f a + sumO f b := by
  intro a
  induction a with
  | nil => show sumO f b = 0 + _; omega
  | cons t a ih => show f t + sumO f (a ++ b) = f t + sumO f a + _; rw [ih]; omega
theorem sumO_rep (f : Option Nat → Nat) (t : Option Nat) : ∀ n, sumO f (List.replicate n t) = n * f t := by
  intro n
  induction n with
  | zero => show 0 = 0 * f t; omega
  | succ n ih => show f t + sumO f (List.replicate n t) = _; rw [ih, Nat.add_mul]; omega
theorem mul_ar {j c w a m : Nat} (h1 : j ≤ c) (h2 : a < m) : j * (w * (a + 2)) ≤ c * w * (m + 1) := by
  rw [Nat.mul_assoc]
  exact Nat.mul_le_mul h1 (Nat.mul_le_mul (Nat.le_refl _) (by omega))
theorem mul_a1 {w a m : Nat} (h2 : a < m) : w * (a + 2) ≤ w * (m + 1) := Nat.mul_le_mul (Nat.le_refl _) (by omega)
section
variable {tb : Tb} {nm nc : Nat}
theorem wt_pos {m : Nat} (w : MkWF tb nc m) : 1 ≤ wtN tb m ∧ wtN tb m ≤ 24 := by
  obtain ⟨-, ⟨w, h1, h2, e⟩, -⟩ := w
  unfold wtN; rw [e, nI_clamp (by omega)]; exact ⟨h1, h2⟩
theorem kid_bd (hn : nm ≤ 30) {x : Nd} (hw : ∀ m, m < nm → MkWF tb nc m) (hX : okX tb nm x) : 1 + sumO (bdO tb) (kidsT tb x) + (resT tb x).length ≤ bdO tb x.1 ∧ leafN tb x + sumO (wtO tb) (kidsT tb x) ≤ wtO tb x.1 := by
  obtain ⟨xm, v⟩ := x
  cases xm with
  | none => exact ⟨by show 1 + 0 + 0 ≤ 1; omega, by show 1 + 0 ≤ 1; omega⟩
  | some m =>
    obtain ⟨hm, h1', h6'⟩ := hX m rfl
    have w := hw m hm
    obtain ⟨p1, p2⟩ := wt_pos w
    have kc := kind_cases w
    obtain ⟨-, -, -, k0, k1, k2, k3, k4, k5, k6, k7⟩ := w
    have e2 : wtN tb m * (m + 2) = wtN tb m * (m + 1) + wtN tb m := by rw [show m + 2 = (m + 1) + 1 by omega, Nat.mul_add (wtN tb m) (m + 1) 1, Nat.mul_one]
    have r0 : ¬ tb 0 m = 7 → (resT tb (some m, v)).length = 0 := fun h => by
      unfold resT bel; rw [kindN_s, if_neg (by rw [decide_eq_true_eq]; exact h)]; rfl
    have l0 : ¬ tb 0 m = 8 → ¬ tb 0 m = 0 → ¬ tb 0 m = 7 → leafN tb (some m, v) = 0 := fun h1 h2 h3 => by
      unfold leafN; rw [kindN_s, if_neg (fun z => z.elim h1 (fun y => y.elim h2 h3))]
    show 1 + sumO (bdO tb) (kidsT tb (some m, v)) + (resT tb (some m, v)).length ≤ wtN tb m * (m + 2) ∧ leafN tb (some m, v) + sumO (wtO tb) (kidsT tb (some m, v)) ≤ wtN tb m
    rw [e2]
    have mp : 0 ≤ wtN tb m * (m + 1) := Nat.zero_le _
    rcases kc with q | q | q | q | q | q | q | q
    · rw [kids_0 q, r0 (by rw [q]; decide), show leafN tb (some m, v) = 1 from if_pos (Or.inr (Or.inl q))]
      exact ⟨by show 1 + 0 + 0 ≤ _; omega, by show 1 + 0 ≤ _; omega⟩
    · obtain ⟨a, ha, ea, c, c1, c2, ec, ew⟩ := k1 q
      obtain ⟨j, hj, ej⟩ := h1' q
      have ej : v = nI j := ej
      rw [ec, nI_clamp (by omega)] at hj
      rw [kids_1 q, r0 (by rw [q]; decide), l0 (by rw [q]; decide) (by rw [q]; decide) (by rw [q]; decide), sumO_rep, sumO_rep, ej, nI_clamp (by omega), oneN_eq (by omega) ea]
      have h1 : j * bdO tb (some a) ≤ c * wtN tb a * (m + 1) := mul_ar hj ha
      have h2 : j * wtO tb (some a) ≤ c * wtN tb a := Nat.mul_le_mul hj (Nat.le_refl _)
      rw [← ew] at h1 h2
      exact ⟨by omega, by omega⟩
    · obtain ⟨a, b, ha, hb, ea, eb, ew⟩ := k2 q
      rw [kids_2 q, r0 (by rw [q]; decide), l0 (by rw [q]; decide) (by rw [q]; decide) (by rw [q]; decide), oneN_eq (by omega) ea, twoN_eq (by omega) eb]
      have h1 := mul_a1 (w := wtN tb a) ha
      have h2 := mul_a1 (w := wtN tb b) hb
      have h3 : wtN tb m * (m + 1) = wtN tb a * (m + 1) + wtN tb b * (m + 1) := by rw [ew, Nat.add_mul]
      refine ⟨?_, ?_⟩
      · show 1 + (wtN tb a * (a + 2) + (wtN tb b * (b + 2) + 0)) + 0 ≤ _; omega
      · show 0 + (wtN tb a + (wtN tb b + 0)) ≤ _; omega
    · obtain ⟨a, b, p, q', ha, hb, ea, eb, x1, x2, x3, x4, x5, x6, wa, wb⟩ := k3 q
      rw [kids_3 q, r0 (by rw [q]; decide), l0 (by rw [q]; decide) (by rw [q]; decide) (by rw [q]; decide), oneN_eq (by omega) ea, twoN_eq (by omega) eb]
      have h1 := mul_a1 (w := wtN tb a) ha
      have h2 := mul_a1 (w := wtN tb b) hb
      have h3 : wtN tb a * (m + 1) ≤ wtN tb m * (m + 1) := Nat.mul_le_mul wa (Nat.le_refl _)
      have h4 : wtN tb b * (m + 1) ≤ wtN tb m * (m + 1) := Nat.mul_le_mul wb (Nat.le_refl _)
      by_cases c1 : v = 1
      · rw [if_pos c1]
        refine ⟨?_, ?_⟩
        · show 1 + (wtN tb b * (b + 2) + 0) + 0 ≤ _; omega
        · show 0 + (wtN tb b + 0) ≤ _; omega
      · rw [if_neg c1]
        refine ⟨?_, ?_⟩
        · show 1 + (wtN tb a * (a + 2) + 0) + 0 ≤ _; omega
        · show 0 + (wtN tb a + 0) ≤ _; omega
    · obtain ⟨a, f, ha, ea, hf, ef, ew⟩ := k4 q
      rw [kids_4 q, r0 (by rw [q]; decide), l0 (by rw [q]; decide) (by rw [q]; decide) (by rw [q]; decide), oneN_eq (by omega) ea]
      have h1 := mul_a1 (w := wtN tb a) ha
      have h3 : wtN tb m * (m + 1) = wtN tb a * (m + 1) + (m + 1) := by rw [ew, Nat.add_mul, Nat.one_mul]
      refine ⟨?_, ?_⟩
      · show 1 + (wtN tb a * (a + 2) + 0) + 0 ≤ _; omega
      · show 0 + (wtN tb a + 0) ≤ _; omega
    · obtain ⟨a, f, ha, ea, hf, ef, ew⟩ := k5 q
      rw [kids_5 q, r0 (by rw [q]; decide), l0 (by rw [q]; decide) (by rw [q]; decide) (by rw [q]; decide), oneN_eq (by omega) ea]
      have h1 := mul_a1 (w := wtN tb a) ha
      have h3 : wtN tb m * (m + 1) = wtN tb a * (m + 1) + (m + 1) := by rw [ew, Nat.add_mul, Nat.one_mul]
      refine ⟨?_, ?_⟩
      · show 1 + (wtN tb a * (a + 2) + 0) + 0 ≤ _; omega
      · show 0 + (wtN tb a + 0) ≤ _; omega
    · obtain ⟨n, n1, n2, en, ew⟩ := k6 q
      have ev : v = nI n := (h6' q).trans en
      rw [kids_6 q, r0 (by rw [q]; decide), l0 (by rw [q]; decide) (by rw [q]; decide) (by rw [q]; decide), sumO_rep, sumO_rep, ev, nI_clamp (by omega), ew]
      have h1 : n * 1 ≤ n * (m + 1) := Nat.mul_le_mul (Nat.le_refl _) (by omega)
      refine ⟨?_, ?_⟩
      · show 1 + n * 1 + 0 ≤ _; omega
      · show 0 + n * 1 ≤ _; omega
    · obtain ⟨a, ha, ea, ew⟩ := k7 q
      rw [kids_7 q, oneN_eq (by omega) ea, show leafN tb (some m, v) = 1 from if_pos (Or.inr (Or.inr q)), show resT tb (some m, v) = [(9, v, 0)] from if_pos (decide_eq_true q)]
      have h1 := mul_a1 (w := wtN tb a) ha
      have h3 : wtN tb m * (m + 1) = wtN tb a * (m + 1) + (m + 1) := by rw [ew, Nat.add_mul, Nat.one_mul]
      refine ⟨?_, ?_⟩
      · show 1 + (wtN tb a * (a + 2) + 0) + 1 ≤ _; omega
      · show 1 + (wtN tb a + 0) ≤ _; omega
theorem CF_bd (hn : nm ≤ 30) (hw : ∀ m, m < nm → MkWF tb nc m) (L : List Nd) (ts : List (Option Nat)) (hc : CF tb L ts) : BN nm L → (cenc tb L).length ≤ sumO (bdO tb) ts ∧ (evR tb L).length ≤ sumO (wtO tb) ts ∧ L.length ≤ (cenc tb L).length := by
  refine CF_ind (P := fun L ts => BN nm L → (cenc tb L).length ≤ sumO (bdO tb) ts ∧ (evR tb L).length ≤ sumO (wtO tb) ts ∧ L.length ≤ (cenc tb L).length) ?_ ?_ L.length L ts (Nat.le_refl _) hc
  · intro _; exact ⟨Nat.le_refl _, Nat.le_refl _, Nat.le_refl _⟩
  · intro x t ts L1 L2 hk h1 P1 h2 P2 hb
    have hbx := hb x List.mem_cons_self
    obtain ⟨a1, a2, a3⟩ := P1 (fun y hy => hb y (List.mem_cons_of_mem _ (List.mem_append_left _ hy)))
    obtain ⟨b1, b2, b3⟩ := P2 (fun y hy => hb y (List.mem_cons_of_mem _ (List.mem_append_right _ hy)))
    obtain ⟨c1, c2⟩ := kid_bd hn hw (okN_X hk hbx)
    rw [show x.1 = t from hk.1] at c1 c2
    rw [evR_len, evR_app L1 _ h1, cenc_tree h1]
    simp only [List.length_cons, List.length_append]
    refine ⟨?_, ?_, ?_⟩
    · show _ ≤ bdO tb t + sumO (bdO tb) ts; omega
    · show _ ≤ wtO tb t + sumO (wtO tb) ts; omega
    · omega
theorem CF_b1 (hn : nm ≤ 30) (hw : ∀ m, m < nm → MkWF tb nc m) {L : List Nd} {m : Nat} (hc : CF tb L [some m]) (hm : m < nm) (hb : BN nm L) : (cenc tb L).length ≤ 744 ∧ (evR tb L).length ≤ 24 ∧ L.length ≤ (cenc tb L).length := by
  obtain ⟨a, b, c⟩ := CF_bd hn hw L _ hc hb
  obtain ⟨p1, p2⟩ := wt_pos (hw m hm)
  have h : wtN tb m * (m + 2) ≤ 24 * 31 := Nat.mul_le_mul p2 (by omega)
  refine ⟨Nat.le_trans a ?_, Nat.le_trans b ?_, c⟩
  · show wtN tb m * (m + 2) + 0 ≤ 744; omega
  · show wtN tb m + 0 ≤ 24; omega
end
