/-! MAKING: both make the same -/
def Mk (ck mk : Nat → Ob) (tb : Tb) (nm nc : Nat) (w : Int32) (m : Nat) : Prop := ∀ (s : Int64) (e : Nat), e ≤ 1500 → ∃ (r : Int32) (L : List Nd) (s2 : Int64) (e2 : Nat), e2 ≤ e ∧ (r = 1 ∨ r = -5 ∨ r = -6) ∧ (r = 1 → CF tb L [some m]) ∧ GrC ck mk tb nm nc w m s e r L s2 e2 ∧ GrR ck tb nm nc w m s e r L s2 e2
theorem r56_0 {r : Int32} (h : r = 1 ∨ r = -5 ∨ r = -6) : ¬ r = 0 := by rcases h with rfl | rfl | rfl <;> decide
theorem bnd_rng (x : Int32) : ∃ j : Nat, j ≤ 1000000 ∧ bnd x = nI j := by
  unfold bnd
  by_cases h : 0 ≤ x
  · rw [if_pos h]
    obtain ⟨j, hj, rfl⟩ := nI_of (Int32.not_lt.mpr h)
    by_cases h2 : nI j ≤ 1000000
    · rw [if_pos h2]
      rw [show (1000000 : Int32) = nI 1000000 from rfl, nI_leI hj (by omega)] at h2
      exact ⟨j, h2, rfl⟩
    · rw [if_neg h2]; exact ⟨1000000, Nat.le_refl _, rfl⟩
  · rw [if_neg h]; exact ⟨0, by omega, rfl⟩
theorem min_lt {a b : Nat} (ha : a < 1000) (hb : b < 1000) : (if nI a < nI b then nI a else nI b) = nI (min a b) := by
  by_cases h : a < b
  · rw [if_pos ((nI_ltI (by omega) (by omega)).mpr h), show min a b = a by omega]
  · rw [if_neg (fun z => h ((nI_ltI (by omega) (by omega)).mp z)), show min a b = b by omega]
theorem min_le {a b : Nat} (ha : a < 1000) (hb : b < 1000) : (if nI a ≤ nI b then nI a else nI b) = nI (min a b) := by
  by_cases h : a ≤ b
  · rw [if_pos ((nI_leI (by omega) (by omega)).mpr h), show min a b = a by omega]
  · rw [if_neg (fun z => h ((nI_leI (by omega) (by omega)).mp z)), show min a b = b by omega]
theorem whole_rng {l h : Int32} {s : Int64} (h1 : l ≤ h) (h2 : (-1000000) ≤ l) (h3 : h ≤ 1000000) : (-1000000) ≤ l + outD s (h - l + 1) ∧ l + outD s (h - l + 1) ≤ 1000000 := by
  rw [Int32.le_iff_toInt_le] at h1 h2 h3
  rw [show (-1000000 : Int32).toInt = -1000000 from by decide] at h2
  rw [show (1000000 : Int32).toInt = 1000000 from by decide] at h3
  have el : l = Int32.ofInt l.toInt := (Int32.ofInt_toInt l).symm
  have eh : h = Int32.ofInt h.toInt := (Int32.ofInt_toInt h).symm
  obtain ⟨n, hn⟩ : ∃ n : Nat, (n : Int) = h.toInt - l.toInt + 1 := ⟨(h.toInt - l.toInt + 1).toNat, by omega⟩
  have en : h - l + 1 = nI n := by
    have e1 : h - l = Int32.ofInt (h.toInt - l.toInt) := by rw [Int32.ofInt_sub, ← eh, ← el]
    rw [e1, show (1 : Int32) = Int32.ofInt 1 from rfl, ← Int32.ofInt_add, ← hn]; rfl
  obtain ⟨j, hj, ej⟩ := outD_lt (s := s) (n := n) (by omega) (by omega)
  have ev : l + nI j = Int32.ofInt (l.toInt + j) := by
    rw [Int32.ofInt_add, ← el]; rfl
  have et : (Int32.ofInt (l.toInt + j)).toInt = l.toInt + j := Int32.toInt_ofInt_of_le (by omega) (by omega)
  rw [en, ej, ev, Int32.le_iff_toInt_le, Int32.le_iff_toInt_le, et, show (-1000000 : Int32).toInt = -1000000 from by decide, show (1000000 : Int32).toInt = 1000000 from by decide]
  omega
section
variable {ck mk : Nat → Ob} {tb : Tb} {nm nc : Nat} {w : Int32}
theorem CF_node {m : Nat} {v : Int32} {L : List Nd} (h : (tb 0 m = 1 → ∃ j : Nat, j ≤ (tb 3 m).toNatClampNeg ∧ v = nI j) ∧ (tb 0 m = 6 → v = tb 3 m) ∧ (tb 0 m = 7 → 0 ≤ v) ∧ (tb 0 m = 0 → (-1000000) ≤ v ∧ v ≤ 1000000)) (hc : CF tb L (kidsT tb (some m, v))) : CF tb ((some m, v) :: L) [some m] :=
  ⟨some m, [], rfl, ⟨rfl, fun m2 e => by cases e; exact h⟩, by rw [List.append_nil]; exact hc⟩
theorem CF_nl (hw : ∀ m, m < nm → MkWF tb nc m) (hn : nm ≤ 30) {a k : Nat} (ha : a < nm) {L : List Nd} (h : CF tb L (List.replicate k (some a))) : L.length ≤ k * (wtN tb a * (a + 2)) := by
  have hB := CF_bn hw hn L _ (fun a' ha' => by rw [List.mem_replicate] at ha'; cases ha'.2; exact ha) h
  obtain ⟨b1, b2, b3⟩ := CF_bd hn hw L _ h hB
  rw [sumO_rep] at b1
  have b1 : (cenc tb L).length ≤ k * (wtN tb a * (a + 2)) := b1
  omega
theorem CF_n1 (hw : ∀ m, m < nm → MkWF tb nc m) (hn : nm ≤ 30) {a : Nat} (ha : a < nm) {L : List Nd} (h : CF tb L [some a]) : L.length ≤ wtN tb a * (a + 2) := by
  have := CF_nl hw hn (k := 1) ha h
  omega
theorem mk_seq (hw : ∀ m, m < nm → MkWF tb nc m) (hn : nm ≤ 30) {m a : Nat} (q : tb 0 m = 1) (ha : a < nm) (ea : tb 1 m = nI a) (em : (mk m).2.1 1 = nI a) (A : Mk ck mk tb nm nc w a) : ∀ (k : Nat) (s : Int64) (e : Nat), e ≤ 1500 → ∃ (r : Int32) (L : List Nd) (s2 : Int64) (e2 : Nat), e2 ≤ e ∧ (r = 1 ∨ r = -5 ∨ r = -6) ∧ (r = 1 → CF tb L (List.replicate k (some a))) ∧ SqC ck mk tb nm nc w m a k s e r L s2 e2 ∧ SqR ck tb nc w m a k s e r L s2 e2 := by
  intro k
  induction k with
  | zero => intro s e he; exact ⟨1, [], s, e, Nat.le_refl _, Or.inl rfl, fun _ => rfl, sq_nil, rq_nil⟩
  | succ k ih =>
    intro s e he
    obtain ⟨r1, L1, s1, e1, h1, h2, h3, g1, g2⟩ := A s e he
    by_cases c : r1 = 1
    · subst c
      obtain ⟨r, L, s2, e2, k1, k2, k3, k4, k5⟩ := ih s1 e1 (by omega)
      exact ⟨r, L1 ++ L, s2, e2, by omega, k2, fun y => CF_app (k3 y) L1 _ (h3 rfl), sq_cons hw hn ha em g1 (h3 rfl) k4 k3, rq_cons q ea g2 (CF_n1 hw hn ha (h3 rfl)) k5 (fun y => CF_nl hw hn ha (k3 y))⟩
    · exact ⟨r1, [], s1, e1, h1, h2, fun y => absurd y c, sq_fail hn em g1 c, rq_fail q ea g2 c (r56_0 h2)⟩
theorem mk_pick (hw : ∀ m, m < nm → MkWF tb nc m) (hr : ∀ m, m < nm → MkRel tb (mk m) m) (hn : nm ≤ 30) (hck : ∀ i, i < nc → CkWF (ck i) i) (hnc : nc ≤ 40) {m a c : Nat} (hm : m < nm) (q : tb 0 m = 5) (ha : a < m) (ea : tb 1 m = nI a) (ec : tb 2 m = nI c) (hc : c < nc) (A : Mk ck mk tb nm nc w a) : ∀ (d i : Nat) (s : Int64) (e : Nat), i + d + 1 = 8 → e ≤ 1500 → ∃ (r : Int32) (L : List Nd) (s2 : Int64) (e2 : Nat), e2 ≤ e ∧ (r = 1 ∨ r = -5 ∨ r = -6) ∧ (r = 1 → CF tb L [some a]) ∧ PkC ck mk tb nm nc w m i s e r L s2 e2 ∧ PkR ck tb nm nc w m i s e r L s2 e2 := by
  have VV : ∀ L, VS (vdL ck tb L c) := fun L => vF_VS hck hnc c hc
  intro d
  induction d with
  | zero =>
    intro i s e hi he
    obtain ⟨r1, L1, s1, e1, h1, h2, h3, g1, g2⟩ := A s e he
    by_cases c1 : r1 = 1
    · subst c1
      have hcf := h3 rfl
      cases e1 with
      | zero => exact ⟨-6, L1, s1, 0, by omega, Or.inr (Or.inr rfl), fun y => absurd y (by decide), pk_spent hw hr hn hm q ha ea ec (by omega) g1 hcf, pr_ask hw hn hnc hm q ha ea ec hc (by omega) (by omega) g2 hcf (fun _ => ⟨rfl, rfl⟩) (fun e' z => absurd z (by omega)) (fun e' z => absurd z (by omega)) (fun e' z => absurd z (by omega))⟩
      | succ e1 =>
        by_cases v1 : vdL ck tb L1 c = 1
        · exact ⟨1, L1, s1, e1, by omega, Or.inl rfl, fun _ => hcf, pk_fit hw hr hn hck hnc hm q ha ea ec hc (by omega) g1 (by omega) hcf v1, pr_ask hw hn hnc hm q ha ea ec hc (by omega) (by omega) g2 hcf (fun z => absurd z (by omega)) (fun e' z _ => ⟨rfl, rfl, rfl, by omega⟩) (fun e' z y => absurd v1 y) (fun e' z y => absurd (v1.symm.trans y) (by decide))⟩
        · by_cases v0 : vdL ck tb L1 c = 0
          · refine ⟨-5, L1, s1, e1, by omega, Or.inr (Or.inl rfl), fun y => absurd y (by decide), ?_, pr_ask hw hn hnc hm q ha ea ec hc (by omega) (by omega) g2 hcf (fun z => absurd z (by omega)) (fun e' z y => absurd y v1) (fun e' z _ _ => ⟨rfl, by omega⟩) (fun e' z y k => absurd k (by omega))⟩
            have pe : PkC ck mk tb nm nc w m (i + 1) s1 e1 (-5) L1 s1 e1 := by rw [show i + 1 = 8 by omega]; exact pk_end
            exact pk_again hw hr hn hck hnc hm q ha ea ec hc (by omega) g1 (by omega) hcf v0 pe
          · exact ⟨-5, L1, s1, e1, by omega, Or.inr (Or.inl rfl), fun y => absurd y (by decide), pk_throw hw hr hn hck hnc hm q ha ea ec hc (by omega) g1 (by omega) hcf v1 v0, pr_ask hw hn hnc hm q ha ea ec hc (by omega) (by omega) g2 hcf (fun z => absurd z (by omega)) (fun e' z y => absurd y v1) (fun e' z _ _ => ⟨rfl, by omega⟩) (fun e' z y => absurd y v0)⟩
    · exact ⟨r1, L1, s1, e1, h1, h2, fun y => absurd y c1, pk_fail hw hr hn hm q ha ea ec (by omega) g1 c1, pr_fail hw hn hm q ha ea g2 c1 (r56_0 h2)⟩
  | succ d ih =>
    intro i s e hi he
    obtain ⟨r1, L1, s1, e1, h1, h2, h3, g1, g2⟩ := A s e he
    by_cases c1 : r1 = 1
    · subst c1
      have hcf := h3 rfl
      cases e1 with
      | zero => exact ⟨-6, L1, s1, 0, by omega, Or.inr (Or.inr rfl), fun y => absurd y (by decide), pk_spent hw hr hn hm q ha ea ec (by omega) g1 hcf, pr_ask hw hn hnc hm q ha ea ec hc (by omega) (by omega) g2 hcf (fun _ => ⟨rfl, rfl⟩) (fun e' z => absurd z (by omega)) (fun e' z => absurd z (by omega)) (fun e' z => absurd z (by omega))⟩
      | succ e1 =>
        by_cases v1 : vdL ck tb L1 c = 1
        · exact ⟨1, L1, s1, e1, by omega, Or.inl rfl, fun _ => hcf, pk_fit hw hr hn hck hnc hm q ha ea ec hc (by omega) g1 (by omega) hcf v1, pr_ask hw hn hnc hm q ha ea ec hc (by omega) (by omega) g2 hcf (fun z => absurd z (by omega)) (fun e' z _ => ⟨rfl, rfl, rfl, by omega⟩) (fun e' z y => absurd v1 y) (fun e' z y => absurd (v1.symm.trans y) (by decide))⟩
        · by_cases v0 : vdL ck tb L1 c = 0
          · obtain ⟨r, L, s2, e2, k1, k2, k3, k4, k5⟩ := ih (i + 1) s1 e1 (by omega) (by omega)
            exact ⟨r, L, s2, e2, by omega, k2, k3, pk_again hw hr hn hck hnc hm q ha ea ec hc (by omega) g1 (by omega) hcf v0 k4, pr_ask hw hn hnc hm q ha ea ec hc (by omega) (by omega) g2 hcf (fun z => absurd z (by omega)) (fun e' z y => absurd y v1) (fun e' z _ y => y.elim (fun x => absurd v0 x) (fun x => absurd x (by omega))) (fun e' z y _ => by rw [show e' = e1 by omega]; exact k5)⟩
          · exact ⟨-5, L1, s1, e1, by omega, Or.inr (Or.inl rfl), fun y => absurd y (by decide), pk_throw hw hr hn hck hnc hm q ha ea ec hc (by omega) g1 (by omega) hcf v1 v0, pr_ask hw hn hnc hm q ha ea ec hc (by omega) (by omega) g2 hcf (fun z => absurd z (by omega)) (fun e' z y => absurd y v1) (fun e' z _ _ => ⟨rfl, by omega⟩) (fun e' z y => absurd y v0)⟩
    · exact ⟨r1, L1, s1, e1, h1, h2, fun y => absurd y c1, pk_fail hw hr hn hm q ha ea ec (by omega) g1 c1, pr_fail hw hn hm q ha ea g2 c1 (r56_0 h2)⟩
theorem mk_all (hw : ∀ m, m < nm → MkWF tb nc m) (hr : ∀ m, m < nm → MkRel tb (mk m) m) (hn : nm ≤ 30) (hck : ∀ i, i < nc → CkWF (ck i) i) (hnc : nc ≤ 40) {wn : Nat} (hwn : wn ≤ 24) (ew : w = nI wn) : ∀ (N m : Nat), m < N → m < nm → Mk ck mk tb nm nc w m := by
  intro N
  induction N with
  | zero => intro m h; exact absurd h (Nat.not_lt_zero _)
  | succ N ih =>
    intro m hmN hm s e he
    have W := hw m hm
    have kc := kind_cases W
    obtain ⟨-, -, -, w0, w1, w2, w3, w4, w5, w6, w7⟩ := W
    rcases kc with q | q | q | q | q | q | q | q
    · have nk : kidsT tb (some m, tb 3 m + outD (nxt s) (tb 4 m - tb 3 m + 1)) = [] := kids_0 q
      exact ⟨1, _, nxt s, e, Nat.le_refl _, Or.inl rfl, fun _ => CF_node ⟨fun z => absurd (q.symm.trans z) (by decide), fun z => absurd (q.symm.trans z) (by decide), fun z => absurd (q.symm.trans z) (by decide), fun _ => whole_rng (w0 q).1 (w0 q).2.1 (w0 q).2.2⟩ (by rw [nk]; rfl), c_whole hw hr hn hm q s e, r_whole hw hn hm q s e⟩
    · obtain ⟨a, ha, ea, c, c1, c2, ec, -⟩ := w1 q
      obtain ⟨j, hj, ej⟩ := outD_lt (s := nxt s) (n := 1 + min wn c) (by omega) (by omega)
      have em : (mk m).2.1 1 = nI a := by
        obtain ⟨-, -, -, -, r1, -⟩ := hr m hm
        exact (r1 q).1.trans ea
      obtain ⟨r, L, s2, e2, k1, k2, k3, k4, k5⟩ := mk_seq hw hn q (show a < nm by omega) ea em (ih a (by omega) (by omega)) j (nxt s) e he
      have o1 : (1 : Int32) + nI (min wn c) = nI (1 + min wn c) := nI_add 1 _
      have e1 : outD (nxt s) (1 + (if w < nI c then w else nI c)) = nI j := by rw [ew, min_lt (by omega) (by omega), o1]; exact ej
      have e2' : outD (nxt s) (1 + (if w ≤ nI c then w else nI c)) = nI j := by rw [ew, min_le (by omega) (by omega), o1]; exact ej
      refine ⟨r, _, s2, e2, k1, k2, fun y => CF_node ⟨fun _ => ⟨j, by rw [ec, nI_clamp (by omega)]; omega, rfl⟩, fun z => absurd (q.symm.trans z) (by decide), fun z => absurd (q.symm.trans z) (by decide), fun z => absurd (q.symm.trans z) (by decide)⟩ ?_, c_list hw hr hn hm q ha ea ec (by omega) e1 (by omega) k4 k3, r_list hw hn hm q ha ea ec (by omega) e2' (by omega) k5 (fun y => CF_nl hw hn (by omega) (k3 y))⟩
      rw [kids_1 q, oneN_eq (by omega) ea, nI_clamp (by omega)]; exact k3 y
    · obtain ⟨a, b, ha, hb, ea, eb, -⟩ := w2 q
      obtain ⟨r1, L1, s1, e1, h1, h2, h3, g1, g2⟩ := ih a (by omega) (by omega) s e he
      by_cases c1 : r1 = 1
      · subst c1
        obtain ⟨r2, L2, s2, e2, k1, k2, k3, k4, k5⟩ := ih b (by omega) (by omega) s1 e1 (by omega)
        refine ⟨r2, _, s2, e2, by omega, k2, fun y => CF_node ⟨fun z => absurd (q.symm.trans z) (by decide), fun z => absurd (q.symm.trans z) (by decide), fun z => absurd (q.symm.trans z) (by decide), fun z => absurd (q.symm.trans z) (by decide)⟩ ?_, c_pair_b hw hr hn hm q ha hb ea eb g1 (h3 rfl) k4 k3, r_pair_b hw hn hm q ha hb ea eb g2 (h3 rfl) k5 (r56_0 k2) (fun y => CF_n1 hw hn (by omega) (k3 y))⟩
        rw [kids_2 q, oneN_eq (by omega) ea, twoN_eq (by omega) eb]
        exact CF_app (k3 y) L1 _ (h3 rfl)
      · exact ⟨r1, [], s1, e1, h1, h2, fun y => absurd y c1, c_pair_a hw hr hn hm q ha hb ea eb g1 c1, r_pair_a hw hn hm q ha hb ea eb g2 c1 (r56_0 h2)⟩
    · obtain ⟨a, b, p, q', ha, hb, ea, eb, -⟩ := w3 q
      obtain ⟨v, ev⟩ : ∃ v : Int32, v = if tb 3 m ≤ outD (nxt s) (tb 3 m + tb 4 m) then 1 else 0 := ⟨_, rfl⟩
      obtain ⟨c, hc, x1, x0⟩ : ∃ c : Nat, c < m ∧ (v = 1 → tb 2 m = nI c) ∧ (¬ v = 1 → tb 1 m = nI c) := by
        by_cases z : v = 1
        · exact ⟨b, hb, fun _ => eb, fun y => absurd z y⟩
        · exact ⟨a, ha, fun y => absurd y z, fun _ => ea⟩
      obtain ⟨r1, L1, s1, e1, h1, h2, h3, g1, g2⟩ := ih c (by omega) (by omega) (nxt s) e he
      refine ⟨r1, _, s1, e1, h1, h2, fun y => CF_node ⟨fun z => absurd (q.symm.trans z) (by decide), fun z => absurd (q.symm.trans z) (by decide), fun z => absurd (q.symm.trans z) (by decide), fun z => absurd (q.symm.trans z) (by decide)⟩ ?_, c_oneof hw hr hn hm q hc ev x1 x0 g1 h3, r_oneof hw hn hm q hc ev x1 x0 g2 (r56_0 h2) (fun y => CF_n1 hw hn (by omega) (h3 y))⟩
      have : kidsT tb (some m, v) = [some c] := by
        rw [kids_3 q]
        by_cases z : v = 1
        · rw [if_pos z, twoN_eq (by omega) (x1 z)]
        · rw [if_neg z, oneN_eq (by omega) (x0 z)]
      rw [this]; exact h3 y
    · obtain ⟨a, f, ha, ea, hf, ef, -⟩ := w4 q
      obtain ⟨r1, L1, s1, e1, h1, h2, h3, g1, g2⟩ := ih a (by omega) (by omega) s e he
      refine ⟨r1, _, s1, e1, h1, h2, fun y => CF_node ⟨fun z => absurd (q.symm.trans z) (by decide), fun z => absurd (q.symm.trans z) (by decide), fun z => absurd (q.symm.trans z) (by decide), fun z => absurd (q.symm.trans z) (by decide)⟩ ?_, c_mapped (f := f) hw hr hn hm q ha ea g1 h3, r_mapped hw hn hm q ha ea g2 (r56_0 h2) (fun y => CF_n1 hw hn (by omega) (h3 y))⟩
      rw [kids_4 q, oneN_eq (by omega) ea]; exact h3 y
    · obtain ⟨a, c, ha, ea, hc, ec, -⟩ := w5 q
      obtain ⟨r1, L1, s1, e1, h1, h2, h3, g1, g2⟩ := mk_pick hw hr hn hck hnc hm q ha ea ec hc (ih a (by omega) (by omega)) 7 0 s e rfl he
      refine ⟨r1, _, s1, e1, h1, h2, fun y => CF_node ⟨fun z => absurd (q.symm.trans z) (by decide), fun z => absurd (q.symm.trans z) (by decide), fun z => absurd (q.symm.trans z) (by decide), fun z => absurd (q.symm.trans z) (by decide)⟩ ?_, c_picked hw hr hn hm q ha ea ec g1 h3, r_picked hw hn hm q g2⟩
      rw [kids_5 q, oneN_eq (by omega) ea]; exact h3 y
    · obtain ⟨n, n1, n2, en, ewt⟩ := w6 q
      have sl : (shF (n - 1) s (idx n)).1.length = n := by rw [shF_len, idx_len]
      refine ⟨1, _, _, e, Nat.le_refl _, Or.inl rfl, fun _ => CF_node ⟨fun z => absurd (q.symm.trans z) (by decide), fun _ => en.symm, fun z => absurd (q.symm.trans z) (by decide), fun z => absurd (q.symm.trans z) (by decide)⟩ ?_, c_shuffled hw hr hn hm q en n1 n2 ewt s e, r_shuffled hw hn hm q en n1 n2 ewt s e⟩
      rw [kids_6 q, nI_clamp (by omega)]
      have := plN_CF (tb := tb) (shF (n - 1) s (idx n)).1
      rw [sl] at this; exact this
    · obtain ⟨a, ha, ea, -⟩ := w7 q
      obtain ⟨r1, L1, s1, e1, h1, h2, h3, g1, g2⟩ := ih a (by omega) (by omega) s e he
      by_cases c1 : r1 = 1
      · subst c1
        obtain ⟨b, hb, eb⟩ := bnd_rng (sumA (hg (evR tb L1)) (evR tb L1).length 0 0)
        obtain ⟨j, hj, ej⟩ := outD_lt (s := nxt s1) (n := 1 + b) (by omega) (by omega)
        have o1 : (1 : Int32) + nI b = nI (1 + b) := nI_add 1 _
        have e7 : outD (nxt s1) (1 + evB tb L1) = nI j := by unfold evB; rw [eb, o1]; exact ej
        refine ⟨1, _, nxt s1, e1, h1, Or.inl rfl, fun _ => CF_node ⟨fun z => absurd (q.symm.trans z) (by decide), fun z => absurd (q.symm.trans z) (by decide), fun _ => by rw [e7]; exact nI_pos' (by omega), fun z => absurd (q.symm.trans z) (by decide)⟩ ?_, c_below_b hw hr hn hm q ha ea g1 (h3 rfl) rfl, r_below_b hw hn hm q ha ea g2 (h3 rfl) rfl⟩
        rw [kids_7 q, oneN_eq (by omega) ea]; exact h3 rfl
      · exact ⟨r1, [], s1, e1, h1, h2, fun y => absurd y c1, c_below_a hw hr hn hm q ha ea g1 c1, r_below_a hw hn hm q ha ea g2 c1 (r56_0 h2)⟩
end
