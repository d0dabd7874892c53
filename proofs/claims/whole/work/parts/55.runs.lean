/-! SCRIPTS in the reference -/
section
variable {o : Ob} {n : Nat} {f : Nat → Int32}
theorem an_0 {kd : Int32} : ∀ (d i : Nat) (h : List Int32) (a : Int32), (anA kd 0 f d i h a).1 = 0 := by
  intro d
  induction d with
  | zero => intro i h a; rfl
  | succ d ih => intro i h a; unfold anA; rw [if_pos (thr_no (by decide))]; exact ih _ _ _
theorem LvG.keep {S A : List Nat} {o2 : Ob} (h : LvG o n f) (hf : Fm S A o o2) (h1 : 14 ∉ S) (h2 : 15 ∉ A) : LvG o2 n f := by
  obtain ⟨a, b, c⟩ := h
  refine ⟨(hf.2.1 14 h1).trans a, b, ?_⟩
  rw [hf.2.2 15 h2]; exact c
theorem MhR.keep {S A : List Nat} {o2 : Ob} {w : Nat} {h : List Int32} (R : MhR o w h) (hf : Fm S A o o2) (h1 : 26 ∉ A) (h2 : 27 ∉ A) : MhR o2 w h := by
  obtain ⟨a, b, c⟩ := R
  refine ⟨?_, b, ?_⟩
  · rw [hf.2.2 27 h2]; exact a
  · rw [hf.2.2 26 h1]; exact c
def runS : List Nat := [28, 29, 30, 31, 32]
theorem actJ {x : Int32} {o : Ob} {P : Int32 → Ob → Prop} (k : P (actF x) o) : jn (fun J : Int32 → Ob → Prop => ((0 ≤ (x - x / 4 * 4)) → J (x - x / 4 * 4) o) ∧ (¬ (0 ≤ (x - x / 4 * 4)) → J ((x - x / 4 * 4) + 4) o)) P := by
  unfold actF at k
  exact ⟨fun c => by rw [if_pos c] at k; exact k, fun c => by rw [if_neg c] at k; exact k⟩
theorem m_runL {kd ft x : Int32} {q : Nat} {Post : Int32 → Ob → Prop} (hx : x = nI q) (hq : q ≤ n / 2) : ∀ (d i : Nat) (like thr : Int32) (hm hd : List Int32) (a m : Int32) (o : Ob), i + d = q → LvG o n f → MhR o 0 hm → MhR o 1 hd → (like = 0 ∨ like = 1) → o.2.1 28 = thr → (thr = 0 ∨ thr = 1) → (thr = 0 → o.2.1 31 = a) → o.2.1 32 = m →
    (∀ (o2 : Ob) (l2 : Int32), (l2 = 0 ∨ l2 = 1) → Fm runS [26, 27] o o2 → o2.2.1 28 = (if thr = 0 then (anA kd ft f d i hm a).1 else 1) → (o2.2.1 28 = 0 → o2.2.1 31 = (anA kd ft f d i hm a).2) → o2.2.1 32 = (anA kd 0 f d i hd m).2 → (d = 0 → o2.2.1 29 = o.2.1 29 ∧ o2.2.1 30 = o.2.1 30) → (0 < d → o2.2.1 29 = actF (f (2 * (i + d - 1))) ∧ o2.2.1 30 = f (2 * (i + d - 1) + 1)) → (o2.2.1 28 = 0 → like = 1 → l2 = gwA kd ft f d i hm hd) → (o2.2.1 28 = 0 → like = 0 → l2 = 0) → Post l2 o2) →
    w_X10_runs_L25 kd ft x Post (d + 1) like (nI i) o := by
  intro d
  induction d with
  | zero =>
    intro i like thr hm hd a m o e L R1 R2 hl h28 ht h31 h32 k
    refine ⟨fun _ => ⟨hl, k o like hl Fm.rf ?_ ?_ h32 (fun _ => ⟨rfl, rfl⟩) (fun z => absurd z (by omega)) (fun _ z => z) (fun _ z => z)⟩, fun z => absurd ?_ z⟩
    · rw [h28]
      by_cases c : thr = 0
      · rw [if_pos c, c]; rfl
      · rw [if_neg c]; exact ht.resolve_left c
    · intro z; exact h31 (h28.symm.trans z)
    · rw [hx, show i = q by omega]; exact Int32.le_refl _
  | succ d ih =>
    intro i like thr hm hd a m o e L R1 R2 hl h28 ht h31 h32 k
    have hn := L.2.1
    have e2 : (o.2.2 15) (nI (2 * i)).toNatClampNeg = f (2 * i) := by rw [nI_clamp (by omega)]; exact L.2.2 _ (by omega)
    have e3 : (o.2.2 15) (nI (2 * i + 1)).toNatClampNeg = f (2 * i + 1) := by rw [nI_clamp (by omega)]; exact L.2.2 _ (by omega)
    refine ⟨fun z => ?_, fun _ => ?_⟩
    · rw [hx, nI_leI (by omega) (by omega)] at z; omega
    rw [two_nI, e2]
    refine ⟨vp_in_nI (by omega) (by omega), actJ ?_⟩
    show vp_in (nI (2 * i) + 1) 64 ∧ _
    rw [nI_1, e3]
    refine ⟨vp_in_nI (by omega) (by omega), ?_⟩
    have F1 : Fm runS [26, 27] o (o.1, upd (upd o.2.1 29 (actF (f (2 * i)))) 30 (f (2 * i + 1)), o.2.2) := Fm.i (fun k hk => by rw [un_of (S := runS) (by decide) hk, un_of (S := runS) (by decide) hk])
    have F1n : Fm [29, 30] [] o (o.1, upd (upd o.2.1 29 (actF (f (2 * i)))) 30 (f (2 * i + 1)), o.2.2) := Fm.i (fun k hk => by rw [un_of (S := [29, 30]) (by decide) hk, un_of (S := [29, 30]) (by decide) hk])
    have ha := act4 (f (2 * i))
    have i29 : (upd (upd o.2.1 29 (actF (f (2 * i)))) 30 (f (2 * i + 1))) 29 = actF (f (2 * i)) := by rw [pk_un (by omega), pk_us]
    have i30 : (upd (upd o.2.1 29 (actF (f (2 * i)))) 30 (f (2 * i + 1))) 30 = f (2 * i + 1) := pk_us
    refine m_ans (w := 1) (by omega) (R2.keep F1n (by decide) (by decide)) ha (fun o7 f7 t7 R7 n7 _ => ?_)
    have n7 := n7 (thr_no (by decide))
    have e28 : o7.2.1 28 = thr := n7.trans ((F1n.2.1 28 (by decide)).trans h28)
    have e29 : o7.2.1 29 = actF (f (2 * i)) := (f7.2.1 29 (by decide)).trans i29
    have e30 : o7.2.1 30 = f (2 * i + 1) := (f7.2.1 30 (by decide)).trans i30
    have R70 : MhR o7 0 hm := t7.oth (by omega) (R1.keep F1n (by decide) (by decide))
    have F7 : Fm runS [26, 27] o o7 := F1.tr (f7.mono (by decide) (by decide))
    generalize hsm : (mAns kd 0 (actF (f (2 * i))) (f (2 * i + 1)) hd) = AD at R7 ⊢
    have F8 : Fm [32] [] o7 (o7.1, upd o7.2.1 32 AD.1, o7.2.2) := Fm.i (fun k hk => un_of (S := [32]) (by decide) hk)
    have F8' : Fm runS [26, 27] o (o7.1, upd o7.2.1 32 AD.1, o7.2.2) := F7.tr (F8.mono (by decide) (by decide))
    -- what goes on from the machine's answer
    have go : ∀ (z : Int32) (o9 : Ob) (thr9 : Int32) (hm9 : List Int32), Fm runS [26, 27] o o9 → o9.2.1 29 = actF (f (2 * i)) → o9.2.1 30 = f (2 * i + 1) → o9.2.1 32 = AD.1 → o9.2.1 28 = thr9 → (thr9 = 0 ∨ thr9 = 1) → MhR o9 0 hm9 → MhR o9 1 AD.2 →
        (thr9 = 0 → thr = 0 ∧ z = (mAns kd ft (actF (f (2 * i))) (f (2 * i + 1)) hm).1 ∧ bP (mThr ft (actF (f (2 * i))) hm) = 0 ∧ hm9 = (mAns kd ft (actF (f (2 * i))) (f (2 * i + 1)) hm).2) → (¬ thr9 = 0 → thr = 0 → ¬ bP (mThr ft (actF (f (2 * i))) hm) = 0) →
        jn (fun J147 : Int32 → Ob → Prop => jn (fun J146 : Ob → Prop => ((like = 0) → J146 ((o9.1, (upd o9.2.1 31 z), o9.2.2))) ∧ (¬ (like = 0) → ((¬ z = (o9.2.1 32)) → J146 ((o9.1, (upd o9.2.1 31 z), o9.2.2))) ∧ ((z = (o9.2.1 32)) → J147 1 ((o9.1, (upd o9.2.1 31 z), o9.2.2))))) (fun (o_146 : Ob) => J147 0 o_146)) (fun (z_147 : Int32) (o_147 : Ob) => w_X10_runs_L25 kd ft x Post (d + 1) z_147 (nI i + 1) o_147) := by
      intro z o9 thr9 hm9 F9 i9 j9 k9 t9 h9 R9 R91 c0 c1
      have FA : Fm [31] [] o9 (o9.1, upd o9.2.1 31 z, o9.2.2) := Fm.i (fun k hk => un_of (S := [31]) (by decide) hk)
      have st : ∀ l9 : Int32, (l9 = 0 ∨ l9 = 1) → (like = 0 → l9 = 0) → (like = 1 → l9 = if z = AD.1 then 1 else 0) → w_X10_runs_L25 kd ft x Post (d + 1) l9 (nI i + 1) (o9.1, upd o9.2.1 31 z, o9.2.2) := by
        intro l9 hl9 l0 l1
        rw [nI_1]
        refine ih (i + 1) l9 thr9 hm9 AD.2 z AD.1 _ (by omega) ((L.keep F9 (by decide) (by decide)).keep FA (by decide) (by decide)) (R9.keep FA (by decide) (by decide)) (R91.keep FA (by decide) (by decide)) hl9 ((FA.2.1 28 (by decide)).trans t9) h9 (fun _ => (pk_us : upd o9.2.1 31 z 31 = z)) ((FA.2.1 32 (by decide)).trans k9) (fun o2 l2 hl2 F2 g1 g2 g3 g0 g4 g5 g6 => ?_)
        refine k o2 l2 hl2 ((F9.tr (FA.mono (by decide) (by decide))).tr F2) ?_ ?_ ?_ (fun z => absurd z (by omega)) (fun _ => ?_) ?_ ?_
        · rw [g1]
          by_cases q : thr9 = 0
          · obtain ⟨q1, q2, q3, q4⟩ := c0 q
            rw [if_pos q, if_pos q1]
            conv => rhs; unfold anA
            rw [if_pos q3, ← q4, ← q2]
          · rw [if_neg q]
            by_cases q5 : thr = 0
            · rw [if_pos q5]; unfold anA; rw [if_neg (c1 q q5)]
            · rw [if_neg q5]
        · intro y
          have q : thr9 = 0 := by
            refine Classical.byContradiction (fun q => ?_)
            rw [g1, if_neg q] at y; exact absurd y (by decide)
          obtain ⟨q1, q2, q3, q4⟩ := c0 q
          rw [g2 y]
          conv => rhs; unfold anA
          rw [if_pos q3, ← q4, ← q2]
        · rw [g3]
          conv => rhs; unfold anA
          rw [if_pos (thr_no (by decide)), hsm]
        · cases d with
          | zero =>
            have e0 := g0 rfl
            rw [show i + (0 + 1) - 1 = i by omega]
            exact ⟨e0.1.trans ((FA.2.1 29 (by decide)).trans i9), e0.2.trans ((FA.2.1 30 (by decide)).trans j9)⟩
          | succ d =>
            have := g4 (by omega)
            rw [show i + 1 + (d + 1) - 1 = i + (d + 1 + 1) - 1 by omega] at this
            exact this
        · intro y z1
          have q : thr9 = 0 := by
            refine Classical.byContradiction (fun q => ?_)
            rw [g1, if_neg q] at y; exact absurd y (by decide)
          obtain ⟨q1, q2, q3, q4⟩ := c0 q
          unfold gwA
          rw [if_pos q3, hsm, ← q4, ← q2]
          have l1 := l1 z1
          by_cases q7 : z = AD.1
          · rw [if_pos q7] at l1 ⊢; exact g5 y l1
          · rw [if_neg q7] at l1 ⊢; exact g6 y l1
        · intro y z1; exact g6 y (l0 z1)
      refine jn_mk (jn_mk ⟨fun c => st 0 (Or.inl rfl) (fun _ => rfl) (fun y => absurd (c.symm.trans y) (by decide)), fun c => ⟨fun c2 => st 0 (Or.inl rfl) (fun _ => rfl) (fun _ => ?_), fun c2 => st 1 (Or.inr rfl) (fun y => absurd y c) (fun _ => ?_)⟩⟩)
      · rw [k9] at c2; rw [if_neg c2]
      · rw [k9] at c2; rw [if_pos c2]
    refine jn_mk ⟨fun c => ?_, fun c => ?_⟩
    · rw [e29, e30]
      have c' : thr = 0 := e28.symm.trans c
      refine m_ans (w := 0) (by omega) (R70.keep F8 (by decide) (by decide)) ha (fun o9 f9 t9 R9 n9 y9 => ?_)
      refine go _ o9 (bP (mThr ft (actF (f (2 * i))) hm)) _ (F8'.tr (f9.mono (by decide) (by decide))) ?_ ?_ ?_ ?_ (bP01 _) R9 (t9.oth (by omega) (R7.keep F8 (by decide) (by decide))) (fun z => ⟨c', rfl, z, rfl⟩) (fun z _ => z)
      · rw [f9.2.1 29 (by decide), F8.2.1 29 (by decide)]; exact e29
      · rw [f9.2.1 30 (by decide), F8.2.1 30 (by decide)]; exact e30
      · rw [f9.2.1 32 (by decide)]; exact (pk_us : upd o7.2.1 32 AD.1 32 = AD.1)
      · by_cases q : bP (mThr ft (actF (f (2 * i))) hm) = 0
        · rw [n9 q, q, F8.2.1 28 (by decide)]; exact c
        · rw [y9 q, bP_t (bP_1 q)]
    · have c' : ¬ thr = 0 := fun z => c (e28.trans z)
      refine go 0 _ thr hm F8' ?_ ?_ (pk_us : upd o7.2.1 32 AD.1 32 = AD.1) ?_ ht (R70.keep F8 (by decide) (by decide)) (R7.keep F8 (by decide) (by decide)) (fun z => absurd z c') (fun _ z => absurd z c')
      · rw [F8.2.1 29 (by decide)]; exact e29
      · rw [F8.2.1 30 (by decide)]; exact e30
      · rw [F8.2.1 28 (by decide)]; exact e28
end
