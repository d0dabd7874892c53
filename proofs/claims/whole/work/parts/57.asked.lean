/-! WHAT A CHECK SAYS, in the reference -/
theorem one_0 {a b : Int32} {n : Nat} {f g : Nat → Int32} : one 0 a b n f g = bP (sumA f n 0 0 < a) := by
  unfold one
  rw [if_pos rfl]
theorem one_1 {a b : Int32} {n : Nat} {f g : Nat → Int32} : one 1 a b n f g = bP (LeastP f n a) := by
  unfold one
  rw [if_neg (by decide), if_pos rfl]
theorem one_2 {a b : Int32} {n : Nat} {f g : Nat → Int32} : one 2 a b n f g = bP (nI n < a) := by
  unfold one
  rw [if_neg (by decide), if_neg (by decide), if_pos rfl]
theorem one_3 {a b : Int32} {n : Nat} {f g : Nat → Int32} : one 3 a b n f g = bP (RiseP f n) := by
  unfold one
  rw [if_neg (by decide), if_neg (by decide), if_neg (by decide), if_pos rfl]
theorem one_4 {a b : Int32} {n : Nat} {f g : Nat → Int32} : one 4 a b n f g = bP (DiffP f n) := by
  unfold one
  rw [if_neg (by decide), if_neg (by decide), if_neg (by decide), if_neg (by decide), if_pos rfl]
theorem one_5 {a b : Int32} {n : Nat} {f g : Nat → Int32} : one 5 a b n f g = if a = 0 then -1 else bP (sumA f n 0 0 - sumA f n 0 0 / a * a = 0) := by
  unfold one
  rw [if_neg (by decide), if_neg (by decide), if_neg (by decide), if_neg (by decide), if_neg (by decide), if_pos rfl]
theorem one_6 {a b : Int32} {n : Nat} {f g : Nat → Int32} : one 6 a b n f g = quoA a f n 0 := by
  unfold one
  rw [if_neg (by decide), if_neg (by decide), if_neg (by decide), if_neg (by decide), if_neg (by decide), if_neg (by decide), if_pos rfl]
theorem one_7 {a b : Int32} {n : Nat} {f g : Nat → Int32} : one 7 a b n f g = plaA a n f n 0 := by
  unfold one
  rw [if_neg (by decide), if_neg (by decide), if_neg (by decide), if_neg (by decide), if_neg (by decide), if_neg (by decide), if_neg (by decide), if_pos rfl]
theorem one_11 {a b : Int32} {n : Nat} {f g : Nat → Int32} : one 11 a b n f g = gwA a b f (n / 2) 0 [] [] := by
  unfold one
  rw [if_neg (by decide), if_neg (by decide), if_neg (by decide), if_neg (by decide), if_neg (by decide), if_neg (by decide), if_neg (by decide), if_neg (by decide), if_neg (by decide), if_neg (by decide), if_neg (by decide)]
theorem bP_iff0 {P : Prop} : bP P = 0 ↔ ¬ P := ⟨bP_0, bP_f⟩
theorem mV_b {P : Prop} : mV (bP P) = bP P := by
  rcases bP01 P with z | z <;> rw [z] <;> rfl
theorem m_tr {P C : Prop} {o : Ob} {Post : Int32 → Ob → Prop} (hC : C ↔ ¬ P) (k : Post (bP P) o) : jn (fun J : Int32 → Ob → Prop => (C → J 0 o) ∧ (¬ C → J 1 o)) (fun z o' => w_X10_truth z (fun r => Post r o')) := by
  by_cases p : P
  · rw [bP_t p] at k
    exact ⟨fun c => absurd p (hC.mp c), fun _ => ⟨fun z => absurd z (by decide), fun _ => k⟩⟩
  · rw [bP_f p] at k
    exact ⟨fun _ => ⟨fun _ => k, fun z => absurd rfl z⟩, fun c => absurd (hC.mpr p) c⟩
theorem m_tr5 {P : Prop} {o : Ob} {Post : Int32 → Ob → Prop} (k : Post (bP P) o) : jn (fun J : Int32 → Ob → Prop => (¬ P → J 0 o) ∧ (P → J 1 o)) (fun z o' => w_X10_truth z (fun r => Post r o')) := by
  by_cases p : P
  · rw [bP_t p] at k
    exact ⟨fun c => absurd p c, fun _ => ⟨fun z => absurd z (by decide), fun _ => k⟩⟩
  · rw [bP_f p] at k
    exact ⟨fun _ => ⟨fun _ => k, fun z => absurd rfl z⟩, fun c => absurd c p⟩
theorem kd12 {c : Ob} {i : Nat} (w : CkWF c i) : c.2.1 0 = 0 ∨ c.2.1 0 = 1 ∨ c.2.1 0 = 2 ∨ c.2.1 0 = 3 ∨ c.2.1 0 = 4 ∨ c.2.1 0 = 5 ∨ c.2.1 0 = 6 ∨ c.2.1 0 = 7 ∨ c.2.1 0 = 8 ∨ c.2.1 0 = 9 ∨ c.2.1 0 = 10 ∨ c.2.1 0 = 11 := by
  obtain ⟨⟨k, hk, ek⟩, -⟩ := w
  rw [ek]
  rcases (show k = 0 ∨ k = 1 ∨ k = 2 ∨ k = 3 ∨ k = 4 ∨ k = 5 ∨ k = 6 ∨ k = 7 ∨ k = 8 ∨ k = 9 ∨ k = 10 ∨ k = 11 by omega) with rfl | rfl | rfl | rfl | rfl | rfl | rfl | rfl | rfl | rfl | rfl | rfl <;> decide
theorem m_asked {ck : Nat → Ob} {i n : Nat} {f : Nat → Int32} {o : Ob} {Post : Int32 → Ob → Prop} (w : CkWF (ck i) i) (hi : i < 40) (T : (ck i).2.1 0 = o.2.2 22 i ∧ (ck i).2.1 1 = o.2.2 23 i ∧ (ck i).2.1 2 = o.2.2 24 i) (L : LvG o n f) (hg : ∀ j, j < i → o.2.2 25 j = mV (vF ck n f j) ∧ VS (vF ck n f j)) (k : ∀ o2, Fm runS [26, 27] o o2 → Post (mV (vF ck n f i)) o2) : w_X10_asked (nI i) o Post := by
  rw [vF_eq w (by omega)] at k
  unfold w_X10_asked
  rw [nI_clamp (by omega), ← T.1, ← T.2.1, ← T.2.2]
  have hv : vp_in (nI i) 40 := vp_in_nI hi (by omega)
  refine ⟨hv, hv, hv, ?_⟩
  have kc := kd12 w
  obtain ⟨-, w8, w10, -⟩ := w
  generalize (ck i).2.1 0 = kd at k w8 w10 kc ⊢
  generalize (ck i).2.1 1 = A at k w8 w10 ⊢
  generalize (ck i).2.1 2 = B at k w8 w10 ⊢
  have b8 : ∀ a b : Nat, a < i → b < i → A = nI a → B = nI b → (True → Post (mV (if vF ck n f a = 1 then vF ck n f b else vF ck n f a)) o) → vp_in A 40 ∧ (((¬ ((o.2.2 25) A.toNatClampNeg) = 1) → vp_in A 40 ∧ (Post ((o.2.2 25) A.toNatClampNeg) o)) ∧ ((((o.2.2 25) A.toNatClampNeg) = 1) → vp_in B 40 ∧ (Post ((o.2.2 25) B.toNatClampNeg) o))) := by
    intro a b ha hb ea eb h
    have h := h trivial
    rw [ea, eb, nI_clamp (by omega), nI_clamp (by omega), (hg a ha).1, (hg b hb).1]
    refine ⟨vp_in_nI (by omega) (by omega), fun c => ⟨vp_in_nI (by omega) (by omega), ?_⟩, fun c => ⟨vp_in_nI (by omega) (by omega), ?_⟩⟩
    · rw [if_neg (fun z => c (by rw [z]; rfl))] at h; exact h
    · rcases (hg a ha).2 with z | z | z | z | z <;> rw [z] at c h <;> first | exact h | exact absurd c (by decide)
  have b9 : ∀ a b : Nat, a < i → b < i → A = nI a → B = nI b → (True → Post (mV (if vF ck n f a = 0 then vF ck n f b else vF ck n f a)) o) → vp_in A 40 ∧ (((¬ ((o.2.2 25) A.toNatClampNeg) = 0) → vp_in A 40 ∧ (Post ((o.2.2 25) A.toNatClampNeg) o)) ∧ ((((o.2.2 25) A.toNatClampNeg) = 0) → vp_in B 40 ∧ (Post ((o.2.2 25) B.toNatClampNeg) o))) := by
    intro a b ha hb ea eb h
    have h := h trivial
    rw [ea, eb, nI_clamp (by omega), nI_clamp (by omega), (hg a ha).1, (hg b hb).1]
    refine ⟨vp_in_nI (by omega) (by omega), fun c => ⟨vp_in_nI (by omega) (by omega), ?_⟩, fun c => ⟨vp_in_nI (by omega) (by omega), ?_⟩⟩
    · rw [if_neg (fun z => c (by rw [z]; rfl))] at h; exact h
    · rcases (hg a ha).2 with z | z | z | z | z <;> rw [z] at c h <;> first | exact h | exact absurd c (by decide)
  have b10 : ∀ a : Nat, a < i → A = nI a → (True → Post (mV (if vF ck n f a < 0 then vF ck n f a else 1 - vF ck n f a)) o) → vp_in A 40 ∧ (((0 ≤ ((o.2.2 25) A.toNatClampNeg)) → vp_in A 40 ∧ (Post (1 - ((o.2.2 25) A.toNatClampNeg)) o)) ∧ (¬ (0 ≤ ((o.2.2 25) A.toNatClampNeg)) → vp_in A 40 ∧ (Post ((o.2.2 25) A.toNatClampNeg) o))) := by
    intro a ha ea h
    have h := h trivial
    rw [ea, nI_clamp (by omega), (hg a ha).1]
    refine ⟨vp_in_nI (by omega) (by omega), fun c => ⟨vp_in_nI (by omega) (by omega), ?_⟩, fun c => ⟨vp_in_nI (by omega) (by omega), ?_⟩⟩
    · rcases (hg a ha).2 with z | z | z | z | z <;> rw [z] at c h ⊢ <;> first | exact h | exact absurd c (by decide)
    · rcases (hg a ha).2 with z | z | z | z | z <;> rw [z] at c h ⊢ <;> first | exact h | exact absurd (by decide) c
  rcases kc with rfl | rfl | rfl | rfl | rfl | rfl | rfl | rfl | rfl | rfl | rfl | rfl
  · exact ⟨fun _ => m_sum L (m_tr Int32.not_lt.symm (by rw [one_0, mV_b] at k; exact k o Fm.rf)), fun z => absurd z (by decide), fun z => absurd z (by decide), fun z => absurd z (by decide), fun z => absurd z (by decide), fun z => absurd z (by decide), fun z => absurd z (by decide), fun z => absurd z (by decide), fun z => absurd z (by decide), fun z => absurd z (by decide), fun z => absurd z (by decide), fun z => absurd rfl z.1⟩
  · exact ⟨fun z => absurd z (by decide), fun _ => m_least L (by rw [one_1, mV_b] at k; exact k o Fm.rf), fun z => absurd z (by decide), fun z => absurd z (by decide), fun z => absurd z (by decide), fun z => absurd z (by decide), fun z => absurd z (by decide), fun z => absurd z (by decide), fun z => absurd z (by decide), fun z => absurd z (by decide), fun z => absurd z (by decide), fun z => absurd rfl z.2.1⟩
  · exact ⟨fun z => absurd z (by decide), fun z => absurd z (by decide), fun _ => (by rw [L.1]; exact m_tr Int32.not_lt.symm (by rw [one_2, mV_b] at k; exact k o Fm.rf)), fun z => absurd z (by decide), fun z => absurd z (by decide), fun z => absurd z (by decide), fun z => absurd z (by decide), fun z => absurd z (by decide), fun z => absurd z (by decide), fun z => absurd z (by decide), fun z => absurd z (by decide), fun z => absurd rfl z.2.2.1⟩
  · exact ⟨fun z => absurd z (by decide), fun z => absurd z (by decide), fun z => absurd z (by decide), fun _ => m_ord L (by rw [one_3, mV_b] at k; rw [bP_congr rise_iff]; exact k o Fm.rf), fun z => absurd z (by decide), fun z => absurd z (by decide), fun z => absurd z (by decide), fun z => absurd z (by decide), fun z => absurd z (by decide), fun z => absurd z (by decide), fun z => absurd z (by decide), fun z => absurd rfl z.2.2.2.1⟩
  · exact ⟨fun z => absurd z (by decide), fun z => absurd z (by decide), fun z => absurd z (by decide), fun z => absurd z (by decide), fun _ => m_ord L (by rw [one_4, mV_b] at k; rw [bP_congr diff_iff]; exact k o Fm.rf), fun z => absurd z (by decide), fun z => absurd z (by decide), fun z => absurd z (by decide), fun z => absurd z (by decide), fun z => absurd z (by decide), fun z => absurd z (by decide), fun z => absurd rfl z.2.2.2.2.1⟩
  · exact ⟨fun z => absurd z (by decide), fun z => absurd z (by decide), fun z => absurd z (by decide), fun z => absurd z (by decide), fun z => absurd z (by decide), fun _ => ⟨fun y => m_sum L ⟨y, m_tr5 (by rw [one_5, if_neg y, mV_b] at k; exact k o Fm.rf)⟩, fun y => by rw [one_5, if_pos y] at k; exact k o Fm.rf⟩, fun z => absurd z (by decide), fun z => absurd z (by decide), fun z => absurd z (by decide), fun z => absurd z (by decide), fun z => absurd z (by decide), fun z => absurd rfl z.2.2.2.2.2.1⟩
  · exact ⟨fun z => absurd z (by decide), fun z => absurd z (by decide), fun z => absurd z (by decide), fun z => absurd z (by decide), fun z => absurd z (by decide), fun z => absurd z (by decide), fun _ => ⟨n + 1, m_quoL L n 0 (by omega) (by rw [one_6] at k; exact k o Fm.rf)⟩, fun z => absurd z (by decide), fun z => absurd z (by decide), fun z => absurd z (by decide), fun z => absurd z (by decide), fun z => absurd rfl z.2.2.2.2.2.2.1⟩
  · exact ⟨fun z => absurd z (by decide), fun z => absurd z (by decide), fun z => absurd z (by decide), fun z => absurd z (by decide), fun z => absurd z (by decide), fun z => absurd z (by decide), fun z => absurd z (by decide), fun _ => ⟨n + 1, m_plaL L n 0 (by omega) (by rw [one_7] at k; exact k o Fm.rf)⟩, fun z => absurd z (by decide), fun z => absurd z (by decide), fun z => absurd z (by decide), fun z => absurd rfl z.2.2.2.2.2.2.2.1⟩
  · exact ⟨fun z => absurd z (by decide), fun z => absurd z (by decide), fun z => absurd z (by decide), fun z => absurd z (by decide), fun z => absurd z (by decide), fun z => absurd z (by decide), fun z => absurd z (by decide), fun z => absurd z (by decide), fun _ => (by obtain ⟨⟨a, ha, ea⟩, b, hb, eb⟩ := w8 (Or.inl rfl); exact b8 a b ha hb ea eb (fun x => by rw [one_8, ea, eb, nI_clamp (by omega), nI_clamp (by omega)] at k; exact k o Fm.rf)), fun z => absurd z (by decide), fun z => absurd z (by decide), fun z => absurd rfl z.2.2.2.2.2.2.2.2.1⟩
  · exact ⟨fun z => absurd z (by decide), fun z => absurd z (by decide), fun z => absurd z (by decide), fun z => absurd z (by decide), fun z => absurd z (by decide), fun z => absurd z (by decide), fun z => absurd z (by decide), fun z => absurd z (by decide), fun z => absurd z (by decide), fun _ => (by obtain ⟨⟨a, ha, ea⟩, b, hb, eb⟩ := w8 (Or.inr rfl); exact b9 a b ha hb ea eb (fun x => by rw [one_9, ea, eb, nI_clamp (by omega), nI_clamp (by omega)] at k; exact k o Fm.rf)), fun z => absurd z (by decide), fun z => absurd rfl z.2.2.2.2.2.2.2.2.2.1⟩
  · exact ⟨fun z => absurd z (by decide), fun z => absurd z (by decide), fun z => absurd z (by decide), fun z => absurd z (by decide), fun z => absurd z (by decide), fun z => absurd z (by decide), fun z => absurd z (by decide), fun z => absurd z (by decide), fun z => absurd z (by decide), fun z => absurd z (by decide), fun _ => (by obtain ⟨a, ha, ea⟩ := w10 rfl; exact b10 a ha ea (fun x => by rw [one_10, ea, nI_clamp (by omega)] at k; exact k o Fm.rf)), fun z => absurd rfl z.2.2.2.2.2.2.2.2.2.2⟩
  · exact ⟨fun z => absurd z (by decide), fun z => absurd z (by decide), fun z => absurd z (by decide), fun z => absurd z (by decide), fun z => absurd z (by decide), fun z => absurd z (by decide), fun z => absurd z (by decide), fun z => absurd z (by decide), fun z => absurd z (by decide), fun z => absurd z (by decide), fun z => absurd z (by decide), fun _ => m_machine L (by rw [one_11] at k; exact k)⟩
theorem m_resL {ck : Nat → Ob} {c n nc : Nat} {f : Nat → Int32} {Post : Int32 → Ob → Prop} (w : ∀ i, i < nc → CkWF (ck i) i) (hn : nc ≤ 40) (hc : c < nc) : ∀ (d i : Nat) (o : Ob), i + d = c + 1 → (∀ i, i < nc → (ck i).2.1 0 = o.2.2 22 i ∧ (ck i).2.1 1 = o.2.2 23 i ∧ (ck i).2.1 2 = o.2.2 24 i) → LvG o n f → (∀ j, j < i → o.2.2 25 j = mV (vF ck n f j)) → (∀ o2, Fm runS [25, 26, 27] o o2 → Post (mV (vF ck n f c)) o2) → w_X10_result_L2 (nI c) Post (d + 1) (nI i) o := by
  intro d
  induction d with
  | zero =>
    intro i o e T L hg k
    refine ⟨fun _ => ⟨vp_in_nI (by omega) (by omega), ?_⟩, fun z => absurd ?_ z⟩
    · rw [nI_clamp (by omega), hg c (by omega)]; exact k o Fm.rf
    · rw [nI_ltI (by omega) (by omega)]; omega
  | succ d ih =>
    intro i o e T L hg k
    refine ⟨fun z => ?_, fun _ => m_asked (w i (by omega)) (by omega) (T i (by omega)) L (fun j hj => ⟨hg j hj, vF_VS w hn j (by omega)⟩) (fun o4 f4 => ⟨vp_in_nI (by omega) (by omega), ?_⟩)⟩
    · rw [nI_ltI (by omega) (by omega)] at z; omega
    · have F : Fm [] [25] o4 (o4.1, o4.2.1, sa o4.2.2 25 (upd (o4.2.2 25) (nI i).toNatClampNeg (mV (vF ck n f i)))) := Fm.a (fun k hk => sa_un (S := [25]) (by decide) hk)
      have FF : Fm runS [25, 26, 27] o (o4.1, o4.2.1, sa o4.2.2 25 (upd (o4.2.2 25) (nI i).toNatClampNeg (mV (vF ck n f i)))) := (f4.mono (by decide) (by decide)).tr (F.mono (by decide) (by decide))
      rw [nI_1]
      refine ih (i + 1) _ (by omega) ?_ ((L.keep f4 (by decide) (by decide)).keep F (by decide) (by decide)) (fun j hj => ?_) (fun o2 f2 => k o2 (FF.tr f2))
      · intro q hq
        rw [FF.2.2 22 (by decide), FF.2.2 23 (by decide), FF.2.2 24 (by decide)]
        exact T q hq
      · show sa o4.2.2 25 (upd (o4.2.2 25) (nI i).toNatClampNeg (mV (vF ck n f i))) 25 j = _
        rw [sa_us, nI_clamp (by omega)]
        rcases Nat.lt_or_ge j i with q | q
        · rw [pk_un (by omega), f4.2.2 25 (by decide)]; exact hg j q
        · rw [show j = i by omega]; exact pk_us
theorem m_result {ck : Nat → Ob} {c n nc : Nat} {f : Nat → Int32} {o : Ob} {Post : Int32 → Ob → Prop} (w : ∀ i, i < nc → CkWF (ck i) i ∧ (ck i).2.1 0 = o.2.2 22 i ∧ (ck i).2.1 1 = o.2.2 23 i ∧ (ck i).2.1 2 = o.2.2 24 i) (hn : nc ≤ 40) (hc : c < nc) (L : LvG o n f) (k : ∀ o2, Fm runS [25, 26, 27] o o2 → Post (mV (vF ck n f c)) o2) : w_X10_result (nI c) o Post :=
  ⟨c + 2, m_resL (fun i hi => (w i hi).1) hn hc (c + 1) 0 o (by omega) (fun i hi => (w i hi).2) L (fun j hj => absurd hj (Nat.not_lt_zero j)) k⟩
