/-! WHAT A CHECK SAYS, in the class -/
theorem k_aF {c : Ob} {Post : Int32 → Ob → Prop} (h1 : (c.2.1 0 = 8 ∨ c.2.1 0 = 9 ∨ c.2.1 0 = 10) → Post 1 c) (h0 : ¬ (c.2.1 0 = 8 ∨ c.2.1 0 = 9 ∨ c.2.1 0 = 10) → Post 0 c) : w_X0_asksFirst c Post := kf rfl h1 h0
theorem k_aS {c : Ob} {Post : Int32 → Ob → Prop} (h1 : (c.2.1 0 = 8 ∨ c.2.1 0 = 9) → Post 1 c) (h0 : ¬ (c.2.1 0 = 8 ∨ c.2.1 0 = 9) → Post 0 c) : w_X0_asksSecond c Post := ks rfl h1 h0
/-- the marks at p and behind tell what is asked -/
def Clo (ck : Nat → Ob) (g : Nat → Int32) (c : Nat) (p : Nat) : Prop := p ≤ c → ¬ g p = 0 → ((ck p).2.1 0 = 8 ∨ (ck p).2.1 0 = 9 ∨ (ck p).2.1 0 = 10 → ¬ g ((ck p).2.1 1).toNatClampNeg = 0) ∧ ((ck p).2.1 0 = 8 ∨ (ck p).2.1 0 = 9 → ¬ g ((ck p).2.1 2).toNatClampNeg = 0)
theorem c_mk1 {ck : Nat → Ob} {c : Nat} {K Post : Ob → Prop} (hc : c < 40) : ∀ (d i : Nat) (j : Ob), i + d = c → (∀ j2, Fm [] [3] j j2 → K j2) → w_X1_markWanted_L2 ck (nI c) K Post (d + 1) (nI i) j := by
  intro d
  induction d with
  | zero =>
    intro i j e k
    exact ⟨fun _ => k j Fm.rf, fun z => absurd (by rw [show i = c by omega]; exact Int32.le_refl _) z⟩
  | succ d ih =>
    intro i j e k
    refine ⟨fun z => ?_, fun _ => ⟨vp_in_nI (by omega) (by omega), ?_⟩⟩
    · rw [nI_leI (by omega) (by omega)] at z; omega
    · rw [nI_1]
      exact ih (i + 1) _ (by omega) (fun j2 h => k j2 ((Fm.a (fun k hk => sa_un (S := [3]) (by decide) hk)).tr h))
theorem nI_neg1 : nI 0 + (-1) < 0 := by decide
theorem c_mk2 {ck : Nat → Ob} {c nc : Nat} {Post : Ob → Prop} (w : ∀ i, i < nc → CkWF (ck i) i) (hn : nc ≤ 40) (hc : c < nc) : ∀ (i : Nat) (j : Ob), i ≤ c → j.2.1 1 = nI nc → ¬ j.2.2 3 c = 0 → (∀ p, i < p → Clo ck (j.2.2 3) c p) → (∀ j2, Fm [] [3] j j2 → ¬ j2.2.2 3 c = 0 → (∀ p, Clo ck (j2.2.2 3) c p) → Post j2) → w_X1_markWanted_L29 ck Post (i + 2) (nI i) j := by
  intro i
  induction i with
  | zero =>
    intro j hi h1 hm hcl k
    have W := w 0 (by omega)
    obtain ⟨-, w8, w10, -⟩ := W
    have n8 : ¬ ((ck 0).2.1 0 = 8 ∨ (ck 0).2.1 0 = 9 ∨ (ck 0).2.1 0 = 10) := by
      rintro (z | z | z)
      · obtain ⟨⟨a, ha, -⟩, -⟩ := w8 (Or.inl z); omega
      · obtain ⟨⟨a, ha, -⟩, -⟩ := w8 (Or.inr z); omega
      · obtain ⟨a, ha, -⟩ := w10 z; omega
    have n9 : ¬ ((ck 0).2.1 0 = 8 ∨ (ck 0).2.1 0 = 9) := fun z => n8 (z.elim Or.inl (fun y => Or.inr (Or.inl y)))
    have fin : w_X1_markWanted_L29 ck Post 1 (nI 0 + -1) j := by
      refine ⟨fun _ => k j Fm.rf hm (fun p => ?_), fun z => absurd nI_neg1 z⟩
      rcases Nat.eq_zero_or_pos p with rfl | hp
      · exact fun _ _ => ⟨fun z => absurd z n8, fun z => absurd z n9⟩
      · exact hcl p hp
    refine ⟨fun z => absurd z (nI_pos (by omega)), fun _ => ⟨vp_in_nI (by omega) (by omega), ?_⟩⟩
    rw [nI_clamp (by omega), h1, nI_clamp (by omega)]
    refine ⟨fun _ => ⟨vp_in_nI (by omega) (by omega), jn_mk ⟨fun _ => fin, fun _ => ⟨by omega, k_aF (fun z => absurd z n8) (fun _ => ⟨rfl, jn_mk ⟨fun _ => ⟨?_, k_aS (fun z => absurd z n9) (fun _ => ⟨rfl, fun _ => fin, fun z => absurd rfl z⟩)⟩, fun z => absurd rfl z⟩⟩)⟩⟩⟩, fun z => absurd (by omega) z⟩
    rw [h1, nI_clamp (by omega)]; omega
  | succ i ih =>
    intro j hi h1 hm hcl k
    have W := w (i + 1) (by omega)
    obtain ⟨-, w8, w10, -⟩ := W
    have go : ∀ j2, Fm [] [3] j j2 → (∀ q, ¬ j.2.2 3 q = 0 → ¬ j2.2.2 3 q = 0) → (∀ q, i < q → j2.2.2 3 q = j.2.2 3 q ∨ q ≤ i) → Clo ck (j2.2.2 3) c (i + 1) → w_X1_markWanted_L29 ck Post (i + 2) (nI (i + 1) + -1) j2 := by
      intro j2 f2 mono hsame hcl2
      rw [pk_m1]
      refine ih j2 (by omega) ((f2.2.1 1 (by decide)).trans h1) (mono c hm) (fun p hp => ?_) (fun j3 f3 => k j3 (f2.tr f3))
      rcases Nat.lt_or_ge (i + 1) p with q | q
      · intro hpc hp0
        have e := (hsame p hp).resolve_right (by omega)
        have := hcl p q hpc (by rw [← e]; exact hp0)
        exact ⟨fun z => mono _ (this.1 z), fun z => mono _ (this.2 z)⟩
      · rw [show p = i + 1 by omega]; exact hcl2
    refine ⟨fun z => absurd z (nI_pos (by omega)), fun _ => ⟨vp_in_nI (by omega) (by omega), ?_⟩⟩
    have hlt : i + 1 < nc := by omega
    rw [nI_clamp (by omega), h1, nI_clamp (by omega)]
    refine ⟨fun _ => ⟨vp_in_nI (by omega) (by omega), jn_mk ⟨fun c0 => go j Fm.rf (fun _ z => z) (fun _ _ => Or.inl rfl) (fun _ z => absurd c0 z), fun c0 => ⟨hlt, ?_⟩⟩⟩, fun z => absurd hlt z⟩
    have lt2 : ∀ {j2 : Ob}, Fm [] [3] j j2 → i + 1 < (j2.2.1 1).toNatClampNeg := fun f2 => by rw [f2.2.1 1 (by decide), h1, nI_clamp (by omega)]; exact hlt
    -- the second one asked
    have sec : ∀ j2, Fm [] [3] j j2 → (∀ q, ¬ j.2.2 3 q = 0 → ¬ j2.2.2 3 q = 0) → (∀ q, i < q → j2.2.2 3 q = j.2.2 3 q ∨ q ≤ i) → ((ck (i + 1)).2.1 0 = 8 ∨ (ck (i + 1)).2.1 0 = 9 ∨ (ck (i + 1)).2.1 0 = 10 → ¬ j2.2.2 3 ((ck (i + 1)).2.1 1).toNatClampNeg = 0) → w_X0_asksSecond (ck (i + 1)) (fun (r21 : Int32) (o24 : Ob) => o24 = ck (i + 1) ∧ (((r21 = 0) → w_X1_markWanted_L29 ck Post (i + 2) (nI (i + 1) + -1) j2) ∧ (¬ (r21 = 0) → (i + 1) < (j2.2.1 1).toNatClampNeg ∧ (w_X1_knows  ((ck (i + 1)).2.1 2) j2 (fun (r27 : Int32) (j_28 : Ob) => (j_28.2.1 1 = j2.2.1 1) ∧ (((r27 = 0) → w_X1_markWanted_L29 ck Post (i + 2) (nI (i + 1) + -1) j_28) ∧ (¬ (r27 = 0) → (i + 1) < (j_28.2.1 1).toNatClampNeg ∧ (vp_in ((ck (i + 1)).2.1 2) 40 ∧ (w_X1_markWanted_L29 ck Post (i + 2) (nI (i + 1) + -1) ((j_28.1, j_28.2.1, (sa j_28.2.2 3 (upd (j_28.2.2 3) ((ck (i + 1)).2.1 2).toNatClampNeg (1 : Int32)))))))))))))) := by
      intro j2 f2 mono hsame hfirst
      refine k_aS (fun z => ⟨rfl, fun y => absurd y (by decide), fun _ => ⟨lt2 f2, ?_⟩⟩) (fun z => ⟨rfl, fun _ => go j2 f2 mono hsame (fun _ _ => ⟨hfirst, fun y => absurd y z⟩), fun y => absurd rfl y⟩)
      obtain ⟨-, b, hb, eb⟩ := w8 z
      refine k_knows_y ((f2.2.1 1 (by decide)).trans h1) hn (show b < nc by omega) eb ⟨rfl, fun y => absurd y (by decide), fun _ => ⟨lt2 f2, ?_⟩⟩
      have F3 : Fm [] [3] j2 (j2.1, j2.2.1, sa j2.2.2 3 (upd (j2.2.2 3) ((ck (i + 1)).2.1 2).toNatClampNeg (1 : Int32))) := Fm.a (fun k hk => sa_un (S := [3]) (by decide) hk)
      have m3 : ∀ q, ¬ j2.2.2 3 q = 0 → ¬ sa j2.2.2 3 (upd (j2.2.2 3) ((ck (i + 1)).2.1 2).toNatClampNeg (1 : Int32)) 3 q = 0 := by
        intro q hq
        rw [sa_us]
        by_cases e : q = ((ck (i + 1)).2.1 2).toNatClampNeg
        · rw [e, pk_us]; decide
        · rw [pk_un e]; exact hq
      refine ⟨by rw [eb]; exact vp_in_nI (by omega) (by omega), go _ (f2.tr F3) (fun q hq => m3 q (mono q hq)) (fun q hq => ?_) (fun _ _ => ⟨fun y => m3 _ (hfirst y), fun _ => ?_⟩)⟩
      · rcases Nat.lt_or_ge i q with q1 | q1
        · refine Or.inl ?_
          show sa j2.2.2 3 (upd (j2.2.2 3) ((ck (i + 1)).2.1 2).toNatClampNeg (1 : Int32)) 3 q = _
          rw [sa_us, eb, nI_clamp (by omega), pk_un (by omega)]
          exact (hsame q hq).resolve_right (by omega)
        · exact Or.inr q1
      · show ¬ sa j2.2.2 3 (upd (j2.2.2 3) ((ck (i + 1)).2.1 2).toNatClampNeg (1 : Int32)) 3 ((ck (i + 1)).2.1 2).toNatClampNeg = 0
        rw [sa_us, pk_us]; decide
    refine k_aF (fun z => ⟨rfl, jn_mk ⟨fun y => absurd y (by decide), fun _ => ⟨hlt, ?_⟩⟩⟩) (fun z => ⟨rfl, jn_mk ⟨fun _ => ⟨lt2 Fm.rf, sec j Fm.rf (fun _ y => y) (fun _ _ => Or.inl rfl) (fun y => absurd y z)⟩, fun y => absurd rfl y⟩⟩)
    have hA : ∃ a : Nat, a < i + 1 ∧ (ck (i + 1)).2.1 1 = nI a := by
      rcases z with z | z | z
      · exact (w8 (Or.inl z)).1
      · exact (w8 (Or.inr z)).1
      · exact w10 z
    obtain ⟨a, ha, ea⟩ := hA
    refine k_knows_y h1 hn (show a < nc by omega) ea ⟨h1, fun y => absurd y (by decide), fun _ => ⟨lt2 Fm.rf, by rw [ea]; exact vp_in_nI (by omega) (by omega), ?_⟩⟩
    have F3 : Fm [] [3] j (j.1, j.2.1, sa j.2.2 3 (upd (j.2.2 3) ((ck (i + 1)).2.1 1).toNatClampNeg (1 : Int32))) := Fm.a (fun k hk => sa_un (S := [3]) (by decide) hk)
    refine ⟨lt2 F3, sec _ F3 (fun q hq => ?_) (fun q hq => ?_) (fun _ => ?_)⟩
    · show ¬ sa j.2.2 3 (upd (j.2.2 3) ((ck (i + 1)).2.1 1).toNatClampNeg (1 : Int32)) 3 q = 0
      rw [sa_us]
      by_cases e : q = ((ck (i + 1)).2.1 1).toNatClampNeg
      · rw [e, pk_us]; decide
      · rw [pk_un e]; exact hq
    · rcases Nat.lt_or_ge i q with q1 | q1
      · refine Or.inl ?_
        show sa j.2.2 3 (upd (j.2.2 3) ((ck (i + 1)).2.1 1).toNatClampNeg (1 : Int32)) 3 q = _
        rw [sa_us, ea, nI_clamp (by omega), pk_un (by omega)]
      · exact Or.inr q1
    · show ¬ sa j.2.2 3 (upd (j.2.2 3) ((ck (i + 1)).2.1 1).toNatClampNeg (1 : Int32)) 3 ((ck (i + 1)).2.1 1).toNatClampNeg = 0
      rw [sa_us, pk_us]; decide
theorem c_mark {ck : Nat → Ob} {c nc : Nat} {j : Ob} {Post : Ob → Prop} (w : ∀ i, i < nc → CkWF (ck i) i) (hn : nc ≤ 40) (hc : c < nc) (h1 : j.2.1 1 = nI nc) (k : ∀ j2, Fm [] [3] j j2 → ¬ j2.2.2 3 c = 0 → (∀ p, Clo ck (j2.2.2 3) c p) → Post j2) : w_X1_markWanted ck (nI c) j Post := by
  refine ⟨c + 1, c_mk1 (by omega) c 0 j (by omega) (fun j2 f2 => ⟨vp_in_nI (by omega) (by omega), c + 2, ?_⟩)⟩
  have F3 : Fm [] [3] j2 (j2.1, j2.2.1, sa j2.2.2 3 (upd (j2.2.2 3) (nI c).toNatClampNeg (1 : Int32))) := Fm.a (fun k hk => sa_un (S := [3]) (by decide) hk)
  refine c_mk2 w hn hc c _ (Nat.le_refl _) (((f2.tr F3).2.1 1 (by decide)).trans h1) ?_ (fun p hp hpc => by omega) (fun j4 f4 => k j4 ((f2.tr F3).tr f4))
  show ¬ sa j2.2.2 3 (upd (j2.2.2 3) (nI c).toNatClampNeg (1 : Int32)) 3 c = 0
  rw [sa_us, nI_clamp (by omega), pk_us]; decide
