/-! WHAT A CHECK SAYS, in the class: the loop over the checks that are wanted -/
theorem c_comb {ck : Nat → Ob} {i nc n : Nat} {f : Nat → Int32} {j : Ob} {Post : Int32 → Ob → Prop} (w : ∀ i, i < nc → CkWF (ck i) i) (hi : i < nc) (hn : nc ≤ 40) (h1 : j.2.1 1 = nI nc) (k8 : (ck i).2.1 0 = 8 ∨ (ck i).2.1 0 = 9 ∨ (ck i).2.1 0 = 10) (ha : ∀ a : Nat, a < i → (ck i).2.1 1 = nI a → j.2.2 4 a = vF ck n f a) (hb : ((ck i).2.1 0 = 8 ∨ (ck i).2.1 0 = 9) → ∀ b : Nat, b < i → (ck i).2.1 2 = nI b → j.2.2 4 b = vF ck n f b) (k : Post (vF ck n f i) j) : w_X1_combined ck i j Post := by
  have W := w i hi
  rw [vF_eq W (by omega)] at k
  obtain ⟨-, w8, w10, -⟩ := W
  have lt : i < (j.2.1 1).toNatClampNeg := by rw [h1, nI_clamp (by omega)]; exact hi
  have hA : ∃ a : Nat, a < i ∧ (ck i).2.1 1 = nI a := by
    rcases k8 with z | z | z
    · exact (w8 (Or.inl z)).1
    · exact (w8 (Or.inr z)).1
    · exact w10 z
  obtain ⟨a, hal, ea⟩ := hA
  have va := ha a hal ea
  have vs := vF_VS (f := f) (n := n) w hn a (by omega)
  have ea2 : (nI a).toNatClampNeg = a := nI_clamp (by omega)
  refine ⟨lt, k_knows_y h1 hn (show a < nc by omega) ea ⟨rfl, jn_mk ⟨fun z => absurd z (by decide), fun _ => ⟨lt, by rw [ea]; exact vp_in_nI (by omega) (by omega), lt, ?_⟩⟩⟩⟩
  rw [ea, ea2, va]
  rcases k8 with z | z | z
  · obtain ⟨-, b, hbl, eb⟩ := w8 (Or.inl z)
    have vb := hb (Or.inl z) b hbl eb
    have eb2 : (nI b).toNatClampNeg = b := nI_clamp (by omega)
    rw [z, one_8, ea, eb, ea2, eb2] at k
    rw [z]
    refine ⟨fun _ => ⟨lt, jn_mk ⟨fun y => absurd rfl y, fun _ => ⟨fun y => ?_, fun y => ⟨lt, k_knows_y h1 hn (show b < nc by omega) eb ⟨rfl, fun y => absurd y (by decide), fun _ => ⟨lt, by rw [eb]; exact vp_in_nI (by omega) (by omega), ?_⟩⟩⟩⟩⟩⟩, fun y => absurd y (by decide)⟩
    · rw [if_neg y] at k; exact k
    · rw [if_pos y] at k; rw [eb, eb2, vb]; exact k
  · obtain ⟨-, b, hbl, eb⟩ := w8 (Or.inr z)
    have vb := hb (Or.inr z) b hbl eb
    have eb2 : (nI b).toNatClampNeg = b := nI_clamp (by omega)
    rw [z, one_9, ea, eb, ea2, eb2] at k
    rw [z]
    refine ⟨fun _ => ⟨lt, jn_mk ⟨fun _ => ⟨fun y => ?_, fun y => ⟨lt, k_knows_y h1 hn (show b < nc by omega) eb ⟨rfl, fun y => absurd y (by decide), fun _ => ⟨lt, by rw [eb]; exact vp_in_nI (by omega) (by omega), ?_⟩⟩⟩⟩, fun y => absurd y (by decide)⟩⟩, fun y => absurd y (by decide)⟩
    · rw [if_neg y] at k; exact k
    · rw [if_pos y] at k; rw [eb, eb2, vb]; exact k
  · rw [z, one_10, ea, ea2] at k
    rw [z]
    refine ⟨fun y => absurd rfl y, fun _ => ?_⟩
    rcases vs with e | e | e | e | e <;> rw [e] at k ⊢
    · exact ⟨fun y => absurd rfl y, fun _ => k⟩
    · exact ⟨fun _ => ⟨fun y => absurd rfl y, fun _ => k⟩, fun y => absurd y (by decide)⟩
    · exact ⟨fun _ => ⟨fun _ => k, fun y => absurd y (by decide)⟩, fun y => absurd y (by decide)⟩
    · exact ⟨fun _ => ⟨fun _ => k, fun y => absurd y (by decide)⟩, fun y => absurd y (by decide)⟩
    · exact ⟨fun _ => ⟨fun _ => k, fun y => absurd y (by decide)⟩, fun y => absurd y (by decide)⟩
theorem c_tr {P C : Prop} {j mc md lv : Ob} {F : Int32 → Ob → Ob → Ob → Ob → Prop} (hC : C ↔ ¬ P) (k : F (bP P) j mc md lv) : jn (fun J : Int32 → Ob → Ob → Ob → Ob → Prop => (C → J 0 j mc md lv) ∧ (¬ C → J 1 j mc md lv)) F := by
  by_cases p : P
  · rw [bP_t p] at k
    exact ⟨fun c => absurd p (hC.mp c), fun _ => k⟩
  · rw [bP_f p] at k
    exact ⟨fun _ => k, fun c => absurd (hC.mpr p) c⟩
theorem bP_1iff {P : Prop} : P ↔ P := Iff.rfl
theorem c_verL {ck : Nat → Ob} {c nc n : Nat} {f : Nat → Int32} {lv : Ob} {Post : Int32 → Ob → Ob → Ob → Ob → Prop} (w : ∀ i, i < nc → CkWF (ck i) i) (hn : nc ≤ 40) (hc : c < nc) (L : LvF lv n f) : ∀ (d i : Nat) (j mc md : Ob), i + d = c + 1 → j.2.1 1 = nI nc → (∀ p, Clo ck (j.2.2 3) c p) → ¬ j.2.2 3 c = 0 → (∀ p, p < i → p ≤ c → ¬ j.2.2 3 p = 0 → j.2.2 4 p = vF ck n f p) → (∀ j2 mc2 md2, Fm [] [4] j j2 → Post (vF ck n f c) j2 mc2 md2 lv) → w_X1_verdict_L17 ck (nI c) Post (d + 1) (nI i) j mc md lv := by
  intro d
  induction d with
  | zero =>
    intro i j mc md e h1 hcl hm hv k
    refine ⟨fun _ => ⟨vp_in_nI (by omega) (by omega), ?_⟩, fun z => absurd ?_ z⟩
    · rw [nI_clamp (by omega), hv c (by omega) (Nat.le_refl _) hm]; exact k j mc md Fm.rf
    · rw [nI_ltI (by omega) (by omega)]; omega
  | succ d ih =>
    intro i j mc md e h1 hcl hm hv k
    have hvi : vp_in (nI i) 40 := vp_in_nI (by omega) (by omega)
    have ei : (nI i).toNatClampNeg = i := nI_clamp (by omega)
    have lt : i < (j.2.1 1).toNatClampNeg := by rw [h1, nI_clamp (by omega)]; omega
    have fin : ∀ (x : Int32) (mc2 md2 : Ob), x = vF ck n f i → w_X1_verdict_L17 ck (nI c) Post (d + 1) (nI i + 1) (j.1, j.2.1, sa j.2.2 4 (upd (j.2.2 4) (nI i).toNatClampNeg x)) mc2 md2 lv := by
      intro x mc2 md2 hx
      have F : Fm [] [4] j (j.1, j.2.1, sa j.2.2 4 (upd (j.2.2 4) (nI i).toNatClampNeg x)) := Fm.a (fun k hk => sa_un (S := [4]) (by decide) hk)
      rw [nI_1]
      refine ih (i + 1) _ mc2 md2 (by omega) h1 ?_ ?_ (fun p hp hpc hp0 => ?_) (fun j2 m2 d2 f2 => k j2 m2 d2 (F.tr f2))
      · rw [F.2.2 3 (by decide)]; exact hcl
      · rw [F.2.2 3 (by decide)]; exact hm
      · rw [F.2.2 3 (by decide)] at hp0
        show sa j.2.2 4 (upd (j.2.2 4) (nI i).toNatClampNeg x) 4 p = _
        rw [sa_us, ei]
        rcases Nat.lt_or_ge p i with q | q
        · rw [pk_un (by omega)]; exact hv p q hpc hp0
        · have : p = i := by omega
          subst this; rw [pk_us]; exact hx
    have skip : j.2.2 3 i = 0 → w_X1_verdict_L17 ck (nI c) Post (d + 1) (nI i + 1) j mc md lv := by
      intro z
      rw [nI_1]
      refine ih (i + 1) j mc md (by omega) h1 hcl hm (fun p hp hpc hp0 => ?_) k
      rcases Nat.lt_or_ge p i with q | q
      · exact hv p q hpc hp0
      · have : p = i := by omega
        subst this; exact absurd z hp0
    refine ⟨fun z => ?_, fun _ => ⟨hvi, ?_⟩⟩
    · rw [nI_ltI (by omega) (by omega)] at z; omega
    rw [ei] at fin ⊢
    refine ⟨fun _ => ⟨hvi, jn_mk ⟨skip, fun c0 => ⟨lt, lt, ?_⟩⟩⟩, fun z => absurd lt z⟩
    have W := w i (by omega)
    have kc := kd12 W
    have ev := vF_eq (n := n) (f := f) W (by omega)
    have cl := hcl i (by omega) c0
    have comb : ((ck i).2.1 0 = 8 ∨ (ck i).2.1 0 = 9 ∨ (ck i).2.1 0 = 10) → w_X1_combined ck i j (fun (r62 : Int32) (j_63 : Ob) => vp_in (nI i) 40 ∧ w_X1_verdict_L17 ck (nI c) Post (d + 1) (nI i + 1) (j_63.1, j_63.2.1, sa j_63.2.2 4 (upd (j_63.2.2 4) i r62)) mc md lv) := by
      intro z
      refine c_comb w (by omega) hn h1 z (fun a ha ea => ?_) (fun z2 b hb eb => ?_) ⟨hvi, fin _ mc md rfl⟩
      · have := cl.1 z
        rw [ea, nI_clamp (by omega)] at this
        exact hv a ha (by omega) this
      · have := cl.2 z2
        rw [eb, nI_clamp (by omega)] at this
        exact hv b hb (by omega) this
    obtain ⟨-, w8, w10, -⟩ := W
    generalize ekd : (ck i).2.1 0 = kd at ev kc comb ⊢
    rcases kc with rfl | rfl | rfl | rfl | rfl | rfl | rfl | rfl | rfl | rfl | rfl | rfl
    · exact ⟨fun _ => c_sum L (c_tr Int32.not_lt.symm ⟨hvi, fin _ mc md (by rw [ev, one_0])⟩), fun z => absurd z (by decide), fun z => absurd z (by decide), fun z => absurd z (by decide), fun z => absurd z (by decide), fun z => absurd z (by decide), fun z => absurd z (by decide), fun z => absurd z (by decide), fun z => absurd z (by decide), fun z => absurd rfl z.1⟩
    · exact ⟨fun z => absurd z (by decide), fun _ => c_least L (c_tr bP_iff0 ⟨hvi, fin _ mc md (by rw [ev, one_1])⟩), fun z => absurd z (by decide), fun z => absurd z (by decide), fun z => absurd z (by decide), fun z => absurd z (by decide), fun z => absurd z (by decide), fun z => absurd z (by decide), fun z => absurd z (by decide), fun z => absurd rfl z.2.1⟩
    · exact ⟨fun z => absurd z (by decide), fun z => absurd z (by decide), fun _ => (by rw [L.1]; exact c_tr Int32.not_lt.symm ⟨hvi, fin _ mc md (by rw [ev, one_2])⟩), fun z => absurd z (by decide), fun z => absurd z (by decide), fun z => absurd z (by decide), fun z => absurd z (by decide), fun z => absurd z (by decide), fun z => absurd z (by decide), fun z => absurd rfl z.2.2.1⟩
    · exact ⟨fun z => absurd z (by decide), fun z => absurd z (by decide), fun z => absurd z (by decide), fun _ => c_rise L (c_tr bP_iff0 ⟨hvi, fin _ mc md (by rw [ev, one_3])⟩), fun z => absurd z (by decide), fun z => absurd z (by decide), fun z => absurd z (by decide), fun z => absurd z (by decide), fun z => absurd z (by decide), fun z => absurd rfl z.2.2.2.1⟩
    · exact ⟨fun z => absurd z (by decide), fun z => absurd z (by decide), fun z => absurd z (by decide), fun z => absurd z (by decide), fun _ => c_diff L (c_tr bP_iff0 ⟨hvi, fin _ mc md (by rw [ev, one_4])⟩), fun z => absurd z (by decide), fun z => absurd z (by decide), fun z => absurd z (by decide), fun z => absurd z (by decide), fun z => absurd rfl z.2.2.2.2.1⟩
    · exact ⟨fun z => absurd z (by decide), fun z => absurd z (by decide), fun z => absurd z (by decide), fun z => absurd z (by decide), fun z => absurd z (by decide), fun _ => jn_mk ⟨fun y => c_sum L ⟨y, fun y2 => ⟨hvi, fin _ mc md (by rw [ev, one_5, if_neg y, bP_f y2])⟩, fun y2 => ⟨hvi, fin _ mc md (by rw [ev, one_5, if_neg y, bP_t y2])⟩⟩, fun y => ⟨hvi, fin _ mc md (by rw [ev, one_5, if_pos y])⟩⟩, fun z => absurd z (by decide), fun z => absurd z (by decide), fun z => absurd z (by decide), fun z => absurd rfl z.2.2.2.2.2.1⟩
    · exact ⟨fun z => absurd z (by decide), fun z => absurd z (by decide), fun z => absurd z (by decide), fun z => absurd z (by decide), fun z => absurd z (by decide), fun z => absurd z (by decide), fun _ => ⟨n + 1, c_quoL L n 0 (by omega) ⟨hvi, fin _ mc md (by rw [ev, one_6])⟩⟩, fun z => absurd z (by decide), fun z => absurd z (by decide), fun z => absurd rfl z.2.2.2.2.2.2.1⟩
    · exact ⟨fun z => absurd z (by decide), fun z => absurd z (by decide), fun z => absurd z (by decide), fun z => absurd z (by decide), fun z => absurd z (by decide), fun z => absurd z (by decide), fun z => absurd z (by decide), fun _ => ⟨n + 1, c_plaL L n 0 (by omega) ⟨hvi, fin _ mc md (by rw [ev, one_7])⟩⟩, fun z => absurd z (by decide), fun z => absurd rfl z.2.2.2.2.2.2.2.1⟩
    · exact ⟨fun z => absurd z (by decide), fun z => absurd z (by decide), fun z => absurd z (by decide), fun z => absurd z (by decide), fun z => absurd z (by decide), fun z => absurd z (by decide), fun z => absurd z (by decide), fun z => absurd z (by decide), fun z => absurd z (by decide), fun _ => comb (Or.inl rfl)⟩
    · exact ⟨fun z => absurd z (by decide), fun z => absurd z (by decide), fun z => absurd z (by decide), fun z => absurd z (by decide), fun z => absurd z (by decide), fun z => absurd z (by decide), fun z => absurd z (by decide), fun z => absurd z (by decide), fun z => absurd z (by decide), fun _ => comb (Or.inr (Or.inl rfl))⟩
    · exact ⟨fun z => absurd z (by decide), fun z => absurd z (by decide), fun z => absurd z (by decide), fun z => absurd z (by decide), fun z => absurd z (by decide), fun z => absurd z (by decide), fun z => absurd z (by decide), fun z => absurd z (by decide), fun z => absurd z (by decide), fun _ => comb (Or.inr (Or.inr rfl))⟩
    · exact ⟨fun z => absurd z (by decide), fun z => absurd z (by decide), fun z => absurd z (by decide), fun z => absurd z (by decide), fun z => absurd z (by decide), fun z => absurd z (by decide), fun z => absurd z (by decide), fun z => absurd z (by decide), fun _ => ⟨lt, c_gw L (fun mc2 md2 => ⟨rfl, hvi, fin _ mc2 md2 (by rw [ev, one_11])⟩)⟩, fun z => absurd rfl z.2.2.2.2.2.2.2.2⟩
theorem c_verdict {ck : Nat → Ob} {c nc n : Nat} {f : Nat → Int32} {j mc md lv : Ob} {Post : Int32 → Ob → Ob → Ob → Ob → Prop} (w : ∀ i, i < nc → CkWF (ck i) i) (hn : nc ≤ 40) (hc : c < nc) (h1 : j.2.1 1 = nI nc) (L : LvF lv n f) (k : ∀ j2 mc2 md2, Fm [] [3, 4] j j2 → Post (vF ck n f c) j2 mc2 md2 lv) : w_X1_verdict ck (nI c) j mc md lv Post := by
  refine k_knows_y h1 hn hc rfl ⟨rfl, fun _ => c_mark w hn hc h1 (fun j2 f2 hm hcl => ⟨c + 2, c_verL w hn hc L (c + 1) 0 j2 mc md (by omega) ((f2.2.1 1 (by decide)).trans h1) hcl hm (fun p hp => absurd hp (Nat.not_lt_zero p)) (fun j3 mc3 md3 f3 => k j3 mc3 md3 ((f2.mono (by decide) (by decide)).tr (f3.mono (by decide) (by decide))))⟩), fun z => absurd z (by decide)⟩
