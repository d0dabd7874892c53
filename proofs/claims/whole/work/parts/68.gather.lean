/-! GATHERING the leaves in the class -/
theorem j_maxN {a b : Nat} (ha : a < 2 ^ 31) (hb : b < 2 ^ 31) {P : Int32 → Prop} (h : P (nI (max a b))) : w_J9_max_7cf53 (nI a) (nI b) P := by
  refine ⟨fun c => ?_, fun c => ?_⟩
  · rw [nI_ltI ha hb] at c
    rwa [show max a b = b by omega] at h
  · rw [nI_ltI ha hb] at c
    rwa [show max a b = a by omega] at h
theorem j_minN {a b : Nat} (ha : a < 2 ^ 31) (hb : b < 2 ^ 31) {P : Int32 → Prop} (h : P (nI (min a b))) : w_J9_min_7cf53 (nI a) (nI b) P := by
  refine ⟨fun c => ?_, fun c => ?_⟩
  · rw [nI_ltI hb ha] at c
    rwa [show min a b = b by omega] at h
  · rw [nI_ltI hb ha] at c
    rwa [show min a b = a by omega] at h
theorem k_leaf {x : Int32} {P : Int32 → Prop} (h1 : (x = 0 ∨ x = 8 ∨ x = 9) → P 1) (h0 : ¬ (x = 0 ∨ x = 8 ∨ x = 9) → P 0) : w_X8_isLeaf x P :=
  ⟨fun a => h1 (Or.inl a), fun a => ⟨fun b => h1 (Or.inr (Or.inl b)), fun b => ⟨fun c => h0 (fun z => z.elim a (fun y => y.elim b c)), fun c => h1 (Or.inr (Or.inr c))⟩⟩⟩
theorem k_row {x : Int32} {P : Int32 → Prop} (h1 : (x = 1 ∨ x = 2 ∨ x = 6 ∨ x = 7) → P 1) (h0 : ¬ (x = 1 ∨ x = 2 ∨ x = 6 ∨ x = 7) → P 0) : w_X8_isRow x P :=
  ⟨fun a => h1 (Or.inl a), fun a => ⟨fun b => h1 (Or.inr (Or.inl b)), fun b => ⟨fun c => h1 (Or.inr (Or.inr (Or.inl c))), fun c => ⟨fun d => h0 (fun z => z.elim a (fun y => y.elim b (fun x => x.elim c d))), fun d => h1 (Or.inr (Or.inr (Or.inr d)))⟩⟩⟩⟩
theorem nI_m1lt {n : Nat} (h : n < 1000) : nI n - 1 < nI n := by
  cases n with
  | zero => decide
  | succ n => rw [nI_pred, nI_ltI (by omega) (by omega)]; omega
theorem neg1 {x : Int32} : x + (-1) = x - 1 := (Int32.sub_eq_add_neg (a := x) (b := 1)).symm
/-- a stretch of a tree: kinds, values, ends -/
def TrS (b : Ob) (p : Nat) (C : List CN) : Prop := ∀ i c, C[i]? = some c → b.2.2 0 (p + i) = c.1 ∧ b.2.2 1 (p + i) = c.2.1 ∧ b.2.2 4 (p + i) = nI (p + enC C i)
def KvS (b : Ob) (p : Nat) (C : List CN) : Prop := ∀ i c, C[i]? = some c → b.2.2 0 (p + i) = c.1 ∧ b.2.2 1 (p + i) = c.2.1
theorem getmid {α : Type} {A : List α} {c : α} {D : List α} : (A ++ c :: D)[A.length]? = some c := by
  rw [List.getElem?_append_right (Nat.le_refl _), Nat.sub_self]; rfl
theorem rawC_1 {c : CN} : rawC [c] = if c.1 = 0 ∨ c.1 = 8 ∨ c.1 = 9 then [c.2.1] else [] := rfl
theorem lcC_1 {c : CN} : lcC [c] = (if c.1 = 0 ∨ c.1 = 8 ∨ c.1 = 9 then 1 else 0) + 0 := rfl
theorem c_g1 {f4 : Int32} {p T : Nat} {K Post : Ob → Ob → Prop} : ∀ (D A : List CN) (b lv : Ob), KvS b p (A ++ D) → T = p + (A ++ D).length → T ≤ 744 → lcC (A ++ D) ≤ 24 → lv.2.1 1 = nI (lcC A) → Seg (lv.2.2 0) 0 (rawC A) → (∀ j, j < A.length → b.2.2 5 (p + j) = nI (lcC (A.take j))) → (∀ b2 lv2, Fm [] [5] b b2 → lv2.2.1 1 = nI (lcC (A ++ D)) → Seg (lv2.2.2 0) 0 (rawC (A ++ D)) → (∀ j, j < (A ++ D).length → b2.2.2 5 (p + j) = nI (lcC ((A ++ D).take j))) → K b2 lv2) → w_X8_gather_L32 f4 (nI T) K Post (D.length + 1) (nI (p + A.length)) b lv := by
  intro D
  induction D with
  | nil =>
    intro A b lv S hT h7 hl e1 s0 h5 k
    rw [List.append_nil] at hT k
    exact ⟨fun _ => k b lv Fm.rf e1 s0 h5, fun z => absurd (show nI T ≤ nI (p + A.length) by rw [hT]; exact Int32.le_refl _) z⟩
  | cons c D ih =>
    intro A b lv S hT h7 hl e1 s0 h5 k
    have hlen : (A ++ c :: D).length = A.length + (D.length + 1) := by rw [List.length_append, List.length_cons]
    rw [hlen] at hT
    obtain ⟨s1, s2⟩ := S A.length c getmid
    have vq : vp_in (nI (p + A.length)) 744 := vp_in_nI (by omega) (by omega)
    have eq : A ++ c :: D = (A ++ [c]) ++ D := by rw [List.append_assoc]; rfl
    have hlA : lcC (A ++ [c]) ≤ 24 := by
      have := lcC_app D (A ++ [c])
      rw [← eq] at this; omega
    have hcA := lcC_app [c] A
    refine ⟨fun z => absurd z (by rw [nI_leI (by omega) (by omega)]; omega), fun _ => ⟨vq, vq, ?_⟩⟩
    rw [nI_clamp (by omega), s1, s2, e1]
    have F : Fm [] [5] b (b.1, b.2.1, sa b.2.2 5 (upd (b.2.2 5) (p + A.length) (nI (lcC A)))) := Fm.a (fun k hk => sa_un (S := [5]) (by decide) hk)
    have go : ∀ lv2 : Ob, lv2.2.1 1 = nI (lcC (A ++ [c])) → Seg (lv2.2.2 0) 0 (rawC (A ++ [c])) → w_X8_gather_L32 f4 (nI T) K Post (D.length + 1) (nI (p + A.length) + 1) (b.1, b.2.1, sa b.2.2 5 (upd (b.2.2 5) (p + A.length) (nI (lcC A)))) lv2 := by
      intro lv2 g1 g2
      rw [nI_1, show p + A.length + 1 = p + (A ++ [c]).length by rw [List.length_append]; show _ = p + (A.length + 1); omega]
      refine ih (A ++ [c]) _ lv2 ?_ (by rw [← eq, hlen]; exact hT) h7 (by rw [← eq]; exact hl) g1 g2 (fun j hj => ?_) (fun b2 lv3 f2 r1 r2 r3 => k b2 lv3 (F.tr f2) (by rw [eq]; exact r1) (by rw [eq]; exact r2) (by rw [eq]; exact r3))
      · rw [← eq]
        intro i d hd
        rw [F.2.2 0 (by decide), F.2.2 1 (by decide)]
        exact S i d hd
      · rw [List.length_append] at hj
        have hj : j < A.length + 1 := hj
        show sa b.2.2 5 (upd (b.2.2 5) (p + A.length) (nI (lcC A))) 5 (p + j) = _
        rw [sa_us]
        by_cases q : j = A.length
        · rw [q, pk_us, List.take_append_of_le_length (Nat.le_refl _), List.take_length]
        · rw [pk_un (by omega), h5 j (by omega), List.take_append_of_le_length (by omega)]
    refine k_leaf (fun q => jn_mk ⟨fun z => absurd z (by decide), fun _ => ⟨vq, ?_⟩⟩) (fun q => jn_mk ⟨fun _ => go lv ?_ ?_, fun z => absurd rfl z⟩)
    · rw [lcC_1, if_pos q] at hcA
      refine ⟨fun z => absurd (show nI (lcC A) < 0 by rw [← e1]; exact z) (nI_pos (by omega)), fun _ => ⟨fun z => ?_, fun _ => ?_⟩⟩
      · rw [e1, show (24 : Int32) = nI 24 from rfl, nI_leI (by omega) (by omega)] at z; omega
      · rw [e1, nI_clamp (by omega)]
        refine ⟨vp_in_nI (by omega) (by omega), go _ ?_ ?_⟩
        · show upd lv.2.1 1 (nI (lcC A) + 1) 1 = _
          rw [pk_us, nI_1, hcA]
        · show Seg (sa lv.2.2 0 (upd (lv.2.2 0) (lcC A) c.2.1) 0) 0 _
          rw [sa_us, rawC_app, rawC_1, if_pos q]
          exact (s0.upd (Or.inr (by rw [rawC_len]; omega))).app (Seg.one (by rw [rawC_len, Nat.zero_add]; exact pk_us))
    · rw [hcA, lcC_1, if_neg q]; exact e1
    · rw [rawC_app, rawC_1, if_neg q, List.append_nil]; exact s0
theorem c_g2 {p T : Nat} {Post : Ob → Ob → Prop} (h7 : T ≤ 744) {b : Ob} {C : List CN} (S : TrS b p C) (hT : T = p + C.length) (hl : lcC C ≤ 24) (hf : ∀ c ∈ C, c.1 = 4 → ∃ k : Nat, k < 5 ∧ c.2.1 = nI k) (h5 : ∀ j, j < C.length → b.2.2 5 (p + j) = nI (lcC (C.take j))) (k : ∀ lv2, lv2.2.1 1 = nI (lcC C) → Seg (lv2.2.2 0) 0 (evC C) → Post b lv2) : ∀ (n : Nat) (A D : List CN) (lv : Ob), A.length = n → C = A ++ D → lv.2.1 1 = nI (lcC C) → Seg (lv.2.2 0) 0 (rawC A ++ evC D) → w_X8_gather_L86 (nI p) (nI T) Post (n + 1) (nI (p + n) - 1) b lv := by
  intro n
  induction n with
  | zero =>
    intro A D lv hn hC e1 s0
    have : A = [] := List.eq_nil_of_length_eq_zero hn
    subst this
    rw [show C = D from hC] at k e1
    refine ⟨fun _ => k lv e1 s0, fun z => absurd (nI_m1lt (by omega)) z⟩
  | succ n ih =>
    intro A D lv hn hC e1 s0
    obtain ⟨A', c, rfl, hA'⟩ := snoc_of hn
    have hlen : C.length = n + 1 + D.length := by rw [hC, List.length_append, hn]
    have eC : C = A' ++ c :: D := by rw [hC, List.append_assoc]; rfl
    have gc : C[n]? = some c := by rw [eC, ← hA']; exact getmid
    obtain ⟨s1, s2, s4⟩ := S n c gc
    rw [show p + (n + 1) = (p + n) + 1 by omega, nI_pred]
    have vq : vp_in (nI (p + n)) 744 := vp_in_nI (by omega) (by omega)
    refine ⟨fun z => absurd z (by rw [nI_ltI (by omega) (by omega)]; omega), fun _ => ⟨vq, ?_⟩⟩
    rw [nI_clamp (by omega), s1, s4, neg1]
    have go : ∀ lv2 : Ob, lv2.2.1 1 = nI (lcC C) → Seg (lv2.2.2 0) 0 (rawC A' ++ evC (c :: D)) → w_X8_gather_L86 (nI p) (nI T) Post (n + 1) (nI (p + n) - 1) b lv2 := fun lv2 g1 g2 => ih A' (c :: D) lv2 hA' eC g1 g2
    rw [rawC_app, rawC_1] at s0
    have tk : C.take n = A' := by rw [eC, ← hA', List.take_append_of_le_length (Nat.le_refl _), List.take_length]
    refine jn_mk ⟨fun c4 => go lv e1 ?_, fun c4 => ⟨vq, ?_⟩⟩
    · rw [evC_c]
      by_cases q : c.1 = 0 ∨ c.1 = 8 ∨ c.1 = 9
      · rw [if_pos q] at s0
        rw [if_pos q]
        rwa [List.append_assoc] at s0
      · rw [if_neg q, List.append_nil] at s0
        rw [if_neg q, if_neg c4]; exact s0
    · have nl : ¬ (c.1 = 0 ∨ c.1 = 8 ∨ c.1 = 9) := by rw [c4]; decide
      rw [if_neg nl, List.append_nil] at s0
      obtain ⟨f, hf5, ef⟩ := hf c (List.mem_of_getElem? gc) c4
      have en : enC C n = n + 1 + tlC D 1 := by
        unfold enC
        have : C.drop n = c :: D := by rw [eC, ← hA']; exact drop_mid (i := 0)
        rw [this, tlC_s, show 0 + arC c = 1 by unfold arC; rw [c4]; rfl]; omega
      have tl := tlC_le D 1
      have lC : lcC C = lcC A' + lcC D := by rw [eC, lcC_app, lcC_c, if_neg nl]; omega
      have hl2 := lcC_take D (tlC D 1)
      have aft : ∀ z : Int32, z = nI (lcC A' + lcC (D.take (tlC D 1))) → vp_in (nI (p + n)) 744 ∧ (vp_in (nI (p + n)) 744 ∧ (w_X2_map (b.2.2 1 (p + n)) (b.2.2 5 (p + n)) z lv (fun (lv_22 : Ob) => w_X8_gather_L86 (nI p) (nI T) Post (n + 1) (nI (p + n) - 1) b lv_22))) := by
        intro z ez
        refine ⟨vq, vq, ?_⟩
        rw [ez, s2, h5 n (by omega), tk, ef]
        have hlen2 : ((evC D).take (lcC (D.take (tlC D 1)))).length = lcC (D.take (tlC D 1)) := by rw [List.length_take, evC_len]; omega
        rw [← hlen2, ← rawC_len A']
        refine c_map (S := (evC D).drop (lcC (D.take (tlC D 1)))) hf5 (by rw [rawC_len, hlen2]; omega) (by rw [List.append_assoc, List.take_append_drop]; exact s0) (fun lv2 f2 g2 => go lv2 ((f2.2.1 1 (by decide)).trans e1) ?_)
        rw [evC_c, if_neg nl, if_pos c4, ef, ← List.append_assoc]
        exact g2
      rw [en]
      refine jn_mk (jn_mk ⟨fun z => absurd z (by rw [nI_ltI (by omega) (by omega)]; omega), fun _ => ⟨fun z => ?_, fun z => ⟨vp_in_nI ?_ (by omega), ?_⟩⟩⟩)
      · rw [nI_leI (by omega) (by omega)] at z
        refine aft _ ?_
        rw [e1, lC, List.take_of_length_le (by omega)]
      · rw [nI_leI (by omega) (by omega)] at z; omega
      · rw [nI_leI (by omega) (by omega)] at z
        refine aft _ ?_
        rw [nI_clamp (by omega), h5 _ (by omega)]
        have : C.take (n + 1 + tlC D 1) = A' ++ c :: D.take (tlC D 1) := by
          rw [eC, ← hA', show A'.length + 1 + tlC D 1 = A'.length + (tlC D 1 + 1) by omega, List.take_length_add_append, List.take_succ_cons]
        rw [this, lcC_app, lcC_c, if_neg nl, Nat.zero_add]
theorem c_gather {p z : Nat} {b lv : Ob} {C : List CN} {Post : Ob → Ob → Prop} (S : TrS b p C) (hz : b.2.1 6 = nI z) (h1 : p + C.length ≤ z) (h2 : z ≤ 744) (hl : lcC C ≤ 24) (hf : ∀ c ∈ C, c.1 = 4 → ∃ k : Nat, k < 5 ∧ c.2.1 = nI k) (k : ∀ b2 lv2, Fm [] [5] b b2 → LvC lv2 (evC C) → Post b2 lv2) : w_X8_gather (nI p) (nI (p + C.length)) b lv Post := by
  refine j_maxN (a := 0) (by omega) (by omega) ?_
  rw [hz, show max 0 p = p by omega]
  refine j_minN (by omega) (by omega) ?_
  rw [show min (p + C.length) z = p + C.length by omega]
  refine j_minN (b := 744) (by omega) (by omega) ?_
  rw [show min (p + C.length) 744 = p + C.length by omega]
  refine ⟨C.length + 1, c_g1 C [] b _ (fun i c hc => ⟨(S i c hc).1, (S i c hc).2.1⟩) rfl (by show p + C.length ≤ 744; omega) hl (show upd lv.2.1 1 0 1 = nI 0 from pk_us) Seg.nil (fun j hj => absurd hj (Nat.not_lt_zero _)) (fun b2 lv2 f2 g1 g2 g3 => ⟨C.length + 1, ?_⟩)⟩
  refine c_g2 (by omega) (C := C) (fun i c hc => ?_) rfl hl hf g3 (fun lv3 r1 r2 => k b2 lv3 f2 ⟨by rw [evC_len]; exact r1, by rw [evC_len]; exact hl, fun i v hi => by have := r2 i v hi; rwa [Nat.zero_add] at this⟩) C.length C [] lv2 rfl (List.append_nil _).symm g1 (by rw [show evC [] = [] from rfl, List.append_nil]; exact g2)
  rw [f2.2.2 0 (by decide), f2.2.2 1 (by decide), f2.2.2 4 (by decide)]
  exact S i c hc
