/-! RECKONING in the reference: a node is come to, a node is done with -/
def sg1 (c : CN) : List (Option Int32) := if c.1 = 0 ∨ c.1 = 8 ∨ c.1 = 9 then [none] else if c.1 = 1 ∨ c.1 = 2 ∨ c.1 = 6 ∨ c.1 = 7 then [some c.2.1] else []
def sgC : List CN → List (Option Int32)
  | [] => []
  | c :: C => sg1 c ++ sgC C
theorem sgC_app (B : List CN) : ∀ A : List CN, sgC (A ++ B) = sgC A ++ sgC B := by
  intro A
  induction A with
  | nil => rfl
  | cons c A ih =>
    show sg1 c ++ sgC (A ++ B) = (sg1 c ++ sgC A) ++ sgC B
    rw [ih, List.append_assoc]
def lps : List (Option Int32) → Nat → List Int32
  | [], _ => []
  | none :: s, p => nI p :: lps s (p + 1)
  | some _ :: s, p => lps s (p + 1)
theorem lps_app (b : List (Option Int32)) : ∀ (a : List (Option Int32)) (p : Nat), lps (a ++ b) p = lps a p ++ lps b (p + a.length) := by
  intro a
  induction a with
  | nil => intro p; rfl
  | cons x a ih =>
    intro p
    cases x with
    | none => show nI p :: lps (a ++ b) (p + 1) = nI p :: (lps a (p + 1) ++ _); rw [ih, List.length_cons, show p + 1 + a.length = p + (a.length + 1) by omega]
    | some v => show lps (a ++ b) (p + 1) = lps a (p + 1) ++ _; rw [ih, List.length_cons, show p + 1 + a.length = p + (a.length + 1) by omega]
def k01 : Option Int32 → Int32
  | none => 0
  | some _ => 1
def RkP (o : Ob) (A : List Int32) (sg : List (Option Int32)) : Prop := o.2.1 14 = nI A.length ∧ o.2.1 11 = nI sg.length ∧ Seg (o.2.2 15) 0 A ∧ Seg (o.2.2 12) 0 (sg.map k01) ∧ (∀ i v, sg[i]? = some (some v) → o.2.2 13 i = v) ∧ Seg (o.2.2 16) 0 (lps sg 0) ∧ (lps sg 0).length = A.length
theorem RkP.keep {S B : List Nat} {o o2 : Ob} {A : List Int32} {sg : List (Option Int32)} (R : RkP o A sg) (h : Fm S B o o2) (h1 : ∀ k ∈ [11, 14], k ∉ S) (h2 : ∀ k ∈ [12, 13, 15, 16], k ∉ B) : RkP o2 A sg := by
  obtain ⟨a, b, c, d, e, f, g⟩ := R
  refine ⟨(h.2.1 14 (h1 14 (by decide))).trans a, (h.2.1 11 (h1 11 (by decide))).trans b, ?_, ?_, ?_, ?_, g⟩
  · rw [h.2.2 15 (h2 15 (by decide))]; exact c
  · rw [h.2.2 12 (h2 12 (by decide))]; exact d
  · rw [h.2.2 13 (h2 13 (by decide))]; exact e
  · rw [h.2.2 16 (h2 16 (by decide))]; exact f
theorem rk_leaf {o : Ob} {A : List Int32} {sg : List (Option Int32)} {v : Int32} {Post : Ob → Prop} (R : RkP o A sg) (hA : A.length < 60) (hs : sg.length < 1600) (k : ∀ o2, Fm [11, 14] [12, 15, 16] o o2 → RkP o2 (A ++ [v]) (sg ++ [none]) → Post o2) : w_X10_leafIs v o Post := by
  obtain ⟨a, b, c, d, e, f, g⟩ := R
  unfold w_X10_leafIs
  rw [a, b, nI_clamp (by omega), nI_clamp (by omega)]
  refine ⟨vp_in_nI (by omega) (by omega), vp_in_nI (by omega) (by omega), vp_in_nI (by omega) (by omega), k _ ?_ ⟨?_, ?_, ?_, ?_, fun i w hi => ?_, ?_, ?_⟩⟩
  · refine Fm.ia (fun k hk => ?_) (fun k hk => ?_)
    · rw [un_of (S := [11, 14]) (by decide) hk, un_of (S := [11, 14]) (by decide) hk]
    · rw [sa_un (S := [12, 15, 16]) (by decide) hk, sa_un (S := [12, 15, 16]) (by decide) hk, sa_un (S := [12, 15, 16]) (by decide) hk]
  · show upd (upd o.2.1 14 (nI A.length + 1)) 11 (nI sg.length + 1) 14 = _
    rw [pk_un (by omega), pk_us, nI_1, List.length_append]; rfl
  · show upd (upd o.2.1 14 (nI A.length + 1)) 11 (nI sg.length + 1) 11 = _
    rw [pk_us, nI_1, List.length_append]; rfl
  · show Seg (sa (sa (sa o.2.2 15 (upd (o.2.2 15) A.length v)) 16 (upd (o.2.2 16) A.length (nI sg.length))) 12 (upd (o.2.2 12) sg.length 0) 15) 0 _
    rw [sa_ne (by omega), sa_ne (by omega), sa_us]
    exact (c.upd (Or.inr (by omega))).app (Seg.one (by rw [Nat.zero_add]; exact pk_us))
  · show Seg (sa (sa (sa o.2.2 15 (upd (o.2.2 15) A.length v)) 16 (upd (o.2.2 16) A.length (nI sg.length))) 12 (upd (o.2.2 12) sg.length 0) 12) 0 _
    rw [sa_us, List.map_append]
    exact (d.upd (Or.inr (by rw [List.length_map]; omega))).app (Seg.one (by rw [Nat.zero_add, List.length_map]; exact pk_us))
  · rcases Nat.lt_or_ge i sg.length with q | q
    · rw [List.getElem?_append_left q] at hi; exact e i w hi
    · rw [List.getElem?_append_right q] at hi
      rcases Nat.eq_zero_or_pos (i - sg.length) with q2 | q2
      · rw [q2] at hi; cases hi
      · rw [show i - sg.length = (i - sg.length - 1) + 1 by omega] at hi; cases hi
  · show Seg (sa (sa (sa o.2.2 15 (upd (o.2.2 15) A.length v)) 16 (upd (o.2.2 16) A.length (nI sg.length))) 12 (upd (o.2.2 12) sg.length 0) 16) 0 _
    rw [sa_ne (by omega), sa_us, lps_app]
    refine (f.upd (Or.inr (by omega))).app (Seg.one ?_)
    rw [Nat.zero_add, Nat.zero_add, g]; exact pk_us
  · rw [lps_app, List.length_append, List.length_append, g]; rfl
theorem rk_row {o : Ob} {A : List Int32} {sg : List (Option Int32)} {v : Int32} {Post : Ob → Prop} (R : RkP o A sg) (hs : sg.length < 1600) (k : ∀ o2, Fm [11] [12, 13] o o2 → RkP o2 A (sg ++ [some v]) → Post o2) : w_X10_rowIs v o Post := by
  obtain ⟨a, b, c, d, e, f, g⟩ := R
  unfold w_X10_rowIs
  rw [b, nI_clamp (by omega)]
  refine ⟨vp_in_nI (by omega) (by omega), vp_in_nI (by omega) (by omega), k _ ?_ ⟨?_, ?_, ?_, ?_, fun i w hi => ?_, ?_, ?_⟩⟩
  · refine Fm.ia (fun k hk => un_of (S := [11]) (by decide) hk) (fun k hk => ?_)
    rw [sa_un (S := [12, 13]) (by decide) hk, sa_un (S := [12, 13]) (by decide) hk]
  · show upd o.2.1 11 (nI sg.length + 1) 14 = _
    rw [pk_un (by omega)]; exact a
  · show upd o.2.1 11 (nI sg.length + 1) 11 = _
    rw [pk_us, nI_1, List.length_append]; rfl
  · show Seg (sa (sa o.2.2 12 (upd (o.2.2 12) sg.length 1)) 13 (upd (o.2.2 13) sg.length v) 15) 0 _
    rw [sa_ne (by omega), sa_ne (by omega)]; exact c
  · show Seg (sa (sa o.2.2 12 (upd (o.2.2 12) sg.length 1)) 13 (upd (o.2.2 13) sg.length v) 12) 0 _
    rw [sa_ne (by omega), sa_us, List.map_append]
    exact (d.upd (Or.inr (by rw [List.length_map]; omega))).app (Seg.one (by rw [Nat.zero_add, List.length_map]; exact pk_us))
  · show sa (sa o.2.2 12 (upd (o.2.2 12) sg.length 1)) 13 (upd (o.2.2 13) sg.length v) 13 i = w
    rw [sa_us]
    rcases Nat.lt_or_ge i sg.length with q | q
    · rw [List.getElem?_append_left q] at hi; rw [pk_un (by omega)]; exact e i w hi
    · rw [List.getElem?_append_right q] at hi
      rcases Nat.eq_zero_or_pos (i - sg.length) with q2 | q2
      · rw [q2] at hi; cases hi
        rw [show i = sg.length by omega, pk_us]
      · rw [show i - sg.length = (i - sg.length - 1) + 1 by omega] at hi; cases hi
  · show Seg (sa (sa o.2.2 12 (upd (o.2.2 12) sg.length 1)) 13 (upd (o.2.2 13) sg.length v) 16) 0 _
    rw [sa_ne (by omega), sa_ne (by omega), lps_app]
    exact f.app Seg.nil
  · rw [lps_app, List.length_append, g]; rfl
/-- a stretch of a row of nodes -/
def NdS (o : Ob) (t k : Nat) (L : List Nd) : Prop := ∀ i x, L[i]? = some x → o.2.2 9 (1000 * t + k + i) = encM x.1 ∧ o.2.2 10 (1000 * t + k + i) = x.2
theorem NdS.head {o : Ob} {t k : Nat} {x : Nd} {L : List Nd} (h : NdS o t k (x :: L)) : o.2.2 9 (1000 * t + k) = encM x.1 ∧ o.2.2 10 (1000 * t + k) = x.2 := h 0 x rfl
theorem NdS.tail {o : Ob} {t k : Nat} {x : Nd} {L : List Nd} (h : NdS o t k (x :: L)) : NdS o t (k + 1) L := fun i y hy => by
  have := h (i + 1) y hy
  rwa [show 1000 * t + k + (i + 1) = 1000 * t + (k + 1) + i by omega] at this
theorem NdS.left {o : Ob} {t k : Nat} {A B : List Nd} (h : NdS o t k (A ++ B)) : NdS o t k A := fun i y hy => h i y (by rw [List.getElem?_append_left (List.getElem?_eq_some_iff.mp hy).1]; exact hy)
theorem NdS.right {o : Ob} {t k : Nat} {A B : List Nd} (h : NdS o t k (A ++ B)) : NdS o t (k + A.length) B := fun i y hy => by
  have := h (A.length + i) y (by rw [List.getElem?_append_right (by omega), show A.length + i - A.length = i by omega]; exact hy)
  rwa [show 1000 * t + k + (A.length + i) = 1000 * t + (k + A.length) + i by omega] at this
theorem NdS.keep {S A : List Nat} {o o2 : Ob} {t k : Nat} {L : List Nd} (h : NdS o t k L) (f : Fm S A o o2) (h9 : 9 ∉ A) (h10 : 10 ∉ A) : NdS o2 t k L := fun i x hx => by
  rw [f.2.2 9 h9, f.2.2 10 h10]; exact h i x hx
def HT (tb : Tb) (o : Ob) : Prop := ∀ f, f < 7 → o.2.2 (f + 1) = tb f
theorem HT.keep {S A : List Nat} {tb : Tb} {o o2 : Ob} (h : HT tb o) (f : Fm S A o o2) (hA : ∀ k, k < 8 → 0 < k → k ∉ A) : HT tb o2 := fun g hg => (f.2.2 _ (hA _ (by omega) (by omega))).trans (h g hg)
theorem encM_neg {o : Option Nat} (h : o = none) : encM o < 0 := by subst h; decide
theorem parts_n {tb : Tb} {nc m : Nat} {v : Int32} (w : MkWF tb nc m) (h1 : tb 0 m = 1 → ∃ j : Nat, j ≤ (tb 3 m).toNatClampNeg ∧ v = nI j) (h6 : tb 0 m = 6 → v = tb 3 m) : (tb 0 m = 1 ∨ tb 0 m = 6) → v = nI (arN tb (some m, v)) := by
  rintro (e | e)
  · obtain ⟨j, hj, rfl⟩ := h1 e
    unfold arN
    rw [kids_1 e, List.length_replicate]
    obtain ⟨-, -, -, -, k1, -⟩ := w
    obtain ⟨a, ha, e1, c, c1, c2, e3, e4⟩ := k1 e
    rw [e3, nI_clamp (by omega)] at hj
    rw [nI_clamp (by omega)]
  · have := h6 e
    obtain ⟨-, -, -, -, -, -, -, -, -, k6, -⟩ := w
    obtain ⟨n, n1, n2, e3, -⟩ := k6 e
    unfold arN
    rw [kids_6 e, List.length_replicate, this, e3, nI_clamp (by omega)]
theorem m_parts {tb : Tb} {nm nc : Nat} {o : Ob} {x : Nd} {i : Nat} {Post : Int32 → Ob → Prop} (hw : ∀ m, m < nm → MkWF tb nc m) (hn : nm ≤ 30) (T : HT tb o) (hi : i < 5000) (h9 : o.2.2 9 i = encM x.1) (h10 : o.2.2 10 i = x.2) (hm : ∀ m, x.1 = some m → m < nm ∧ (tb 0 m = 1 → ∃ j : Nat, j ≤ (tb 3 m).toNatClampNeg ∧ x.2 = nI j) ∧ (tb 0 m = 6 → x.2 = tb 3 m)) (k : Post (nI (arN tb x)) o) : w_X10_parts (nI i) o Post := by
  unfold w_X10_parts
  rw [nI_clamp (by omega), h9, h10]
  refine ⟨vp_in_nI hi (by omega), ?_⟩
  obtain ⟨xm, v⟩ := x
  cases xm with
  | none => exact ⟨fun z => absurd z (show ¬ (0 : Int32) ≤ -1 by decide), fun _ => k⟩
  | some m =>
    obtain ⟨hml, h1, h6⟩ := hm m rfl
    have w := hw m hml
    have t0 := T 0 (by omega)
    have pn := parts_n w h1 h6
    refine ⟨fun _ => ⟨vp_in_nI (by omega) (by omega), ?_⟩, fun z => absurd (nI_pos' (by omega)) z⟩
    show (o.2.2 (0 + 1) (nI m).toNatClampNeg = 0 → _) ∧ ((o.2.2 (0 + 1) (nI m).toNatClampNeg = 1 ∨ o.2.2 (0 + 1) (nI m).toNatClampNeg = 6) → vp_in (nI i) 5000 ∧ _) ∧ (o.2.2 (0 + 1) (nI m).toNatClampNeg = 2 → _) ∧ ((¬ o.2.2 (0 + 1) (nI m).toNatClampNeg = 0 ∧ ¬ o.2.2 (0 + 1) (nI m).toNatClampNeg = 1 ∧ ¬ o.2.2 (0 + 1) (nI m).toNatClampNeg = 6 ∧ ¬ o.2.2 (0 + 1) (nI m).toNatClampNeg = 2) → _)
    rw [t0, nI_clamp (by omega)]
    refine ⟨fun e => ?_, fun e => ⟨vp_in_nI hi (by omega), ?_⟩, fun e => ?_, fun e => ?_⟩
    · unfold arN at k; rw [kids_0 e] at k; exact k
    · have := pn e; rw [← this] at k; exact k
    · unfold arN at k; rw [kids_2 e] at k; exact k
    · unfold arN at k
      rcases kind_cases w with q | q | q | q | q | q | q | q
      · exact absurd q e.1
      · exact absurd q e.2.1
      · exact absurd q e.2.2.2
      · rw [kids_3 q] at k; exact k
      · rw [kids_4 q] at k; exact k
      · rw [kids_5 q] at k; exact k
      · exact absurd q e.2.2.1
      · rw [kids_7 q] at k; exact k
