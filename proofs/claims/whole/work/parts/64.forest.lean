/-! RECKONING: a node is done with; a whole row of cases -/
def popL (tb : Tb) (x : Nd) (l : List Int32) : List Int32 := if kindN tb x = 4 then mapF (cnN tb x).2.1 l else if kindN tb x = 7 then l ++ [x.2] else l
def popS (tb : Tb) (x : Nd) : List (Option Int32) := if kindN tb x = 7 then [none] else []
section
variable {tb : Tb} {nm nc : Nat}
theorem m_pop (hw : ∀ m, m < nm → MkWF tb nc m) (hn : nm ≤ 30) {o : Ob} {x : Nd} {t p h n : Nat} {A l : List Int32} {sg : List (Option Int32)} {Post : Ob → Prop} (T : HT tb o) (hx : okX tb nm x) (h9 : o.2.2 9 (1000 * t + p) = encM x.1) (h10 : o.2.2 10 (1000 * t + p) = x.2) (ht : t < 5) (hp : p < 1000) (R : RkP o (A ++ l) sg) (h17 : o.2.1 17 = nI (h + 1)) (h18 : o.2.2 18 h = nI (1000 * t + p)) (h19 : o.2.2 19 h = 0) (h20 : o.2.2 20 h = nI A.length) (hh : h < 900) (hA : A.length + l.length < 60) (hs : sg.length < 1600)
    (k : ∀ o2, Fm rkS rkA o o2 → RkP o2 (A ++ popL tb x l) (sg ++ popS tb x) → o2.2.1 17 = nI h → (∀ q, q < h → o2.2.2 18 q = o.2.2 18 q ∧ o2.2.2 20 q = o.2.2 20 q ∧ (q + 1 ≠ h → o2.2.2 19 q = o.2.2 19 q)) → (∀ q, q + 1 = h → o2.2.2 19 q = o.2.2 19 q - 1) → w_X10_leave_L0 Post n o2) : w_X10_leave_L0 Post (n + 1) o := by
  have hi : 1000 * t + p < 5000 := by omega
  have hvi : vp_in (nI (1000 * t + p)) 5000 := vp_in_nI hi (by omega)
  have hvh : vp_in (nI h) 1000 := vp_in_nI (by omega) (by omega)
  have eh : (nI h).toNatClampNeg = h := nI_clamp (by omega)
  refine ⟨fun z => ?_, fun _ => ?_⟩
  · rw [h17] at z; exact absurd z (nI_nle (by omega) (by omega))
  rw [h17, nI_pred, eh, h18, h19, h20, nI_clamp (show 1000 * t + p < 2 ^ 31 by omega), h9]
  refine ⟨hvh, fun z => absurd rfl z, fun _ => ⟨hvh, hvi, ?_⟩⟩
  have F1 : Fm [17] [] o (o.1, upd o.2.1 17 (nI h), o.2.2) := Fm.i (fun k hk => un_of (S := [17]) (by decide) hk)
  have J109 : ∀ o1, Fm [11, 14, 17] [12, 13, 15, 16] o o1 → RkP o1 (A ++ popL tb x l) (sg ++ popS tb x) → o1.2.1 17 = nI h → jn (fun J131 : Ob → Prop => (((o1.2.1 17) ≤ 0) → J131 o1) ∧ (¬ ((o1.2.1 17) ≤ 0) → vp_in ((o1.2.1 17) - 1) 1000 ∧ (vp_in ((o1.2.1 17) - 1) 1000 ∧ (J131 ((o1.1, o1.2.1, (sa o1.2.2 19 (upd (o1.2.2 19) ((o1.2.1 17) - 1).toNatClampNeg (((o1.2.2 19) ((o1.2.1 17) - 1).toNatClampNeg) - 1))))))))) (fun (o_131 : Ob) => w_X10_leave_L0 Post n o_131) := by
    intro o1 f1 R1 e17
    rw [e17]
    refine jn_mk ⟨fun z => ?_, fun z => ?_⟩
    · have h0 : h = 0 := by
        rcases Nat.eq_zero_or_pos h with q | q
        · exact q
        · exact absurd z (nI_nle q (by omega))
      refine k o1 (f1.mono (by decide) (by decide)) R1 e17 (fun q hq => by omega) (fun q hq => by omega)
    · have h0 : 0 < h := by
        rcases Nat.eq_zero_or_pos h with q | q
        · subst q; exact absurd (Int32.le_refl _) z
        · exact q
      obtain ⟨h', rfl⟩ : ∃ h', h = h' + 1 := ⟨h - 1, by omega⟩
      rw [nI_pred, nI_clamp (by omega)]
      have hvh' : vp_in (nI h') 1000 := vp_in_nI (by omega) (by omega)
      have F2 : Fm [] [19] o1 (o1.1, o1.2.1, sa o1.2.2 19 (upd (o1.2.2 19) h' (o1.2.2 19 h' - 1))) := Fm.a (fun k hk => sa_un (S := [19]) (by decide) hk)
      refine ⟨hvh', hvh', k _ ((f1.mono (by decide) (by decide)).tr (F2.mono (by decide) (by decide))) (R1.keep F2 (by decide) (by decide)) e17 (fun q hq => ?_) (fun q hq => ?_)⟩
      · rw [F2.2.2 18 (by decide), F2.2.2 20 (by decide), f1.2.2 18 (by decide), f1.2.2 20 (by decide)]
        refine ⟨rfl, rfl, fun hne => ?_⟩
        show sa o1.2.2 19 (upd (o1.2.2 19) h' (o1.2.2 19 h' - 1)) 19 q = _
        rw [sa_us, pk_un (by omega), f1.2.2 19 (by decide)]
      · have : q = h' := by omega
        subst this
        show sa o1.2.2 19 (upd (o1.2.2 19) q (o1.2.2 19 q - 1)) 19 q = _
        rw [sa_us, pk_us, f1.2.2 19 (by decide)]
  have R1 : RkP (o.1, upd o.2.1 17 (nI h), o.2.2) (A ++ l) sg := R.keep F1 (by decide) (by decide)
  have F1' : Fm [11, 14, 17] [12, 13, 15, 16] o (o.1, upd o.2.1 17 (nI h), o.2.2) := F1.mono (by decide) (by decide)
  have e1 : (o.1, upd o.2.1 17 (nI h), o.2.2).2.1 17 = nI h := (pk_us : upd o.2.1 17 (nI h) 17 = nI h)
  obtain ⟨xm, v⟩ := x
  cases xm with
  | none => exact jn_mk (jn_mk ⟨fun _ => ⟨fun _ => J109 _ F1' (by rw [show popL tb (none, v) l = l from rfl, show popS tb (none, v) = [] from rfl, List.append_nil]; exact R1) e1, fun z => absurd (show (-1 : Int32) < 0 by decide) z⟩, fun z => absurd (show (-1 : Int32) < 0 by decide) z⟩)
  | some m =>
    have hml := (hx m rfl).1
    have em : (nI m).toNatClampNeg = m := nI_clamp (by omega)
    have hvm : vp_in (nI m) 30 := vp_in_nI (by omega) (by omega)
    have k0 : o.2.2 1 m = tb 0 m := congrFun (T 0 (by omega)) m
    have k3 : o.2.2 4 m = tb 3 m := congrFun (T 3 (by omega)) m
    have kd : kindN tb (some m, v) = tb 0 m := rfl
    refine jn_mk (jn_mk ⟨fun z => absurd z (nI_pos (by omega)), fun _ => ⟨hvm, ?_⟩⟩)
    show (¬ (o.2.2 1) (nI m).toNatClampNeg = 4 → _) ∧ ((o.2.2 1) (nI m).toNatClampNeg = 4 → vp_in (nI m) 30 ∧ (vp_in (nI h) 1000 ∧ (w_X10_mapFrom (o.2.2 4 (nI m).toNatClampNeg) _ _ _)))
    rw [em, k0, k3]
    refine ⟨fun c4 => ⟨fun z => absurd z (nI_pos (by omega)), fun _ => ⟨hvm, ?_⟩⟩, fun c4 => ⟨hvm, hvh, ?_⟩⟩
    · show (¬ (o.2.2 1) (nI m).toNatClampNeg = 7 → _) ∧ ((o.2.2 1) (nI m).toNatClampNeg = 7 → vp_in (nI (1000 * t + p)) 5000 ∧ (w_X10_leafIs (o.2.2 10 (1000 * t + p)) _ _))
      rw [em, k0, h10]
      refine ⟨fun c7 => ?_, fun c7 => ⟨hvi, ?_⟩⟩
      · refine J109 _ F1' ?_ e1
        rw [show popL tb (some m, v) l = l from (if_neg (by rw [kd]; exact c4)).trans (if_neg (by rw [kd]; exact c7)), show popS tb (some m, v) = [] from if_neg (by rw [kd]; exact c7), List.append_nil]
        exact R1
      · refine rk_leaf R1 (by rw [List.length_append]; omega) (by omega) (fun o2 f2 R2 => J109 o2 (F1'.tr (f2.mono (by decide) (by decide))) ?_ ((f2.2.1 17 (by decide)).trans e1))
        rw [show popL tb (some m, v) l = l ++ [v] from (if_neg (by rw [kd]; exact c4)).trans (if_pos (by rw [kd]; exact c7)), show popS tb (some m, v) = [none] from if_pos (by rw [kd]; exact c7), ← List.append_assoc]
        exact R2
    · have W := hw m hml
      obtain ⟨-, -, -, -, -, -, -, k4, -⟩ := W
      obtain ⟨a, f, ha, e2, hf, e3, -⟩ := k4 c4
      have e5 : (cnN tb (some m, v)).2.1 = nI f := by rw [cn_4 c4]; exact e3
      rw [e3]
      obtain ⟨r1, r2, r3, r4, r5, r6, r7⟩ := R1
      refine m_map hf (by rw [r1, List.length_append]) (by omega) r3 (fun o2 f2 g2 => J109 o2 (F1'.tr (f2.mono (by decide) (by decide))) ?_ ((f2.2.1 17 (by decide)).trans e1))
      rw [show popL tb (some m, v) l = mapF (nI f) l from (if_pos (by rw [kd]; exact c4)).trans (by rw [e5]), show popS tb (some m, v) = [] from if_neg (by rw [kd, c4]; decide), List.append_nil]
      refine ⟨?_, (f2.2.1 11 (by decide)).trans r2, g2, ?_, ?_, ?_, ?_⟩
      · rw [f2.2.1 14 (by decide), r1, List.length_append, List.length_append, mapF_len]
      · rw [f2.2.2 12 (by decide)]; exact r4
      · rw [f2.2.2 13 (by decide)]; exact r5
      · rw [f2.2.2 16 (by decide)]; exact r6
      · rw [r7, List.length_append, List.length_append, mapF_len]
theorem okN_X {t : Option Nat} {x : Nd} (h : okN tb t x) (hb : ∀ m, x.1 = some m → m < nm) : okX tb nm x := by
  intro m hm
  obtain ⟨e, h⟩ := h
  have := h m (e.symm.trans hm)
  exact ⟨hb m hm, this.1, this.2.1⟩
theorem pop_ev (hw : ∀ m, m < nm → MkWF tb nc m) {x : Nd} {L1 : List Nd} (hb : ∀ m, x.1 = some m → m < nm) (h1 : CF tb L1 (kidsT tb x)) : popL tb x (lf0 tb x ++ evR tb L1) = evT tb x (evR tb L1) ∧ (lf0 tb x).length + (evR tb L1).length ≤ (evT tb x (evR tb L1)).length := by
  unfold popL lf0 evT
  by_cases c : kindN tb x = 8 ∨ kindN tb x = 0
  · have hk := kids_leaf c (fun m hm => kind_n8 (hw m (hb m hm)))
    rw [hk] at h1
    have : L1 = [] := by
      cases L1 with
      | nil => rfl
      | cons y L1 => obtain ⟨t, ts', e2, -⟩ := h1; cases e2
    subst this
    rw [if_pos c, if_pos c, if_neg (fun z => by rw [z] at c; rcases c with c | c <;> exact absurd c (by decide)), if_neg (fun z => by rw [z] at c; rcases c with c | c <;> exact absurd c (by decide))]
    exact ⟨rfl, Nat.le_refl _⟩
  · rw [if_neg c, if_neg c, List.nil_append]
    refine ⟨rfl, ?_⟩
    split
    · rw [mapF_len, List.length_nil]; omega
    · split
      · rw [List.length_append, List.length_nil]; omega
      · rw [List.length_nil]; omega
theorem popS_res {x : Nd} : popS tb x = sgC (resT tb x) := by
  unfold popS resT bel
  by_cases c : kindN tb x = 7
  · rw [if_pos c, if_pos (decide_eq_true c)]; rfl
  · rw [if_neg c, if_neg (by rw [decide_eq_true_eq]; exact c)]; rfl
/-- what a row of cases comes to -/
def Fo (tb : Tb) (nm t T : Nat) (K Post : Ob → Prop) (L : List Nd) (ts : List (Option Nat)) : Prop := BN nm L → ∀ (p h : Nat) (A : List Int32) (sg : List (Option Int32)) (o : Ob), HT tb o → NdS o t p L → RkP o A sg → o.2.1 17 = nI (h + 1) → o.2.2 19 h = nI ts.length → p + L.length ≤ T → T ≤ 1000 → h + 1 + L.length < 900 → A.length + (evR tb L).length ≤ 24 → sg.length + (sgC (cenc tb L)).length ≤ 1500 → ts.length < 1000 →
    (∀ o2, Fm rkS rkA o o2 → RkP o2 (A ++ evR tb L) (sg ++ sgC (cenc tb L)) → o2.2.1 17 = nI (h + 1) → FrL h o o2 → o2.2.2 18 h = o.2.2 18 h → o2.2.2 20 h = o.2.2 20 h → o2.2.2 19 h = 0 → w_X10_leave_L0 (fun o' => w_X10_reckon_L18 (nI t) (nI T) K Post (T - (p + L.length) + 1) (nI (p + L.length)) o') (h + 2) o2) →
    w_X10_leave_L0 (fun o' => w_X10_reckon_L18 (nI t) (nI T) K Post (T - p + 1) (nI p) o') (h + 2) o
theorem rk_keepN {o o2 : Ob} {t k : Nat} {L : List Nd} (h : NdS o t k L) (f : Fm rkS rkA o o2) : NdS o2 t k L := h.keep f (by decide) (by decide)
theorem rk_keepT {o o2 : Ob} (h : HT tb o) (f : Fm rkS rkA o o2) : HT tb o2 := h.keep f (fun k h1 h2 => by
  rcases (show k = 1 ∨ k = 2 ∨ k = 3 ∨ k = 4 ∨ k = 5 ∨ k = 6 ∨ k = 7 by omega) with rfl | rfl | rfl | rfl | rfl | rfl | rfl <;> decide)
theorem m_forest (hw : ∀ m, m < nm → MkWF tb nc m) (hn : nm ≤ 30) {t T : Nat} {K Post : Ob → Prop} (ht : t < 5) (L : List Nd) (ts : List (Option Nat)) (hc : CF tb L ts) : Fo tb nm t T K Post L ts := by
  refine CF_ind (P := Fo tb nm t T K Post) ?_ ?_ L.length L ts (Nat.le_refl _) hc
  · intro _ p h A sg o T0 N R h17 h19 b1 b2 b3 b4 b5 b6 k
    refine k o Fm.rf ?_ h17 (fun _ _ => ⟨rfl, rfl, rfl⟩) rfl rfl h19
    rw [show evR tb [] = [] from rfl, show sgC (cenc tb []) = [] from rfl, List.append_nil, List.append_nil]; exact R
  · intro x t0 ts L1 L2 hk h1 P1 h2 P2 hb p h A sg o T0 N R h17 h19 b1 b2 b3 b4 b5 b6 k
    have hbx := hb x List.mem_cons_self
    have hb1 : BN nm L1 := fun y hy => hb y (List.mem_cons_of_mem _ (List.mem_append_left _ hy))
    have hb2 : BN nm L2 := fun y hy => hb y (List.mem_cons_of_mem _ (List.mem_append_right _ hy))
    have hX : okX tb nm x := okN_X hk hbx
    have eE := evR_tree h1 (fun m hm => kind_n8 (hw m (hbx m hm))) (L2 := L2)
    have eC := cenc_tree h1 (L2 := L2)
    obtain ⟨pe, pl⟩ := pop_ev hw hbx h1
    rw [eE, eC] at k
    rw [List.length_cons] at b1 b3 b6 h19
    rw [List.length_append] at b1 b3
    rw [eE, List.length_append] at b4
    have eS : sgC (cnN tb x :: (cenc tb L1 ++ resT tb x ++ cenc tb L2)) = sg1 (cnN tb x) ++ sgC (cenc tb L1) ++ popS tb x ++ sgC (cenc tb L2) := by
      show sg1 (cnN tb x) ++ sgC (cenc tb L1 ++ resT tb x ++ cenc tb L2) = _
      rw [sgC_app, sgC_app, popS_res, List.append_assoc, List.append_assoc, List.append_assoc]
    rw [eC, eS, List.length_append, List.length_append, List.length_append] at b5
    rw [eS] at k
    have evl : evR tb L1 = evR tb L1 := rfl
    have l1 : (kidsT tb x).length < 1000 := by
      obtain ⟨xm, v⟩ := x
      cases xm with
      | none => show 0 < 1000; omega
      | some m =>
        obtain ⟨-, h1', h6'⟩ := hX m rfl
        have w := hw m (hbx m rfl)
        rcases kind_cases w with q | q | q | q | q | q | q | q
        · rw [kids_0 q]; show 0 < 1000; omega
        · obtain ⟨j, hj, e⟩ := h1' q
          obtain ⟨-, -, -, -, k1, -⟩ := w
          obtain ⟨a, ha, e1, c, c1, c2, e3, e4⟩ := k1 q
          rw [e3, nI_clamp (by omega)] at hj
          rw [kids_1 q, List.length_replicate, show v = nI j from e, nI_clamp (by omega)]; omega
        · rw [kids_2 q]; show 2 < 1000; omega
        · rw [kids_3 q]; show 1 < 1000; omega
        · rw [kids_4 q]; show 1 < 1000; omega
        · rw [kids_5 q]; show 1 < 1000; omega
        · obtain ⟨-, -, -, -, -, -, -, -, -, k6, -⟩ := w
          obtain ⟨n, n1, n2, e3, -⟩ := k6 q
          rw [kids_6 q, List.length_replicate, show v = nI n from (h6' q).trans e3, nI_clamp (by omega)]; omega
        · rw [kids_7 q]; show 1 < 1000; omega
    refine ⟨fun z => ?_, fun _ => ?_⟩
    · rw [h17] at z; exact absurd z (nI_nle (by omega) (by omega))
    rw [h17, nI_pred, nI_clamp (by omega), h19]
    refine ⟨vp_in_nI (by omega) (by omega), fun _ => ?_, fun z => absurd z (nI_ne0 (by omega) (by omega))⟩
    show w_X10_reckon_L18 (nI t) (nI T) K Post (T - p + 1) (nI p) o
    rw [show T - p + 1 = (T - (p + 1) + 1) + 1 by omega]
    refine m_visit hw hn T0 hX N.head.1 N.head.2 ht (by omega) R h17 (by omega) (by omega) (by omega) (by rw [nI_leI (by omega) (by omega)]; omega) (fun o2 f2 R2 e17 fr2 e18 e19 e20 => ⟨h + 1 + 2, ?_⟩)
    have N1 : NdS o2 t (p + 1) (L1 ++ L2) := rk_keepN N.tail f2
    refine P1 hb1 (p + 1) (h + 1) _ _ o2 (rk_keepT T0 f2) N1.left R2 e17 e19 (by omega) b2 (by omega) (by rw [List.length_append]; omega) (by rw [List.length_append]; omega) l1 (fun o3 f3 R3 g17 fr3 g18 g20 g19 => ?_)
    have f23 := f2.tr f3
    have n3 := rk_keepN N f23
    rw [List.append_assoc] at R3
    refine m_pop hw hn (rk_keepT T0 f23) hX n3.head.1 n3.head.2 ht (by omega) R3 g17 (g18.trans e18) g19 (g20.trans e20) (by omega) (by rw [List.length_append]; omega) (by rw [List.length_append, List.length_append]; omega) (fun o4 f4 R4 h17' fr4 d4 => ?_)
    have f24 := f23.tr f4
    rw [pe] at R4
    have u19 : o4.2.2 19 h = nI ts.length := by
      rw [d4 h rfl, (fr3 h (by omega)).2.1, (fr2 h (by omega)).2.1, h19, ← nI_1, Int32.add_sub_cancel]
    have N4 : NdS o4 t (p + 1 + L1.length) L2 := (rk_keepN N.tail f24).right
    have := P2 hb2 (p + 1 + L1.length) h _ _ o4 (rk_keepT T0 f24) N4 R4 h17' u19 (by omega) b2 (by omega) (by rw [List.length_append]; omega) (by rw [List.length_append, List.length_append, List.length_append]; omega) (by omega) (fun o5 f5 R5 i17 fr5 i18 i20 i19 => ?_)
    · rw [show p + 1 + L1.length = p + 1 + L1.length from rfl] at this
      exact this
    · have := k o5 (f24.tr f5) (by
        rw [List.append_assoc] at R5
        rw [show sg ++ (sg1 (cnN tb x) ++ sgC (cenc tb L1) ++ popS tb x ++ sgC (cenc tb L2)) = sg ++ sg1 (cnN tb x) ++ sgC (cenc tb L1) ++ popS tb x ++ sgC (cenc tb L2) by simp only [List.append_assoc]]
        exact R5) i17 (fun q hq => ?_) ?_ ?_ i19
      · rw [List.length_cons, List.length_append, show p + (L1.length + L2.length + 1) = p + 1 + L1.length + L2.length by omega] at this
        exact this
      · have a5 := fr5 q hq
        have a4 := fr4 q (by omega)
        have a3 := fr3 q (by omega)
        have a2 := fr2 q (by omega)
        exact ⟨a5.1.trans (a4.1.trans (a3.1.trans a2.1)), a5.2.1.trans ((a4.2.2 (by omega)).trans (a3.2.1.trans a2.2.1)), a5.2.2.trans (a4.2.1.trans (a3.2.2.trans a2.2.2))⟩
      · exact i18.trans ((fr4 h (by omega)).1.trans ((fr3 h (by omega)).1.trans (fr2 h (by omega)).1 |>.trans rfl))
      · exact i20.trans ((fr4 h (by omega)).2.1.trans ((fr3 h (by omega)).2.2.trans (fr2 h (by omega)).2.2))
end
