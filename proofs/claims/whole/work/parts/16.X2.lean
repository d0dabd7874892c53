def w_X9_isSize (x0 : Int32)  (Post : Int32 → Prop) : Prop := ((x0 < 0) → Post 0) ∧ (¬ (x0 < 0) → ((24 < x0) → Post 0) ∧ (¬ (24 < x0) → Post 1))
set_option maxRecDepth 100000 in
set_option maxHeartbeats 4000000 in
theorem c_X9_isSize (l : Launch) (D : va_G) (E : Nat → ClassId)    (x0 : Int32) {Post : Int32 → Prop} (h : w_X9_isSize x0  Post) : CtI l yX9_isSize cX9_isSize 1 .boolean ({ frames := 0, cells := 0, slots := 0, locals := 0 } : Room) D E [.int (x0)] [] (fun _ : Unit => []) (fun (r : Int32) (u : Unit) => Post r ) 0 0 := by
  refine enI (by decide +kernel) (Nat.le_of_ble_eq_true rfl) ?_
  intro p e s m args below meth c Q A ls hx hb hml hown hT hK hA hret hh hl
  have hl : lv_has ls 1 [(0, .int (x0))] := hl
  unfold w_X9_isSize at h
  refine lv_iload_n hx hb dX9_isSize_0 rfl (lv_at hl 0 rfl) ?_
  refine lv_if_lt (tgt := 14) hx hb dX9_isSize_1 (by decide) (fun c1 => ?_) (fun c1 => ?_)
  · have h := h.1 c1
    refine lv_iconst (v := 0) hx hb dX9_isSize_14 (by decide) ?_
    exact hret _ _ _ _ _ () dX9_isSize_15 rfl h hh
  · have h := h.2 c1
    refine lv_iload_n hx hb dX9_isSize_4 rfl (lv_at hl 0 rfl) ?_
    refine lv_bipush (v := 24) hx hb dX9_isSize_5 (by decide) ?_
    refine lv_icmp_gt (tgt := 14) hx hb dX9_isSize_7 (by decide) (fun c2 => ?_) (fun c2 => ?_)
    · have h := h.1 c2
      refine lv_iconst (v := 0) hx hb dX9_isSize_14 (by decide) ?_
      exact hret _ _ _ _ _ () dX9_isSize_15 rfl h hh
    · have h := h.2 c2
      refine lv_iconst (v := 1) hx hb dX9_isSize_10 (by decide) ?_
      refine lv_goto (tgt := 15) hx hb dX9_isSize_11 (by decide) ?_
      exact hret _ _ _ _ _ () dX9_isSize_15 rfl h hh

def w_X9_isMachine (x0 : Int32) (x1 : Int32)  (Post : Int32 → Prop) : Prop := ((x0 < 0) → Post 0) ∧ (¬ (x0 < 0) → ((3 ≤ x0) → Post 0) ∧ (¬ (3 ≤ x0) → ((x1 < 0) → Post 0) ∧ (¬ (x1 < 0) → ((4 ≤ x1) → Post 0) ∧ (¬ (4 ≤ x1) → Post 1))))
set_option maxRecDepth 100000 in
set_option maxHeartbeats 4000000 in
theorem c_X9_isMachine (l : Launch) (D : va_G) (E : Nat → ClassId)    (x0 : Int32) (x1 : Int32) {Post : Int32 → Prop} (h : w_X9_isMachine x0 x1  Post) : CtI l yX9_isMachine cX9_isMachine 2 .boolean ({ frames := 0, cells := 0, slots := 0, locals := 0 } : Room) D E [.int (x0), .int (x1)] [] (fun _ : Unit => []) (fun (r : Int32) (u : Unit) => Post r ) 0 0 := by
  refine enI (by decide +kernel) (Nat.le_of_ble_eq_true rfl) ?_
  intro p e s m args below meth c Q A ls hx hb hml hown hT hK hA hret hh hl
  have hl : lv_has ls 2 [(0, .int (x0)), (1, .int (x1))] := hl
  unfold w_X9_isMachine at h
  refine lv_iload_n hx hb dX9_isMachine_0 rfl (lv_at hl 0 rfl) ?_
  refine lv_if_lt (tgt := 22) hx hb dX9_isMachine_1 (by decide) (fun c1 => ?_) (fun c1 => ?_)
  · have h := h.1 c1
    refine lv_iconst (v := 0) hx hb dX9_isMachine_22 (by decide) ?_
    exact hret _ _ _ _ _ () dX9_isMachine_23 rfl h hh
  · have h := h.2 c1
    refine lv_iload_n hx hb dX9_isMachine_4 rfl (lv_at hl 0 rfl) ?_
    refine lv_iconst (v := 3) hx hb dX9_isMachine_5 (by decide) ?_
    refine lv_icmp_ge (tgt := 22) hx hb dX9_isMachine_6 (by decide) (fun c2 => ?_) (fun c2 => ?_)
    · have h := h.1 c2
      refine lv_iconst (v := 0) hx hb dX9_isMachine_22 (by decide) ?_
      exact hret _ _ _ _ _ () dX9_isMachine_23 rfl h hh
    · have h := h.2 c2
      refine lv_iload_n hx hb dX9_isMachine_9 rfl (lv_at hl 1 rfl) ?_
      refine lv_if_lt (tgt := 22) hx hb dX9_isMachine_10 (by decide) (fun c3 => ?_) (fun c3 => ?_)
      · have h := h.1 c3
        refine lv_iconst (v := 0) hx hb dX9_isMachine_22 (by decide) ?_
        exact hret _ _ _ _ _ () dX9_isMachine_23 rfl h hh
      · have h := h.2 c3
        refine lv_iload_n hx hb dX9_isMachine_13 rfl (lv_at hl 1 rfl) ?_
        refine lv_iconst (v := 4) hx hb dX9_isMachine_14 (by decide) ?_
        refine lv_icmp_ge (tgt := 22) hx hb dX9_isMachine_15 (by decide) (fun c4 => ?_) (fun c4 => ?_)
        · have h := h.1 c4
          refine lv_iconst (v := 0) hx hb dX9_isMachine_22 (by decide) ?_
          exact hret _ _ _ _ _ () dX9_isMachine_23 rfl h hh
        · have h := h.2 c4
          refine lv_iconst (v := 1) hx hb dX9_isMachine_18 (by decide) ?_
          refine lv_goto (tgt := 23) hx hb dX9_isMachine_19 (by decide) ?_
          exact hret _ _ _ _ _ () dX9_isMachine_23 rfl h hh

def w_X9_nextDraw (x0 : Int64)  (Post : Int64 → Prop) : Prop := Post ((x0 * 6364136223846793005) + 1442695040888963407)
set_option maxRecDepth 100000 in
set_option maxHeartbeats 4000000 in
theorem c_X9_nextDraw (l : Launch) (D : va_G) (E : Nat → ClassId)    (x0 : Int64) {Post : Int64 → Prop} (h : w_X9_nextDraw x0  Post) : CtL l yX9_nextDraw cX9_nextDraw 2 ({ frames := 0, cells := 0, slots := 0, locals := 0 } : Room) D E [.long (x0)] [] (fun _ : Unit => []) (fun (r : Int64) (u : Unit) => Post r ) 0 0 := by
  refine enL (by decide +kernel) (Nat.le_of_ble_eq_true rfl) ?_
  intro p e s m args below meth c Q A ls hx hb hml hown hT hK hA hret hh hl
  have hl : lv_has ls 2 [(0, .long (x0))] := hl
  unfold w_X9_nextDraw at h
  refine lv_lload_n hx hb dX9_nextDraw_0 rfl (lv_at hl 0 rfl) ?_
  refine lv_ldc2 (v := 6364136223846793005) hx hb hown (hT _ kcL_X9_221) dX9_nextDraw_1 ?_
  refine lv_lmul hx hb dX9_nextDraw_4 ?_
  refine lv_ldc2 (v := 1442695040888963407) hx hb hown (hT _ kcL_X9_223) dX9_nextDraw_5 ?_
  refine lv_ladd hx hb dX9_nextDraw_8 ?_
  exact hret _ _ _ _ _ () dX9_nextDraw_9 h hh

def w_X9_numberOf (x0 : Int64) (x2 : Int32)  (Post : Int32 → Prop) : Prop := Post ((us32 ((us32 x0) * x2.toInt64)).toInt32)
set_option maxRecDepth 100000 in
set_option maxHeartbeats 4000000 in
theorem c_X9_numberOf (l : Launch) (D : va_G) (E : Nat → ClassId)    (x0 : Int64) (x2 : Int32) {Post : Int32 → Prop} (h : w_X9_numberOf x0 x2  Post) : CtI l yX9_numberOf cX9_numberOf 3 .int ({ frames := 0, cells := 0, slots := 0, locals := 0 } : Room) D E [.long (x0), .int (x2)] [] (fun _ : Unit => []) (fun (r : Int32) (u : Unit) => Post r ) 0 0 := by
  refine enI (by decide +kernel) (Nat.le_of_ble_eq_true rfl) ?_
  intro p e s m args below meth c Q A ls hx hb hml hown hT hK hA hret hh hl
  have hl : lv_has ls 3 [(0, .long (x0)), (2, .int (x2))] := hl
  unfold w_X9_numberOf at h
  refine lv_lload_n hx hb dX9_numberOf_0 rfl (lv_at hl 0 rfl) ?_
  refine lv_bipush (v := 32) hx hb dX9_numberOf_1 (by decide) ?_
  refine lv_lushr (v := us32 x0) hx hb dX9_numberOf_3 rfl ?_
  refine lv_iload_n hx hb dX9_numberOf_4 rfl (lv_at hl 1 rfl) ?_
  refine lv_i2l (v := x2.toInt64) hx hb dX9_numberOf_5 rfl ?_
  refine lv_lmul hx hb dX9_numberOf_6 ?_
  refine lv_bipush (v := 32) hx hb dX9_numberOf_7 (by decide) ?_
  refine lv_lushr (v := us32 ((us32 x0) * x2.toInt64)) hx hb dX9_numberOf_9 rfl ?_
  refine lv_l2i (v := (us32 ((us32 x0) * x2.toInt64)).toInt32) hx hb dX9_numberOf_10 rfl ?_
  exact hret _ _ _ _ _ () dX9_numberOf_11 rfl h hh

def w_X5_at (x1 : Int32) (k : Ob) (Post : Option Nat → Ob → Prop) : Prop := ((x1 < 0) → Post none k) ∧ (¬ (x1 < 0) → (((k.2.1 1) ≤ x1) → Post none k) ∧ (¬ ((k.2.1 1) ≤ x1) → ((30 ≤ x1) → Post none k) ∧ (¬ (30 ≤ x1) → vp_in x1 30 ∧ ((x1.toNatClampNeg < (k.2.1 1).toNatClampNeg → Post (some ((x1.toNatClampNeg))) k) ∧ (¬ x1.toNatClampNeg < (k.2.1 1).toNatClampNeg → Post none k)))))
set_option maxRecDepth 100000 in
set_option maxHeartbeats 4000000 in
theorem c_X5_at (l : Launch) (D : va_G) (E : Nat → ClassId) (ad : Nat → Nat → Nat)  (k : Ob) (x1 : Int32) {Post : Option Nat → Ob → Prop} (h : w_X5_at x1 k Post) : CtE l yX5_at cX5_at 2 (.object "CaseTrials$Maker") ({ frames := 0, cells := 0, slots := 0, locals := 0 } : Room) D E (ad 21) [.ref (ad 4 0), .int (x1)] (List.flatten [bX5 ad E k]) (fun u : Ob => List.flatten [bX5 ad E u]) Post 0 0 := by
  refine enE (by decide +kernel) (Nat.le_of_ble_eq_true rfl) ?_
  intro p e s m args below meth c Q A ls hx hb hml hown hT hK hA hret hh hl
  have hl : lv_has ls 2 [(0, .ref (ad 4 0)), (1, .int (x1))] := hl
  unfold w_X5_at at h
  refine lv_iload_n hx hb dX5_at_0 rfl (lv_at hl 1 rfl) ?_
  refine lv_if_lt (tgt := 27) hx hb dX5_at_1 (by decide) (fun c1 => ?_) (fun c1 => ?_)
  · have h := h.1 c1
    refine lv_null hx hb dX5_at_27 ?_
    exact hret _ _ _ _ none k dX5_at_28 h hh
  · have h := h.2 c1
    refine lv_iload_n hx hb dX5_at_4 rfl (lv_at hl 1 rfl) ?_
    refine lv_aload_n hx hb dX5_at_5 rfl (lv_at hl 0 rfl) ?_
    refine G_X5_17 [] [] hx hb hT hown hK hh (v := k.2.1 1) rfl dX5_at_6 ?_
    refine lv_icmp_ge (tgt := 27) hx hb dX5_at_9 (by decide) (fun c2 => ?_) (fun c2 => ?_)
    · have h := h.1 c2
      refine lv_null hx hb dX5_at_27 ?_
      exact hret _ _ _ _ none k dX5_at_28 h hh
    · have h := h.2 c2
      refine lv_iload_n hx hb dX5_at_12 rfl (lv_at hl 1 rfl) ?_
      refine lv_bipush (v := 30) hx hb dX5_at_13 (by decide) ?_
      refine lv_icmp_ge (tgt := 27) hx hb dX5_at_15 (by decide) (fun c3 => ?_) (fun c3 => ?_)
      · have h := h.1 c3
        refine lv_null hx hb dX5_at_27 ?_
        exact hret _ _ _ _ none k dX5_at_28 h hh
      · have h := h.2 c3
        refine lv_aload_n hx hb dX5_at_18 rfl (lv_at hl 0 rfl) ?_
        refine G_X5_11 [] [] hx hb hT hown hK hh dX5_at_19 ?_
        refine lv_iload_n hx hb dX5_at_22 rfl (lv_at hl 1 rfl) ?_
        obtain ⟨g4, h⟩ := h
        refine Q_X5 [] [] hx hb hK hh g4 dX5_at_23 (fun c5 => ?_) (fun c5 => ?_)
        · have h := h.1 c5
          refine lv_goto (tgt := 28) hx hb dX5_at_24 (by decide) ?_
          exact hret _ _ _ _ (some ((x1.toNatClampNeg))) k dX5_at_28 h hh
        · have h := h.2 c5
          refine lv_goto (tgt := 28) hx hb dX5_at_24 (by decide) ?_
          exact hret _ _ _ _ none k dX5_at_28 h hh

def w_X5_begin (x1 : Int64) (x3 : Int32) (k : Ob) (kt : Ob) (Post : Ob → Ob → Prop) : Prop := w_X8_cut  (0 : Int32) kt (fun (kt_2 : Ob) => Post (((sl k.1 5 x1), (upd k.2.1 6 x3), k.2.2)) kt_2)
set_option maxRecDepth 100000 in
set_option maxHeartbeats 4000000 in
theorem c_X5_begin (l : Launch) (D : va_G) (E : Nat → ClassId) (ad : Nat → Nat → Nat)  (k : Ob) (kt : Ob) (x1 : Int64) (x3 : Int32) {Post : Ob → Ob → Prop} (h : w_X5_begin x1 x3 k kt Post) : CtV l yX5_begin cX5_begin 4 ({ frames := 1, cells := 0, slots := 0, locals := 21 } : Room) D E [.ref (ad 4 0), .long (x1), .int (x3)] (List.flatten [bX5 ad E k, bX8 (ad 5) E kt]) (fun u : Ob × Ob => List.flatten [bX5 ad E u.1, bX8 (ad 5) E u.2]) (fun u : Ob × Ob => Post u.1 u.2) 0 0 := by
  refine enV (by decide +kernel) (Nat.le_of_ble_eq_true rfl) ?_
  intro p e s m args below meth c Q A ls hx hb hml hown hT hK hA hin0 hret hh hl
  have hl : lv_has ls 4 [(0, .ref (ad 4 0)), (1, .long (x1)), (3, .int (x3))] := hl
  unfold w_X5_begin at h
  refine lv_aload_n hx hb dX5_begin_0 rfl (lv_at hl 0 rfl) ?_
  refine G_X5_24 [] [_] hx hb hT hown hK hh dX5_begin_1 ?_
  refine lv_iconst (v := 0) hx hb dX5_begin_4 (by decide) ?_
  have hc := hh.cut [_] [_] [1, 0] 2 rfl (by decide) rfl
  refine kV hc hA (rnVN hx hb hml hown hT hK hc (c_X8_cut l D E (ad 5)  kt (0 : Int32) h _) mf_X8_cut nml_X5_49 ⟨rfl, rfl, Nat.le_of_ble_eq_true rfl, Nat.le_of_ble_eq_true rfl⟩ ⟨Nat.le_of_ble_eq_true rfl, Nat.le_of_ble_eq_true rfl⟩ 8 0 rfl rfl hl.1 rfl dX5_begin_5 (Nat.le_of_ble_eq_true rfl) rfl) (fun kt_2 H locs h hh => ?_)
  have hh : Wh D A s.heap ((List.flatten [bX5 ad E k, bX8 (ad 5) E kt_2])) _ _ := Wh.back (cs := [_]) (rs := [_]) _ [1, 0] 2 rfl (by decide) rfl hh
  refine lv_aload_n hx hb dX5_begin_8 rfl (lv_at hl 0 rfl) ?_
  refine lv_lload_n hx hb dX5_begin_9 rfl (lv_at hl 1 rfl) ?_
  refine P_X5_35 [] [_] hx hb hT hown hK hh dX5_begin_10 (fun H locs (hh : Wh D A s.heap ((List.flatten [bX5 ad E (((sl k.1 5 x1), k.2.1, k.2.2)), bX8 (ad 5) E kt_2])) H locs) => ?_)
  refine lv_aload_n hx hb dX5_begin_13 rfl (lv_at hl 0 rfl) ?_
  refine lv_iload_n hx hb dX5_begin_14 rfl (lv_at hl 2 rfl) ?_
  refine P_X5_39 [] [_] hx hb hT hown hK hh dX5_begin_15 (fun H locs (hh : Wh D A s.heap ((List.flatten [bX5 ad E (((sl k.1 5 x1), (upd k.2.1 6 x3), k.2.2)), bX8 (ad 5) E kt_2])) H locs) => ?_)
  exact hret _ _ _ _ (((sl k.1 5 x1), (upd k.2.1 6 x3), k.2.2), kt_2) dX5_begin_18 h hh

def w_X5_numberBelow (x1 : Int32) (k : Ob) (Post : Int32 → Ob → Prop) : Prop := w_X9_nextDraw  (k.1 5)  (fun (r1 : Int64) => w_X9_numberOf  r1 x1  (fun (r2 : Int32) => Post r2 (((sl k.1 5 r1), k.2.1, k.2.2))))
set_option maxRecDepth 100000 in
set_option maxHeartbeats 4000000 in
theorem c_X5_numberBelow (l : Launch) (D : va_G) (E : Nat → ClassId) (ad : Nat → Nat → Nat)  (k : Ob) (x1 : Int32) {Post : Int32 → Ob → Prop} (h : w_X5_numberBelow x1 k Post) : CtI l yX5_numberBelow cX5_numberBelow 2 .int ({ frames := 1, cells := 0, slots := 0, locals := 22 } : Room) D E [.ref (ad 4 0), .int (x1)] (List.flatten [bX5 ad E k]) (fun u : Ob => List.flatten [bX5 ad E u]) Post 0 0 := by
  refine enI (by decide +kernel) (Nat.le_of_ble_eq_true rfl) ?_
  intro p e s m args below meth c Q A ls hx hb hml hown hT hK hA hret hh hl
  have hl : lv_has ls 2 [(0, .ref (ad 4 0)), (1, .int (x1))] := hl
  unfold w_X5_numberBelow at h
  refine lv_aload_n hx hb dX5_numberBelow_0 rfl (lv_at hl 0 rfl) ?_
  refine lv_aload_n hx hb dX5_numberBelow_1 rfl (lv_at hl 0 rfl) ?_
  refine G_X5_35 [] [] hx hb hT hown hK hh (v := k.1 5) rfl dX5_numberBelow_2 ?_
  refine kL hh.none hA (rnSN hx hb hml hown hT hK hh.none (c_X9_nextDraw l D E    (k.1 5) h _) mf_X9_nextDraw nml_X5_53 ⟨rfl, rfl, Nat.le_of_ble_eq_true rfl, Nat.le_of_ble_eq_true rfl⟩ ⟨Nat.le_of_ble_eq_true rfl, Nat.le_of_ble_eq_true rfl⟩ hl.1 rfl dX5_numberBelow_5 (Nat.le_of_ble_eq_true rfl) rfl) (fun r1 u H locs h hh => ?_)
  have hh : Wh D A s.heap ((List.flatten [bX5 ad E k])) _ _ := hh.unone
  refine P_X5_35 [] [] hx hb hT hown hK hh dX5_numberBelow_8 (fun H locs (hh : Wh D A s.heap ((List.flatten [bX5 ad E (((sl k.1 5 r1), k.2.1, k.2.2))])) H locs) => ?_)
  refine lv_aload_n hx hb dX5_numberBelow_11 rfl (lv_at hl 0 rfl) ?_
  refine G_X5_35 [] [] hx hb hT hown hK hh (v := r1) rfl dX5_numberBelow_12 ?_
  refine lv_iload_n hx hb dX5_numberBelow_15 rfl (lv_at hl 1 rfl) ?_
  refine kI hh.none hA (rnSN hx hb hml hown hT hK hh.none (c_X9_numberOf l D E    r1 x1 h _) mf_X9_numberOf nml_X5_57 ⟨rfl, rfl, Nat.le_of_ble_eq_true rfl, Nat.le_of_ble_eq_true rfl⟩ ⟨Nat.le_of_ble_eq_true rfl, Nat.le_of_ble_eq_true rfl⟩ hl.1 rfl dX5_numberBelow_16 (Nat.le_of_ble_eq_true rfl) rfl) (fun r2 u H locs h hh => ?_)
  have hh : Wh D A s.heap ((List.flatten [bX5 ad E (((sl k.1 5 r1), k.2.1, k.2.2))])) _ _ := hh.unone
  exact hret _ _ _ _ _ ((sl k.1 5 r1), k.2.1, k.2.2) dX5_numberBelow_19 rfl h hh

def rmG (d : Nat) : Room := { frames := 20 + 2 * d, cells := 0, slots := 0, locals := 300 + 100 * d }
def rmH (d : Nat) : Room := { frames := 21 + 2 * d, cells := 0, slots := 0, locals := 350 + 100 * d }
theorem rmH_fr {d n : Nat} (h : n ≤ 20) : n + 1 ≤ (rmH d).frames := by show n + 1 ≤ 21 + 2 * d; omega
theorem rmH_lo {d n : Nat} (h : n ≤ 350) : n ≤ (rmH d).locals := by show n ≤ 350 + 100 * d; omega
theorem rmH_frG {d : Nat} : (rmG d).frames + 1 ≤ (rmH d).frames := by show 20 + 2 * d + 1 ≤ 21 + 2 * d; omega
theorem rmH_loG {d n : Nat} (h : n ≤ 50) : n + (rmG d).locals ≤ (rmH d).locals := by show n + (300 + 100 * d) ≤ 350 + 100 * d; omega
theorem rmG1_fr {d n : Nat} (h : n ≤ 20) : n + 1 ≤ (rmG (d + 1)).frames := by show n + 1 ≤ 20 + 2 * (d + 1); omega
theorem rmG1_lo {d n : Nat} (h : n ≤ 350) : n ≤ (rmG (d + 1)).locals := by show n ≤ 300 + 100 * (d + 1); omega
theorem rmG1_frG {d : Nat} : (rmG d).frames + 1 ≤ (rmG (d + 1)).frames := by show 20 + 2 * d + 1 ≤ 20 + 2 * (d + 1); omega
theorem rmG1_loG {d n : Nat} (h : n ≤ 50) : n + (rmG d).locals ≤ (rmG (d + 1)).locals := by show n + (300 + 100 * d) ≤ 300 + 100 * (d + 1); omega
theorem rmG1_frH {d : Nat} : (rmH d).frames + 1 ≤ (rmG (d + 1)).frames := by show 21 + 2 * d + 1 ≤ 20 + 2 * (d + 1); omega
theorem rmG1_loH {d n : Nat} (h : n ≤ 50) : n + (rmH d).locals ≤ (rmG (d + 1)).locals := by show n + (350 + 100 * d) ≤ 300 + 100 * (d + 1); omega

def w_X5_growList_L32 (ck : Nat → Ob) (mk : Nat → Ob) (G : Int32 → Int32 → Int32 → Ob → Ob → Ob → Ob → Ob → Ob → (Int32 → Ob → Ob → Ob → Ob → Ob → Ob → Prop) → Prop) (f1_32 : Nat) (f2_32 : Int32) (f3_32 : Int32) (f4_32 : Int32)  (Post : Int32 → Ob → Ob → Ob → Ob → Ob → Ob → Prop) : Nat → Int32 → Ob → Ob → Ob → Ob → Ob → Ob → Prop
  | 0, _, _, _, _, _, _, _ => False
  | n32 + 1, p5_32, k_32, kt_32, kl_32, j_32, mc_32, md_32 => ((f4_32 ≤ p5_32) → Post 1 k_32 kt_32 kl_32 j_32 mc_32 md_32) ∧ (¬ (f4_32 ≤ p5_32) → f1_32 < (k_32.2.1 1).toNatClampNeg ∧ (G ((mk f1_32).2.1 1) f2_32 (f3_32 + 1) k_32 kt_32 kl_32 j_32 mc_32 md_32 (fun (r10 : Int32) (k_11 : Ob) (kt_12 : Ob) (kl_13 : Ob) (j_14 : Ob) (mc_15 : Ob) (md_16 : Ob) => ((r10 = 1) → w_X5_growList_L32 ck mk G f1_32 f2_32 f3_32 f4_32  Post n32 (p5_32 + 1) k_11 kt_12 kl_13 j_14 mc_15 md_16) ∧ (¬ (r10 = 1) → Post r10 k_11 kt_12 kl_13 j_14 mc_15 md_16))))
def w_X5_growList (ck : Nat → Ob) (mk : Nat → Ob) (G : Int32 → Int32 → Int32 → Ob → Ob → Ob → Ob → Ob → Ob → (Int32 → Ob → Ob → Ob → Ob → Ob → Ob → Prop) → Prop) (x1 : Nat) (x2 : Int32) (x3 : Int32) (k : Ob) (kt : Ob) (kl : Ob) (j : Ob) (mc : Ob) (md : Ob) (Post : Int32 → Ob → Ob → Ob → Ob → Ob → Ob → Prop) : Prop := x1 < (k.2.1 1).toNatClampNeg ∧ (w_J9_min_7cf53  ((mk x1).2.1 2) (k.2.1 6)  (fun (r2 : Int32) => w_X5_numberBelow  (1 + r2) k (fun (r3 : Int32) (k_4 : Ob) => (k_4.2.1 1 = k.2.1 1) ∧ (w_X8_setValue  x2 r3 kt (fun (kt_7 : Ob) => ∃ n32, w_X5_growList_L32 ck mk G x1 x2 x3 r3  Post n32 0 k_4 kt_7 kl j mc md)))))
set_option maxRecDepth 100000 in
set_option maxHeartbeats 4000000 in
theorem c_X5_growList (l : Launch) (D : va_G) (E : Nat → ClassId) (ad : Nat → Nat → Nat) (ck : Nat → Ob) (mk : Nat → Ob) {dd : Nat} (G : Int32 → Int32 → Int32 → Ob → Ob → Ob → Ob → Ob → Ob → (Int32 → Ob → Ob → Ob → Ob → Ob → Ob → Prop) → Prop)  (hG : ∀ (x1 x2 x3 : Int32) (k kt kl j mc md : Ob) (Post : Int32 → Ob → Ob → Ob → Ob → Ob → Ob → Prop), G x1 x2 x3 k kt kl j mc md Post → CtI l yX5_grow cX5_grow 8 .int (rmG dd) D E [.ref (ad 4 0), .int (x1), .int (x2), .int (x3)] (List.flatten [bX5 ad E k, bX8 (ad 5) E kt, bX2 (ad 6) E kl, bX1 ad E j, bX3 (ad 2) E mc, bX3 (ad 3) E md, dC ad E ck (j.2.1 1).toNatClampNeg, dK ad E mk (k.2.1 1).toNatClampNeg]) (fun u : Ob × Ob × Ob × Ob × Ob × Ob => List.flatten [bX5 ad E u.1, bX8 (ad 5) E u.2.1, bX2 (ad 6) E u.2.2.1, bX1 ad E u.2.2.2.1, bX3 (ad 2) E u.2.2.2.2.1, bX3 (ad 3) E u.2.2.2.2.2, dC ad E ck (u.2.2.2.1.2.1 1).toNatClampNeg, dK ad E mk (u.1.2.1 1).toNatClampNeg]) (fun (r : Int32) (u : Ob × Ob × Ob × Ob × Ob × Ob) => Post r u.1 u.2.1 u.2.2.1 u.2.2.2.1 u.2.2.2.2.1 u.2.2.2.2.2) 0 0) (k : Ob) (kt : Ob) (kl : Ob) (j : Ob) (mc : Ob) (md : Ob) (x1 : Nat) (x2 : Int32) (x3 : Int32) {Post : Int32 → Ob → Ob → Ob → Ob → Ob → Ob → Prop} (h : w_X5_growList ck mk G x1 x2 x3 k kt kl j mc md Post) : CtI l yX5_growList cX5_growList 7 .int (rmH dd) D E [.ref (ad 4 0), .ref (ad 21 x1), .int (x2), .int (x3)] (List.flatten [bX5 ad E k, bX8 (ad 5) E kt, bX2 (ad 6) E kl, bX1 ad E j, bX3 (ad 2) E mc, bX3 (ad 3) E md, dC ad E ck (j.2.1 1).toNatClampNeg, dK ad E mk (k.2.1 1).toNatClampNeg]) (fun u : Ob × Ob × Ob × Ob × Ob × Ob => List.flatten [bX5 ad E u.1, bX8 (ad 5) E u.2.1, bX2 (ad 6) E u.2.2.1, bX1 ad E u.2.2.2.1, bX3 (ad 2) E u.2.2.2.2.1, bX3 (ad 3) E u.2.2.2.2.2, dC ad E ck (u.2.2.2.1.2.1 1).toNatClampNeg, dK ad E mk (u.1.2.1 1).toNatClampNeg]) (fun (r : Int32) (u : Ob × Ob × Ob × Ob × Ob × Ob) => Post r u.1 u.2.1 u.2.2.1 u.2.2.2.1 u.2.2.2.2.1 u.2.2.2.2.2) 0 0 := by
  refine enI (by decide +kernel) (Nat.le_of_ble_eq_true rfl) ?_
  intro p e s m args below meth c Q A ls hx hb hml hown hT hK hA hret hh hl
  have hl : lv_has ls 7 [(0, .ref (ad 4 0)), (1, .ref (ad 21 x1)), (2, .int (x2)), (3, .int (x3))] := hl
  unfold w_X5_growList at h
  refine lv_aload_n hx hb dX5_growList_0 rfl (lv_at hl 0 rfl) ?_
  refine lv_iconst (v := 1) hx hb dX5_growList_1 (by decide) ?_
  refine lv_aload_n hx hb dX5_growList_2 rfl (lv_at hl 1 rfl) ?_
  obtain ⟨g1, h⟩ := h
  refine DG_X5_75 [_, _, _, _, _, _, _] [] hx hb hT hown hK hh g1 (v := (mk x1).2.1 2) rfl dX5_growList_3 ?_
  refine lv_aload_n hx hb dX5_growList_6 rfl (lv_at hl 0 rfl) ?_
  refine G_X5_39 [] [_, _, _, _, _, _, _] hx hb hT hown hK hh (v := k.2.1 6) rfl dX5_growList_7 ?_
  refine kI hh.none hA (rnS hx hb hml hown hT hK hh.none (c_J9_min_7cf53 l D E    ((mk x1).2.1 2) (k.2.1 6) h _) mf_J9_min_7cf53 kml_X5_86 ⟨rfl, rfl, rmH_fr (Nat.le_of_ble_eq_true rfl), rmH_lo (Nat.le_of_ble_eq_true rfl)⟩ ⟨Nat.le_refl 0, Nat.le_refl 0⟩ hl.1 rfl dX5_growList_10 (Nat.le_of_ble_eq_true rfl) rfl) (fun r2 u H locs h hh => ?_)
  have hh : Wh D A s.heap ((List.flatten [bX5 ad E k, bX8 (ad 5) E kt, bX2 (ad 6) E kl, bX1 ad E j, bX3 (ad 2) E mc, bX3 (ad 3) E md, dC ad E ck (j.2.1 1).toNatClampNeg, dK ad E mk (k.2.1 1).toNatClampNeg])) _ _ := hh.unone
  refine lv_iadd hx hb dX5_growList_13 ?_
  have hc := hh.cut [_] [_, _, _, _, _, _, _] [0, 1, 2, 3, 4, 5, 6, 7] 8 rfl (by decide) rfl
  refine kI hc hA (rnV hx hb hml hown hT hK hc (c_X5_numberBelow l D E ad  k (1 + r2) h _) mf_X5_numberBelow kml_X5_78 ⟨rfl, rfl, rmH_fr (Nat.le_of_ble_eq_true rfl), rmH_lo (Nat.le_of_ble_eq_true rfl)⟩ ⟨Nat.le_refl 0, Nat.le_refl 0⟩ 5 0 rfl rfl hl.1 rfl dX5_growList_14 (Nat.le_of_ble_eq_true rfl) rfl) (fun r3 k_4 H locs h hh => ?_)
  obtain ⟨g5, h⟩ := h
  rw [← g5] at hh
  have hh : Wh D A s.heap ((List.flatten [bX5 ad E k_4, bX8 (ad 5) E kt, bX2 (ad 6) E kl, bX1 ad E j, bX3 (ad 2) E mc, bX3 (ad 3) E md, dC ad E ck (j.2.1 1).toNatClampNeg, dK ad E mk (k_4.2.1 1).toNatClampNeg])) _ _ := Wh.back (cs := [_]) (rs := [_, _, _, _, _, _, _]) _ [0, 1, 2, 3, 4, 5, 6, 7] 8 rfl (by decide) rfl hh
  refine lv_istore (lv' := [(4, .int (r3)), (0, .ref (ad 4 0)), (1, .ref (ad 21 x1)), (2, .int (x2)), (3, .int (x3))]) hx hb dX5_growList_17 hl (by decide) rfl (fun ls hl => ?_)
  refine lv_aload_n hx hb dX5_growList_19 rfl (lv_at hl 1 rfl) ?_
  refine G_X5_24 [] [_, _, _, _, _, _, _] hx hb hT hown hK hh dX5_growList_20 ?_
  refine lv_iload_n hx hb dX5_growList_23 rfl (lv_at hl 3 rfl) ?_
  refine lv_iload hx hb dX5_growList_24 (lv_at hl 0 rfl) ?_
  have hc := hh.cut [_] [_, _, _, _, _, _, _] [1, 0, 2, 3, 4, 5, 6, 7] 8 rfl (by decide) rfl
  refine kV hc hA (rnVN hx hb hml hown hT hK hc (c_X8_setValue l D E (ad 5)  kt x2 r3 h _) mf_X8_setValue nml_X5_82 ⟨rfl, rfl, rmH_fr (Nat.le_of_ble_eq_true rfl), rmH_lo (Nat.le_of_ble_eq_true rfl)⟩ ⟨Nat.le_refl 0, Nat.le_refl 0⟩ 8 0 rfl rfl hl.1 rfl dX5_growList_26 (Nat.le_of_ble_eq_true rfl) rfl) (fun kt_7 H locs h hh => ?_)
  have hh : Wh D A s.heap ((List.flatten [bX5 ad E k_4, bX8 (ad 5) E kt_7, bX2 (ad 6) E kl, bX1 ad E j, bX3 (ad 2) E mc, bX3 (ad 3) E md, dC ad E ck (j.2.1 1).toNatClampNeg, dK ad E mk (k_4.2.1 1).toNatClampNeg])) _ _ := Wh.back (cs := [_]) (rs := [_, _, _, _, _, _, _]) _ [1, 0, 2, 3, 4, 5, 6, 7] 8 rfl (by decide) rfl hh
  refine lv_iconst (v := 0) hx hb dX5_growList_29 (by decide) ?_
  refine lv_istore (lv' := [(5, .int (0)), (4, .int (r3)), (0, .ref (ad 4 0)), (1, .ref (ad 21 x1)), (2, .int (x2)), (3, .int (x3))]) hx hb dX5_growList_30 hl (by decide) rfl (fun ls hl => ?_)
  have hw32 : ∀   (n : Nat) (p5_32 : Int32) (k_32 : Ob) (kt_32 : Ob) (kl_32 : Ob) (j_32 : Ob) (mc_32 : Ob) (md_32 : Ob) (H : Heap) (locs : List Loc) (ls : Array Slot), w_X5_growList_L32 ck mk G x1 x2 x3 r3  Post n p5_32 k_32 kt_32 kl_32 j_32 mc_32 md_32 → Wh D A s.heap ((List.flatten [bX5 ad E k_32, bX8 (ad 5) E kt_32, bX2 (ad 6) E kl_32, bX1 ad E j_32, bX3 (ad 2) E mc_32, bX3 (ad 3) E md_32, dC ad E ck (j_32.2.1 1).toNatClampNeg, dK ad E mk (k_32.2.1 1).toNatClampNeg])) H locs → lv_has ls 7 [(0, .ref (ad 4 0)), (1, .ref (ad 21 x1)), (2, .int (x2)), (3, .int (x3)), (4, .int (r3)), (5, .int (p5_32))] → W p l e (rmH dd) s m args below meth c H locs 0 0 Q (F0 m 32 ls []) := by
    intro   n
    induction n with
    | zero => intro p5_32 k_32 kt_32 kl_32 j_32 mc_32 md_32 H locs ls h hh hl; exact False.elim h
    | succ n ih =>
      intro p5_32 k_32 kt_32 kl_32 j_32 mc_32 md_32 H locs ls h hh hl
      refine lv_iload hx hb dX5_growList_32 (lv_at hl 5 rfl) ?_
      refine lv_iload hx hb dX5_growList_34 (lv_at hl 4 rfl) ?_
      refine lv_icmp_ge (tgt := 68) hx hb dX5_growList_36 (by decide) (fun c8 => ?_) (fun c8 => ?_)
      · have h := h.1 c8
        refine lv_iconst (v := 1) hx hb dX5_growList_68 (by decide) ?_
        exact hret _ _ _ _ _ (k_32, kt_32, kl_32, j_32, mc_32, md_32) dX5_growList_69 rfl h hh
      · have h := h.2 c8
        refine lv_aload_n hx hb dX5_growList_39 rfl (lv_at hl 0 rfl) ?_
        refine lv_aload_n hx hb dX5_growList_40 rfl (lv_at hl 1 rfl) ?_
        obtain ⟨g9, h⟩ := h
        refine DG_X5_72 [_, _, _, _, _, _, _] [] hx hb hT hown hK hh g9 (v := (mk x1).2.1 1) rfl dX5_growList_41 ?_
        refine lv_iload_n hx hb dX5_growList_44 rfl (lv_at hl 2 rfl) ?_
        refine lv_iload_n hx hb dX5_growList_45 rfl (lv_at hl 3 rfl) ?_
        refine lv_iconst (v := 1) hx hb dX5_growList_46 (by decide) ?_
        refine lv_iadd hx hb dX5_growList_47 ?_
        refine kI hh.ap0 hA (rnV hx hb hml hown hT hK hh.ap0 (hG ((mk x1).2.1 1) x2 (x3 + 1) k_32 kt_32 kl_32 j_32 mc_32 md_32 _ h _) mf_X5_grow kml_X5_102 ⟨rfl, rfl, rmH_frG, rmH_loG (Nat.le_of_ble_eq_true rfl)⟩ ⟨Nat.le_refl 0, Nat.le_refl 0⟩ 5 0 rfl rfl hl.1 rfl dX5_growList_48 (Nat.le_of_ble_eq_true rfl) rfl) (fun r10 u H locs h hh => ?_)
        obtain ⟨k_11, kt_12, kl_13, j_14, mc_15, md_16⟩ := u
        have hh : Wh D A s.heap ((List.flatten [bX5 ad E k_11, bX8 (ad 5) E kt_12, bX2 (ad 6) E kl_13, bX1 ad E j_14, bX3 (ad 2) E mc_15, bX3 (ad 3) E md_16, dC ad E ck (j_14.2.1 1).toNatClampNeg, dK ad E mk (k_11.2.1 1).toNatClampNeg])) _ _ := hh.un0
        refine lv_istore (lv' := [(6, .int (r10)), (0, .ref (ad 4 0)), (1, .ref (ad 21 x1)), (2, .int (x2)), (3, .int (x3)), (4, .int (r3)), (5, .int (p5_32))]) hx hb dX5_growList_51 hl (by decide) rfl (fun ls hl => ?_)
        refine lv_iload hx hb dX5_growList_53 (lv_at hl 0 rfl) ?_
        refine lv_iconst (v := 1) hx hb dX5_growList_55 (by decide) ?_
        refine lv_icmp_eq (tgt := 62) hx hb dX5_growList_56 (by decide) (fun c17 => ?_) (fun c17 => ?_)
        · have h := h.1 c17
          refine lv_iinc (v := p5_32 + 1) (lv' := [(5, .int (p5_32 + 1)), (6, .int (r10)), (0, .ref (ad 4 0)), (1, .ref (ad 21 x1)), (2, .int (x2)), (3, .int (x3)), (4, .int (r3))]) hx hb dX5_growList_62 hl (k := 6) rfl (by rfl) (by decide) rfl (fun ls hl => ?_)
          refine lv_goto (tgt := 32) hx hb dX5_growList_65 (by decide) ?_
          exact ih (p5_32 + 1) k_11 kt_12 kl_13 j_14 mc_15 md_16 _ _ _ h hh (lv_sub hl [2, 3, 4, 5, 6, 0] rfl)
        · have h := h.2 c17
          refine lv_iload hx hb dX5_growList_59 (lv_at hl 0 rfl) ?_
          exact hret _ _ _ _ _ (k_11, kt_12, kl_13, j_14, mc_15, md_16) dX5_growList_61 rfl h hh
  obtain ⟨n, h⟩ := h
  refine hw32   n 0 k_4 kt_7 kl j mc md _ _ _ h hh (lv_sub hl [2, 3, 4, 5, 1, 0] rfl)

def w_X5_growPicked_L15 (ck : Nat → Ob) (mk : Nat → Ob) (G : Int32 → Int32 → Int32 → Ob → Ob → Ob → Ob → Ob → Ob → (Int32 → Ob → Ob → Ob → Ob → Ob → Ob → Prop) → Prop) (f1_15 : Nat) (f2_15 : Int32) (f3_15 : Int32) (K111_15 : Int32 → Ob → Ob → Ob → Ob → Ob → Ob → Prop) (Post : Int32 → Ob → Ob → Ob → Ob → Ob → Ob → Prop) : Nat → Int32 → Ob → Ob → Ob → Ob → Ob → Ob → Prop
  | 0, _, _, _, _, _, _, _ => False
  | n15 + 1, p4_15, k_15, kt_15, kl_15, j_15, mc_15, md_15 => ((8 ≤ p4_15) → Post ((-5)) k_15 kt_15 kl_15 j_15 mc_15 md_15) ∧ (¬ (8 ≤ p4_15) → w_X8_cut  (f2_15 + 1) kt_15 (fun (kt_6 : Ob) => f1_15 < (k_15.2.1 1).toNatClampNeg ∧ (G ((mk f1_15).2.1 1) f2_15 (f3_15 + 1) k_15 kt_6 kl_15 j_15 mc_15 md_15 (fun (r8 : Int32) (k_9 : Ob) (kt_10 : Ob) (kl_11 : Ob) (j_12 : Ob) (mc_13 : Ob) (md_14 : Ob) => ((r8 = 1) → w_X1_pay   j_12 (fun (r16 : Int32) (j_17 : Ob) => (j_17.2.1 1 = j_12.2.1 1) ∧ (((¬ r16 = 0) → w_X8_gather  (f2_15 + 1) (kt_10.2.1 6) kt_10 kl_11 (fun (kt_21 : Ob) (kl_22 : Ob) => f1_15 < (k_9.2.1 1).toNatClampNeg ∧ (w_X1_verdict ck ((mk f1_15).2.1 2) j_17 mc_13 md_14 kl_22 (fun (r24 : Int32) (j_25 : Ob) (mc_26 : Ob) (md_27 : Ob) (kl_28 : Ob) => ((r24 = 0) → w_X5_growPicked_L15 ck mk G f1_15 f2_15 f3_15 K111_15 Post n15 (p4_15 + 1) k_9 kt_21 kl_28 j_25 mc_26 md_27) ∧ (¬ (r24 = 0) → K111_15 r24 k_9 kt_21 kl_28 j_25 mc_26 md_27))))) ∧ ((r16 = 0) → Post ((-6)) k_9 kt_10 kl_11 j_17 mc_13 md_14)))) ∧ (¬ (r8 = 1) → Post r8 k_9 kt_10 kl_11 j_12 mc_13 md_14)))))
def w_X5_growPicked (ck : Nat → Ob) (mk : Nat → Ob) (G : Int32 → Int32 → Int32 → Ob → Ob → Ob → Ob → Ob → Ob → (Int32 → Ob → Ob → Ob → Ob → Ob → Ob → Prop) → Prop) (x1 : Nat) (x2 : Int32) (x3 : Int32) (k : Ob) (kt : Ob) (kl : Ob) (j : Ob) (mc : Ob) (md : Ob) (Post : Int32 → Ob → Ob → Ob → Ob → Ob → Ob → Prop) : Prop := x1 < (k.2.1 1).toNatClampNeg ∧ (w_X8_setValue  x2 ((mk x1).2.1 2) kt (fun (kt_3 : Ob) => ∃ n15, w_X5_growPicked_L15 ck mk G x1 x2 x3 (fun (k6_111 : Int32) (k_k111 : Ob) (kt_k111 : Ob) (kl_k111 : Ob) (j_k111 : Ob) (mc_k111 : Ob) (md_k111 : Ob) => ((¬ k6_111 = 1) → Post ((-5)) k_k111 kt_k111 kl_k111 j_k111 mc_k111 md_k111) ∧ ((k6_111 = 1) → Post 1 k_k111 kt_k111 kl_k111 j_k111 mc_k111 md_k111)) Post n15 0 k kt_3 kl j mc md))
set_option maxRecDepth 100000 in
set_option maxHeartbeats 4000000 in
theorem c_X5_growPicked (l : Launch) (D : va_G) (E : Nat → ClassId) (ad : Nat → Nat → Nat) (ck : Nat → Ob) (mk : Nat → Ob) {dd : Nat} (G : Int32 → Int32 → Int32 → Ob → Ob → Ob → Ob → Ob → Ob → (Int32 → Ob → Ob → Ob → Ob → Ob → Ob → Prop) → Prop)  (hG : ∀ (x1 x2 x3 : Int32) (k kt kl j mc md : Ob) (Post : Int32 → Ob → Ob → Ob → Ob → Ob → Ob → Prop), G x1 x2 x3 k kt kl j mc md Post → CtI l yX5_grow cX5_grow 8 .int (rmG dd) D E [.ref (ad 4 0), .int (x1), .int (x2), .int (x3)] (List.flatten [bX5 ad E k, bX8 (ad 5) E kt, bX2 (ad 6) E kl, bX1 ad E j, bX3 (ad 2) E mc, bX3 (ad 3) E md, dC ad E ck (j.2.1 1).toNatClampNeg, dK ad E mk (k.2.1 1).toNatClampNeg]) (fun u : Ob × Ob × Ob × Ob × Ob × Ob => List.flatten [bX5 ad E u.1, bX8 (ad 5) E u.2.1, bX2 (ad 6) E u.2.2.1, bX1 ad E u.2.2.2.1, bX3 (ad 2) E u.2.2.2.2.1, bX3 (ad 3) E u.2.2.2.2.2, dC ad E ck (u.2.2.2.1.2.1 1).toNatClampNeg, dK ad E mk (u.1.2.1 1).toNatClampNeg]) (fun (r : Int32) (u : Ob × Ob × Ob × Ob × Ob × Ob) => Post r u.1 u.2.1 u.2.2.1 u.2.2.2.1 u.2.2.2.2.1 u.2.2.2.2.2) 0 0) (k : Ob) (kt : Ob) (kl : Ob) (j : Ob) (mc : Ob) (md : Ob) (x1 : Nat) (x2 : Int32) (x3 : Int32) {Post : Int32 → Ob → Ob → Ob → Ob → Ob → Ob → Prop} (h : w_X5_growPicked ck mk G x1 x2 x3 k kt kl j mc md Post) : CtI l yX5_growPicked cX5_growPicked 7 .int (rmH dd) D E [.ref (ad 4 0), .ref (ad 21 x1), .int (x2), .int (x3)] (List.flatten [bX5 ad E k, bX8 (ad 5) E kt, bX2 (ad 6) E kl, bX1 ad E j, bX3 (ad 2) E mc, bX3 (ad 3) E md, dC ad E ck (j.2.1 1).toNatClampNeg, dK ad E mk (k.2.1 1).toNatClampNeg]) (fun u : Ob × Ob × Ob × Ob × Ob × Ob => List.flatten [bX5 ad E u.1, bX8 (ad 5) E u.2.1, bX2 (ad 6) E u.2.2.1, bX1 ad E u.2.2.2.1, bX3 (ad 2) E u.2.2.2.2.1, bX3 (ad 3) E u.2.2.2.2.2, dC ad E ck (u.2.2.2.1.2.1 1).toNatClampNeg, dK ad E mk (u.1.2.1 1).toNatClampNeg]) (fun (r : Int32) (u : Ob × Ob × Ob × Ob × Ob × Ob) => Post r u.1 u.2.1 u.2.2.1 u.2.2.2.1 u.2.2.2.2.1 u.2.2.2.2.2) 0 0 := by
  refine enI (by decide +kernel) (Nat.le_of_ble_eq_true rfl) ?_
  intro p e s m args below meth c Q A ls hx hb hml hown hT hK hA hret hh hl
  have hl : lv_has ls 7 [(0, .ref (ad 4 0)), (1, .ref (ad 21 x1)), (2, .int (x2)), (3, .int (x3))] := hl
  unfold w_X5_growPicked at h
  refine lv_aload_n hx hb dX5_growPicked_0 rfl (lv_at hl 0 rfl) ?_
  refine G_X5_24 [] [_, _, _, _, _, _, _] hx hb hT hown hK hh dX5_growPicked_1 ?_
  refine lv_iload_n hx hb dX5_growPicked_4 rfl (lv_at hl 2 rfl) ?_
  refine lv_aload_n hx hb dX5_growPicked_5 rfl (lv_at hl 1 rfl) ?_
  obtain ⟨g1, h⟩ := h
  refine DG_X5_75 [_, _, _, _, _, _, _] [] hx hb hT hown hK hh g1 (v := (mk x1).2.1 2) rfl dX5_growPicked_6 ?_
  have hc := hh.cut [_] [_, _, _, _, _, _, _] [1, 0, 2, 3, 4, 5, 6, 7] 8 rfl (by decide) rfl
  refine kV hc hA (rnVN hx hb hml hown hT hK hc (c_X8_setValue l D E (ad 5)  kt x2 ((mk x1).2.1 2) h _) mf_X8_setValue nml_X5_82 ⟨rfl, rfl, rmH_fr (Nat.le_of_ble_eq_true rfl), rmH_lo (Nat.le_of_ble_eq_true rfl)⟩ ⟨Nat.le_refl 0, Nat.le_refl 0⟩ 8 0 rfl rfl hl.1 rfl dX5_growPicked_9 (Nat.le_of_ble_eq_true rfl) rfl) (fun kt_3 H locs h hh => ?_)
  have hh : Wh D A s.heap ((List.flatten [bX5 ad E k, bX8 (ad 5) E kt_3, bX2 (ad 6) E kl, bX1 ad E j, bX3 (ad 2) E mc, bX3 (ad 3) E md, dC ad E ck (j.2.1 1).toNatClampNeg, dK ad E mk (k.2.1 1).toNatClampNeg])) _ _ := Wh.back (cs := [_]) (rs := [_, _, _, _, _, _, _]) _ [1, 0, 2, 3, 4, 5, 6, 7] 8 rfl (by decide) rfl hh
  refine lv_iconst (v := 0) hx hb dX5_growPicked_12 (by decide) ?_
  refine lv_istore (lv' := [(4, .int (0)), (0, .ref (ad 4 0)), (1, .ref (ad 21 x1)), (2, .int (x2)), (3, .int (x3))]) hx hb dX5_growPicked_13 hl (by decide) rfl (fun ls hl => ?_)
  have hw15 : ∀ (K111_15 : Int32 → Ob → Ob → Ob → Ob → Ob → Ob → Prop) (hK111_15 : ∀ (k6_111 : Int32) (k_k111 : Ob) (kt_k111 : Ob) (kl_k111 : Ob) (j_k111 : Ob) (mc_k111 : Ob) (md_k111 : Ob) (H : Heap) (locs : List Loc) (ls : Array Slot), K111_15 k6_111 k_k111 kt_k111 kl_k111 j_k111 mc_k111 md_k111 → Wh D A s.heap ((List.flatten [bX5 ad E k_k111, bX8 (ad 5) E kt_k111, bX2 (ad 6) E kl_k111, bX1 ad E j_k111, bX3 (ad 2) E mc_k111, bX3 (ad 3) E md_k111, dC ad E ck (j_k111.2.1 1).toNatClampNeg, dK ad E mk (k_k111.2.1 1).toNatClampNeg])) H locs → lv_has ls 7 [(6, .int (k6_111))] → W p l e (rmH dd) s m args below meth c H locs 0 0 Q (F0 m 111 ls [])) (n : Nat) (p4_15 : Int32) (k_15 : Ob) (kt_15 : Ob) (kl_15 : Ob) (j_15 : Ob) (mc_15 : Ob) (md_15 : Ob) (H : Heap) (locs : List Loc) (ls : Array Slot), w_X5_growPicked_L15 ck mk G x1 x2 x3 K111_15 Post n p4_15 k_15 kt_15 kl_15 j_15 mc_15 md_15 → Wh D A s.heap ((List.flatten [bX5 ad E k_15, bX8 (ad 5) E kt_15, bX2 (ad 6) E kl_15, bX1 ad E j_15, bX3 (ad 2) E mc_15, bX3 (ad 3) E md_15, dC ad E ck (j_15.2.1 1).toNatClampNeg, dK ad E mk (k_15.2.1 1).toNatClampNeg])) H locs → lv_has ls 7 [(0, .ref (ad 4 0)), (1, .ref (ad 21 x1)), (2, .int (x2)), (3, .int (x3)), (4, .int (p4_15))] → W p l e (rmH dd) s m args below meth c H locs 0 0 Q (F0 m 15 ls []) := by
    intro K111_15 hK111_15 n
    induction n with
    | zero => intro p4_15 k_15 kt_15 kl_15 j_15 mc_15 md_15 H locs ls h hh hl; exact False.elim h
    | succ n ih =>
      intro p4_15 k_15 kt_15 kl_15 j_15 mc_15 md_15 H locs ls h hh hl
      refine lv_iload hx hb dX5_growPicked_15 (lv_at hl 4 rfl) ?_
      refine lv_bipush (v := 8) hx hb dX5_growPicked_17 (by decide) ?_
      refine lv_icmp_ge (tgt := 130) hx hb dX5_growPicked_19 (by decide) (fun c4 => ?_) (fun c4 => ?_)
      · have h := h.1 c4
        refine lv_bipush (v := (-5)) hx hb dX5_growPicked_130 (by decide) ?_
        exact hret _ _ _ _ _ (k_15, kt_15, kl_15, j_15, mc_15, md_15) dX5_growPicked_132 rfl h hh
      · have h := h.2 c4
        refine lv_aload_n hx hb dX5_growPicked_22 rfl (lv_at hl 0 rfl) ?_
        refine G_X5_24 [] [_, _, _, _, _, _, _] hx hb hT hown hK hh dX5_growPicked_23 ?_
        refine lv_iload_n hx hb dX5_growPicked_26 rfl (lv_at hl 2 rfl) ?_
        refine lv_iconst (v := 1) hx hb dX5_growPicked_27 (by decide) ?_
        refine lv_iadd hx hb dX5_growPicked_28 ?_
        have hc := hh.cut [_] [_, _, _, _, _, _, _] [1, 0, 2, 3, 4, 5, 6, 7] 8 rfl (by decide) rfl
        refine kV hc hA (rnVN hx hb hml hown hT hK hc (c_X8_cut l D E (ad 5)  kt_15 (x2 + 1) h _) mf_X8_cut nml_X5_49 ⟨rfl, rfl, rmH_fr (Nat.le_of_ble_eq_true rfl), rmH_lo (Nat.le_of_ble_eq_true rfl)⟩ ⟨Nat.le_refl 0, Nat.le_refl 0⟩ 8 0 rfl rfl hl.1 rfl dX5_growPicked_29 (Nat.le_of_ble_eq_true rfl) rfl) (fun kt_6 H locs h hh => ?_)
        have hh : Wh D A s.heap ((List.flatten [bX5 ad E k_15, bX8 (ad 5) E kt_6, bX2 (ad 6) E kl_15, bX1 ad E j_15, bX3 (ad 2) E mc_15, bX3 (ad 3) E md_15, dC ad E ck (j_15.2.1 1).toNatClampNeg, dK ad E mk (k_15.2.1 1).toNatClampNeg])) _ _ := Wh.back (cs := [_]) (rs := [_, _, _, _, _, _, _]) _ [1, 0, 2, 3, 4, 5, 6, 7] 8 rfl (by decide) rfl hh
        refine lv_aload_n hx hb dX5_growPicked_32 rfl (lv_at hl 0 rfl) ?_
        refine lv_aload_n hx hb dX5_growPicked_33 rfl (lv_at hl 1 rfl) ?_
        obtain ⟨g7, h⟩ := h
        refine DG_X5_72 [_, _, _, _, _, _, _] [] hx hb hT hown hK hh g7 (v := (mk x1).2.1 1) rfl dX5_growPicked_34 ?_
        refine lv_iload_n hx hb dX5_growPicked_37 rfl (lv_at hl 2 rfl) ?_
        refine lv_iload_n hx hb dX5_growPicked_38 rfl (lv_at hl 3 rfl) ?_
        refine lv_iconst (v := 1) hx hb dX5_growPicked_39 (by decide) ?_
        refine lv_iadd hx hb dX5_growPicked_40 ?_
        refine kI hh.ap0 hA (rnV hx hb hml hown hT hK hh.ap0 (hG ((mk x1).2.1 1) x2 (x3 + 1) k_15 kt_6 kl_15 j_15 mc_15 md_15 _ h _) mf_X5_grow kml_X5_102 ⟨rfl, rfl, rmH_frG, rmH_loG (Nat.le_of_ble_eq_true rfl)⟩ ⟨Nat.le_refl 0, Nat.le_refl 0⟩ 5 0 rfl rfl hl.1 rfl dX5_growPicked_41 (Nat.le_of_ble_eq_true rfl) rfl) (fun r8 u H locs h hh => ?_)
        obtain ⟨k_9, kt_10, kl_11, j_12, mc_13, md_14⟩ := u
        have hh : Wh D A s.heap ((List.flatten [bX5 ad E k_9, bX8 (ad 5) E kt_10, bX2 (ad 6) E kl_11, bX1 ad E j_12, bX3 (ad 2) E mc_13, bX3 (ad 3) E md_14, dC ad E ck (j_12.2.1 1).toNatClampNeg, dK ad E mk (k_9.2.1 1).toNatClampNeg])) _ _ := hh.un0
        refine lv_istore (lv' := [(5, .int (r8)), (0, .ref (ad 4 0)), (1, .ref (ad 21 x1)), (2, .int (x2)), (3, .int (x3)), (4, .int (p4_15))]) hx hb dX5_growPicked_44 hl (by decide) rfl (fun ls hl => ?_)
        refine lv_iload hx hb dX5_growPicked_46 (lv_at hl 0 rfl) ?_
        refine lv_iconst (v := 1) hx hb dX5_growPicked_48 (by decide) ?_
        refine lv_icmp_eq (tgt := 55) hx hb dX5_growPicked_49 (by decide) (fun c15 => ?_) (fun c15 => ?_)
        · have h := h.1 c15
          refine lv_aload_n hx hb dX5_growPicked_55 rfl (lv_at hl 1 rfl) ?_
          refine G_X5_42 [] [_, _, _, _, _, _, _] hx hb hT hown hK hh dX5_growPicked_56 ?_
          have hc := hh.cut [_] [_, _, _, _, _, _, _] [3, 0, 1, 2, 4, 5, 6, 7] 8 rfl (by decide) rfl
          refine kI hc hA (rnVN hx hb hml hown hT hK hc (c_X1_pay l D E ad  j_12  h _) mf_X1_pay nml_X5_123 ⟨rfl, rfl, rmH_fr (Nat.le_of_ble_eq_true rfl), rmH_lo (Nat.le_of_ble_eq_true rfl)⟩ ⟨Nat.le_refl 0, Nat.le_refl 0⟩ 1 0 rfl rfl hl.1 rfl dX5_growPicked_59 (Nat.le_of_ble_eq_true rfl) rfl) (fun r16 j_17 H locs h hh => ?_)
          obtain ⟨g18, h⟩ := h
          rw [← g18] at hh
          have hh : Wh D A s.heap ((List.flatten [bX5 ad E k_9, bX8 (ad 5) E kt_10, bX2 (ad 6) E kl_11, bX1 ad E j_17, bX3 (ad 2) E mc_13, bX3 (ad 3) E md_14, dC ad E ck (j_17.2.1 1).toNatClampNeg, dK ad E mk (k_9.2.1 1).toNatClampNeg])) _ _ := Wh.back (cs := [_]) (rs := [_, _, _, _, _, _, _]) _ [1, 2, 3, 0, 4, 5, 6, 7] 8 rfl (by decide) rfl hh
          refine lv_if_ne (tgt := 68) hx hb dX5_growPicked_62 (by decide) (fun c19 => ?_) (fun c19 => ?_)
          · have h := h.1 c19
            refine lv_aload_n hx hb dX5_growPicked_68 rfl (lv_at hl 1 rfl) ?_
            refine G_X5_24 [] [_, _, _, _, _, _, _] hx hb hT hown hK hh dX5_growPicked_69 ?_
            refine lv_iload_n hx hb dX5_growPicked_72 rfl (lv_at hl 3 rfl) ?_
            refine lv_iconst (v := 1) hx hb dX5_growPicked_73 (by decide) ?_
            refine lv_iadd hx hb dX5_growPicked_74 ?_
            refine lv_aload_n hx hb dX5_growPicked_75 rfl (lv_at hl 1 rfl) ?_
            refine G_X5_24 [] [_, _, _, _, _, _, _] hx hb hT hown hK hh dX5_growPicked_76 ?_
            refine G_X5_129 [_] [_, _, _, _, _, _] hx hb hT hown hK hh (v := kt_10.2.1 6) rfl dX5_growPicked_79 ?_
            refine lv_aload_n hx hb dX5_growPicked_82 rfl (lv_at hl 1 rfl) ?_
            refine G_X5_31 [] [_, _, _, _, _, _, _] hx hb hT hown hK hh dX5_growPicked_83 ?_
            have hc := hh.cut [_, _] [_, _, _, _, _, _] [1, 2, 0, 3, 4, 5, 6, 7] 8 rfl (by decide) rfl
            refine kV hc hA (rnVN hx hb hml hown hT hK hc (c_X8_gather l D E (ad 5) (ad 6)  kt_10 kl_11 (x2 + 1) (kt_10.2.1 6) h _) mf_X8_gather nml_X5_130 ⟨rfl, rfl, rmH_fr (Nat.le_of_ble_eq_true rfl), rmH_lo (Nat.le_of_ble_eq_true rfl)⟩ ⟨Nat.le_refl 0, Nat.le_refl 0⟩ 8 0 rfl rfl hl.1 rfl dX5_growPicked_86 (Nat.le_of_ble_eq_true rfl) rfl) (fun u H locs h hh => ?_)
            obtain ⟨kt_21, kl_22⟩ := u
            have hh : Wh D A s.heap ((List.flatten [bX5 ad E k_9, bX8 (ad 5) E kt_21, bX2 (ad 6) E kl_22, bX1 ad E j_17, bX3 (ad 2) E mc_13, bX3 (ad 3) E md_14, dC ad E ck (j_17.2.1 1).toNatClampNeg, dK ad E mk (k_9.2.1 1).toNatClampNeg])) _ _ := Wh.back (cs := [_, _]) (rs := [_, _, _, _, _, _]) _ [2, 0, 1, 3, 4, 5, 6, 7] 8 rfl (by decide) rfl hh
            refine lv_aload_n hx hb dX5_growPicked_89 rfl (lv_at hl 1 rfl) ?_
            refine G_X5_42 [] [_, _, _, _, _, _, _] hx hb hT hown hK hh dX5_growPicked_90 ?_
            refine lv_aload_n hx hb dX5_growPicked_93 rfl (lv_at hl 2 rfl) ?_
            obtain ⟨g23, h⟩ := h
            refine DG_X5_75 [_, _, _, _, _, _, _] [] hx hb hT hown hK hh g23 (v := (mk x1).2.1 2) rfl dX5_growPicked_94 ?_
            refine lv_aload_n hx hb dX5_growPicked_97 rfl (lv_at hl 1 rfl) ?_
            refine G_X5_31 [] [_, _, _, _, _, _, _] hx hb hT hown hK hh dX5_growPicked_98 ?_
            have hc := hh.cut [_, _, _, _, _] [_, _, _] [3, 4, 5, 2, 6, 0, 1, 7] 8 rfl (by decide) rfl
            refine kI hc hA (rnVN hx hb hml hown hT hK hc (c_X1_verdict l D E ad (ad 6) ck j_17 mc_13 md_14 kl_22 ((mk x1).2.1 2) h _) mf_X1_verdict nml_X5_134 ⟨rfl, rfl, rmH_fr (Nat.le_of_ble_eq_true rfl), rmH_lo (Nat.le_of_ble_eq_true rfl)⟩ ⟨Nat.le_refl 0, Nat.le_refl 0⟩ 1 0 rfl rfl hl.1 rfl dX5_growPicked_101 (Nat.le_of_ble_eq_true rfl) rfl) (fun r24 u H locs h hh => ?_)
            obtain ⟨j_25, mc_26, md_27, kl_28⟩ := u
            have hh : Wh D A s.heap ((List.flatten [bX5 ad E k_9, bX8 (ad 5) E kt_21, bX2 (ad 6) E kl_28, bX1 ad E j_25, bX3 (ad 2) E mc_26, bX3 (ad 3) E md_27, dC ad E ck (j_25.2.1 1).toNatClampNeg, dK ad E mk (k_9.2.1 1).toNatClampNeg])) _ _ := Wh.back (cs := [_, _, _, _, _]) (rs := [_, _, _]) _ [5, 6, 3, 0, 1, 2, 4, 7] 8 rfl (by decide) rfl hh
            refine lv_istore (lv' := [(6, .int (r24)), (5, .int (r8)), (0, .ref (ad 4 0)), (1, .ref (ad 21 x1)), (2, .int (x2)), (3, .int (x3)), (4, .int (p4_15))]) hx hb dX5_growPicked_104 hl (by decide) rfl (fun ls hl => ?_)
            refine lv_iload hx hb dX5_growPicked_106 (lv_at hl 0 rfl) ?_
            refine lv_if_eq (tgt := 124) hx hb dX5_growPicked_108 (by decide) (fun c29 => ?_) (fun c29 => ?_)
            · have h := h.1 c29
              refine lv_iinc (v := p4_15 + 1) (lv' := [(4, .int (p4_15 + 1)), (6, .int (r24)), (5, .int (r8)), (0, .ref (ad 4 0)), (1, .ref (ad 21 x1)), (2, .int (x2)), (3, .int (x3))]) hx hb dX5_growPicked_124 hl (k := 6) rfl (by rfl) (by decide) rfl (fun ls hl => ?_)
              refine lv_goto (tgt := 15) hx hb dX5_growPicked_127 (by decide) ?_
              exact ih (p4_15 + 1) k_9 kt_21 kl_28 j_25 mc_26 md_27 _ _ _ h hh (lv_sub hl [3, 4, 5, 6, 0] rfl)
            · have h := h.2 c29
              exact hK111_15 r24 k_9 kt_21 kl_28 j_25 mc_26 md_27 _ _ _ h hh (lv_sub hl [0] rfl)
          · have h := h.2 c19
            refine lv_bipush (v := (-6)) hx hb dX5_growPicked_65 (by decide) ?_
            exact hret _ _ _ _ _ (k_9, kt_10, kl_11, j_17, mc_13, md_14) dX5_growPicked_67 rfl h hh
        · have h := h.2 c15
          refine lv_iload hx hb dX5_growPicked_52 (lv_at hl 0 rfl) ?_
          exact hret _ _ _ _ _ (k_9, kt_10, kl_11, j_12, mc_13, md_14) dX5_growPicked_54 rfl h hh
  obtain ⟨n, h⟩ := h
  refine hw15 _ (fun k6_111 k_k111 kt_k111 kl_k111 j_k111 mc_k111 md_k111 H locs ls h hh hl => ?_) n 0 k kt_3 kl j mc md _ _ _ h hh (lv_sub hl [1, 2, 3, 4, 0] rfl)
  refine lv_iload hx hb dX5_growPicked_111 (lv_at hl 0 rfl) ?_
  refine lv_iconst (v := 1) hx hb dX5_growPicked_113 (by decide) ?_
  refine lv_icmp_ne (tgt := 121) hx hb dX5_growPicked_114 (by decide) (fun c30 => ?_) (fun c30 => ?_)
  · have h := h.1 c30
    refine lv_bipush (v := (-5)) hx hb dX5_growPicked_121 (by decide) ?_
    exact hret _ _ _ _ _ (k_k111, kt_k111, kl_k111, j_k111, mc_k111, md_k111) dX5_growPicked_123 rfl h hh
  · have h := h.2 c30
    refine lv_iconst (v := 1) hx hb dX5_growPicked_117 (by decide) ?_
    refine lv_goto (tgt := 123) hx hb dX5_growPicked_118 (by decide) ?_
    exact hret _ _ _ _ _ (k_k111, kt_k111, kl_k111, j_k111, mc_k111, md_k111) dX5_growPicked_123 rfl h hh
