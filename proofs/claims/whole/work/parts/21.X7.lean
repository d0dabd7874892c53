def w_X9_script (x1 : Int32) (x2 : Int32) (x3 : Int32) (x4 : Int32) (x : Ob) (j : Ob) (mc : Ob) (shl : Ob) (Post : Int64 → Ob → Ob → Ob → Ob → Prop) : Prop := (((x.2.1 7) = 0) → Post ((-9223372036854775808)) x j mc shl) ∧ (¬ ((x.2.1 7) = 0) → w_X9_isMachine  x1 x2  (fun (r2 : Int32) => ((r2 = 0) → Post ((-9223372036854775808)) x j mc shl) ∧ (¬ (r2 = 0) → ((x3 < 0) → Post ((-9223372036854775808)) x j mc shl) ∧ (¬ (x3 < 0) → w_X2_acts   shl (fun (r5 : Int32) (shl_6 : Ob) => ((x3 < r5) → ((x4 = 0) → w_X2_act  x3 shl_6 (fun (r8 : Int32) (shl_9 : Ob) => Post r8.toInt64 x j mc shl_9)) ∧ ((x4 = 1) → w_X2_number  x3 shl_6 (fun (r11 : Int32) (shl_12 : Ob) => Post r11.toInt64 x j mc shl_12)) ∧ ((x4 = 2) → w_X1_answerOf  x1 x2 x3 j mc shl_6 (fun (r14 : Int64) (j_15 : Ob) (mc_16 : Ob) (shl_17 : Ob) => Post r14 x j_15 mc_16 shl_17)) ∧ ((x4 = 3) → w_X1_answerOf  x1 (0 : Int32) x3 j mc shl_6 (fun (r19 : Int64) (j_20 : Ob) (mc_21 : Ob) (shl_22 : Ob) => Post r19 x j_20 mc_21 shl_22)) ∧ ((¬ x4 = 0 ∧ ¬ x4 = 1 ∧ ¬ x4 = 2 ∧ ¬ x4 = 3) → Post ((-9223372036854775808)) x j mc shl_6)) ∧ (¬ (x3 < r5) → Post ((-9223372036854775808)) x j mc shl_6))))))
set_option maxRecDepth 100000 in
set_option maxHeartbeats 4000000 in
theorem c_X9_script (l : Launch) (D : va_G) (E : Nat → ClassId) (ad : Nat → Nat → Nat)  (x : Ob) (j : Ob) (mc : Ob) (shl : Ob) (x1 : Int32) (x2 : Int32) (x3 : Int32) (x4 : Int32) {Post : Int64 → Ob → Ob → Ob → Ob → Prop} (h : w_X9_script x1 x2 x3 x4 x j mc shl Post) : CtL l yX9_script cX9_script 5 ({ frames := 3, cells := 0, slots := 0, locals := 72 } : Room) D E [.ref (ad 0 0), .int (x1), .int (x2), .int (x3), .int (x4)] (List.flatten [bX9 ad E x, bX1 ad E j, bX3 (ad 2) E mc, bX2 (ad 12) E shl]) (fun u : Ob × Ob × Ob × Ob => List.flatten [bX9 ad E u.1, bX1 ad E u.2.1, bX3 (ad 2) E u.2.2.1, bX2 (ad 12) E u.2.2.2]) (fun (r : Int64) (u : Ob × Ob × Ob × Ob) => Post r u.1 u.2.1 u.2.2.1 u.2.2.2) 0 0 := by
  refine enL (by decide +kernel) (Nat.le_of_ble_eq_true rfl) ?_
  intro p e s m args below meth c Q A ls hx hb hml hown hT hK hA hret hh hl
  have hl : lv_has ls 5 [(0, .ref (ad 0 0)), (1, .int (x1)), (2, .int (x2)), (3, .int (x3)), (4, .int (x4))] := hl
  unfold w_X9_script at h
  refine lv_aload_n hx hb dX9_script_0 rfl (lv_at hl 0 rfl) ?_
  refine G_X9_56 [] [_, _, _] hx hb hT hown hK hh (v := x.2.1 7) rfl dX9_script_1 ?_
  refine lv_if_eq (tgt := 30) hx hb dX9_script_4 (by decide) (fun c1 => ?_) (fun c1 => ?_)
  · have h := h.1 c1
    refine lv_ldc2 (v := (-9223372036854775808)) hx hb hown (hT _ kcL_X9_162) dX9_script_30 ?_
    exact hret _ _ _ _ _ (x, j, mc, shl) dX9_script_33 h hh
  · have h := h.2 c1
    refine lv_iload_n hx hb dX9_script_7 rfl (lv_at hl 1 rfl) ?_
    refine lv_iload_n hx hb dX9_script_8 rfl (lv_at hl 2 rfl) ?_
    refine kI hh.none hA (rnS hx hb hml hown hT hK hh.none (c_X9_isMachine l D E    x1 x2 h _) mf_X9_isMachine kml_X9_112 ⟨rfl, rfl, Nat.le_of_ble_eq_true rfl, Nat.le_of_ble_eq_true rfl⟩ ⟨Nat.le_of_ble_eq_true rfl, Nat.le_of_ble_eq_true rfl⟩ hl.1 rfl dX9_script_9 (Nat.le_of_ble_eq_true rfl) rfl) (fun r2 u H locs h hh => ?_)
    have hh : Wh D A s.heap ((List.flatten [bX9 ad E x, bX1 ad E j, bX3 (ad 2) E mc, bX2 (ad 12) E shl])) _ _ := hh.unone
    refine lv_if_eq (tgt := 30) hx hb dX9_script_12 (by decide) (fun c3 => ?_) (fun c3 => ?_)
    · have h := h.1 c3
      refine lv_ldc2 (v := (-9223372036854775808)) hx hb hown (hT _ kcL_X9_162) dX9_script_30 ?_
      exact hret _ _ _ _ _ (x, j, mc, shl) dX9_script_33 h hh
    · have h := h.2 c3
      refine lv_iload_n hx hb dX9_script_15 rfl (lv_at hl 3 rfl) ?_
      refine lv_if_lt (tgt := 30) hx hb dX9_script_16 (by decide) (fun c4 => ?_) (fun c4 => ?_)
      · have h := h.1 c4
        refine lv_ldc2 (v := (-9223372036854775808)) hx hb hown (hT _ kcL_X9_162) dX9_script_30 ?_
        exact hret _ _ _ _ _ (x, j, mc, shl) dX9_script_33 h hh
      · have h := h.2 c4
        refine lv_iload_n hx hb dX9_script_19 rfl (lv_at hl 3 rfl) ?_
        refine lv_aload_n hx hb dX9_script_20 rfl (lv_at hl 0 rfl) ?_
        refine G_X9_52 [] [_, _, _] hx hb hT hown hK hh dX9_script_21 ?_
        have hc := hh.cut [_] [_, _, _] [3, 0, 1, 2] 4 rfl (by decide) rfl
        refine kI hc hA (rnVN hx hb hml hown hT hK hc (c_X2_acts l D E (ad 12)  shl  h _) mf_X2_acts nml_X9_168 ⟨rfl, rfl, Nat.le_of_ble_eq_true rfl, Nat.le_of_ble_eq_true rfl⟩ ⟨Nat.le_of_ble_eq_true rfl, Nat.le_of_ble_eq_true rfl⟩ 2 0 rfl rfl hl.1 rfl dX9_script_24 (Nat.le_of_ble_eq_true rfl) rfl) (fun r5 shl_6 H locs h hh => ?_)
        have hh : Wh D A s.heap ((List.flatten [bX9 ad E x, bX1 ad E j, bX3 (ad 2) E mc, bX2 (ad 12) E shl_6])) _ _ := Wh.back (cs := [_]) (rs := [_, _, _]) _ [1, 2, 3, 0] 4 rfl (by decide) rfl hh
        refine lv_icmp_lt (tgt := 34) hx hb dX9_script_27 (by decide) (fun c7 => ?_) (fun c7 => ?_)
        · have h := h.1 c7
          refine lv_iload hx hb dX9_script_34 (lv_at hl 4 rfl) ?_
          by_cases c10 : x4 = 0
          · have h := h.1 c10
            refine lv_tableIn (off := 32) (tgt := 68) hx hb dX9_script_36 (by rw [c10]; decide) (by rw [c10]; decide) (by rw [c10]; rfl) (by decide) ?_
            refine lv_aload_n hx hb dX9_script_68 rfl (lv_at hl 0 rfl) ?_
            refine G_X9_52 [] [_, _, _] hx hb hT hown hK hh dX9_script_69 ?_
            refine lv_iload_n hx hb dX9_script_72 rfl (lv_at hl 3 rfl) ?_
            have hc := hh.cut [_] [_, _, _] [3, 0, 1, 2] 4 rfl (by decide) rfl
            refine kI hc hA (rnVN hx hb hml hown hT hK hc (c_X2_act l D E (ad 12)  shl_6 x3 h _) mf_X2_act nml_X9_171 ⟨rfl, rfl, Nat.le_of_ble_eq_true rfl, Nat.le_of_ble_eq_true rfl⟩ ⟨Nat.le_of_ble_eq_true rfl, Nat.le_of_ble_eq_true rfl⟩ 2 0 rfl rfl hl.1 rfl dX9_script_73 (Nat.le_of_ble_eq_true rfl) rfl) (fun r8 shl_9 H locs h hh => ?_)
            have hh : Wh D A s.heap ((List.flatten [bX9 ad E x, bX1 ad E j, bX3 (ad 2) E mc, bX2 (ad 12) E shl_9])) _ _ := Wh.back (cs := [_]) (rs := [_, _, _]) _ [1, 2, 3, 0] 4 rfl (by decide) rfl hh
            refine lv_i2l (v := r8.toInt64) hx hb dX9_script_76 rfl ?_
            exact hret _ _ _ _ _ (x, j, mc, shl_9) dX9_script_77 h hh
          · by_cases c13 : x4 = 1
            · have h := h.2.1 c13
              refine lv_tableIn (off := 42) (tgt := 78) hx hb dX9_script_36 (by rw [c13]; decide) (by rw [c13]; decide) (by rw [c13]; rfl) (by decide) ?_
              refine lv_aload_n hx hb dX9_script_78 rfl (lv_at hl 0 rfl) ?_
              refine G_X9_52 [] [_, _, _] hx hb hT hown hK hh dX9_script_79 ?_
              refine lv_iload_n hx hb dX9_script_82 rfl (lv_at hl 3 rfl) ?_
              have hc := hh.cut [_] [_, _, _] [3, 0, 1, 2] 4 rfl (by decide) rfl
              refine kI hc hA (rnVN hx hb hml hown hT hK hc (c_X2_number l D E (ad 12)  shl_6 x3 h _) mf_X2_number nml_X9_175 ⟨rfl, rfl, Nat.le_of_ble_eq_true rfl, Nat.le_of_ble_eq_true rfl⟩ ⟨Nat.le_of_ble_eq_true rfl, Nat.le_of_ble_eq_true rfl⟩ 2 0 rfl rfl hl.1 rfl dX9_script_83 (Nat.le_of_ble_eq_true rfl) rfl) (fun r11 shl_12 H locs h hh => ?_)
              have hh : Wh D A s.heap ((List.flatten [bX9 ad E x, bX1 ad E j, bX3 (ad 2) E mc, bX2 (ad 12) E shl_12])) _ _ := Wh.back (cs := [_]) (rs := [_, _, _]) _ [1, 2, 3, 0] 4 rfl (by decide) rfl hh
              refine lv_i2l (v := r11.toInt64) hx hb dX9_script_86 rfl ?_
              exact hret _ _ _ _ _ (x, j, mc, shl_12) dX9_script_87 h hh
            · by_cases c18 : x4 = 2
              · have h := h.2.2.1 c18
                refine lv_tableIn (off := 52) (tgt := 88) hx hb dX9_script_36 (by rw [c18]; decide) (by rw [c18]; decide) (by rw [c18]; rfl) (by decide) ?_
                refine lv_aload_n hx hb dX9_script_88 rfl (lv_at hl 0 rfl) ?_
                refine G_X9_12 [] [_, _, _] hx hb hT hown hK hh dX9_script_89 ?_
                refine lv_iload_n hx hb dX9_script_92 rfl (lv_at hl 1 rfl) ?_
                refine lv_iload_n hx hb dX9_script_93 rfl (lv_at hl 2 rfl) ?_
                refine lv_aload_n hx hb dX9_script_94 rfl (lv_at hl 0 rfl) ?_
                refine G_X9_52 [] [_, _, _] hx hb hT hown hK hh dX9_script_95 ?_
                refine lv_iload_n hx hb dX9_script_98 rfl (lv_at hl 3 rfl) ?_
                have hc := hh.cut [_, _, _] [_] [1, 2, 3, 0] 4 rfl (by decide) rfl
                refine kL hc hA (rnVN hx hb hml hown hT hK hc (c_X1_answerOf l D E ad (ad 12)  j mc shl_6 x1 x2 x3 h _) mf_X1_answerOf nml_X9_178 ⟨rfl, rfl, Nat.le_of_ble_eq_true rfl, Nat.le_of_ble_eq_true rfl⟩ ⟨Nat.le_of_ble_eq_true rfl, Nat.le_of_ble_eq_true rfl⟩ 1 0 rfl rfl hl.1 rfl dX9_script_99 (Nat.le_of_ble_eq_true rfl) rfl) (fun r14 u H locs h hh => ?_)
                obtain ⟨j_15, mc_16, shl_17⟩ := u
                have hh : Wh D A s.heap ((List.flatten [bX9 ad E x, bX1 ad E j_15, bX3 (ad 2) E mc_16, bX2 (ad 12) E shl_17])) _ _ := Wh.back (cs := [_, _, _]) (rs := [_]) _ [3, 0, 1, 2] 4 rfl (by decide) rfl hh
                exact hret _ _ _ _ _ (x, j_15, mc_16, shl_17) dX9_script_102 h hh
              · by_cases c23 : x4 = 3
                · have h := h.2.2.2.1 c23
                  refine lv_tableIn (off := 67) (tgt := 103) hx hb dX9_script_36 (by rw [c23]; decide) (by rw [c23]; decide) (by rw [c23]; rfl) (by decide) ?_
                  refine lv_aload_n hx hb dX9_script_103 rfl (lv_at hl 0 rfl) ?_
                  refine G_X9_12 [] [_, _, _] hx hb hT hown hK hh dX9_script_104 ?_
                  refine lv_iload_n hx hb dX9_script_107 rfl (lv_at hl 1 rfl) ?_
                  refine lv_iconst (v := 0) hx hb dX9_script_108 (by decide) ?_
                  refine lv_aload_n hx hb dX9_script_109 rfl (lv_at hl 0 rfl) ?_
                  refine G_X9_52 [] [_, _, _] hx hb hT hown hK hh dX9_script_110 ?_
                  refine lv_iload_n hx hb dX9_script_113 rfl (lv_at hl 3 rfl) ?_
                  have hc := hh.cut [_, _, _] [_] [1, 2, 3, 0] 4 rfl (by decide) rfl
                  refine kL hc hA (rnVN hx hb hml hown hT hK hc (c_X1_answerOf l D E ad (ad 12)  j mc shl_6 x1 (0 : Int32) x3 h _) mf_X1_answerOf nml_X9_178 ⟨rfl, rfl, Nat.le_of_ble_eq_true rfl, Nat.le_of_ble_eq_true rfl⟩ ⟨Nat.le_of_ble_eq_true rfl, Nat.le_of_ble_eq_true rfl⟩ 1 0 rfl rfl hl.1 rfl dX9_script_114 (Nat.le_of_ble_eq_true rfl) rfl) (fun r19 u H locs h hh => ?_)
                  obtain ⟨j_20, mc_21, shl_22⟩ := u
                  have hh : Wh D A s.heap ((List.flatten [bX9 ad E x, bX1 ad E j_20, bX3 (ad 2) E mc_21, bX2 (ad 12) E shl_22])) _ _ := Wh.back (cs := [_, _, _]) (rs := [_]) _ [3, 0, 1, 2] 4 rfl (by decide) rfl hh
                  exact hret _ _ _ _ _ (x, j_20, mc_21, shl_22) dX9_script_117 h hh
                · have h := h.2.2.2.2 ⟨c10, c13, c18, c23⟩
                  refine q_swD (tgt := 118) hx hb dX9_script_36 (fun i h1 h2 he => (show i = 0 ∨ i = 1 ∨ i = 2 ∨ i = 3 by omega).elim (fun z => absurd (q_oi he z (by decide)) c10) (fun z => z.elim (fun z => absurd (q_oi he z (by decide)) c13) (fun z => z.elim (fun z => absurd (q_oi he z (by decide)) c18) (fun z => absurd (q_oi he z (by decide)) c23)))) (by decide) ?_
                  refine lv_ldc2 (v := (-9223372036854775808)) hx hb hown (hT _ kcL_X9_162) dX9_script_118 ?_
                  exact hret _ _ _ _ _ (x, j, mc, shl_6) dX9_script_121 h hh
        · have h := h.2 c7
          refine lv_ldc2 (v := (-9223372036854775808)) hx hb hown (hT _ kcL_X9_162) dX9_script_30 ?_
          exact hret _ _ _ _ _ (x, j, mc, shl_6) dX9_script_33 h hh

def w_X9_draw_L26 (f3_26 : Int32) (f4_26 : Int32) (K45_26 : Int64 → Ob → Prop) (Post : Int32 → Ob → Prop) : Nat → Int64 → Int32 → Ob → Prop
  | 0, _, _, _ => False
  | n26 + 1, p5_26, p7_26, x_26 => ((f3_26 < p7_26) → K45_26 p5_26 x_26) ∧ (¬ (f3_26 < p7_26) → w_X9_nextDraw  p5_26  (fun (r5 : Int64) => w_X9_draw_L26 f3_26 f4_26 K45_26 Post n26 r5 (p7_26 + 1) x_26))
def w_X9_draw (x1 : Int64) (x3 : Int32) (x4 : Int32) (x : Ob) (Post : Int32 → Ob → Prop) : Prop := ((x4 < 1) → Post ((-2)) x) ∧ (¬ (x4 < 1) → ((x3 < 0) → Post ((-2)) x) ∧ (¬ (x3 < 0) → ((x3 ≤ 1000) → ∃ n26, w_X9_draw_L26 x3 x4 (fun (k5_45 : Int64) (x_k45 : Ob) => w_X9_numberOf  k5_45 x4  (fun (r6 : Int32) => Post r6 x_k45)) Post n26 x1 0 x) ∧ (¬ (x3 ≤ 1000) → Post ((-2)) x)))
set_option maxRecDepth 100000 in
set_option maxHeartbeats 4000000 in
theorem c_X9_draw (l : Launch) (D : va_G) (E : Nat → ClassId) (ad : Nat → Nat → Nat)  (x : Ob) (x1 : Int64) (x3 : Int32) (x4 : Int32) {Post : Int32 → Ob → Prop} (h : w_X9_draw x1 x3 x4 x Post) : CtI l yX9_draw cX9_draw 8 .int ({ frames := 1, cells := 0, slots := 0, locals := 22 } : Room) D E [.ref (ad 0 0), .long (x1), .int (x3), .int (x4)] (List.flatten [bX9 ad E x]) (fun u : Ob => List.flatten [bX9 ad E u]) Post 0 0 := by
  refine enI (by decide +kernel) (Nat.le_of_ble_eq_true rfl) ?_
  intro p e s m args below meth c Q A ls hx hb hml hown hT hK hA hret hh hl
  have hl : lv_has ls 8 [(0, .ref (ad 0 0)), (1, .long (x1)), (3, .int (x3)), (4, .int (x4))] := hl
  unfold w_X9_draw at h
  refine lv_iload hx hb dX9_draw_0 (lv_at hl 3 rfl) ?_
  refine lv_iconst (v := 1) hx hb dX9_draw_2 (by decide) ?_
  refine lv_icmp_lt (tgt := 17) hx hb dX9_draw_3 (by decide) (fun c1 => ?_) (fun c1 => ?_)
  · have h := h.1 c1
    refine lv_bipush (v := (-2)) hx hb dX9_draw_17 (by decide) ?_
    exact hret _ _ _ _ _ x dX9_draw_19 rfl h hh
  · have h := h.2 c1
    refine lv_iload_n hx hb dX9_draw_6 rfl (lv_at hl 2 rfl) ?_
    refine lv_if_lt (tgt := 17) hx hb dX9_draw_7 (by decide) (fun c2 => ?_) (fun c2 => ?_)
    · have h := h.1 c2
      refine lv_bipush (v := (-2)) hx hb dX9_draw_17 (by decide) ?_
      exact hret _ _ _ _ _ x dX9_draw_19 rfl h hh
    · have h := h.2 c2
      refine lv_iload_n hx hb dX9_draw_10 rfl (lv_at hl 2 rfl) ?_
      refine lv_sipush (v := 1000) hx hb dX9_draw_11 (by decide) ?_
      refine lv_icmp_le (tgt := 20) hx hb dX9_draw_14 (by decide) (fun c3 => ?_) (fun c3 => ?_)
      · have h := h.1 c3
        refine lv_lload_n hx hb dX9_draw_20 rfl (lv_at hl 1 rfl) ?_
        refine lv_lstore (lv' := [(5, .long (x1)), (0, .ref (ad 0 0)), (1, .long (x1)), (3, .int (x3)), (4, .int (x4))]) hx hb dX9_draw_21 hl (by decide) rfl (fun ls hl => ?_)
        refine lv_iconst (v := 0) hx hb dX9_draw_23 (by decide) ?_
        refine lv_istore (lv' := [(7, .int (0)), (5, .long (x1)), (0, .ref (ad 0 0)), (1, .long (x1)), (3, .int (x3)), (4, .int (x4))]) hx hb dX9_draw_24 hl (by decide) rfl (fun ls hl => ?_)
        have hw26 : ∀ (K45_26 : Int64 → Ob → Prop) (hK45_26 : ∀ (k5_45 : Int64) (x_k45 : Ob) (H : Heap) (locs : List Loc) (ls : Array Slot), K45_26 k5_45 x_k45 → Wh D A s.heap ((List.flatten [bX9 ad E x_k45])) H locs → lv_has ls 8 [(4, .int (x4)), (5, .long (k5_45))] → W p l e ({ frames := 1, cells := 0, slots := 0, locals := 22 } : Room) s m args below meth c H locs 0 0 Q (F0 m 45 ls [])) (n : Nat) (p5_26 : Int64) (p7_26 : Int32) (x_26 : Ob) (H : Heap) (locs : List Loc) (ls : Array Slot), w_X9_draw_L26 x3 x4 K45_26 Post n p5_26 p7_26 x_26 → Wh D A s.heap ((List.flatten [bX9 ad E x_26])) H locs → lv_has ls 8 [(3, .int (x3)), (4, .int (x4)), (5, .long (p5_26)), (7, .int (p7_26))] → W p l e ({ frames := 1, cells := 0, slots := 0, locals := 22 } : Room) s m args below meth c H locs 0 0 Q (F0 m 26 ls []) := by
          intro K45_26 hK45_26 n
          induction n with
          | zero => intro p5_26 p7_26 x_26 H locs ls h hh hl; exact False.elim h
          | succ n ih =>
            intro p5_26 p7_26 x_26 H locs ls h hh hl
            refine lv_iload hx hb dX9_draw_26 (lv_at hl 3 rfl) ?_
            refine lv_iload_n hx hb dX9_draw_28 rfl (lv_at hl 0 rfl) ?_
            refine lv_icmp_gt (tgt := 45) hx hb dX9_draw_29 (by decide) (fun c4 => ?_) (fun c4 => ?_)
            · have h := h.1 c4
              exact hK45_26 p5_26 x_26 _ _ _ h hh (lv_sub hl [1, 2] rfl)
            · have h := h.2 c4
              refine lv_lload hx hb dX9_draw_32 (lv_at hl 2 rfl) ?_
              refine kL hh.none hA (rnS hx hb hml hown hT hK hh.none (c_X9_nextDraw l D E    p5_26 h _) mf_X9_nextDraw kml_X9_182 ⟨rfl, rfl, Nat.le_of_ble_eq_true rfl, Nat.le_of_ble_eq_true rfl⟩ ⟨Nat.le_of_ble_eq_true rfl, Nat.le_of_ble_eq_true rfl⟩ hl.1 rfl dX9_draw_34 (Nat.le_of_ble_eq_true rfl) rfl) (fun r5 u H locs h hh => ?_)
              have hh : Wh D A s.heap ((List.flatten [bX9 ad E x_26])) _ _ := hh.unone
              refine lv_lstore (lv' := [(5, .long (r5)), (3, .int (x3)), (4, .int (x4)), (7, .int (p7_26))]) hx hb dX9_draw_37 hl (by decide) rfl (fun ls hl => ?_)
              refine lv_iinc (v := p7_26 + 1) (lv' := [(7, .int (p7_26 + 1)), (5, .long (r5)), (3, .int (x3)), (4, .int (x4))]) hx hb dX9_draw_39 hl (k := 3) rfl (by rfl) (by decide) rfl (fun ls hl => ?_)
              refine lv_goto (tgt := 26) hx hb dX9_draw_42 (by decide) ?_
              exact ih r5 (p7_26 + 1) x_26 _ _ _ h hh (lv_sub hl [2, 3, 1, 0] rfl)
        obtain ⟨n, h⟩ := h
        refine hw26 _ (fun k5_45 x_k45 H locs ls h hh hl => ?_) n x1 0 x _ _ _ h hh (lv_sub hl [4, 5, 1, 0] rfl)
        refine lv_lload hx hb dX9_draw_45 (lv_at hl 1 rfl) ?_
        refine lv_iload hx hb dX9_draw_47 (lv_at hl 0 rfl) ?_
        refine kI hh.none hA (rnS hx hb hml hown hT hK hh.none (c_X9_numberOf l D E    k5_45 x4 h _) mf_X9_numberOf kml_X9_186 ⟨rfl, rfl, Nat.le_of_ble_eq_true rfl, Nat.le_of_ble_eq_true rfl⟩ ⟨Nat.le_of_ble_eq_true rfl, Nat.le_of_ble_eq_true rfl⟩ hl.1 rfl dX9_draw_49 (Nat.le_of_ble_eq_true rfl) rfl) (fun r6 u H locs h hh => ?_)
        have hh : Wh D A s.heap ((List.flatten [bX9 ad E x_k45])) _ _ := hh.unone
        exact hret _ _ _ _ _ x_k45 dX9_draw_52 rfl h hh
      · have h := h.2 c3
        refine lv_bipush (v := (-2)) hx hb dX9_draw_17 (by decide) ?_
        exact hret _ _ _ _ _ x dX9_draw_19 rfl h hh

def w_X9_tryCase_L82 (ck : Nat → Ob) (mk : Nat → Ob) (pr : Nat → Ob) (f1_82 : Nat) (K138_82 : Ob → Ob → Ob → Ob → Ob → Ob → Ob → Ob → Ob → Ob → Prop) (Post : Int32 → Ob → Ob → Ob → Ob → Ob → Ob → Ob → Ob → Ob → Ob → Prop) : Nat → Int32 → Ob → Ob → Ob → Ob → Ob → Ob → Ob → Ob → Ob → Ob → Prop
  | 0, _, _, _, _, _, _, _, _, _, _, _ => False
  | n82 + 1, p6_82, x_82, k_82, kt_82, kl_82, j_82, mc_82, md_82, tr_82, ff_82, fl_82 => ((3 ≤ p6_82) → K138_82 x_82 k_82 kt_82 kl_82 j_82 mc_82 md_82 tr_82 ff_82 fl_82) ∧ (¬ (3 ≤ p6_82) → f1_82 < (x_82.2.1 4).toNatClampNeg ∧ (((((pr f1_82).2.1 3) ≤ p6_82) → K138_82 x_82 k_82 kt_82 kl_82 j_82 mc_82 md_82 tr_82 ff_82 fl_82) ∧ (¬ (((pr f1_82).2.1 3) ≤ p6_82) → f1_82 < (x_82.2.1 4).toNatClampNeg ∧ (f1_82 < (x_82.2.1 4).toNatClampNeg ∧ vp_in p6_82 3 ∧ (w_X1_verdict ck ((pr f1_82).2.2 2 p6_82.toNatClampNeg) j_82 mc_82 md_82 tr_82 (fun (r23 : Int32) (j_24 : Ob) (mc_25 : Ob) (md_26 : Ob) (tr_27 : Ob) => jn (fun J132 : Ob → Ob → Ob → Ob → Ob → Ob → Ob → Ob → Ob → Ob → Prop => ((¬ r23 = 1) → J132 x_82 k_82 kt_82 kl_82 j_24 mc_25 md_26 tr_27 ff_82 fl_82) ∧ ((r23 = 1) → vp_in (5 + p6_82) 8 ∧ (vp_in (5 + p6_82) 8 ∧ (J132 ((x_82.1, x_82.2.1, (sa x_82.2.2 8 (upd (x_82.2.2 8) (5 + p6_82).toNatClampNeg (((x_82.2.2 8) (5 + p6_82).toNatClampNeg) + 1))))) k_82 kt_82 kl_82 j_24 mc_25 md_26 tr_27 ff_82 fl_82)))) (fun (x_132 : Ob) (k_132 : Ob) (kt_132 : Ob) (kl_132 : Ob) (j_132 : Ob) (mc_132 : Ob) (md_132 : Ob) (tr_132 : Ob) (ff_132 : Ob) (fl_132 : Ob) => w_X9_tryCase_L82 ck mk pr f1_82 K138_82 Post n82 (p6_82 + 1) x_132 k_132 kt_132 kl_132 j_132 mc_132 md_132 tr_132 ff_132 fl_132)))))))
def w_X9_tryCase (ck : Nat → Ob) (mk : Nat → Ob) (pr : Nat → Ob) (x1 : Nat) (x2 : Int64) (x4 : Int32) (x : Ob) (k : Ob) (kt : Ob) (kl : Ob) (j : Ob) (mc : Ob) (md : Ob) (tr : Ob) (ff : Ob) (fl : Ob) (Post : Int32 → Ob → Ob → Ob → Ob → Ob → Ob → Ob → Ob → Ob → Ob → Prop) : Prop := w_X5_begin  x2 x4 k kt (fun (k_2 : Ob) (kt_3 : Ob) => (k_2.2.1 1 = k.2.1 1) ∧ (x1 < (x.2.1 4).toNatClampNeg ∧ (w_grow ck mk 32 ((pr x1).2.1 0) ((-1) : Int32) (0 : Int32) k_2 kt_3 kl j mc md (fun (r6 : Int32) (k_7 : Ob) (kt_8 : Ob) (kl_9 : Ob) (j_10 : Ob) (mc_11 : Ob) (md_12 : Ob) => ((r6 = 1) → w_X8_gather  (0 : Int32) (kt_8.2.1 6) kt_8 tr (fun (kt_15 : Ob) (tr_16 : Ob) => ∃ n82, w_X9_tryCase_L82 ck mk pr x1 (fun (x_k138 : Ob) (k_k138 : Ob) (kt_k138 : Ob) (kl_k138 : Ob) (j_k138 : Ob) (mc_k138 : Ob) (md_k138 : Ob) (tr_k138 : Ob) (ff_k138 : Ob) (fl_k138 : Ob) => w_X1_pay   j_k138 (fun (r31 : Int32) (j_32 : Ob) => (j_32.2.1 1 = j_k138.2.1 1) ∧ (((¬ r31 = 0) → x1 < (x_k138.2.1 4).toNatClampNeg ∧ (w_X1_verdict ck ((pr x1).2.1 1) j_32 mc_k138 md_k138 tr_k138 (fun (r36 : Int32) (j_37 : Ob) (mc_38 : Ob) (md_39 : Ob) (tr_40 : Ob) => ((¬ r36 = 1) → w_X8_copy   ff_k138 kt_k138 (fun (ff_43 : Ob) (kt_44 : Ob) => w_X8_copy   fl_k138 kt_44 (fun (fl_46 : Ob) (kt_47 : Ob) => Post 1 ((x_k138.1, x_k138.2.1, (sa x_k138.2.2 8 (upd (x_k138.2.2 8) (4 : Int32).toNatClampNeg (-r36))))) k_k138 kt_47 kl_k138 j_37 mc_38 md_39 tr_40 ff_43 fl_46))) ∧ ((r36 = 1) → Post 0 x_k138 k_k138 kt_k138 kl_k138 j_37 mc_38 md_39 tr_40 ff_k138 fl_k138)))) ∧ ((r31 = 0) → Post 3 x_k138 k_k138 kt_k138 kl_k138 j_32 mc_k138 md_k138 tr_k138 ff_k138 fl_k138)))) Post n82 0 ((x.1, x.2.1, (sa x.2.2 8 (upd (x.2.2 8) (1 : Int32).toNatClampNeg (((x.2.2 8) (1 : Int32).toNatClampNeg) + 1))))) k_7 kt_15 kl_9 j_10 mc_11 md_12 tr_16 ff fl)) ∧ (¬ (r6 = 1) → ((¬ r6 = ((-6))) → Post 2 x k_7 kt_8 kl_9 j_10 mc_11 md_12 tr ff fl) ∧ ((r6 = ((-6))) → Post 3 x k_7 kt_8 kl_9 j_10 mc_11 md_12 tr ff fl))))))
set_option maxRecDepth 100000 in
set_option maxHeartbeats 4000000 in
theorem c_X9_tryCase (l : Launch) (D : va_G) (E : Nat → ClassId) (ad : Nat → Nat → Nat) (ck : Nat → Ob) (mk : Nat → Ob) (pr : Nat → Ob)  (x : Ob) (k : Ob) (kt : Ob) (kl : Ob) (j : Ob) (mc : Ob) (md : Ob) (tr : Ob) (ff : Ob) (fl : Ob) (x1 : Nat) (x2 : Int64) (x4 : Int32) {Post : Int32 → Ob → Ob → Ob → Ob → Ob → Ob → Ob → Ob → Ob → Ob → Prop} (h : w_X9_tryCase ck mk pr x1 x2 x4 x k kt kl j mc md tr ff fl Post) : CtI l yX9_tryCase cX9_tryCase 7 .int ({ frames := 85, cells := 0, slots := 0, locals := 3527 } : Room) D E [.ref (ad 0 0), .ref (ad 22 x1), .long (x2), .int (x4)] (List.flatten [bX9 ad E x, bX5 ad E k, bX8 (ad 5) E kt, bX2 (ad 6) E kl, bX1 ad E j, bX3 (ad 2) E mc, bX3 (ad 3) E md, bX2 (ad 15) E tr, bX8 (ad 13) E ff, bX8 (ad 14) E fl, dC ad E ck (j.2.1 1).toNatClampNeg, dK ad E mk (k.2.1 1).toNatClampNeg, dP ad E pr (x.2.1 4).toNatClampNeg]) (fun u : Ob × Ob × Ob × Ob × Ob × Ob × Ob × Ob × Ob × Ob => List.flatten [bX9 ad E u.1, bX5 ad E u.2.1, bX8 (ad 5) E u.2.2.1, bX2 (ad 6) E u.2.2.2.1, bX1 ad E u.2.2.2.2.1, bX3 (ad 2) E u.2.2.2.2.2.1, bX3 (ad 3) E u.2.2.2.2.2.2.1, bX2 (ad 15) E u.2.2.2.2.2.2.2.1, bX8 (ad 13) E u.2.2.2.2.2.2.2.2.1, bX8 (ad 14) E u.2.2.2.2.2.2.2.2.2, dC ad E ck (u.2.2.2.2.1.2.1 1).toNatClampNeg, dK ad E mk (u.2.1.2.1 1).toNatClampNeg, dP ad E pr (u.1.2.1 4).toNatClampNeg]) (fun (r : Int32) (u : Ob × Ob × Ob × Ob × Ob × Ob × Ob × Ob × Ob × Ob) => Post r u.1 u.2.1 u.2.2.1 u.2.2.2.1 u.2.2.2.2.1 u.2.2.2.2.2.1 u.2.2.2.2.2.2.1 u.2.2.2.2.2.2.2.1 u.2.2.2.2.2.2.2.2.1 u.2.2.2.2.2.2.2.2.2) 0 0 := by
  refine enI (by decide +kernel) (Nat.le_of_ble_eq_true rfl) ?_
  intro p e s m args below meth c Q A ls hx hb hml hown hT hK hA hret hh hl
  have hl : lv_has ls 7 [(0, .ref (ad 0 0)), (1, .ref (ad 22 x1)), (2, .long (x2)), (4, .int (x4))] := hl
  unfold w_X9_tryCase at h
  refine lv_aload_n hx hb dX9_tryCase_0 rfl (lv_at hl 0 rfl) ?_
  refine G_X9_21 [] [_, _, _, _, _, _, _, _, _, _, _, _] hx hb hT hown hK hh dX9_tryCase_1 ?_
  refine lv_lload_n hx hb dX9_tryCase_4 rfl (lv_at hl 2 rfl) ?_
  refine lv_iload hx hb dX9_tryCase_5 (lv_at hl 3 rfl) ?_
  have hc := hh.cut [_, _] [_, _, _, _, _, _, _, _, _, _, _] [1, 2, 0, 3, 4, 5, 6, 7, 8, 9, 10, 11, 12] 13 rfl (by decide) rfl
  refine kV hc hA (rnVN hx hb hml hown hT hK hc (c_X5_begin l D E ad  k kt x2 x4 h _) mf_X5_begin nml_X9_132 ⟨rfl, rfl, Nat.le_of_ble_eq_true rfl, Nat.le_of_ble_eq_true rfl⟩ ⟨Nat.le_of_ble_eq_true rfl, Nat.le_of_ble_eq_true rfl⟩ 5 0 rfl rfl hl.1 rfl dX9_tryCase_7 (Nat.le_of_ble_eq_true rfl) rfl) (fun u H locs h hh => ?_)
  obtain ⟨k_2, kt_3⟩ := u
  obtain ⟨g4, h⟩ := h
  rw [← g4] at hh
  have hh : Wh D A s.heap ((List.flatten [bX9 ad E x, bX5 ad E k_2, bX8 (ad 5) E kt_3, bX2 (ad 6) E kl, bX1 ad E j, bX3 (ad 2) E mc, bX3 (ad 3) E md, bX2 (ad 15) E tr, bX8 (ad 13) E ff, bX8 (ad 14) E fl, dC ad E ck (j.2.1 1).toNatClampNeg, dK ad E mk (k_2.2.1 1).toNatClampNeg, dP ad E pr (x.2.1 4).toNatClampNeg])) _ _ := Wh.back (cs := [_, _]) (rs := [_, _, _, _, _, _, _, _, _, _, _]) _ [2, 0, 1, 3, 4, 5, 6, 7, 8, 9, 10, 11, 12] 13 rfl (by decide) rfl hh
  refine lv_aload_n hx hb dX9_tryCase_10 rfl (lv_at hl 0 rfl) ?_
  refine G_X9_21 [] [_, _, _, _, _, _, _, _, _, _, _, _] hx hb hT hown hK hh dX9_tryCase_11 ?_
  refine lv_aload_n hx hb dX9_tryCase_14 rfl (lv_at hl 1 rfl) ?_
  obtain ⟨g5, h⟩ := h
  refine DG_X9_238 [_, _, _, _, _, _, _, _, _, _, _, _] [] hx hb hT hown hK hh g5 (v := (pr x1).2.1 0) rfl dX9_tryCase_15 ?_
  refine lv_iconst (v := (-1)) hx hb dX9_tryCase_18 (by decide) ?_
  refine lv_iconst (v := 0) hx hb dX9_tryCase_19 (by decide) ?_
  have hc := hh.cut [_, _, _, _, _, _, _, _] [_, _, _, _, _] [1, 2, 3, 4, 5, 6, 10, 11, 0, 7, 8, 9, 12] 13 rfl (by decide) rfl
  refine kI hc hA (rnVN hx hb hml hown hT hK hc (c_grow l D E ad ck mk 32 _ rfl ((pr x1).2.1 0) ((-1) : Int32) (0 : Int32) k_2 kt_3 kl j mc md _ h _) mf_X5_grow nml_X9_136 ⟨rfl, rfl, Nat.le_of_ble_eq_true rfl, Nat.le_of_ble_eq_true rfl⟩ ⟨Nat.le_of_ble_eq_true rfl, Nat.le_of_ble_eq_true rfl⟩ 5 0 rfl rfl hl.1 rfl dX9_tryCase_20 (Nat.le_of_ble_eq_true rfl) rfl) (fun r6 u H locs h hh => ?_)
  obtain ⟨k_7, kt_8, kl_9, j_10, mc_11, md_12⟩ := u
  have hh : Wh D A s.heap ((List.flatten [bX9 ad E x, bX5 ad E k_7, bX8 (ad 5) E kt_8, bX2 (ad 6) E kl_9, bX1 ad E j_10, bX3 (ad 2) E mc_11, bX3 (ad 3) E md_12, bX2 (ad 15) E tr, bX8 (ad 13) E ff, bX8 (ad 14) E fl, dC ad E ck (j_10.2.1 1).toNatClampNeg, dK ad E mk (k_7.2.1 1).toNatClampNeg, dP ad E pr (x.2.1 4).toNatClampNeg])) _ _ := Wh.back (cs := [_, _, _, _, _, _, _, _]) (rs := [_, _, _, _, _]) _ [8, 0, 1, 2, 3, 4, 5, 9, 10, 11, 6, 7, 12] 13 rfl (by decide) rfl hh
  refine lv_istore (lv' := [(5, .int (r6)), (0, .ref (ad 0 0)), (1, .ref (ad 22 x1)), (2, .long (x2)), (4, .int (x4))]) hx hb dX9_tryCase_23 hl (by decide) rfl (fun ls hl => ?_)
  refine lv_iload hx hb dX9_tryCase_25 (lv_at hl 0 rfl) ?_
  refine lv_iconst (v := 1) hx hb dX9_tryCase_27 (by decide) ?_
  refine lv_icmp_eq (tgt := 44) hx hb dX9_tryCase_28 (by decide) (fun c13 => ?_) (fun c13 => ?_)
  · have h := h.1 c13
    refine lv_aload_n hx hb dX9_tryCase_44 rfl (lv_at hl 1 rfl) ?_
    refine G_X9_60 [] [_, _, _, _, _, _, _, _, _, _, _, _] hx hb hT hown hK hh dX9_tryCase_45 ?_
    refine lv_iconst (v := 1) hx hb dX9_tryCase_48 (by decide) ?_
    refine lv_dup2_11 hx hb dX9_tryCase_49 rfl rfl ?_
    refine A_X9_8 [] [_, _, _, _, _, _, _, _, _, _, _, _] hx hb hK hh (v := (x.2.2 8) (1 : Int32).toNatClampNeg) (by unfold vp_in; decide) rfl dX9_tryCase_50 ?_
    refine lv_iconst (v := 1) hx hb dX9_tryCase_51 (by decide) ?_
    refine lv_iadd hx hb dX9_tryCase_52 ?_
    refine S_X9_8 [] [_, _, _, _, _, _, _, _, _, _, _, _] hx hb hK hh (by unfold vp_in; decide) dX9_tryCase_53 (fun H locs (hh : Wh D A s.heap ((List.flatten [bX9 ad E ((x.1, x.2.1, (sa x.2.2 8 (upd (x.2.2 8) (1 : Int32).toNatClampNeg (((x.2.2 8) (1 : Int32).toNatClampNeg) + 1))))), bX5 ad E k_7, bX8 (ad 5) E kt_8, bX2 (ad 6) E kl_9, bX1 ad E j_10, bX3 (ad 2) E mc_11, bX3 (ad 3) E md_12, bX2 (ad 15) E tr, bX8 (ad 13) E ff, bX8 (ad 14) E fl, dC ad E ck (j_10.2.1 1).toNatClampNeg, dK ad E mk (k_7.2.1 1).toNatClampNeg, dP ad E pr (x.2.1 4).toNatClampNeg])) H locs) => ?_)
    refine lv_aload_n hx hb dX9_tryCase_54 rfl (lv_at hl 1 rfl) ?_
    refine G_X9_21 [] [_, _, _, _, _, _, _, _, _, _, _, _] hx hb hT hown hK hh dX9_tryCase_55 ?_
    refine G_X9_140 [_] [_, _, _, _, _, _, _, _, _, _, _] hx hb hT hown hK hh dX9_tryCase_58 ?_
    refine lv_iconst (v := 0) hx hb dX9_tryCase_61 (by decide) ?_
    refine lv_aload_n hx hb dX9_tryCase_62 rfl (lv_at hl 1 rfl) ?_
    refine G_X9_21 [] [_, _, _, _, _, _, _, _, _, _, _, _] hx hb hT hown hK hh dX9_tryCase_63 ?_
    refine G_X9_140 [_] [_, _, _, _, _, _, _, _, _, _, _] hx hb hT hown hK hh dX9_tryCase_66 ?_
    refine G_X9_228 [_, _] [_, _, _, _, _, _, _, _, _, _] hx hb hT hown hK hh (v := kt_8.2.1 6) rfl dX9_tryCase_69 ?_
    refine lv_aload_n hx hb dX9_tryCase_72 rfl (lv_at hl 1 rfl) ?_
    refine G_X9_73 [] [_, _, _, _, _, _, _, _, _, _, _, _] hx hb hT hown hK hh dX9_tryCase_73 ?_
    have hc := hh.cut [_, _] [_, _, _, _, _, _, _, _, _, _, _] [2, 7, 0, 1, 3, 4, 5, 6, 8, 9, 10, 11, 12] 13 rfl (by decide) rfl
    refine kV hc hA (rnVN hx hb hml hown hT hK hc (c_X8_gather l D E (ad 5) (ad 15)  kt_8 tr (0 : Int32) (kt_8.2.1 6) h _) mf_X8_gather nml_X9_231 ⟨rfl, rfl, Nat.le_of_ble_eq_true rfl, Nat.le_of_ble_eq_true rfl⟩ ⟨Nat.le_of_ble_eq_true rfl, Nat.le_of_ble_eq_true rfl⟩ 8 0 rfl rfl hl.1 rfl dX9_tryCase_76 (Nat.le_of_ble_eq_true rfl) rfl) (fun u H locs h hh => ?_)
    obtain ⟨kt_15, tr_16⟩ := u
    have hh : Wh D A s.heap ((List.flatten [bX9 ad E ((x.1, x.2.1, (sa x.2.2 8 (upd (x.2.2 8) (1 : Int32).toNatClampNeg (((x.2.2 8) (1 : Int32).toNatClampNeg) + 1))))), bX5 ad E k_7, bX8 (ad 5) E kt_15, bX2 (ad 6) E kl_9, bX1 ad E j_10, bX3 (ad 2) E mc_11, bX3 (ad 3) E md_12, bX2 (ad 15) E tr_16, bX8 (ad 13) E ff, bX8 (ad 14) E fl, dC ad E ck (j_10.2.1 1).toNatClampNeg, dK ad E mk (k_7.2.1 1).toNatClampNeg, dP ad E pr (x.2.1 4).toNatClampNeg])) _ _ := Wh.back (cs := [_, _]) (rs := [_, _, _, _, _, _, _, _, _, _, _]) _ [2, 3, 0, 4, 5, 6, 7, 1, 8, 9, 10, 11, 12] 13 rfl (by decide) rfl hh
    refine lv_iconst (v := 0) hx hb dX9_tryCase_79 (by decide) ?_
    refine lv_istore (lv' := [(6, .int (0)), (5, .int (r6)), (0, .ref (ad 0 0)), (1, .ref (ad 22 x1)), (2, .long (x2)), (4, .int (x4))]) hx hb dX9_tryCase_80 hl (by decide) rfl (fun ls hl => ?_)
    have hw82 : ∀ (K138_82 : Ob → Ob → Ob → Ob → Ob → Ob → Ob → Ob → Ob → Ob → Prop) (hK138_82 : ∀ (x_k138 : Ob) (k_k138 : Ob) (kt_k138 : Ob) (kl_k138 : Ob) (j_k138 : Ob) (mc_k138 : Ob) (md_k138 : Ob) (tr_k138 : Ob) (ff_k138 : Ob) (fl_k138 : Ob) (H : Heap) (locs : List Loc) (ls : Array Slot), K138_82 x_k138 k_k138 kt_k138 kl_k138 j_k138 mc_k138 md_k138 tr_k138 ff_k138 fl_k138 → Wh D A s.heap ((List.flatten [bX9 ad E x_k138, bX5 ad E k_k138, bX8 (ad 5) E kt_k138, bX2 (ad 6) E kl_k138, bX1 ad E j_k138, bX3 (ad 2) E mc_k138, bX3 (ad 3) E md_k138, bX2 (ad 15) E tr_k138, bX8 (ad 13) E ff_k138, bX8 (ad 14) E fl_k138, dC ad E ck (j_k138.2.1 1).toNatClampNeg, dK ad E mk (k_k138.2.1 1).toNatClampNeg, dP ad E pr (x_k138.2.1 4).toNatClampNeg])) H locs → lv_has ls 7 [(0, .ref (ad 0 0)), (1, .ref (ad 22 x1))] → W p l e ({ frames := 85, cells := 0, slots := 0, locals := 3527 } : Room) s m args below meth c H locs 0 0 Q (F0 m 138 ls [])) (n : Nat) (p6_82 : Int32) (x_82 : Ob) (k_82 : Ob) (kt_82 : Ob) (kl_82 : Ob) (j_82 : Ob) (mc_82 : Ob) (md_82 : Ob) (tr_82 : Ob) (ff_82 : Ob) (fl_82 : Ob) (H : Heap) (locs : List Loc) (ls : Array Slot), w_X9_tryCase_L82 ck mk pr x1 K138_82 Post n p6_82 x_82 k_82 kt_82 kl_82 j_82 mc_82 md_82 tr_82 ff_82 fl_82 → Wh D A s.heap ((List.flatten [bX9 ad E x_82, bX5 ad E k_82, bX8 (ad 5) E kt_82, bX2 (ad 6) E kl_82, bX1 ad E j_82, bX3 (ad 2) E mc_82, bX3 (ad 3) E md_82, bX2 (ad 15) E tr_82, bX8 (ad 13) E ff_82, bX8 (ad 14) E fl_82, dC ad E ck (j_82.2.1 1).toNatClampNeg, dK ad E mk (k_82.2.1 1).toNatClampNeg, dP ad E pr (x_82.2.1 4).toNatClampNeg])) H locs → lv_has ls 7 [(0, .ref (ad 0 0)), (1, .ref (ad 22 x1)), (6, .int (p6_82))] → W p l e ({ frames := 85, cells := 0, slots := 0, locals := 3527 } : Room) s m args below meth c H locs 0 0 Q (F0 m 82 ls []) := by
      intro K138_82 hK138_82 n
      induction n with
      | zero => intro p6_82 x_82 k_82 kt_82 kl_82 j_82 mc_82 md_82 tr_82 ff_82 fl_82 H locs ls h hh hl; exact False.elim h
      | succ n ih =>
        intro p6_82 x_82 k_82 kt_82 kl_82 j_82 mc_82 md_82 tr_82 ff_82 fl_82 H locs ls h hh hl
        refine lv_iload hx hb dX9_tryCase_82 (lv_at hl 2 rfl) ?_
        refine lv_iconst (v := 3) hx hb dX9_tryCase_84 (by decide) ?_
        refine lv_icmp_ge (tgt := 138) hx hb dX9_tryCase_85 (by decide) (fun c17 => ?_) (fun c17 => ?_)
        · have h := h.1 c17
          exact hK138_82 x_82 k_82 kt_82 kl_82 j_82 mc_82 md_82 tr_82 ff_82 fl_82 _ _ _ h hh (lv_sub hl [0, 1] rfl)
        · have h := h.2 c17
          refine lv_iload hx hb dX9_tryCase_88 (lv_at hl 2 rfl) ?_
          refine lv_aload_n hx hb dX9_tryCase_90 rfl (lv_at hl 1 rfl) ?_
          obtain ⟨g18, h⟩ := h
          refine DG_X9_241 [_, _, _, _, _, _, _, _, _, _, _, _] [] hx hb hT hown hK hh g18 (v := (pr x1).2.1 3) rfl dX9_tryCase_91 ?_
          refine lv_icmp_ge (tgt := 138) hx hb dX9_tryCase_94 (by decide) (fun c19 => ?_) (fun c19 => ?_)
          · have h := h.1 c19
            exact hK138_82 x_82 k_82 kt_82 kl_82 j_82 mc_82 md_82 tr_82 ff_82 fl_82 _ _ _ h hh (lv_sub hl [0, 1] rfl)
          · have h := h.2 c19
            refine lv_aload_n hx hb dX9_tryCase_97 rfl (lv_at hl 0 rfl) ?_
            refine G_X9_12 [] [_, _, _, _, _, _, _, _, _, _, _, _] hx hb hT hown hK hh dX9_tryCase_98 ?_
            refine lv_aload_n hx hb dX9_tryCase_101 rfl (lv_at hl 1 rfl) ?_
            obtain ⟨g20, h⟩ := h
            refine DG_X9_244 [_, _, _, _, _, _, _, _, _, _, _, _] [] hx hb hT hown hK hh g20 dX9_tryCase_102 ?_
            refine lv_iload hx hb dX9_tryCase_105 (lv_at hl 2 rfl) ?_
            obtain ⟨g22, g21, h⟩ := h
            refine DA_X6_2 [_, _, _, _, _, _, _, _, _, _, _, _] [] hx hb hK hh g22 (v := (pr x1).2.2 2 p6_82.toNatClampNeg) g21 rfl dX9_tryCase_107 ?_
            refine lv_aload_n hx hb dX9_tryCase_108 rfl (lv_at hl 0 rfl) ?_
            refine G_X9_73 [] [_, _, _, _, _, _, _, _, _, _, _, _] hx hb hT hown hK hh dX9_tryCase_109 ?_
            have hc := hh.cut [_, _, _, _, _] [_, _, _, _, _, _, _, _] [4, 5, 6, 7, 10, 0, 1, 2, 3, 8, 9, 11, 12] 13 rfl (by decide) rfl
            refine kI hc hA (rnVN hx hb hml hown hT hK hc (c_X1_verdict l D E ad (ad 15) ck j_82 mc_82 md_82 tr_82 ((pr x1).2.2 2 p6_82.toNatClampNeg) h _) mf_X1_verdict nml_X9_164 ⟨rfl, rfl, Nat.le_of_ble_eq_true rfl, Nat.le_of_ble_eq_true rfl⟩ ⟨Nat.le_of_ble_eq_true rfl, Nat.le_of_ble_eq_true rfl⟩ 1 0 rfl rfl hl.1 rfl dX9_tryCase_112 (Nat.le_of_ble_eq_true rfl) rfl) (fun r23 u H locs h hh => ?_)
            obtain ⟨j_24, mc_25, md_26, tr_27⟩ := u
            have hh : Wh D A s.heap ((List.flatten [bX9 ad E x_82, bX5 ad E k_82, bX8 (ad 5) E kt_82, bX2 (ad 6) E kl_82, bX1 ad E j_24, bX3 (ad 2) E mc_25, bX3 (ad 3) E md_26, bX2 (ad 15) E tr_27, bX8 (ad 13) E ff_82, bX8 (ad 14) E fl_82, dC ad E ck (j_24.2.1 1).toNatClampNeg, dK ad E mk (k_82.2.1 1).toNatClampNeg, dP ad E pr (x_82.2.1 4).toNatClampNeg])) _ _ := Wh.back (cs := [_, _, _, _, _]) (rs := [_, _, _, _, _, _, _, _]) _ [5, 6, 7, 8, 0, 1, 2, 3, 9, 10, 4, 11, 12] 13 rfl (by decide) rfl hh
            refine lv_iconst (v := 1) hx hb dX9_tryCase_115 (by decide) ?_
            refine jn_elim h (fun J132 hJ132 h => ?_)
            have kJ132 : ∀ (x_132 : Ob) (k_132 : Ob) (kt_132 : Ob) (kl_132 : Ob) (j_132 : Ob) (mc_132 : Ob) (md_132 : Ob) (tr_132 : Ob) (ff_132 : Ob) (fl_132 : Ob) (H : Heap) (locs : List Loc) (ls : Array Slot), J132 x_132 k_132 kt_132 kl_132 j_132 mc_132 md_132 tr_132 ff_132 fl_132 → Wh D A s.heap ((List.flatten [bX9 ad E x_132, bX5 ad E k_132, bX8 (ad 5) E kt_132, bX2 (ad 6) E kl_132, bX1 ad E j_132, bX3 (ad 2) E mc_132, bX3 (ad 3) E md_132, bX2 (ad 15) E tr_132, bX8 (ad 13) E ff_132, bX8 (ad 14) E fl_132, dC ad E ck (j_132.2.1 1).toNatClampNeg, dK ad E mk (k_132.2.1 1).toNatClampNeg, dP ad E pr (x_132.2.1 4).toNatClampNeg])) H locs → lv_has ls 7 [(0, .ref (ad 0 0)), (1, .ref (ad 22 x1)), (6, .int (p6_82))] → W p l e ({ frames := 85, cells := 0, slots := 0, locals := 3527 } : Room) s m args below meth c H locs 0 0 Q (F0 m 132 ls []) := by
              intro x_132 k_132 kt_132 kl_132 j_132 mc_132 md_132 tr_132 ff_132 fl_132 H locs ls h hh hl
              rw [hJ132] at h
              refine lv_iinc (v := p6_82 + 1) (lv' := [(6, .int (p6_82 + 1)), (0, .ref (ad 0 0)), (1, .ref (ad 22 x1))]) hx hb dX9_tryCase_132 hl (k := 2) rfl (by rfl) (by decide) rfl (fun ls hl => ?_)
              refine lv_goto (tgt := 82) hx hb dX9_tryCase_135 (by decide) ?_
              exact ih (p6_82 + 1) x_132 k_132 kt_132 kl_132 j_132 mc_132 md_132 tr_132 ff_132 fl_132 _ _ _ h hh (lv_sub hl [1, 2, 0] rfl)
            refine lv_icmp_ne (tgt := 132) hx hb dX9_tryCase_116 (by decide) (fun c28 => ?_) (fun c28 => ?_)
            · have h := h.1 c28
              exact kJ132 x_82 k_82 kt_82 kl_82 j_24 mc_25 md_26 tr_27 ff_82 fl_82 _ _ _ h hh (lv_sub hl [0, 1, 2] rfl)
            · have h := h.2 c28
              refine lv_aload_n hx hb dX9_tryCase_119 rfl (lv_at hl 0 rfl) ?_
              refine G_X9_60 [] [_, _, _, _, _, _, _, _, _, _, _, _] hx hb hT hown hK hh dX9_tryCase_120 ?_
              refine lv_iconst (v := 5) hx hb dX9_tryCase_123 (by decide) ?_
              refine lv_iload hx hb dX9_tryCase_124 (lv_at hl 2 rfl) ?_
              refine lv_iadd hx hb dX9_tryCase_126 ?_
              refine lv_dup2_11 hx hb dX9_tryCase_127 rfl rfl ?_
              obtain ⟨g29, h⟩ := h
              refine A_X9_8 [] [_, _, _, _, _, _, _, _, _, _, _, _] hx hb hK hh (v := (x_82.2.2 8) (5 + p6_82).toNatClampNeg) g29 rfl dX9_tryCase_128 ?_
              refine lv_iconst (v := 1) hx hb dX9_tryCase_129 (by decide) ?_
              refine lv_iadd hx hb dX9_tryCase_130 ?_
              obtain ⟨g30, h⟩ := h
              refine S_X9_8 [] [_, _, _, _, _, _, _, _, _, _, _, _] hx hb hK hh g30 dX9_tryCase_131 (fun H locs (hh : Wh D A s.heap ((List.flatten [bX9 ad E ((x_82.1, x_82.2.1, (sa x_82.2.2 8 (upd (x_82.2.2 8) (5 + p6_82).toNatClampNeg (((x_82.2.2 8) (5 + p6_82).toNatClampNeg) + 1))))), bX5 ad E k_82, bX8 (ad 5) E kt_82, bX2 (ad 6) E kl_82, bX1 ad E j_24, bX3 (ad 2) E mc_25, bX3 (ad 3) E md_26, bX2 (ad 15) E tr_27, bX8 (ad 13) E ff_82, bX8 (ad 14) E fl_82, dC ad E ck (j_24.2.1 1).toNatClampNeg, dK ad E mk (k_82.2.1 1).toNatClampNeg, dP ad E pr (x_82.2.1 4).toNatClampNeg])) H locs) => ?_)
              exact kJ132 ((x_82.1, x_82.2.1, (sa x_82.2.2 8 (upd (x_82.2.2 8) (5 + p6_82).toNatClampNeg (((x_82.2.2 8) (5 + p6_82).toNatClampNeg) + 1))))) k_82 kt_82 kl_82 j_24 mc_25 md_26 tr_27 ff_82 fl_82 _ _ _ h hh (lv_sub hl [0, 1, 2] rfl)
    obtain ⟨n, h⟩ := h
    refine hw82 _ (fun x_k138 k_k138 kt_k138 kl_k138 j_k138 mc_k138 md_k138 tr_k138 ff_k138 fl_k138 H locs ls h hh hl => ?_) n 0 ((x.1, x.2.1, (sa x.2.2 8 (upd (x.2.2 8) (1 : Int32).toNatClampNeg (((x.2.2 8) (1 : Int32).toNatClampNeg) + 1))))) k_7 kt_15 kl_9 j_10 mc_11 md_12 tr_16 ff fl _ _ _ h hh (lv_sub hl [2, 3, 0] rfl)
    refine lv_aload_n hx hb dX9_tryCase_138 rfl (lv_at hl 0 rfl) ?_
    refine G_X9_12 [] [_, _, _, _, _, _, _, _, _, _, _, _] hx hb hT hown hK hh dX9_tryCase_139 ?_
    have hc := hh.cut [_] [_, _, _, _, _, _, _, _, _, _, _, _] [4, 0, 1, 2, 3, 5, 6, 7, 8, 9, 10, 11, 12] 13 rfl (by decide) rfl
    refine kI hc hA (rnVN hx hb hml hown hT hK hc (c_X1_pay l D E ad  j_k138  h _) mf_X1_pay nml_X9_247 ⟨rfl, rfl, Nat.le_of_ble_eq_true rfl, Nat.le_of_ble_eq_true rfl⟩ ⟨Nat.le_of_ble_eq_true rfl, Nat.le_of_ble_eq_true rfl⟩ 1 0 rfl rfl hl.1 rfl dX9_tryCase_142 (Nat.le_of_ble_eq_true rfl) rfl) (fun r31 j_32 H locs h hh => ?_)
    obtain ⟨g33, h⟩ := h
    rw [← g33] at hh
    have hh : Wh D A s.heap ((List.flatten [bX9 ad E x_k138, bX5 ad E k_k138, bX8 (ad 5) E kt_k138, bX2 (ad 6) E kl_k138, bX1 ad E j_32, bX3 (ad 2) E mc_k138, bX3 (ad 3) E md_k138, bX2 (ad 15) E tr_k138, bX8 (ad 13) E ff_k138, bX8 (ad 14) E fl_k138, dC ad E ck (j_32.2.1 1).toNatClampNeg, dK ad E mk (k_k138.2.1 1).toNatClampNeg, dP ad E pr (x_k138.2.1 4).toNatClampNeg])) _ _ := Wh.back (cs := [_]) (rs := [_, _, _, _, _, _, _, _, _, _, _, _]) _ [1, 2, 3, 4, 0, 5, 6, 7, 8, 9, 10, 11, 12] 13 rfl (by decide) rfl hh
    refine lv_if_ne (tgt := 150) hx hb dX9_tryCase_145 (by decide) (fun c34 => ?_) (fun c34 => ?_)
    · have h := h.1 c34
      refine lv_aload_n hx hb dX9_tryCase_150 rfl (lv_at hl 0 rfl) ?_
      refine G_X9_12 [] [_, _, _, _, _, _, _, _, _, _, _, _] hx hb hT hown hK hh dX9_tryCase_151 ?_
      refine lv_aload_n hx hb dX9_tryCase_154 rfl (lv_at hl 1 rfl) ?_
      obtain ⟨g35, h⟩ := h
      refine DG_X9_250 [_, _, _, _, _, _, _, _, _, _, _, _] [] hx hb hT hown hK hh g35 (v := (pr x1).2.1 1) rfl dX9_tryCase_155 ?_
      refine lv_aload_n hx hb dX9_tryCase_158 rfl (lv_at hl 0 rfl) ?_
      refine G_X9_73 [] [_, _, _, _, _, _, _, _, _, _, _, _] hx hb hT hown hK hh dX9_tryCase_159 ?_
      have hc := hh.cut [_, _, _, _, _] [_, _, _, _, _, _, _, _] [4, 5, 6, 7, 10, 0, 1, 2, 3, 8, 9, 11, 12] 13 rfl (by decide) rfl
      refine kI hc hA (rnVN hx hb hml hown hT hK hc (c_X1_verdict l D E ad (ad 15) ck j_32 mc_k138 md_k138 tr_k138 ((pr x1).2.1 1) h _) mf_X1_verdict nml_X9_164 ⟨rfl, rfl, Nat.le_of_ble_eq_true rfl, Nat.le_of_ble_eq_true rfl⟩ ⟨Nat.le_of_ble_eq_true rfl, Nat.le_of_ble_eq_true rfl⟩ 1 0 rfl rfl hl.1 rfl dX9_tryCase_162 (Nat.le_of_ble_eq_true rfl) rfl) (fun r36 u H locs h hh => ?_)
      obtain ⟨j_37, mc_38, md_39, tr_40⟩ := u
      have hh : Wh D A s.heap ((List.flatten [bX9 ad E x_k138, bX5 ad E k_k138, bX8 (ad 5) E kt_k138, bX2 (ad 6) E kl_k138, bX1 ad E j_37, bX3 (ad 2) E mc_38, bX3 (ad 3) E md_39, bX2 (ad 15) E tr_40, bX8 (ad 13) E ff_k138, bX8 (ad 14) E fl_k138, dC ad E ck (j_37.2.1 1).toNatClampNeg, dK ad E mk (k_k138.2.1 1).toNatClampNeg, dP ad E pr (x_k138.2.1 4).toNatClampNeg])) _ _ := Wh.back (cs := [_, _, _, _, _]) (rs := [_, _, _, _, _, _, _, _]) _ [5, 6, 7, 8, 0, 1, 2, 3, 9, 10, 4, 11, 12] 13 rfl (by decide) rfl hh
      refine lv_istore (lv' := [(6, .int (r36)), (0, .ref (ad 0 0)), (1, .ref (ad 22 x1))]) hx hb dX9_tryCase_165 hl (by decide) rfl (fun ls hl => ?_)
      refine lv_iload hx hb dX9_tryCase_167 (lv_at hl 0 rfl) ?_
      refine lv_iconst (v := 1) hx hb dX9_tryCase_169 (by decide) ?_
      refine lv_icmp_ne (tgt := 175) hx hb dX9_tryCase_170 (by decide) (fun c41 => ?_) (fun c41 => ?_)
      · have h := h.1 c41
        refine lv_aload_n hx hb dX9_tryCase_175 rfl (lv_at hl 1 rfl) ?_
        refine G_X9_67 [] [_, _, _, _, _, _, _, _, _, _, _, _] hx hb hT hown hK hh dX9_tryCase_176 ?_
        refine lv_aload_n hx hb dX9_tryCase_179 rfl (lv_at hl 1 rfl) ?_
        refine G_X9_21 [] [_, _, _, _, _, _, _, _, _, _, _, _] hx hb hT hown hK hh dX9_tryCase_180 ?_
        refine G_X9_140 [_] [_, _, _, _, _, _, _, _, _, _, _] hx hb hT hown hK hh dX9_tryCase_183 ?_
        have hc := hh.cut [_, _] [_, _, _, _, _, _, _, _, _, _, _] [8, 2, 0, 1, 3, 4, 5, 6, 7, 9, 10, 11, 12] 13 rfl (by decide) rfl
        refine kV hc hA (rnVN hx hb hml hown hT hK hc (c_X8_copy l D E (ad 13) (ad 5)  ff_k138 kt_k138  h _) mf_X8_copy nml_X9_225 ⟨rfl, rfl, Nat.le_of_ble_eq_true rfl, Nat.le_of_ble_eq_true rfl⟩ ⟨Nat.le_of_ble_eq_true rfl, Nat.le_of_ble_eq_true rfl⟩ 8 0 rfl rfl hl.1 rfl dX9_tryCase_186 (Nat.le_of_ble_eq_true rfl) rfl) (fun u H locs h hh => ?_)
        obtain ⟨ff_43, kt_44⟩ := u
        have hh : Wh D A s.heap ((List.flatten [bX9 ad E x_k138, bX5 ad E k_k138, bX8 (ad 5) E kt_44, bX2 (ad 6) E kl_k138, bX1 ad E j_37, bX3 (ad 2) E mc_38, bX3 (ad 3) E md_39, bX2 (ad 15) E tr_40, bX8 (ad 13) E ff_43, bX8 (ad 14) E fl_k138, dC ad E ck (j_37.2.1 1).toNatClampNeg, dK ad E mk (k_k138.2.1 1).toNatClampNeg, dP ad E pr (x_k138.2.1 4).toNatClampNeg])) _ _ := Wh.back (cs := [_, _]) (rs := [_, _, _, _, _, _, _, _, _, _, _]) _ [2, 3, 1, 4, 5, 6, 7, 8, 0, 9, 10, 11, 12] 13 rfl (by decide) rfl hh
        refine lv_aload_n hx hb dX9_tryCase_189 rfl (lv_at hl 1 rfl) ?_
        refine G_X9_70 [] [_, _, _, _, _, _, _, _, _, _, _, _] hx hb hT hown hK hh dX9_tryCase_190 ?_
        refine lv_aload_n hx hb dX9_tryCase_193 rfl (lv_at hl 1 rfl) ?_
        refine G_X9_21 [] [_, _, _, _, _, _, _, _, _, _, _, _] hx hb hT hown hK hh dX9_tryCase_194 ?_
        refine G_X9_140 [_] [_, _, _, _, _, _, _, _, _, _, _] hx hb hT hown hK hh dX9_tryCase_197 ?_
        have hc := hh.cut [_, _] [_, _, _, _, _, _, _, _, _, _, _] [9, 2, 0, 1, 3, 4, 5, 6, 7, 8, 10, 11, 12] 13 rfl (by decide) rfl
        refine kV hc hA (rnVN hx hb hml hown hT hK hc (c_X8_copy l D E (ad 14) (ad 5)  fl_k138 kt_44  h _) mf_X8_copy nml_X9_225 ⟨rfl, rfl, Nat.le_of_ble_eq_true rfl, Nat.le_of_ble_eq_true rfl⟩ ⟨Nat.le_of_ble_eq_true rfl, Nat.le_of_ble_eq_true rfl⟩ 8 0 rfl rfl hl.1 rfl dX9_tryCase_200 (Nat.le_of_ble_eq_true rfl) rfl) (fun u H locs h hh => ?_)
        obtain ⟨fl_46, kt_47⟩ := u
        have hh : Wh D A s.heap ((List.flatten [bX9 ad E x_k138, bX5 ad E k_k138, bX8 (ad 5) E kt_47, bX2 (ad 6) E kl_k138, bX1 ad E j_37, bX3 (ad 2) E mc_38, bX3 (ad 3) E md_39, bX2 (ad 15) E tr_40, bX8 (ad 13) E ff_43, bX8 (ad 14) E fl_46, dC ad E ck (j_37.2.1 1).toNatClampNeg, dK ad E mk (k_k138.2.1 1).toNatClampNeg, dP ad E pr (x_k138.2.1 4).toNatClampNeg])) _ _ := Wh.back (cs := [_, _]) (rs := [_, _, _, _, _, _, _, _, _, _, _]) _ [2, 3, 1, 4, 5, 6, 7, 8, 9, 0, 10, 11, 12] 13 rfl (by decide) rfl hh
        refine lv_aload_n hx hb dX9_tryCase_203 rfl (lv_at hl 1 rfl) ?_
        refine G_X9_60 [] [_, _, _, _, _, _, _, _, _, _, _, _] hx hb hT hown hK hh dX9_tryCase_204 ?_
        refine lv_iconst (v := 4) hx hb dX9_tryCase_207 (by decide) ?_
        refine lv_iload hx hb dX9_tryCase_208 (lv_at hl 0 rfl) ?_
        refine lv_ineg hx hb dX9_tryCase_210 ?_
        refine S_X9_8 [] [_, _, _, _, _, _, _, _, _, _, _, _] hx hb hK hh (by unfold vp_in; decide) dX9_tryCase_211 (fun H locs (hh : Wh D A s.heap ((List.flatten [bX9 ad E ((x_k138.1, x_k138.2.1, (sa x_k138.2.2 8 (upd (x_k138.2.2 8) (4 : Int32).toNatClampNeg (-r36))))), bX5 ad E k_k138, bX8 (ad 5) E kt_47, bX2 (ad 6) E kl_k138, bX1 ad E j_37, bX3 (ad 2) E mc_38, bX3 (ad 3) E md_39, bX2 (ad 15) E tr_40, bX8 (ad 13) E ff_43, bX8 (ad 14) E fl_46, dC ad E ck (j_37.2.1 1).toNatClampNeg, dK ad E mk (k_k138.2.1 1).toNatClampNeg, dP ad E pr (x_k138.2.1 4).toNatClampNeg])) H locs) => ?_)
        refine lv_iconst (v := 1) hx hb dX9_tryCase_212 (by decide) ?_
        exact hret _ _ _ _ _ ((x_k138.1, x_k138.2.1, (sa x_k138.2.2 8 (upd (x_k138.2.2 8) (4 : Int32).toNatClampNeg (-r36)))), k_k138, kt_47, kl_k138, j_37, mc_38, md_39, tr_40, ff_43, fl_46) dX9_tryCase_213 rfl h hh
      · have h := h.2 c41
        refine lv_iconst (v := 0) hx hb dX9_tryCase_173 (by decide) ?_
        exact hret _ _ _ _ _ (x_k138, k_k138, kt_k138, kl_k138, j_37, mc_38, md_39, tr_40, ff_k138, fl_k138) dX9_tryCase_174 rfl h hh
    · have h := h.2 c34
      refine lv_iconst (v := 3) hx hb dX9_tryCase_148 (by decide) ?_
      exact hret _ _ _ _ _ (x_k138, k_k138, kt_k138, kl_k138, j_32, mc_k138, md_k138, tr_k138, ff_k138, fl_k138) dX9_tryCase_149 rfl h hh
  · have h := h.2 c13
    refine lv_iload hx hb dX9_tryCase_31 (lv_at hl 0 rfl) ?_
    refine lv_bipush (v := (-6)) hx hb dX9_tryCase_33 (by decide) ?_
    refine lv_icmp_ne (tgt := 42) hx hb dX9_tryCase_35 (by decide) (fun c48 => ?_) (fun c48 => ?_)
    · have h := h.1 c48
      refine lv_iconst (v := 2) hx hb dX9_tryCase_42 (by decide) ?_
      exact hret _ _ _ _ _ (x, k_7, kt_8, kl_9, j_10, mc_11, md_12, tr, ff, fl) dX9_tryCase_43 rfl h hh
    · have h := h.2 c48
      refine lv_iconst (v := 3) hx hb dX9_tryCase_38 (by decide) ?_
      refine lv_goto (tgt := 43) hx hb dX9_tryCase_39 (by decide) ?_
      exact hret _ _ _ _ _ (x, k_7, kt_8, kl_9, j_10, mc_11, md_12, tr, ff, fl) dX9_tryCase_43 rfl h hh
