def w_X9_shrink_L13 (ck : Nat → Ob) (pr : Nat → Ob) (f1_13 : Nat)  (Post : Ob → Ob → Ob → Ob → Ob → Ob → Ob → Ob → Ob → Ob → Prop) : Nat → Int32 → Ob → Ob → Ob → Ob → Ob → Ob → Ob → Ob → Ob → Ob → Prop
  | 0, _, _, _, _, _, _, _, _, _, _, _ => False
  | n13 + 1, p2_13, x_13, sk_13, sl_13, sb_13, sn_13, fl_13, tr_13, j_13, mc_13, md_13 => ((1500 < p2_13) → Post x_13 sk_13 sl_13 sb_13 sn_13 fl_13 tr_13 j_13 mc_13 md_13) ∧ (¬ (1500 < p2_13) → w_X7_advance ck  sk_13 sl_13 sb_13 sn_13 j_13 mc_13 md_13 (fun (r6 : Int32) (sk_7 : Ob) (sl_8 : Ob) (sb_9 : Ob) (sn_10 : Ob) (j_11 : Ob) (mc_12 : Ob) (md_13 : Ob) => ((¬ r6 = 1) → Post x_13 sk_7 sl_8 sb_9 sn_10 fl_13 tr_13 j_11 mc_12 md_13) ∧ ((r6 = 1) → w_X1_pay   j_11 (fun (r15 : Int32) (j_16 : Ob) => (j_16.2.1 1 = j_11.2.1 1) ∧ (((¬ r15 = 0) → w_X8_gather  (0 : Int32) (sn_10.2.1 6) sn_10 tr_13 (fun (sn_20 : Ob) (tr_21 : Ob) => f1_13 < (x_13.2.1 4).toNatClampNeg ∧ (w_X1_verdict ck ((pr f1_13).2.1 1) j_16 mc_12 md_13 tr_21 (fun (r23 : Int32) (j_24 : Ob) (mc_25 : Ob) (md_26 : Ob) (tr_27 : Ob) => jn (fun J131 : Ob → Ob → Ob → Ob → Ob → Ob → Ob → Ob → Ob → Ob → Prop => ((r23 = 1) → J131 x_13 sk_7 sl_8 sb_9 sn_20 fl_13 tr_27 j_24 mc_25 md_26) ∧ (¬ (r23 = 1) → w_X8_copy   fl_13 sn_20 (fun (fl_30 : Ob) (sn_31 : Ob) => w_X7_start   sk_7 sb_9 fl_30 (fun (sk_33 : Ob) (sb_34 : Ob) (fl_35 : Ob) => J131 ((x_13.1, x_13.2.1, (sa (sa x_13.2.2 8 (upd (x_13.2.2 8) (3 : Int32).toNatClampNeg (((x_13.2.2 8) (3 : Int32).toNatClampNeg) + 1))) 8 (upd (upd (x_13.2.2 8) (3 : Int32).toNatClampNeg (((x_13.2.2 8) (3 : Int32).toNatClampNeg) + 1)) (4 : Int32).toNatClampNeg (-r23))))) sk_33 sl_8 sb_34 sn_31 fl_35 tr_27 j_24 mc_25 md_26)))) (fun (x_131 : Ob) (sk_131 : Ob) (sl_131 : Ob) (sb_131 : Ob) (sn_131 : Ob) (fl_131 : Ob) (tr_131 : Ob) (j_131 : Ob) (mc_131 : Ob) (md_131 : Ob) => w_X9_shrink_L13 ck pr f1_13  Post n13 (p2_13 + 1) x_131 sk_131 sl_131 sb_131 sn_131 fl_131 tr_131 j_131 mc_131 md_131))))) ∧ ((r15 = 0) → Post x_13 sk_7 sl_8 sb_9 sn_10 fl_13 tr_13 j_16 mc_12 md_13))))))
def w_X9_shrink (ck : Nat → Ob) (pr : Nat → Ob) (x1 : Nat) (x : Ob) (sk : Ob) (sl : Ob) (sb : Ob) (sn : Ob) (fl : Ob) (tr : Ob) (j : Ob) (mc : Ob) (md : Ob) (Post : Ob → Ob → Ob → Ob → Ob → Ob → Ob → Ob → Ob → Ob → Prop) : Prop := w_X7_start   sk sb fl (fun (sk_2 : Ob) (sb_3 : Ob) (fl_4 : Ob) => ∃ n13, w_X9_shrink_L13 ck pr x1  Post n13 0 x sk_2 sl sb_3 sn fl_4 tr j mc md)
set_option maxRecDepth 100000 in
set_option maxHeartbeats 4000000 in
theorem c_X9_shrink (l : Launch) (D : va_G) (E : Nat → ClassId) (ad : Nat → Nat → Nat) (ck : Nat → Ob) (pr : Nat → Ob)  (x : Ob) (sk : Ob) (sl : Ob) (sb : Ob) (sn : Ob) (fl : Ob) (tr : Ob) (j : Ob) (mc : Ob) (md : Ob) (x1 : Nat) {Post : Ob → Ob → Ob → Ob → Ob → Ob → Ob → Ob → Ob → Ob → Prop} (h : w_X9_shrink ck pr x1 x sk sl sb sn fl tr j mc md Post) : CtV l yX9_shrink cX9_shrink 4 ({ frames := 6, cells := 0, slots := 0, locals := 144 } : Room) D E [.ref (ad 0 0), .ref (ad 22 x1)] (List.flatten [bX9 ad E x, bX7 ad E sk, bX2 (ad 8) E sl, bX8 (ad 9) E sb, bX8 (ad 10) E sn, bX8 (ad 14) E fl, bX2 (ad 15) E tr, bX1 ad E j, bX3 (ad 2) E mc, bX3 (ad 3) E md, dC ad E ck (j.2.1 1).toNatClampNeg, dP ad E pr (x.2.1 4).toNatClampNeg]) (fun u : Ob × Ob × Ob × Ob × Ob × Ob × Ob × Ob × Ob × Ob => List.flatten [bX9 ad E u.1, bX7 ad E u.2.1, bX2 (ad 8) E u.2.2.1, bX8 (ad 9) E u.2.2.2.1, bX8 (ad 10) E u.2.2.2.2.1, bX8 (ad 14) E u.2.2.2.2.2.1, bX2 (ad 15) E u.2.2.2.2.2.2.1, bX1 ad E u.2.2.2.2.2.2.2.1, bX3 (ad 2) E u.2.2.2.2.2.2.2.2.1, bX3 (ad 3) E u.2.2.2.2.2.2.2.2.2, dC ad E ck (u.2.2.2.2.2.2.2.1.2.1 1).toNatClampNeg, dP ad E pr (u.1.2.1 4).toNatClampNeg]) (fun u : Ob × Ob × Ob × Ob × Ob × Ob × Ob × Ob × Ob × Ob => Post u.1 u.2.1 u.2.2.1 u.2.2.2.1 u.2.2.2.2.1 u.2.2.2.2.2.1 u.2.2.2.2.2.2.1 u.2.2.2.2.2.2.2.1 u.2.2.2.2.2.2.2.2.1 u.2.2.2.2.2.2.2.2.2) 0 0 := by
  refine enV (by decide +kernel) (Nat.le_of_ble_eq_true rfl) ?_
  intro p e s m args below meth c Q A ls hx hb hml hown hT hK hA hin0 hret hh hl
  have hl : lv_has ls 4 [(0, .ref (ad 0 0)), (1, .ref (ad 22 x1))] := hl
  unfold w_X9_shrink at h
  refine lv_aload_n hx hb dX9_shrink_0 rfl (lv_at hl 0 rfl) ?_
  refine G_X9_28 [] [_, _, _, _, _, _, _, _, _, _, _] hx hb hT hown hK hh dX9_shrink_1 ?_
  refine lv_aload_n hx hb dX9_shrink_4 rfl (lv_at hl 0 rfl) ?_
  refine G_X9_70 [] [_, _, _, _, _, _, _, _, _, _, _] hx hb hT hown hK hh dX9_shrink_5 ?_
  have hc := hh.cut [_, _, _] [_, _, _, _, _, _, _, _, _] [1, 3, 5, 0, 2, 4, 6, 7, 8, 9, 10, 11] 12 rfl (by decide) rfl
  refine kV hc hA (rnVN hx hb hml hown hT hK hc (c_X7_start l D E ad (ad 14)  sk sb fl  h _) mf_X7_start nml_X9_147 ⟨rfl, rfl, Nat.le_of_ble_eq_true rfl, Nat.le_of_ble_eq_true rfl⟩ ⟨Nat.le_of_ble_eq_true rfl, Nat.le_of_ble_eq_true rfl⟩ 7 0 rfl rfl hl.1 rfl dX9_shrink_8 (Nat.le_of_ble_eq_true rfl) rfl) (fun u H locs h hh => ?_)
  obtain ⟨sk_2, sb_3, fl_4⟩ := u
  have hh : Wh D A s.heap ((List.flatten [bX9 ad E x, bX7 ad E sk_2, bX2 (ad 8) E sl, bX8 (ad 9) E sb_3, bX8 (ad 10) E sn, bX8 (ad 14) E fl_4, bX2 (ad 15) E tr, bX1 ad E j, bX3 (ad 2) E mc, bX3 (ad 3) E md, dC ad E ck (j.2.1 1).toNatClampNeg, dP ad E pr (x.2.1 4).toNatClampNeg])) _ _ := Wh.back (cs := [_, _, _]) (rs := [_, _, _, _, _, _, _, _, _]) _ [3, 0, 4, 1, 5, 2, 6, 7, 8, 9, 10, 11] 12 rfl (by decide) rfl hh
  refine lv_iconst (v := 0) hx hb dX9_shrink_11 (by decide) ?_
  refine lv_istore_n (lv' := [(2, .int (0)), (0, .ref (ad 0 0)), (1, .ref (ad 22 x1))]) hx hb dX9_shrink_12 rfl hl (by decide) rfl (fun ls hl => ?_)
  have hw13 : ∀   (n : Nat) (p2_13 : Int32) (x_13 : Ob) (sk_13 : Ob) (sl_13 : Ob) (sb_13 : Ob) (sn_13 : Ob) (fl_13 : Ob) (tr_13 : Ob) (j_13 : Ob) (mc_13 : Ob) (md_13 : Ob) (H : Heap) (locs : List Loc) (ls : Array Slot), w_X9_shrink_L13 ck pr x1  Post n p2_13 x_13 sk_13 sl_13 sb_13 sn_13 fl_13 tr_13 j_13 mc_13 md_13 → Wh D A s.heap ((List.flatten [bX9 ad E x_13, bX7 ad E sk_13, bX2 (ad 8) E sl_13, bX8 (ad 9) E sb_13, bX8 (ad 10) E sn_13, bX8 (ad 14) E fl_13, bX2 (ad 15) E tr_13, bX1 ad E j_13, bX3 (ad 2) E mc_13, bX3 (ad 3) E md_13, dC ad E ck (j_13.2.1 1).toNatClampNeg, dP ad E pr (x_13.2.1 4).toNatClampNeg])) H locs → lv_has ls 4 [(0, .ref (ad 0 0)), (1, .ref (ad 22 x1)), (2, .int (p2_13))] → W p l e ({ frames := 6, cells := 0, slots := 0, locals := 144 } : Room) s m args below meth c H locs 0 0 Q (F0 m 13 ls []) := by
    intro   n
    induction n with
    | zero => intro p2_13 x_13 sk_13 sl_13 sb_13 sn_13 fl_13 tr_13 j_13 mc_13 md_13 H locs ls h hh hl; exact False.elim h
    | succ n ih =>
      intro p2_13 x_13 sk_13 sl_13 sb_13 sn_13 fl_13 tr_13 j_13 mc_13 md_13 H locs ls h hh hl
      refine lv_iload_n hx hb dX9_shrink_13 rfl (lv_at hl 2 rfl) ?_
      refine lv_sipush (v := 1500) hx hb dX9_shrink_14 (by decide) ?_
      refine lv_icmp_gt (tgt := 137) hx hb dX9_shrink_17 (by decide) (fun c5 => ?_) (fun c5 => ?_)
      · have h := h.1 c5
        exact hret _ _ _ _ (x_13, sk_13, sl_13, sb_13, sn_13, fl_13, tr_13, j_13, mc_13, md_13) dX9_shrink_137 h hh
      · have h := h.2 c5
        refine lv_aload_n hx hb dX9_shrink_20 rfl (lv_at hl 0 rfl) ?_
        refine G_X9_28 [] [_, _, _, _, _, _, _, _, _, _, _] hx hb hT hown hK hh dX9_shrink_21 ?_
        have hc := hh.cut [_, _, _, _, _, _, _, _] [_, _, _, _] [1, 2, 3, 4, 7, 8, 9, 10, 0, 5, 6, 11] 12 rfl (by decide) rfl
        refine kI hc hA (rnVN hx hb hml hown hT hK hc (c_X7_advance l D E ad ck sk_13 sl_13 sb_13 sn_13 j_13 mc_13 md_13  h _) mf_X7_advance nml_X9_151 ⟨rfl, rfl, Nat.le_of_ble_eq_true rfl, Nat.le_of_ble_eq_true rfl⟩ ⟨Nat.le_of_ble_eq_true rfl, Nat.le_of_ble_eq_true rfl⟩ 7 0 rfl rfl hl.1 rfl dX9_shrink_24 (Nat.le_of_ble_eq_true rfl) rfl) (fun r6 u H locs h hh => ?_)
        obtain ⟨sk_7, sl_8, sb_9, sn_10, j_11, mc_12, md_13⟩ := u
        have hh : Wh D A s.heap ((List.flatten [bX9 ad E x_13, bX7 ad E sk_7, bX2 (ad 8) E sl_8, bX8 (ad 9) E sb_9, bX8 (ad 10) E sn_10, bX8 (ad 14) E fl_13, bX2 (ad 15) E tr_13, bX1 ad E j_11, bX3 (ad 2) E mc_12, bX3 (ad 3) E md_13, dC ad E ck (j_11.2.1 1).toNatClampNeg, dP ad E pr (x_13.2.1 4).toNatClampNeg])) _ _ := Wh.back (cs := [_, _, _, _, _, _, _, _]) (rs := [_, _, _, _]) _ [8, 0, 1, 2, 3, 9, 10, 4, 5, 6, 7, 11] 12 rfl (by decide) rfl hh
        refine lv_iconst (v := 1) hx hb dX9_shrink_27 (by decide) ?_
        refine lv_icmp_ne (tgt := 137) hx hb dX9_shrink_28 (by decide) (fun c14 => ?_) (fun c14 => ?_)
        · have h := h.1 c14
          exact hret _ _ _ _ (x_13, sk_7, sl_8, sb_9, sn_10, fl_13, tr_13, j_11, mc_12, md_13) dX9_shrink_137 h hh
        · have h := h.2 c14
          refine lv_aload_n hx hb dX9_shrink_31 rfl (lv_at hl 0 rfl) ?_
          refine G_X9_12 [] [_, _, _, _, _, _, _, _, _, _, _] hx hb hT hown hK hh dX9_shrink_32 ?_
          have hc := hh.cut [_] [_, _, _, _, _, _, _, _, _, _, _] [7, 0, 1, 2, 3, 4, 5, 6, 8, 9, 10, 11] 12 rfl (by decide) rfl
          refine kI hc hA (rnVN hx hb hml hown hT hK hc (c_X1_pay l D E ad  j_11  h _) mf_X1_pay nml_X9_247 ⟨rfl, rfl, Nat.le_of_ble_eq_true rfl, Nat.le_of_ble_eq_true rfl⟩ ⟨Nat.le_of_ble_eq_true rfl, Nat.le_of_ble_eq_true rfl⟩ 1 0 rfl rfl hl.1 rfl dX9_shrink_35 (Nat.le_of_ble_eq_true rfl) rfl) (fun r15 j_16 H locs h hh => ?_)
          obtain ⟨g17, h⟩ := h
          rw [← g17] at hh
          have hh : Wh D A s.heap ((List.flatten [bX9 ad E x_13, bX7 ad E sk_7, bX2 (ad 8) E sl_8, bX8 (ad 9) E sb_9, bX8 (ad 10) E sn_10, bX8 (ad 14) E fl_13, bX2 (ad 15) E tr_13, bX1 ad E j_16, bX3 (ad 2) E mc_12, bX3 (ad 3) E md_13, dC ad E ck (j_16.2.1 1).toNatClampNeg, dP ad E pr (x_13.2.1 4).toNatClampNeg])) _ _ := Wh.back (cs := [_]) (rs := [_, _, _, _, _, _, _, _, _, _, _]) _ [1, 2, 3, 4, 5, 6, 7, 0, 8, 9, 10, 11] 12 rfl (by decide) rfl hh
          refine lv_if_ne (tgt := 42) hx hb dX9_shrink_38 (by decide) (fun c18 => ?_) (fun c18 => ?_)
          · have h := h.1 c18
            refine lv_aload_n hx hb dX9_shrink_42 rfl (lv_at hl 0 rfl) ?_
            refine G_X9_28 [] [_, _, _, _, _, _, _, _, _, _, _] hx hb hT hown hK hh dX9_shrink_43 ?_
            refine G_X9_155 [_] [_, _, _, _, _, _, _, _, _, _] hx hb hT hown hK hh dX9_shrink_46 ?_
            refine lv_iconst (v := 0) hx hb dX9_shrink_49 (by decide) ?_
            refine lv_aload_n hx hb dX9_shrink_50 rfl (lv_at hl 0 rfl) ?_
            refine G_X9_28 [] [_, _, _, _, _, _, _, _, _, _, _] hx hb hT hown hK hh dX9_shrink_51 ?_
            refine G_X9_155 [_] [_, _, _, _, _, _, _, _, _, _] hx hb hT hown hK hh dX9_shrink_54 ?_
            refine G_X9_228 [_, _, _, _] [_, _, _, _, _, _, _] hx hb hT hown hK hh (v := sn_10.2.1 6) rfl dX9_shrink_57 ?_
            refine lv_aload_n hx hb dX9_shrink_60 rfl (lv_at hl 0 rfl) ?_
            refine G_X9_73 [] [_, _, _, _, _, _, _, _, _, _, _] hx hb hT hown hK hh dX9_shrink_61 ?_
            have hc := hh.cut [_, _] [_, _, _, _, _, _, _, _, _, _] [4, 6, 0, 1, 2, 3, 5, 7, 8, 9, 10, 11] 12 rfl (by decide) rfl
            refine kV hc hA (rnVN hx hb hml hown hT hK hc (c_X8_gather l D E (ad 10) (ad 15)  sn_10 tr_13 (0 : Int32) (sn_10.2.1 6) h _) mf_X8_gather nml_X9_231 ⟨rfl, rfl, Nat.le_of_ble_eq_true rfl, Nat.le_of_ble_eq_true rfl⟩ ⟨Nat.le_of_ble_eq_true rfl, Nat.le_of_ble_eq_true rfl⟩ 8 0 rfl rfl hl.1 rfl dX9_shrink_64 (Nat.le_of_ble_eq_true rfl) rfl) (fun u H locs h hh => ?_)
            obtain ⟨sn_20, tr_21⟩ := u
            have hh : Wh D A s.heap ((List.flatten [bX9 ad E x_13, bX7 ad E sk_7, bX2 (ad 8) E sl_8, bX8 (ad 9) E sb_9, bX8 (ad 10) E sn_20, bX8 (ad 14) E fl_13, bX2 (ad 15) E tr_21, bX1 ad E j_16, bX3 (ad 2) E mc_12, bX3 (ad 3) E md_13, dC ad E ck (j_16.2.1 1).toNatClampNeg, dP ad E pr (x_13.2.1 4).toNatClampNeg])) _ _ := Wh.back (cs := [_, _]) (rs := [_, _, _, _, _, _, _, _, _, _]) _ [2, 3, 4, 5, 0, 6, 1, 7, 8, 9, 10, 11] 12 rfl (by decide) rfl hh
            refine lv_aload_n hx hb dX9_shrink_67 rfl (lv_at hl 0 rfl) ?_
            refine G_X9_12 [] [_, _, _, _, _, _, _, _, _, _, _] hx hb hT hown hK hh dX9_shrink_68 ?_
            refine lv_aload_n hx hb dX9_shrink_71 rfl (lv_at hl 1 rfl) ?_
            obtain ⟨g22, h⟩ := h
            refine DG_X9_250 [_, _, _, _, _, _, _, _, _, _, _] [] hx hb hT hown hK hh g22 (v := (pr x1).2.1 1) rfl dX9_shrink_72 ?_
            refine lv_aload_n hx hb dX9_shrink_75 rfl (lv_at hl 0 rfl) ?_
            refine G_X9_73 [] [_, _, _, _, _, _, _, _, _, _, _] hx hb hT hown hK hh dX9_shrink_76 ?_
            have hc := hh.cut [_, _, _, _, _] [_, _, _, _, _, _, _] [7, 8, 9, 6, 10, 0, 1, 2, 3, 4, 5, 11] 12 rfl (by decide) rfl
            refine kI hc hA (rnVN hx hb hml hown hT hK hc (c_X1_verdict l D E ad (ad 15) ck j_16 mc_12 md_13 tr_21 ((pr x1).2.1 1) h _) mf_X1_verdict nml_X9_164 ⟨rfl, rfl, Nat.le_of_ble_eq_true rfl, Nat.le_of_ble_eq_true rfl⟩ ⟨Nat.le_of_ble_eq_true rfl, Nat.le_of_ble_eq_true rfl⟩ 1 0 rfl rfl hl.1 rfl dX9_shrink_79 (Nat.le_of_ble_eq_true rfl) rfl) (fun r23 u H locs h hh => ?_)
            obtain ⟨j_24, mc_25, md_26, tr_27⟩ := u
            have hh : Wh D A s.heap ((List.flatten [bX9 ad E x_13, bX7 ad E sk_7, bX2 (ad 8) E sl_8, bX8 (ad 9) E sb_9, bX8 (ad 10) E sn_20, bX8 (ad 14) E fl_13, bX2 (ad 15) E tr_27, bX1 ad E j_24, bX3 (ad 2) E mc_25, bX3 (ad 3) E md_26, dC ad E ck (j_24.2.1 1).toNatClampNeg, dP ad E pr (x_13.2.1 4).toNatClampNeg])) _ _ := Wh.back (cs := [_, _, _, _, _]) (rs := [_, _, _, _, _, _, _]) _ [5, 6, 7, 8, 9, 10, 3, 0, 1, 2, 4, 11] 12 rfl (by decide) rfl hh
            refine lv_istore_n (lv' := [(3, .int (r23)), (0, .ref (ad 0 0)), (1, .ref (ad 22 x1)), (2, .int (p2_13))]) hx hb dX9_shrink_82 rfl hl (by decide) rfl (fun ls hl => ?_)
            refine lv_iload_n hx hb dX9_shrink_83 rfl (lv_at hl 0 rfl) ?_
            refine lv_iconst (v := 1) hx hb dX9_shrink_84 (by decide) ?_
            refine jn_elim h (fun J131 hJ131 h => ?_)
            have kJ131 : ∀ (x_131 : Ob) (sk_131 : Ob) (sl_131 : Ob) (sb_131 : Ob) (sn_131 : Ob) (fl_131 : Ob) (tr_131 : Ob) (j_131 : Ob) (mc_131 : Ob) (md_131 : Ob) (H : Heap) (locs : List Loc) (ls : Array Slot), J131 x_131 sk_131 sl_131 sb_131 sn_131 fl_131 tr_131 j_131 mc_131 md_131 → Wh D A s.heap ((List.flatten [bX9 ad E x_131, bX7 ad E sk_131, bX2 (ad 8) E sl_131, bX8 (ad 9) E sb_131, bX8 (ad 10) E sn_131, bX8 (ad 14) E fl_131, bX2 (ad 15) E tr_131, bX1 ad E j_131, bX3 (ad 2) E mc_131, bX3 (ad 3) E md_131, dC ad E ck (j_131.2.1 1).toNatClampNeg, dP ad E pr (x_131.2.1 4).toNatClampNeg])) H locs → lv_has ls 4 [(0, .ref (ad 0 0)), (1, .ref (ad 22 x1)), (2, .int (p2_13))] → W p l e ({ frames := 6, cells := 0, slots := 0, locals := 144 } : Room) s m args below meth c H locs 0 0 Q (F0 m 131 ls []) := by
              intro x_131 sk_131 sl_131 sb_131 sn_131 fl_131 tr_131 j_131 mc_131 md_131 H locs ls h hh hl
              rw [hJ131] at h
              refine lv_iinc (v := p2_13 + 1) (lv' := [(2, .int (p2_13 + 1)), (0, .ref (ad 0 0)), (1, .ref (ad 22 x1))]) hx hb dX9_shrink_131 hl (k := 2) rfl (by rfl) (by decide) rfl (fun ls hl => ?_)
              refine lv_goto (tgt := 13) hx hb dX9_shrink_134 (by decide) ?_
              exact ih (p2_13 + 1) x_131 sk_131 sl_131 sb_131 sn_131 fl_131 tr_131 j_131 mc_131 md_131 _ _ _ h hh (lv_sub hl [1, 2, 0] rfl)
            refine lv_icmp_eq (tgt := 131) hx hb dX9_shrink_85 (by decide) (fun c28 => ?_) (fun c28 => ?_)
            · have h := h.1 c28
              exact kJ131 x_13 sk_7 sl_8 sb_9 sn_20 fl_13 tr_27 j_24 mc_25 md_26 _ _ _ h hh (lv_sub hl [1, 2, 3] rfl)
            · have h := h.2 c28
              refine lv_aload_n hx hb dX9_shrink_88 rfl (lv_at hl 1 rfl) ?_
              refine G_X9_70 [] [_, _, _, _, _, _, _, _, _, _, _] hx hb hT hown hK hh dX9_shrink_89 ?_
              refine lv_aload_n hx hb dX9_shrink_92 rfl (lv_at hl 1 rfl) ?_
              refine G_X9_28 [] [_, _, _, _, _, _, _, _, _, _, _] hx hb hT hown hK hh dX9_shrink_93 ?_
              refine G_X9_155 [_] [_, _, _, _, _, _, _, _, _, _] hx hb hT hown hK hh dX9_shrink_96 ?_
              have hc := hh.cut [_, _] [_, _, _, _, _, _, _, _, _, _] [5, 4, 0, 1, 2, 3, 6, 7, 8, 9, 10, 11] 12 rfl (by decide) rfl
              refine kV hc hA (rnVN hx hb hml hown hT hK hc (c_X8_copy l D E (ad 14) (ad 10)  fl_13 sn_20  h _) mf_X8_copy nml_X9_225 ⟨rfl, rfl, Nat.le_of_ble_eq_true rfl, Nat.le_of_ble_eq_true rfl⟩ ⟨Nat.le_of_ble_eq_true rfl, Nat.le_of_ble_eq_true rfl⟩ 8 0 rfl rfl hl.1 rfl dX9_shrink_99 (Nat.le_of_ble_eq_true rfl) rfl) (fun u H locs h hh => ?_)
              obtain ⟨fl_30, sn_31⟩ := u
              have hh : Wh D A s.heap ((List.flatten [bX9 ad E x_13, bX7 ad E sk_7, bX2 (ad 8) E sl_8, bX8 (ad 9) E sb_9, bX8 (ad 10) E sn_31, bX8 (ad 14) E fl_30, bX2 (ad 15) E tr_27, bX1 ad E j_24, bX3 (ad 2) E mc_25, bX3 (ad 3) E md_26, dC ad E ck (j_24.2.1 1).toNatClampNeg, dP ad E pr (x_13.2.1 4).toNatClampNeg])) _ _ := Wh.back (cs := [_, _]) (rs := [_, _, _, _, _, _, _, _, _, _]) _ [2, 3, 4, 5, 1, 0, 6, 7, 8, 9, 10, 11] 12 rfl (by decide) rfl hh
              refine lv_aload_n hx hb dX9_shrink_102 rfl (lv_at hl 1 rfl) ?_
              refine G_X9_28 [] [_, _, _, _, _, _, _, _, _, _, _] hx hb hT hown hK hh dX9_shrink_103 ?_
              refine lv_aload_n hx hb dX9_shrink_106 rfl (lv_at hl 1 rfl) ?_
              refine G_X9_70 [] [_, _, _, _, _, _, _, _, _, _, _] hx hb hT hown hK hh dX9_shrink_107 ?_
              have hc := hh.cut [_, _, _] [_, _, _, _, _, _, _, _, _] [1, 3, 5, 0, 2, 4, 6, 7, 8, 9, 10, 11] 12 rfl (by decide) rfl
              refine kV hc hA (rnVN hx hb hml hown hT hK hc (c_X7_start l D E ad (ad 14)  sk_7 sb_9 fl_30  h _) mf_X7_start nml_X9_147 ⟨rfl, rfl, Nat.le_of_ble_eq_true rfl, Nat.le_of_ble_eq_true rfl⟩ ⟨Nat.le_of_ble_eq_true rfl, Nat.le_of_ble_eq_true rfl⟩ 7 0 rfl rfl hl.1 rfl dX9_shrink_110 (Nat.le_of_ble_eq_true rfl) rfl) (fun u H locs h hh => ?_)
              obtain ⟨sk_33, sb_34, fl_35⟩ := u
              have hh : Wh D A s.heap ((List.flatten [bX9 ad E x_13, bX7 ad E sk_33, bX2 (ad 8) E sl_8, bX8 (ad 9) E sb_34, bX8 (ad 10) E sn_31, bX8 (ad 14) E fl_35, bX2 (ad 15) E tr_27, bX1 ad E j_24, bX3 (ad 2) E mc_25, bX3 (ad 3) E md_26, dC ad E ck (j_24.2.1 1).toNatClampNeg, dP ad E pr (x_13.2.1 4).toNatClampNeg])) _ _ := Wh.back (cs := [_, _, _]) (rs := [_, _, _, _, _, _, _, _, _]) _ [3, 0, 4, 1, 5, 2, 6, 7, 8, 9, 10, 11] 12 rfl (by decide) rfl hh
              refine lv_aload_n hx hb dX9_shrink_113 rfl (lv_at hl 1 rfl) ?_
              refine G_X9_60 [] [_, _, _, _, _, _, _, _, _, _, _] hx hb hT hown hK hh dX9_shrink_114 ?_
              refine lv_iconst (v := 3) hx hb dX9_shrink_117 (by decide) ?_
              refine lv_dup2_11 hx hb dX9_shrink_118 rfl rfl ?_
              refine A_X9_8 [] [_, _, _, _, _, _, _, _, _, _, _] hx hb hK hh (v := (x_13.2.2 8) (3 : Int32).toNatClampNeg) (by unfold vp_in; decide) rfl dX9_shrink_119 ?_
              refine lv_iconst (v := 1) hx hb dX9_shrink_120 (by decide) ?_
              refine lv_iadd hx hb dX9_shrink_121 ?_
              refine S_X9_8 [] [_, _, _, _, _, _, _, _, _, _, _] hx hb hK hh (by unfold vp_in; decide) dX9_shrink_122 (fun H locs (hh : Wh D A s.heap ((List.flatten [bX9 ad E ((x_13.1, x_13.2.1, (sa x_13.2.2 8 (upd (x_13.2.2 8) (3 : Int32).toNatClampNeg (((x_13.2.2 8) (3 : Int32).toNatClampNeg) + 1))))), bX7 ad E sk_33, bX2 (ad 8) E sl_8, bX8 (ad 9) E sb_34, bX8 (ad 10) E sn_31, bX8 (ad 14) E fl_35, bX2 (ad 15) E tr_27, bX1 ad E j_24, bX3 (ad 2) E mc_25, bX3 (ad 3) E md_26, dC ad E ck (j_24.2.1 1).toNatClampNeg, dP ad E pr (x_13.2.1 4).toNatClampNeg])) H locs) => ?_)
              refine lv_aload_n hx hb dX9_shrink_123 rfl (lv_at hl 1 rfl) ?_
              refine G_X9_60 [] [_, _, _, _, _, _, _, _, _, _, _] hx hb hT hown hK hh dX9_shrink_124 ?_
              refine lv_iconst (v := 4) hx hb dX9_shrink_127 (by decide) ?_
              refine lv_iload_n hx hb dX9_shrink_128 rfl (lv_at hl 0 rfl) ?_
              refine lv_ineg hx hb dX9_shrink_129 ?_
              refine S_X9_8 [] [_, _, _, _, _, _, _, _, _, _, _] hx hb hK hh (by unfold vp_in; decide) dX9_shrink_130 (fun H locs (hh : Wh D A s.heap ((List.flatten [bX9 ad E ((x_13.1, x_13.2.1, (sa (sa x_13.2.2 8 (upd (x_13.2.2 8) (3 : Int32).toNatClampNeg (((x_13.2.2 8) (3 : Int32).toNatClampNeg) + 1))) 8 (upd (upd (x_13.2.2 8) (3 : Int32).toNatClampNeg (((x_13.2.2 8) (3 : Int32).toNatClampNeg) + 1)) (4 : Int32).toNatClampNeg (-r23))))), bX7 ad E sk_33, bX2 (ad 8) E sl_8, bX8 (ad 9) E sb_34, bX8 (ad 10) E sn_31, bX8 (ad 14) E fl_35, bX2 (ad 15) E tr_27, bX1 ad E j_24, bX3 (ad 2) E mc_25, bX3 (ad 3) E md_26, dC ad E ck (j_24.2.1 1).toNatClampNeg, dP ad E pr (x_13.2.1 4).toNatClampNeg])) H locs) => ?_)
              exact kJ131 ((x_13.1, x_13.2.1, (sa (sa x_13.2.2 8 (upd (x_13.2.2 8) (3 : Int32).toNatClampNeg (((x_13.2.2 8) (3 : Int32).toNatClampNeg) + 1))) 8 (upd (upd (x_13.2.2 8) (3 : Int32).toNatClampNeg (((x_13.2.2 8) (3 : Int32).toNatClampNeg) + 1)) (4 : Int32).toNatClampNeg (-r23))))) sk_33 sl_8 sb_34 sn_31 fl_35 tr_27 j_24 mc_25 md_26 _ _ _ h hh (lv_sub hl [1, 2, 3] rfl)
          · have h := h.2 c18
            exact hret _ _ _ _ (x_13, sk_7, sl_8, sb_9, sn_10, fl_13, tr_13, j_16, mc_12, md_13) dX9_shrink_41 h hh
  obtain ⟨n, h⟩ := h
  refine hw13   n 0 x sk_2 sl sb_3 sn fl_4 tr j mc md _ _ _ h hh (lv_sub hl [1, 2, 0] rfl)

def w_X9_run_L48 (ck : Nat → Ob) (mk : Nat → Ob) (pr : Nat → Ob) (f2_48 : Int64) (f4_48 : Int32) (f5_48 : Int32) (f6_48 : Nat) (K105_48 : Int32 → Ob → Ob → Ob → Ob → Ob → Ob → Ob → Ob → Ob → Ob → Ob → Ob → Ob → Ob → Prop) (Post : Int32 → Ob → Ob → Ob → Ob → Ob → Ob → Ob → Ob → Ob → Ob → Ob → Ob → Ob → Ob → Prop) : Nat → Int32 → Int32 → Ob → Ob → Ob → Ob → Ob → Ob → Ob → Ob → Ob → Ob → Ob → Ob → Ob → Ob → Prop
  | 0, _, _, _, _, _, _, _, _, _, _, _, _, _, _, _, _ => False
  | n48 + 1, p7_48, p8_48, x_48, k_48, kt_48, kl_48, j_48, mc_48, md_48, tr_48, ff_48, fl_48, sk_48, sl_48, sb_48, sn_48 => ((f4_48 ≤ p8_48) → K105_48 p7_48 x_48 k_48 kt_48 kl_48 j_48 mc_48 md_48 tr_48 ff_48 fl_48 sk_48 sl_48 sb_48 sn_48) ∧ (¬ (f4_48 ≤ p8_48) → ((¬ p7_48 = 0) → K105_48 p7_48 x_48 k_48 kt_48 kl_48 j_48 mc_48 md_48 tr_48 ff_48 fl_48 sk_48 sl_48 sb_48 sn_48) ∧ ((p7_48 = 0) → w_X9_tryCase ck mk pr f6_48 (f2_48 + (p8_48.toInt64 * ((-7046029254386353131)))) f5_48 x_48 k_48 kt_48 kl_48 j_48 mc_48 md_48 tr_48 ff_48 fl_48 (fun (r14 : Int32) (x_15 : Ob) (k_16 : Ob) (kt_17 : Ob) (kl_18 : Ob) (j_19 : Ob) (mc_20 : Ob) (md_21 : Ob) (tr_22 : Ob) (ff_23 : Ob) (fl_24 : Ob) => jn (fun J99 : Ob → Ob → Ob → Ob → Ob → Ob → Ob → Ob → Ob → Ob → Ob → Ob → Ob → Ob → Prop => ((¬ r14 = 1) → J99 x_15 k_16 kt_17 kl_18 j_19 mc_20 md_21 tr_22 ff_23 fl_24 sk_48 sl_48 sb_48 sn_48) ∧ ((r14 = 1) → w_X9_shrink ck pr f6_48 ((x_15.1, x_15.2.1, (sa x_15.2.2 8 (upd (x_15.2.2 8) (2 : Int32).toNatClampNeg p8_48)))) sk_48 sl_48 sb_48 sn_48 fl_24 tr_22 j_19 mc_20 md_21 (fun (x_27 : Ob) (sk_28 : Ob) (sl_29 : Ob) (sb_30 : Ob) (sn_31 : Ob) (fl_32 : Ob) (tr_33 : Ob) (j_34 : Ob) (mc_35 : Ob) (md_36 : Ob) => J99 x_27 k_16 kt_17 kl_18 j_34 mc_35 md_36 tr_33 ff_23 fl_32 sk_28 sl_29 sb_30 sn_31))) (fun (x_99 : Ob) (k_99 : Ob) (kt_99 : Ob) (kl_99 : Ob) (j_99 : Ob) (mc_99 : Ob) (md_99 : Ob) (tr_99 : Ob) (ff_99 : Ob) (fl_99 : Ob) (sk_99 : Ob) (sl_99 : Ob) (sb_99 : Ob) (sn_99 : Ob) => w_X9_run_L48 ck mk pr f2_48 f4_48 f5_48 f6_48 K105_48 Post n48 r14 (p8_48 + 1) x_99 k_99 kt_99 kl_99 j_99 mc_99 md_99 tr_99 ff_99 fl_99 sk_99 sl_99 sb_99 sn_99))))
def w_X9_run (ck : Nat → Ob) (mk : Nat → Ob) (pr : Nat → Ob) (x1 : Int32) (x2 : Int64) (x4 : Int32) (x5 : Int32) (x : Ob) (k : Ob) (kt : Ob) (kl : Ob) (j : Ob) (mc : Ob) (md : Ob) (tr : Ob) (ff : Ob) (fl : Ob) (sk : Ob) (sl : Ob) (sb : Ob) (sn : Ob) (Post : Int32 → Ob → Ob → Ob → Ob → Ob → Ob → Ob → Ob → Ob → Ob → Ob → Ob → Ob → Ob → Prop) : Prop := w_X9_propertyAt  x1 x (fun (r1 : Option Nat) (x_2 : Ob) => (x_2.2.1 4 = x.2.1 4) ∧ ((r1 = none → Post ((-1)) x_2 k kt kl j mc md tr ff fl sk sl sb sn) ∧ (∀ i4 : Nat, r1 = some i4 → ((x4 < 1) → Post ((-2)) x_2 k kt kl j mc md tr ff fl sk sl sb sn) ∧ (¬ (x4 < 1) → ((50 < x4) → Post ((-2)) x_2 k kt kl j mc md tr ff fl sk sl sb sn) ∧ (¬ (50 < x4) → w_X9_isSize  x5  (fun (r7 : Int32) => ((¬ r7 = 0) → w_X9_startReport   x_2 (fun (x_10 : Ob) => (x_10.2.1 4 = x_2.2.1 4) ∧ (∃ n48, w_X9_run_L48 ck mk pr x2 x4 x5 i4 (fun (k7_105 : Int32) (x_k105 : Ob) (k_k105 : Ob) (kt_k105 : Ob) (kl_k105 : Ob) (j_k105 : Ob) (mc_k105 : Ob) (md_k105 : Ob) (tr_k105 : Ob) (ff_k105 : Ob) (fl_k105 : Ob) (sk_k105 : Ob) (sl_k105 : Ob) (sb_k105 : Ob) (sn_k105 : Ob) => Post k7_105 ((x_k105.1, x_k105.2.1, (sa x_k105.2.2 8 (upd (x_k105.2.2 8) (0 : Int32).toNatClampNeg k7_105)))) k_k105 kt_k105 kl_k105 j_k105 mc_k105 md_k105 tr_k105 ff_k105 fl_k105 sk_k105 sl_k105 sb_k105 sn_k105) Post n48 0 0 x_10 k kt kl j mc md tr ff fl sk sl sb sn))) ∧ ((r7 = 0) → Post ((-2)) x_2 k kt kl j mc md tr ff fl sk sl sb sn)))))))
set_option maxRecDepth 100000 in
set_option maxHeartbeats 4000000 in
theorem c_X9_run (l : Launch) (D : va_G) (E : Nat → ClassId) (ad : Nat → Nat → Nat) (ck : Nat → Ob) (mk : Nat → Ob) (pr : Nat → Ob)  (x : Ob) (k : Ob) (kt : Ob) (kl : Ob) (j : Ob) (mc : Ob) (md : Ob) (tr : Ob) (ff : Ob) (fl : Ob) (sk : Ob) (sl : Ob) (sb : Ob) (sn : Ob) (x1 : Int32) (x2 : Int64) (x4 : Int32) (x5 : Int32) {Post : Int32 → Ob → Ob → Ob → Ob → Ob → Ob → Ob → Ob → Ob → Ob → Ob → Ob → Ob → Ob → Prop} (h : w_X9_run ck mk pr x1 x2 x4 x5 x k kt kl j mc md tr ff fl sk sl sb sn Post) : CtI l yX9_run cX9_run 9 .int ({ frames := 86, cells := 0, slots := 0, locals := 3553 } : Room) D E [.ref (ad 0 0), .int (x1), .long (x2), .int (x4), .int (x5)] (List.flatten [bX9 ad E x, bX5 ad E k, bX8 (ad 5) E kt, bX2 (ad 6) E kl, bX1 ad E j, bX3 (ad 2) E mc, bX3 (ad 3) E md, bX2 (ad 15) E tr, bX8 (ad 13) E ff, bX8 (ad 14) E fl, bX7 ad E sk, bX2 (ad 8) E sl, bX8 (ad 9) E sb, bX8 (ad 10) E sn, dC ad E ck (j.2.1 1).toNatClampNeg, dK ad E mk (k.2.1 1).toNatClampNeg, dP ad E pr (x.2.1 4).toNatClampNeg]) (fun u : Ob × Ob × Ob × Ob × Ob × Ob × Ob × Ob × Ob × Ob × Ob × Ob × Ob × Ob => List.flatten [bX9 ad E u.1, bX5 ad E u.2.1, bX8 (ad 5) E u.2.2.1, bX2 (ad 6) E u.2.2.2.1, bX1 ad E u.2.2.2.2.1, bX3 (ad 2) E u.2.2.2.2.2.1, bX3 (ad 3) E u.2.2.2.2.2.2.1, bX2 (ad 15) E u.2.2.2.2.2.2.2.1, bX8 (ad 13) E u.2.2.2.2.2.2.2.2.1, bX8 (ad 14) E u.2.2.2.2.2.2.2.2.2.1, bX7 ad E u.2.2.2.2.2.2.2.2.2.2.1, bX2 (ad 8) E u.2.2.2.2.2.2.2.2.2.2.2.1, bX8 (ad 9) E u.2.2.2.2.2.2.2.2.2.2.2.2.1, bX8 (ad 10) E u.2.2.2.2.2.2.2.2.2.2.2.2.2, dC ad E ck (u.2.2.2.2.1.2.1 1).toNatClampNeg, dK ad E mk (u.2.1.2.1 1).toNatClampNeg, dP ad E pr (u.1.2.1 4).toNatClampNeg]) (fun (r : Int32) (u : Ob × Ob × Ob × Ob × Ob × Ob × Ob × Ob × Ob × Ob × Ob × Ob × Ob × Ob) => Post r u.1 u.2.1 u.2.2.1 u.2.2.2.1 u.2.2.2.2.1 u.2.2.2.2.2.1 u.2.2.2.2.2.2.1 u.2.2.2.2.2.2.2.1 u.2.2.2.2.2.2.2.2.1 u.2.2.2.2.2.2.2.2.2.1 u.2.2.2.2.2.2.2.2.2.2.1 u.2.2.2.2.2.2.2.2.2.2.2.1 u.2.2.2.2.2.2.2.2.2.2.2.2.1 u.2.2.2.2.2.2.2.2.2.2.2.2.2) 0 0 := by
  refine enI (by decide +kernel) (Nat.le_of_ble_eq_true rfl) ?_
  intro p e s m args below meth c Q A ls hx hb hml hown hT hK hA hret hh hl
  have hl : lv_has ls 9 [(0, .ref (ad 0 0)), (1, .int (x1)), (2, .long (x2)), (4, .int (x4)), (5, .int (x5))] := hl
  unfold w_X9_run at h
  refine lv_aload_n hx hb dX9_run_0 rfl (lv_at hl 0 rfl) ?_
  refine lv_iload_n hx hb dX9_run_1 rfl (lv_at hl 1 rfl) ?_
  have hc := hh.cut [_] [_, _, _, _, _, _, _, _, _, _, _, _, _, _, _, _] [0, 1, 2, 3, 4, 5, 6, 7, 8, 9, 10, 11, 12, 13, 14, 15, 16] 17 rfl (by decide) rfl
  refine kE hc hA (rnV hx hb hml hown hT hK hc (c_X9_propertyAt l D E ad  x x1 h _) mf_X9_propertyAt kml_X9_193 ⟨rfl, rfl, Nat.le_of_ble_eq_true rfl, Nat.le_of_ble_eq_true rfl⟩ ⟨Nat.le_of_ble_eq_true rfl, Nat.le_of_ble_eq_true rfl⟩ 9 0 rfl rfl hl.1 rfl dX9_run_2 (Nat.le_of_ble_eq_true rfl) rfl) (fun r1 x_2 H locs h hh => ?_)
  obtain ⟨g3, h⟩ := h
  rw [← g3] at hh
  have hh : Wh D A s.heap ((List.flatten [bX9 ad E x_2, bX5 ad E k, bX8 (ad 5) E kt, bX2 (ad 6) E kl, bX1 ad E j, bX3 (ad 2) E mc, bX3 (ad 3) E md, bX2 (ad 15) E tr, bX8 (ad 13) E ff, bX8 (ad 14) E fl, bX7 ad E sk, bX2 (ad 8) E sl, bX8 (ad 9) E sb, bX8 (ad 10) E sn, dC ad E ck (j.2.1 1).toNatClampNeg, dK ad E mk (k.2.1 1).toNatClampNeg, dP ad E pr (x_2.2.1 4).toNatClampNeg])) _ _ := Wh.back (cs := [_]) (rs := [_, _, _, _, _, _, _, _, _, _, _, _, _, _, _, _]) _ [0, 1, 2, 3, 4, 5, 6, 7, 8, 9, 10, 11, 12, 13, 14, 15, 16] 17 rfl (by decide) rfl hh
  cases r1 with
  | none =>
    have h := h.1 rfl
    refine lv_astoreN (lv' := [(6, .null), (0, .ref (ad 0 0)), (1, .int (x1)), (2, .long (x2)), (4, .int (x4)), (5, .int (x5))]) hx hb dX9_run_5 hl (by decide) rfl (fun ls hl => ?_)
    refine lv_aloadN hx hb dX9_run_7 (lv_at hl 0 rfl) ?_
    refine lv_ifnonnullN hx hb dX9_run_9 ?_
    refine lv_iconst (v := (-1)) hx hb dX9_run_12 (by decide) ?_
    exact hret _ _ _ _ _ (x_2, k, kt, kl, j, mc, md, tr, ff, fl, sk, sl, sb, sn) dX9_run_13 rfl h hh
  | some i4 =>
    have h := h.2 i4 rfl
    refine lv_astore (lv' := [(6, .ref (ad 22 i4)), (0, .ref (ad 0 0)), (1, .int (x1)), (2, .long (x2)), (4, .int (x4)), (5, .int (x5))]) hx hb dX9_run_5 hl (by decide) rfl (fun ls hl => ?_)
    refine lv_aload hx hb dX9_run_7 (lv_at hl 0 rfl) ?_
    refine lv_ifnonnull (tgt := 14) hx hb dX9_run_9 (by decide) ?_
    refine lv_iload hx hb dX9_run_14 (lv_at hl 4 rfl) ?_
    refine lv_iconst (v := 1) hx hb dX9_run_16 (by decide) ?_
    refine lv_icmp_lt (tgt := 35) hx hb dX9_run_17 (by decide) (fun c5 => ?_) (fun c5 => ?_)
    · have h := h.1 c5
      refine lv_bipush (v := (-2)) hx hb dX9_run_35 (by decide) ?_
      exact hret _ _ _ _ _ (x_2, k, kt, kl, j, mc, md, tr, ff, fl, sk, sl, sb, sn) dX9_run_37 rfl h hh
    · have h := h.2 c5
      refine lv_iload hx hb dX9_run_20 (lv_at hl 4 rfl) ?_
      refine lv_bipush (v := 50) hx hb dX9_run_22 (by decide) ?_
      refine lv_icmp_gt (tgt := 35) hx hb dX9_run_24 (by decide) (fun c6 => ?_) (fun c6 => ?_)
      · have h := h.1 c6
        refine lv_bipush (v := (-2)) hx hb dX9_run_35 (by decide) ?_
        exact hret _ _ _ _ _ (x_2, k, kt, kl, j, mc, md, tr, ff, fl, sk, sl, sb, sn) dX9_run_37 rfl h hh
      · have h := h.2 c6
        refine lv_iload hx hb dX9_run_27 (lv_at hl 5 rfl) ?_
        refine kI hh.none hA (rnS hx hb hml hown hT hK hh.none (c_X9_isSize l D E    x5 h _) mf_X9_isSize kml_X9_129 ⟨rfl, rfl, Nat.le_of_ble_eq_true rfl, Nat.le_of_ble_eq_true rfl⟩ ⟨Nat.le_of_ble_eq_true rfl, Nat.le_of_ble_eq_true rfl⟩ hl.1 rfl dX9_run_29 (Nat.le_of_ble_eq_true rfl) rfl) (fun r7 u H locs h hh => ?_)
        have hh : Wh D A s.heap ((List.flatten [bX9 ad E x_2, bX5 ad E k, bX8 (ad 5) E kt, bX2 (ad 6) E kl, bX1 ad E j, bX3 (ad 2) E mc, bX3 (ad 3) E md, bX2 (ad 15) E tr, bX8 (ad 13) E ff, bX8 (ad 14) E fl, bX7 ad E sk, bX2 (ad 8) E sl, bX8 (ad 9) E sb, bX8 (ad 10) E sn, dC ad E ck (j.2.1 1).toNatClampNeg, dK ad E mk (k.2.1 1).toNatClampNeg, dP ad E pr (x_2.2.1 4).toNatClampNeg])) _ _ := hh.unone
        refine lv_if_ne (tgt := 38) hx hb dX9_run_32 (by decide) (fun c8 => ?_) (fun c8 => ?_)
        · have h := h.1 c8
          refine lv_aload_n hx hb dX9_run_38 rfl (lv_at hl 1 rfl) ?_
          have hc := hh.cut [_] [_, _, _, _, _, _, _, _, _, _, _, _, _, _, _, _] [0, 1, 2, 3, 4, 5, 6, 7, 8, 9, 10, 11, 12, 13, 14, 15, 16] 17 rfl (by decide) rfl
          refine kV hc hA (rnV hx hb hml hown hT hK hc (c_X9_startReport l D E ad  x_2  h _) mf_X9_startReport kml_X9_200 ⟨rfl, rfl, Nat.le_of_ble_eq_true rfl, Nat.le_of_ble_eq_true rfl⟩ ⟨Nat.le_of_ble_eq_true rfl, Nat.le_of_ble_eq_true rfl⟩ 9 0 rfl rfl hl.1 rfl dX9_run_39 (Nat.le_of_ble_eq_true rfl) rfl) (fun x_10 H locs h hh => ?_)
          obtain ⟨g11, h⟩ := h
          rw [← g11] at hh
          have hh : Wh D A s.heap ((List.flatten [bX9 ad E x_10, bX5 ad E k, bX8 (ad 5) E kt, bX2 (ad 6) E kl, bX1 ad E j, bX3 (ad 2) E mc, bX3 (ad 3) E md, bX2 (ad 15) E tr, bX8 (ad 13) E ff, bX8 (ad 14) E fl, bX7 ad E sk, bX2 (ad 8) E sl, bX8 (ad 9) E sb, bX8 (ad 10) E sn, dC ad E ck (j.2.1 1).toNatClampNeg, dK ad E mk (k.2.1 1).toNatClampNeg, dP ad E pr (x_10.2.1 4).toNatClampNeg])) _ _ := Wh.back (cs := [_]) (rs := [_, _, _, _, _, _, _, _, _, _, _, _, _, _, _, _]) _ [0, 1, 2, 3, 4, 5, 6, 7, 8, 9, 10, 11, 12, 13, 14, 15, 16] 17 rfl (by decide) rfl hh
          refine lv_iconst (v := 0) hx hb dX9_run_42 (by decide) ?_
          refine lv_istore (lv' := [(7, .int (0)), (6, .ref (ad 22 i4)), (0, .ref (ad 0 0)), (1, .int (x1)), (2, .long (x2)), (4, .int (x4)), (5, .int (x5))]) hx hb dX9_run_43 hl (by decide) rfl (fun ls hl => ?_)
          refine lv_iconst (v := 0) hx hb dX9_run_45 (by decide) ?_
          refine lv_istore (lv' := [(8, .int (0)), (7, .int (0)), (6, .ref (ad 22 i4)), (0, .ref (ad 0 0)), (1, .int (x1)), (2, .long (x2)), (4, .int (x4)), (5, .int (x5))]) hx hb dX9_run_46 hl (by decide) rfl (fun ls hl => ?_)
          have hw48 : ∀ (K105_48 : Int32 → Ob → Ob → Ob → Ob → Ob → Ob → Ob → Ob → Ob → Ob → Ob → Ob → Ob → Ob → Prop) (hK105_48 : ∀ (k7_105 : Int32) (x_k105 : Ob) (k_k105 : Ob) (kt_k105 : Ob) (kl_k105 : Ob) (j_k105 : Ob) (mc_k105 : Ob) (md_k105 : Ob) (tr_k105 : Ob) (ff_k105 : Ob) (fl_k105 : Ob) (sk_k105 : Ob) (sl_k105 : Ob) (sb_k105 : Ob) (sn_k105 : Ob) (H : Heap) (locs : List Loc) (ls : Array Slot), K105_48 k7_105 x_k105 k_k105 kt_k105 kl_k105 j_k105 mc_k105 md_k105 tr_k105 ff_k105 fl_k105 sk_k105 sl_k105 sb_k105 sn_k105 → Wh D A s.heap ((List.flatten [bX9 ad E x_k105, bX5 ad E k_k105, bX8 (ad 5) E kt_k105, bX2 (ad 6) E kl_k105, bX1 ad E j_k105, bX3 (ad 2) E mc_k105, bX3 (ad 3) E md_k105, bX2 (ad 15) E tr_k105, bX8 (ad 13) E ff_k105, bX8 (ad 14) E fl_k105, bX7 ad E sk_k105, bX2 (ad 8) E sl_k105, bX8 (ad 9) E sb_k105, bX8 (ad 10) E sn_k105, dC ad E ck (j_k105.2.1 1).toNatClampNeg, dK ad E mk (k_k105.2.1 1).toNatClampNeg, dP ad E pr (x_k105.2.1 4).toNatClampNeg])) H locs → lv_has ls 9 [(0, .ref (ad 0 0)), (7, .int (k7_105))] → W p l e ({ frames := 86, cells := 0, slots := 0, locals := 3553 } : Room) s m args below meth c H locs 0 0 Q (F0 m 105 ls [])) (n : Nat) (p7_48 : Int32) (p8_48 : Int32) (x_48 : Ob) (k_48 : Ob) (kt_48 : Ob) (kl_48 : Ob) (j_48 : Ob) (mc_48 : Ob) (md_48 : Ob) (tr_48 : Ob) (ff_48 : Ob) (fl_48 : Ob) (sk_48 : Ob) (sl_48 : Ob) (sb_48 : Ob) (sn_48 : Ob) (H : Heap) (locs : List Loc) (ls : Array Slot), w_X9_run_L48 ck mk pr x2 x4 x5 i4 K105_48 Post n p7_48 p8_48 x_48 k_48 kt_48 kl_48 j_48 mc_48 md_48 tr_48 ff_48 fl_48 sk_48 sl_48 sb_48 sn_48 → Wh D A s.heap ((List.flatten [bX9 ad E x_48, bX5 ad E k_48, bX8 (ad 5) E kt_48, bX2 (ad 6) E kl_48, bX1 ad E j_48, bX3 (ad 2) E mc_48, bX3 (ad 3) E md_48, bX2 (ad 15) E tr_48, bX8 (ad 13) E ff_48, bX8 (ad 14) E fl_48, bX7 ad E sk_48, bX2 (ad 8) E sl_48, bX8 (ad 9) E sb_48, bX8 (ad 10) E sn_48, dC ad E ck (j_48.2.1 1).toNatClampNeg, dK ad E mk (k_48.2.1 1).toNatClampNeg, dP ad E pr (x_48.2.1 4).toNatClampNeg])) H locs → lv_has ls 9 [(0, .ref (ad 0 0)), (2, .long (x2)), (4, .int (x4)), (5, .int (x5)), (6, .ref (ad 22 i4)), (7, .int (p7_48)), (8, .int (p8_48))] → W p l e ({ frames := 86, cells := 0, slots := 0, locals := 3553 } : Room) s m args below meth c H locs 0 0 Q (F0 m 48 ls []) := by
            intro K105_48 hK105_48 n
            induction n with
            | zero => intro p7_48 p8_48 x_48 k_48 kt_48 kl_48 j_48 mc_48 md_48 tr_48 ff_48 fl_48 sk_48 sl_48 sb_48 sn_48 H locs ls h hh hl; exact False.elim h
            | succ n ih =>
              intro p7_48 p8_48 x_48 k_48 kt_48 kl_48 j_48 mc_48 md_48 tr_48 ff_48 fl_48 sk_48 sl_48 sb_48 sn_48 H locs ls h hh hl
              refine lv_iload hx hb dX9_run_48 (lv_at hl 6 rfl) ?_
              refine lv_iload hx hb dX9_run_50 (lv_at hl 2 rfl) ?_
              refine lv_icmp_ge (tgt := 105) hx hb dX9_run_52 (by decide) (fun c12 => ?_) (fun c12 => ?_)
              · have h := h.1 c12
                exact hK105_48 p7_48 x_48 k_48 kt_48 kl_48 j_48 mc_48 md_48 tr_48 ff_48 fl_48 sk_48 sl_48 sb_48 sn_48 _ _ _ h hh (lv_sub hl [0, 5] rfl)
              · have h := h.2 c12
                refine lv_iload hx hb dX9_run_55 (lv_at hl 5 rfl) ?_
                refine lv_if_ne (tgt := 105) hx hb dX9_run_57 (by decide) (fun c13 => ?_) (fun c13 => ?_)
                · have h := h.1 c13
                  exact hK105_48 p7_48 x_48 k_48 kt_48 kl_48 j_48 mc_48 md_48 tr_48 ff_48 fl_48 sk_48 sl_48 sb_48 sn_48 _ _ _ h hh (lv_sub hl [0, 5] rfl)
                · have h := h.2 c13
                  refine lv_aload_n hx hb dX9_run_60 rfl (lv_at hl 0 rfl) ?_
                  refine lv_aload hx hb dX9_run_61 (lv_at hl 4 rfl) ?_
                  refine lv_lload_n hx hb dX9_run_63 rfl (lv_at hl 1 rfl) ?_
                  refine lv_iload hx hb dX9_run_64 (lv_at hl 6 rfl) ?_
                  refine lv_i2l (v := p8_48.toInt64) hx hb dX9_run_66 rfl ?_
                  refine lv_ldc2 (v := (-7046029254386353131)) hx hb hown (hT _ kcL_X9_203) dX9_run_67 ?_
                  refine lv_lmul hx hb dX9_run_70 ?_
                  refine lv_ladd hx hb dX9_run_71 ?_
                  refine lv_iload hx hb dX9_run_72 (lv_at hl 3 rfl) ?_
                  have hc := hh.cut [_, _, _, _, _, _, _, _, _, _, _, _, _] [_, _, _, _] [0, 1, 2, 3, 4, 5, 6, 7, 8, 9, 14, 15, 16, 10, 11, 12, 13] 17 rfl (by decide) rfl
                  refine kI hc hA (rnV hx hb hml hown hT hK hc (c_X9_tryCase l D E ad ck mk pr x_48 k_48 kt_48 kl_48 j_48 mc_48 md_48 tr_48 ff_48 fl_48 i4 (x2 + (p8_48.toInt64 * ((-7046029254386353131)))) x5 h _) mf_X9_tryCase kml_X9_205 ⟨rfl, rfl, Nat.le_of_ble_eq_true rfl, Nat.le_of_ble_eq_true rfl⟩ ⟨Nat.le_of_ble_eq_true rfl, Nat.le_of_ble_eq_true rfl⟩ 9 0 rfl rfl hl.1 rfl dX9_run_74 (Nat.le_of_ble_eq_true rfl) rfl) (fun r14 u H locs h hh => ?_)
                  obtain ⟨x_15, k_16, kt_17, kl_18, j_19, mc_20, md_21, tr_22, ff_23, fl_24⟩ := u
                  have hh : Wh D A s.heap ((List.flatten [bX9 ad E x_15, bX5 ad E k_16, bX8 (ad 5) E kt_17, bX2 (ad 6) E kl_18, bX1 ad E j_19, bX3 (ad 2) E mc_20, bX3 (ad 3) E md_21, bX2 (ad 15) E tr_22, bX8 (ad 13) E ff_23, bX8 (ad 14) E fl_24, bX7 ad E sk_48, bX2 (ad 8) E sl_48, bX8 (ad 9) E sb_48, bX8 (ad 10) E sn_48, dC ad E ck (j_19.2.1 1).toNatClampNeg, dK ad E mk (k_16.2.1 1).toNatClampNeg, dP ad E pr (x_15.2.1 4).toNatClampNeg])) _ _ := Wh.back (cs := [_, _, _, _, _, _, _, _, _, _, _, _, _]) (rs := [_, _, _, _]) _ [0, 1, 2, 3, 4, 5, 6, 7, 8, 9, 13, 14, 15, 16, 10, 11, 12] 17 rfl (by decide) rfl hh
                  refine lv_istore (lv' := [(7, .int (r14)), (0, .ref (ad 0 0)), (2, .long (x2)), (4, .int (x4)), (5, .int (x5)), (6, .ref (ad 22 i4)), (8, .int (p8_48))]) hx hb dX9_run_77 hl (by decide) rfl (fun ls hl => ?_)
                  refine lv_iload hx hb dX9_run_79 (lv_at hl 0 rfl) ?_
                  refine lv_iconst (v := 1) hx hb dX9_run_81 (by decide) ?_
                  refine jn_elim h (fun J99 hJ99 h => ?_)
                  have kJ99 : ∀ (x_99 : Ob) (k_99 : Ob) (kt_99 : Ob) (kl_99 : Ob) (j_99 : Ob) (mc_99 : Ob) (md_99 : Ob) (tr_99 : Ob) (ff_99 : Ob) (fl_99 : Ob) (sk_99 : Ob) (sl_99 : Ob) (sb_99 : Ob) (sn_99 : Ob) (H : Heap) (locs : List Loc) (ls : Array Slot), J99 x_99 k_99 kt_99 kl_99 j_99 mc_99 md_99 tr_99 ff_99 fl_99 sk_99 sl_99 sb_99 sn_99 → Wh D A s.heap ((List.flatten [bX9 ad E x_99, bX5 ad E k_99, bX8 (ad 5) E kt_99, bX2 (ad 6) E kl_99, bX1 ad E j_99, bX3 (ad 2) E mc_99, bX3 (ad 3) E md_99, bX2 (ad 15) E tr_99, bX8 (ad 13) E ff_99, bX8 (ad 14) E fl_99, bX7 ad E sk_99, bX2 (ad 8) E sl_99, bX8 (ad 9) E sb_99, bX8 (ad 10) E sn_99, dC ad E ck (j_99.2.1 1).toNatClampNeg, dK ad E mk (k_99.2.1 1).toNatClampNeg, dP ad E pr (x_99.2.1 4).toNatClampNeg])) H locs → lv_has ls 9 [(0, .ref (ad 0 0)), (2, .long (x2)), (4, .int (x4)), (5, .int (x5)), (6, .ref (ad 22 i4)), (7, .int (r14)), (8, .int (p8_48))] → W p l e ({ frames := 86, cells := 0, slots := 0, locals := 3553 } : Room) s m args below meth c H locs 0 0 Q (F0 m 99 ls []) := by
                    intro x_99 k_99 kt_99 kl_99 j_99 mc_99 md_99 tr_99 ff_99 fl_99 sk_99 sl_99 sb_99 sn_99 H locs ls h hh hl
                    rw [hJ99] at h
                    refine lv_iinc (v := p8_48 + 1) (lv' := [(8, .int (p8_48 + 1)), (0, .ref (ad 0 0)), (2, .long (x2)), (4, .int (x4)), (5, .int (x5)), (6, .ref (ad 22 i4)), (7, .int (r14))]) hx hb dX9_run_99 hl (k := 6) rfl (by rfl) (by decide) rfl (fun ls hl => ?_)
                    refine lv_goto (tgt := 48) hx hb dX9_run_102 (by decide) ?_
                    exact ih r14 (p8_48 + 1) x_99 k_99 kt_99 kl_99 j_99 mc_99 md_99 tr_99 ff_99 fl_99 sk_99 sl_99 sb_99 sn_99 _ _ _ h hh (lv_sub hl [1, 2, 3, 4, 5, 6, 0] rfl)
                  refine lv_icmp_ne (tgt := 99) hx hb dX9_run_82 (by decide) (fun c25 => ?_) (fun c25 => ?_)
                  · have h := h.1 c25
                    exact kJ99 x_15 k_16 kt_17 kl_18 j_19 mc_20 md_21 tr_22 ff_23 fl_24 sk_48 sl_48 sb_48 sn_48 _ _ _ h hh (lv_sub hl [1, 2, 3, 4, 5, 0, 6] rfl)
                  · have h := h.2 c25
                    refine lv_aload_n hx hb dX9_run_85 rfl (lv_at hl 1 rfl) ?_
                    refine G_X9_60 [] [_, _, _, _, _, _, _, _, _, _, _, _, _, _, _, _] hx hb hT hown hK hh dX9_run_86 ?_
                    refine lv_iconst (v := 2) hx hb dX9_run_89 (by decide) ?_
                    refine lv_iload hx hb dX9_run_90 (lv_at hl 6 rfl) ?_
                    refine S_X9_8 [] [_, _, _, _, _, _, _, _, _, _, _, _, _, _, _, _] hx hb hK hh (by unfold vp_in; decide) dX9_run_92 (fun H locs (hh : Wh D A s.heap ((List.flatten [bX9 ad E ((x_15.1, x_15.2.1, (sa x_15.2.2 8 (upd (x_15.2.2 8) (2 : Int32).toNatClampNeg p8_48)))), bX5 ad E k_16, bX8 (ad 5) E kt_17, bX2 (ad 6) E kl_18, bX1 ad E j_19, bX3 (ad 2) E mc_20, bX3 (ad 3) E md_21, bX2 (ad 15) E tr_22, bX8 (ad 13) E ff_23, bX8 (ad 14) E fl_24, bX7 ad E sk_48, bX2 (ad 8) E sl_48, bX8 (ad 9) E sb_48, bX8 (ad 10) E sn_48, dC ad E ck (j_19.2.1 1).toNatClampNeg, dK ad E mk (k_16.2.1 1).toNatClampNeg, dP ad E pr (x_15.2.1 4).toNatClampNeg])) H locs) => ?_)
                    refine lv_aload_n hx hb dX9_run_93 rfl (lv_at hl 1 rfl) ?_
                    refine lv_aload hx hb dX9_run_94 (lv_at hl 5 rfl) ?_
                    have hc := hh.cut [_, _, _, _, _, _, _, _, _, _, _, _] [_, _, _, _, _] [0, 10, 11, 12, 13, 9, 7, 4, 5, 6, 14, 16, 1, 2, 3, 8, 15] 17 rfl (by decide) rfl
                    refine kV hc hA (rnV hx hb hml hown hT hK hc (c_X9_shrink l D E ad ck pr ((x_15.1, x_15.2.1, (sa x_15.2.2 8 (upd (x_15.2.2 8) (2 : Int32).toNatClampNeg p8_48)))) sk_48 sl_48 sb_48 sn_48 fl_24 tr_22 j_19 mc_20 md_21 i4 h _) mf_X9_shrink kml_X9_209 ⟨rfl, rfl, Nat.le_of_ble_eq_true rfl, Nat.le_of_ble_eq_true rfl⟩ ⟨Nat.le_of_ble_eq_true rfl, Nat.le_of_ble_eq_true rfl⟩ 9 0 rfl rfl hl.1 rfl dX9_run_96 (Nat.le_of_ble_eq_true rfl) rfl) (fun u H locs h hh => ?_)
                    obtain ⟨x_27, sk_28, sl_29, sb_30, sn_31, fl_32, tr_33, j_34, mc_35, md_36⟩ := u
                    have hh : Wh D A s.heap ((List.flatten [bX9 ad E x_27, bX5 ad E k_16, bX8 (ad 5) E kt_17, bX2 (ad 6) E kl_18, bX1 ad E j_34, bX3 (ad 2) E mc_35, bX3 (ad 3) E md_36, bX2 (ad 15) E tr_33, bX8 (ad 13) E ff_23, bX8 (ad 14) E fl_32, bX7 ad E sk_28, bX2 (ad 8) E sl_29, bX8 (ad 9) E sb_30, bX8 (ad 10) E sn_31, dC ad E ck (j_34.2.1 1).toNatClampNeg, dK ad E mk (k_16.2.1 1).toNatClampNeg, dP ad E pr (x_27.2.1 4).toNatClampNeg])) _ _ := Wh.back (cs := [_, _, _, _, _, _, _, _, _, _, _, _]) (rs := [_, _, _, _, _]) _ [0, 12, 13, 14, 7, 8, 9, 6, 15, 5, 1, 2, 3, 4, 10, 16, 11] 17 rfl (by decide) rfl hh
                    exact kJ99 x_27 k_16 kt_17 kl_18 j_34 mc_35 md_36 tr_33 ff_23 fl_32 sk_28 sl_29 sb_30 sn_31 _ _ _ h hh (lv_sub hl [1, 2, 3, 4, 5, 0, 6] rfl)
          obtain ⟨n, h⟩ := h
          refine hw48 _ (fun k7_105 x_k105 k_k105 kt_k105 kl_k105 j_k105 mc_k105 md_k105 tr_k105 ff_k105 fl_k105 sk_k105 sl_k105 sb_k105 sn_k105 H locs ls h hh hl => ?_) n 0 0 x_10 k kt kl j mc md tr ff fl sk sl sb sn _ _ _ h hh (lv_sub hl [3, 5, 6, 7, 2, 1, 0] rfl)
          refine lv_aload_n hx hb dX9_run_105 rfl (lv_at hl 0 rfl) ?_
          refine G_X9_60 [] [_, _, _, _, _, _, _, _, _, _, _, _, _, _, _, _] hx hb hT hown hK hh dX9_run_106 ?_
          refine lv_iconst (v := 0) hx hb dX9_run_109 (by decide) ?_
          refine lv_iload hx hb dX9_run_110 (lv_at hl 1 rfl) ?_
          refine S_X9_8 [] [_, _, _, _, _, _, _, _, _, _, _, _, _, _, _, _] hx hb hK hh (by unfold vp_in; decide) dX9_run_112 (fun H locs (hh : Wh D A s.heap ((List.flatten [bX9 ad E ((x_k105.1, x_k105.2.1, (sa x_k105.2.2 8 (upd (x_k105.2.2 8) (0 : Int32).toNatClampNeg k7_105)))), bX5 ad E k_k105, bX8 (ad 5) E kt_k105, bX2 (ad 6) E kl_k105, bX1 ad E j_k105, bX3 (ad 2) E mc_k105, bX3 (ad 3) E md_k105, bX2 (ad 15) E tr_k105, bX8 (ad 13) E ff_k105, bX8 (ad 14) E fl_k105, bX7 ad E sk_k105, bX2 (ad 8) E sl_k105, bX8 (ad 9) E sb_k105, bX8 (ad 10) E sn_k105, dC ad E ck (j_k105.2.1 1).toNatClampNeg, dK ad E mk (k_k105.2.1 1).toNatClampNeg, dP ad E pr (x_k105.2.1 4).toNatClampNeg])) H locs) => ?_)
          refine lv_iload hx hb dX9_run_113 (lv_at hl 1 rfl) ?_
          exact hret _ _ _ _ _ ((x_k105.1, x_k105.2.1, (sa x_k105.2.2 8 (upd (x_k105.2.2 8) (0 : Int32).toNatClampNeg k7_105))), k_k105, kt_k105, kl_k105, j_k105, mc_k105, md_k105, tr_k105, ff_k105, fl_k105, sk_k105, sl_k105, sb_k105, sn_k105) dX9_run_115 rfl h hh
        · have h := h.2 c8
          refine lv_bipush (v := (-2)) hx hb dX9_run_35 (by decide) ?_
          exact hret _ _ _ _ _ (x_2, k, kt, kl, j, mc, md, tr, ff, fl, sk, sl, sb, sn) dX9_run_37 rfl h hh
