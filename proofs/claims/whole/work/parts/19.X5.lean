def w_X7_settle_L19 (ck : Nat → Ob)   (Post : Int32 → Ob → Ob → Ob → Ob → Ob → Ob → Prop) : Nat → Int32 → Int32 → Int32 → Ob → Ob → Ob → Ob → Ob → Ob → Prop
  | 0, _, _, _, _, _, _, _, _, _ => False
  | n19 + 1, p1_19, p2_19, p3_19, sk_19, sl_19, sn_19, j_19, mc_19, md_19 => ((31 ≤ p3_19) → Post 1 sk_19 sl_19 sn_19 j_19 mc_19 md_19) ∧ (¬ (31 ≤ p3_19) → ((p2_19 < 0) → Post 1 sk_19 sl_19 sn_19 j_19 mc_19 md_19) ∧ (¬ (p2_19 < 0) → w_X8_kind  p2_19 sn_19 (fun (r5 : Int32) (sn_6 : Ob) => jn (fun J127 : Ob → Ob → Ob → Ob → Ob → Ob → Prop => jn (fun J57 : Ob → Ob → Ob → Ob → Ob → Ob → Prop => ((¬ r5 = 7) → J57 sk_19 sl_19 sn_6 j_19 mc_19 md_19) ∧ ((r5 = 7) → ((¬ p1_19 = (p2_19 + 1)) → J57 sk_19 sl_19 sn_6 j_19 mc_19 md_19) ∧ ((p1_19 = (p2_19 + 1)) → w_X7_lowerRest  p1_19 sk_19 sl_19 sn_6 (fun (sk_10 : Ob) (sl_11 : Ob) (sn_12 : Ob) => J127 sk_10 sl_11 sn_12 j_19 mc_19 md_19)))) (fun (sk_57 : Ob) (sl_57 : Ob) (sn_57 : Ob) (j_57 : Ob) (mc_57 : Ob) (md_57 : Ob) => w_X8_kind  p2_19 sn_57 (fun (r13 : Int32) (sn_14 : Ob) => ((¬ r13 = 5) → J127 sk_57 sl_57 sn_14 j_57 mc_57 md_57) ∧ ((r13 = 5) → w_X1_pay   j_57 (fun (r16 : Int32) (j_17 : Ob) => (j_17.2.1 1 = j_57.2.1 1) ∧ (((¬ r16 = 0) → w_X8_end  p1_19 sn_14 (fun (r20 : Int32) (sn_21 : Ob) => w_X8_gather  p1_19 r20 sn_21 sl_57 (fun (sn_23 : Ob) (sl_24 : Ob) => w_X8_value  p2_19 sn_23 (fun (r25 : Int32) (sn_26 : Ob) => w_X1_verdict ck r25 j_17 mc_57 md_57 sl_24 (fun (r27 : Int32) (j_28 : Ob) (mc_29 : Ob) (md_30 : Ob) (sl_31 : Ob) => ((r27 = 1) → J127 sk_57 sl_31 sn_26 j_28 mc_29 md_30) ∧ (¬ (r27 = 1) → Post 0 sk_57 sl_31 sn_26 j_28 mc_29 md_30)))))) ∧ ((r16 = 0) → Post ((-6)) sk_57 sl_57 sn_14 j_17 mc_57 md_57))))))) (fun (sk_127 : Ob) (sl_127 : Ob) (sn_127 : Ob) (j_127 : Ob) (mc_127 : Ob) (md_127 : Ob) => w_X8_parent  p2_19 sn_127 (fun (r33 : Int32) (sn_34 : Ob) => w_X7_settle_L19 ck   Post n19 p2_19 r33 (p3_19 + 1) sk_127 sl_127 sn_34 j_127 mc_127 md_127)))))
def w_X7_settle (ck : Nat → Ob)  (sk : Ob) (sl : Ob) (sn : Ob) (j : Ob) (mc : Ob) (md : Ob) (Post : Int32 → Ob → Ob → Ob → Ob → Ob → Ob → Prop) : Prop := w_X8_parent  (sk.2.1 4) sn (fun (r1 : Int32) (sn_2 : Ob) => ∃ n19, w_X7_settle_L19 ck   Post n19 (sk.2.1 4) r1 0 sk sl sn_2 j mc md)
set_option maxRecDepth 100000 in
set_option maxHeartbeats 4000000 in
theorem c_X7_settle (l : Launch) (D : va_G) (E : Nat → ClassId) (ad : Nat → Nat → Nat) (ck : Nat → Ob)  (sk : Ob) (sl : Ob) (sn : Ob) (j : Ob) (mc : Ob) (md : Ob)  {Post : Int32 → Ob → Ob → Ob → Ob → Ob → Ob → Prop} (h : w_X7_settle ck  sk sl sn j mc md Post) : CtI l yX7_settle cX7_settle 4 .int ({ frames := 4, cells := 0, slots := 0, locals := 99 } : Room) D E [.ref (ad 7 0)] (List.flatten [bX7 ad E sk, bX2 (ad 8) E sl, bX8 (ad 10) E sn, bX1 ad E j, bX3 (ad 2) E mc, bX3 (ad 3) E md, dC ad E ck (j.2.1 1).toNatClampNeg]) (fun u : Ob × Ob × Ob × Ob × Ob × Ob => List.flatten [bX7 ad E u.1, bX2 (ad 8) E u.2.1, bX8 (ad 10) E u.2.2.1, bX1 ad E u.2.2.2.1, bX3 (ad 2) E u.2.2.2.2.1, bX3 (ad 3) E u.2.2.2.2.2, dC ad E ck (u.2.2.2.1.2.1 1).toNatClampNeg]) (fun (r : Int32) (u : Ob × Ob × Ob × Ob × Ob × Ob) => Post r u.1 u.2.1 u.2.2.1 u.2.2.2.1 u.2.2.2.2.1 u.2.2.2.2.2) 0 0 := by
  refine enI (by decide +kernel) (Nat.le_of_ble_eq_true rfl) ?_
  intro p e s m args below meth c Q A ls hx hb hml hown hT hK hA hret hh hl
  have hl : lv_has ls 4 [(0, .ref (ad 7 0))] := hl
  unfold w_X7_settle at h
  refine lv_aload_n hx hb dX7_settle_0 rfl (lv_at hl 0 rfl) ?_
  refine G_X7_28 [] [_, _, _, _, _, _] hx hb hT hown hK hh (v := sk.2.1 4) rfl dX7_settle_1 ?_
  refine lv_istore_n (lv' := [(1, .int (sk.2.1 4)), (0, .ref (ad 7 0))]) hx hb dX7_settle_4 rfl hl (by decide) rfl (fun ls hl => ?_)
  refine lv_aload_n hx hb dX7_settle_5 rfl (lv_at hl 1 rfl) ?_
  refine G_X7_25 [] [_, _, _, _, _, _] hx hb hT hown hK hh dX7_settle_6 ?_
  refine lv_aload_n hx hb dX7_settle_9 rfl (lv_at hl 1 rfl) ?_
  refine G_X7_28 [] [_, _, _, _, _, _] hx hb hT hown hK hh (v := sk.2.1 4) rfl dX7_settle_10 ?_
  have hc := hh.cut [_] [_, _, _, _, _, _] [2, 0, 1, 3, 4, 5, 6] 7 rfl (by decide) rfl
  refine kI hc hA (rnVN hx hb hml hown hT hK hc (c_X8_parent l D E (ad 10)  sn (sk.2.1 4) h _) mf_X8_parent nml_X7_85 ⟨rfl, rfl, Nat.le_of_ble_eq_true rfl, Nat.le_of_ble_eq_true rfl⟩ ⟨Nat.le_of_ble_eq_true rfl, Nat.le_of_ble_eq_true rfl⟩ 8 0 rfl rfl hl.1 rfl dX7_settle_13 (Nat.le_of_ble_eq_true rfl) rfl) (fun r1 sn_2 H locs h hh => ?_)
  have hh : Wh D A s.heap ((List.flatten [bX7 ad E sk, bX2 (ad 8) E sl, bX8 (ad 10) E sn_2, bX1 ad E j, bX3 (ad 2) E mc, bX3 (ad 3) E md, dC ad E ck (j.2.1 1).toNatClampNeg])) _ _ := Wh.back (cs := [_]) (rs := [_, _, _, _, _, _]) _ [1, 2, 0, 3, 4, 5, 6] 7 rfl (by decide) rfl hh
  refine lv_istore_n (lv' := [(2, .int (r1)), (1, .int (sk.2.1 4)), (0, .ref (ad 7 0))]) hx hb dX7_settle_16 rfl hl (by decide) rfl (fun ls hl => ?_)
  refine lv_iconst (v := 0) hx hb dX7_settle_17 (by decide) ?_
  refine lv_istore_n (lv' := [(3, .int (0)), (2, .int (r1)), (1, .int (sk.2.1 4)), (0, .ref (ad 7 0))]) hx hb dX7_settle_18 rfl hl (by decide) rfl (fun ls hl => ?_)
  have hw19 : ∀   (n : Nat) (p1_19 : Int32) (p2_19 : Int32) (p3_19 : Int32) (sk_19 : Ob) (sl_19 : Ob) (sn_19 : Ob) (j_19 : Ob) (mc_19 : Ob) (md_19 : Ob) (H : Heap) (locs : List Loc) (ls : Array Slot), w_X7_settle_L19 ck   Post n p1_19 p2_19 p3_19 sk_19 sl_19 sn_19 j_19 mc_19 md_19 → Wh D A s.heap ((List.flatten [bX7 ad E sk_19, bX2 (ad 8) E sl_19, bX8 (ad 10) E sn_19, bX1 ad E j_19, bX3 (ad 2) E mc_19, bX3 (ad 3) E md_19, dC ad E ck (j_19.2.1 1).toNatClampNeg])) H locs → lv_has ls 4 [(0, .ref (ad 7 0)), (1, .int (p1_19)), (2, .int (p2_19)), (3, .int (p3_19))] → W p l e ({ frames := 4, cells := 0, slots := 0, locals := 99 } : Room) s m args below meth c H locs 0 0 Q (F0 m 19 ls []) := by
    intro   n
    induction n with
    | zero => intro p1_19 p2_19 p3_19 sk_19 sl_19 sn_19 j_19 mc_19 md_19 H locs ls h hh hl; exact False.elim h
    | succ n ih =>
      intro p1_19 p2_19 p3_19 sk_19 sl_19 sn_19 j_19 mc_19 md_19 H locs ls h hh hl
      refine lv_iload_n hx hb dX7_settle_19 rfl (lv_at hl 3 rfl) ?_
      refine lv_bipush (v := 31) hx hb dX7_settle_20 (by decide) ?_
      refine lv_icmp_ge (tgt := 144) hx hb dX7_settle_22 (by decide) (fun c3 => ?_) (fun c3 => ?_)
      · have h := h.1 c3
        refine lv_iconst (v := 1) hx hb dX7_settle_144 (by decide) ?_
        exact hret _ _ _ _ _ (sk_19, sl_19, sn_19, j_19, mc_19, md_19) dX7_settle_145 rfl h hh
      · have h := h.2 c3
        refine lv_iload_n hx hb dX7_settle_25 rfl (lv_at hl 2 rfl) ?_
        refine lv_if_lt (tgt := 144) hx hb dX7_settle_26 (by decide) (fun c4 => ?_) (fun c4 => ?_)
        · have h := h.1 c4
          refine lv_iconst (v := 1) hx hb dX7_settle_144 (by decide) ?_
          exact hret _ _ _ _ _ (sk_19, sl_19, sn_19, j_19, mc_19, md_19) dX7_settle_145 rfl h hh
        · have h := h.2 c4
          refine lv_aload_n hx hb dX7_settle_29 rfl (lv_at hl 0 rfl) ?_
          refine G_X7_25 [] [_, _, _, _, _, _] hx hb hT hown hK hh dX7_settle_30 ?_
          refine lv_iload_n hx hb dX7_settle_33 rfl (lv_at hl 2 rfl) ?_
          have hc := hh.cut [_] [_, _, _, _, _, _] [2, 0, 1, 3, 4, 5, 6] 7 rfl (by decide) rfl
          refine kI hc hA (rnVN hx hb hml hown hT hK hc (c_X8_kind l D E (ad 10)  sn_19 p2_19 h _) mf_X8_kind nml_X7_55 ⟨rfl, rfl, Nat.le_of_ble_eq_true rfl, Nat.le_of_ble_eq_true rfl⟩ ⟨Nat.le_of_ble_eq_true rfl, Nat.le_of_ble_eq_true rfl⟩ 8 0 rfl rfl hl.1 rfl dX7_settle_34 (Nat.le_of_ble_eq_true rfl) rfl) (fun r5 sn_6 H locs h hh => ?_)
          have hh : Wh D A s.heap ((List.flatten [bX7 ad E sk_19, bX2 (ad 8) E sl_19, bX8 (ad 10) E sn_6, bX1 ad E j_19, bX3 (ad 2) E mc_19, bX3 (ad 3) E md_19, dC ad E ck (j_19.2.1 1).toNatClampNeg])) _ _ := Wh.back (cs := [_]) (rs := [_, _, _, _, _, _]) _ [1, 2, 0, 3, 4, 5, 6] 7 rfl (by decide) rfl hh
          refine lv_bipush (v := 7) hx hb dX7_settle_37 (by decide) ?_
          refine jn_elim h (fun J127 hJ127 h => ?_)
          have kJ127 : ∀ (sk_127 : Ob) (sl_127 : Ob) (sn_127 : Ob) (j_127 : Ob) (mc_127 : Ob) (md_127 : Ob) (H : Heap) (locs : List Loc) (ls : Array Slot), J127 sk_127 sl_127 sn_127 j_127 mc_127 md_127 → Wh D A s.heap ((List.flatten [bX7 ad E sk_127, bX2 (ad 8) E sl_127, bX8 (ad 10) E sn_127, bX1 ad E j_127, bX3 (ad 2) E mc_127, bX3 (ad 3) E md_127, dC ad E ck (j_127.2.1 1).toNatClampNeg])) H locs → lv_has ls 4 [(0, .ref (ad 7 0)), (2, .int (p2_19)), (3, .int (p3_19))] → W p l e ({ frames := 4, cells := 0, slots := 0, locals := 99 } : Room) s m args below meth c H locs 0 0 Q (F0 m 127 ls []) := by
            intro sk_127 sl_127 sn_127 j_127 mc_127 md_127 H locs ls h hh hl
            rw [hJ127] at h
            refine lv_iload_n hx hb dX7_settle_127 rfl (lv_at hl 1 rfl) ?_
            refine lv_istore_n (lv' := [(1, .int (p2_19)), (0, .ref (ad 7 0)), (2, .int (p2_19)), (3, .int (p3_19))]) hx hb dX7_settle_128 rfl hl (by decide) rfl (fun ls hl => ?_)
            refine lv_aload_n hx hb dX7_settle_129 rfl (lv_at hl 1 rfl) ?_
            refine G_X7_25 [] [_, _, _, _, _, _] hx hb hT hown hK hh dX7_settle_130 ?_
            refine lv_iload_n hx hb dX7_settle_133 rfl (lv_at hl 0 rfl) ?_
            have hc := hh.cut [_] [_, _, _, _, _, _] [2, 0, 1, 3, 4, 5, 6] 7 rfl (by decide) rfl
            refine kI hc hA (rnVN hx hb hml hown hT hK hc (c_X8_parent l D E (ad 10)  sn_127 p2_19 h _) mf_X8_parent nml_X7_85 ⟨rfl, rfl, Nat.le_of_ble_eq_true rfl, Nat.le_of_ble_eq_true rfl⟩ ⟨Nat.le_of_ble_eq_true rfl, Nat.le_of_ble_eq_true rfl⟩ 8 0 rfl rfl hl.1 rfl dX7_settle_134 (Nat.le_of_ble_eq_true rfl) rfl) (fun r33 sn_34 H locs h hh => ?_)
            have hh : Wh D A s.heap ((List.flatten [bX7 ad E sk_127, bX2 (ad 8) E sl_127, bX8 (ad 10) E sn_34, bX1 ad E j_127, bX3 (ad 2) E mc_127, bX3 (ad 3) E md_127, dC ad E ck (j_127.2.1 1).toNatClampNeg])) _ _ := Wh.back (cs := [_]) (rs := [_, _, _, _, _, _]) _ [1, 2, 0, 3, 4, 5, 6] 7 rfl (by decide) rfl hh
            refine lv_istore_n (lv' := [(2, .int (r33)), (1, .int (p2_19)), (0, .ref (ad 7 0)), (3, .int (p3_19))]) hx hb dX7_settle_137 rfl hl (by decide) rfl (fun ls hl => ?_)
            refine lv_iinc (v := p3_19 + 1) (lv' := [(3, .int (p3_19 + 1)), (2, .int (r33)), (1, .int (p2_19)), (0, .ref (ad 7 0))]) hx hb dX7_settle_138 hl (k := 3) rfl (by rfl) (by decide) rfl (fun ls hl => ?_)
            refine lv_goto (tgt := 19) hx hb dX7_settle_141 (by decide) ?_
            exact ih p2_19 r33 (p3_19 + 1) sk_127 sl_127 sn_34 j_127 mc_127 md_127 _ _ _ h hh (lv_sub hl [3, 2, 1, 0] rfl)
          refine jn_elim h (fun J57 hJ57 h => ?_)
          have kJ57 : ∀ (sk_57 : Ob) (sl_57 : Ob) (sn_57 : Ob) (j_57 : Ob) (mc_57 : Ob) (md_57 : Ob) (H : Heap) (locs : List Loc) (ls : Array Slot), J57 sk_57 sl_57 sn_57 j_57 mc_57 md_57 → Wh D A s.heap ((List.flatten [bX7 ad E sk_57, bX2 (ad 8) E sl_57, bX8 (ad 10) E sn_57, bX1 ad E j_57, bX3 (ad 2) E mc_57, bX3 (ad 3) E md_57, dC ad E ck (j_57.2.1 1).toNatClampNeg])) H locs → lv_has ls 4 [(0, .ref (ad 7 0)), (1, .int (p1_19)), (2, .int (p2_19)), (3, .int (p3_19))] → W p l e ({ frames := 4, cells := 0, slots := 0, locals := 99 } : Room) s m args below meth c H locs 0 0 Q (F0 m 57 ls []) := by
            intro sk_57 sl_57 sn_57 j_57 mc_57 md_57 H locs ls h hh hl
            rw [hJ57] at h
            refine lv_aload_n hx hb dX7_settle_57 rfl (lv_at hl 0 rfl) ?_
            refine G_X7_25 [] [_, _, _, _, _, _] hx hb hT hown hK hh dX7_settle_58 ?_
            refine lv_iload_n hx hb dX7_settle_61 rfl (lv_at hl 2 rfl) ?_
            have hc := hh.cut [_] [_, _, _, _, _, _] [2, 0, 1, 3, 4, 5, 6] 7 rfl (by decide) rfl
            refine kI hc hA (rnVN hx hb hml hown hT hK hc (c_X8_kind l D E (ad 10)  sn_57 p2_19 h _) mf_X8_kind nml_X7_55 ⟨rfl, rfl, Nat.le_of_ble_eq_true rfl, Nat.le_of_ble_eq_true rfl⟩ ⟨Nat.le_of_ble_eq_true rfl, Nat.le_of_ble_eq_true rfl⟩ 8 0 rfl rfl hl.1 rfl dX7_settle_62 (Nat.le_of_ble_eq_true rfl) rfl) (fun r13 sn_14 H locs h hh => ?_)
            have hh : Wh D A s.heap ((List.flatten [bX7 ad E sk_57, bX2 (ad 8) E sl_57, bX8 (ad 10) E sn_14, bX1 ad E j_57, bX3 (ad 2) E mc_57, bX3 (ad 3) E md_57, dC ad E ck (j_57.2.1 1).toNatClampNeg])) _ _ := Wh.back (cs := [_]) (rs := [_, _, _, _, _, _]) _ [1, 2, 0, 3, 4, 5, 6] 7 rfl (by decide) rfl hh
            refine lv_iconst (v := 5) hx hb dX7_settle_65 (by decide) ?_
            refine lv_icmp_ne (tgt := 127) hx hb dX7_settle_66 (by decide) (fun c15 => ?_) (fun c15 => ?_)
            · have h := h.1 c15
              exact kJ127 sk_57 sl_57 sn_14 j_57 mc_57 md_57 _ _ _ h hh (lv_sub hl [0, 2, 3] rfl)
            · have h := h.2 c15
              refine lv_aload_n hx hb dX7_settle_69 rfl (lv_at hl 0 rfl) ?_
              refine G_X7_35 [] [_, _, _, _, _, _] hx hb hT hown hK hh dX7_settle_70 ?_
              have hc := hh.cut [_] [_, _, _, _, _, _] [3, 0, 1, 2, 4, 5, 6] 7 rfl (by decide) rfl
              refine kI hc hA (rnVN hx hb hml hown hT hK hc (c_X1_pay l D E ad  j_57  h _) mf_X1_pay nml_X7_92 ⟨rfl, rfl, Nat.le_of_ble_eq_true rfl, Nat.le_of_ble_eq_true rfl⟩ ⟨Nat.le_of_ble_eq_true rfl, Nat.le_of_ble_eq_true rfl⟩ 1 0 rfl rfl hl.1 rfl dX7_settle_73 (Nat.le_of_ble_eq_true rfl) rfl) (fun r16 j_17 H locs h hh => ?_)
              obtain ⟨g18, h⟩ := h
              rw [← g18] at hh
              have hh : Wh D A s.heap ((List.flatten [bX7 ad E sk_57, bX2 (ad 8) E sl_57, bX8 (ad 10) E sn_14, bX1 ad E j_17, bX3 (ad 2) E mc_57, bX3 (ad 3) E md_57, dC ad E ck (j_17.2.1 1).toNatClampNeg])) _ _ := Wh.back (cs := [_]) (rs := [_, _, _, _, _, _]) _ [1, 2, 3, 0, 4, 5, 6] 7 rfl (by decide) rfl hh
              refine lv_if_ne (tgt := 82) hx hb dX7_settle_76 (by decide) (fun c19 => ?_) (fun c19 => ?_)
              · have h := h.1 c19
                refine lv_aload_n hx hb dX7_settle_82 rfl (lv_at hl 0 rfl) ?_
                refine G_X7_25 [] [_, _, _, _, _, _] hx hb hT hown hK hh dX7_settle_83 ?_
                refine lv_iload_n hx hb dX7_settle_86 rfl (lv_at hl 1 rfl) ?_
                refine lv_aload_n hx hb dX7_settle_87 rfl (lv_at hl 0 rfl) ?_
                refine G_X7_25 [] [_, _, _, _, _, _] hx hb hT hown hK hh dX7_settle_88 ?_
                refine lv_iload_n hx hb dX7_settle_91 rfl (lv_at hl 1 rfl) ?_
                have hc := hh.cut [_] [_, _, _, _, _, _] [2, 0, 1, 3, 4, 5, 6] 7 rfl (by decide) rfl
                refine kI hc hA (rnVN hx hb hml hown hT hK hc (c_X8_end l D E (ad 10)  sn_14 p1_19 h _) mf_X8_end nml_X7_97 ⟨rfl, rfl, Nat.le_of_ble_eq_true rfl, Nat.le_of_ble_eq_true rfl⟩ ⟨Nat.le_of_ble_eq_true rfl, Nat.le_of_ble_eq_true rfl⟩ 8 0 rfl rfl hl.1 rfl dX7_settle_92 (Nat.le_of_ble_eq_true rfl) rfl) (fun r20 sn_21 H locs h hh => ?_)
                have hh : Wh D A s.heap ((List.flatten [bX7 ad E sk_57, bX2 (ad 8) E sl_57, bX8 (ad 10) E sn_21, bX1 ad E j_17, bX3 (ad 2) E mc_57, bX3 (ad 3) E md_57, dC ad E ck (j_17.2.1 1).toNatClampNeg])) _ _ := Wh.back (cs := [_]) (rs := [_, _, _, _, _, _]) _ [1, 2, 0, 3, 4, 5, 6] 7 rfl (by decide) rfl hh
                refine lv_aload_n hx hb dX7_settle_95 rfl (lv_at hl 0 rfl) ?_
                refine G_X7_12 [] [_, _, _, _, _, _] hx hb hT hown hK hh dX7_settle_96 ?_
                have hc := hh.cut [_, _] [_, _, _, _, _] [2, 1, 0, 3, 4, 5, 6] 7 rfl (by decide) rfl
                refine kV hc hA (rnVN hx hb hml hown hT hK hc (c_X8_gather l D E (ad 10) (ad 8)  sn_21 sl_57 p1_19 r20 h _) mf_X8_gather nml_X7_100 ⟨rfl, rfl, Nat.le_of_ble_eq_true rfl, Nat.le_of_ble_eq_true rfl⟩ ⟨Nat.le_of_ble_eq_true rfl, Nat.le_of_ble_eq_true rfl⟩ 8 0 rfl rfl hl.1 rfl dX7_settle_99 (Nat.le_of_ble_eq_true rfl) rfl) (fun u H locs h hh => ?_)
                obtain ⟨sn_23, sl_24⟩ := u
                have hh : Wh D A s.heap ((List.flatten [bX7 ad E sk_57, bX2 (ad 8) E sl_24, bX8 (ad 10) E sn_23, bX1 ad E j_17, bX3 (ad 2) E mc_57, bX3 (ad 3) E md_57, dC ad E ck (j_17.2.1 1).toNatClampNeg])) _ _ := Wh.back (cs := [_, _]) (rs := [_, _, _, _, _]) _ [2, 1, 0, 3, 4, 5, 6] 7 rfl (by decide) rfl hh
                refine lv_aload_n hx hb dX7_settle_102 rfl (lv_at hl 0 rfl) ?_
                refine G_X7_35 [] [_, _, _, _, _, _] hx hb hT hown hK hh dX7_settle_103 ?_
                refine lv_aload_n hx hb dX7_settle_106 rfl (lv_at hl 0 rfl) ?_
                refine G_X7_25 [] [_, _, _, _, _, _] hx hb hT hown hK hh dX7_settle_107 ?_
                refine lv_iload_n hx hb dX7_settle_110 rfl (lv_at hl 2 rfl) ?_
                have hc := hh.cut [_] [_, _, _, _, _, _] [2, 0, 1, 3, 4, 5, 6] 7 rfl (by decide) rfl
                refine kI hc hA (rnVN hx hb hml hown hT hK hc (c_X8_value l D E (ad 10)  sn_23 p2_19 h _) mf_X8_value nml_X7_68 ⟨rfl, rfl, Nat.le_of_ble_eq_true rfl, Nat.le_of_ble_eq_true rfl⟩ ⟨Nat.le_of_ble_eq_true rfl, Nat.le_of_ble_eq_true rfl⟩ 8 0 rfl rfl hl.1 rfl dX7_settle_111 (Nat.le_of_ble_eq_true rfl) rfl) (fun r25 sn_26 H locs h hh => ?_)
                have hh : Wh D A s.heap ((List.flatten [bX7 ad E sk_57, bX2 (ad 8) E sl_24, bX8 (ad 10) E sn_26, bX1 ad E j_17, bX3 (ad 2) E mc_57, bX3 (ad 3) E md_57, dC ad E ck (j_17.2.1 1).toNatClampNeg])) _ _ := Wh.back (cs := [_]) (rs := [_, _, _, _, _, _]) _ [1, 2, 0, 3, 4, 5, 6] 7 rfl (by decide) rfl hh
                refine lv_aload_n hx hb dX7_settle_114 rfl (lv_at hl 0 rfl) ?_
                refine G_X7_12 [] [_, _, _, _, _, _] hx hb hT hown hK hh dX7_settle_115 ?_
                have hc := hh.cut [_, _, _, _, _] [_, _] [3, 4, 5, 1, 6, 0, 2] 7 rfl (by decide) rfl
                refine kI hc hA (rnVN hx hb hml hown hT hK hc (c_X1_verdict l D E ad (ad 8) ck j_17 mc_57 md_57 sl_24 r25 h _) mf_X1_verdict nml_X7_104 ⟨rfl, rfl, Nat.le_of_ble_eq_true rfl, Nat.le_of_ble_eq_true rfl⟩ ⟨Nat.le_of_ble_eq_true rfl, Nat.le_of_ble_eq_true rfl⟩ 1 0 rfl rfl hl.1 rfl dX7_settle_118 (Nat.le_of_ble_eq_true rfl) rfl) (fun r27 u H locs h hh => ?_)
                obtain ⟨j_28, mc_29, md_30, sl_31⟩ := u
                have hh : Wh D A s.heap ((List.flatten [bX7 ad E sk_57, bX2 (ad 8) E sl_31, bX8 (ad 10) E sn_26, bX1 ad E j_28, bX3 (ad 2) E mc_29, bX3 (ad 3) E md_30, dC ad E ck (j_28.2.1 1).toNatClampNeg])) _ _ := Wh.back (cs := [_, _, _, _, _]) (rs := [_, _]) _ [5, 3, 6, 0, 1, 2, 4] 7 rfl (by decide) rfl hh
                refine lv_iconst (v := 1) hx hb dX7_settle_121 (by decide) ?_
                refine lv_icmp_eq (tgt := 127) hx hb dX7_settle_122 (by decide) (fun c32 => ?_) (fun c32 => ?_)
                · have h := h.1 c32
                  exact kJ127 sk_57 sl_31 sn_26 j_28 mc_29 md_30 _ _ _ h hh (lv_sub hl [0, 2, 3] rfl)
                · have h := h.2 c32
                  refine lv_iconst (v := 0) hx hb dX7_settle_125 (by decide) ?_
                  exact hret _ _ _ _ _ (sk_57, sl_31, sn_26, j_28, mc_29, md_30) dX7_settle_126 rfl h hh
              · have h := h.2 c19
                refine lv_bipush (v := (-6)) hx hb dX7_settle_79 (by decide) ?_
                exact hret _ _ _ _ _ (sk_57, sl_57, sn_14, j_17, mc_57, md_57) dX7_settle_81 rfl h hh
          refine lv_icmp_ne (tgt := 57) hx hb dX7_settle_39 (by decide) (fun c7 => ?_) (fun c7 => ?_)
          · have h := h.1 c7
            exact kJ57 sk_19 sl_19 sn_6 j_19 mc_19 md_19 _ _ _ h hh (lv_sub hl [0, 1, 2, 3] rfl)
          · have h := h.2 c7
            refine lv_iload_n hx hb dX7_settle_42 rfl (lv_at hl 1 rfl) ?_
            refine lv_iload_n hx hb dX7_settle_43 rfl (lv_at hl 2 rfl) ?_
            refine lv_iconst (v := 1) hx hb dX7_settle_44 (by decide) ?_
            refine lv_iadd hx hb dX7_settle_45 ?_
            refine lv_icmp_ne (tgt := 57) hx hb dX7_settle_46 (by decide) (fun c8 => ?_) (fun c8 => ?_)
            · have h := h.1 c8
              exact kJ57 sk_19 sl_19 sn_6 j_19 mc_19 md_19 _ _ _ h hh (lv_sub hl [0, 1, 2, 3] rfl)
            · have h := h.2 c8
              refine lv_aload_n hx hb dX7_settle_49 rfl (lv_at hl 0 rfl) ?_
              refine lv_iload_n hx hb dX7_settle_50 rfl (lv_at hl 1 rfl) ?_
              have hc := hh.cut [_, _, _] [_, _, _, _] [0, 1, 2, 3, 4, 5, 6] 7 rfl (by decide) rfl
              refine kV hc hA (rnV hx hb hml hown hT hK hc (c_X7_lowerRest l D E ad  sk_19 sl_19 sn_6 p1_19 h _) mf_X7_lowerRest kml_X7_88 ⟨rfl, rfl, Nat.le_of_ble_eq_true rfl, Nat.le_of_ble_eq_true rfl⟩ ⟨Nat.le_of_ble_eq_true rfl, Nat.le_of_ble_eq_true rfl⟩ 7 0 rfl rfl hl.1 rfl dX7_settle_51 (Nat.le_of_ble_eq_true rfl) rfl) (fun u H locs h hh => ?_)
              obtain ⟨sk_10, sl_11, sn_12⟩ := u
              have hh : Wh D A s.heap ((List.flatten [bX7 ad E sk_10, bX2 (ad 8) E sl_11, bX8 (ad 10) E sn_12, bX1 ad E j_19, bX3 (ad 2) E mc_19, bX3 (ad 3) E md_19, dC ad E ck (j_19.2.1 1).toNatClampNeg])) _ _ := Wh.back (cs := [_, _, _]) (rs := [_, _, _, _]) _ [0, 1, 2, 3, 4, 5, 6] 7 rfl (by decide) rfl hh
              refine lv_goto (tgt := 127) hx hb dX7_settle_54 (by decide) ?_
              exact kJ127 sk_10 sl_11 sn_12 j_19 mc_19 md_19 _ _ _ h hh (lv_sub hl [0, 2, 3] rfl)
  obtain ⟨n, h⟩ := h
  refine hw19   n (sk.2.1 4) r1 0 sk sl sn_2 j mc md _ _ _ h hh (lv_sub hl [3, 2, 1, 0] rfl)

def w_X7_advance_L2 (ck : Nat → Ob)   (Post : Int32 → Ob → Ob → Ob → Ob → Ob → Ob → Ob → Prop) : Nat → Int32 → Ob → Ob → Ob → Ob → Ob → Ob → Ob → Prop
  | 0, _, _, _, _, _, _, _, _ => False
  | n2 + 1, p1_2, sk_2, sl_2, sb_2, sn_2, j_2, mc_2, md_2 => ((1000000 ≤ p1_2) → Post ((-9)) sk_2 sl_2 sb_2 sn_2 j_2 mc_2 md_2) ∧ (¬ (1000000 ≤ p1_2) → (((sb_2.2.1 6) ≤ (sk_2.2.1 4)) → Post ((-9)) sk_2 sl_2 sb_2 sn_2 j_2 mc_2 md_2) ∧ (¬ ((sb_2.2.1 6) ≤ (sk_2.2.1 4)) → w_X7_edit   sk_2 sb_2 sn_2 (fun (r3 : Int32) (sk_4 : Ob) (sb_5 : Ob) (sn_6 : Ob) => jn (fun J68 : Ob → Ob → Ob → Ob → Ob → Ob → Ob → Prop => ((r3 = 0) → J68 ((sk_4.1, (upd (upd sk_4.2.1 4 (((sk_4.2.1 4) + 1))) 5 ((0 : Int32))), sk_4.2.2)) sl_2 sb_5 sn_6 j_2 mc_2 md_2) ∧ (¬ (r3 = 0) → w_X7_settle ck  ((sk_4.1, (upd sk_4.2.1 5 (((sk_4.2.1 5) + 1))), sk_4.2.2)) sl_2 sn_6 j_2 mc_2 md_2 (fun (r8 : Int32) (sk_9 : Ob) (sl_10 : Ob) (sn_11 : Ob) (j_12 : Ob) (mc_13 : Ob) (md_14 : Ob) => ((r8 = 0) → J68 sk_9 sl_10 sb_5 sn_11 j_12 mc_13 md_14) ∧ (¬ (r8 = 0) → Post r8 sk_9 sl_10 sb_5 sn_11 j_12 mc_13 md_14)))) (fun (sk_68 : Ob) (sl_68 : Ob) (sb_68 : Ob) (sn_68 : Ob) (j_68 : Ob) (mc_68 : Ob) (md_68 : Ob) => w_X7_advance_L2 ck   Post n2 (p1_2 + 1) sk_68 sl_68 sb_68 sn_68 j_68 mc_68 md_68))))
def w_X7_advance (ck : Nat → Ob)  (sk : Ob) (sl : Ob) (sb : Ob) (sn : Ob) (j : Ob) (mc : Ob) (md : Ob) (Post : Int32 → Ob → Ob → Ob → Ob → Ob → Ob → Ob → Prop) : Prop := ∃ n2, w_X7_advance_L2 ck   Post n2 0 sk sl sb sn j mc md
set_option maxRecDepth 100000 in
set_option maxHeartbeats 4000000 in
theorem c_X7_advance (l : Launch) (D : va_G) (E : Nat → ClassId) (ad : Nat → Nat → Nat) (ck : Nat → Ob)  (sk : Ob) (sl : Ob) (sb : Ob) (sn : Ob) (j : Ob) (mc : Ob) (md : Ob)  {Post : Int32 → Ob → Ob → Ob → Ob → Ob → Ob → Ob → Prop} (h : w_X7_advance ck  sk sl sb sn j mc md Post) : CtI l yX7_advance cX7_advance 3 .int ({ frames := 5, cells := 0, slots := 0, locals := 122 } : Room) D E [.ref (ad 7 0)] (List.flatten [bX7 ad E sk, bX2 (ad 8) E sl, bX8 (ad 9) E sb, bX8 (ad 10) E sn, bX1 ad E j, bX3 (ad 2) E mc, bX3 (ad 3) E md, dC ad E ck (j.2.1 1).toNatClampNeg]) (fun u : Ob × Ob × Ob × Ob × Ob × Ob × Ob => List.flatten [bX7 ad E u.1, bX2 (ad 8) E u.2.1, bX8 (ad 9) E u.2.2.1, bX8 (ad 10) E u.2.2.2.1, bX1 ad E u.2.2.2.2.1, bX3 (ad 2) E u.2.2.2.2.2.1, bX3 (ad 3) E u.2.2.2.2.2.2, dC ad E ck (u.2.2.2.2.1.2.1 1).toNatClampNeg]) (fun (r : Int32) (u : Ob × Ob × Ob × Ob × Ob × Ob × Ob) => Post r u.1 u.2.1 u.2.2.1 u.2.2.2.1 u.2.2.2.2.1 u.2.2.2.2.2.1 u.2.2.2.2.2.2) 0 0 := by
  refine enI (by decide +kernel) (Nat.le_of_ble_eq_true rfl) ?_
  intro p e s m args below meth c Q A ls hx hb hml hown hT hK hA hret hh hl
  have hl : lv_has ls 3 [(0, .ref (ad 7 0))] := hl
  unfold w_X7_advance at h
  refine lv_iconst (v := 0) hx hb dX7_advance_0 (by decide) ?_
  refine lv_istore_n (lv' := [(1, .int (0)), (0, .ref (ad 7 0))]) hx hb dX7_advance_1 rfl hl (by decide) rfl (fun ls hl => ?_)
  have hw2 : ∀   (n : Nat) (p1_2 : Int32) (sk_2 : Ob) (sl_2 : Ob) (sb_2 : Ob) (sn_2 : Ob) (j_2 : Ob) (mc_2 : Ob) (md_2 : Ob) (H : Heap) (locs : List Loc) (ls : Array Slot), w_X7_advance_L2 ck   Post n p1_2 sk_2 sl_2 sb_2 sn_2 j_2 mc_2 md_2 → Wh D A s.heap ((List.flatten [bX7 ad E sk_2, bX2 (ad 8) E sl_2, bX8 (ad 9) E sb_2, bX8 (ad 10) E sn_2, bX1 ad E j_2, bX3 (ad 2) E mc_2, bX3 (ad 3) E md_2, dC ad E ck (j_2.2.1 1).toNatClampNeg])) H locs → lv_has ls 3 [(0, .ref (ad 7 0)), (1, .int (p1_2))] → W p l e ({ frames := 5, cells := 0, slots := 0, locals := 122 } : Room) s m args below meth c H locs 0 0 Q (F0 m 2 ls []) := by
    intro   n
    induction n with
    | zero => intro p1_2 sk_2 sl_2 sb_2 sn_2 j_2 mc_2 md_2 H locs ls h hh hl; exact False.elim h
    | succ n ih =>
      intro p1_2 sk_2 sl_2 sb_2 sn_2 j_2 mc_2 md_2 H locs ls h hh hl
      refine lv_iload_n hx hb dX7_advance_2 rfl (lv_at hl 1 rfl) ?_
      refine lv_ldc (v := 1000000) hx hb hown (hT _ kcn_X7_43) dX7_advance_3 ?_
      refine lv_icmp_ge (tgt := 74) hx hb dX7_advance_5 (by decide) (fun c1 => ?_) (fun c1 => ?_)
      · have h := h.1 c1
        refine lv_bipush (v := (-9)) hx hb dX7_advance_74 (by decide) ?_
        exact hret _ _ _ _ _ (sk_2, sl_2, sb_2, sn_2, j_2, mc_2, md_2) dX7_advance_76 rfl h hh
      · have h := h.2 c1
        refine lv_aload_n hx hb dX7_advance_8 rfl (lv_at hl 0 rfl) ?_
        refine G_X7_28 [] [_, _, _, _, _, _, _] hx hb hT hown hK hh (v := sk_2.2.1 4) rfl dX7_advance_9 ?_
        refine lv_aload_n hx hb dX7_advance_12 rfl (lv_at hl 0 rfl) ?_
        refine G_X7_21 [] [_, _, _, _, _, _, _] hx hb hT hown hK hh dX7_advance_13 ?_
        refine G_X7_44 [_, _] [_, _, _, _, _] hx hb hT hown hK hh (v := sb_2.2.1 6) rfl dX7_advance_16 ?_
        refine lv_icmp_ge (tgt := 74) hx hb dX7_advance_19 (by decide) (fun c2 => ?_) (fun c2 => ?_)
        · have h := h.1 c2
          refine lv_bipush (v := (-9)) hx hb dX7_advance_74 (by decide) ?_
          exact hret _ _ _ _ _ (sk_2, sl_2, sb_2, sn_2, j_2, mc_2, md_2) dX7_advance_76 rfl h hh
        · have h := h.2 c2
          refine lv_aload_n hx hb dX7_advance_22 rfl (lv_at hl 0 rfl) ?_
          have hc := hh.cut [_, _, _] [_, _, _, _, _] [0, 2, 3, 1, 4, 5, 6, 7] 8 rfl (by decide) rfl
          refine kI hc hA (rnV hx hb hml hown hT hK hc (c_X7_edit l D E ad  sk_2 sb_2 sn_2  h _) mf_X7_edit kml_X7_47 ⟨rfl, rfl, Nat.le_of_ble_eq_true rfl, Nat.le_of_ble_eq_true rfl⟩ ⟨Nat.le_of_ble_eq_true rfl, Nat.le_of_ble_eq_true rfl⟩ 7 0 rfl rfl hl.1 rfl dX7_advance_23 (Nat.le_of_ble_eq_true rfl) rfl) (fun r3 u H locs h hh => ?_)
          obtain ⟨sk_4, sb_5, sn_6⟩ := u
          have hh : Wh D A s.heap ((List.flatten [bX7 ad E sk_4, bX2 (ad 8) E sl_2, bX8 (ad 9) E sb_5, bX8 (ad 10) E sn_6, bX1 ad E j_2, bX3 (ad 2) E mc_2, bX3 (ad 3) E md_2, dC ad E ck (j_2.2.1 1).toNatClampNeg])) _ _ := Wh.back (cs := [_, _, _]) (rs := [_, _, _, _, _]) _ [0, 3, 1, 2, 4, 5, 6, 7] 8 rfl (by decide) rfl hh
          refine jn_elim h (fun J68 hJ68 h => ?_)
          have kJ68 : ∀ (sk_68 : Ob) (sl_68 : Ob) (sb_68 : Ob) (sn_68 : Ob) (j_68 : Ob) (mc_68 : Ob) (md_68 : Ob) (H : Heap) (locs : List Loc) (ls : Array Slot), J68 sk_68 sl_68 sb_68 sn_68 j_68 mc_68 md_68 → Wh D A s.heap ((List.flatten [bX7 ad E sk_68, bX2 (ad 8) E sl_68, bX8 (ad 9) E sb_68, bX8 (ad 10) E sn_68, bX1 ad E j_68, bX3 (ad 2) E mc_68, bX3 (ad 3) E md_68, dC ad E ck (j_68.2.1 1).toNatClampNeg])) H locs → lv_has ls 3 [(0, .ref (ad 7 0)), (1, .int (p1_2))] → W p l e ({ frames := 5, cells := 0, slots := 0, locals := 122 } : Room) s m args below meth c H locs 0 0 Q (F0 m 68 ls []) := by
            intro sk_68 sl_68 sb_68 sn_68 j_68 mc_68 md_68 H locs ls h hh hl
            rw [hJ68] at h
            refine lv_iinc (v := p1_2 + 1) (lv' := [(1, .int (p1_2 + 1)), (0, .ref (ad 7 0))]) hx hb dX7_advance_68 hl (k := 1) rfl (by rfl) (by decide) rfl (fun ls hl => ?_)
            refine lv_goto (tgt := 2) hx hb dX7_advance_71 (by decide) ?_
            exact ih (p1_2 + 1) sk_68 sl_68 sb_68 sn_68 j_68 mc_68 md_68 _ _ _ h hh (lv_sub hl [1, 0] rfl)
          refine lv_if_eq (tgt := 53) hx hb dX7_advance_26 (by decide) (fun c7 => ?_) (fun c7 => ?_)
          · have h := h.1 c7
            refine lv_aload_n hx hb dX7_advance_53 rfl (lv_at hl 0 rfl) ?_
            refine lv_dup hx hb dX7_advance_54 rfl ?_
            refine G_X7_28 [] [_, _, _, _, _, _, _] hx hb hT hown hK hh (v := sk_4.2.1 4) rfl dX7_advance_55 ?_
            refine lv_iconst (v := 1) hx hb dX7_advance_58 (by decide) ?_
            refine lv_iadd hx hb dX7_advance_59 ?_
            refine P_X7_28 [] [_, _, _, _, _, _, _] hx hb hT hown hK hh dX7_advance_60 (fun H locs (hh : Wh D A s.heap ((List.flatten [bX7 ad E ((sk_4.1, (upd sk_4.2.1 4 (((sk_4.2.1 4) + 1))), sk_4.2.2)), bX2 (ad 8) E sl_2, bX8 (ad 9) E sb_5, bX8 (ad 10) E sn_6, bX1 ad E j_2, bX3 (ad 2) E mc_2, bX3 (ad 3) E md_2, dC ad E ck (j_2.2.1 1).toNatClampNeg])) H locs) => ?_)
            refine lv_aload_n hx hb dX7_advance_63 rfl (lv_at hl 0 rfl) ?_
            refine lv_iconst (v := 0) hx hb dX7_advance_64 (by decide) ?_
            refine P_X7_32 [] [_, _, _, _, _, _, _] hx hb hT hown hK hh dX7_advance_65 (fun H locs (hh : Wh D A s.heap ((List.flatten [bX7 ad E ((sk_4.1, (upd (upd sk_4.2.1 4 (((sk_4.2.1 4) + 1))) 5 ((0 : Int32))), sk_4.2.2)), bX2 (ad 8) E sl_2, bX8 (ad 9) E sb_5, bX8 (ad 10) E sn_6, bX1 ad E j_2, bX3 (ad 2) E mc_2, bX3 (ad 3) E md_2, dC ad E ck (j_2.2.1 1).toNatClampNeg])) H locs) => ?_)
            exact kJ68 ((sk_4.1, (upd (upd sk_4.2.1 4 (((sk_4.2.1 4) + 1))) 5 ((0 : Int32))), sk_4.2.2)) sl_2 sb_5 sn_6 j_2 mc_2 md_2 _ _ _ h hh (lv_sub hl [0, 1] rfl)
          · have h := h.2 c7
            refine lv_aload_n hx hb dX7_advance_29 rfl (lv_at hl 0 rfl) ?_
            refine lv_dup hx hb dX7_advance_30 rfl ?_
            refine G_X7_32 [] [_, _, _, _, _, _, _] hx hb hT hown hK hh (v := sk_4.2.1 5) rfl dX7_advance_31 ?_
            refine lv_iconst (v := 1) hx hb dX7_advance_34 (by decide) ?_
            refine lv_iadd hx hb dX7_advance_35 ?_
            refine P_X7_32 [] [_, _, _, _, _, _, _] hx hb hT hown hK hh dX7_advance_36 (fun H locs (hh : Wh D A s.heap ((List.flatten [bX7 ad E ((sk_4.1, (upd sk_4.2.1 5 (((sk_4.2.1 5) + 1))), sk_4.2.2)), bX2 (ad 8) E sl_2, bX8 (ad 9) E sb_5, bX8 (ad 10) E sn_6, bX1 ad E j_2, bX3 (ad 2) E mc_2, bX3 (ad 3) E md_2, dC ad E ck (j_2.2.1 1).toNatClampNeg])) H locs) => ?_)
            refine lv_aload_n hx hb dX7_advance_39 rfl (lv_at hl 0 rfl) ?_
            have hc := hh.cut [_, _, _, _, _, _, _] [_] [0, 1, 3, 4, 5, 6, 7, 2] 8 rfl (by decide) rfl
            refine kI hc hA (rnV hx hb hml hown hT hK hc (c_X7_settle l D E ad ck ((sk_4.1, (upd sk_4.2.1 5 (((sk_4.2.1 5) + 1))), sk_4.2.2)) sl_2 sn_6 j_2 mc_2 md_2  h _) mf_X7_settle kml_X7_51 ⟨rfl, rfl, Nat.le_of_ble_eq_true rfl, Nat.le_of_ble_eq_true rfl⟩ ⟨Nat.le_of_ble_eq_true rfl, Nat.le_of_ble_eq_true rfl⟩ 7 0 rfl rfl hl.1 rfl dX7_advance_40 (Nat.le_of_ble_eq_true rfl) rfl) (fun r8 u H locs h hh => ?_)
            obtain ⟨sk_9, sl_10, sn_11, j_12, mc_13, md_14⟩ := u
            have hh : Wh D A s.heap ((List.flatten [bX7 ad E sk_9, bX2 (ad 8) E sl_10, bX8 (ad 9) E sb_5, bX8 (ad 10) E sn_11, bX1 ad E j_12, bX3 (ad 2) E mc_13, bX3 (ad 3) E md_14, dC ad E ck (j_12.2.1 1).toNatClampNeg])) _ _ := Wh.back (cs := [_, _, _, _, _, _, _]) (rs := [_]) _ [0, 1, 7, 2, 3, 4, 5, 6] 8 rfl (by decide) rfl hh
            refine lv_istore_n (lv' := [(2, .int (r8)), (0, .ref (ad 7 0)), (1, .int (p1_2))]) hx hb dX7_advance_43 rfl hl (by decide) rfl (fun ls hl => ?_)
            refine lv_iload_n hx hb dX7_advance_44 rfl (lv_at hl 0 rfl) ?_
            refine lv_if_eq (tgt := 50) hx hb dX7_advance_45 (by decide) (fun c15 => ?_) (fun c15 => ?_)
            · have h := h.1 c15
              refine lv_goto (tgt := 68) hx hb dX7_advance_50 (by decide) ?_
              exact kJ68 sk_9 sl_10 sb_5 sn_11 j_12 mc_13 md_14 _ _ _ h hh (lv_sub hl [1, 2] rfl)
            · have h := h.2 c15
              refine lv_iload_n hx hb dX7_advance_48 rfl (lv_at hl 0 rfl) ?_
              exact hret _ _ _ _ _ (sk_9, sl_10, sb_5, sn_11, j_12, mc_13, md_14) dX7_advance_49 rfl h hh
  obtain ⟨n, h⟩ := h
  refine hw2   n 0 sk sl sb sn j mc md _ _ _ h hh (lv_sub hl [1, 0] rfl)

def w_X9_propertyAt (x1 : Int32) (x : Ob) (Post : Option Nat → Ob → Prop) : Prop := ((x1 < 0) → Post none x) ∧ (¬ (x1 < 0) → (((x.2.1 4) ≤ x1) → Post none x) ∧ (¬ ((x.2.1 4) ≤ x1) → ((20 ≤ x1) → Post none x) ∧ (¬ (20 ≤ x1) → vp_in x1 20 ∧ ((x1.toNatClampNeg < (x.2.1 4).toNatClampNeg → Post (some ((x1.toNatClampNeg))) x) ∧ (¬ x1.toNatClampNeg < (x.2.1 4).toNatClampNeg → Post none x)))))
set_option maxRecDepth 100000 in
set_option maxHeartbeats 4000000 in
theorem c_X9_propertyAt (l : Launch) (D : va_G) (E : Nat → ClassId) (ad : Nat → Nat → Nat)  (x : Ob) (x1 : Int32) {Post : Option Nat → Ob → Prop} (h : w_X9_propertyAt x1 x Post) : CtE l yX9_propertyAt cX9_propertyAt 2 (.object "CaseTrials$Property") ({ frames := 0, cells := 0, slots := 0, locals := 0 } : Room) D E (ad 22) [.ref (ad 0 0), .int (x1)] (List.flatten [bX9 ad E x]) (fun u : Ob => List.flatten [bX9 ad E u]) Post 0 0 := by
  refine enE (by decide +kernel) (Nat.le_of_ble_eq_true rfl) ?_
  intro p e s m args below meth c Q A ls hx hb hml hown hT hK hA hret hh hl
  have hl : lv_has ls 2 [(0, .ref (ad 0 0)), (1, .int (x1))] := hl
  unfold w_X9_propertyAt at h
  refine lv_iload_n hx hb dX9_propertyAt_0 rfl (lv_at hl 1 rfl) ?_
  refine lv_if_lt (tgt := 27) hx hb dX9_propertyAt_1 (by decide) (fun c1 => ?_) (fun c1 => ?_)
  · have h := h.1 c1
    refine lv_null hx hb dX9_propertyAt_27 ?_
    exact hret _ _ _ _ none x dX9_propertyAt_28 h hh
  · have h := h.2 c1
    refine lv_iload_n hx hb dX9_propertyAt_4 rfl (lv_at hl 1 rfl) ?_
    refine lv_aload_n hx hb dX9_propertyAt_5 rfl (lv_at hl 0 rfl) ?_
    refine G_X9_38 [] [] hx hb hT hown hK hh (v := x.2.1 4) rfl dX9_propertyAt_6 ?_
    refine lv_icmp_ge (tgt := 27) hx hb dX9_propertyAt_9 (by decide) (fun c2 => ?_) (fun c2 => ?_)
    · have h := h.1 c2
      refine lv_null hx hb dX9_propertyAt_27 ?_
      exact hret _ _ _ _ none x dX9_propertyAt_28 h hh
    · have h := h.2 c2
      refine lv_iload_n hx hb dX9_propertyAt_12 rfl (lv_at hl 1 rfl) ?_
      refine lv_bipush (v := 20) hx hb dX9_propertyAt_13 (by decide) ?_
      refine lv_icmp_ge (tgt := 27) hx hb dX9_propertyAt_15 (by decide) (fun c3 => ?_) (fun c3 => ?_)
      · have h := h.1 c3
        refine lv_null hx hb dX9_propertyAt_27 ?_
        exact hret _ _ _ _ none x dX9_propertyAt_28 h hh
      · have h := h.2 c3
        refine lv_aload_n hx hb dX9_propertyAt_18 rfl (lv_at hl 0 rfl) ?_
        refine G_X9_34 [] [] hx hb hT hown hK hh dX9_propertyAt_19 ?_
        refine lv_iload_n hx hb dX9_propertyAt_22 rfl (lv_at hl 1 rfl) ?_
        obtain ⟨g4, h⟩ := h
        refine Q_X9 [] [] hx hb hK hh g4 dX9_propertyAt_23 (fun c5 => ?_) (fun c5 => ?_)
        · have h := h.1 c5
          refine lv_goto (tgt := 28) hx hb dX9_propertyAt_24 (by decide) ?_
          exact hret _ _ _ _ (some ((x1.toNatClampNeg))) x dX9_propertyAt_28 h hh
        · have h := h.2 c5
          refine lv_goto (tgt := 28) hx hb dX9_propertyAt_24 (by decide) ?_
          exact hret _ _ _ _ none x dX9_propertyAt_28 h hh

def w_X9_maker (mk : Nat → Ob) (x1 : Int32) (x2 : Int32) (x : Ob) (k : Ob) (Post : Int32 → Ob → Ob → Prop) : Prop := w_X5_at  x1 k (fun (r1 : Option Nat) (k_2 : Ob) => (k_2.2.1 1 = k.2.1 1) ∧ ((r1 = none → Post ((-1)) x k_2) ∧ (∀ i4 : Nat, r1 = some i4 → ((x2 = 0) → i4 < (k_2.2.1 1).toNatClampNeg ∧ (Post ((mk i4).2.1 0) x k_2)) ∧ ((x2 = 1) → i4 < (k_2.2.1 1).toNatClampNeg ∧ (Post ((mk i4).2.1 5) x k_2)) ∧ ((x2 = 2) → i4 < (k_2.2.1 1).toNatClampNeg ∧ (((((mk i4).2.1 6) = 0) → Post 0 x k_2) ∧ (¬ (((mk i4).2.1 6) = 0) → Post 1 x k_2))) ∧ ((¬ x2 = 0 ∧ ¬ x2 = 1 ∧ ¬ x2 = 2) → Post ((-2)) x k_2))))
set_option maxRecDepth 100000 in
set_option maxHeartbeats 4000000 in
theorem c_X9_maker (l : Launch) (D : va_G) (E : Nat → ClassId) (ad : Nat → Nat → Nat) (mk : Nat → Ob)  (x : Ob) (k : Ob) (x1 : Int32) (x2 : Int32) {Post : Int32 → Ob → Ob → Prop} (h : w_X9_maker mk x1 x2 x k Post) : CtI l yX9_maker cX9_maker 4 .int ({ frames := 1, cells := 0, slots := 0, locals := 21 } : Room) D E [.ref (ad 0 0), .int (x1), .int (x2)] (List.flatten [bX9 ad E x, bX5 ad E k, dK ad E mk (k.2.1 1).toNatClampNeg]) (fun u : Ob × Ob => List.flatten [bX9 ad E u.1, bX5 ad E u.2, dK ad E mk (u.2.2.1 1).toNatClampNeg]) (fun (r : Int32) (u : Ob × Ob) => Post r u.1 u.2) 0 0 := by
  refine enI (by decide +kernel) (Nat.le_of_ble_eq_true rfl) ?_
  intro p e s m args below meth c Q A ls hx hb hml hown hT hK hA hret hh hl
  have hl : lv_has ls 4 [(0, .ref (ad 0 0)), (1, .int (x1)), (2, .int (x2))] := hl
  unfold w_X9_maker at h
  refine lv_aload_n hx hb dX9_maker_0 rfl (lv_at hl 0 rfl) ?_
  refine G_X9_21 [] [_, _] hx hb hT hown hK hh dX9_maker_1 ?_
  refine lv_iload_n hx hb dX9_maker_4 rfl (lv_at hl 1 rfl) ?_
  have hc := hh.cut [_] [_, _] [1, 0, 2] 3 rfl (by decide) rfl
  refine kE hc hA (rnVN hx hb hml hown hT hK hc (c_X5_at l D E ad  k x1 h _) mf_X5_at nml_X9_87 ⟨rfl, rfl, Nat.le_of_ble_eq_true rfl, Nat.le_of_ble_eq_true rfl⟩ ⟨Nat.le_of_ble_eq_true rfl, Nat.le_of_ble_eq_true rfl⟩ 5 0 rfl rfl hl.1 rfl dX9_maker_5 (Nat.le_of_ble_eq_true rfl) rfl) (fun r1 k_2 H locs h hh => ?_)
  obtain ⟨g3, h⟩ := h
  rw [← g3] at hh
  have hh : Wh D A s.heap ((List.flatten [bX9 ad E x, bX5 ad E k_2, dK ad E mk (k_2.2.1 1).toNatClampNeg])) _ _ := Wh.back (cs := [_]) (rs := [_, _]) _ [1, 0, 2] 3 rfl (by decide) rfl hh
  cases r1 with
  | none =>
    have h := h.1 rfl
    refine lv_astore_nN (lv' := [(3, .null), (0, .ref (ad 0 0)), (1, .int (x1)), (2, .int (x2))]) hx hb dX9_maker_8 rfl hl (by decide) rfl (fun ls hl => ?_)
    refine lv_aload_nN hx hb dX9_maker_9 rfl (lv_at hl 0 rfl) ?_
    refine lv_ifnonnullN hx hb dX9_maker_10 ?_
    refine lv_iconst (v := (-1)) hx hb dX9_maker_13 (by decide) ?_
    exact hret _ _ _ _ _ (x, k_2) dX9_maker_14 rfl h hh
  | some i4 =>
    have h := h.2 i4 rfl
    refine lv_astore_n (lv' := [(3, .ref (ad 21 i4)), (0, .ref (ad 0 0)), (1, .int (x1)), (2, .int (x2))]) hx hb dX9_maker_8 rfl hl (by decide) rfl (fun ls hl => ?_)
    refine lv_aload_n hx hb dX9_maker_9 rfl (lv_at hl 0 rfl) ?_
    refine lv_ifnonnull (tgt := 15) hx hb dX9_maker_10 (by decide) ?_
    refine lv_iload_n hx hb dX9_maker_15 rfl (lv_at hl 3 rfl) ?_
    by_cases c6 : x2 = 0
    · have h := h.1 c6
      refine lv_tableIn (off := 28) (tgt := 44) hx hb dX9_maker_16 (by rw [c6]; decide) (by rw [c6]; decide) (by rw [c6]; rfl) (by decide) ?_
      refine lv_aload_n hx hb dX9_maker_44 rfl (lv_at hl 0 rfl) ?_
      obtain ⟨g5, h⟩ := h
      refine DG_X9_107 [_, _] [] hx hb hT hown hK hh g5 (v := (mk i4).2.1 0) rfl dX9_maker_45 ?_
      exact hret _ _ _ _ _ (x, k_2) dX9_maker_48 rfl h hh
    · by_cases c8 : x2 = 1
      · have h := h.2.1 c8
        refine lv_tableIn (off := 33) (tgt := 49) hx hb dX9_maker_16 (by rw [c8]; decide) (by rw [c8]; decide) (by rw [c8]; rfl) (by decide) ?_
        refine lv_aload_n hx hb dX9_maker_49 rfl (lv_at hl 0 rfl) ?_
        obtain ⟨g7, h⟩ := h
        refine DG_X9_91 [_, _] [] hx hb hT hown hK hh g7 (v := (mk i4).2.1 5) rfl dX9_maker_50 ?_
        exact hret _ _ _ _ _ (x, k_2) dX9_maker_53 rfl h hh
      · by_cases c11 : x2 = 2
        · have h := h.2.2.1 c11
          refine lv_tableIn (off := 38) (tgt := 54) hx hb dX9_maker_16 (by rw [c11]; decide) (by rw [c11]; decide) (by rw [c11]; rfl) (by decide) ?_
          refine lv_aload_n hx hb dX9_maker_54 rfl (lv_at hl 0 rfl) ?_
          obtain ⟨g9, h⟩ := h
          refine DG_X9_94 [_, _] [] hx hb hT hown hK hh g9 (v := (mk i4).2.1 6) rfl dX9_maker_55 ?_
          refine lv_if_eq (tgt := 65) hx hb dX9_maker_58 (by decide) (fun c10 => ?_) (fun c10 => ?_)
          · have h := h.1 c10
            refine lv_iconst (v := 0) hx hb dX9_maker_65 (by decide) ?_
            exact hret _ _ _ _ _ (x, k_2) dX9_maker_66 rfl h hh
          · have h := h.2 c10
            refine lv_iconst (v := 1) hx hb dX9_maker_61 (by decide) ?_
            refine lv_goto (tgt := 66) hx hb dX9_maker_62 (by decide) ?_
            exact hret _ _ _ _ _ (x, k_2) dX9_maker_66 rfl h hh
        · have h := h.2.2.2 ⟨c6, c8, c11⟩
          refine q_swD (tgt := 67) hx hb dX9_maker_16 (fun i h1 h2 he => (show i = 0 ∨ i = 1 ∨ i = 2 by omega).elim (fun z => absurd (q_oi he z (by decide)) c6) (fun z => z.elim (fun z => absurd (q_oi he z (by decide)) c8) (fun z => absurd (q_oi he z (by decide)) c11))) (by decide) ?_
          refine lv_bipush (v := (-2)) hx hb dX9_maker_67 (by decide) ?_
          exact hret _ _ _ _ _ (x, k_2) dX9_maker_69 rfl h hh
