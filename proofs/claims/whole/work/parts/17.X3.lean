def w_X5_growBelow (ck : Nat → Ob) (mk : Nat → Ob) (G : Int32 → Int32 → Int32 → Ob → Ob → Ob → Ob → Ob → Ob → (Int32 → Ob → Ob → Ob → Ob → Ob → Ob → Prop) → Prop) (x1 : Nat) (x2 : Int32) (x3 : Int32) (k : Ob) (kt : Ob) (kl : Ob) (j : Ob) (mc : Ob) (md : Ob) (Post : Int32 → Ob → Ob → Ob → Ob → Ob → Ob → Prop) : Prop := w_X8_setValue  x2 (2 : Int32) kt (fun (kt_2 : Ob) => x1 < (k.2.1 1).toNatClampNeg ∧ (G ((mk x1).2.1 1) x2 (x3 + 1) k kt_2 kl j mc md (fun (r4 : Int32) (k_5 : Ob) (kt_6 : Ob) (kl_7 : Ob) (j_8 : Ob) (mc_9 : Ob) (md_10 : Ob) => ((r4 = 1) → w_X8_gather  (x2 + 1) (kt_6.2.1 6) kt_6 kl_7 (fun (kt_13 : Ob) (kl_14 : Ob) => w_X2_sum   kl_14 (fun (r15 : Int32) (kl_16 : Ob) => w_J9_min_7cf53  r15 (1000000 : Int32)  (fun (r17 : Int32) => w_J9_max_7cf53  (0 : Int32) r17  (fun (r18 : Int32) => w_X5_numberBelow  (1 + r18) k_5 (fun (r19 : Int32) (k_20 : Ob) => (k_20.2.1 1 = k_5.2.1 1) ∧ (w_X8_add  (9 : Int32) r19 x2 kt_13 (fun (r22 : Int32) (kt_23 : Ob) => Post 1 k_20 kt_23 kl_16 j_8 mc_9 md_10)))))))) ∧ (¬ (r4 = 1) → Post r4 k_5 kt_6 kl_7 j_8 mc_9 md_10))))
set_option maxRecDepth 100000 in
set_option maxHeartbeats 4000000 in
theorem c_X5_growBelow (l : Launch) (D : va_G) (E : Nat → ClassId) (ad : Nat → Nat → Nat) (ck : Nat → Ob) (mk : Nat → Ob) {dd : Nat} (G : Int32 → Int32 → Int32 → Ob → Ob → Ob → Ob → Ob → Ob → (Int32 → Ob → Ob → Ob → Ob → Ob → Ob → Prop) → Prop)  (hG : ∀ (x1 x2 x3 : Int32) (k kt kl j mc md : Ob) (Post : Int32 → Ob → Ob → Ob → Ob → Ob → Ob → Prop), G x1 x2 x3 k kt kl j mc md Post → CtI l yX5_grow cX5_grow 8 .int (rmG dd) D E [.ref (ad 4 0), .int (x1), .int (x2), .int (x3)] (List.flatten [bX5 ad E k, bX8 (ad 5) E kt, bX2 (ad 6) E kl, bX1 ad E j, bX3 (ad 2) E mc, bX3 (ad 3) E md, dC ad E ck (j.2.1 1).toNatClampNeg, dK ad E mk (k.2.1 1).toNatClampNeg]) (fun u : Ob × Ob × Ob × Ob × Ob × Ob => List.flatten [bX5 ad E u.1, bX8 (ad 5) E u.2.1, bX2 (ad 6) E u.2.2.1, bX1 ad E u.2.2.2.1, bX3 (ad 2) E u.2.2.2.2.1, bX3 (ad 3) E u.2.2.2.2.2, dC ad E ck (u.2.2.2.1.2.1 1).toNatClampNeg, dK ad E mk (u.1.2.1 1).toNatClampNeg]) (fun (r : Int32) (u : Ob × Ob × Ob × Ob × Ob × Ob) => Post r u.1 u.2.1 u.2.2.1 u.2.2.2.1 u.2.2.2.2.1 u.2.2.2.2.2) 0 0) (k : Ob) (kt : Ob) (kl : Ob) (j : Ob) (mc : Ob) (md : Ob) (x1 : Nat) (x2 : Int32) (x3 : Int32) {Post : Int32 → Ob → Ob → Ob → Ob → Ob → Ob → Prop} (h : w_X5_growBelow ck mk G x1 x2 x3 k kt kl j mc md Post) : CtI l yX5_growBelow cX5_growBelow 6 .int (rmH dd) D E [.ref (ad 4 0), .ref (ad 21 x1), .int (x2), .int (x3)] (List.flatten [bX5 ad E k, bX8 (ad 5) E kt, bX2 (ad 6) E kl, bX1 ad E j, bX3 (ad 2) E mc, bX3 (ad 3) E md, dC ad E ck (j.2.1 1).toNatClampNeg, dK ad E mk (k.2.1 1).toNatClampNeg]) (fun u : Ob × Ob × Ob × Ob × Ob × Ob => List.flatten [bX5 ad E u.1, bX8 (ad 5) E u.2.1, bX2 (ad 6) E u.2.2.1, bX1 ad E u.2.2.2.1, bX3 (ad 2) E u.2.2.2.2.1, bX3 (ad 3) E u.2.2.2.2.2, dC ad E ck (u.2.2.2.1.2.1 1).toNatClampNeg, dK ad E mk (u.1.2.1 1).toNatClampNeg]) (fun (r : Int32) (u : Ob × Ob × Ob × Ob × Ob × Ob) => Post r u.1 u.2.1 u.2.2.1 u.2.2.2.1 u.2.2.2.2.1 u.2.2.2.2.2) 0 0 := by
  refine enI (by decide +kernel) (Nat.le_of_ble_eq_true rfl) ?_
  intro p e s m args below meth c Q A ls hx hb hml hown hT hK hA hret hh hl
  have hl : lv_has ls 6 [(0, .ref (ad 4 0)), (1, .ref (ad 21 x1)), (2, .int (x2)), (3, .int (x3))] := hl
  unfold w_X5_growBelow at h
  refine lv_aload_n hx hb dX5_growBelow_0 rfl (lv_at hl 0 rfl) ?_
  refine G_X5_24 [] [_, _, _, _, _, _, _] hx hb hT hown hK hh dX5_growBelow_1 ?_
  refine lv_iload_n hx hb dX5_growBelow_4 rfl (lv_at hl 2 rfl) ?_
  refine lv_iconst (v := 2) hx hb dX5_growBelow_5 (by decide) ?_
  have hc := hh.cut [_] [_, _, _, _, _, _, _] [1, 0, 2, 3, 4, 5, 6, 7] 8 rfl (by decide) rfl
  refine kV hc hA (rnVN hx hb hml hown hT hK hc (c_X8_setValue l D E (ad 5)  kt x2 (2 : Int32) h _) mf_X8_setValue nml_X5_82 ⟨rfl, rfl, rmH_fr (Nat.le_of_ble_eq_true rfl), rmH_lo (Nat.le_of_ble_eq_true rfl)⟩ ⟨Nat.le_refl 0, Nat.le_refl 0⟩ 8 0 rfl rfl hl.1 rfl dX5_growBelow_6 (Nat.le_of_ble_eq_true rfl) rfl) (fun kt_2 H locs h hh => ?_)
  have hh : Wh D A s.heap ((List.flatten [bX5 ad E k, bX8 (ad 5) E kt_2, bX2 (ad 6) E kl, bX1 ad E j, bX3 (ad 2) E mc, bX3 (ad 3) E md, dC ad E ck (j.2.1 1).toNatClampNeg, dK ad E mk (k.2.1 1).toNatClampNeg])) _ _ := Wh.back (cs := [_]) (rs := [_, _, _, _, _, _, _]) _ [1, 0, 2, 3, 4, 5, 6, 7] 8 rfl (by decide) rfl hh
  refine lv_aload_n hx hb dX5_growBelow_9 rfl (lv_at hl 0 rfl) ?_
  refine lv_aload_n hx hb dX5_growBelow_10 rfl (lv_at hl 1 rfl) ?_
  obtain ⟨g3, h⟩ := h
  refine DG_X5_72 [_, _, _, _, _, _, _] [] hx hb hT hown hK hh g3 (v := (mk x1).2.1 1) rfl dX5_growBelow_11 ?_
  refine lv_iload_n hx hb dX5_growBelow_14 rfl (lv_at hl 2 rfl) ?_
  refine lv_iload_n hx hb dX5_growBelow_15 rfl (lv_at hl 3 rfl) ?_
  refine lv_iconst (v := 1) hx hb dX5_growBelow_16 (by decide) ?_
  refine lv_iadd hx hb dX5_growBelow_17 ?_
  refine kI hh.ap0 hA (rnV hx hb hml hown hT hK hh.ap0 (hG ((mk x1).2.1 1) x2 (x3 + 1) k kt_2 kl j mc md _ h _) mf_X5_grow kml_X5_102 ⟨rfl, rfl, rmH_frG, rmH_loG (Nat.le_of_ble_eq_true rfl)⟩ ⟨Nat.le_refl 0, Nat.le_refl 0⟩ 5 0 rfl rfl hl.1 rfl dX5_growBelow_18 (Nat.le_of_ble_eq_true rfl) rfl) (fun r4 u H locs h hh => ?_)
  obtain ⟨k_5, kt_6, kl_7, j_8, mc_9, md_10⟩ := u
  have hh : Wh D A s.heap ((List.flatten [bX5 ad E k_5, bX8 (ad 5) E kt_6, bX2 (ad 6) E kl_7, bX1 ad E j_8, bX3 (ad 2) E mc_9, bX3 (ad 3) E md_10, dC ad E ck (j_8.2.1 1).toNatClampNeg, dK ad E mk (k_5.2.1 1).toNatClampNeg])) _ _ := hh.un0
  refine lv_istore (lv' := [(4, .int (r4)), (0, .ref (ad 4 0)), (1, .ref (ad 21 x1)), (2, .int (x2)), (3, .int (x3))]) hx hb dX5_growBelow_21 hl (by decide) rfl (fun ls hl => ?_)
  refine lv_iload hx hb dX5_growBelow_23 (lv_at hl 0 rfl) ?_
  refine lv_iconst (v := 1) hx hb dX5_growBelow_25 (by decide) ?_
  refine lv_icmp_eq (tgt := 32) hx hb dX5_growBelow_26 (by decide) (fun c11 => ?_) (fun c11 => ?_)
  · have h := h.1 c11
    refine lv_aload_n hx hb dX5_growBelow_32 rfl (lv_at hl 1 rfl) ?_
    refine G_X5_24 [] [_, _, _, _, _, _, _] hx hb hT hown hK hh dX5_growBelow_33 ?_
    refine lv_iload_n hx hb dX5_growBelow_36 rfl (lv_at hl 3 rfl) ?_
    refine lv_iconst (v := 1) hx hb dX5_growBelow_37 (by decide) ?_
    refine lv_iadd hx hb dX5_growBelow_38 ?_
    refine lv_aload_n hx hb dX5_growBelow_39 rfl (lv_at hl 1 rfl) ?_
    refine G_X5_24 [] [_, _, _, _, _, _, _] hx hb hT hown hK hh dX5_growBelow_40 ?_
    refine G_X5_129 [_] [_, _, _, _, _, _] hx hb hT hown hK hh (v := kt_6.2.1 6) rfl dX5_growBelow_43 ?_
    refine lv_aload_n hx hb dX5_growBelow_46 rfl (lv_at hl 1 rfl) ?_
    refine G_X5_31 [] [_, _, _, _, _, _, _] hx hb hT hown hK hh dX5_growBelow_47 ?_
    have hc := hh.cut [_, _] [_, _, _, _, _, _] [1, 2, 0, 3, 4, 5, 6, 7] 8 rfl (by decide) rfl
    refine kV hc hA (rnVN hx hb hml hown hT hK hc (c_X8_gather l D E (ad 5) (ad 6)  kt_6 kl_7 (x2 + 1) (kt_6.2.1 6) h _) mf_X8_gather nml_X5_130 ⟨rfl, rfl, rmH_fr (Nat.le_of_ble_eq_true rfl), rmH_lo (Nat.le_of_ble_eq_true rfl)⟩ ⟨Nat.le_refl 0, Nat.le_refl 0⟩ 8 0 rfl rfl hl.1 rfl dX5_growBelow_50 (Nat.le_of_ble_eq_true rfl) rfl) (fun u H locs h hh => ?_)
    obtain ⟨kt_13, kl_14⟩ := u
    have hh : Wh D A s.heap ((List.flatten [bX5 ad E k_5, bX8 (ad 5) E kt_13, bX2 (ad 6) E kl_14, bX1 ad E j_8, bX3 (ad 2) E mc_9, bX3 (ad 3) E md_10, dC ad E ck (j_8.2.1 1).toNatClampNeg, dK ad E mk (k_5.2.1 1).toNatClampNeg])) _ _ := Wh.back (cs := [_, _]) (rs := [_, _, _, _, _, _]) _ [2, 0, 1, 3, 4, 5, 6, 7] 8 rfl (by decide) rfl hh
    refine lv_iconst (v := 0) hx hb dX5_growBelow_53 (by decide) ?_
    refine lv_aload_n hx hb dX5_growBelow_54 rfl (lv_at hl 1 rfl) ?_
    refine G_X5_31 [] [_, _, _, _, _, _, _] hx hb hT hown hK hh dX5_growBelow_55 ?_
    have hc := hh.cut [_] [_, _, _, _, _, _, _] [2, 0, 1, 3, 4, 5, 6, 7] 8 rfl (by decide) rfl
    refine kI hc hA (rnVN hx hb hml hown hT hK hc (c_X2_sum l D E (ad 6)  kl_14  h _) mf_X2_sum nml_X5_141 ⟨rfl, rfl, rmH_fr (Nat.le_of_ble_eq_true rfl), rmH_lo (Nat.le_of_ble_eq_true rfl)⟩ ⟨Nat.le_refl 0, Nat.le_refl 0⟩ 2 0 rfl rfl hl.1 rfl dX5_growBelow_58 (Nat.le_of_ble_eq_true rfl) rfl) (fun r15 kl_16 H locs h hh => ?_)
    have hh : Wh D A s.heap ((List.flatten [bX5 ad E k_5, bX8 (ad 5) E kt_13, bX2 (ad 6) E kl_16, bX1 ad E j_8, bX3 (ad 2) E mc_9, bX3 (ad 3) E md_10, dC ad E ck (j_8.2.1 1).toNatClampNeg, dK ad E mk (k_5.2.1 1).toNatClampNeg])) _ _ := Wh.back (cs := [_]) (rs := [_, _, _, _, _, _, _]) _ [1, 2, 0, 3, 4, 5, 6, 7] 8 rfl (by decide) rfl hh
    refine lv_ldc (v := 1000000) hx hb hown (hT _ kcn_X5_145) dX5_growBelow_61 ?_
    refine kI hh.none hA (rnS hx hb hml hown hT hK hh.none (c_J9_min_7cf53 l D E    r15 (1000000 : Int32) h _) mf_J9_min_7cf53 kml_X5_86 ⟨rfl, rfl, rmH_fr (Nat.le_of_ble_eq_true rfl), rmH_lo (Nat.le_of_ble_eq_true rfl)⟩ ⟨Nat.le_refl 0, Nat.le_refl 0⟩ hl.1 rfl dX5_growBelow_63 (Nat.le_of_ble_eq_true rfl) rfl) (fun r17 u H locs h hh => ?_)
    have hh : Wh D A s.heap ((List.flatten [bX5 ad E k_5, bX8 (ad 5) E kt_13, bX2 (ad 6) E kl_16, bX1 ad E j_8, bX3 (ad 2) E mc_9, bX3 (ad 3) E md_10, dC ad E ck (j_8.2.1 1).toNatClampNeg, dK ad E mk (k_5.2.1 1).toNatClampNeg])) _ _ := hh.unone
    refine kI hh.none hA (rnS hx hb hml hown hT hK hh.none (c_J9_max_7cf53 l D E    (0 : Int32) r17 h _) mf_J9_max_7cf53 kml_X5_92 ⟨rfl, rfl, rmH_fr (Nat.le_of_ble_eq_true rfl), rmH_lo (Nat.le_of_ble_eq_true rfl)⟩ ⟨Nat.le_refl 0, Nat.le_refl 0⟩ hl.1 rfl dX5_growBelow_66 (Nat.le_of_ble_eq_true rfl) rfl) (fun r18 u H locs h hh => ?_)
    have hh : Wh D A s.heap ((List.flatten [bX5 ad E k_5, bX8 (ad 5) E kt_13, bX2 (ad 6) E kl_16, bX1 ad E j_8, bX3 (ad 2) E mc_9, bX3 (ad 3) E md_10, dC ad E ck (j_8.2.1 1).toNatClampNeg, dK ad E mk (k_5.2.1 1).toNatClampNeg])) _ _ := hh.unone
    refine lv_istore (lv' := [(5, .int (r18)), (4, .int (r4)), (0, .ref (ad 4 0)), (1, .ref (ad 21 x1)), (2, .int (x2)), (3, .int (x3))]) hx hb dX5_growBelow_69 hl (by decide) rfl (fun ls hl => ?_)
    refine lv_aload_n hx hb dX5_growBelow_71 rfl (lv_at hl 2 rfl) ?_
    refine G_X5_24 [] [_, _, _, _, _, _, _] hx hb hT hown hK hh dX5_growBelow_72 ?_
    refine lv_bipush (v := 9) hx hb dX5_growBelow_75 (by decide) ?_
    refine lv_aload_n hx hb dX5_growBelow_77 rfl (lv_at hl 2 rfl) ?_
    refine lv_iconst (v := 1) hx hb dX5_growBelow_78 (by decide) ?_
    refine lv_iload hx hb dX5_growBelow_79 (lv_at hl 0 rfl) ?_
    refine lv_iadd hx hb dX5_growBelow_81 ?_
    have hc := hh.cut [_] [_, _, _, _, _, _, _] [0, 1, 2, 3, 4, 5, 6, 7] 8 rfl (by decide) rfl
    refine kI hc hA (rnV hx hb hml hown hT hK hc (c_X5_numberBelow l D E ad  k_5 (1 + r18) h _) mf_X5_numberBelow kml_X5_78 ⟨rfl, rfl, rmH_fr (Nat.le_of_ble_eq_true rfl), rmH_lo (Nat.le_of_ble_eq_true rfl)⟩ ⟨Nat.le_refl 0, Nat.le_refl 0⟩ 5 0 rfl rfl hl.1 rfl dX5_growBelow_82 (Nat.le_of_ble_eq_true rfl) rfl) (fun r19 k_20 H locs h hh => ?_)
    obtain ⟨g21, h⟩ := h
    rw [← g21] at hh
    have hh : Wh D A s.heap ((List.flatten [bX5 ad E k_20, bX8 (ad 5) E kt_13, bX2 (ad 6) E kl_16, bX1 ad E j_8, bX3 (ad 2) E mc_9, bX3 (ad 3) E md_10, dC ad E ck (j_8.2.1 1).toNatClampNeg, dK ad E mk (k_20.2.1 1).toNatClampNeg])) _ _ := Wh.back (cs := [_]) (rs := [_, _, _, _, _, _, _]) _ [0, 1, 2, 3, 4, 5, 6, 7] 8 rfl (by decide) rfl hh
    refine lv_iload_n hx hb dX5_growBelow_85 rfl (lv_at hl 4 rfl) ?_
    have hc := hh.cut [_] [_, _, _, _, _, _, _] [1, 0, 2, 3, 4, 5, 6, 7] 8 rfl (by decide) rfl
    refine kI hc hA (rnVN hx hb hml hown hT hK hc (c_X8_add l D E (ad 5)  kt_13 (9 : Int32) r19 x2 h _) mf_X8_add nml_X5_68 ⟨rfl, rfl, rmH_fr (Nat.le_of_ble_eq_true rfl), rmH_lo (Nat.le_of_ble_eq_true rfl)⟩ ⟨Nat.le_refl 0, Nat.le_refl 0⟩ 8 0 rfl rfl hl.1 rfl dX5_growBelow_86 (Nat.le_of_ble_eq_true rfl) rfl) (fun r22 kt_23 H locs h hh => ?_)
    have hh : Wh D A s.heap ((List.flatten [bX5 ad E k_20, bX8 (ad 5) E kt_23, bX2 (ad 6) E kl_16, bX1 ad E j_8, bX3 (ad 2) E mc_9, bX3 (ad 3) E md_10, dC ad E ck (j_8.2.1 1).toNatClampNeg, dK ad E mk (k_20.2.1 1).toNatClampNeg])) _ _ := Wh.back (cs := [_]) (rs := [_, _, _, _, _, _, _]) _ [1, 0, 2, 3, 4, 5, 6, 7] 8 rfl (by decide) rfl hh
    refine lv_pop hx hb dX5_growBelow_89 rfl ?_
    refine lv_iconst (v := 1) hx hb dX5_growBelow_90 (by decide) ?_
    exact hret _ _ _ _ _ (k_20, kt_23, kl_16, j_8, mc_9, md_10) dX5_growBelow_91 rfl h hh
  · have h := h.2 c11
    refine lv_iload hx hb dX5_growBelow_29 (lv_at hl 0 rfl) ?_
    exact hret _ _ _ _ _ (k_5, kt_6, kl_7, j_8, mc_9, md_10) dX5_growBelow_31 rfl h hh

def w_X5_growShuffled_L11 (f1_11 : Int32) (f2_11 : Int32) (K34_11 : Ob → Ob → Prop) (Post : Ob → Ob → Prop) : Nat → Int32 → Ob → Ob → Prop
  | 0, _, _, _ => False
  | n11 + 1, p3_11, k_11, kt_11 => ((f1_11 ≤ p3_11) → K34_11 k_11 kt_11) ∧ (¬ (f1_11 ≤ p3_11) → w_X8_add  (8 : Int32) p3_11 f2_11 kt_11 (fun (r4 : Int32) (kt_5 : Ob) => w_X5_growShuffled_L11 f1_11 f2_11 K34_11 Post n11 (p3_11 + 1) k_11 kt_5))
def w_X5_growShuffled_L43 (f3_43 : Int32)  (Post : Ob → Ob → Prop) : Nat → Int32 → Ob → Ob → Prop
  | 0, _, _, _ => False
  | n43 + 1, p4_43, k_43, kt_43 => ((p4_43 < 1) → Post k_43 kt_43) ∧ (¬ (p4_43 < 1) → w_X5_numberBelow  (p4_43 + 1) k_43 (fun (r7 : Int32) (k_8 : Ob) => w_X8_exchange  (f3_43 + p4_43) (f3_43 + r7) kt_43 (fun (kt_10 : Ob) => w_X5_growShuffled_L43 f3_43  Post n43 (p4_43 + (-1)) k_8 kt_10)))
def w_X5_growShuffled (x1 : Int32) (x2 : Int32) (k : Ob) (kt : Ob) (Post : Ob → Ob → Prop) : Prop := w_X8_setValue  x2 x1 kt (fun (kt_2 : Ob) => ∃ n11, w_X5_growShuffled_L11 x1 x2 (fun (k_k34 : Ob) (kt_k34 : Ob) => ∃ n43, w_X5_growShuffled_L43 (x2 + 1)  Post n43 (x1 - 1) k_k34 kt_k34) Post n11 0 k kt_2)
set_option maxRecDepth 100000 in
set_option maxHeartbeats 4000000 in
theorem c_X5_growShuffled (l : Launch) (D : va_G) (E : Nat → ClassId) (ad : Nat → Nat → Nat)  (k : Ob) (kt : Ob) (x1 : Int32) (x2 : Int32) {Post : Ob → Ob → Prop} (h : w_X5_growShuffled x1 x2 k kt Post) : CtV l yX5_growShuffled cX5_growShuffled 5 ({ frames := 3, cells := 0, slots := 0, locals := 66 } : Room) D E [.ref (ad 4 0), .int (x1), .int (x2)] (List.flatten [bX5 ad E k, bX8 (ad 5) E kt]) (fun u : Ob × Ob => List.flatten [bX5 ad E u.1, bX8 (ad 5) E u.2]) (fun u : Ob × Ob => Post u.1 u.2) 0 0 := by
  refine enV (by decide +kernel) (Nat.le_of_ble_eq_true rfl) ?_
  intro p e s m args below meth c Q A ls hx hb hml hown hT hK hA hin0 hret hh hl
  have hl : lv_has ls 5 [(0, .ref (ad 4 0)), (1, .int (x1)), (2, .int (x2))] := hl
  unfold w_X5_growShuffled at h
  refine lv_aload_n hx hb dX5_growShuffled_0 rfl (lv_at hl 0 rfl) ?_
  refine G_X5_24 [] [_] hx hb hT hown hK hh dX5_growShuffled_1 ?_
  refine lv_iload_n hx hb dX5_growShuffled_4 rfl (lv_at hl 2 rfl) ?_
  refine lv_iload_n hx hb dX5_growShuffled_5 rfl (lv_at hl 1 rfl) ?_
  have hc := hh.cut [_] [_] [1, 0] 2 rfl (by decide) rfl
  refine kV hc hA (rnVN hx hb hml hown hT hK hc (c_X8_setValue l D E (ad 5)  kt x2 x1 h _) mf_X8_setValue nml_X5_82 ⟨rfl, rfl, Nat.le_of_ble_eq_true rfl, Nat.le_of_ble_eq_true rfl⟩ ⟨Nat.le_of_ble_eq_true rfl, Nat.le_of_ble_eq_true rfl⟩ 8 0 rfl rfl hl.1 rfl dX5_growShuffled_6 (Nat.le_of_ble_eq_true rfl) rfl) (fun kt_2 H locs h hh => ?_)
  have hh : Wh D A s.heap ((List.flatten [bX5 ad E k, bX8 (ad 5) E kt_2])) _ _ := Wh.back (cs := [_]) (rs := [_]) _ [1, 0] 2 rfl (by decide) rfl hh
  refine lv_iconst (v := 0) hx hb dX5_growShuffled_9 (by decide) ?_
  refine lv_istore_n (lv' := [(3, .int (0)), (0, .ref (ad 4 0)), (1, .int (x1)), (2, .int (x2))]) hx hb dX5_growShuffled_10 rfl hl (by decide) rfl (fun ls hl => ?_)
  have hw11 : ∀ (K34_11 : Ob → Ob → Prop) (hK34_11 : ∀ (k_k34 : Ob) (kt_k34 : Ob) (H : Heap) (locs : List Loc) (ls : Array Slot), K34_11 k_k34 kt_k34 → Wh D A s.heap ((List.flatten [bX5 ad E k_k34, bX8 (ad 5) E kt_k34])) H locs → lv_has ls 5 [(0, .ref (ad 4 0)), (1, .int (x1)), (2, .int (x2))] → W p l e ({ frames := 3, cells := 0, slots := 0, locals := 66 } : Room) s m args below meth c H locs 0 0 Q (F0 m 34 ls [])) (n : Nat) (p3_11 : Int32) (k_11 : Ob) (kt_11 : Ob) (H : Heap) (locs : List Loc) (ls : Array Slot), w_X5_growShuffled_L11 x1 x2 K34_11 Post n p3_11 k_11 kt_11 → Wh D A s.heap ((List.flatten [bX5 ad E k_11, bX8 (ad 5) E kt_11])) H locs → lv_has ls 5 [(0, .ref (ad 4 0)), (1, .int (x1)), (2, .int (x2)), (3, .int (p3_11))] → W p l e ({ frames := 3, cells := 0, slots := 0, locals := 66 } : Room) s m args below meth c H locs 0 0 Q (F0 m 11 ls []) := by
    intro K34_11 hK34_11 n
    induction n with
    | zero => intro p3_11 k_11 kt_11 H locs ls h hh hl; exact False.elim h
    | succ n ih =>
      intro p3_11 k_11 kt_11 H locs ls h hh hl
      refine lv_iload_n hx hb dX5_growShuffled_11 rfl (lv_at hl 3 rfl) ?_
      refine lv_iload_n hx hb dX5_growShuffled_12 rfl (lv_at hl 1 rfl) ?_
      refine lv_icmp_ge (tgt := 34) hx hb dX5_growShuffled_13 (by decide) (fun c3 => ?_) (fun c3 => ?_)
      · have h := h.1 c3
        exact hK34_11 k_11 kt_11 _ _ _ h hh (lv_sub hl [0, 1, 2] rfl)
      · have h := h.2 c3
        refine lv_aload_n hx hb dX5_growShuffled_16 rfl (lv_at hl 0 rfl) ?_
        refine G_X5_24 [] [_] hx hb hT hown hK hh dX5_growShuffled_17 ?_
        refine lv_bipush (v := 8) hx hb dX5_growShuffled_20 (by decide) ?_
        refine lv_iload_n hx hb dX5_growShuffled_22 rfl (lv_at hl 3 rfl) ?_
        refine lv_iload_n hx hb dX5_growShuffled_23 rfl (lv_at hl 2 rfl) ?_
        have hc := hh.cut [_] [_] [1, 0] 2 rfl (by decide) rfl
        refine kI hc hA (rnVN hx hb hml hown hT hK hc (c_X8_add l D E (ad 5)  kt_11 (8 : Int32) p3_11 x2 h _) mf_X8_add nml_X5_68 ⟨rfl, rfl, Nat.le_of_ble_eq_true rfl, Nat.le_of_ble_eq_true rfl⟩ ⟨Nat.le_of_ble_eq_true rfl, Nat.le_of_ble_eq_true rfl⟩ 8 0 rfl rfl hl.1 rfl dX5_growShuffled_24 (Nat.le_of_ble_eq_true rfl) rfl) (fun r4 kt_5 H locs h hh => ?_)
        have hh : Wh D A s.heap ((List.flatten [bX5 ad E k_11, bX8 (ad 5) E kt_5])) _ _ := Wh.back (cs := [_]) (rs := [_]) _ [1, 0] 2 rfl (by decide) rfl hh
        refine lv_pop hx hb dX5_growShuffled_27 rfl ?_
        refine lv_iinc (v := p3_11 + 1) (lv' := [(3, .int (p3_11 + 1)), (0, .ref (ad 4 0)), (1, .int (x1)), (2, .int (x2))]) hx hb dX5_growShuffled_28 hl (k := 3) rfl (by rfl) (by decide) rfl (fun ls hl => ?_)
        refine lv_goto (tgt := 11) hx hb dX5_growShuffled_31 (by decide) ?_
        exact ih (p3_11 + 1) k_11 kt_5 _ _ _ h hh (lv_sub hl [1, 2, 3, 0] rfl)
  obtain ⟨n, h⟩ := h
  refine hw11 _ (fun k_k34 kt_k34 H locs ls h hh hl => ?_) n 0 k kt_2 _ _ _ h hh (lv_sub hl [1, 2, 3, 0] rfl)
  refine lv_iload_n hx hb dX5_growShuffled_34 rfl (lv_at hl 2 rfl) ?_
  refine lv_iconst (v := 1) hx hb dX5_growShuffled_35 (by decide) ?_
  refine lv_iadd hx hb dX5_growShuffled_36 ?_
  refine lv_istore_n (lv' := [(3, .int (x2 + 1)), (0, .ref (ad 4 0)), (1, .int (x1)), (2, .int (x2))]) hx hb dX5_growShuffled_37 rfl hl (by decide) rfl (fun ls hl => ?_)
  refine lv_iload_n hx hb dX5_growShuffled_38 rfl (lv_at hl 2 rfl) ?_
  refine lv_iconst (v := 1) hx hb dX5_growShuffled_39 (by decide) ?_
  refine lv_isub hx hb dX5_growShuffled_40 ?_
  refine lv_istore (lv' := [(4, .int (x1 - 1)), (3, .int (x2 + 1)), (0, .ref (ad 4 0)), (1, .int (x1)), (2, .int (x2))]) hx hb dX5_growShuffled_41 hl (by decide) rfl (fun ls hl => ?_)
  have hw43 : ∀   (n : Nat) (p4_43 : Int32) (k_43 : Ob) (kt_43 : Ob) (H : Heap) (locs : List Loc) (ls : Array Slot), w_X5_growShuffled_L43 (x2 + 1)  Post n p4_43 k_43 kt_43 → Wh D A s.heap ((List.flatten [bX5 ad E k_43, bX8 (ad 5) E kt_43])) H locs → lv_has ls 5 [(0, .ref (ad 4 0)), (3, .int (x2 + 1)), (4, .int (p4_43))] → W p l e ({ frames := 3, cells := 0, slots := 0, locals := 66 } : Room) s m args below meth c H locs 0 0 Q (F0 m 43 ls []) := by
    intro   n
    induction n with
    | zero => intro p4_43 k_43 kt_43 H locs ls h hh hl; exact False.elim h
    | succ n ih =>
      intro p4_43 k_43 kt_43 H locs ls h hh hl
      refine lv_iload hx hb dX5_growShuffled_43 (lv_at hl 2 rfl) ?_
      refine lv_iconst (v := 1) hx hb dX5_growShuffled_45 (by decide) ?_
      refine lv_icmp_lt (tgt := 76) hx hb dX5_growShuffled_46 (by decide) (fun c6 => ?_) (fun c6 => ?_)
      · have h := h.1 c6
        exact hret _ _ _ _ (k_43, kt_43) dX5_growShuffled_76 h hh
      · have h := h.2 c6
        refine lv_aload_n hx hb dX5_growShuffled_49 rfl (lv_at hl 0 rfl) ?_
        refine G_X5_24 [] [_] hx hb hT hown hK hh dX5_growShuffled_50 ?_
        refine lv_iload_n hx hb dX5_growShuffled_53 rfl (lv_at hl 1 rfl) ?_
        refine lv_iload hx hb dX5_growShuffled_54 (lv_at hl 2 rfl) ?_
        refine lv_iadd hx hb dX5_growShuffled_56 ?_
        refine lv_iload_n hx hb dX5_growShuffled_57 rfl (lv_at hl 1 rfl) ?_
        refine lv_aload_n hx hb dX5_growShuffled_58 rfl (lv_at hl 0 rfl) ?_
        refine lv_iload hx hb dX5_growShuffled_59 (lv_at hl 2 rfl) ?_
        refine lv_iconst (v := 1) hx hb dX5_growShuffled_61 (by decide) ?_
        refine lv_iadd hx hb dX5_growShuffled_62 ?_
        have hc := hh.cut [_] [_] [0, 1] 2 rfl (by decide) rfl
        refine kI hc hA (rnV hx hb hml hown hT hK hc (c_X5_numberBelow l D E ad  k_43 (p4_43 + 1) h _) mf_X5_numberBelow kml_X5_78 ⟨rfl, rfl, Nat.le_of_ble_eq_true rfl, Nat.le_of_ble_eq_true rfl⟩ ⟨Nat.le_of_ble_eq_true rfl, Nat.le_of_ble_eq_true rfl⟩ 5 0 rfl rfl hl.1 rfl dX5_growShuffled_63 (Nat.le_of_ble_eq_true rfl) rfl) (fun r7 k_8 H locs h hh => ?_)
        have hh : Wh D A s.heap ((List.flatten [bX5 ad E k_8, bX8 (ad 5) E kt_43])) _ _ := Wh.back (cs := [_]) (rs := [_]) _ [0, 1] 2 rfl (by decide) rfl hh
        refine lv_iadd hx hb dX5_growShuffled_66 ?_
        have hc := hh.cut [_] [_] [1, 0] 2 rfl (by decide) rfl
        refine kV hc hA (rnVN hx hb hml hown hT hK hc (c_X8_exchange l D E (ad 5)  kt_43 ((x2 + 1) + p4_43) ((x2 + 1) + r7) h _) mf_X8_exchange nml_X5_138 ⟨rfl, rfl, Nat.le_of_ble_eq_true rfl, Nat.le_of_ble_eq_true rfl⟩ ⟨Nat.le_of_ble_eq_true rfl, Nat.le_of_ble_eq_true rfl⟩ 8 0 rfl rfl hl.1 rfl dX5_growShuffled_67 (Nat.le_of_ble_eq_true rfl) rfl) (fun kt_10 H locs h hh => ?_)
        have hh : Wh D A s.heap ((List.flatten [bX5 ad E k_8, bX8 (ad 5) E kt_10])) _ _ := Wh.back (cs := [_]) (rs := [_]) _ [1, 0] 2 rfl (by decide) rfl hh
        refine lv_iinc (v := p4_43 + (-1)) (lv' := [(4, .int (p4_43 + (-1))), (0, .ref (ad 4 0)), (3, .int ((x2 + 1)))]) hx hb dX5_growShuffled_70 hl (k := 2) rfl (by rfl) (by decide) rfl (fun ls hl => ?_)
        refine lv_goto (tgt := 43) hx hb dX5_growShuffled_73 (by decide) ?_
        exact ih (p4_43 + (-1)) k_8 kt_10 _ _ _ h hh (lv_sub hl [1, 2, 0] rfl)
  obtain ⟨n, h⟩ := h
  refine hw43   n (x1 - 1) k_k34 kt_k34 _ _ _ h hh (lv_sub hl [2, 1, 0] rfl)

def w_X5_grow (ck : Nat → Ob) (mk : Nat → Ob) (G : Int32 → Int32 → Int32 → Ob → Ob → Ob → Ob → Ob → Ob → (Int32 → Ob → Ob → Ob → Ob → Ob → Ob → Prop) → Prop) (x1 : Int32) (x2 : Int32) (x3 : Int32) (k : Ob) (kt : Ob) (kl : Ob) (j : Ob) (mc : Ob) (md : Ob) (Post : Int32 → Ob → Ob → Ob → Ob → Ob → Ob → Prop) : Prop := w_X5_at  x1 k (fun (r1 : Option Nat) (k_2 : Ob) => (k_2.2.1 1 = k.2.1 1) ∧ ((r1 = none → Post ((-5)) k_2 kt kl j mc md) ∧ (∀ i4 : Nat, r1 = some i4 → ((x3 < 30) → i4 < (k_2.2.1 1).toNatClampNeg ∧ (w_X8_add  ((mk i4).2.1 0) (0 : Int32) x2 kt (fun (r7 : Int32) (kt_8 : Ob) => ((0 ≤ r7) → i4 < (k_2.2.1 1).toNatClampNeg ∧ (jn (fun J356 : Int32 → Ob → Ob → Ob → Ob → Ob → Ob → Prop => ((((mk i4).2.1 0) = 0) → i4 < (k_2.2.1 1).toNatClampNeg ∧ (i4 < (k_2.2.1 1).toNatClampNeg ∧ (i4 < (k_2.2.1 1).toNatClampNeg ∧ (w_X5_numberBelow  ((((mk i4).2.1 2) - ((mk i4).2.1 1)) + 1) k_2 (fun (r14 : Int32) (k_15 : Ob) => (k_15.2.1 1 = k_2.2.1 1) ∧ (w_X8_setValue  r7 (((mk i4).2.1 1) + r14) kt_8 (fun (kt_18 : Ob) => i4 < (k_15.2.1 1).toNatClampNeg ∧ (i4 < (k_15.2.1 1).toNatClampNeg ∧ (w_J9_min_7cf53  (0 : Int32) ((mk i4).2.1 2)  (fun (r21 : Int32) => w_J9_max_7cf53  ((mk i4).2.1 1) r21  (fun (r22 : Int32) => w_X8_setGoal  r7 r22 kt_18 (fun (kt_24 : Ob) => J356 1 k_15 kt_24 kl j mc md)))))))))))) ∧ ((((mk i4).2.1 0) = 1) → w_X5_growList ck mk G i4 r7 x3 k_2 kt_8 kl j mc md (fun (r26 : Int32) (k_27 : Ob) (kt_28 : Ob) (kl_29 : Ob) (j_30 : Ob) (mc_31 : Ob) (md_32 : Ob) => J356 r26 k_27 kt_28 kl_29 j_30 mc_31 md_32)) ∧ ((((mk i4).2.1 0) = 2) → w_X8_setValue  r7 (2 : Int32) kt_8 (fun (kt_35 : Ob) => i4 < (k_2.2.1 1).toNatClampNeg ∧ (G ((mk i4).2.1 1) r7 (x3 + 1) k_2 kt_35 kl j mc md (fun (r37 : Int32) (k_38 : Ob) (kt_39 : Ob) (kl_40 : Ob) (j_41 : Ob) (mc_42 : Ob) (md_43 : Ob) => ((¬ r37 = 1) → J356 r37 k_38 kt_39 kl_40 j_41 mc_42 md_43) ∧ ((r37 = 1) → i4 < (k_38.2.1 1).toNatClampNeg ∧ (G ((mk i4).2.1 2) r7 (x3 + 1) k_38 kt_39 kl_40 j_41 mc_42 md_43 (fun (r46 : Int32) (k_47 : Ob) (kt_48 : Ob) (kl_49 : Ob) (j_50 : Ob) (mc_51 : Ob) (md_52 : Ob) => J356 r46 k_47 kt_48 kl_49 j_50 mc_51 md_52))))))) ∧ ((((mk i4).2.1 0) = 3) → i4 < (k_2.2.1 1).toNatClampNeg ∧ (i4 < (k_2.2.1 1).toNatClampNeg ∧ (w_X5_numberBelow  (((mk i4).2.1 3) + ((mk i4).2.1 4)) k_2 (fun (r56 : Int32) (k_57 : Ob) => (k_57.2.1 1 = k_2.2.1 1) ∧ (i4 < (k_57.2.1 1).toNatClampNeg ∧ (jn (fun J250 : Int32 → Ob → Ob → Ob → Ob → Ob → Ob → Prop => ((((mk i4).2.1 3) ≤ r56) → J250 0 k_57 kt_8 kl j mc md) ∧ (¬ (((mk i4).2.1 3) ≤ r56) → J250 1 k_57 kt_8 kl j mc md)) (fun (z_250 : Int32) (k_250 : Ob) (kt_250 : Ob) (kl_250 : Ob) (j_250 : Ob) (mc_250 : Ob) (md_250 : Ob) => jn (fun J271 : Int32 → Ob → Ob → Ob → Ob → Ob → Ob → Prop => ((z_250 = 0) → i4 < (k_250.2.1 1).toNatClampNeg ∧ (J271 ((mk i4).2.1 2) k_250 kt_250 kl_250 j_250 mc_250 md_250)) ∧ (¬ (z_250 = 0) → i4 < (k_250.2.1 1).toNatClampNeg ∧ (J271 ((mk i4).2.1 1) k_250 kt_250 kl_250 j_250 mc_250 md_250))) (fun (z_271 : Int32) (k_271 : Ob) (kt_271 : Ob) (kl_271 : Ob) (j_271 : Ob) (mc_271 : Ob) (md_271 : Ob) => G z_271 r7 (x3 + 1) k_271 kt_271 kl_271 j_271 mc_271 md_271 (fun (r64 : Int32) (k_65 : Ob) (kt_66 : Ob) (kl_67 : Ob) (j_68 : Ob) (mc_69 : Ob) (md_70 : Ob) => J356 r64 k_65 kt_66 kl_67 j_68 mc_69 md_70))))))))) ∧ ((((mk i4).2.1 0) = 4) → i4 < (k_2.2.1 1).toNatClampNeg ∧ (w_X8_setValue  r7 ((mk i4).2.1 2) kt_8 (fun (kt_74 : Ob) => i4 < (k_2.2.1 1).toNatClampNeg ∧ (G ((mk i4).2.1 1) r7 (x3 + 1) k_2 kt_74 kl j mc md (fun (r76 : Int32) (k_77 : Ob) (kt_78 : Ob) (kl_79 : Ob) (j_80 : Ob) (mc_81 : Ob) (md_82 : Ob) => J356 r76 k_77 kt_78 kl_79 j_80 mc_81 md_82))))) ∧ ((((mk i4).2.1 0) = 5) → w_X5_growPicked ck mk G i4 r7 x3 k_2 kt_8 kl j mc md (fun (r84 : Int32) (k_85 : Ob) (kt_86 : Ob) (kl_87 : Ob) (j_88 : Ob) (mc_89 : Ob) (md_90 : Ob) => J356 r84 k_85 kt_86 kl_87 j_88 mc_89 md_90)) ∧ ((((mk i4).2.1 0) = 6) → i4 < (k_2.2.1 1).toNatClampNeg ∧ (w_X5_growShuffled  ((mk i4).2.1 1) r7 k_2 kt_8 (fun (k_94 : Ob) (kt_95 : Ob) => (k_94.2.1 1 = k_2.2.1 1) ∧ (J356 1 k_94 kt_95 kl j mc md)))) ∧ ((¬ ((mk i4).2.1 0) = 0 ∧ ¬ ((mk i4).2.1 0) = 1 ∧ ¬ ((mk i4).2.1 0) = 2 ∧ ¬ ((mk i4).2.1 0) = 3 ∧ ¬ ((mk i4).2.1 0) = 4 ∧ ¬ ((mk i4).2.1 0) = 5 ∧ ¬ ((mk i4).2.1 0) = 6) → w_X5_growBelow ck mk G i4 r7 x3 k_2 kt_8 kl j mc md (fun (r98 : Int32) (k_99 : Ob) (kt_100 : Ob) (kl_101 : Ob) (j_102 : Ob) (mc_103 : Ob) (md_104 : Ob) => J356 r98 k_99 kt_100 kl_101 j_102 mc_103 md_104))) (fun (y6_356 : Int32) (k_356 : Ob) (kt_356 : Ob) (kl_356 : Ob) (j_356 : Ob) (mc_356 : Ob) (md_356 : Ob) => w_X8_close  r7 kt_356 (fun (kt_106 : Ob) => Post y6_356 k_356 kt_106 kl_356 j_356 mc_356 md_356)))) ∧ (¬ (0 ≤ r7) → Post ((-5)) k_2 kt_8 kl j mc md)))) ∧ (¬ (x3 < 30) → Post ((-5)) k_2 kt kl j mc md))))
set_option maxRecDepth 100000 in
set_option maxHeartbeats 4000000 in
theorem c_X5_grow (l : Launch) (D : va_G) (E : Nat → ClassId) (ad : Nat → Nat → Nat) (ck : Nat → Ob) (mk : Nat → Ob) {dd : Nat} (G : Int32 → Int32 → Int32 → Ob → Ob → Ob → Ob → Ob → Ob → (Int32 → Ob → Ob → Ob → Ob → Ob → Ob → Prop) → Prop)  (hG : ∀ (x1 x2 x3 : Int32) (k kt kl j mc md : Ob) (Post : Int32 → Ob → Ob → Ob → Ob → Ob → Ob → Prop), G x1 x2 x3 k kt kl j mc md Post → CtI l yX5_grow cX5_grow 8 .int (rmG dd) D E [.ref (ad 4 0), .int (x1), .int (x2), .int (x3)] (List.flatten [bX5 ad E k, bX8 (ad 5) E kt, bX2 (ad 6) E kl, bX1 ad E j, bX3 (ad 2) E mc, bX3 (ad 3) E md, dC ad E ck (j.2.1 1).toNatClampNeg, dK ad E mk (k.2.1 1).toNatClampNeg]) (fun u : Ob × Ob × Ob × Ob × Ob × Ob => List.flatten [bX5 ad E u.1, bX8 (ad 5) E u.2.1, bX2 (ad 6) E u.2.2.1, bX1 ad E u.2.2.2.1, bX3 (ad 2) E u.2.2.2.2.1, bX3 (ad 3) E u.2.2.2.2.2, dC ad E ck (u.2.2.2.1.2.1 1).toNatClampNeg, dK ad E mk (u.1.2.1 1).toNatClampNeg]) (fun (r : Int32) (u : Ob × Ob × Ob × Ob × Ob × Ob) => Post r u.1 u.2.1 u.2.2.1 u.2.2.2.1 u.2.2.2.2.1 u.2.2.2.2.2) 0 0) (k : Ob) (kt : Ob) (kl : Ob) (j : Ob) (mc : Ob) (md : Ob) (x1 : Int32) (x2 : Int32) (x3 : Int32) {Post : Int32 → Ob → Ob → Ob → Ob → Ob → Ob → Prop} (h : w_X5_grow ck mk G x1 x2 x3 k kt kl j mc md Post) : CtI l yX5_grow cX5_grow 8 .int (rmG (dd + 1)) D E [.ref (ad 4 0), .int (x1), .int (x2), .int (x3)] (List.flatten [bX5 ad E k, bX8 (ad 5) E kt, bX2 (ad 6) E kl, bX1 ad E j, bX3 (ad 2) E mc, bX3 (ad 3) E md, dC ad E ck (j.2.1 1).toNatClampNeg, dK ad E mk (k.2.1 1).toNatClampNeg]) (fun u : Ob × Ob × Ob × Ob × Ob × Ob => List.flatten [bX5 ad E u.1, bX8 (ad 5) E u.2.1, bX2 (ad 6) E u.2.2.1, bX1 ad E u.2.2.2.1, bX3 (ad 2) E u.2.2.2.2.1, bX3 (ad 3) E u.2.2.2.2.2, dC ad E ck (u.2.2.2.1.2.1 1).toNatClampNeg, dK ad E mk (u.1.2.1 1).toNatClampNeg]) (fun (r : Int32) (u : Ob × Ob × Ob × Ob × Ob × Ob) => Post r u.1 u.2.1 u.2.2.1 u.2.2.2.1 u.2.2.2.2.1 u.2.2.2.2.2) 0 0 := by
  refine enI (by decide +kernel) (Nat.le_of_ble_eq_true rfl) ?_
  intro p e s m args below meth c Q A ls hx hb hml hown hT hK hA hret hh hl
  have hl : lv_has ls 8 [(0, .ref (ad 4 0)), (1, .int (x1)), (2, .int (x2)), (3, .int (x3))] := hl
  unfold w_X5_grow at h
  refine lv_aload_n hx hb dX5_grow_0 rfl (lv_at hl 0 rfl) ?_
  refine lv_iload_n hx hb dX5_grow_1 rfl (lv_at hl 1 rfl) ?_
  have hc := hh.cut [_] [_, _, _, _, _, _, _] [0, 1, 2, 3, 4, 5, 6, 7] 8 rfl (by decide) rfl
  refine kE hc hA (rnV hx hb hml hown hT hK hc (c_X5_at l D E ad  k x1 h _) mf_X5_at kml_X5_61 ⟨rfl, rfl, rmG1_fr (Nat.le_of_ble_eq_true rfl), rmG1_lo (Nat.le_of_ble_eq_true rfl)⟩ ⟨Nat.le_refl 0, Nat.le_refl 0⟩ 5 0 rfl rfl hl.1 rfl dX5_grow_2 (Nat.le_of_ble_eq_true rfl) rfl) (fun r1 k_2 H locs h hh => ?_)
  obtain ⟨g3, h⟩ := h
  rw [← g3] at hh
  have hh : Wh D A s.heap ((List.flatten [bX5 ad E k_2, bX8 (ad 5) E kt, bX2 (ad 6) E kl, bX1 ad E j, bX3 (ad 2) E mc, bX3 (ad 3) E md, dC ad E ck (j.2.1 1).toNatClampNeg, dK ad E mk (k_2.2.1 1).toNatClampNeg])) _ _ := Wh.back (cs := [_]) (rs := [_, _, _, _, _, _, _]) _ [0, 1, 2, 3, 4, 5, 6, 7] 8 rfl (by decide) rfl hh
  cases r1 with
  | none =>
    have h := h.1 rfl
    refine lv_astoreN (lv' := [(4, .null), (0, .ref (ad 4 0)), (1, .int (x1)), (2, .int (x2)), (3, .int (x3))]) hx hb dX5_grow_5 hl (by decide) rfl (fun ls hl => ?_)
    refine lv_aloadN hx hb dX5_grow_7 (lv_at hl 0 rfl) ?_
    refine lv_ifnullN (tgt := 18) hx hb dX5_grow_9 (by decide) ?_
    refine lv_bipush (v := (-5)) hx hb dX5_grow_18 (by decide) ?_
    exact hret _ _ _ _ _ (k_2, kt, kl, j, mc, md) dX5_grow_20 rfl h hh
  | some i4 =>
    have h := h.2 i4 rfl
    refine lv_astore (lv' := [(4, .ref (ad 21 i4)), (0, .ref (ad 4 0)), (1, .int (x1)), (2, .int (x2)), (3, .int (x3))]) hx hb dX5_grow_5 hl (by decide) rfl (fun ls hl => ?_)
    refine lv_aload hx hb dX5_grow_7 (lv_at hl 0 rfl) ?_
    refine lv_ifnull hx hb dX5_grow_9 ?_
    refine lv_iload_n hx hb dX5_grow_12 rfl (lv_at hl 4 rfl) ?_
    refine lv_bipush (v := 30) hx hb dX5_grow_13 (by decide) ?_
    refine lv_icmp_lt (tgt := 21) hx hb dX5_grow_15 (by decide) (fun c5 => ?_) (fun c5 => ?_)
    · have h := h.1 c5
      refine lv_aload_n hx hb dX5_grow_21 rfl (lv_at hl 1 rfl) ?_
      refine G_X5_24 [] [_, _, _, _, _, _, _] hx hb hT hown hK hh dX5_grow_22 ?_
      refine lv_aload hx hb dX5_grow_25 (lv_at hl 0 rfl) ?_
      obtain ⟨g6, h⟩ := h
      refine DG_X5_65 [_, _, _, _, _, _, _] [] hx hb hT hown hK hh g6 (v := (mk i4).2.1 0) rfl dX5_grow_27 ?_
      refine lv_iconst (v := 0) hx hb dX5_grow_30 (by decide) ?_
      refine lv_iload_n hx hb dX5_grow_31 rfl (lv_at hl 3 rfl) ?_
      have hc := hh.cut [_] [_, _, _, _, _, _, _] [1, 0, 2, 3, 4, 5, 6, 7] 8 rfl (by decide) rfl
      refine kI hc hA (rnVN hx hb hml hown hT hK hc (c_X8_add l D E (ad 5)  kt ((mk i4).2.1 0) (0 : Int32) x2 h _) mf_X8_add nml_X5_68 ⟨rfl, rfl, rmG1_fr (Nat.le_of_ble_eq_true rfl), rmG1_lo (Nat.le_of_ble_eq_true rfl)⟩ ⟨Nat.le_refl 0, Nat.le_refl 0⟩ 8 0 rfl rfl hl.1 rfl dX5_grow_32 (Nat.le_of_ble_eq_true rfl) rfl) (fun r7 kt_8 H locs h hh => ?_)
      have hh : Wh D A s.heap ((List.flatten [bX5 ad E k_2, bX8 (ad 5) E kt_8, bX2 (ad 6) E kl, bX1 ad E j, bX3 (ad 2) E mc, bX3 (ad 3) E md, dC ad E ck (j.2.1 1).toNatClampNeg, dK ad E mk (k_2.2.1 1).toNatClampNeg])) _ _ := Wh.back (cs := [_]) (rs := [_, _, _, _, _, _, _]) _ [1, 0, 2, 3, 4, 5, 6, 7] 8 rfl (by decide) rfl hh
      refine lv_istore (lv' := [(5, .int (r7)), (4, .ref (ad 21 i4)), (0, .ref (ad 4 0)), (1, .int (x1)), (2, .int (x2)), (3, .int (x3))]) hx hb dX5_grow_35 hl (by decide) rfl (fun ls hl => ?_)
      refine lv_iload hx hb dX5_grow_37 (lv_at hl 0 rfl) ?_
      refine lv_if_ge (tgt := 45) hx hb dX5_grow_39 (by decide) (fun c9 => ?_) (fun c9 => ?_)
      · have h := h.1 c9
        refine lv_iconst (v := 1) hx hb dX5_grow_45 (by decide) ?_
        refine lv_istore (lv' := [(6, .int (1)), (5, .int (r7)), (4, .ref (ad 21 i4)), (0, .ref (ad 4 0)), (1, .int (x1)), (2, .int (x2)), (3, .int (x3))]) hx hb dX5_grow_46 hl (by decide) rfl (fun ls hl => ?_)
        refine lv_aload hx hb dX5_grow_48 (lv_at hl 2 rfl) ?_
        obtain ⟨g10, h⟩ := h
        refine DG_X5_65 [_, _, _, _, _, _, _] [] hx hb hT hown hK hh g10 (v := (mk i4).2.1 0) rfl dX5_grow_50 ?_
        refine jn_elim h (fun J356 hJ356 h => ?_)
        have kJ356 : ∀ (y6_356 : Int32) (k_356 : Ob) (kt_356 : Ob) (kl_356 : Ob) (j_356 : Ob) (mc_356 : Ob) (md_356 : Ob) (H : Heap) (locs : List Loc) (ls : Array Slot), J356 y6_356 k_356 kt_356 kl_356 j_356 mc_356 md_356 → Wh D A s.heap ((List.flatten [bX5 ad E k_356, bX8 (ad 5) E kt_356, bX2 (ad 6) E kl_356, bX1 ad E j_356, bX3 (ad 2) E mc_356, bX3 (ad 3) E md_356, dC ad E ck (j_356.2.1 1).toNatClampNeg, dK ad E mk (k_356.2.1 1).toNatClampNeg])) H locs → lv_has ls 8 [(0, .ref (ad 4 0)), (5, .int (r7)), (6, .int (y6_356))] → W p l e (rmG (dd + 1)) s m args below meth c H locs 0 0 Q (F0 m 356 ls []) := by
          intro y6_356 k_356 kt_356 kl_356 j_356 mc_356 md_356 H locs ls h hh hl
          rw [hJ356] at h
          refine lv_aload_n hx hb dX5_grow_356 rfl (lv_at hl 0 rfl) ?_
          refine G_X5_24 [] [_, _, _, _, _, _, _] hx hb hT hown hK hh dX5_grow_357 ?_
          refine lv_iload hx hb dX5_grow_360 (lv_at hl 1 rfl) ?_
          have hc := hh.cut [_] [_, _, _, _, _, _, _] [1, 0, 2, 3, 4, 5, 6, 7] 8 rfl (by decide) rfl
          refine kV hc hA (rnVN hx hb hml hown hT hK hc (c_X8_close l D E (ad 5)  kt_356 r7 h _) mf_X8_close nml_X5_120 ⟨rfl, rfl, rmG1_fr (Nat.le_of_ble_eq_true rfl), rmG1_lo (Nat.le_of_ble_eq_true rfl)⟩ ⟨Nat.le_refl 0, Nat.le_refl 0⟩ 8 0 rfl rfl hl.1 rfl dX5_grow_362 (Nat.le_of_ble_eq_true rfl) rfl) (fun kt_106 H locs h hh => ?_)
          have hh : Wh D A s.heap ((List.flatten [bX5 ad E k_356, bX8 (ad 5) E kt_106, bX2 (ad 6) E kl_356, bX1 ad E j_356, bX3 (ad 2) E mc_356, bX3 (ad 3) E md_356, dC ad E ck (j_356.2.1 1).toNatClampNeg, dK ad E mk (k_356.2.1 1).toNatClampNeg])) _ _ := Wh.back (cs := [_]) (rs := [_, _, _, _, _, _, _]) _ [1, 0, 2, 3, 4, 5, 6, 7] 8 rfl (by decide) rfl hh
          refine lv_iload hx hb dX5_grow_365 (lv_at hl 2 rfl) ?_
          exact hret _ _ _ _ _ (k_356, kt_106, kl_356, j_356, mc_356, md_356) dX5_grow_367 rfl h hh
        by_cases c25 : ((mk i4).2.1 0) = 0
        · have h := h.1 c25
          refine lv_tableIn (off := 43) (tgt := 96) hx hb dX5_grow_53 (by rw [c25]; decide) (by rw [c25]; decide) (by rw [c25]; rfl) (by decide) ?_
          refine lv_aload_n hx hb dX5_grow_96 rfl (lv_at hl 3 rfl) ?_
          refine G_X5_24 [] [_, _, _, _, _, _, _] hx hb hT hown hK hh dX5_grow_97 ?_
          refine lv_iload hx hb dX5_grow_100 (lv_at hl 1 rfl) ?_
          refine lv_aload hx hb dX5_grow_102 (lv_at hl 2 rfl) ?_
          obtain ⟨g11, h⟩ := h
          refine DG_X5_72 [_, _, _, _, _, _, _] [] hx hb hT hown hK hh g11 (v := (mk i4).2.1 1) rfl dX5_grow_104 ?_
          refine lv_aload_n hx hb dX5_grow_107 rfl (lv_at hl 3 rfl) ?_
          refine lv_aload hx hb dX5_grow_108 (lv_at hl 2 rfl) ?_
          obtain ⟨g12, h⟩ := h
          refine DG_X5_75 [_, _, _, _, _, _, _] [] hx hb hT hown hK hh g12 (v := (mk i4).2.1 2) rfl dX5_grow_110 ?_
          refine lv_aload hx hb dX5_grow_113 (lv_at hl 2 rfl) ?_
          obtain ⟨g13, h⟩ := h
          refine DG_X5_72 [_, _, _, _, _, _, _] [] hx hb hT hown hK hh g13 (v := (mk i4).2.1 1) rfl dX5_grow_115 ?_
          refine lv_isub hx hb dX5_grow_118 ?_
          refine lv_iconst (v := 1) hx hb dX5_grow_119 (by decide) ?_
          refine lv_iadd hx hb dX5_grow_120 ?_
          have hc := hh.cut [_] [_, _, _, _, _, _, _] [0, 1, 2, 3, 4, 5, 6, 7] 8 rfl (by decide) rfl
          refine kI hc hA (rnV hx hb hml hown hT hK hc (c_X5_numberBelow l D E ad  k_2 ((((mk i4).2.1 2) - ((mk i4).2.1 1)) + 1) h _) mf_X5_numberBelow kml_X5_78 ⟨rfl, rfl, rmG1_fr (Nat.le_of_ble_eq_true rfl), rmG1_lo (Nat.le_of_ble_eq_true rfl)⟩ ⟨Nat.le_refl 0, Nat.le_refl 0⟩ 5 0 rfl rfl hl.1 rfl dX5_grow_121 (Nat.le_of_ble_eq_true rfl) rfl) (fun r14 k_15 H locs h hh => ?_)
          obtain ⟨g16, h⟩ := h
          rw [← g16] at hh
          have hh : Wh D A s.heap ((List.flatten [bX5 ad E k_15, bX8 (ad 5) E kt_8, bX2 (ad 6) E kl, bX1 ad E j, bX3 (ad 2) E mc, bX3 (ad 3) E md, dC ad E ck (j.2.1 1).toNatClampNeg, dK ad E mk (k_15.2.1 1).toNatClampNeg])) _ _ := Wh.back (cs := [_]) (rs := [_, _, _, _, _, _, _]) _ [0, 1, 2, 3, 4, 5, 6, 7] 8 rfl (by decide) rfl hh
          refine lv_iadd hx hb dX5_grow_124 ?_
          have hc := hh.cut [_] [_, _, _, _, _, _, _] [1, 0, 2, 3, 4, 5, 6, 7] 8 rfl (by decide) rfl
          refine kV hc hA (rnVN hx hb hml hown hT hK hc (c_X8_setValue l D E (ad 5)  kt_8 r7 (((mk i4).2.1 1) + r14) h _) mf_X8_setValue nml_X5_82 ⟨rfl, rfl, rmG1_fr (Nat.le_of_ble_eq_true rfl), rmG1_lo (Nat.le_of_ble_eq_true rfl)⟩ ⟨Nat.le_refl 0, Nat.le_refl 0⟩ 8 0 rfl rfl hl.1 rfl dX5_grow_125 (Nat.le_of_ble_eq_true rfl) rfl) (fun kt_18 H locs h hh => ?_)
          have hh : Wh D A s.heap ((List.flatten [bX5 ad E k_15, bX8 (ad 5) E kt_18, bX2 (ad 6) E kl, bX1 ad E j, bX3 (ad 2) E mc, bX3 (ad 3) E md, dC ad E ck (j.2.1 1).toNatClampNeg, dK ad E mk (k_15.2.1 1).toNatClampNeg])) _ _ := Wh.back (cs := [_]) (rs := [_, _, _, _, _, _, _]) _ [1, 0, 2, 3, 4, 5, 6, 7] 8 rfl (by decide) rfl hh
          refine lv_aload_n hx hb dX5_grow_128 rfl (lv_at hl 3 rfl) ?_
          refine G_X5_24 [] [_, _, _, _, _, _, _] hx hb hT hown hK hh dX5_grow_129 ?_
          refine lv_iload hx hb dX5_grow_132 (lv_at hl 1 rfl) ?_
          refine lv_aload hx hb dX5_grow_134 (lv_at hl 2 rfl) ?_
          obtain ⟨g19, h⟩ := h
          refine DG_X5_72 [_, _, _, _, _, _, _] [] hx hb hT hown hK hh g19 (v := (mk i4).2.1 1) rfl dX5_grow_136 ?_
          refine lv_iconst (v := 0) hx hb dX5_grow_139 (by decide) ?_
          refine lv_aload hx hb dX5_grow_140 (lv_at hl 2 rfl) ?_
          obtain ⟨g20, h⟩ := h
          refine DG_X5_75 [_, _, _, _, _, _, _] [] hx hb hT hown hK hh g20 (v := (mk i4).2.1 2) rfl dX5_grow_142 ?_
          refine kI hh.none hA (rnS hx hb hml hown hT hK hh.none (c_J9_min_7cf53 l D E    (0 : Int32) ((mk i4).2.1 2) h _) mf_J9_min_7cf53 kml_X5_86 ⟨rfl, rfl, rmG1_fr (Nat.le_of_ble_eq_true rfl), rmG1_lo (Nat.le_of_ble_eq_true rfl)⟩ ⟨Nat.le_refl 0, Nat.le_refl 0⟩ hl.1 rfl dX5_grow_145 (Nat.le_of_ble_eq_true rfl) rfl) (fun r21 u H locs h hh => ?_)
          have hh : Wh D A s.heap ((List.flatten [bX5 ad E k_15, bX8 (ad 5) E kt_18, bX2 (ad 6) E kl, bX1 ad E j, bX3 (ad 2) E mc, bX3 (ad 3) E md, dC ad E ck (j.2.1 1).toNatClampNeg, dK ad E mk (k_15.2.1 1).toNatClampNeg])) _ _ := hh.unone
          refine kI hh.none hA (rnS hx hb hml hown hT hK hh.none (c_J9_max_7cf53 l D E    ((mk i4).2.1 1) r21 h _) mf_J9_max_7cf53 kml_X5_92 ⟨rfl, rfl, rmG1_fr (Nat.le_of_ble_eq_true rfl), rmG1_lo (Nat.le_of_ble_eq_true rfl)⟩ ⟨Nat.le_refl 0, Nat.le_refl 0⟩ hl.1 rfl dX5_grow_148 (Nat.le_of_ble_eq_true rfl) rfl) (fun r22 u H locs h hh => ?_)
          have hh : Wh D A s.heap ((List.flatten [bX5 ad E k_15, bX8 (ad 5) E kt_18, bX2 (ad 6) E kl, bX1 ad E j, bX3 (ad 2) E mc, bX3 (ad 3) E md, dC ad E ck (j.2.1 1).toNatClampNeg, dK ad E mk (k_15.2.1 1).toNatClampNeg])) _ _ := hh.unone
          have hc := hh.cut [_] [_, _, _, _, _, _, _] [1, 0, 2, 3, 4, 5, 6, 7] 8 rfl (by decide) rfl
          refine kV hc hA (rnVN hx hb hml hown hT hK hc (c_X8_setGoal l D E (ad 5)  kt_18 r7 r22 h _) mf_X8_setGoal nml_X5_95 ⟨rfl, rfl, rmG1_fr (Nat.le_of_ble_eq_true rfl), rmG1_lo (Nat.le_of_ble_eq_true rfl)⟩ ⟨Nat.le_refl 0, Nat.le_refl 0⟩ 8 0 rfl rfl hl.1 rfl dX5_grow_151 (Nat.le_of_ble_eq_true rfl) rfl) (fun kt_24 H locs h hh => ?_)
          have hh : Wh D A s.heap ((List.flatten [bX5 ad E k_15, bX8 (ad 5) E kt_24, bX2 (ad 6) E kl, bX1 ad E j, bX3 (ad 2) E mc, bX3 (ad 3) E md, dC ad E ck (j.2.1 1).toNatClampNeg, dK ad E mk (k_15.2.1 1).toNatClampNeg])) _ _ := Wh.back (cs := [_]) (rs := [_, _, _, _, _, _, _]) _ [1, 0, 2, 3, 4, 5, 6, 7] 8 rfl (by decide) rfl hh
          refine lv_goto (tgt := 356) hx hb dX5_grow_154 (by decide) ?_
          exact kJ356 1 k_15 kt_24 kl j mc md _ _ _ h hh (lv_sub hl [3, 1, 0] rfl)
        · by_cases c33 : ((mk i4).2.1 0) = 1
          · have h := h.2.1 c33
            refine lv_tableIn (off := 104) (tgt := 157) hx hb dX5_grow_53 (by rw [c33]; decide) (by rw [c33]; decide) (by rw [c33]; rfl) (by decide) ?_
            refine lv_aload_n hx hb dX5_grow_157 rfl (lv_at hl 3 rfl) ?_
            refine lv_aload hx hb dX5_grow_158 (lv_at hl 2 rfl) ?_
            refine lv_iload hx hb dX5_grow_160 (lv_at hl 1 rfl) ?_
            refine lv_iload_n hx hb dX5_grow_162 rfl (lv_at hl 6 rfl) ?_
            refine kI hh.ap0 hA (rnV hx hb hml hown hT hK hh.ap0 (c_X5_growList l D E ad ck mk G hG k_2 kt_8 kl j mc md i4 r7 x3 h _) mf_X5_growList kml_X5_98 ⟨rfl, rfl, rmG1_frH, rmG1_loH (Nat.le_of_ble_eq_true rfl)⟩ ⟨Nat.le_refl 0, Nat.le_refl 0⟩ 5 0 rfl rfl hl.1 rfl dX5_grow_163 (Nat.le_of_ble_eq_true rfl) rfl) (fun r26 u H locs h hh => ?_)
            obtain ⟨k_27, kt_28, kl_29, j_30, mc_31, md_32⟩ := u
            have hh : Wh D A s.heap ((List.flatten [bX5 ad E k_27, bX8 (ad 5) E kt_28, bX2 (ad 6) E kl_29, bX1 ad E j_30, bX3 (ad 2) E mc_31, bX3 (ad 3) E md_32, dC ad E ck (j_30.2.1 1).toNatClampNeg, dK ad E mk (k_27.2.1 1).toNatClampNeg])) _ _ := hh.un0
            refine lv_istore (lv' := [(6, .int (r26)), (5, .int (r7)), (4, .ref (ad 21 i4)), (0, .ref (ad 4 0)), (1, .int (x1)), (2, .int (x2)), (3, .int (x3))]) hx hb dX5_grow_166 hl (by decide) rfl (fun ls hl => ?_)
            refine lv_goto (tgt := 356) hx hb dX5_grow_168 (by decide) ?_
            exact kJ356 r26 k_27 kt_28 kl_29 j_30 mc_31 md_32 _ _ _ h hh (lv_sub hl [3, 1, 0] rfl)
          · by_cases c53 : ((mk i4).2.1 0) = 2
            · have h := h.2.2.1 c53
              refine lv_tableIn (off := 118) (tgt := 171) hx hb dX5_grow_53 (by rw [c53]; decide) (by rw [c53]; decide) (by rw [c53]; rfl) (by decide) ?_
              refine lv_aload_n hx hb dX5_grow_171 rfl (lv_at hl 3 rfl) ?_
              refine G_X5_24 [] [_, _, _, _, _, _, _] hx hb hT hown hK hh dX5_grow_172 ?_
              refine lv_iload hx hb dX5_grow_175 (lv_at hl 1 rfl) ?_
              refine lv_iconst (v := 2) hx hb dX5_grow_177 (by decide) ?_
              have hc := hh.cut [_] [_, _, _, _, _, _, _] [1, 0, 2, 3, 4, 5, 6, 7] 8 rfl (by decide) rfl
              refine kV hc hA (rnVN hx hb hml hown hT hK hc (c_X8_setValue l D E (ad 5)  kt_8 r7 (2 : Int32) h _) mf_X8_setValue nml_X5_82 ⟨rfl, rfl, rmG1_fr (Nat.le_of_ble_eq_true rfl), rmG1_lo (Nat.le_of_ble_eq_true rfl)⟩ ⟨Nat.le_refl 0, Nat.le_refl 0⟩ 8 0 rfl rfl hl.1 rfl dX5_grow_178 (Nat.le_of_ble_eq_true rfl) rfl) (fun kt_35 H locs h hh => ?_)
              have hh : Wh D A s.heap ((List.flatten [bX5 ad E k_2, bX8 (ad 5) E kt_35, bX2 (ad 6) E kl, bX1 ad E j, bX3 (ad 2) E mc, bX3 (ad 3) E md, dC ad E ck (j.2.1 1).toNatClampNeg, dK ad E mk (k_2.2.1 1).toNatClampNeg])) _ _ := Wh.back (cs := [_]) (rs := [_, _, _, _, _, _, _]) _ [1, 0, 2, 3, 4, 5, 6, 7] 8 rfl (by decide) rfl hh
              refine lv_aload_n hx hb dX5_grow_181 rfl (lv_at hl 3 rfl) ?_
              refine lv_aload hx hb dX5_grow_182 (lv_at hl 2 rfl) ?_
              obtain ⟨g36, h⟩ := h
              refine DG_X5_72 [_, _, _, _, _, _, _] [] hx hb hT hown hK hh g36 (v := (mk i4).2.1 1) rfl dX5_grow_184 ?_
              refine lv_iload hx hb dX5_grow_187 (lv_at hl 1 rfl) ?_
              refine lv_iload_n hx hb dX5_grow_189 rfl (lv_at hl 6 rfl) ?_
              refine lv_iconst (v := 1) hx hb dX5_grow_190 (by decide) ?_
              refine lv_iadd hx hb dX5_grow_191 ?_
              refine kI hh.ap0 hA (rnV hx hb hml hown hT hK hh.ap0 (hG ((mk i4).2.1 1) r7 (x3 + 1) k_2 kt_35 kl j mc md _ h _) mf_X5_grow kml_X5_102 ⟨rfl, rfl, rmG1_frG, rmG1_loG (Nat.le_of_ble_eq_true rfl)⟩ ⟨Nat.le_refl 0, Nat.le_refl 0⟩ 5 0 rfl rfl hl.1 rfl dX5_grow_192 (Nat.le_of_ble_eq_true rfl) rfl) (fun r37 u H locs h hh => ?_)
              obtain ⟨k_38, kt_39, kl_40, j_41, mc_42, md_43⟩ := u
              have hh : Wh D A s.heap ((List.flatten [bX5 ad E k_38, bX8 (ad 5) E kt_39, bX2 (ad 6) E kl_40, bX1 ad E j_41, bX3 (ad 2) E mc_42, bX3 (ad 3) E md_43, dC ad E ck (j_41.2.1 1).toNatClampNeg, dK ad E mk (k_38.2.1 1).toNatClampNeg])) _ _ := hh.un0
              refine lv_istore (lv' := [(6, .int (r37)), (5, .int (r7)), (4, .ref (ad 21 i4)), (0, .ref (ad 4 0)), (1, .int (x1)), (2, .int (x2)), (3, .int (x3))]) hx hb dX5_grow_195 hl (by decide) rfl (fun ls hl => ?_)
              refine lv_iload hx hb dX5_grow_197 (lv_at hl 0 rfl) ?_
              refine lv_iconst (v := 1) hx hb dX5_grow_199 (by decide) ?_
              refine lv_icmp_ne (tgt := 356) hx hb dX5_grow_200 (by decide) (fun c44 => ?_) (fun c44 => ?_)
              · have h := h.1 c44
                exact kJ356 r37 k_38 kt_39 kl_40 j_41 mc_42 md_43 _ _ _ h hh (lv_sub hl [3, 1, 0] rfl)
              · have h := h.2 c44
                refine lv_aload_n hx hb dX5_grow_203 rfl (lv_at hl 3 rfl) ?_
                refine lv_aload hx hb dX5_grow_204 (lv_at hl 2 rfl) ?_
                obtain ⟨g45, h⟩ := h
                refine DG_X5_75 [_, _, _, _, _, _, _] [] hx hb hT hown hK hh g45 (v := (mk i4).2.1 2) rfl dX5_grow_206 ?_
                refine lv_iload hx hb dX5_grow_209 (lv_at hl 1 rfl) ?_
                refine lv_iload_n hx hb dX5_grow_211 rfl (lv_at hl 6 rfl) ?_
                refine lv_iconst (v := 1) hx hb dX5_grow_212 (by decide) ?_
                refine lv_iadd hx hb dX5_grow_213 ?_
                refine kI hh.ap0 hA (rnV hx hb hml hown hT hK hh.ap0 (hG ((mk i4).2.1 2) r7 (x3 + 1) k_38 kt_39 kl_40 j_41 mc_42 md_43 _ h _) mf_X5_grow kml_X5_102 ⟨rfl, rfl, rmG1_frG, rmG1_loG (Nat.le_of_ble_eq_true rfl)⟩ ⟨Nat.le_refl 0, Nat.le_refl 0⟩ 5 0 rfl rfl hl.1 rfl dX5_grow_214 (Nat.le_of_ble_eq_true rfl) rfl) (fun r46 u H locs h hh => ?_)
                obtain ⟨k_47, kt_48, kl_49, j_50, mc_51, md_52⟩ := u
                have hh : Wh D A s.heap ((List.flatten [bX5 ad E k_47, bX8 (ad 5) E kt_48, bX2 (ad 6) E kl_49, bX1 ad E j_50, bX3 (ad 2) E mc_51, bX3 (ad 3) E md_52, dC ad E ck (j_50.2.1 1).toNatClampNeg, dK ad E mk (k_47.2.1 1).toNatClampNeg])) _ _ := hh.un0
                refine lv_istore (lv' := [(6, .int (r46)), (5, .int (r7)), (4, .ref (ad 21 i4)), (0, .ref (ad 4 0)), (1, .int (x1)), (2, .int (x2)), (3, .int (x3))]) hx hb dX5_grow_217 hl (by decide) rfl (fun ls hl => ?_)
                refine lv_goto (tgt := 356) hx hb dX5_grow_219 (by decide) ?_
                exact kJ356 r46 k_47 kt_48 kl_49 j_50 mc_51 md_52 _ _ _ h hh (lv_sub hl [3, 1, 0] rfl)
            · by_cases c71 : ((mk i4).2.1 0) = 3
              · have h := h.2.2.2.1 c71
                refine lv_tableIn (off := 169) (tgt := 222) hx hb dX5_grow_53 (by rw [c71]; decide) (by rw [c71]; decide) (by rw [c71]; rfl) (by decide) ?_
                refine lv_aload_n hx hb dX5_grow_222 rfl (lv_at hl 3 rfl) ?_
                refine lv_aload hx hb dX5_grow_223 (lv_at hl 2 rfl) ?_
                obtain ⟨g54, h⟩ := h
                refine DG_X5_105 [_, _, _, _, _, _, _] [] hx hb hT hown hK hh g54 (v := (mk i4).2.1 3) rfl dX5_grow_225 ?_
                refine lv_aload hx hb dX5_grow_228 (lv_at hl 2 rfl) ?_
                obtain ⟨g55, h⟩ := h
                refine DG_X5_108 [_, _, _, _, _, _, _] [] hx hb hT hown hK hh g55 (v := (mk i4).2.1 4) rfl dX5_grow_230 ?_
                refine lv_iadd hx hb dX5_grow_233 ?_
                have hc := hh.cut [_] [_, _, _, _, _, _, _] [0, 1, 2, 3, 4, 5, 6, 7] 8 rfl (by decide) rfl
                refine kI hc hA (rnV hx hb hml hown hT hK hc (c_X5_numberBelow l D E ad  k_2 (((mk i4).2.1 3) + ((mk i4).2.1 4)) h _) mf_X5_numberBelow kml_X5_78 ⟨rfl, rfl, rmG1_fr (Nat.le_of_ble_eq_true rfl), rmG1_lo (Nat.le_of_ble_eq_true rfl)⟩ ⟨Nat.le_refl 0, Nat.le_refl 0⟩ 5 0 rfl rfl hl.1 rfl dX5_grow_234 (Nat.le_of_ble_eq_true rfl) rfl) (fun r56 k_57 H locs h hh => ?_)
                obtain ⟨g58, h⟩ := h
                rw [← g58] at hh
                have hh : Wh D A s.heap ((List.flatten [bX5 ad E k_57, bX8 (ad 5) E kt_8, bX2 (ad 6) E kl, bX1 ad E j, bX3 (ad 2) E mc, bX3 (ad 3) E md, dC ad E ck (j.2.1 1).toNatClampNeg, dK ad E mk (k_57.2.1 1).toNatClampNeg])) _ _ := Wh.back (cs := [_]) (rs := [_, _, _, _, _, _, _]) _ [0, 1, 2, 3, 4, 5, 6, 7] 8 rfl (by decide) rfl hh
                refine lv_aload hx hb dX5_grow_237 (lv_at hl 2 rfl) ?_
                obtain ⟨g59, h⟩ := h
                refine DG_X5_105 [_, _, _, _, _, _, _] [] hx hb hT hown hK hh g59 (v := (mk i4).2.1 3) rfl dX5_grow_239 ?_
                refine jn_elim h (fun J250 hJ250 h => ?_)
                have kJ250 : ∀ (z_250 : Int32) (k_250 : Ob) (kt_250 : Ob) (kl_250 : Ob) (j_250 : Ob) (mc_250 : Ob) (md_250 : Ob) (H : Heap) (locs : List Loc) (ls : Array Slot), J250 z_250 k_250 kt_250 kl_250 j_250 mc_250 md_250 → Wh D A s.heap ((List.flatten [bX5 ad E k_250, bX8 (ad 5) E kt_250, bX2 (ad 6) E kl_250, bX1 ad E j_250, bX3 (ad 2) E mc_250, bX3 (ad 3) E md_250, dC ad E ck (j_250.2.1 1).toNatClampNeg, dK ad E mk (k_250.2.1 1).toNatClampNeg])) H locs → lv_has ls 8 [(0, .ref (ad 4 0)), (3, .int (x3)), (4, .ref (ad 21 i4)), (5, .int (r7))] → W p l e (rmG (dd + 1)) s m args below meth c H locs 0 0 Q (F0 m 250 ls [.int (z_250)]) := by
                  intro z_250 k_250 kt_250 kl_250 j_250 mc_250 md_250 H locs ls h hh hl
                  rw [hJ250] at h
                  refine lv_istore (lv' := [(7, .int (z_250)), (0, .ref (ad 4 0)), (3, .int (x3)), (4, .ref (ad 21 i4)), (5, .int (r7))]) hx hb dX5_grow_250 hl (by decide) rfl (fun ls hl => ?_)
                  refine lv_aload_n hx hb dX5_grow_252 rfl (lv_at hl 1 rfl) ?_
                  refine lv_iload hx hb dX5_grow_253 (lv_at hl 0 rfl) ?_
                  refine jn_elim h (fun J271 hJ271 h => ?_)
                  have kJ271 : ∀ (z_271 : Int32) (k_271 : Ob) (kt_271 : Ob) (kl_271 : Ob) (j_271 : Ob) (mc_271 : Ob) (md_271 : Ob) (H : Heap) (locs : List Loc) (ls : Array Slot), J271 z_271 k_271 kt_271 kl_271 j_271 mc_271 md_271 → Wh D A s.heap ((List.flatten [bX5 ad E k_271, bX8 (ad 5) E kt_271, bX2 (ad 6) E kl_271, bX1 ad E j_271, bX3 (ad 2) E mc_271, bX3 (ad 3) E md_271, dC ad E ck (j_271.2.1 1).toNatClampNeg, dK ad E mk (k_271.2.1 1).toNatClampNeg])) H locs → lv_has ls 8 [(0, .ref (ad 4 0)), (3, .int (x3)), (5, .int (r7))] → W p l e (rmG (dd + 1)) s m args below meth c H locs 0 0 Q (F0 m 271 ls [.int (z_271), .ref (ad 4 0)]) := by
                    intro z_271 k_271 kt_271 kl_271 j_271 mc_271 md_271 H locs ls h hh hl
                    rw [hJ271] at h
                    refine lv_iload hx hb dX5_grow_271 (lv_at hl 2 rfl) ?_
                    refine lv_iload_n hx hb dX5_grow_273 rfl (lv_at hl 1 rfl) ?_
                    refine lv_iconst (v := 1) hx hb dX5_grow_274 (by decide) ?_
                    refine lv_iadd hx hb dX5_grow_275 ?_
                    refine kI hh.ap0 hA (rnV hx hb hml hown hT hK hh.ap0 (hG z_271 r7 (x3 + 1) k_271 kt_271 kl_271 j_271 mc_271 md_271 _ h _) mf_X5_grow kml_X5_102 ⟨rfl, rfl, rmG1_frG, rmG1_loG (Nat.le_of_ble_eq_true rfl)⟩ ⟨Nat.le_refl 0, Nat.le_refl 0⟩ 5 0 rfl rfl hl.1 rfl dX5_grow_276 (Nat.le_of_ble_eq_true rfl) rfl) (fun r64 u H locs h hh => ?_)
                    obtain ⟨k_65, kt_66, kl_67, j_68, mc_69, md_70⟩ := u
                    have hh : Wh D A s.heap ((List.flatten [bX5 ad E k_65, bX8 (ad 5) E kt_66, bX2 (ad 6) E kl_67, bX1 ad E j_68, bX3 (ad 2) E mc_69, bX3 (ad 3) E md_70, dC ad E ck (j_68.2.1 1).toNatClampNeg, dK ad E mk (k_65.2.1 1).toNatClampNeg])) _ _ := hh.un0
                    refine lv_istore (lv' := [(6, .int (r64)), (0, .ref (ad 4 0)), (3, .int (x3)), (5, .int (r7))]) hx hb dX5_grow_279 hl (by decide) rfl (fun ls hl => ?_)
                    refine lv_goto (tgt := 356) hx hb dX5_grow_281 (by decide) ?_
                    exact kJ356 r64 k_65 kt_66 kl_67 j_68 mc_69 md_70 _ _ _ h hh (lv_sub hl [1, 3, 0] rfl)
                  refine lv_if_eq (tgt := 266) hx hb dX5_grow_255 (by decide) (fun c61 => ?_) (fun c61 => ?_)
                  · have h := h.1 c61
                    refine lv_aload hx hb dX5_grow_266 (lv_at hl 3 rfl) ?_
                    obtain ⟨g62, h⟩ := h
                    refine DG_X5_75 [_, _, _, _, _, _, _] [] hx hb hT hown hK hh g62 (v := (mk i4).2.1 2) rfl dX5_grow_268 ?_
                    exact kJ271 ((mk i4).2.1 2) k_250 kt_250 kl_250 j_250 mc_250 md_250 _ _ _ h hh (lv_sub hl [1, 2, 4] rfl)
                  · have h := h.2 c61
                    refine lv_aload hx hb dX5_grow_258 (lv_at hl 3 rfl) ?_
                    obtain ⟨g63, h⟩ := h
                    refine DG_X5_72 [_, _, _, _, _, _, _] [] hx hb hT hown hK hh g63 (v := (mk i4).2.1 1) rfl dX5_grow_260 ?_
                    refine lv_goto (tgt := 271) hx hb dX5_grow_263 (by decide) ?_
                    exact kJ271 ((mk i4).2.1 1) k_250 kt_250 kl_250 j_250 mc_250 md_250 _ _ _ h hh (lv_sub hl [1, 2, 4] rfl)
                refine lv_icmp_ge (tgt := 249) hx hb dX5_grow_242 (by decide) (fun c60 => ?_) (fun c60 => ?_)
                · have h := h.1 c60
                  refine lv_iconst (v := 0) hx hb dX5_grow_249 (by decide) ?_
                  exact kJ250 0 k_57 kt_8 kl j mc md _ _ _ h hh (lv_sub hl [3, 6, 2, 1] rfl)
                · have h := h.2 c60
                  refine lv_iconst (v := 1) hx hb dX5_grow_245 (by decide) ?_
                  refine lv_goto (tgt := 250) hx hb dX5_grow_246 (by decide) ?_
                  exact kJ250 1 k_57 kt_8 kl j mc md _ _ _ h hh (lv_sub hl [3, 6, 2, 1] rfl)
              · by_cases c83 : ((mk i4).2.1 0) = 4
                · have h := h.2.2.2.2.1 c83
                  refine lv_tableIn (off := 231) (tgt := 284) hx hb dX5_grow_53 (by rw [c83]; decide) (by rw [c83]; decide) (by rw [c83]; rfl) (by decide) ?_
                  refine lv_aload_n hx hb dX5_grow_284 rfl (lv_at hl 3 rfl) ?_
                  refine G_X5_24 [] [_, _, _, _, _, _, _] hx hb hT hown hK hh dX5_grow_285 ?_
                  refine lv_iload hx hb dX5_grow_288 (lv_at hl 1 rfl) ?_
                  refine lv_aload hx hb dX5_grow_290 (lv_at hl 2 rfl) ?_
                  obtain ⟨g72, h⟩ := h
                  refine DG_X5_75 [_, _, _, _, _, _, _] [] hx hb hT hown hK hh g72 (v := (mk i4).2.1 2) rfl dX5_grow_292 ?_
                  have hc := hh.cut [_] [_, _, _, _, _, _, _] [1, 0, 2, 3, 4, 5, 6, 7] 8 rfl (by decide) rfl
                  refine kV hc hA (rnVN hx hb hml hown hT hK hc (c_X8_setValue l D E (ad 5)  kt_8 r7 ((mk i4).2.1 2) h _) mf_X8_setValue nml_X5_82 ⟨rfl, rfl, rmG1_fr (Nat.le_of_ble_eq_true rfl), rmG1_lo (Nat.le_of_ble_eq_true rfl)⟩ ⟨Nat.le_refl 0, Nat.le_refl 0⟩ 8 0 rfl rfl hl.1 rfl dX5_grow_295 (Nat.le_of_ble_eq_true rfl) rfl) (fun kt_74 H locs h hh => ?_)
                  have hh : Wh D A s.heap ((List.flatten [bX5 ad E k_2, bX8 (ad 5) E kt_74, bX2 (ad 6) E kl, bX1 ad E j, bX3 (ad 2) E mc, bX3 (ad 3) E md, dC ad E ck (j.2.1 1).toNatClampNeg, dK ad E mk (k_2.2.1 1).toNatClampNeg])) _ _ := Wh.back (cs := [_]) (rs := [_, _, _, _, _, _, _]) _ [1, 0, 2, 3, 4, 5, 6, 7] 8 rfl (by decide) rfl hh
                  refine lv_aload_n hx hb dX5_grow_298 rfl (lv_at hl 3 rfl) ?_
                  refine lv_aload hx hb dX5_grow_299 (lv_at hl 2 rfl) ?_
                  obtain ⟨g75, h⟩ := h
                  refine DG_X5_72 [_, _, _, _, _, _, _] [] hx hb hT hown hK hh g75 (v := (mk i4).2.1 1) rfl dX5_grow_301 ?_
                  refine lv_iload hx hb dX5_grow_304 (lv_at hl 1 rfl) ?_
                  refine lv_iload_n hx hb dX5_grow_306 rfl (lv_at hl 6 rfl) ?_
                  refine lv_iconst (v := 1) hx hb dX5_grow_307 (by decide) ?_
                  refine lv_iadd hx hb dX5_grow_308 ?_
                  refine kI hh.ap0 hA (rnV hx hb hml hown hT hK hh.ap0 (hG ((mk i4).2.1 1) r7 (x3 + 1) k_2 kt_74 kl j mc md _ h _) mf_X5_grow kml_X5_102 ⟨rfl, rfl, rmG1_frG, rmG1_loG (Nat.le_of_ble_eq_true rfl)⟩ ⟨Nat.le_refl 0, Nat.le_refl 0⟩ 5 0 rfl rfl hl.1 rfl dX5_grow_309 (Nat.le_of_ble_eq_true rfl) rfl) (fun r76 u H locs h hh => ?_)
                  obtain ⟨k_77, kt_78, kl_79, j_80, mc_81, md_82⟩ := u
                  have hh : Wh D A s.heap ((List.flatten [bX5 ad E k_77, bX8 (ad 5) E kt_78, bX2 (ad 6) E kl_79, bX1 ad E j_80, bX3 (ad 2) E mc_81, bX3 (ad 3) E md_82, dC ad E ck (j_80.2.1 1).toNatClampNeg, dK ad E mk (k_77.2.1 1).toNatClampNeg])) _ _ := hh.un0
                  refine lv_istore (lv' := [(6, .int (r76)), (5, .int (r7)), (4, .ref (ad 21 i4)), (0, .ref (ad 4 0)), (1, .int (x1)), (2, .int (x2)), (3, .int (x3))]) hx hb dX5_grow_312 hl (by decide) rfl (fun ls hl => ?_)
                  refine lv_goto (tgt := 356) hx hb dX5_grow_314 (by decide) ?_
                  exact kJ356 r76 k_77 kt_78 kl_79 j_80 mc_81 md_82 _ _ _ h hh (lv_sub hl [3, 1, 0] rfl)
                · by_cases c91 : ((mk i4).2.1 0) = 5
                  · have h := h.2.2.2.2.2.1 c91
                    refine lv_tableIn (off := 264) (tgt := 317) hx hb dX5_grow_53 (by rw [c91]; decide) (by rw [c91]; decide) (by rw [c91]; rfl) (by decide) ?_
                    refine lv_aload_n hx hb dX5_grow_317 rfl (lv_at hl 3 rfl) ?_
                    refine lv_aload hx hb dX5_grow_318 (lv_at hl 2 rfl) ?_
                    refine lv_iload hx hb dX5_grow_320 (lv_at hl 1 rfl) ?_
                    refine lv_iload_n hx hb dX5_grow_322 rfl (lv_at hl 6 rfl) ?_
                    refine kI hh.ap0 hA (rnV hx hb hml hown hT hK hh.ap0 (c_X5_growPicked l D E ad ck mk G hG k_2 kt_8 kl j mc md i4 r7 x3 h _) mf_X5_growPicked kml_X5_111 ⟨rfl, rfl, rmG1_frH, rmG1_loH (Nat.le_of_ble_eq_true rfl)⟩ ⟨Nat.le_refl 0, Nat.le_refl 0⟩ 5 0 rfl rfl hl.1 rfl dX5_grow_323 (Nat.le_of_ble_eq_true rfl) rfl) (fun r84 u H locs h hh => ?_)
                    obtain ⟨k_85, kt_86, kl_87, j_88, mc_89, md_90⟩ := u
                    have hh : Wh D A s.heap ((List.flatten [bX5 ad E k_85, bX8 (ad 5) E kt_86, bX2 (ad 6) E kl_87, bX1 ad E j_88, bX3 (ad 2) E mc_89, bX3 (ad 3) E md_90, dC ad E ck (j_88.2.1 1).toNatClampNeg, dK ad E mk (k_85.2.1 1).toNatClampNeg])) _ _ := hh.un0
                    refine lv_istore (lv' := [(6, .int (r84)), (5, .int (r7)), (4, .ref (ad 21 i4)), (0, .ref (ad 4 0)), (1, .int (x1)), (2, .int (x2)), (3, .int (x3))]) hx hb dX5_grow_326 hl (by decide) rfl (fun ls hl => ?_)
                    refine lv_goto (tgt := 356) hx hb dX5_grow_328 (by decide) ?_
                    exact kJ356 r84 k_85 kt_86 kl_87 j_88 mc_89 md_90 _ _ _ h hh (lv_sub hl [3, 1, 0] rfl)
                  · by_cases c97 : ((mk i4).2.1 0) = 6
                    · have h := h.2.2.2.2.2.2.1 c97
                      refine lv_tableIn (off := 278) (tgt := 331) hx hb dX5_grow_53 (by rw [c97]; decide) (by rw [c97]; decide) (by rw [c97]; rfl) (by decide) ?_
                      refine lv_aload_n hx hb dX5_grow_331 rfl (lv_at hl 3 rfl) ?_
                      refine lv_aload hx hb dX5_grow_332 (lv_at hl 2 rfl) ?_
                      obtain ⟨g92, h⟩ := h
                      refine DG_X5_72 [_, _, _, _, _, _, _] [] hx hb hT hown hK hh g92 (v := (mk i4).2.1 1) rfl dX5_grow_334 ?_
                      refine lv_iload hx hb dX5_grow_337 (lv_at hl 1 rfl) ?_
                      have hc := hh.cut [_, _] [_, _, _, _, _, _] [0, 1, 2, 3, 4, 5, 6, 7] 8 rfl (by decide) rfl
                      refine kV hc hA (rnV hx hb hml hown hT hK hc (c_X5_growShuffled l D E ad  k_2 kt_8 ((mk i4).2.1 1) r7 h _) mf_X5_growShuffled kml_X5_114 ⟨rfl, rfl, rmG1_fr (Nat.le_of_ble_eq_true rfl), rmG1_lo (Nat.le_of_ble_eq_true rfl)⟩ ⟨Nat.le_refl 0, Nat.le_refl 0⟩ 5 0 rfl rfl hl.1 rfl dX5_grow_339 (Nat.le_of_ble_eq_true rfl) rfl) (fun u H locs h hh => ?_)
                      obtain ⟨k_94, kt_95⟩ := u
                      obtain ⟨g96, h⟩ := h
                      rw [← g96] at hh
                      have hh : Wh D A s.heap ((List.flatten [bX5 ad E k_94, bX8 (ad 5) E kt_95, bX2 (ad 6) E kl, bX1 ad E j, bX3 (ad 2) E mc, bX3 (ad 3) E md, dC ad E ck (j.2.1 1).toNatClampNeg, dK ad E mk (k_94.2.1 1).toNatClampNeg])) _ _ := Wh.back (cs := [_, _]) (rs := [_, _, _, _, _, _]) _ [0, 1, 2, 3, 4, 5, 6, 7] 8 rfl (by decide) rfl hh
                      refine lv_goto (tgt := 356) hx hb dX5_grow_342 (by decide) ?_
                      exact kJ356 1 k_94 kt_95 kl j mc md _ _ _ h hh (lv_sub hl [3, 1, 0] rfl)
                    · have h := h.2.2.2.2.2.2.2 ⟨c25, c33, c53, c71, c83, c91, c97⟩
                      refine q_swD (tgt := 345) hx hb dX5_grow_53 (fun i h1 h2 he => (show i = 0 ∨ i = 1 ∨ i = 2 ∨ i = 3 ∨ i = 4 ∨ i = 5 ∨ i = 6 by omega).elim (fun z => absurd (q_oi he z (by decide)) c25) (fun z => z.elim (fun z => absurd (q_oi he z (by decide)) c33) (fun z => z.elim (fun z => absurd (q_oi he z (by decide)) c53) (fun z => z.elim (fun z => absurd (q_oi he z (by decide)) c71) (fun z => z.elim (fun z => absurd (q_oi he z (by decide)) c83) (fun z => z.elim (fun z => absurd (q_oi he z (by decide)) c91) (fun z => absurd (q_oi he z (by decide)) c97))))))) (by decide) ?_
                      refine lv_aload_n hx hb dX5_grow_345 rfl (lv_at hl 3 rfl) ?_
                      refine lv_aload hx hb dX5_grow_346 (lv_at hl 2 rfl) ?_
                      refine lv_iload hx hb dX5_grow_348 (lv_at hl 1 rfl) ?_
                      refine lv_iload_n hx hb dX5_grow_350 rfl (lv_at hl 6 rfl) ?_
                      refine kI hh.ap0 hA (rnV hx hb hml hown hT hK hh.ap0 (c_X5_growBelow l D E ad ck mk G hG k_2 kt_8 kl j mc md i4 r7 x3 h _) mf_X5_growBelow kml_X5_117 ⟨rfl, rfl, rmG1_frH, rmG1_loH (Nat.le_of_ble_eq_true rfl)⟩ ⟨Nat.le_refl 0, Nat.le_refl 0⟩ 5 0 rfl rfl hl.1 rfl dX5_grow_351 (Nat.le_of_ble_eq_true rfl) rfl) (fun r98 u H locs h hh => ?_)
                      obtain ⟨k_99, kt_100, kl_101, j_102, mc_103, md_104⟩ := u
                      have hh : Wh D A s.heap ((List.flatten [bX5 ad E k_99, bX8 (ad 5) E kt_100, bX2 (ad 6) E kl_101, bX1 ad E j_102, bX3 (ad 2) E mc_103, bX3 (ad 3) E md_104, dC ad E ck (j_102.2.1 1).toNatClampNeg, dK ad E mk (k_99.2.1 1).toNatClampNeg])) _ _ := hh.un0
                      refine lv_istore (lv' := [(6, .int (r98)), (5, .int (r7)), (4, .ref (ad 21 i4)), (0, .ref (ad 4 0)), (1, .int (x1)), (2, .int (x2)), (3, .int (x3))]) hx hb dX5_grow_354 hl (by decide) rfl (fun ls hl => ?_)
                      exact kJ356 r98 k_99 kt_100 kl_101 j_102 mc_103 md_104 _ _ _ h hh (lv_sub hl [3, 1, 0] rfl)
      · have h := h.2 c9
        refine lv_bipush (v := (-5)) hx hb dX5_grow_42 (by decide) ?_
        exact hret _ _ _ _ _ (k_2, kt_8, kl, j, mc, md) dX5_grow_44 rfl h hh
    · have h := h.2 c5
      refine lv_bipush (v := (-5)) hx hb dX5_grow_18 (by decide) ?_
      exact hret _ _ _ _ _ (k_2, kt, kl, j, mc, md) dX5_grow_20 rfl h hh
