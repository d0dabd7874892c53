def w_X9_bringOut  (x : Ob) (sh : Ob) (shl : Ob) (f : Ob) (Post : Int32 → Ob → Ob → Ob → Ob → Prop) : Prop := w_X8_copy   sh f (fun (sh_2 : Ob) (f_3 : Ob) => w_X8_gather  (0 : Int32) (sh_2.2.1 6) sh_2 shl (fun (sh_5 : Ob) (shl_6 : Ob) => w_X8_signs   sh_5 (fun (r7 : Int32) (sh_8 : Ob) => Post r7 ((x.1, (upd x.2.1 7 ((1 : Int32))), x.2.2)) sh_8 shl_6 f_3)))
set_option maxRecDepth 100000 in
set_option maxHeartbeats 4000000 in
theorem c_X9_bringOut (l : Launch) (D : va_G) (E : Nat → ClassId) (ad : Nat → Nat → Nat) (a2 : Nat → Nat)  (x : Ob) (sh : Ob) (shl : Ob) (f : Ob)  {Post : Int32 → Ob → Ob → Ob → Ob → Prop} (h : w_X9_bringOut  x sh shl f Post) : CtI l yX9_bringOut cX9_bringOut 2 .int ({ frames := 3, cells := 0, slots := 0, locals := 77 } : Room) D E [.ref (ad 0 0), .ref (a2 0)] (List.flatten [bX9 ad E x, bX8 (ad 11) E sh, bX2 (ad 12) E shl, bX8 a2 E f]) (fun u : Ob × Ob × Ob × Ob => List.flatten [bX9 ad E u.1, bX8 (ad 11) E u.2.1, bX2 (ad 12) E u.2.2.1, bX8 a2 E u.2.2.2]) (fun (r : Int32) (u : Ob × Ob × Ob × Ob) => Post r u.1 u.2.1 u.2.2.1 u.2.2.2) 0 0 := by
  refine enI (by decide +kernel) (Nat.le_of_ble_eq_true rfl) ?_
  intro p e s m args below meth c Q A ls hx hb hml hown hT hK hA hret hh hl
  have hl : lv_has ls 2 [(0, .ref (ad 0 0)), (1, .ref (a2 0))] := hl
  unfold w_X9_bringOut at h
  refine lv_aload_n hx hb dX9_bringOut_0 rfl (lv_at hl 0 rfl) ?_
  refine G_X9_45 [] [_, _, _] hx hb hT hown hK hh dX9_bringOut_1 ?_
  refine lv_aload_n hx hb dX9_bringOut_4 rfl (lv_at hl 1 rfl) ?_
  have hc := hh.cut [_, _] [_, _] [1, 3, 0, 2] 4 rfl (by decide) rfl
  refine kV hc hA (rnVN hx hb hml hown hT hK hc (c_X8_copy l D E (ad 11) a2  sh f  h _) mf_X8_copy nml_X9_225 ⟨rfl, rfl, Nat.le_of_ble_eq_true rfl, Nat.le_of_ble_eq_true rfl⟩ ⟨Nat.le_of_ble_eq_true rfl, Nat.le_of_ble_eq_true rfl⟩ 8 0 rfl rfl hl.1 rfl dX9_bringOut_5 (Nat.le_of_ble_eq_true rfl) rfl) (fun u H locs h hh => ?_)
  obtain ⟨sh_2, f_3⟩ := u
  have hh : Wh D A s.heap ((List.flatten [bX9 ad E x, bX8 (ad 11) E sh_2, bX2 (ad 12) E shl, bX8 a2 E f_3])) _ _ := Wh.back (cs := [_, _]) (rs := [_, _]) _ [2, 0, 3, 1] 4 rfl (by decide) rfl hh
  refine lv_aload_n hx hb dX9_bringOut_8 rfl (lv_at hl 0 rfl) ?_
  refine G_X9_45 [] [_, _, _] hx hb hT hown hK hh dX9_bringOut_9 ?_
  refine lv_iconst (v := 0) hx hb dX9_bringOut_12 (by decide) ?_
  refine lv_aload_n hx hb dX9_bringOut_13 rfl (lv_at hl 0 rfl) ?_
  refine G_X9_45 [] [_, _, _] hx hb hT hown hK hh dX9_bringOut_14 ?_
  refine G_X9_228 [_] [_, _] hx hb hT hown hK hh (v := sh_2.2.1 6) rfl dX9_bringOut_17 ?_
  refine lv_aload_n hx hb dX9_bringOut_20 rfl (lv_at hl 0 rfl) ?_
  refine G_X9_52 [] [_, _, _] hx hb hT hown hK hh dX9_bringOut_21 ?_
  have hc := hh.cut [_, _] [_, _] [1, 2, 0, 3] 4 rfl (by decide) rfl
  refine kV hc hA (rnVN hx hb hml hown hT hK hc (c_X8_gather l D E (ad 11) (ad 12)  sh_2 shl (0 : Int32) (sh_2.2.1 6) h _) mf_X8_gather nml_X9_231 ⟨rfl, rfl, Nat.le_of_ble_eq_true rfl, Nat.le_of_ble_eq_true rfl⟩ ⟨Nat.le_of_ble_eq_true rfl, Nat.le_of_ble_eq_true rfl⟩ 8 0 rfl rfl hl.1 rfl dX9_bringOut_24 (Nat.le_of_ble_eq_true rfl) rfl) (fun u H locs h hh => ?_)
  obtain ⟨sh_5, shl_6⟩ := u
  have hh : Wh D A s.heap ((List.flatten [bX9 ad E x, bX8 (ad 11) E sh_5, bX2 (ad 12) E shl_6, bX8 a2 E f_3])) _ _ := Wh.back (cs := [_, _]) (rs := [_, _]) _ [2, 0, 1, 3] 4 rfl (by decide) rfl hh
  refine lv_aload_n hx hb dX9_bringOut_27 rfl (lv_at hl 0 rfl) ?_
  refine lv_iconst (v := 1) hx hb dX9_bringOut_28 (by decide) ?_
  refine P_X9_56 [] [_, _, _] hx hb hT hown hK hh (by decide) dX9_bringOut_29 (fun H locs (hh : Wh D A s.heap ((List.flatten [bX9 ad E ((x.1, (upd x.2.1 7 ((1 : Int32))), x.2.2)), bX8 (ad 11) E sh_5, bX2 (ad 12) E shl_6, bX8 a2 E f_3])) H locs) => ?_)
  refine lv_aload_n hx hb dX9_bringOut_32 rfl (lv_at hl 0 rfl) ?_
  refine G_X9_45 [] [_, _, _] hx hb hT hown hK hh dX9_bringOut_33 ?_
  have hc := hh.cut [_] [_, _, _] [1, 0, 2, 3] 4 rfl (by decide) rfl
  refine kI hc hA (rnVN hx hb hml hown hT hK hc (c_X8_signs l D E (ad 11)  sh_5  h _) mf_X8_signs nml_X9_235 ⟨rfl, rfl, Nat.le_of_ble_eq_true rfl, Nat.le_of_ble_eq_true rfl⟩ ⟨Nat.le_of_ble_eq_true rfl, Nat.le_of_ble_eq_true rfl⟩ 8 0 rfl rfl hl.1 rfl dX9_bringOut_36 (Nat.le_of_ble_eq_true rfl) rfl) (fun r7 sh_8 H locs h hh => ?_)
  have hh : Wh D A s.heap ((List.flatten [bX9 ad E ((x.1, (upd x.2.1 7 ((1 : Int32))), x.2.2)), bX8 (ad 11) E sh_8, bX2 (ad 12) E shl_6, bX8 a2 E f_3])) _ _ := Wh.back (cs := [_]) (rs := [_, _, _]) _ [1, 0, 2, 3] 4 rfl (by decide) rfl hh
  exact hret _ _ _ _ _ ((x.1, (upd x.2.1 7 ((1 : Int32))), x.2.2), sh_8, shl_6, f_3) dX9_bringOut_39 rfl h hh

def w_X9_startReport_L2  (K21_2 : Ob → Prop) (Post : Ob → Prop) : Nat → Int32 → Ob → Prop
  | 0, _, _ => False
  | n2 + 1, p1_2, x_2 => ((8 ≤ p1_2) → K21_2 x_2) ∧ (¬ (8 ≤ p1_2) → vp_in p1_2 8 ∧ (w_X9_startReport_L2  K21_2 Post n2 (p1_2 + 1) ((x_2.1, x_2.2.1, (sa x_2.2.2 8 (upd (x_2.2.2 8) p1_2.toNatClampNeg (0 : Int32)))))))
def w_X9_startReport  (x : Ob) (Post : Ob → Prop) : Prop := ∃ n2, w_X9_startReport_L2  (fun (x_k21 : Ob) => Post ((x_k21.1, (upd x_k21.2.1 9 ((1 : Int32))), (sa x_k21.2.2 8 (upd (x_k21.2.2 8) (2 : Int32).toNatClampNeg ((-9) : Int32)))))) Post n2 0 x
set_option maxRecDepth 100000 in
set_option maxHeartbeats 4000000 in
theorem c_X9_startReport (l : Launch) (D : va_G) (E : Nat → ClassId) (ad : Nat → Nat → Nat)  (x : Ob)  {Post : Ob → Prop} (h : w_X9_startReport  x Post) : CtV l yX9_startReport cX9_startReport 2 ({ frames := 0, cells := 0, slots := 0, locals := 0 } : Room) D E [.ref (ad 0 0)] (List.flatten [bX9 ad E x]) (fun u : Ob => List.flatten [bX9 ad E u]) Post 0 0 := by
  refine enV (by decide +kernel) (Nat.le_of_ble_eq_true rfl) ?_
  intro p e s m args below meth c Q A ls hx hb hml hown hT hK hA hin0 hret hh hl
  have hl : lv_has ls 2 [(0, .ref (ad 0 0))] := hl
  unfold w_X9_startReport at h
  refine lv_iconst (v := 0) hx hb dX9_startReport_0 (by decide) ?_
  refine lv_istore_n (lv' := [(1, .int (0)), (0, .ref (ad 0 0))]) hx hb dX9_startReport_1 rfl hl (by decide) rfl (fun ls hl => ?_)
  have hw2 : ∀ (K21_2 : Ob → Prop) (hK21_2 : ∀ (x_k21 : Ob) (H : Heap) (locs : List Loc) (ls : Array Slot), K21_2 x_k21 → Wh D A s.heap ((List.flatten [bX9 ad E x_k21])) H locs → lv_has ls 2 [(0, .ref (ad 0 0))] → W p l e ({ frames := 0, cells := 0, slots := 0, locals := 0 } : Room) s m args below meth c H locs 0 0 Q (F0 m 21 ls [])) (n : Nat) (p1_2 : Int32) (x_2 : Ob) (H : Heap) (locs : List Loc) (ls : Array Slot), w_X9_startReport_L2  K21_2 Post n p1_2 x_2 → Wh D A s.heap ((List.flatten [bX9 ad E x_2])) H locs → lv_has ls 2 [(0, .ref (ad 0 0)), (1, .int (p1_2))] → W p l e ({ frames := 0, cells := 0, slots := 0, locals := 0 } : Room) s m args below meth c H locs 0 0 Q (F0 m 2 ls []) := by
    intro K21_2 hK21_2 n
    induction n with
    | zero => intro p1_2 x_2 H locs ls h hh hl; exact False.elim h
    | succ n ih =>
      intro p1_2 x_2 H locs ls h hh hl
      refine lv_iload_n hx hb dX9_startReport_2 rfl (lv_at hl 1 rfl) ?_
      refine lv_bipush (v := 8) hx hb dX9_startReport_3 (by decide) ?_
      refine lv_icmp_ge (tgt := 21) hx hb dX9_startReport_5 (by decide) (fun c1 => ?_) (fun c1 => ?_)
      · have h := h.1 c1
        exact hK21_2 x_2 _ _ _ h hh (lv_sub hl [0] rfl)
      · have h := h.2 c1
        refine lv_aload_n hx hb dX9_startReport_8 rfl (lv_at hl 0 rfl) ?_
        refine G_X9_60 [] [] hx hb hT hown hK hh dX9_startReport_9 ?_
        refine lv_iload_n hx hb dX9_startReport_12 rfl (lv_at hl 1 rfl) ?_
        refine lv_iconst (v := 0) hx hb dX9_startReport_13 (by decide) ?_
        obtain ⟨g2, h⟩ := h
        refine S_X9_8 [] [] hx hb hK hh g2 dX9_startReport_14 (fun H locs (hh : Wh D A s.heap ((List.flatten [bX9 ad E ((x_2.1, x_2.2.1, (sa x_2.2.2 8 (upd (x_2.2.2 8) p1_2.toNatClampNeg (0 : Int32)))))])) H locs) => ?_)
        refine lv_iinc (v := p1_2 + 1) (lv' := [(1, .int (p1_2 + 1)), (0, .ref (ad 0 0))]) hx hb dX9_startReport_15 hl (k := 1) rfl (by rfl) (by decide) rfl (fun ls hl => ?_)
        refine lv_goto (tgt := 2) hx hb dX9_startReport_18 (by decide) ?_
        exact ih (p1_2 + 1) ((x_2.1, x_2.2.1, (sa x_2.2.2 8 (upd (x_2.2.2 8) p1_2.toNatClampNeg (0 : Int32))))) _ _ _ h hh (lv_sub hl [1, 0] rfl)
  obtain ⟨n, h⟩ := h
  refine hw2 _ (fun x_k21 H locs ls h hh hl => ?_) n 0 x _ _ _ h hh (lv_sub hl [1, 0] rfl)
  refine lv_aload_n hx hb dX9_startReport_21 rfl (lv_at hl 0 rfl) ?_
  refine G_X9_60 [] [] hx hb hT hown hK hh dX9_startReport_22 ?_
  refine lv_iconst (v := 2) hx hb dX9_startReport_25 (by decide) ?_
  refine lv_bipush (v := (-9)) hx hb dX9_startReport_26 (by decide) ?_
  refine S_X9_8 [] [] hx hb hK hh (by unfold vp_in; decide) dX9_startReport_28 (fun H locs (hh : Wh D A s.heap ((List.flatten [bX9 ad E ((x_k21.1, x_k21.2.1, (sa x_k21.2.2 8 (upd (x_k21.2.2 8) (2 : Int32).toNatClampNeg ((-9) : Int32)))))])) H locs) => ?_)
  refine lv_aload_n hx hb dX9_startReport_29 rfl (lv_at hl 0 rfl) ?_
  refine lv_iconst (v := 1) hx hb dX9_startReport_30 (by decide) ?_
  refine P_X9_64 [] [] hx hb hT hown hK hh (by decide) dX9_startReport_31 (fun H locs (hh : Wh D A s.heap ((List.flatten [bX9 ad E ((x_k21.1, (upd x_k21.2.1 9 ((1 : Int32))), (sa x_k21.2.2 8 (upd (x_k21.2.2 8) (2 : Int32).toNatClampNeg ((-9) : Int32)))))])) H locs) => ?_)
  exact hret _ _ _ _ (x_k21.1, (upd x_k21.2.1 9 ((1 : Int32))), (sa x_k21.2.2 8 (upd (x_k21.2.2 8) (2 : Int32).toNatClampNeg ((-9) : Int32)))) dX9_startReport_34 h hh

def w_X9_make (ck : Nat → Ob) (mk : Nat → Ob) (x1 : Int32) (x2 : Int64) (x4 : Int32) (x : Ob) (k : Ob) (kt : Ob) (kl : Ob) (j : Ob) (mc : Ob) (md : Ob) (sh : Ob) (shl : Ob) (Post : Int32 → Ob → Ob → Ob → Ob → Ob → Ob → Ob → Ob → Ob → Prop) : Prop := w_X5_at  x1 k (fun (r1 : Option Nat) (k_2 : Ob) => (k_2.2.1 1 = k.2.1 1) ∧ ((r1 = none → Post ((-1)) x k_2 kt kl j mc md sh shl) ∧ (∀ i4 : Nat, r1 = some i4 → w_X9_isSize  x4  (fun (r5 : Int32) => ((¬ r5 = 0) → w_X5_begin  x2 x4 k_2 kt (fun (k_8 : Ob) (kt_9 : Ob) => (k_8.2.1 1 = k_2.2.1 1) ∧ (w_grow ck mk 32 x1 ((-1) : Int32) (0 : Int32) k_8 kt_9 kl j mc md (fun (r11 : Int32) (k_12 : Ob) (kt_13 : Ob) (kl_14 : Ob) (j_15 : Ob) (mc_16 : Ob) (md_17 : Ob) => ((¬ r11 = 1) → Post r11 x k_12 kt_13 kl_14 j_15 mc_16 md_17 sh shl) ∧ ((r11 = 1) → w_X9_bringOut   x sh shl kt_13 (fun (r19 : Int32) (x_20 : Ob) (sh_21 : Ob) (shl_22 : Ob) (kt_23 : Ob) => Post r19 x_20 k_12 kt_23 kl_14 j_15 mc_16 md_17 sh_21 shl_22)))))) ∧ ((r5 = 0) → Post ((-2)) x k_2 kt kl j mc md sh shl)))))
set_option maxRecDepth 100000 in
set_option maxHeartbeats 4000000 in
theorem c_X9_make (l : Launch) (D : va_G) (E : Nat → ClassId) (ad : Nat → Nat → Nat) (ck : Nat → Ob) (mk : Nat → Ob)  (x : Ob) (k : Ob) (kt : Ob) (kl : Ob) (j : Ob) (mc : Ob) (md : Ob) (sh : Ob) (shl : Ob) (x1 : Int32) (x2 : Int64) (x4 : Int32) {Post : Int32 → Ob → Ob → Ob → Ob → Ob → Ob → Ob → Ob → Ob → Prop} (h : w_X9_make ck mk x1 x2 x4 x k kt kl j mc md sh shl Post) : CtI l yX9_make cX9_make 6 .int ({ frames := 85, cells := 0, slots := 0, locals := 3527 } : Room) D E [.ref (ad 0 0), .int (x1), .long (x2), .int (x4)] (List.flatten [bX9 ad E x, bX5 ad E k, bX8 (ad 5) E kt, bX2 (ad 6) E kl, bX1 ad E j, bX3 (ad 2) E mc, bX3 (ad 3) E md, bX8 (ad 11) E sh, bX2 (ad 12) E shl, dC ad E ck (j.2.1 1).toNatClampNeg, dK ad E mk (k.2.1 1).toNatClampNeg]) (fun u : Ob × Ob × Ob × Ob × Ob × Ob × Ob × Ob × Ob => List.flatten [bX9 ad E u.1, bX5 ad E u.2.1, bX8 (ad 5) E u.2.2.1, bX2 (ad 6) E u.2.2.2.1, bX1 ad E u.2.2.2.2.1, bX3 (ad 2) E u.2.2.2.2.2.1, bX3 (ad 3) E u.2.2.2.2.2.2.1, bX8 (ad 11) E u.2.2.2.2.2.2.2.1, bX2 (ad 12) E u.2.2.2.2.2.2.2.2, dC ad E ck (u.2.2.2.2.1.2.1 1).toNatClampNeg, dK ad E mk (u.2.1.2.1 1).toNatClampNeg]) (fun (r : Int32) (u : Ob × Ob × Ob × Ob × Ob × Ob × Ob × Ob × Ob) => Post r u.1 u.2.1 u.2.2.1 u.2.2.2.1 u.2.2.2.2.1 u.2.2.2.2.2.1 u.2.2.2.2.2.2.1 u.2.2.2.2.2.2.2.1 u.2.2.2.2.2.2.2.2) 0 0 := by
  refine enI (by decide +kernel) (Nat.le_of_ble_eq_true rfl) ?_
  intro p e s m args below meth c Q A ls hx hb hml hown hT hK hA hret hh hl
  have hl : lv_has ls 6 [(0, .ref (ad 0 0)), (1, .int (x1)), (2, .long (x2)), (4, .int (x4))] := hl
  unfold w_X9_make at h
  refine lv_aload_n hx hb dX9_make_0 rfl (lv_at hl 0 rfl) ?_
  refine G_X9_21 [] [_, _, _, _, _, _, _, _, _, _] hx hb hT hown hK hh dX9_make_1 ?_
  refine lv_iload_n hx hb dX9_make_4 rfl (lv_at hl 1 rfl) ?_
  have hc := hh.cut [_] [_, _, _, _, _, _, _, _, _, _] [1, 0, 2, 3, 4, 5, 6, 7, 8, 9, 10] 11 rfl (by decide) rfl
  refine kE hc hA (rnVN hx hb hml hown hT hK hc (c_X5_at l D E ad  k x1 h _) mf_X5_at nml_X9_87 ⟨rfl, rfl, Nat.le_of_ble_eq_true rfl, Nat.le_of_ble_eq_true rfl⟩ ⟨Nat.le_of_ble_eq_true rfl, Nat.le_of_ble_eq_true rfl⟩ 5 0 rfl rfl hl.1 rfl dX9_make_5 (Nat.le_of_ble_eq_true rfl) rfl) (fun r1 k_2 H locs h hh => ?_)
  obtain ⟨g3, h⟩ := h
  rw [← g3] at hh
  have hh : Wh D A s.heap ((List.flatten [bX9 ad E x, bX5 ad E k_2, bX8 (ad 5) E kt, bX2 (ad 6) E kl, bX1 ad E j, bX3 (ad 2) E mc, bX3 (ad 3) E md, bX8 (ad 11) E sh, bX2 (ad 12) E shl, dC ad E ck (j.2.1 1).toNatClampNeg, dK ad E mk (k_2.2.1 1).toNatClampNeg])) _ _ := Wh.back (cs := [_]) (rs := [_, _, _, _, _, _, _, _, _, _]) _ [1, 0, 2, 3, 4, 5, 6, 7, 8, 9, 10] 11 rfl (by decide) rfl hh
  cases r1 with
  | none =>
    have h := h.1 rfl
    refine lv_ifnonnullN hx hb dX9_make_8 ?_
    refine lv_iconst (v := (-1)) hx hb dX9_make_11 (by decide) ?_
    exact hret _ _ _ _ _ (x, k_2, kt, kl, j, mc, md, sh, shl) dX9_make_12 rfl h hh
  | some i4 =>
    have h := h.2 i4 rfl
    refine lv_ifnonnull (tgt := 13) hx hb dX9_make_8 (by decide) ?_
    refine lv_iload hx hb dX9_make_13 (lv_at hl 3 rfl) ?_
    refine kI hh.none hA (rnS hx hb hml hown hT hK hh.none (c_X9_isSize l D E    x4 h _) mf_X9_isSize kml_X9_129 ⟨rfl, rfl, Nat.le_of_ble_eq_true rfl, Nat.le_of_ble_eq_true rfl⟩ ⟨Nat.le_of_ble_eq_true rfl, Nat.le_of_ble_eq_true rfl⟩ hl.1 rfl dX9_make_15 (Nat.le_of_ble_eq_true rfl) rfl) (fun r5 u H locs h hh => ?_)
    have hh : Wh D A s.heap ((List.flatten [bX9 ad E x, bX5 ad E k_2, bX8 (ad 5) E kt, bX2 (ad 6) E kl, bX1 ad E j, bX3 (ad 2) E mc, bX3 (ad 3) E md, bX8 (ad 11) E sh, bX2 (ad 12) E shl, dC ad E ck (j.2.1 1).toNatClampNeg, dK ad E mk (k_2.2.1 1).toNatClampNeg])) _ _ := hh.unone
    refine lv_if_ne (tgt := 24) hx hb dX9_make_18 (by decide) (fun c6 => ?_) (fun c6 => ?_)
    · have h := h.1 c6
      refine lv_aload_n hx hb dX9_make_24 rfl (lv_at hl 0 rfl) ?_
      refine G_X9_21 [] [_, _, _, _, _, _, _, _, _, _] hx hb hT hown hK hh dX9_make_25 ?_
      refine lv_lload_n hx hb dX9_make_28 rfl (lv_at hl 2 rfl) ?_
      refine lv_iload hx hb dX9_make_29 (lv_at hl 3 rfl) ?_
      have hc := hh.cut [_, _] [_, _, _, _, _, _, _, _, _] [1, 2, 0, 3, 4, 5, 6, 7, 8, 9, 10] 11 rfl (by decide) rfl
      refine kV hc hA (rnVN hx hb hml hown hT hK hc (c_X5_begin l D E ad  k_2 kt x2 x4 h _) mf_X5_begin nml_X9_132 ⟨rfl, rfl, Nat.le_of_ble_eq_true rfl, Nat.le_of_ble_eq_true rfl⟩ ⟨Nat.le_of_ble_eq_true rfl, Nat.le_of_ble_eq_true rfl⟩ 5 0 rfl rfl hl.1 rfl dX9_make_31 (Nat.le_of_ble_eq_true rfl) rfl) (fun u H locs h hh => ?_)
      obtain ⟨k_8, kt_9⟩ := u
      obtain ⟨g10, h⟩ := h
      rw [← g10] at hh
      have hh : Wh D A s.heap ((List.flatten [bX9 ad E x, bX5 ad E k_8, bX8 (ad 5) E kt_9, bX2 (ad 6) E kl, bX1 ad E j, bX3 (ad 2) E mc, bX3 (ad 3) E md, bX8 (ad 11) E sh, bX2 (ad 12) E shl, dC ad E ck (j.2.1 1).toNatClampNeg, dK ad E mk (k_8.2.1 1).toNatClampNeg])) _ _ := Wh.back (cs := [_, _]) (rs := [_, _, _, _, _, _, _, _, _]) _ [2, 0, 1, 3, 4, 5, 6, 7, 8, 9, 10] 11 rfl (by decide) rfl hh
      refine lv_aload_n hx hb dX9_make_34 rfl (lv_at hl 0 rfl) ?_
      refine G_X9_21 [] [_, _, _, _, _, _, _, _, _, _] hx hb hT hown hK hh dX9_make_35 ?_
      refine lv_iload_n hx hb dX9_make_38 rfl (lv_at hl 1 rfl) ?_
      refine lv_iconst (v := (-1)) hx hb dX9_make_39 (by decide) ?_
      refine lv_iconst (v := 0) hx hb dX9_make_40 (by decide) ?_
      have hc := hh.cut [_, _, _, _, _, _, _, _] [_, _, _] [1, 2, 3, 4, 5, 6, 9, 10, 0, 7, 8] 11 rfl (by decide) rfl
      refine kI hc hA (rnVN hx hb hml hown hT hK hc (c_grow l D E ad ck mk 32 _ rfl x1 ((-1) : Int32) (0 : Int32) k_8 kt_9 kl j mc md _ h _) mf_X5_grow nml_X9_136 ⟨rfl, rfl, Nat.le_of_ble_eq_true rfl, Nat.le_of_ble_eq_true rfl⟩ ⟨Nat.le_of_ble_eq_true rfl, Nat.le_of_ble_eq_true rfl⟩ 5 0 rfl rfl hl.1 rfl dX9_make_41 (Nat.le_of_ble_eq_true rfl) rfl) (fun r11 u H locs h hh => ?_)
      obtain ⟨k_12, kt_13, kl_14, j_15, mc_16, md_17⟩ := u
      have hh : Wh D A s.heap ((List.flatten [bX9 ad E x, bX5 ad E k_12, bX8 (ad 5) E kt_13, bX2 (ad 6) E kl_14, bX1 ad E j_15, bX3 (ad 2) E mc_16, bX3 (ad 3) E md_17, bX8 (ad 11) E sh, bX2 (ad 12) E shl, dC ad E ck (j_15.2.1 1).toNatClampNeg, dK ad E mk (k_12.2.1 1).toNatClampNeg])) _ _ := Wh.back (cs := [_, _, _, _, _, _, _, _]) (rs := [_, _, _]) _ [8, 0, 1, 2, 3, 4, 5, 9, 10, 6, 7] 11 rfl (by decide) rfl hh
      refine lv_istore (lv' := [(5, .int (r11)), (0, .ref (ad 0 0)), (1, .int (x1)), (2, .long (x2)), (4, .int (x4))]) hx hb dX9_make_44 hl (by decide) rfl (fun ls hl => ?_)
      refine lv_iload hx hb dX9_make_46 (lv_at hl 0 rfl) ?_
      refine lv_iconst (v := 1) hx hb dX9_make_48 (by decide) ?_
      refine lv_icmp_ne (tgt := 66) hx hb dX9_make_49 (by decide) (fun c18 => ?_) (fun c18 => ?_)
      · have h := h.1 c18
        refine lv_iload hx hb dX9_make_66 (lv_at hl 0 rfl) ?_
        exact hret _ _ _ _ _ (x, k_12, kt_13, kl_14, j_15, mc_16, md_17, sh, shl) dX9_make_68 rfl h hh
      · have h := h.2 c18
        refine lv_aload_n hx hb dX9_make_52 rfl (lv_at hl 1 rfl) ?_
        refine lv_aload_n hx hb dX9_make_53 rfl (lv_at hl 1 rfl) ?_
        refine G_X9_21 [] [_, _, _, _, _, _, _, _, _, _] hx hb hT hown hK hh dX9_make_54 ?_
        refine G_X9_140 [_] [_, _, _, _, _, _, _, _, _] hx hb hT hown hK hh dX9_make_57 ?_
        have hc := hh.cut [_, _, _, _] [_, _, _, _, _, _, _] [0, 7, 8, 2, 1, 3, 4, 5, 6, 9, 10] 11 rfl (by decide) rfl
        refine kI hc hA (rnV hx hb hml hown hT hK hc (c_X9_bringOut l D E ad (ad 5)  x sh shl kt_13  h _) mf_X9_bringOut kml_X9_143 ⟨rfl, rfl, Nat.le_of_ble_eq_true rfl, Nat.le_of_ble_eq_true rfl⟩ ⟨Nat.le_of_ble_eq_true rfl, Nat.le_of_ble_eq_true rfl⟩ 9 0 rfl rfl hl.1 rfl dX9_make_60 (Nat.le_of_ble_eq_true rfl) rfl) (fun r19 u H locs h hh => ?_)
        obtain ⟨x_20, sh_21, shl_22, kt_23⟩ := u
        have hh : Wh D A s.heap ((List.flatten [bX9 ad E x_20, bX5 ad E k_12, bX8 (ad 5) E kt_23, bX2 (ad 6) E kl_14, bX1 ad E j_15, bX3 (ad 2) E mc_16, bX3 (ad 3) E md_17, bX8 (ad 11) E sh_21, bX2 (ad 12) E shl_22, dC ad E ck (j_15.2.1 1).toNatClampNeg, dK ad E mk (k_12.2.1 1).toNatClampNeg])) _ _ := Wh.back (cs := [_, _, _, _]) (rs := [_, _, _, _, _, _, _]) _ [0, 4, 3, 5, 6, 7, 8, 1, 2, 9, 10] 11 rfl (by decide) rfl hh
        refine lv_goto (tgt := 68) hx hb dX9_make_63 (by decide) ?_
        exact hret _ _ _ _ _ (x_20, k_12, kt_23, kl_14, j_15, mc_16, md_17, sh_21, shl_22) dX9_make_68 rfl h hh
    · have h := h.2 c6
      refine lv_bipush (v := (-2)) hx hb dX9_make_21 (by decide) ?_
      exact hret _ _ _ _ _ (x, k_2, kt, kl, j, mc, md, sh, shl) dX9_make_23 rfl h hh

def w_X9_smaller_L38 (ck : Nat → Ob) (f1_38 : Int32) (K62_38 : Int32 → Ob → Ob → Ob → Ob → Ob → Ob → Ob → Ob → Ob → Ob → Prop) (Post : Int32 → Ob → Ob → Ob → Ob → Ob → Ob → Ob → Ob → Ob → Ob → Prop) : Nat → Int32 → Int32 → Ob → Ob → Ob → Ob → Ob → Ob → Ob → Ob → Ob → Ob → Prop
  | 0, _, _, _, _, _, _, _, _, _, _, _, _ => False
  | n38 + 1, p2_38, p3_38, x_38, sk_38, sl_38, sb_38, sn_38, j_38, mc_38, md_38, sh_38, shl_38 => ((f1_38 < p3_38) → K62_38 p2_38 x_38 sk_38 sl_38 sb_38 sn_38 j_38 mc_38 md_38 sh_38 shl_38) ∧ (¬ (f1_38 < p3_38) → ((¬ p2_38 = 1) → K62_38 p2_38 x_38 sk_38 sl_38 sb_38 sn_38 j_38 mc_38 md_38 sh_38 shl_38) ∧ ((p2_38 = 1) → w_X7_advance ck  sk_38 sl_38 sb_38 sn_38 j_38 mc_38 md_38 (fun (r10 : Int32) (sk_11 : Ob) (sl_12 : Ob) (sb_13 : Ob) (sn_14 : Ob) (j_15 : Ob) (mc_16 : Ob) (md_17 : Ob) => w_X9_smaller_L38 ck f1_38 K62_38 Post n38 r10 (p3_38 + 1) x_38 sk_11 sl_12 sb_13 sn_14 j_15 mc_16 md_17 sh_38 shl_38)))
def w_X9_smaller (ck : Nat → Ob) (x1 : Int32) (x : Ob) (sk : Ob) (sl : Ob) (sb : Ob) (sn : Ob) (j : Ob) (mc : Ob) (md : Ob) (sh : Ob) (shl : Ob) (Post : Int32 → Ob → Ob → Ob → Ob → Ob → Ob → Ob → Ob → Ob → Ob → Prop) : Prop := ((x1 < 0) → Post ((-2)) x sk sl sb sn j mc md sh shl) ∧ (¬ (x1 < 0) → ((x1 ≤ 20) → ((¬ (x.2.1 7) = 0) → w_X7_start   sk sb sh (fun (sk_5 : Ob) (sb_6 : Ob) (sh_7 : Ob) => ∃ n38, w_X9_smaller_L38 ck x1 (fun (k2_62 : Int32) (x_k62 : Ob) (sk_k62 : Ob) (sl_k62 : Ob) (sb_k62 : Ob) (sn_k62 : Ob) (j_k62 : Ob) (mc_k62 : Ob) (md_k62 : Ob) (sh_k62 : Ob) (shl_k62 : Ob) => ((¬ k2_62 = 1) → Post k2_62 x_k62 sk_k62 sl_k62 sb_k62 sn_k62 j_k62 mc_k62 md_k62 sh_k62 shl_k62) ∧ ((k2_62 = 1) → w_X9_bringOut   x_k62 sh_k62 shl_k62 sn_k62 (fun (r19 : Int32) (x_20 : Ob) (sh_21 : Ob) (shl_22 : Ob) (sn_23 : Ob) => Post r19 x_20 sk_k62 sl_k62 sb_k62 sn_23 j_k62 mc_k62 md_k62 sh_21 shl_22))) Post n38 1 0 x sk_5 sl sb_6 sn j mc md sh_7 shl)) ∧ (((x.2.1 7) = 0) → Post ((-9)) x sk sl sb sn j mc md sh shl)) ∧ (¬ (x1 ≤ 20) → Post ((-2)) x sk sl sb sn j mc md sh shl))
set_option maxRecDepth 100000 in
set_option maxHeartbeats 4000000 in
theorem c_X9_smaller (l : Launch) (D : va_G) (E : Nat → ClassId) (ad : Nat → Nat → Nat) (ck : Nat → Ob)  (x : Ob) (sk : Ob) (sl : Ob) (sb : Ob) (sn : Ob) (j : Ob) (mc : Ob) (md : Ob) (sh : Ob) (shl : Ob) (x1 : Int32) {Post : Int32 → Ob → Ob → Ob → Ob → Ob → Ob → Ob → Ob → Ob → Ob → Prop} (h : w_X9_smaller ck x1 x sk sl sb sn j mc md sh shl Post) : CtI l yX9_smaller cX9_smaller 4 .int ({ frames := 6, cells := 0, slots := 0, locals := 144 } : Room) D E [.ref (ad 0 0), .int (x1)] (List.flatten [bX9 ad E x, bX7 ad E sk, bX2 (ad 8) E sl, bX8 (ad 9) E sb, bX8 (ad 10) E sn, bX1 ad E j, bX3 (ad 2) E mc, bX3 (ad 3) E md, bX8 (ad 11) E sh, bX2 (ad 12) E shl, dC ad E ck (j.2.1 1).toNatClampNeg]) (fun u : Ob × Ob × Ob × Ob × Ob × Ob × Ob × Ob × Ob × Ob => List.flatten [bX9 ad E u.1, bX7 ad E u.2.1, bX2 (ad 8) E u.2.2.1, bX8 (ad 9) E u.2.2.2.1, bX8 (ad 10) E u.2.2.2.2.1, bX1 ad E u.2.2.2.2.2.1, bX3 (ad 2) E u.2.2.2.2.2.2.1, bX3 (ad 3) E u.2.2.2.2.2.2.2.1, bX8 (ad 11) E u.2.2.2.2.2.2.2.2.1, bX2 (ad 12) E u.2.2.2.2.2.2.2.2.2, dC ad E ck (u.2.2.2.2.2.1.2.1 1).toNatClampNeg]) (fun (r : Int32) (u : Ob × Ob × Ob × Ob × Ob × Ob × Ob × Ob × Ob × Ob) => Post r u.1 u.2.1 u.2.2.1 u.2.2.2.1 u.2.2.2.2.1 u.2.2.2.2.2.1 u.2.2.2.2.2.2.1 u.2.2.2.2.2.2.2.1 u.2.2.2.2.2.2.2.2.1 u.2.2.2.2.2.2.2.2.2) 0 0 := by
  refine enI (by decide +kernel) (Nat.le_of_ble_eq_true rfl) ?_
  intro p e s m args below meth c Q A ls hx hb hml hown hT hK hA hret hh hl
  have hl : lv_has ls 4 [(0, .ref (ad 0 0)), (1, .int (x1))] := hl
  unfold w_X9_smaller at h
  refine lv_iload_n hx hb dX9_smaller_0 rfl (lv_at hl 1 rfl) ?_
  refine lv_if_lt (tgt := 10) hx hb dX9_smaller_1 (by decide) (fun c1 => ?_) (fun c1 => ?_)
  · have h := h.1 c1
    refine lv_bipush (v := (-2)) hx hb dX9_smaller_10 (by decide) ?_
    exact hret _ _ _ _ _ (x, sk, sl, sb, sn, j, mc, md, sh, shl) dX9_smaller_12 rfl h hh
  · have h := h.2 c1
    refine lv_iload_n hx hb dX9_smaller_4 rfl (lv_at hl 1 rfl) ?_
    refine lv_bipush (v := 20) hx hb dX9_smaller_5 (by decide) ?_
    refine lv_icmp_le (tgt := 13) hx hb dX9_smaller_7 (by decide) (fun c2 => ?_) (fun c2 => ?_)
    · have h := h.1 c2
      refine lv_aload_n hx hb dX9_smaller_13 rfl (lv_at hl 0 rfl) ?_
      refine G_X9_56 [] [_, _, _, _, _, _, _, _, _, _] hx hb hT hown hK hh (v := x.2.1 7) rfl dX9_smaller_14 ?_
      refine lv_if_ne (tgt := 23) hx hb dX9_smaller_17 (by decide) (fun c3 => ?_) (fun c3 => ?_)
      · have h := h.1 c3
        refine lv_aload_n hx hb dX9_smaller_23 rfl (lv_at hl 0 rfl) ?_
        refine G_X9_28 [] [_, _, _, _, _, _, _, _, _, _] hx hb hT hown hK hh dX9_smaller_24 ?_
        refine lv_aload_n hx hb dX9_smaller_27 rfl (lv_at hl 0 rfl) ?_
        refine G_X9_45 [] [_, _, _, _, _, _, _, _, _, _] hx hb hT hown hK hh dX9_smaller_28 ?_
        have hc := hh.cut [_, _, _] [_, _, _, _, _, _, _, _] [1, 3, 8, 0, 2, 4, 5, 6, 7, 9, 10] 11 rfl (by decide) rfl
        refine kV hc hA (rnVN hx hb hml hown hT hK hc (c_X7_start l D E ad (ad 11)  sk sb sh  h _) mf_X7_start nml_X9_147 ⟨rfl, rfl, Nat.le_of_ble_eq_true rfl, Nat.le_of_ble_eq_true rfl⟩ ⟨Nat.le_of_ble_eq_true rfl, Nat.le_of_ble_eq_true rfl⟩ 7 0 rfl rfl hl.1 rfl dX9_smaller_31 (Nat.le_of_ble_eq_true rfl) rfl) (fun u H locs h hh => ?_)
        obtain ⟨sk_5, sb_6, sh_7⟩ := u
        have hh : Wh D A s.heap ((List.flatten [bX9 ad E x, bX7 ad E sk_5, bX2 (ad 8) E sl, bX8 (ad 9) E sb_6, bX8 (ad 10) E sn, bX1 ad E j, bX3 (ad 2) E mc, bX3 (ad 3) E md, bX8 (ad 11) E sh_7, bX2 (ad 12) E shl, dC ad E ck (j.2.1 1).toNatClampNeg])) _ _ := Wh.back (cs := [_, _, _]) (rs := [_, _, _, _, _, _, _, _]) _ [3, 0, 4, 1, 5, 6, 7, 8, 2, 9, 10] 11 rfl (by decide) rfl hh
        refine lv_iconst (v := 1) hx hb dX9_smaller_34 (by decide) ?_
        refine lv_istore_n (lv' := [(2, .int (1)), (0, .ref (ad 0 0)), (1, .int (x1))]) hx hb dX9_smaller_35 rfl hl (by decide) rfl (fun ls hl => ?_)
        refine lv_iconst (v := 0) hx hb dX9_smaller_36 (by decide) ?_
        refine lv_istore_n (lv' := [(3, .int (0)), (2, .int (1)), (0, .ref (ad 0 0)), (1, .int (x1))]) hx hb dX9_smaller_37 rfl hl (by decide) rfl (fun ls hl => ?_)
        have hw38 : ∀ (K62_38 : Int32 → Ob → Ob → Ob → Ob → Ob → Ob → Ob → Ob → Ob → Ob → Prop) (hK62_38 : ∀ (k2_62 : Int32) (x_k62 : Ob) (sk_k62 : Ob) (sl_k62 : Ob) (sb_k62 : Ob) (sn_k62 : Ob) (j_k62 : Ob) (mc_k62 : Ob) (md_k62 : Ob) (sh_k62 : Ob) (shl_k62 : Ob) (H : Heap) (locs : List Loc) (ls : Array Slot), K62_38 k2_62 x_k62 sk_k62 sl_k62 sb_k62 sn_k62 j_k62 mc_k62 md_k62 sh_k62 shl_k62 → Wh D A s.heap ((List.flatten [bX9 ad E x_k62, bX7 ad E sk_k62, bX2 (ad 8) E sl_k62, bX8 (ad 9) E sb_k62, bX8 (ad 10) E sn_k62, bX1 ad E j_k62, bX3 (ad 2) E mc_k62, bX3 (ad 3) E md_k62, bX8 (ad 11) E sh_k62, bX2 (ad 12) E shl_k62, dC ad E ck (j_k62.2.1 1).toNatClampNeg])) H locs → lv_has ls 4 [(0, .ref (ad 0 0)), (2, .int (k2_62))] → W p l e ({ frames := 6, cells := 0, slots := 0, locals := 144 } : Room) s m args below meth c H locs 0 0 Q (F0 m 62 ls [])) (n : Nat) (p2_38 : Int32) (p3_38 : Int32) (x_38 : Ob) (sk_38 : Ob) (sl_38 : Ob) (sb_38 : Ob) (sn_38 : Ob) (j_38 : Ob) (mc_38 : Ob) (md_38 : Ob) (sh_38 : Ob) (shl_38 : Ob) (H : Heap) (locs : List Loc) (ls : Array Slot), w_X9_smaller_L38 ck x1 K62_38 Post n p2_38 p3_38 x_38 sk_38 sl_38 sb_38 sn_38 j_38 mc_38 md_38 sh_38 shl_38 → Wh D A s.heap ((List.flatten [bX9 ad E x_38, bX7 ad E sk_38, bX2 (ad 8) E sl_38, bX8 (ad 9) E sb_38, bX8 (ad 10) E sn_38, bX1 ad E j_38, bX3 (ad 2) E mc_38, bX3 (ad 3) E md_38, bX8 (ad 11) E sh_38, bX2 (ad 12) E shl_38, dC ad E ck (j_38.2.1 1).toNatClampNeg])) H locs → lv_has ls 4 [(0, .ref (ad 0 0)), (1, .int (x1)), (2, .int (p2_38)), (3, .int (p3_38))] → W p l e ({ frames := 6, cells := 0, slots := 0, locals := 144 } : Room) s m args below meth c H locs 0 0 Q (F0 m 38 ls []) := by
          intro K62_38 hK62_38 n
          induction n with
          | zero => intro p2_38 p3_38 x_38 sk_38 sl_38 sb_38 sn_38 j_38 mc_38 md_38 sh_38 shl_38 H locs ls h hh hl; exact False.elim h
          | succ n ih =>
            intro p2_38 p3_38 x_38 sk_38 sl_38 sb_38 sn_38 j_38 mc_38 md_38 sh_38 shl_38 H locs ls h hh hl
            refine lv_iload_n hx hb dX9_smaller_38 rfl (lv_at hl 3 rfl) ?_
            refine lv_iload_n hx hb dX9_smaller_39 rfl (lv_at hl 1 rfl) ?_
            refine lv_icmp_gt (tgt := 62) hx hb dX9_smaller_40 (by decide) (fun c8 => ?_) (fun c8 => ?_)
            · have h := h.1 c8
              exact hK62_38 p2_38 x_38 sk_38 sl_38 sb_38 sn_38 j_38 mc_38 md_38 sh_38 shl_38 _ _ _ h hh (lv_sub hl [0, 2] rfl)
            · have h := h.2 c8
              refine lv_iload_n hx hb dX9_smaller_43 rfl (lv_at hl 2 rfl) ?_
              refine lv_iconst (v := 1) hx hb dX9_smaller_44 (by decide) ?_
              refine lv_icmp_ne (tgt := 62) hx hb dX9_smaller_45 (by decide) (fun c9 => ?_) (fun c9 => ?_)
              · have h := h.1 c9
                exact hK62_38 p2_38 x_38 sk_38 sl_38 sb_38 sn_38 j_38 mc_38 md_38 sh_38 shl_38 _ _ _ h hh (lv_sub hl [0, 2] rfl)
              · have h := h.2 c9
                refine lv_aload_n hx hb dX9_smaller_48 rfl (lv_at hl 0 rfl) ?_
                refine G_X9_28 [] [_, _, _, _, _, _, _, _, _, _] hx hb hT hown hK hh dX9_smaller_49 ?_
                have hc := hh.cut [_, _, _, _, _, _, _, _] [_, _, _] [1, 2, 3, 4, 5, 6, 7, 10, 0, 8, 9] 11 rfl (by decide) rfl
                refine kI hc hA (rnVN hx hb hml hown hT hK hc (c_X7_advance l D E ad ck sk_38 sl_38 sb_38 sn_38 j_38 mc_38 md_38  h _) mf_X7_advance nml_X9_151 ⟨rfl, rfl, Nat.le_of_ble_eq_true rfl, Nat.le_of_ble_eq_true rfl⟩ ⟨Nat.le_of_ble_eq_true rfl, Nat.le_of_ble_eq_true rfl⟩ 7 0 rfl rfl hl.1 rfl dX9_smaller_52 (Nat.le_of_ble_eq_true rfl) rfl) (fun r10 u H locs h hh => ?_)
                obtain ⟨sk_11, sl_12, sb_13, sn_14, j_15, mc_16, md_17⟩ := u
                have hh : Wh D A s.heap ((List.flatten [bX9 ad E x_38, bX7 ad E sk_11, bX2 (ad 8) E sl_12, bX8 (ad 9) E sb_13, bX8 (ad 10) E sn_14, bX1 ad E j_15, bX3 (ad 2) E mc_16, bX3 (ad 3) E md_17, bX8 (ad 11) E sh_38, bX2 (ad 12) E shl_38, dC ad E ck (j_15.2.1 1).toNatClampNeg])) _ _ := Wh.back (cs := [_, _, _, _, _, _, _, _]) (rs := [_, _, _]) _ [8, 0, 1, 2, 3, 4, 5, 6, 9, 10, 7] 11 rfl (by decide) rfl hh
                refine lv_istore_n (lv' := [(2, .int (r10)), (0, .ref (ad 0 0)), (1, .int (x1)), (3, .int (p3_38))]) hx hb dX9_smaller_55 rfl hl (by decide) rfl (fun ls hl => ?_)
                refine lv_iinc (v := p3_38 + 1) (lv' := [(3, .int (p3_38 + 1)), (2, .int (r10)), (0, .ref (ad 0 0)), (1, .int (x1))]) hx hb dX9_smaller_56 hl (k := 3) rfl (by rfl) (by decide) rfl (fun ls hl => ?_)
                refine lv_goto (tgt := 38) hx hb dX9_smaller_59 (by decide) ?_
                exact ih r10 (p3_38 + 1) x_38 sk_11 sl_12 sb_13 sn_14 j_15 mc_16 md_17 sh_38 shl_38 _ _ _ h hh (lv_sub hl [2, 3, 1, 0] rfl)
        obtain ⟨n, h⟩ := h
        refine hw38 _ (fun k2_62 x_k62 sk_k62 sl_k62 sb_k62 sn_k62 j_k62 mc_k62 md_k62 sh_k62 shl_k62 H locs ls h hh hl => ?_) n 1 0 x sk_5 sl sb_6 sn j mc md sh_7 shl _ _ _ h hh (lv_sub hl [2, 3, 1, 0] rfl)
        refine lv_iload_n hx hb dX9_smaller_62 rfl (lv_at hl 1 rfl) ?_
        refine lv_iconst (v := 1) hx hb dX9_smaller_63 (by decide) ?_
        refine lv_icmp_ne (tgt := 81) hx hb dX9_smaller_64 (by decide) (fun c18 => ?_) (fun c18 => ?_)
        · have h := h.1 c18
          refine lv_iload_n hx hb dX9_smaller_81 rfl (lv_at hl 1 rfl) ?_
          exact hret _ _ _ _ _ (x_k62, sk_k62, sl_k62, sb_k62, sn_k62, j_k62, mc_k62, md_k62, sh_k62, shl_k62) dX9_smaller_82 rfl h hh
        · have h := h.2 c18
          refine lv_aload_n hx hb dX9_smaller_67 rfl (lv_at hl 0 rfl) ?_
          refine lv_aload_n hx hb dX9_smaller_68 rfl (lv_at hl 0 rfl) ?_
          refine G_X9_28 [] [_, _, _, _, _, _, _, _, _, _] hx hb hT hown hK hh dX9_smaller_69 ?_
          refine G_X9_155 [_] [_, _, _, _, _, _, _, _, _] hx hb hT hown hK hh dX9_smaller_72 ?_
          have hc := hh.cut [_, _, _, _] [_, _, _, _, _, _, _] [0, 8, 9, 4, 1, 2, 3, 5, 6, 7, 10] 11 rfl (by decide) rfl
          refine kI hc hA (rnV hx hb hml hown hT hK hc (c_X9_bringOut l D E ad (ad 10)  x_k62 sh_k62 shl_k62 sn_k62  h _) mf_X9_bringOut kml_X9_143 ⟨rfl, rfl, Nat.le_of_ble_eq_true rfl, Nat.le_of_ble_eq_true rfl⟩ ⟨Nat.le_of_ble_eq_true rfl, Nat.le_of_ble_eq_true rfl⟩ 9 0 rfl rfl hl.1 rfl dX9_smaller_75 (Nat.le_of_ble_eq_true rfl) rfl) (fun r19 u H locs h hh => ?_)
          obtain ⟨x_20, sh_21, shl_22, sn_23⟩ := u
          have hh : Wh D A s.heap ((List.flatten [bX9 ad E x_20, bX7 ad E sk_k62, bX2 (ad 8) E sl_k62, bX8 (ad 9) E sb_k62, bX8 (ad 10) E sn_23, bX1 ad E j_k62, bX3 (ad 2) E mc_k62, bX3 (ad 3) E md_k62, bX8 (ad 11) E sh_21, bX2 (ad 12) E shl_22, dC ad E ck (j_k62.2.1 1).toNatClampNeg])) _ _ := Wh.back (cs := [_, _, _, _]) (rs := [_, _, _, _, _, _, _]) _ [0, 4, 5, 6, 3, 7, 8, 9, 1, 2, 10] 11 rfl (by decide) rfl hh
          refine lv_goto (tgt := 82) hx hb dX9_smaller_78 (by decide) ?_
          exact hret _ _ _ _ _ (x_20, sk_k62, sl_k62, sb_k62, sn_23, j_k62, mc_k62, md_k62, sh_21, shl_22) dX9_smaller_82 rfl h hh
      · have h := h.2 c3
        refine lv_bipush (v := (-9)) hx hb dX9_smaller_20 (by decide) ?_
        exact hret _ _ _ _ _ (x, sk, sl, sb, sn, j, mc, md, sh, shl) dX9_smaller_22 rfl h hh
    · have h := h.2 c2
      refine lv_bipush (v := (-2)) hx hb dX9_smaller_10 (by decide) ?_
      exact hret _ _ _ _ _ (x, sk, sl, sb, sn, j, mc, md, sh, shl) dX9_smaller_12 rfl h hh

def w_X9_sign (x1 : Int32) (x : Ob) (sh : Ob) (shl : Ob) (Post : Int64 → Ob → Ob → Ob → Prop) : Prop := (((x.2.1 7) = 0) → Post ((-9223372036854775808)) x sh shl) ∧ (¬ ((x.2.1 7) = 0) → w_X8_signAt  x1 sh shl (fun (r2 : Int64) (sh_3 : Ob) (shl_4 : Ob) => Post r2 x sh_3 shl_4))
set_option maxRecDepth 100000 in
set_option maxHeartbeats 4000000 in
theorem c_X9_sign (l : Launch) (D : va_G) (E : Nat → ClassId) (ad : Nat → Nat → Nat)  (x : Ob) (sh : Ob) (shl : Ob) (x1 : Int32) {Post : Int64 → Ob → Ob → Ob → Prop} (h : w_X9_sign x1 x sh shl Post) : CtL l yX9_sign cX9_sign 2 ({ frames := 2, cells := 0, slots := 0, locals := 47 } : Room) D E [.ref (ad 0 0), .int (x1)] (List.flatten [bX9 ad E x, bX8 (ad 11) E sh, bX2 (ad 12) E shl]) (fun u : Ob × Ob × Ob => List.flatten [bX9 ad E u.1, bX8 (ad 11) E u.2.1, bX2 (ad 12) E u.2.2]) (fun (r : Int64) (u : Ob × Ob × Ob) => Post r u.1 u.2.1 u.2.2) 0 0 := by
  refine enL (by decide +kernel) (Nat.le_of_ble_eq_true rfl) ?_
  intro p e s m args below meth c Q A ls hx hb hml hown hT hK hA hret hh hl
  have hl : lv_has ls 2 [(0, .ref (ad 0 0)), (1, .int (x1))] := hl
  unfold w_X9_sign at h
  refine lv_aload_n hx hb dX9_sign_0 rfl (lv_at hl 0 rfl) ?_
  refine G_X9_56 [] [_, _] hx hb hT hown hK hh (v := x.2.1 7) rfl dX9_sign_1 ?_
  refine lv_if_eq (tgt := 22) hx hb dX9_sign_4 (by decide) (fun c1 => ?_) (fun c1 => ?_)
  · have h := h.1 c1
    refine lv_ldc2 (v := (-9223372036854775808)) hx hb hown (hT _ kcL_X9_162) dX9_sign_22 ?_
    exact hret _ _ _ _ _ (x, sh, shl) dX9_sign_25 h hh
  · have h := h.2 c1
    refine lv_aload_n hx hb dX9_sign_7 rfl (lv_at hl 0 rfl) ?_
    refine G_X9_45 [] [_, _] hx hb hT hown hK hh dX9_sign_8 ?_
    refine lv_iload_n hx hb dX9_sign_11 rfl (lv_at hl 1 rfl) ?_
    refine lv_aload_n hx hb dX9_sign_12 rfl (lv_at hl 0 rfl) ?_
    refine G_X9_52 [] [_, _] hx hb hT hown hK hh dX9_sign_13 ?_
    have hc := hh.cut [_, _] [_] [1, 2, 0] 3 rfl (by decide) rfl
    refine kL hc hA (rnVN hx hb hml hown hT hK hc (c_X8_signAt l D E (ad 11) (ad 12)  sh shl x1 h _) mf_X8_signAt nml_X9_158 ⟨rfl, rfl, Nat.le_of_ble_eq_true rfl, Nat.le_of_ble_eq_true rfl⟩ ⟨Nat.le_of_ble_eq_true rfl, Nat.le_of_ble_eq_true rfl⟩ 8 0 rfl rfl hl.1 rfl dX9_sign_16 (Nat.le_of_ble_eq_true rfl) rfl) (fun r2 u H locs h hh => ?_)
    obtain ⟨sh_3, shl_4⟩ := u
    have hh : Wh D A s.heap ((List.flatten [bX9 ad E x, bX8 (ad 11) E sh_3, bX2 (ad 12) E shl_4])) _ _ := Wh.back (cs := [_, _]) (rs := [_]) _ [2, 0, 1] 3 rfl (by decide) rfl hh
    refine lv_goto (tgt := 25) hx hb dX9_sign_19 (by decide) ?_
    exact hret _ _ _ _ _ (x, sh_3, shl_4) dX9_sign_25 h hh

def w_X9_holds (ck : Nat → Ob) (x1 : Int32) (x : Ob) (j : Ob) (mc : Ob) (md : Ob) (shl : Ob) (Post : Int32 → Ob → Ob → Ob → Ob → Ob → Prop) : Prop := w_X1_knows  x1 j (fun (r1 : Int32) (j_2 : Ob) => (j_2.2.1 1 = j.2.1 1) ∧ (((¬ r1 = 0) → ((¬ (x.2.1 7) = 0) → w_X1_verdict ck x1 j_2 mc md shl (fun (r6 : Int32) (j_7 : Ob) (mc_8 : Ob) (md_9 : Ob) (shl_10 : Ob) => ((0 ≤ r6) → Post r6 x j_7 mc_8 md_9 shl_10) ∧ (¬ (0 ≤ r6) → Post (((-10)) + r6) x j_7 mc_8 md_9 shl_10))) ∧ (((x.2.1 7) = 0) → Post ((-3)) x j_2 mc md shl)) ∧ ((r1 = 0) → Post ((-1)) x j_2 mc md shl)))
set_option maxRecDepth 100000 in
set_option maxHeartbeats 4000000 in
theorem c_X9_holds (l : Launch) (D : va_G) (E : Nat → ClassId) (ad : Nat → Nat → Nat) (ck : Nat → Ob)  (x : Ob) (j : Ob) (mc : Ob) (md : Ob) (shl : Ob) (x1 : Int32) {Post : Int32 → Ob → Ob → Ob → Ob → Ob → Prop} (h : w_X9_holds ck x1 x j mc md shl Post) : CtI l yX9_holds cX9_holds 3 .int ({ frames := 4, cells := 0, slots := 0, locals := 96 } : Room) D E [.ref (ad 0 0), .int (x1)] (List.flatten [bX9 ad E x, bX1 ad E j, bX3 (ad 2) E mc, bX3 (ad 3) E md, bX2 (ad 12) E shl, dC ad E ck (j.2.1 1).toNatClampNeg]) (fun u : Ob × Ob × Ob × Ob × Ob => List.flatten [bX9 ad E u.1, bX1 ad E u.2.1, bX3 (ad 2) E u.2.2.1, bX3 (ad 3) E u.2.2.2.1, bX2 (ad 12) E u.2.2.2.2, dC ad E ck (u.2.1.2.1 1).toNatClampNeg]) (fun (r : Int32) (u : Ob × Ob × Ob × Ob × Ob) => Post r u.1 u.2.1 u.2.2.1 u.2.2.2.1 u.2.2.2.2) 0 0 := by
  refine enI (by decide +kernel) (Nat.le_of_ble_eq_true rfl) ?_
  intro p e s m args below meth c Q A ls hx hb hml hown hT hK hA hret hh hl
  have hl : lv_has ls 3 [(0, .ref (ad 0 0)), (1, .int (x1))] := hl
  unfold w_X9_holds at h
  refine lv_aload_n hx hb dX9_holds_0 rfl (lv_at hl 0 rfl) ?_
  refine G_X9_12 [] [_, _, _, _, _] hx hb hT hown hK hh dX9_holds_1 ?_
  refine lv_iload_n hx hb dX9_holds_4 rfl (lv_at hl 1 rfl) ?_
  have hc := hh.cut [_] [_, _, _, _, _] [1, 0, 2, 3, 4, 5] 6 rfl (by decide) rfl
  refine kI hc hA (rnVN hx hb hml hown hT hK hc (c_X1_knows l D E ad  j x1 h _) mf_X1_knows nml_X9_103 ⟨rfl, rfl, Nat.le_of_ble_eq_true rfl, Nat.le_of_ble_eq_true rfl⟩ ⟨Nat.le_of_ble_eq_true rfl, Nat.le_of_ble_eq_true rfl⟩ 1 0 rfl rfl hl.1 rfl dX9_holds_5 (Nat.le_of_ble_eq_true rfl) rfl) (fun r1 j_2 H locs h hh => ?_)
  obtain ⟨g3, h⟩ := h
  rw [← g3] at hh
  have hh : Wh D A s.heap ((List.flatten [bX9 ad E x, bX1 ad E j_2, bX3 (ad 2) E mc, bX3 (ad 3) E md, bX2 (ad 12) E shl, dC ad E ck (j_2.2.1 1).toNatClampNeg])) _ _ := Wh.back (cs := [_]) (rs := [_, _, _, _, _]) _ [1, 0, 2, 3, 4, 5] 6 rfl (by decide) rfl hh
  refine lv_if_ne (tgt := 13) hx hb dX9_holds_8 (by decide) (fun c4 => ?_) (fun c4 => ?_)
  · have h := h.1 c4
    refine lv_aload_n hx hb dX9_holds_13 rfl (lv_at hl 0 rfl) ?_
    refine G_X9_56 [] [_, _, _, _, _] hx hb hT hown hK hh (v := x.2.1 7) rfl dX9_holds_14 ?_
    refine lv_if_ne (tgt := 23) hx hb dX9_holds_17 (by decide) (fun c5 => ?_) (fun c5 => ?_)
    · have h := h.1 c5
      refine lv_aload_n hx hb dX9_holds_23 rfl (lv_at hl 0 rfl) ?_
      refine G_X9_12 [] [_, _, _, _, _] hx hb hT hown hK hh dX9_holds_24 ?_
      refine lv_iload_n hx hb dX9_holds_27 rfl (lv_at hl 1 rfl) ?_
      refine lv_aload_n hx hb dX9_holds_28 rfl (lv_at hl 0 rfl) ?_
      refine G_X9_52 [] [_, _, _, _, _] hx hb hT hown hK hh dX9_holds_29 ?_
      have hc := hh.cut [_, _, _, _, _] [_] [1, 2, 3, 4, 5, 0] 6 rfl (by decide) rfl
      refine kI hc hA (rnVN hx hb hml hown hT hK hc (c_X1_verdict l D E ad (ad 12) ck j_2 mc md shl x1 h _) mf_X1_verdict nml_X9_164 ⟨rfl, rfl, Nat.le_of_ble_eq_true rfl, Nat.le_of_ble_eq_true rfl⟩ ⟨Nat.le_of_ble_eq_true rfl, Nat.le_of_ble_eq_true rfl⟩ 1 0 rfl rfl hl.1 rfl dX9_holds_32 (Nat.le_of_ble_eq_true rfl) rfl) (fun r6 u H locs h hh => ?_)
      obtain ⟨j_7, mc_8, md_9, shl_10⟩ := u
      have hh : Wh D A s.heap ((List.flatten [bX9 ad E x, bX1 ad E j_7, bX3 (ad 2) E mc_8, bX3 (ad 3) E md_9, bX2 (ad 12) E shl_10, dC ad E ck (j_7.2.1 1).toNatClampNeg])) _ _ := Wh.back (cs := [_, _, _, _, _]) (rs := [_]) _ [5, 0, 1, 2, 3, 4] 6 rfl (by decide) rfl hh
      refine lv_istore_n (lv' := [(2, .int (r6)), (0, .ref (ad 0 0)), (1, .int (x1))]) hx hb dX9_holds_35 rfl hl (by decide) rfl (fun ls hl => ?_)
      refine lv_iload_n hx hb dX9_holds_36 rfl (lv_at hl 0 rfl) ?_
      refine lv_if_ge (tgt := 47) hx hb dX9_holds_37 (by decide) (fun c11 => ?_) (fun c11 => ?_)
      · have h := h.1 c11
        refine lv_iload_n hx hb dX9_holds_47 rfl (lv_at hl 0 rfl) ?_
        exact hret _ _ _ _ _ (x, j_7, mc_8, md_9, shl_10) dX9_holds_48 rfl h hh
      · have h := h.2 c11
        refine lv_bipush (v := (-10)) hx hb dX9_holds_40 (by decide) ?_
        refine lv_iload_n hx hb dX9_holds_42 rfl (lv_at hl 0 rfl) ?_
        refine lv_iadd hx hb dX9_holds_43 ?_
        refine lv_goto (tgt := 48) hx hb dX9_holds_44 (by decide) ?_
        exact hret _ _ _ _ _ (x, j_7, mc_8, md_9, shl_10) dX9_holds_48 rfl h hh
    · have h := h.2 c5
      refine lv_bipush (v := (-3)) hx hb dX9_holds_20 (by decide) ?_
      exact hret _ _ _ _ _ (x, j_2, mc, md, shl) dX9_holds_22 rfl h hh
  · have h := h.2 c4
    refine lv_iconst (v := (-1)) hx hb dX9_holds_11 (by decide) ?_
    exact hret _ _ _ _ _ (x, j_2, mc, md, shl) dX9_holds_12 rfl h hh
