def w_X9_below (mk : Nat → Ob) (x1 : Int32) (x : Ob) (k : Ob) (Post : Int32 → (Nat → Ob) → Ob → Ob → Prop) : Prop := w_X5_at  x1 k (fun (r1 : Option Nat) (k_2 : Ob) => (k_2.2.1 1 = k.2.1 1) ∧ ((r1 = none → Post ((-1)) mk x k_2) ∧ (∀ i4 : Nat, r1 = some i4 → i4 < (k_2.2.1 1).toNatClampNeg ∧ (i4 < (k_2.2.1 1).toNatClampNeg ∧ (w_X4_init (7 : Int32) x1 (0 : Int32) (0 : Int32) (0 : Int32) (((mk i4).2.1 5) + 1) ((mk i4).2.1 6) ob0 (fun (nw_8 : Ob) => w_X5_add mk k_2 nw_8 (fun (r9 : Int32) (mk_10 : Nat → Ob) (k_11 : Ob) => Post r9 mk_10 x k_11)))))))
set_option maxRecDepth 100000 in
set_option maxHeartbeats 4000000 in
theorem c_X9_below (l : Launch) (D : va_G) (E : Nat → ClassId) (ad : Nat → Nat → Nat) (mk : Nat → Ob)  (x : Ob) (k : Ob) (x1 : Int32) {Post : Int32 → (Nat → Ob) → Ob → Ob → Prop} (h : w_X9_below mk x1 x k Post) : CtI l yX9_below cX9_below 3 .int ({ frames := 2, cells := 1, slots := 7, locals := 47 } : Room) D E [.ref (ad 0 0), .int (x1)] (List.flatten [bX9 ad E x, bX5 ad E k, dK ad E mk (k.2.1 1).toNatClampNeg]) (fun u : (Nat → Nat → Nat) × (Nat → Ob) × Ob × Ob => List.flatten [bX9 u.1 E u.2.2.1, bX5 u.1 E u.2.2.2, dK u.1 E u.2.1 (u.2.2.2.2.1 1).toNatClampNeg]) (fun (r : Int32) (u : (Nat → Nat → Nat) × (Nat → Ob) × Ob × Ob) => AgO 21 ad u.1 ∧ Post r u.2.1 u.2.2.1 u.2.2.2) 1 7 := by
  refine enI (by decide +kernel) (Nat.le_of_ble_eq_true rfl) ?_
  intro p e s m args below meth c Q A ls hx hb hml hown hT hK hA hret hh hl
  have hl : lv_has ls 3 [(0, .ref (ad 0 0)), (1, .int (x1))] := hl
  unfold w_X9_below at h
  refine lv_aload_n hx hb dX9_below_0 rfl (lv_at hl 0 rfl) ?_
  refine G_X9_21 [] [_, _] hx hb hT hown hK hh dX9_below_1 ?_
  refine lv_iload_n hx hb dX9_below_4 rfl (lv_at hl 1 rfl) ?_
  have hc := hh.cut [_] [_, _] [1, 0, 2] 3 rfl (by decide) rfl
  refine kE hc hA (rnVN hx hb hml hown hT hK hc (c_X5_at l D E ad  k x1 h _) mf_X5_at nml_X9_87 ⟨rfl, rfl, Nat.le_of_ble_eq_true rfl, Nat.le_of_ble_eq_true rfl⟩ ⟨Nat.le_of_ble_eq_true rfl, Nat.le_of_ble_eq_true rfl⟩ 5 0 rfl rfl hl.1 rfl dX9_below_5 (Nat.le_of_ble_eq_true rfl) rfl) (fun r1 k_2 H locs h hh => ?_)
  obtain ⟨g3, h⟩ := h
  rw [← g3] at hh
  have hh : Wh D A s.heap ((List.flatten [bX9 ad E x, bX5 ad E k_2, dK ad E mk (k_2.2.1 1).toNatClampNeg])) _ _ := Wh.back (cs := [_]) (rs := [_, _]) _ [1, 0, 2] 3 rfl (by decide) rfl hh
  cases r1 with
  | none =>
    have h := h.1 rfl
    refine lv_astore_nN (lv' := [(2, .null), (0, .ref (ad 0 0)), (1, .int (x1))]) hx hb dX9_below_8 rfl hl (by decide) rfl (fun ls hl => ?_)
    refine lv_aload_nN hx hb dX9_below_9 rfl (lv_at hl 0 rfl) ?_
    refine lv_ifnonnullN hx hb dX9_below_10 ?_
    refine lv_iconst (v := (-1)) hx hb dX9_below_13 (by decide) ?_
    refine W.widen (k := 1) (n := 7) (by omega) (by omega) ?_
    exact hret _ _ _ _ _ (ad, mk, x, k_2) dX9_below_14 rfl ⟨AgO.rf, h⟩ hh
  | some i4 =>
    have h := h.2 i4 rfl
    refine lv_astore_n (lv' := [(2, .ref (ad 21 i4)), (0, .ref (ad 0 0)), (1, .int (x1))]) hx hb dX9_below_8 rfl hl (by decide) rfl (fun ls hl => ?_)
    refine lv_aload_n hx hb dX9_below_9 rfl (lv_at hl 0 rfl) ?_
    refine lv_ifnonnull (tgt := 15) hx hb dX9_below_10 (by decide) ?_
    refine lv_aload_n hx hb dX9_below_15 rfl (lv_at hl 1 rfl) ?_
    refine G_X9_21 [] [_, _] hx hb hT hown hK hh dX9_below_16 ?_
    refine N_X9_78 hx hb hT hown hK hh hA (Nat.le_of_ble_eq_true rfl) (Nat.le_of_ble_eq_true rfl) dX9_below_19 (fun q5 H hh => ?_)
    have hh : Wh D A s.heap ((List.flatten [bX9 ad E x, bX5 ad E k_2, bX4 (fun _ : Nat => q5) E ob0, dK ad E mk (k_2.2.1 1).toNatClampNeg])) _ _ := Wh.ord _ [0, 1, 3, 2] 4 rfl (by decide) rfl hh.snoc
    refine W.widen (k := 1) (n := 7) (by omega) (by omega) ?_
    refine lv_dup hx hb dX9_below_22 rfl ?_
    refine lv_bipush (v := 7) hx hb dX9_below_23 (by decide) ?_
    refine lv_iload_n hx hb dX9_below_25 rfl (lv_at hl 2 rfl) ?_
    refine lv_iconst (v := 0) hx hb dX9_below_26 (by decide) ?_
    refine lv_iconst (v := 0) hx hb dX9_below_27 (by decide) ?_
    refine lv_iconst (v := 0) hx hb dX9_below_28 (by decide) ?_
    refine lv_aload_n hx hb dX9_below_29 rfl (lv_at hl 0 rfl) ?_
    obtain ⟨g6, h⟩ := h
    refine DG_X9_91 [_, _, _] [] hx hb hT hown hK hh g6 (v := (mk i4).2.1 5) rfl dX9_below_30 ?_
    refine lv_iconst (v := 1) hx hb dX9_below_33 (by decide) ?_
    refine lv_iadd hx hb dX9_below_34 ?_
    refine lv_aload_n hx hb dX9_below_35 rfl (lv_at hl 0 rfl) ?_
    obtain ⟨g7, h⟩ := h
    refine DG_X9_94 [_, _, _] [] hx hb hT hown hK hh g7 (v := (mk i4).2.1 6) rfl dX9_below_36 ?_
    have hc := hh.cut [_] [_, _, _] [2, 0, 1, 3] 4 rfl (by decide) rfl
    refine kV hc hA (rnIN hx hb hml hown hT hK hc (c_X4_init l D E (fun _ : Nat => q5) ob0 (7 : Int32) x1 (0 : Int32) (0 : Int32) (0 : Int32) (((mk i4).2.1 5) + 1) ((mk i4).2.1 6) h _) mf_X4_init nml_X9_80 ⟨rfl, rfl, Nat.le_of_ble_eq_true rfl, Nat.le_of_ble_eq_true rfl⟩ ⟨Nat.le_of_ble_eq_true rfl, Nat.le_of_ble_eq_true rfl⟩ hl.1 rfl dX9_below_39 (Nat.le_of_ble_eq_true rfl) rfl) (fun nw_8 H locs h hh => ?_)
    have hh : Wh D A s.heap ((List.flatten [bX9 ad E x, bX5 ad E k_2, bX4 (fun _ : Nat => q5) E nw_8, dK ad E mk (k_2.2.1 1).toNatClampNeg])) _ _ := Wh.back (cs := [_]) (rs := [_, _, _]) _ [1, 2, 0, 3] 4 rfl (by decide) rfl hh
    have hc := hh.cut [_, _, _] [_] [1, 2, 3, 0] 4 rfl (by decide) rfl
    refine kI hc hA (rnVN hx hb hml hown hT hK hc (c_X5_add l D E ad (fun _ : Nat => q5) mk k_2 nw_8 h _) mf_X5_add nml_X9_83 ⟨rfl, rfl, Nat.le_of_ble_eq_true rfl, Nat.le_of_ble_eq_true rfl⟩ ⟨Nat.le_of_ble_eq_true rfl, Nat.le_of_ble_eq_true rfl⟩ 5 0 rfl rfl hl.1 rfl dX9_below_42 (Nat.le_of_ble_eq_true rfl) rfl) (fun r9 u H locs h hh => ?_)
    obtain ⟨ad_12, mk_10, k_11⟩ := u
    obtain ⟨g13, h⟩ := h
    rw [show bX9 ad E x = bX9 ad_12 E x from bX9_ag (Or.inr rfl) g13] at hh
    have hh : Wh D A s.heap (List.flatten [bX9 ad_12 E x, bX5 ad_12 E k_11, dK ad_12 E mk_10 (k_11.2.1 1).toNatClampNeg]) _ _ := Wh.back (cs := [_, _]) (rs := [_]) _ [2, 0, 1] 3 rfl (by decide) rfl hh
    refine W.widen (k := 1) (n := 7) (by omega) (by omega) ?_
    exact hret _ _ _ _ _ (ad_12, mk_10, x, k_11) dX9_below_45 rfl ⟨g13, h⟩ hh

def w_X9_picked (mk : Nat → Ob) (x1 : Int32) (x2 : Int32) (x : Ob) (k : Ob) (j : Ob) (Post : Int32 → (Nat → Ob) → Ob → Ob → Ob → Prop) : Prop := w_X5_at  x1 k (fun (r1 : Option Nat) (k_2 : Ob) => (k_2.2.1 1 = k.2.1 1) ∧ ((r1 = none → Post ((-1)) mk x k_2 j) ∧ (∀ i4 : Nat, r1 = some i4 → w_X1_knows  x2 j (fun (r5 : Int32) (j_6 : Ob) => ((¬ r5 = 0) → i4 < (k_2.2.1 1).toNatClampNeg ∧ (((((mk i4).2.1 6) = 0) → i4 < (k_2.2.1 1).toNatClampNeg ∧ (w_X4_init (5 : Int32) x1 x2 (0 : Int32) (0 : Int32) (((mk i4).2.1 5) + 1) (1 : Int32) ob0 (fun (nw_12 : Ob) => w_X5_add mk k_2 nw_12 (fun (r13 : Int32) (mk_14 : Nat → Ob) (k_15 : Ob) => Post r13 mk_14 x k_15 j_6)))) ∧ (¬ (((mk i4).2.1 6) = 0) → Post ((-3)) mk x k_2 j_6))) ∧ ((r5 = 0) → Post ((-1)) mk x k_2 j_6)))))
set_option maxRecDepth 100000 in
set_option maxHeartbeats 4000000 in
theorem c_X9_picked (l : Launch) (D : va_G) (E : Nat → ClassId) (ad : Nat → Nat → Nat) (mk : Nat → Ob)  (x : Ob) (k : Ob) (j : Ob) (x1 : Int32) (x2 : Int32) {Post : Int32 → (Nat → Ob) → Ob → Ob → Ob → Prop} (h : w_X9_picked mk x1 x2 x k j Post) : CtI l yX9_picked cX9_picked 4 .int ({ frames := 2, cells := 1, slots := 7, locals := 47 } : Room) D E [.ref (ad 0 0), .int (x1), .int (x2)] (List.flatten [bX9 ad E x, bX5 ad E k, bX1 ad E j, dK ad E mk (k.2.1 1).toNatClampNeg]) (fun u : (Nat → Nat → Nat) × (Nat → Ob) × Ob × Ob × Ob => List.flatten [bX9 u.1 E u.2.2.1, bX5 u.1 E u.2.2.2.1, bX1 u.1 E u.2.2.2.2, dK u.1 E u.2.1 (u.2.2.2.1.2.1 1).toNatClampNeg]) (fun (r : Int32) (u : (Nat → Nat → Nat) × (Nat → Ob) × Ob × Ob × Ob) => AgO 21 ad u.1 ∧ Post r u.2.1 u.2.2.1 u.2.2.2.1 u.2.2.2.2) 1 7 := by
  refine enI (by decide +kernel) (Nat.le_of_ble_eq_true rfl) ?_
  intro p e s m args below meth c Q A ls hx hb hml hown hT hK hA hret hh hl
  have hl : lv_has ls 4 [(0, .ref (ad 0 0)), (1, .int (x1)), (2, .int (x2))] := hl
  unfold w_X9_picked at h
  refine lv_aload_n hx hb dX9_picked_0 rfl (lv_at hl 0 rfl) ?_
  refine G_X9_21 [] [_, _, _] hx hb hT hown hK hh dX9_picked_1 ?_
  refine lv_iload_n hx hb dX9_picked_4 rfl (lv_at hl 1 rfl) ?_
  have hc := hh.cut [_] [_, _, _] [1, 0, 2, 3] 4 rfl (by decide) rfl
  refine kE hc hA (rnVN hx hb hml hown hT hK hc (c_X5_at l D E ad  k x1 h _) mf_X5_at nml_X9_87 ⟨rfl, rfl, Nat.le_of_ble_eq_true rfl, Nat.le_of_ble_eq_true rfl⟩ ⟨Nat.le_of_ble_eq_true rfl, Nat.le_of_ble_eq_true rfl⟩ 5 0 rfl rfl hl.1 rfl dX9_picked_5 (Nat.le_of_ble_eq_true rfl) rfl) (fun r1 k_2 H locs h hh => ?_)
  obtain ⟨g3, h⟩ := h
  rw [← g3] at hh
  have hh : Wh D A s.heap ((List.flatten [bX9 ad E x, bX5 ad E k_2, bX1 ad E j, dK ad E mk (k_2.2.1 1).toNatClampNeg])) _ _ := Wh.back (cs := [_]) (rs := [_, _, _]) _ [1, 0, 2, 3] 4 rfl (by decide) rfl hh
  cases r1 with
  | none =>
    have h := h.1 rfl
    refine lv_astore_nN (lv' := [(3, .null), (0, .ref (ad 0 0)), (1, .int (x1)), (2, .int (x2))]) hx hb dX9_picked_8 rfl hl (by decide) rfl (fun ls hl => ?_)
    refine lv_aload_nN hx hb dX9_picked_9 rfl (lv_at hl 0 rfl) ?_
    refine lv_ifnullN (tgt := 24) hx hb dX9_picked_10 (by decide) ?_
    refine lv_iconst (v := (-1)) hx hb dX9_picked_24 (by decide) ?_
    refine W.widen (k := 1) (n := 7) (by omega) (by omega) ?_
    exact hret _ _ _ _ _ (ad, mk, x, k_2, j) dX9_picked_25 rfl ⟨AgO.rf, h⟩ hh
  | some i4 =>
    have h := h.2 i4 rfl
    refine lv_astore_n (lv' := [(3, .ref (ad 21 i4)), (0, .ref (ad 0 0)), (1, .int (x1)), (2, .int (x2))]) hx hb dX9_picked_8 rfl hl (by decide) rfl (fun ls hl => ?_)
    refine lv_aload_n hx hb dX9_picked_9 rfl (lv_at hl 0 rfl) ?_
    refine lv_ifnull hx hb dX9_picked_10 ?_
    refine lv_aload_n hx hb dX9_picked_13 rfl (lv_at hl 1 rfl) ?_
    refine G_X9_12 [] [_, _, _] hx hb hT hown hK hh dX9_picked_14 ?_
    refine lv_iload_n hx hb dX9_picked_17 rfl (lv_at hl 3 rfl) ?_
    have hc := hh.cut [_] [_, _, _] [2, 0, 1, 3] 4 rfl (by decide) rfl
    refine kI hc hA (rnVN hx hb hml hown hT hK hc (c_X1_knows l D E ad  j x2 h _) mf_X1_knows nml_X9_103 ⟨rfl, rfl, Nat.le_of_ble_eq_true rfl, Nat.le_of_ble_eq_true rfl⟩ ⟨Nat.le_of_ble_eq_true rfl, Nat.le_of_ble_eq_true rfl⟩ 1 0 rfl rfl hl.1 rfl dX9_picked_18 (Nat.le_of_ble_eq_true rfl) rfl) (fun r5 j_6 H locs h hh => ?_)
    have hh : Wh D A s.heap ((List.flatten [bX9 ad E x, bX5 ad E k_2, bX1 ad E j_6, dK ad E mk (k_2.2.1 1).toNatClampNeg])) _ _ := Wh.back (cs := [_]) (rs := [_, _, _]) _ [1, 2, 0, 3] 4 rfl (by decide) rfl hh
    refine lv_if_ne (tgt := 26) hx hb dX9_picked_21 (by decide) (fun c7 => ?_) (fun c7 => ?_)
    · have h := h.1 c7
      refine lv_aload_n hx hb dX9_picked_26 rfl (lv_at hl 0 rfl) ?_
      obtain ⟨g8, h⟩ := h
      refine DG_X9_94 [_, _, _] [] hx hb hT hown hK hh g8 (v := (mk i4).2.1 6) rfl dX9_picked_27 ?_
      refine lv_if_eq (tgt := 36) hx hb dX9_picked_30 (by decide) (fun c9 => ?_) (fun c9 => ?_)
      · have h := h.1 c9
        refine lv_aload_n hx hb dX9_picked_36 rfl (lv_at hl 1 rfl) ?_
        refine G_X9_21 [] [_, _, _] hx hb hT hown hK hh dX9_picked_37 ?_
        refine N_X9_78 hx hb hT hown hK hh hA (Nat.le_of_ble_eq_true rfl) (Nat.le_of_ble_eq_true rfl) dX9_picked_40 (fun q10 H hh => ?_)
        have hh : Wh D A s.heap ((List.flatten [bX9 ad E x, bX5 ad E k_2, bX1 ad E j_6, bX4 (fun _ : Nat => q10) E ob0, dK ad E mk (k_2.2.1 1).toNatClampNeg])) _ _ := Wh.ord _ [0, 1, 2, 4, 3] 5 rfl (by decide) rfl hh.snoc
        refine W.widen (k := 1) (n := 7) (by omega) (by omega) ?_
        refine lv_dup hx hb dX9_picked_43 rfl ?_
        refine lv_iconst (v := 5) hx hb dX9_picked_44 (by decide) ?_
        refine lv_iload_n hx hb dX9_picked_45 rfl (lv_at hl 2 rfl) ?_
        refine lv_iload_n hx hb dX9_picked_46 rfl (lv_at hl 3 rfl) ?_
        refine lv_iconst (v := 0) hx hb dX9_picked_47 (by decide) ?_
        refine lv_iconst (v := 0) hx hb dX9_picked_48 (by decide) ?_
        refine lv_aload_n hx hb dX9_picked_49 rfl (lv_at hl 0 rfl) ?_
        obtain ⟨g11, h⟩ := h
        refine DG_X9_91 [_, _, _, _] [] hx hb hT hown hK hh g11 (v := (mk i4).2.1 5) rfl dX9_picked_50 ?_
        refine lv_iconst (v := 1) hx hb dX9_picked_53 (by decide) ?_
        refine lv_iadd hx hb dX9_picked_54 ?_
        refine lv_iconst (v := 1) hx hb dX9_picked_55 (by decide) ?_
        have hc := hh.cut [_] [_, _, _, _] [3, 0, 1, 2, 4] 5 rfl (by decide) rfl
        refine kV hc hA (rnIN hx hb hml hown hT hK hc (c_X4_init l D E (fun _ : Nat => q10) ob0 (5 : Int32) x1 x2 (0 : Int32) (0 : Int32) (((mk i4).2.1 5) + 1) (1 : Int32) h _) mf_X4_init nml_X9_80 ⟨rfl, rfl, Nat.le_of_ble_eq_true rfl, Nat.le_of_ble_eq_true rfl⟩ ⟨Nat.le_of_ble_eq_true rfl, Nat.le_of_ble_eq_true rfl⟩ hl.1 rfl dX9_picked_56 (Nat.le_of_ble_eq_true rfl) rfl) (fun nw_12 H locs h hh => ?_)
        have hh : Wh D A s.heap ((List.flatten [bX9 ad E x, bX5 ad E k_2, bX1 ad E j_6, bX4 (fun _ : Nat => q10) E nw_12, dK ad E mk (k_2.2.1 1).toNatClampNeg])) _ _ := Wh.back (cs := [_]) (rs := [_, _, _, _]) _ [1, 2, 3, 0, 4] 5 rfl (by decide) rfl hh
        have hc := hh.cut [_, _, _] [_, _] [1, 3, 4, 0, 2] 5 rfl (by decide) rfl
        refine kI hc hA (rnVN hx hb hml hown hT hK hc (c_X5_add l D E ad (fun _ : Nat => q10) mk k_2 nw_12 h _) mf_X5_add nml_X9_83 ⟨rfl, rfl, Nat.le_of_ble_eq_true rfl, Nat.le_of_ble_eq_true rfl⟩ ⟨Nat.le_of_ble_eq_true rfl, Nat.le_of_ble_eq_true rfl⟩ 5 0 rfl rfl hl.1 rfl dX9_picked_59 (Nat.le_of_ble_eq_true rfl) rfl) (fun r13 u H locs h hh => ?_)
        obtain ⟨ad_16, mk_14, k_15⟩ := u
        obtain ⟨g17, h⟩ := h
        rw [show bX9 ad E x = bX9 ad_16 E x from bX9_ag (Or.inr rfl) g17] at hh
        rw [show bX1 ad E j_6 = bX1 ad_16 E j_6 from bX1_ag (Or.inl rfl) g17] at hh
        have hh : Wh D A s.heap (List.flatten [bX9 ad_16 E x, bX5 ad_16 E k_15, bX1 ad_16 E j_6, dK ad_16 E mk_14 (k_15.2.1 1).toNatClampNeg]) _ _ := Wh.back (cs := [_, _]) (rs := [_, _]) _ [2, 0, 3, 1] 4 rfl (by decide) rfl hh
        refine W.widen (k := 1) (n := 7) (by omega) (by omega) ?_
        exact hret _ _ _ _ _ (ad_16, mk_14, x, k_15, j_6) dX9_picked_62 rfl ⟨g17, h⟩ hh
      · have h := h.2 c9
        refine lv_bipush (v := (-3)) hx hb dX9_picked_33 (by decide) ?_
        refine W.widen (k := 1) (n := 7) (by omega) (by omega) ?_
        exact hret _ _ _ _ _ (ad, mk, x, k_2, j_6) dX9_picked_35 rfl ⟨AgO.rf, h⟩ hh
    · have h := h.2 c7
      refine lv_iconst (v := (-1)) hx hb dX9_picked_24 (by decide) ?_
      refine W.widen (k := 1) (n := 7) (by omega) (by omega) ?_
      exact hret _ _ _ _ _ (ad, mk, x, k_2, j_6) dX9_picked_25 rfl ⟨AgO.rf, h⟩ hh

def w_X9_check (ck : Nat → Ob) (x1 : Int32) (x2 : Int32) (x3 : Int32) (x : Ob) (j : Ob) (Post : Int32 → (Nat → Ob) → Ob → Ob → Prop) : Prop := ((x1 < 0) → Post ((-2)) ck x j) ∧ (¬ (x1 < 0) → ((11 < x1) → Post ((-2)) ck x j) ∧ (¬ (11 < x1) → jn (fun J27 : Ob → Ob → Prop => ((¬ x1 = 11) → J27 x j) ∧ ((x1 = 11) → w_X9_isMachine  x2 x3  (fun (r4 : Int32) => ((¬ r4 = 0) → J27 x j) ∧ ((r4 = 0) → Post ((-2)) ck x j)))) (fun (x_27 : Ob) (j_27 : Ob) => w_X0_init x1 x2 x3 ob0 (fun (nw_7 : Ob) => w_X0_asksFirst   nw_7 (fun (r8 : Int32) (nw_9 : Ob) => jn (fun J58 : Ob → Ob → Ob → Prop => ((r8 = 0) → J58 x_27 j_27 nw_9) ∧ (¬ (r8 = 0) → w_X1_knows  x2 j_27 (fun (r11 : Int32) (j_12 : Ob) => (j_12.2.1 1 = j_27.2.1 1) ∧ (((r11 = 0) → Post ((-1)) ck x_27 j_12) ∧ (¬ (r11 = 0) → J58 x_27 j_12 nw_9))))) (fun (x_58 : Ob) (j_58 : Ob) (nw_58 : Ob) => w_X0_asksSecond   nw_58 (fun (r15 : Int32) (nw_16 : Ob) => jn (fun J79 : Ob → Ob → Ob → Prop => ((r15 = 0) → J79 x_58 j_58 nw_16) ∧ (¬ (r15 = 0) → w_X1_knows  x3 j_58 (fun (r18 : Int32) (j_19 : Ob) => (j_19.2.1 1 = j_58.2.1 1) ∧ (((¬ r18 = 0) → J79 x_58 j_19 nw_16) ∧ ((r18 = 0) → Post ((-1)) ck x_58 j_19))))) (fun (x_79 : Ob) (j_79 : Ob) (nw_79 : Ob) => w_X1_add ck j_79 nw_79 (fun (r22 : Int32) (ck_23 : Nat → Ob) (j_24 : Ob) => Post r22 ck_23 x_79 j_24)))))))))
set_option maxRecDepth 100000 in
set_option maxHeartbeats 4000000 in
theorem c_X9_check (l : Launch) (D : va_G) (E : Nat → ClassId) (ad : Nat → Nat → Nat) (ck : Nat → Ob)  (x : Ob) (j : Ob) (x1 : Int32) (x2 : Int32) (x3 : Int32) {Post : Int32 → (Nat → Ob) → Ob → Ob → Prop} (h : w_X9_check ck x1 x2 x3 x j Post) : CtI l yX9_check cX9_check 5 .int ({ frames := 2, cells := 1, slots := 3, locals := 43 } : Room) D E [.ref (ad 0 0), .int (x1), .int (x2), .int (x3)] (List.flatten [bX9 ad E x, bX1 ad E j, dC ad E ck (j.2.1 1).toNatClampNeg]) (fun u : (Nat → Nat → Nat) × (Nat → Ob) × Ob × Ob => List.flatten [bX9 u.1 E u.2.2.1, bX1 u.1 E u.2.2.2, dC u.1 E u.2.1 (u.2.2.2.2.1 1).toNatClampNeg]) (fun (r : Int32) (u : (Nat → Nat → Nat) × (Nat → Ob) × Ob × Ob) => AgO 20 ad u.1 ∧ Post r u.2.1 u.2.2.1 u.2.2.2) 1 3 := by
  refine enI (by decide +kernel) (Nat.le_of_ble_eq_true rfl) ?_
  intro p e s m args below meth c Q A ls hx hb hml hown hT hK hA hret hh hl
  have hl : lv_has ls 5 [(0, .ref (ad 0 0)), (1, .int (x1)), (2, .int (x2)), (3, .int (x3))] := hl
  unfold w_X9_check at h
  refine lv_iload_n hx hb dX9_check_0 rfl (lv_at hl 1 rfl) ?_
  refine lv_if_lt (tgt := 24) hx hb dX9_check_1 (by decide) (fun c1 => ?_) (fun c1 => ?_)
  · have h := h.1 c1
    refine lv_bipush (v := (-2)) hx hb dX9_check_24 (by decide) ?_
    refine W.widen (k := 1) (n := 3) (by omega) (by omega) ?_
    exact hret _ _ _ _ _ (ad, ck, x, j) dX9_check_26 rfl ⟨AgO.rf, h⟩ hh
  · have h := h.2 c1
    refine lv_iload_n hx hb dX9_check_4 rfl (lv_at hl 1 rfl) ?_
    refine lv_bipush (v := 11) hx hb dX9_check_5 (by decide) ?_
    refine lv_icmp_gt (tgt := 24) hx hb dX9_check_7 (by decide) (fun c2 => ?_) (fun c2 => ?_)
    · have h := h.1 c2
      refine lv_bipush (v := (-2)) hx hb dX9_check_24 (by decide) ?_
      refine W.widen (k := 1) (n := 3) (by omega) (by omega) ?_
      exact hret _ _ _ _ _ (ad, ck, x, j) dX9_check_26 rfl ⟨AgO.rf, h⟩ hh
    · have h := h.2 c2
      refine lv_iload_n hx hb dX9_check_10 rfl (lv_at hl 1 rfl) ?_
      refine lv_bipush (v := 11) hx hb dX9_check_11 (by decide) ?_
      refine jn_elim h (fun J27 hJ27 h => ?_)
      have kJ27 : ∀ (x_27 : Ob) (j_27 : Ob) (H : Heap) (locs : List Loc) (ls : Array Slot), J27 x_27 j_27 → Wh D A s.heap ((List.flatten [bX9 ad E x_27, bX1 ad E j_27, dC ad E ck (j_27.2.1 1).toNatClampNeg])) H locs → lv_has ls 5 [(0, .ref (ad 0 0)), (1, .int (x1)), (2, .int (x2)), (3, .int (x3))] → W p l e ({ frames := 2, cells := 1, slots := 3, locals := 43 } : Room) s m args below meth c H locs 0 0 Q (F0 m 27 ls []) := by
        intro x_27 j_27 H locs ls h hh hl
        rw [hJ27] at h
        refine N_X9_110 hx hb hT hown hK hh hA (Nat.le_of_ble_eq_true rfl) (Nat.le_of_ble_eq_true rfl) dX9_check_27 (fun q6 H hh => ?_)
        have hh : Wh D A s.heap ((List.flatten [bX9 ad E x_27, bX1 ad E j_27, bX0 (fun _ : Nat => q6) E ob0, dC ad E ck (j_27.2.1 1).toNatClampNeg])) _ _ := Wh.ord _ [0, 1, 3, 2] 4 rfl (by decide) rfl hh.snoc
        refine W.widen (k := 1) (n := 3) (by omega) (by omega) ?_
        refine lv_dup hx hb dX9_check_30 rfl ?_
        refine lv_iload_n hx hb dX9_check_31 rfl (lv_at hl 1 rfl) ?_
        refine lv_iload_n hx hb dX9_check_32 rfl (lv_at hl 2 rfl) ?_
        refine lv_iload_n hx hb dX9_check_33 rfl (lv_at hl 3 rfl) ?_
        have hc := hh.cut [_] [_, _, _] [2, 0, 1, 3] 4 rfl (by decide) rfl
        refine kV hc hA (rnIN hx hb hml hown hT hK hc (c_X0_init l D E (fun _ : Nat => q6) ob0 x1 x2 x3 h _) mf_X0_init nml_X9_116 ⟨rfl, rfl, Nat.le_of_ble_eq_true rfl, Nat.le_of_ble_eq_true rfl⟩ ⟨Nat.le_of_ble_eq_true rfl, Nat.le_of_ble_eq_true rfl⟩ hl.1 rfl dX9_check_34 (Nat.le_of_ble_eq_true rfl) rfl) (fun nw_7 H locs h hh => ?_)
        have hh : Wh D A s.heap ((List.flatten [bX9 ad E x_27, bX1 ad E j_27, bX0 (fun _ : Nat => q6) E nw_7, dC ad E ck (j_27.2.1 1).toNatClampNeg])) _ _ := Wh.back (cs := [_]) (rs := [_, _, _]) _ [1, 2, 0, 3] 4 rfl (by decide) rfl hh
        refine lv_astore (lv' := [(4, .ref (q6)), (0, .ref (ad 0 0)), (1, .int (x1)), (2, .int (x2)), (3, .int (x3))]) hx hb dX9_check_37 hl (by decide) rfl (fun ls hl => ?_)
        refine lv_aload hx hb dX9_check_39 (lv_at hl 0 rfl) ?_
        have hc := hh.cut [_] [_, _, _] [2, 0, 1, 3] 4 rfl (by decide) rfl
        refine kI hc hA (rnVN hx hb hml hown hT hK hc (c_X0_asksFirst l D E (fun _ : Nat => q6)  nw_7  h _) mf_X0_asksFirst nml_X9_119 ⟨rfl, rfl, Nat.le_of_ble_eq_true rfl, Nat.le_of_ble_eq_true rfl⟩ ⟨Nat.le_of_ble_eq_true rfl, Nat.le_of_ble_eq_true rfl⟩ 0 0 rfl rfl hl.1 rfl dX9_check_41 (Nat.le_of_ble_eq_true rfl) rfl) (fun r8 nw_9 H locs h hh => ?_)
        have hh : Wh D A s.heap ((List.flatten [bX9 ad E x_27, bX1 ad E j_27, bX0 (fun _ : Nat => q6) E nw_9, dC ad E ck (j_27.2.1 1).toNatClampNeg])) _ _ := Wh.back (cs := [_]) (rs := [_, _, _]) _ [1, 2, 0, 3] 4 rfl (by decide) rfl hh
        refine jn_elim h (fun J58 hJ58 h => ?_)
        have kJ58 : ∀ (x_58 : Ob) (j_58 : Ob) (nw_58 : Ob) (H : Heap) (locs : List Loc) (ls : Array Slot), J58 x_58 j_58 nw_58 → Wh D A s.heap ((List.flatten [bX9 ad E x_58, bX1 ad E j_58, bX0 (fun _ : Nat => q6) E nw_58, dC ad E ck (j_58.2.1 1).toNatClampNeg])) H locs → lv_has ls 5 [(0, .ref (ad 0 0)), (3, .int (x3)), (4, .ref (q6))] → W p l e ({ frames := 2, cells := 1, slots := 3, locals := 43 } : Room) s m args below meth c H locs 1 3 Q (F0 m 58 ls []) := by
          intro x_58 j_58 nw_58 H locs ls h hh hl
          rw [hJ58] at h
          refine lv_aload hx hb dX9_check_58 (lv_at hl 2 rfl) ?_
          have hc := hh.cut [_] [_, _, _] [2, 0, 1, 3] 4 rfl (by decide) rfl
          refine kI hc hA (rnVN hx hb hml hown hT hK hc (c_X0_asksSecond l D E (fun _ : Nat => q6)  nw_58  h _) mf_X0_asksSecond nml_X9_123 ⟨rfl, rfl, Nat.le_of_ble_eq_true rfl, Nat.le_of_ble_eq_true rfl⟩ ⟨Nat.le_of_ble_eq_true rfl, Nat.le_of_ble_eq_true rfl⟩ 0 0 rfl rfl hl.1 rfl dX9_check_60 (Nat.le_of_ble_eq_true rfl) rfl) (fun r15 nw_16 H locs h hh => ?_)
          have hh : Wh D A s.heap ((List.flatten [bX9 ad E x_58, bX1 ad E j_58, bX0 (fun _ : Nat => q6) E nw_16, dC ad E ck (j_58.2.1 1).toNatClampNeg])) _ _ := Wh.back (cs := [_]) (rs := [_, _, _]) _ [1, 2, 0, 3] 4 rfl (by decide) rfl hh
          refine jn_elim h (fun J79 hJ79 h => ?_)
          have kJ79 : ∀ (x_79 : Ob) (j_79 : Ob) (nw_79 : Ob) (H : Heap) (locs : List Loc) (ls : Array Slot), J79 x_79 j_79 nw_79 → Wh D A s.heap ((List.flatten [bX9 ad E x_79, bX1 ad E j_79, bX0 (fun _ : Nat => q6) E nw_79, dC ad E ck (j_79.2.1 1).toNatClampNeg])) H locs → lv_has ls 5 [(0, .ref (ad 0 0)), (4, .ref (q6))] → W p l e ({ frames := 2, cells := 1, slots := 3, locals := 43 } : Room) s m args below meth c H locs 1 3 Q (F0 m 79 ls []) := by
            intro x_79 j_79 nw_79 H locs ls h hh hl
            rw [hJ79] at h
            refine lv_aload_n hx hb dX9_check_79 rfl (lv_at hl 0 rfl) ?_
            refine G_X9_12 [] [_, _, _] hx hb hT hown hK hh dX9_check_80 ?_
            refine lv_aload hx hb dX9_check_83 (lv_at hl 1 rfl) ?_
            have hc := hh.cut [_, _, _] [_] [1, 2, 3, 0] 4 rfl (by decide) rfl
            refine kI hc hA (rnVN hx hb hml hown hT hK hc (c_X1_add l D E ad (fun _ : Nat => q6) ck j_79 nw_79 h _) mf_X1_add nml_X9_126 ⟨rfl, rfl, Nat.le_of_ble_eq_true rfl, Nat.le_of_ble_eq_true rfl⟩ ⟨Nat.le_of_ble_eq_true rfl, Nat.le_of_ble_eq_true rfl⟩ 1 0 rfl rfl hl.1 rfl dX9_check_85 (Nat.le_of_ble_eq_true rfl) rfl) (fun r22 u H locs h hh => ?_)
            obtain ⟨ad_25, ck_23, j_24⟩ := u
            obtain ⟨g26, h⟩ := h
            rw [show bX9 ad E x_79 = bX9 ad_25 E x_79 from bX9_ag (Or.inl rfl) g26] at hh
            have hh : Wh D A s.heap (List.flatten [bX9 ad_25 E x_79, bX1 ad_25 E j_24, dC ad_25 E ck_23 (j_24.2.1 1).toNatClampNeg]) _ _ := Wh.back (cs := [_, _]) (rs := [_]) _ [2, 0, 1] 3 rfl (by decide) rfl hh
            refine W.widen (k := 1) (n := 3) (by omega) (by omega) ?_
            exact hret _ _ _ _ _ (ad_25, ck_23, x_79, j_24) dX9_check_88 rfl ⟨g26, h⟩ hh
          refine lv_if_eq (tgt := 79) hx hb dX9_check_63 (by decide) (fun c17 => ?_) (fun c17 => ?_)
          · have h := h.1 c17
            exact kJ79 x_58 j_58 nw_16 _ _ _ h hh (lv_sub hl [0, 2] rfl)
          · have h := h.2 c17
            refine lv_aload_n hx hb dX9_check_66 rfl (lv_at hl 0 rfl) ?_
            refine G_X9_12 [] [_, _, _] hx hb hT hown hK hh dX9_check_67 ?_
            refine lv_iload_n hx hb dX9_check_70 rfl (lv_at hl 1 rfl) ?_
            have hc := hh.cut [_] [_, _, _] [1, 0, 2, 3] 4 rfl (by decide) rfl
            refine kI hc hA (rnVN hx hb hml hown hT hK hc (c_X1_knows l D E ad  j_58 x3 h _) mf_X1_knows nml_X9_103 ⟨rfl, rfl, Nat.le_of_ble_eq_true rfl, Nat.le_of_ble_eq_true rfl⟩ ⟨Nat.le_of_ble_eq_true rfl, Nat.le_of_ble_eq_true rfl⟩ 1 0 rfl rfl hl.1 rfl dX9_check_71 (Nat.le_of_ble_eq_true rfl) rfl) (fun r18 j_19 H locs h hh => ?_)
            obtain ⟨g20, h⟩ := h
            rw [← g20] at hh
            have hh : Wh D A s.heap ((List.flatten [bX9 ad E x_58, bX1 ad E j_19, bX0 (fun _ : Nat => q6) E nw_16, dC ad E ck (j_19.2.1 1).toNatClampNeg])) _ _ := Wh.back (cs := [_]) (rs := [_, _, _]) _ [1, 0, 2, 3] 4 rfl (by decide) rfl hh
            refine lv_if_ne (tgt := 79) hx hb dX9_check_74 (by decide) (fun c21 => ?_) (fun c21 => ?_)
            · have h := h.1 c21
              exact kJ79 x_58 j_19 nw_16 _ _ _ h hh (lv_sub hl [0, 2] rfl)
            · have h := h.2 c21
              refine lv_iconst (v := (-1)) hx hb dX9_check_77 (by decide) ?_
              refine W.widen (k := 1) (n := 3) (by omega) (by omega) ?_
              exact hret _ _ _ _ _ (ad, ck, x_58, j_19) dX9_check_78 rfl ⟨AgO.rf, h⟩ (Wh.less [_, _] [_] hh)
        refine lv_if_eq (tgt := 58) hx hb dX9_check_44 (by decide) (fun c10 => ?_) (fun c10 => ?_)
        · have h := h.1 c10
          exact kJ58 x_27 j_27 nw_9 _ _ _ h hh (lv_sub hl [1, 4, 0] rfl)
        · have h := h.2 c10
          refine lv_aload_n hx hb dX9_check_47 rfl (lv_at hl 1 rfl) ?_
          refine G_X9_12 [] [_, _, _] hx hb hT hown hK hh dX9_check_48 ?_
          refine lv_iload_n hx hb dX9_check_51 rfl (lv_at hl 3 rfl) ?_
          have hc := hh.cut [_] [_, _, _] [1, 0, 2, 3] 4 rfl (by decide) rfl
          refine kI hc hA (rnVN hx hb hml hown hT hK hc (c_X1_knows l D E ad  j_27 x2 h _) mf_X1_knows nml_X9_103 ⟨rfl, rfl, Nat.le_of_ble_eq_true rfl, Nat.le_of_ble_eq_true rfl⟩ ⟨Nat.le_of_ble_eq_true rfl, Nat.le_of_ble_eq_true rfl⟩ 1 0 rfl rfl hl.1 rfl dX9_check_52 (Nat.le_of_ble_eq_true rfl) rfl) (fun r11 j_12 H locs h hh => ?_)
          obtain ⟨g13, h⟩ := h
          rw [← g13] at hh
          have hh : Wh D A s.heap ((List.flatten [bX9 ad E x_27, bX1 ad E j_12, bX0 (fun _ : Nat => q6) E nw_9, dC ad E ck (j_12.2.1 1).toNatClampNeg])) _ _ := Wh.back (cs := [_]) (rs := [_, _, _]) _ [1, 0, 2, 3] 4 rfl (by decide) rfl hh
          refine lv_if_eq (tgt := 77) hx hb dX9_check_55 (by decide) (fun c14 => ?_) (fun c14 => ?_)
          · have h := h.1 c14
            refine lv_iconst (v := (-1)) hx hb dX9_check_77 (by decide) ?_
            refine W.widen (k := 1) (n := 3) (by omega) (by omega) ?_
            exact hret _ _ _ _ _ (ad, ck, x_27, j_12) dX9_check_78 rfl ⟨AgO.rf, h⟩ (Wh.less [_, _] [_] hh)
          · have h := h.2 c14
            exact kJ58 x_27 j_12 nw_9 _ _ _ h hh (lv_sub hl [1, 4, 0] rfl)
      refine lv_icmp_ne (tgt := 27) hx hb dX9_check_13 (by decide) (fun c3 => ?_) (fun c3 => ?_)
      · have h := h.1 c3
        exact kJ27 x j _ _ _ h hh (lv_sub hl [0, 1, 2, 3] rfl)
      · have h := h.2 c3
        refine lv_iload_n hx hb dX9_check_16 rfl (lv_at hl 2 rfl) ?_
        refine lv_iload_n hx hb dX9_check_17 rfl (lv_at hl 3 rfl) ?_
        refine kI hh.none hA (rnS hx hb hml hown hT hK hh.none (c_X9_isMachine l D E    x2 x3 h _) mf_X9_isMachine kml_X9_112 ⟨rfl, rfl, Nat.le_of_ble_eq_true rfl, Nat.le_of_ble_eq_true rfl⟩ ⟨Nat.le_of_ble_eq_true rfl, Nat.le_of_ble_eq_true rfl⟩ hl.1 rfl dX9_check_18 (Nat.le_of_ble_eq_true rfl) rfl) (fun r4 u H locs h hh => ?_)
        have hh : Wh D A s.heap ((List.flatten [bX9 ad E x, bX1 ad E j, dC ad E ck (j.2.1 1).toNatClampNeg])) _ _ := hh.unone
        refine lv_if_ne (tgt := 27) hx hb dX9_check_21 (by decide) (fun c5 => ?_) (fun c5 => ?_)
        · have h := h.1 c5
          exact kJ27 x j _ _ _ h hh (lv_sub hl [0, 1, 2, 3] rfl)
        · have h := h.2 c5
          refine lv_bipush (v := (-2)) hx hb dX9_check_24 (by decide) ?_
          refine W.widen (k := 1) (n := 3) (by omega) (by omega) ?_
          exact hret _ _ _ _ _ (ad, ck, x, j) dX9_check_26 rfl ⟨AgO.rf, h⟩ hh

def w_X9_label (pr : Nat → Ob) (x1 : Int32) (x2 : Int32) (x : Ob) (j : Ob) (Post : Int32 → (Nat → Ob) → Ob → Ob → Prop) : Prop := w_X9_propertyAt  x1 x (fun (r1 : Option Nat) (x_2 : Ob) => (x_2.2.1 4 = x.2.1 4) ∧ ((r1 = none → Post ((-1)) pr x_2 j) ∧ (∀ i4 : Nat, r1 = some i4 → w_X1_knows  x2 j (fun (r5 : Int32) (j_6 : Ob) => ((¬ r5 = 0) → i4 < (x_2.2.1 4).toNatClampNeg ∧ w_X6_addLabel x2 (pr i4) (fun (r8 : Int32) (o10 : Ob) => Post r8 (um pr i4 o10) x_2 j_6)) ∧ ((r5 = 0) → Post ((-1)) pr x_2 j_6)))))
set_option maxRecDepth 100000 in
set_option maxHeartbeats 4000000 in
theorem c_X9_label (l : Launch) (D : va_G) (E : Nat → ClassId) (ad : Nat → Nat → Nat) (pr : Nat → Ob)  (x : Ob) (j : Ob) (x1 : Int32) (x2 : Int32) {Post : Int32 → (Nat → Ob) → Ob → Ob → Prop} (h : w_X9_label pr x1 x2 x j Post) : CtI l yX9_label cX9_label 4 .int ({ frames := 1, cells := 0, slots := 0, locals := 21 } : Room) D E [.ref (ad 0 0), .int (x1), .int (x2)] (List.flatten [bX9 ad E x, bX1 ad E j, dP ad E pr (x.2.1 4).toNatClampNeg]) (fun u : (Nat → Nat → Nat) × (Nat → Ob) × Ob × Ob => List.flatten [bX9 u.1 E u.2.2.1, bX1 u.1 E u.2.2.2, dP u.1 E u.2.1 (u.2.2.1.2.1 4).toNatClampNeg]) (fun (r : Int32) (u : (Nat → Nat → Nat) × (Nat → Ob) × Ob × Ob) => AgO2 ad u.1 ∧ Post r u.2.1 u.2.2.1 u.2.2.2) 0 0 := by
  refine enI (by decide +kernel) (Nat.le_of_ble_eq_true rfl) ?_
  intro p e s m args below meth c Q A ls hx hb hml hown hT hK hA hret hh hl
  have hl : lv_has ls 4 [(0, .ref (ad 0 0)), (1, .int (x1)), (2, .int (x2))] := hl
  unfold w_X9_label at h
  refine lv_aload_n hx hb dX9_label_0 rfl (lv_at hl 0 rfl) ?_
  refine lv_iload_n hx hb dX9_label_1 rfl (lv_at hl 1 rfl) ?_
  have hc := hh.cut [_] [_, _] [0, 1, 2] 3 rfl (by decide) rfl
  refine kE hc hA (rnV hx hb hml hown hT hK hc (c_X9_propertyAt l D E ad  x x1 h _) mf_X9_propertyAt kml_X9_193 ⟨rfl, rfl, Nat.le_of_ble_eq_true rfl, Nat.le_of_ble_eq_true rfl⟩ ⟨Nat.le_of_ble_eq_true rfl, Nat.le_of_ble_eq_true rfl⟩ 9 0 rfl rfl hl.1 rfl dX9_label_2 (Nat.le_of_ble_eq_true rfl) rfl) (fun r1 x_2 H locs h hh => ?_)
  obtain ⟨g3, h⟩ := h
  rw [← g3] at hh
  have hh : Wh D A s.heap ((List.flatten [bX9 ad E x_2, bX1 ad E j, dP ad E pr (x_2.2.1 4).toNatClampNeg])) _ _ := Wh.back (cs := [_]) (rs := [_, _]) _ [0, 1, 2] 3 rfl (by decide) rfl hh
  cases r1 with
  | none =>
    have h := h.1 rfl
    refine lv_astore_nN (lv' := [(3, .null), (0, .ref (ad 0 0)), (1, .int (x1)), (2, .int (x2))]) hx hb dX9_label_5 rfl hl (by decide) rfl (fun ls hl => ?_)
    refine lv_aload_nN hx hb dX9_label_6 rfl (lv_at hl 0 rfl) ?_
    refine lv_ifnullN (tgt := 21) hx hb dX9_label_7 (by decide) ?_
    refine lv_iconst (v := (-1)) hx hb dX9_label_21 (by decide) ?_
    exact hret _ _ _ _ _ (ad, pr, x_2, j) dX9_label_22 rfl ⟨AgO2.rf, h⟩ hh
  | some i4 =>
    have h := h.2 i4 rfl
    refine lv_astore_n (lv' := [(3, .ref (ad 22 i4)), (0, .ref (ad 0 0)), (1, .int (x1)), (2, .int (x2))]) hx hb dX9_label_5 rfl hl (by decide) rfl (fun ls hl => ?_)
    refine lv_aload_n hx hb dX9_label_6 rfl (lv_at hl 0 rfl) ?_
    refine lv_ifnull hx hb dX9_label_7 ?_
    refine lv_aload_n hx hb dX9_label_10 rfl (lv_at hl 1 rfl) ?_
    refine G_X9_12 [] [_, _] hx hb hT hown hK hh dX9_label_11 ?_
    refine lv_iload_n hx hb dX9_label_14 rfl (lv_at hl 3 rfl) ?_
    have hc := hh.cut [_] [_, _] [1, 0, 2] 3 rfl (by decide) rfl
    refine kI hc hA (rnVN hx hb hml hown hT hK hc (c_X1_knows l D E ad  j x2 h _) mf_X1_knows nml_X9_103 ⟨rfl, rfl, Nat.le_of_ble_eq_true rfl, Nat.le_of_ble_eq_true rfl⟩ ⟨Nat.le_of_ble_eq_true rfl, Nat.le_of_ble_eq_true rfl⟩ 1 0 rfl rfl hl.1 rfl dX9_label_15 (Nat.le_of_ble_eq_true rfl) rfl) (fun r5 j_6 H locs h hh => ?_)
    have hh : Wh D A s.heap ((List.flatten [bX9 ad E x_2, bX1 ad E j_6, dP ad E pr (x_2.2.1 4).toNatClampNeg])) _ _ := Wh.back (cs := [_]) (rs := [_, _]) _ [1, 0, 2] 3 rfl (by decide) rfl hh
    refine lv_if_ne (tgt := 23) hx hb dX9_label_18 (by decide) (fun c7 => ?_) (fun c7 => ?_)
    · have h := h.1 c7
      refine lv_aload_n hx hb dX9_label_23 rfl (lv_at hl 0 rfl) ?_
      refine lv_iload_n hx hb dX9_label_24 rfl (lv_at hl 3 rfl) ?_
      obtain ⟨g9, h⟩ := h
      have hc := dyn_out (f := (fun i => bX6 (fun j => ad (22 + j) i) E (pr i))) [_, _] [] g9 hh
      refine kI hc hA (rnVN hx hb hml hown hT hK hc (c_X6_addLabel l D E (fun j => ad (22 + j) i4) (pr i4) x2 h _) mf_X6_addLabel nml_X9_197 ⟨rfl, rfl, Nat.le_of_ble_eq_true rfl, Nat.le_of_ble_eq_true rfl⟩ ⟨Nat.le_of_ble_eq_true rfl, Nat.le_of_ble_eq_true rfl⟩ 6 0 rfl rfl hl.1 rfl dX9_label_25 (Nat.le_of_ble_eq_true rfl) rfl) (fun r8 o10 H locs h hh => ?_)
      have hh : Wh D A s.heap (List.flatten [bX9 ad E x_2, bX1 ad E j_6, dP ad E (um pr i4 o10) (x_2.2.1 4).toNatClampNeg]) _ _ := dyn_upd (f := (fun i => bX6 (fun j => ad (22 + j) i) E (pr i))) (g := (fun i => bX6 (fun j => ad (22 + j) i) E ((um pr i4 o10) i))) [_, _] [] g9 (fun j hj => by show bX6 _ E (um pr i4 o10 j) = _; rw [show um pr i4 o10 j = pr j from if_neg hj]) (by rw [show um pr i4 o10 i4 = o10 from if_pos rfl]; exact hh)
      exact hret _ _ _ _ _ (ad, um pr i4 o10, x_2, j_6) dX9_label_28 rfl ⟨AgO2.rf, h⟩ hh
    · have h := h.2 c7
      refine lv_iconst (v := (-1)) hx hb dX9_label_21 (by decide) ?_
      exact hret _ _ _ _ _ (ad, pr, x_2, j_6) dX9_label_22 rfl ⟨AgO2.rf, h⟩ hh
