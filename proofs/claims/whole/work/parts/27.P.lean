def w_X9_property (pr : Nat → Ob) (x1 : Int32) (x2 : Int32) (x : Ob) (k : Ob) (j : Ob) (Post : Int32 → (Nat → Ob) → Ob → Ob → Ob → Prop) : Prop := w_X5_at  x1 k (fun (r1 : Option Nat) (k_2 : Ob) => ((r1 = none → Post ((-1)) pr x k_2 j) ∧ (∀ i3 : Nat, r1 = some i3 → w_X1_knows  x2 j (fun (r4 : Int32) (j_5 : Ob) => ((¬ r4 = 0) → (((x.2.1 4) < 0) → Post ((-4)) pr x k_2 j_5) ∧ (¬ ((x.2.1 4) < 0) → (((x.2.1 4) < 20) → vp_in (x.2.1 4) 20 ∧ ((((x.2.1 4) + 1)).toNatClampNeg = (x.2.1 4).toNatClampNeg + 1 ∧ (Post ((((x.2.1 4) + 1)) - 1) (um pr (x.2.1 4).toNatClampNeg ((prOb x1 x2))) ((x.1, (upd x.2.1 4 (((x.2.1 4) + 1))), x.2.2)) k_2 j_5))) ∧ (¬ ((x.2.1 4) < 20) → Post ((-4)) pr x k_2 j_5))) ∧ ((r4 = 0) → Post ((-1)) pr x k_2 j_5)))))
set_option maxRecDepth 100000 in
set_option maxHeartbeats 4000000 in
theorem c_X9_property (l : Launch) (D : va_G) (E : Nat → ClassId) (ad : Nat → Nat → Nat) (pr : Nat → Ob)  (x : Ob) (k : Ob) (j : Ob) (x1 : Int32) (x2 : Int32) {Post : Int32 → (Nat → Ob) → Ob → Ob → Ob → Prop} (h : w_X9_property pr x1 x2 x k j Post) : CtI l yX9_property cX9_property 3 .int ({ frames := 2, cells := 2, slots := 7, locals := 42 } : Room) D E [.ref (ad 0 0), .int (x1), .int (x2)] (List.flatten [bX9 ad E x, bX5 ad E k, bX1 ad E j, dP ad E pr (x.2.1 4).toNatClampNeg]) (fun u : (Nat → Nat → Nat) × (Nat → Ob) × Ob × Ob × Ob => List.flatten [bX9 u.1 E u.2.2.1, bX5 u.1 E u.2.2.2.1, bX1 u.1 E u.2.2.2.2, dP u.1 E u.2.1 (u.2.2.1.2.1 4).toNatClampNeg]) (fun (r : Int32) (u : (Nat → Nat → Nat) × (Nat → Ob) × Ob × Ob × Ob) => AgO2 ad u.1 ∧ Post r u.2.1 u.2.2.1 u.2.2.2.1 u.2.2.2.2) 2 7 := by
  refine enI (by decide +kernel) (Nat.le_of_ble_eq_true rfl) ?_
  intro p e s m args below meth c Q A ls hx hb hml hown hT hK hA hret hh hl
  have hl : lv_has ls 3 [(0, .ref (ad 0 0)), (1, .int (x1)), (2, .int (x2))] := hl
  unfold w_X9_property at h
  refine lv_aload_n hx hb dX9_property_0 rfl (lv_at hl 0 rfl) ?_
  refine G_X9_21 [] [_, _, _] hx hb hT hown hK hh dX9_property_1 ?_
  refine lv_iload_n hx hb dX9_property_4 rfl (lv_at hl 1 rfl) ?_
  have hc := hh.cut [_] [_, _, _] [1, 0, 2, 3] 4 rfl (by decide) rfl
  refine kE hc hA (rnVN hx hb hml hown hT hK hc (c_X5_at l D E ad  k x1 h _) mf_X5_at nml_X9_87 ⟨rfl, rfl, Nat.le_of_ble_eq_true rfl, Nat.le_of_ble_eq_true rfl⟩ ⟨Nat.le_of_ble_eq_true rfl, Nat.le_of_ble_eq_true rfl⟩ 5 0 rfl rfl hl.1 rfl dX9_property_5 (Nat.le_of_ble_eq_true rfl) rfl) (fun r1 k_2 H locs h hh => ?_)
  have hh : Wh D A s.heap ((List.flatten [bX9 ad E x, bX5 ad E k_2, bX1 ad E j, dP ad E pr (x.2.1 4).toNatClampNeg])) _ _ := Wh.back (cs := [_]) (rs := [_, _, _]) _ [1, 0, 2, 3] 4 rfl (by decide) rfl hh
  cases r1 with
  | none =>
    have h := h.1 rfl
    refine lv_ifnullN (tgt := 22) hx hb dX9_property_8 (by decide) ?_
    refine lv_iconst (v := (-1)) hx hb dX9_property_22 (by decide) ?_
    refine W.widen (k := 2) (n := 7) (by omega) (by omega) ?_
    exact hret _ _ _ _ _ (ad, pr, x, k_2, j) dX9_property_23 rfl ⟨AgO2.rf, h⟩ hh
  | some i3 =>
    have h := h.2 i3 rfl
    refine lv_ifnull hx hb dX9_property_8 ?_
    refine lv_aload_n hx hb dX9_property_11 rfl (lv_at hl 0 rfl) ?_
    refine G_X9_12 [] [_, _, _] hx hb hT hown hK hh dX9_property_12 ?_
    refine lv_iload_n hx hb dX9_property_15 rfl (lv_at hl 2 rfl) ?_
    have hc := hh.cut [_] [_, _, _] [2, 0, 1, 3] 4 rfl (by decide) rfl
    refine kI hc hA (rnVN hx hb hml hown hT hK hc (c_X1_knows l D E ad  j x2 h _) mf_X1_knows nml_X9_103 ⟨rfl, rfl, Nat.le_of_ble_eq_true rfl, Nat.le_of_ble_eq_true rfl⟩ ⟨Nat.le_of_ble_eq_true rfl, Nat.le_of_ble_eq_true rfl⟩ 1 0 rfl rfl hl.1 rfl dX9_property_16 (Nat.le_of_ble_eq_true rfl) rfl) (fun r4 j_5 H locs h hh => ?_)
    have hh : Wh D A s.heap ((List.flatten [bX9 ad E x, bX5 ad E k_2, bX1 ad E j_5, dP ad E pr (x.2.1 4).toNatClampNeg])) _ _ := Wh.back (cs := [_]) (rs := [_, _, _]) _ [1, 2, 0, 3] 4 rfl (by decide) rfl hh
    refine lv_if_ne (tgt := 24) hx hb dX9_property_19 (by decide) (fun c6 => ?_) (fun c6 => ?_)
    · have h := h.1 c6
      refine lv_aload_n hx hb dX9_property_24 rfl (lv_at hl 0 rfl) ?_
      refine G_X9_38 [] [_, _, _] hx hb hT hown hK hh (v := x.2.1 4) rfl dX9_property_25 ?_
      refine lv_if_lt (tgt := 40) hx hb dX9_property_28 (by decide) (fun c7 => ?_) (fun c7 => ?_)
      · have h := h.1 c7
        refine lv_bipush (v := (-4)) hx hb dX9_property_40 (by decide) ?_
        refine W.widen (k := 2) (n := 7) (by omega) (by omega) ?_
        exact hret _ _ _ _ _ (ad, pr, x, k_2, j_5) dX9_property_42 rfl ⟨AgO2.rf, h⟩ hh
      · have h := h.2 c7
        refine lv_aload_n hx hb dX9_property_31 rfl (lv_at hl 0 rfl) ?_
        refine G_X9_38 [] [_, _, _] hx hb hT hown hK hh (v := x.2.1 4) rfl dX9_property_32 ?_
        refine lv_bipush (v := 20) hx hb dX9_property_35 (by decide) ?_
        refine lv_icmp_lt (tgt := 43) hx hb dX9_property_37 (by decide) (fun c8 => ?_) (fun c8 => ?_)
        · have h := h.1 c8
          refine lv_aload_n hx hb dX9_property_43 rfl (lv_at hl 0 rfl) ?_
          refine G_X9_34 [] [_, _, _] hx hb hT hown hK hh dX9_property_44 ?_
          refine lv_aload_n hx hb dX9_property_47 rfl (lv_at hl 0 rfl) ?_
          refine G_X9_38 [] [_, _, _] hx hb hT hown hK hh (v := x.2.1 4) rfl dX9_property_48 ?_
          refine N_X9_32 hx hb hT hown hK hh hA (Nat.le_of_ble_eq_true rfl) (Nat.le_of_ble_eq_true rfl) dX9_property_51 (fun q9 H hh => ?_)
          have hh : Wh D A s.heap ((List.flatten [bX9 ad E x, bX5 ad E k_2, bX1 ad E j_5, [(q9, Sum.inr (6, [.int 0, .int 0, .null, .int 0]))], dP ad E pr (x.2.1 4).toNatClampNeg])) _ _ := Wh.ord _ [0, 1, 2, 4, 3] 5 rfl (by decide) rfl hh.snoc
          refine W.widen (k := 1) (n := 4) (by omega) (by omega) ?_
          refine lv_dup hx hb dX9_property_54 rfl ?_
          refine lv_iload_n hx hb dX9_property_55 rfl (lv_at hl 1 rfl) ?_
          refine lv_iload_n hx hb dX9_property_56 rfl (lv_at hl 2 rfl) ?_
          have hc := hh.cut [_] [_, _, _, _] [3, 0, 1, 2, 4] 5 rfl (by decide) rfl
          refine kV hc hA (rnIN hx hb hml hown hT hK hc (c_X6_init l D E q9 x1 x2 _) mf_X6_init nml_X9_190 ⟨rfl, rfl, Nat.le_of_ble_eq_true rfl, Nat.le_of_ble_eq_true rfl⟩ ⟨Nat.le_of_ble_eq_true rfl, Nat.le_of_ble_eq_true rfl⟩ hl.1 rfl dX9_property_57 (Nat.le_of_ble_eq_true rfl) rfl) (fun aq11 H locs hp hN12 => ?_)
          subst hp
          have hh : Wh D A s.heap ((List.flatten [bX9 ad E x, bX5 ad E k_2, bX1 ad E j_5, bX6 aq11 E ((prOb x1 x2)), dP ad E pr (x.2.1 4).toNatClampNeg])) _ _ := Wh.back (cs := [_]) (rs := [_, _, _, _]) _ [1, 2, 3, 0, 4] 5 rfl (by decide) rfl hN12
          obtain ⟨g13, h⟩ := h
          have hh : Wh D A s.heap ((List.flatten [bX9m ad E x (cf (x.2.1 4).toNatClampNeg (ad 22)), bX5 ad E k_2, bX1 ad E j_5, bX6 aq11 E ((prOb x1 x2)), dP ad E pr (x.2.1 4).toNatClampNeg])) _ _ := hh
          refine AST_X9 [] [_, _, _, _] hx hb hK hh (mem_blk [_, _, _] [_] List.mem_cons_self) g13 dX9_property_60 (fun H locs (hh : Wh D A s.heap ((List.flatten [bX9m ad E x (va_up (cf (x.2.1 4).toNatClampNeg (ad 22)) (x.2.1 4).toNatClampNeg (some (aq11 0))), bX5 ad E k_2, bX1 ad E j_5, bX6 aq11 E ((prOb x1 x2)), dP ad E pr (x.2.1 4).toNatClampNeg])) H locs) => ?_)
          refine lv_aload_n hx hb dX9_property_61 rfl (lv_at hl 0 rfl) ?_
          refine lv_dup hx hb dX9_property_62 rfl ?_
          refine Gm_X9_38 [] [_, _, _, _] hx hb hT hown hK hh (v := x.2.1 4) rfl dX9_property_63 ?_
          refine lv_iconst (v := 1) hx hb dX9_property_66 (by decide) ?_
          refine lv_iadd hx hb dX9_property_67 ?_
          refine Pm_X9_38 [] [_, _, _, _] hx hb hT hown hK hh dX9_property_68 (fun H locs (hh : Wh D A s.heap ((List.flatten [bX9m ad E ((x.1, (upd x.2.1 4 (((x.2.1 4) + 1))), x.2.2)) (va_up (cf (x.2.1 4).toNatClampNeg (ad 22)) (x.2.1 4).toNatClampNeg (some (aq11 0))), bX5 ad E k_2, bX1 ad E j_5, bX6 aq11 E ((prOb x1 x2)), dP ad E pr (x.2.1 4).toNatClampNeg])) H locs) => ?_)
          refine lv_aload_n hx hb dX9_property_71 rfl (lv_at hl 0 rfl) ?_
          refine Gm_X9_38 [] [_, _, _, _] hx hb hT hown hK hh (v := ((x.2.1 4) + 1)) rfl dX9_property_72 ?_
          refine lv_iconst (v := 1) hx hb dX9_property_75 (by decide) ?_
          refine lv_isub hx hb dX9_property_76 ?_
          obtain ⟨g14, h⟩ := h
          refine W.widen (k := 2) (n := 7) (by omega) (by omega) ?_
          exact hret _ _ _ _ _ ((ua (ua ad 22 (x.2.1 4).toNatClampNeg (aq11 0)) 25 (x.2.1 4).toNatClampNeg (aq11 3)), um pr (x.2.1 4).toNatClampNeg ((prOb x1 x2)), (x.1, (upd x.2.1 4 (((x.2.1 4) + 1))), x.2.2), k_2, j_5) dX9_property_77 rfl ⟨AgO2.ua2, h⟩ (fold_X9_property g14 hh)
        · have h := h.2 c8
          refine lv_bipush (v := (-4)) hx hb dX9_property_40 (by decide) ?_
          refine W.widen (k := 2) (n := 7) (by omega) (by omega) ?_
          exact hret _ _ _ _ _ (ad, pr, x, k_2, j_5) dX9_property_42 rfl ⟨AgO2.rf, h⟩ hh
    · have h := h.2 c6
      refine lv_iconst (v := (-1)) hx hb dX9_property_22 (by decide) ?_
      refine W.widen (k := 2) (n := 7) (by omega) (by omega) ?_
      exact hret _ _ _ _ _ (ad, pr, x, k_2, j_5) dX9_property_23 rfl ⟨AgO2.rf, h⟩ hh
