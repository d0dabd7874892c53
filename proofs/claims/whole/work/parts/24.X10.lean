def w_X9_pair (mk : Nat → Ob) (x1 : Int32) (x2 : Int32) (x : Ob) (k : Ob) (Post : Int32 → (Nat → Ob) → Ob → Ob → Prop) : Prop := w_X5_at  x1 k (fun (r1 : Option Nat) (k_2 : Ob) => (k_2.2.1 1 = k.2.1 1) ∧ ((r1 = none → w_X5_at  x2 k_2 (fun (r4 : Option Nat) (k_5 : Ob) => (k_5.2.1 1 = k_2.2.1 1) ∧ ((r4 = none → Post ((-1)) mk x k_5) ∧ (∀ i7 : Nat, r4 = some i7 → Post ((-1)) mk x k_5)))) ∧ (∀ i8 : Nat, r1 = some i8 → w_X5_at  x2 k_2 (fun (r9 : Option Nat) (k_10 : Ob) => (k_10.2.1 1 = k_2.2.1 1) ∧ ((r9 = none → Post ((-1)) mk x k_10) ∧ (∀ i12 : Nat, r9 = some i12 → i8 < (k_10.2.1 1).toNatClampNeg ∧ (i12 < (k_10.2.1 1).toNatClampNeg ∧ (i8 < (k_10.2.1 1).toNatClampNeg ∧ (jn (fun J77 : Int32 → Ob → Ob → Ob → Prop => jn (fun J72 : Ob → Ob → Ob → Prop => ((¬ ((mk i8).2.1 6) = 0) → J72 x k_10 ob0) ∧ ((((mk i8).2.1 6) = 0) → i12 < (k_10.2.1 1).toNatClampNeg ∧ (((((mk i12).2.1 6) = 0) → J77 0 x k_10 ob0) ∧ (¬ (((mk i12).2.1 6) = 0) → J72 x k_10 ob0)))) (fun (x_72 : Ob) (k_72 : Ob) (nw_72 : Ob) => J77 1 x_72 k_72 nw_72)) (fun (z_77 : Int32) (x_77 : Ob) (k_77 : Ob) (nw_77 : Ob) => w_X4_init (2 : Int32) x1 x2 (0 : Int32) (0 : Int32) (((mk i8).2.1 5) + ((mk i12).2.1 5)) z_77 nw_77 (fun (nw_20 : Ob) => w_X5_add mk k_77 nw_20 (fun (r21 : Int32) (mk_22 : Nat → Ob) (k_23 : Ob) => Post r21 mk_22 x_77 k_23))))))))))))
set_option maxRecDepth 100000 in
set_option maxHeartbeats 4000000 in
theorem c_X9_pair (l : Launch) (D : va_G) (E : Nat → ClassId) (ad : Nat → Nat → Nat) (mk : Nat → Ob)  (x : Ob) (k : Ob) (x1 : Int32) (x2 : Int32) {Post : Int32 → (Nat → Ob) → Ob → Ob → Prop} (h : w_X9_pair mk x1 x2 x k Post) : CtI l yX9_pair cX9_pair 6 .int ({ frames := 2, cells := 1, slots := 7, locals := 47 } : Room) D E [.ref (ad 0 0), .int (x1), .int (x2)] (List.flatten [bX9 ad E x, bX5 ad E k, dK ad E mk (k.2.1 1).toNatClampNeg]) (fun u : (Nat → Nat → Nat) × (Nat → Ob) × Ob × Ob => List.flatten [bX9 u.1 E u.2.2.1, bX5 u.1 E u.2.2.2, dK u.1 E u.2.1 (u.2.2.2.2.1 1).toNatClampNeg]) (fun (r : Int32) (u : (Nat → Nat → Nat) × (Nat → Ob) × Ob × Ob) => AgO 21 ad u.1 ∧ Post r u.2.1 u.2.2.1 u.2.2.2) 1 7 := by
  refine enI (by decide +kernel) (Nat.le_of_ble_eq_true rfl) ?_
  intro p e s m args below meth c Q A ls hx hb hml hown hT hK hA hret hh hl
  have hl : lv_has ls 6 [(0, .ref (ad 0 0)), (1, .int (x1)), (2, .int (x2))] := hl
  unfold w_X9_pair at h
  refine lv_aload_n hx hb dX9_pair_0 rfl (lv_at hl 0 rfl) ?_
  refine G_X9_21 [] [_, _] hx hb hT hown hK hh dX9_pair_1 ?_
  refine lv_iload_n hx hb dX9_pair_4 rfl (lv_at hl 1 rfl) ?_
  have hc := hh.cut [_] [_, _] [1, 0, 2] 3 rfl (by decide) rfl
  refine kE hc hA (rnVN hx hb hml hown hT hK hc (c_X5_at l D E ad  k x1 h _) mf_X5_at nml_X9_87 ⟨rfl, rfl, Nat.le_of_ble_eq_true rfl, Nat.le_of_ble_eq_true rfl⟩ ⟨Nat.le_of_ble_eq_true rfl, Nat.le_of_ble_eq_true rfl⟩ 5 0 rfl rfl hl.1 rfl dX9_pair_5 (Nat.le_of_ble_eq_true rfl) rfl) (fun r1 k_2 H locs h hh => ?_)
  obtain ⟨g3, h⟩ := h
  rw [← g3] at hh
  have hh : Wh D A s.heap ((List.flatten [bX9 ad E x, bX5 ad E k_2, dK ad E mk (k_2.2.1 1).toNatClampNeg])) _ _ := Wh.back (cs := [_]) (rs := [_, _]) _ [1, 0, 2] 3 rfl (by decide) rfl hh
  cases r1 with
  | none =>
    have h := h.1 rfl
    refine lv_astore_nN (lv' := [(3, .null), (0, .ref (ad 0 0)), (1, .int (x1)), (2, .int (x2))]) hx hb dX9_pair_8 rfl hl (by decide) rfl (fun ls hl => ?_)
    refine lv_aload_n hx hb dX9_pair_9 rfl (lv_at hl 1 rfl) ?_
    refine G_X9_21 [] [_, _] hx hb hT hown hK hh dX9_pair_10 ?_
    refine lv_iload_n hx hb dX9_pair_13 rfl (lv_at hl 3 rfl) ?_
    have hc := hh.cut [_] [_, _] [1, 0, 2] 3 rfl (by decide) rfl
    refine kE hc hA (rnVN hx hb hml hown hT hK hc (c_X5_at l D E ad  k_2 x2 h _) mf_X5_at nml_X9_87 ⟨rfl, rfl, Nat.le_of_ble_eq_true rfl, Nat.le_of_ble_eq_true rfl⟩ ⟨Nat.le_of_ble_eq_true rfl, Nat.le_of_ble_eq_true rfl⟩ 5 0 rfl rfl hl.1 rfl dX9_pair_14 (Nat.le_of_ble_eq_true rfl) rfl) (fun r4 k_5 H locs h hh => ?_)
    obtain ⟨g6, h⟩ := h
    rw [← g6] at hh
    have hh : Wh D A s.heap ((List.flatten [bX9 ad E x, bX5 ad E k_5, dK ad E mk (k_5.2.1 1).toNatClampNeg])) _ _ := Wh.back (cs := [_]) (rs := [_, _]) _ [1, 0, 2] 3 rfl (by decide) rfl hh
    cases r4 with
    | none =>
      have h := h.1 rfl
      refine lv_astoreN (lv' := [(4, .null), (3, .null), (0, .ref (ad 0 0)), (1, .int (x1)), (2, .int (x2))]) hx hb dX9_pair_17 hl (by decide) rfl (fun ls hl => ?_)
      refine lv_aload_nN hx hb dX9_pair_19 rfl (lv_at hl 1 rfl) ?_
      refine lv_ifnullN (tgt := 28) hx hb dX9_pair_20 (by decide) ?_
      refine lv_iconst (v := (-1)) hx hb dX9_pair_28 (by decide) ?_
      refine W.widen (k := 1) (n := 7) (by omega) (by omega) ?_
      exact hret _ _ _ _ _ (ad, mk, x, k_5) dX9_pair_29 rfl ⟨AgO.rf, h⟩ hh
    | some i7 =>
      have h := h.2 i7 rfl
      refine lv_astore (lv' := [(4, .ref (ad 21 i7)), (3, .null), (0, .ref (ad 0 0)), (1, .int (x1)), (2, .int (x2))]) hx hb dX9_pair_17 hl (by decide) rfl (fun ls hl => ?_)
      refine lv_aload_nN hx hb dX9_pair_19 rfl (lv_at hl 1 rfl) ?_
      refine lv_ifnullN (tgt := 28) hx hb dX9_pair_20 (by decide) ?_
      refine lv_iconst (v := (-1)) hx hb dX9_pair_28 (by decide) ?_
      refine W.widen (k := 1) (n := 7) (by omega) (by omega) ?_
      exact hret _ _ _ _ _ (ad, mk, x, k_5) dX9_pair_29 rfl ⟨AgO.rf, h⟩ hh
  | some i8 =>
    have h := h.2 i8 rfl
    refine lv_astore_n (lv' := [(3, .ref (ad 21 i8)), (0, .ref (ad 0 0)), (1, .int (x1)), (2, .int (x2))]) hx hb dX9_pair_8 rfl hl (by decide) rfl (fun ls hl => ?_)
    refine lv_aload_n hx hb dX9_pair_9 rfl (lv_at hl 1 rfl) ?_
    refine G_X9_21 [] [_, _] hx hb hT hown hK hh dX9_pair_10 ?_
    refine lv_iload_n hx hb dX9_pair_13 rfl (lv_at hl 3 rfl) ?_
    have hc := hh.cut [_] [_, _] [1, 0, 2] 3 rfl (by decide) rfl
    refine kE hc hA (rnVN hx hb hml hown hT hK hc (c_X5_at l D E ad  k_2 x2 h _) mf_X5_at nml_X9_87 ⟨rfl, rfl, Nat.le_of_ble_eq_true rfl, Nat.le_of_ble_eq_true rfl⟩ ⟨Nat.le_of_ble_eq_true rfl, Nat.le_of_ble_eq_true rfl⟩ 5 0 rfl rfl hl.1 rfl dX9_pair_14 (Nat.le_of_ble_eq_true rfl) rfl) (fun r9 k_10 H locs h hh => ?_)
    obtain ⟨g11, h⟩ := h
    rw [← g11] at hh
    have hh : Wh D A s.heap ((List.flatten [bX9 ad E x, bX5 ad E k_10, dK ad E mk (k_10.2.1 1).toNatClampNeg])) _ _ := Wh.back (cs := [_]) (rs := [_, _]) _ [1, 0, 2] 3 rfl (by decide) rfl hh
    cases r9 with
    | none =>
      have h := h.1 rfl
      refine lv_astoreN (lv' := [(4, .null), (3, .ref (ad 21 i8)), (0, .ref (ad 0 0)), (1, .int (x1)), (2, .int (x2))]) hx hb dX9_pair_17 hl (by decide) rfl (fun ls hl => ?_)
      refine lv_aload_n hx hb dX9_pair_19 rfl (lv_at hl 1 rfl) ?_
      refine lv_ifnull hx hb dX9_pair_20 ?_
      refine lv_aloadN hx hb dX9_pair_23 (lv_at hl 0 rfl) ?_
      refine lv_ifnonnullN hx hb dX9_pair_25 ?_
      refine lv_iconst (v := (-1)) hx hb dX9_pair_28 (by decide) ?_
      refine W.widen (k := 1) (n := 7) (by omega) (by omega) ?_
      exact hret _ _ _ _ _ (ad, mk, x, k_10) dX9_pair_29 rfl ⟨AgO.rf, h⟩ hh
    | some i12 =>
      have h := h.2 i12 rfl
      refine lv_astore (lv' := [(4, .ref (ad 21 i12)), (3, .ref (ad 21 i8)), (0, .ref (ad 0 0)), (1, .int (x1)), (2, .int (x2))]) hx hb dX9_pair_17 hl (by decide) rfl (fun ls hl => ?_)
      refine lv_aload_n hx hb dX9_pair_19 rfl (lv_at hl 1 rfl) ?_
      refine lv_ifnull hx hb dX9_pair_20 ?_
      refine lv_aload hx hb dX9_pair_23 (lv_at hl 0 rfl) ?_
      refine lv_ifnonnull (tgt := 30) hx hb dX9_pair_25 (by decide) ?_
      refine lv_aload_n hx hb dX9_pair_30 rfl (lv_at hl 1 rfl) ?_
      obtain ⟨g13, h⟩ := h
      refine DG_X9_91 [_, _] [] hx hb hT hown hK hh g13 (v := (mk i8).2.1 5) rfl dX9_pair_31 ?_
      refine lv_aload hx hb dX9_pair_34 (lv_at hl 0 rfl) ?_
      obtain ⟨g14, h⟩ := h
      refine DG_X9_91 [_, _] [] hx hb hT hown hK hh g14 (v := (mk i12).2.1 5) rfl dX9_pair_36 ?_
      refine lv_iadd hx hb dX9_pair_39 ?_
      refine lv_istore (lv' := [(5, .int (((mk i8).2.1 5) + ((mk i12).2.1 5))), (4, .ref (ad 21 i12)), (3, .ref (ad 21 i8)), (0, .ref (ad 0 0)), (1, .int (x1)), (2, .int (x2))]) hx hb dX9_pair_40 hl (by decide) rfl (fun ls hl => ?_)
      refine lv_aload_n hx hb dX9_pair_42 rfl (lv_at hl 3 rfl) ?_
      refine G_X9_21 [] [_, _] hx hb hT hown hK hh dX9_pair_43 ?_
      refine N_X9_78 hx hb hT hown hK hh hA (Nat.le_of_ble_eq_true rfl) (Nat.le_of_ble_eq_true rfl) dX9_pair_46 (fun q15 H hh => ?_)
      have hh : Wh D A s.heap ((List.flatten [bX9 ad E x, bX5 ad E k_10, bX4 (fun _ : Nat => q15) E ob0, dK ad E mk (k_10.2.1 1).toNatClampNeg])) _ _ := Wh.ord _ [0, 1, 3, 2] 4 rfl (by decide) rfl hh.snoc
      refine W.widen (k := 1) (n := 7) (by omega) (by omega) ?_
      refine lv_dup hx hb dX9_pair_49 rfl ?_
      refine lv_iconst (v := 2) hx hb dX9_pair_50 (by decide) ?_
      refine lv_iload_n hx hb dX9_pair_51 rfl (lv_at hl 4 rfl) ?_
      refine lv_iload_n hx hb dX9_pair_52 rfl (lv_at hl 5 rfl) ?_
      refine lv_iconst (v := 0) hx hb dX9_pair_53 (by decide) ?_
      refine lv_iconst (v := 0) hx hb dX9_pair_54 (by decide) ?_
      refine lv_iload hx hb dX9_pair_55 (lv_at hl 0 rfl) ?_
      refine lv_aload_n hx hb dX9_pair_57 rfl (lv_at hl 2 rfl) ?_
      obtain ⟨g16, h⟩ := h
      refine DG_X9_94 [_, _, _] [] hx hb hT hown hK hh g16 (v := (mk i8).2.1 6) rfl dX9_pair_58 ?_
      refine jn_elim h (fun J77 hJ77 h => ?_)
      have kJ77 : ∀ (z_77 : Int32) (x_77 : Ob) (k_77 : Ob) (nw_77 : Ob) (H : Heap) (locs : List Loc) (ls : Array Slot), J77 z_77 x_77 k_77 nw_77 → Wh D A s.heap ((List.flatten [bX9 ad E x_77, bX5 ad E k_77, bX4 (fun _ : Nat => q15) E nw_77, dK ad E mk (k_77.2.1 1).toNatClampNeg])) H locs → lv_has ls 6 [] → W p l e ({ frames := 2, cells := 1, slots := 7, locals := 47 } : Room) s m args below meth c H locs 1 7 Q (F0 m 77 ls [.int (z_77), .int (((mk i8).2.1 5) + ((mk i12).2.1 5)), .int (0), .int (0), .int (x2), .int (x1), .int (2), .ref (q15), .ref (q15), .ref (ad 4 0)]) := by
        intro z_77 x_77 k_77 nw_77 H locs ls h hh hl
        rw [hJ77] at h
        have hc := hh.cut [_] [_, _, _] [2, 0, 1, 3] 4 rfl (by decide) rfl
        refine kV hc hA (rnIN hx hb hml hown hT hK hc (c_X4_init l D E (fun _ : Nat => q15) nw_77 (2 : Int32) x1 x2 (0 : Int32) (0 : Int32) (((mk i8).2.1 5) + ((mk i12).2.1 5)) z_77 h _) mf_X4_init nml_X9_80 ⟨rfl, rfl, Nat.le_of_ble_eq_true rfl, Nat.le_of_ble_eq_true rfl⟩ ⟨Nat.le_of_ble_eq_true rfl, Nat.le_of_ble_eq_true rfl⟩ hl.1 rfl dX9_pair_77 (Nat.le_of_ble_eq_true rfl) rfl) (fun nw_20 H locs h hh => ?_)
        have hh : Wh D A s.heap ((List.flatten [bX9 ad E x_77, bX5 ad E k_77, bX4 (fun _ : Nat => q15) E nw_20, dK ad E mk (k_77.2.1 1).toNatClampNeg])) _ _ := Wh.back (cs := [_]) (rs := [_, _, _]) _ [1, 2, 0, 3] 4 rfl (by decide) rfl hh
        have hc := hh.cut [_, _, _] [_] [1, 2, 3, 0] 4 rfl (by decide) rfl
        refine kI hc hA (rnVN hx hb hml hown hT hK hc (c_X5_add l D E ad (fun _ : Nat => q15) mk k_77 nw_20 h _) mf_X5_add nml_X9_83 ⟨rfl, rfl, Nat.le_of_ble_eq_true rfl, Nat.le_of_ble_eq_true rfl⟩ ⟨Nat.le_of_ble_eq_true rfl, Nat.le_of_ble_eq_true rfl⟩ 5 0 rfl rfl hl.1 rfl dX9_pair_80 (Nat.le_of_ble_eq_true rfl) rfl) (fun r21 u H locs h hh => ?_)
        obtain ⟨ad_24, mk_22, k_23⟩ := u
        obtain ⟨g25, h⟩ := h
        rw [show bX9 ad E x_77 = bX9 ad_24 E x_77 from bX9_ag (Or.inr rfl) g25] at hh
        have hh : Wh D A s.heap (List.flatten [bX9 ad_24 E x_77, bX5 ad_24 E k_23, dK ad_24 E mk_22 (k_23.2.1 1).toNatClampNeg]) _ _ := Wh.back (cs := [_, _]) (rs := [_]) _ [2, 0, 1] 3 rfl (by decide) rfl hh
        refine W.widen (k := 1) (n := 7) (by omega) (by omega) ?_
        exact hret _ _ _ _ _ (ad_24, mk_22, x_77, k_23) dX9_pair_83 rfl ⟨g25, h⟩ hh
      refine jn_elim h (fun J72 hJ72 h => ?_)
      have kJ72 : ∀ (x_72 : Ob) (k_72 : Ob) (nw_72 : Ob) (H : Heap) (locs : List Loc) (ls : Array Slot), J72 x_72 k_72 nw_72 → Wh D A s.heap ((List.flatten [bX9 ad E x_72, bX5 ad E k_72, bX4 (fun _ : Nat => q15) E nw_72, dK ad E mk (k_72.2.1 1).toNatClampNeg])) H locs → lv_has ls 6 [] → W p l e ({ frames := 2, cells := 1, slots := 7, locals := 47 } : Room) s m args below meth c H locs 1 7 Q (F0 m 72 ls [.int (((mk i8).2.1 5) + ((mk i12).2.1 5)), .int (0), .int (0), .int (x2), .int (x1), .int (2), .ref (q15), .ref (q15), .ref (ad 4 0)]) := by
        intro x_72 k_72 nw_72 H locs ls h hh hl
        rw [hJ72] at h
        refine lv_iconst (v := 1) hx hb dX9_pair_72 (by decide) ?_
        refine lv_goto (tgt := 77) hx hb dX9_pair_73 (by decide) ?_
        exact kJ77 1 x_72 k_72 nw_72 _ _ _ h hh (lv_sub hl [] rfl)
      refine lv_if_ne (tgt := 72) hx hb dX9_pair_61 (by decide) (fun c17 => ?_) (fun c17 => ?_)
      · have h := h.1 c17
        exact kJ72 x k_10 ob0 _ _ _ h hh (lv_sub hl [] rfl)
      · have h := h.2 c17
        refine lv_aload hx hb dX9_pair_64 (lv_at hl 1 rfl) ?_
        obtain ⟨g18, h⟩ := h
        refine DG_X9_94 [_, _, _] [] hx hb hT hown hK hh g18 (v := (mk i12).2.1 6) rfl dX9_pair_66 ?_
        refine lv_if_eq (tgt := 76) hx hb dX9_pair_69 (by decide) (fun c19 => ?_) (fun c19 => ?_)
        · have h := h.1 c19
          refine lv_iconst (v := 0) hx hb dX9_pair_76 (by decide) ?_
          exact kJ77 0 x k_10 ob0 _ _ _ h hh (lv_sub hl [] rfl)
        · have h := h.2 c19
          exact kJ72 x k_10 ob0 _ _ _ h hh (lv_sub hl [] rfl)

def w_X9_oneOf (mk : Nat → Ob) (x1 : Int32) (x2 : Int32) (x3 : Int32) (x4 : Int32) (x : Ob) (k : Ob) (Post : Int32 → (Nat → Ob) → Ob → Ob → Prop) : Prop := w_X5_at  x1 k (fun (r1 : Option Nat) (k_2 : Ob) => (k_2.2.1 1 = k.2.1 1) ∧ ((r1 = none → w_X5_at  x3 k_2 (fun (r4 : Option Nat) (k_5 : Ob) => (k_5.2.1 1 = k_2.2.1 1) ∧ ((r4 = none → Post ((-1)) mk x k_5) ∧ (∀ i7 : Nat, r4 = some i7 → Post ((-1)) mk x k_5)))) ∧ (∀ i8 : Nat, r1 = some i8 → w_X5_at  x3 k_2 (fun (r9 : Option Nat) (k_10 : Ob) => (k_10.2.1 1 = k_2.2.1 1) ∧ ((r9 = none → Post ((-1)) mk x k_10) ∧ (∀ i12 : Nat, r9 = some i12 → ((x2 < 1) → Post ((-2)) mk x k_10) ∧ (¬ (x2 < 1) → ((100 < x2) → Post ((-2)) mk x k_10) ∧ (¬ (100 < x2) → ((x4 < 1) → Post ((-2)) mk x k_10) ∧ (¬ (x4 < 1) → ((x4 ≤ 100) → i8 < (k_10.2.1 1).toNatClampNeg ∧ (i12 < (k_10.2.1 1).toNatClampNeg ∧ (w_J9_max_7cf53  ((mk i8).2.1 5) ((mk i12).2.1 5)  (fun (r19 : Int32) => i8 < (k_10.2.1 1).toNatClampNeg ∧ (jn (fun J111 : Int32 → Ob → Ob → Ob → Prop => jn (fun J106 : Ob → Ob → Ob → Prop => ((¬ ((mk i8).2.1 6) = 0) → J106 x k_10 ob0) ∧ ((((mk i8).2.1 6) = 0) → i12 < (k_10.2.1 1).toNatClampNeg ∧ (((((mk i12).2.1 6) = 0) → J111 0 x k_10 ob0) ∧ (¬ (((mk i12).2.1 6) = 0) → J106 x k_10 ob0)))) (fun (x_106 : Ob) (k_106 : Ob) (nw_106 : Ob) => J111 1 x_106 k_106 nw_106)) (fun (z_111 : Int32) (x_111 : Ob) (k_111 : Ob) (nw_111 : Ob) => w_X4_init (3 : Int32) x1 x3 x2 x4 r19 z_111 nw_111 (fun (nw_25 : Ob) => w_X5_add mk k_111 nw_25 (fun (r26 : Int32) (mk_27 : Nat → Ob) (k_28 : Ob) => Post r26 mk_27 x_111 k_28)))))))) ∧ (¬ (x4 ≤ 100) → Post ((-2)) mk x k_10))))))))))
set_option maxRecDepth 100000 in
set_option maxHeartbeats 4000000 in
theorem c_X9_oneOf (l : Launch) (D : va_G) (E : Nat → ClassId) (ad : Nat → Nat → Nat) (mk : Nat → Ob)  (x : Ob) (k : Ob) (x1 : Int32) (x2 : Int32) (x3 : Int32) (x4 : Int32) {Post : Int32 → (Nat → Ob) → Ob → Ob → Prop} (h : w_X9_oneOf mk x1 x2 x3 x4 x k Post) : CtI l yX9_oneOf cX9_oneOf 8 .int ({ frames := 2, cells := 1, slots := 7, locals := 47 } : Room) D E [.ref (ad 0 0), .int (x1), .int (x2), .int (x3), .int (x4)] (List.flatten [bX9 ad E x, bX5 ad E k, dK ad E mk (k.2.1 1).toNatClampNeg]) (fun u : (Nat → Nat → Nat) × (Nat → Ob) × Ob × Ob => List.flatten [bX9 u.1 E u.2.2.1, bX5 u.1 E u.2.2.2, dK u.1 E u.2.1 (u.2.2.2.2.1 1).toNatClampNeg]) (fun (r : Int32) (u : (Nat → Nat → Nat) × (Nat → Ob) × Ob × Ob) => AgO 21 ad u.1 ∧ Post r u.2.1 u.2.2.1 u.2.2.2) 1 7 := by
  refine enI (by decide +kernel) (Nat.le_of_ble_eq_true rfl) ?_
  intro p e s m args below meth c Q A ls hx hb hml hown hT hK hA hret hh hl
  have hl : lv_has ls 8 [(0, .ref (ad 0 0)), (1, .int (x1)), (2, .int (x2)), (3, .int (x3)), (4, .int (x4))] := hl
  unfold w_X9_oneOf at h
  refine lv_aload_n hx hb dX9_oneOf_0 rfl (lv_at hl 0 rfl) ?_
  refine G_X9_21 [] [_, _] hx hb hT hown hK hh dX9_oneOf_1 ?_
  refine lv_iload_n hx hb dX9_oneOf_4 rfl (lv_at hl 1 rfl) ?_
  have hc := hh.cut [_] [_, _] [1, 0, 2] 3 rfl (by decide) rfl
  refine kE hc hA (rnVN hx hb hml hown hT hK hc (c_X5_at l D E ad  k x1 h _) mf_X5_at nml_X9_87 ⟨rfl, rfl, Nat.le_of_ble_eq_true rfl, Nat.le_of_ble_eq_true rfl⟩ ⟨Nat.le_of_ble_eq_true rfl, Nat.le_of_ble_eq_true rfl⟩ 5 0 rfl rfl hl.1 rfl dX9_oneOf_5 (Nat.le_of_ble_eq_true rfl) rfl) (fun r1 k_2 H locs h hh => ?_)
  obtain ⟨g3, h⟩ := h
  rw [← g3] at hh
  have hh : Wh D A s.heap ((List.flatten [bX9 ad E x, bX5 ad E k_2, dK ad E mk (k_2.2.1 1).toNatClampNeg])) _ _ := Wh.back (cs := [_]) (rs := [_, _]) _ [1, 0, 2] 3 rfl (by decide) rfl hh
  cases r1 with
  | none =>
    have h := h.1 rfl
    refine lv_astoreN (lv' := [(5, .null), (0, .ref (ad 0 0)), (1, .int (x1)), (2, .int (x2)), (3, .int (x3)), (4, .int (x4))]) hx hb dX9_oneOf_8 hl (by decide) rfl (fun ls hl => ?_)
    refine lv_aload_n hx hb dX9_oneOf_10 rfl (lv_at hl 1 rfl) ?_
    refine G_X9_21 [] [_, _] hx hb hT hown hK hh dX9_oneOf_11 ?_
    refine lv_iload_n hx hb dX9_oneOf_14 rfl (lv_at hl 4 rfl) ?_
    have hc := hh.cut [_] [_, _] [1, 0, 2] 3 rfl (by decide) rfl
    refine kE hc hA (rnVN hx hb hml hown hT hK hc (c_X5_at l D E ad  k_2 x3 h _) mf_X5_at nml_X9_87 ⟨rfl, rfl, Nat.le_of_ble_eq_true rfl, Nat.le_of_ble_eq_true rfl⟩ ⟨Nat.le_of_ble_eq_true rfl, Nat.le_of_ble_eq_true rfl⟩ 5 0 rfl rfl hl.1 rfl dX9_oneOf_15 (Nat.le_of_ble_eq_true rfl) rfl) (fun r4 k_5 H locs h hh => ?_)
    obtain ⟨g6, h⟩ := h
    rw [← g6] at hh
    have hh : Wh D A s.heap ((List.flatten [bX9 ad E x, bX5 ad E k_5, dK ad E mk (k_5.2.1 1).toNatClampNeg])) _ _ := Wh.back (cs := [_]) (rs := [_, _]) _ [1, 0, 2] 3 rfl (by decide) rfl hh
    cases r4 with
    | none =>
      have h := h.1 rfl
      refine lv_astoreN (lv' := [(6, .null), (5, .null), (0, .ref (ad 0 0)), (1, .int (x1)), (2, .int (x2)), (3, .int (x3)), (4, .int (x4))]) hx hb dX9_oneOf_18 hl (by decide) rfl (fun ls hl => ?_)
      refine lv_aloadN hx hb dX9_oneOf_20 (lv_at hl 1 rfl) ?_
      refine lv_ifnullN (tgt := 30) hx hb dX9_oneOf_22 (by decide) ?_
      refine lv_iconst (v := (-1)) hx hb dX9_oneOf_30 (by decide) ?_
      refine W.widen (k := 1) (n := 7) (by omega) (by omega) ?_
      exact hret _ _ _ _ _ (ad, mk, x, k_5) dX9_oneOf_31 rfl ⟨AgO.rf, h⟩ hh
    | some i7 =>
      have h := h.2 i7 rfl
      refine lv_astore (lv' := [(6, .ref (ad 21 i7)), (5, .null), (0, .ref (ad 0 0)), (1, .int (x1)), (2, .int (x2)), (3, .int (x3)), (4, .int (x4))]) hx hb dX9_oneOf_18 hl (by decide) rfl (fun ls hl => ?_)
      refine lv_aloadN hx hb dX9_oneOf_20 (lv_at hl 1 rfl) ?_
      refine lv_ifnullN (tgt := 30) hx hb dX9_oneOf_22 (by decide) ?_
      refine lv_iconst (v := (-1)) hx hb dX9_oneOf_30 (by decide) ?_
      refine W.widen (k := 1) (n := 7) (by omega) (by omega) ?_
      exact hret _ _ _ _ _ (ad, mk, x, k_5) dX9_oneOf_31 rfl ⟨AgO.rf, h⟩ hh
  | some i8 =>
    have h := h.2 i8 rfl
    refine lv_astore (lv' := [(5, .ref (ad 21 i8)), (0, .ref (ad 0 0)), (1, .int (x1)), (2, .int (x2)), (3, .int (x3)), (4, .int (x4))]) hx hb dX9_oneOf_8 hl (by decide) rfl (fun ls hl => ?_)
    refine lv_aload_n hx hb dX9_oneOf_10 rfl (lv_at hl 1 rfl) ?_
    refine G_X9_21 [] [_, _] hx hb hT hown hK hh dX9_oneOf_11 ?_
    refine lv_iload_n hx hb dX9_oneOf_14 rfl (lv_at hl 4 rfl) ?_
    have hc := hh.cut [_] [_, _] [1, 0, 2] 3 rfl (by decide) rfl
    refine kE hc hA (rnVN hx hb hml hown hT hK hc (c_X5_at l D E ad  k_2 x3 h _) mf_X5_at nml_X9_87 ⟨rfl, rfl, Nat.le_of_ble_eq_true rfl, Nat.le_of_ble_eq_true rfl⟩ ⟨Nat.le_of_ble_eq_true rfl, Nat.le_of_ble_eq_true rfl⟩ 5 0 rfl rfl hl.1 rfl dX9_oneOf_15 (Nat.le_of_ble_eq_true rfl) rfl) (fun r9 k_10 H locs h hh => ?_)
    obtain ⟨g11, h⟩ := h
    rw [← g11] at hh
    have hh : Wh D A s.heap ((List.flatten [bX9 ad E x, bX5 ad E k_10, dK ad E mk (k_10.2.1 1).toNatClampNeg])) _ _ := Wh.back (cs := [_]) (rs := [_, _]) _ [1, 0, 2] 3 rfl (by decide) rfl hh
    cases r9 with
    | none =>
      have h := h.1 rfl
      refine lv_astoreN (lv' := [(6, .null), (5, .ref (ad 21 i8)), (0, .ref (ad 0 0)), (1, .int (x1)), (2, .int (x2)), (3, .int (x3)), (4, .int (x4))]) hx hb dX9_oneOf_18 hl (by decide) rfl (fun ls hl => ?_)
      refine lv_aload hx hb dX9_oneOf_20 (lv_at hl 1 rfl) ?_
      refine lv_ifnull hx hb dX9_oneOf_22 ?_
      refine lv_aloadN hx hb dX9_oneOf_25 (lv_at hl 0 rfl) ?_
      refine lv_ifnonnullN hx hb dX9_oneOf_27 ?_
      refine lv_iconst (v := (-1)) hx hb dX9_oneOf_30 (by decide) ?_
      refine W.widen (k := 1) (n := 7) (by omega) (by omega) ?_
      exact hret _ _ _ _ _ (ad, mk, x, k_10) dX9_oneOf_31 rfl ⟨AgO.rf, h⟩ hh
    | some i12 =>
      have h := h.2 i12 rfl
      refine lv_astore (lv' := [(6, .ref (ad 21 i12)), (5, .ref (ad 21 i8)), (0, .ref (ad 0 0)), (1, .int (x1)), (2, .int (x2)), (3, .int (x3)), (4, .int (x4))]) hx hb dX9_oneOf_18 hl (by decide) rfl (fun ls hl => ?_)
      refine lv_aload hx hb dX9_oneOf_20 (lv_at hl 1 rfl) ?_
      refine lv_ifnull hx hb dX9_oneOf_22 ?_
      refine lv_aload hx hb dX9_oneOf_25 (lv_at hl 0 rfl) ?_
      refine lv_ifnonnull (tgt := 32) hx hb dX9_oneOf_27 (by decide) ?_
      refine lv_iload_n hx hb dX9_oneOf_32 rfl (lv_at hl 4 rfl) ?_
      refine lv_iconst (v := 1) hx hb dX9_oneOf_33 (by decide) ?_
      refine lv_icmp_lt (tgt := 56) hx hb dX9_oneOf_34 (by decide) (fun c13 => ?_) (fun c13 => ?_)
      · have h := h.1 c13
        refine lv_bipush (v := (-2)) hx hb dX9_oneOf_56 (by decide) ?_
        refine W.widen (k := 1) (n := 7) (by omega) (by omega) ?_
        exact hret _ _ _ _ _ (ad, mk, x, k_10) dX9_oneOf_58 rfl ⟨AgO.rf, h⟩ hh
      · have h := h.2 c13
        refine lv_iload_n hx hb dX9_oneOf_37 rfl (lv_at hl 4 rfl) ?_
        refine lv_bipush (v := 100) hx hb dX9_oneOf_38 (by decide) ?_
        refine lv_icmp_gt (tgt := 56) hx hb dX9_oneOf_40 (by decide) (fun c14 => ?_) (fun c14 => ?_)
        · have h := h.1 c14
          refine lv_bipush (v := (-2)) hx hb dX9_oneOf_56 (by decide) ?_
          refine W.widen (k := 1) (n := 7) (by omega) (by omega) ?_
          exact hret _ _ _ _ _ (ad, mk, x, k_10) dX9_oneOf_58 rfl ⟨AgO.rf, h⟩ hh
        · have h := h.2 c14
          refine lv_iload hx hb dX9_oneOf_43 (lv_at hl 6 rfl) ?_
          refine lv_iconst (v := 1) hx hb dX9_oneOf_45 (by decide) ?_
          refine lv_icmp_lt (tgt := 56) hx hb dX9_oneOf_46 (by decide) (fun c15 => ?_) (fun c15 => ?_)
          · have h := h.1 c15
            refine lv_bipush (v := (-2)) hx hb dX9_oneOf_56 (by decide) ?_
            refine W.widen (k := 1) (n := 7) (by omega) (by omega) ?_
            exact hret _ _ _ _ _ (ad, mk, x, k_10) dX9_oneOf_58 rfl ⟨AgO.rf, h⟩ hh
          · have h := h.2 c15
            refine lv_iload hx hb dX9_oneOf_49 (lv_at hl 6 rfl) ?_
            refine lv_bipush (v := 100) hx hb dX9_oneOf_51 (by decide) ?_
            refine lv_icmp_le (tgt := 59) hx hb dX9_oneOf_53 (by decide) (fun c16 => ?_) (fun c16 => ?_)
            · have h := h.1 c16
              refine lv_aload hx hb dX9_oneOf_59 (lv_at hl 1 rfl) ?_
              obtain ⟨g17, h⟩ := h
              refine DG_X9_91 [_, _] [] hx hb hT hown hK hh g17 (v := (mk i8).2.1 5) rfl dX9_oneOf_61 ?_
              refine lv_aload hx hb dX9_oneOf_64 (lv_at hl 0 rfl) ?_
              obtain ⟨g18, h⟩ := h
              refine DG_X9_91 [_, _] [] hx hb hT hown hK hh g18 (v := (mk i12).2.1 5) rfl dX9_oneOf_66 ?_
              refine kI hh.none hA (rnS hx hb hml hown hT hK hh.none (c_J9_max_7cf53 l D E    ((mk i8).2.1 5) ((mk i12).2.1 5) h _) mf_J9_max_7cf53 kml_X9_97 ⟨rfl, rfl, Nat.le_of_ble_eq_true rfl, Nat.le_of_ble_eq_true rfl⟩ ⟨Nat.le_of_ble_eq_true rfl, Nat.le_of_ble_eq_true rfl⟩ hl.1 rfl dX9_oneOf_69 (Nat.le_of_ble_eq_true rfl) rfl) (fun r19 u H locs h hh => ?_)
              have hh : Wh D A s.heap ((List.flatten [bX9 ad E x, bX5 ad E k_10, dK ad E mk (k_10.2.1 1).toNatClampNeg])) _ _ := hh.unone
              refine lv_istore (lv' := [(7, .int (r19)), (6, .ref (ad 21 i12)), (5, .ref (ad 21 i8)), (0, .ref (ad 0 0)), (1, .int (x1)), (2, .int (x2)), (3, .int (x3)), (4, .int (x4))]) hx hb dX9_oneOf_72 hl (by decide) rfl (fun ls hl => ?_)
              refine lv_aload_n hx hb dX9_oneOf_74 rfl (lv_at hl 3 rfl) ?_
              refine G_X9_21 [] [_, _] hx hb hT hown hK hh dX9_oneOf_75 ?_
              refine N_X9_78 hx hb hT hown hK hh hA (Nat.le_of_ble_eq_true rfl) (Nat.le_of_ble_eq_true rfl) dX9_oneOf_78 (fun q20 H hh => ?_)
              have hh : Wh D A s.heap ((List.flatten [bX9 ad E x, bX5 ad E k_10, bX4 (fun _ : Nat => q20) E ob0, dK ad E mk (k_10.2.1 1).toNatClampNeg])) _ _ := Wh.ord _ [0, 1, 3, 2] 4 rfl (by decide) rfl hh.snoc
              refine W.widen (k := 1) (n := 7) (by omega) (by omega) ?_
              refine lv_dup hx hb dX9_oneOf_81 rfl ?_
              refine lv_iconst (v := 3) hx hb dX9_oneOf_82 (by decide) ?_
              refine lv_iload_n hx hb dX9_oneOf_83 rfl (lv_at hl 4 rfl) ?_
              refine lv_iload_n hx hb dX9_oneOf_84 rfl (lv_at hl 6 rfl) ?_
              refine lv_iload_n hx hb dX9_oneOf_85 rfl (lv_at hl 5 rfl) ?_
              refine lv_iload hx hb dX9_oneOf_86 (lv_at hl 7 rfl) ?_
              refine lv_iload hx hb dX9_oneOf_88 (lv_at hl 0 rfl) ?_
              refine lv_aload hx hb dX9_oneOf_90 (lv_at hl 2 rfl) ?_
              obtain ⟨g21, h⟩ := h
              refine DG_X9_94 [_, _, _] [] hx hb hT hown hK hh g21 (v := (mk i8).2.1 6) rfl dX9_oneOf_92 ?_
              refine jn_elim h (fun J111 hJ111 h => ?_)
              have kJ111 : ∀ (z_111 : Int32) (x_111 : Ob) (k_111 : Ob) (nw_111 : Ob) (H : Heap) (locs : List Loc) (ls : Array Slot), J111 z_111 x_111 k_111 nw_111 → Wh D A s.heap ((List.flatten [bX9 ad E x_111, bX5 ad E k_111, bX4 (fun _ : Nat => q20) E nw_111, dK ad E mk (k_111.2.1 1).toNatClampNeg])) H locs → lv_has ls 8 [] → W p l e ({ frames := 2, cells := 1, slots := 7, locals := 47 } : Room) s m args below meth c H locs 1 7 Q (F0 m 111 ls [.int (z_111), .int (r19), .int (x4), .int (x2), .int (x3), .int (x1), .int (3), .ref (q20), .ref (q20), .ref (ad 4 0)]) := by
                intro z_111 x_111 k_111 nw_111 H locs ls h hh hl
                rw [hJ111] at h
                have hc := hh.cut [_] [_, _, _] [2, 0, 1, 3] 4 rfl (by decide) rfl
                refine kV hc hA (rnIN hx hb hml hown hT hK hc (c_X4_init l D E (fun _ : Nat => q20) nw_111 (3 : Int32) x1 x3 x2 x4 r19 z_111 h _) mf_X4_init nml_X9_80 ⟨rfl, rfl, Nat.le_of_ble_eq_true rfl, Nat.le_of_ble_eq_true rfl⟩ ⟨Nat.le_of_ble_eq_true rfl, Nat.le_of_ble_eq_true rfl⟩ hl.1 rfl dX9_oneOf_111 (Nat.le_of_ble_eq_true rfl) rfl) (fun nw_25 H locs h hh => ?_)
                have hh : Wh D A s.heap ((List.flatten [bX9 ad E x_111, bX5 ad E k_111, bX4 (fun _ : Nat => q20) E nw_25, dK ad E mk (k_111.2.1 1).toNatClampNeg])) _ _ := Wh.back (cs := [_]) (rs := [_, _, _]) _ [1, 2, 0, 3] 4 rfl (by decide) rfl hh
                have hc := hh.cut [_, _, _] [_] [1, 2, 3, 0] 4 rfl (by decide) rfl
                refine kI hc hA (rnVN hx hb hml hown hT hK hc (c_X5_add l D E ad (fun _ : Nat => q20) mk k_111 nw_25 h _) mf_X5_add nml_X9_83 ⟨rfl, rfl, Nat.le_of_ble_eq_true rfl, Nat.le_of_ble_eq_true rfl⟩ ⟨Nat.le_of_ble_eq_true rfl, Nat.le_of_ble_eq_true rfl⟩ 5 0 rfl rfl hl.1 rfl dX9_oneOf_114 (Nat.le_of_ble_eq_true rfl) rfl) (fun r26 u H locs h hh => ?_)
                obtain ⟨ad_29, mk_27, k_28⟩ := u
                obtain ⟨g30, h⟩ := h
                rw [show bX9 ad E x_111 = bX9 ad_29 E x_111 from bX9_ag (Or.inr rfl) g30] at hh
                have hh : Wh D A s.heap (List.flatten [bX9 ad_29 E x_111, bX5 ad_29 E k_28, dK ad_29 E mk_27 (k_28.2.1 1).toNatClampNeg]) _ _ := Wh.back (cs := [_, _]) (rs := [_]) _ [2, 0, 1] 3 rfl (by decide) rfl hh
                refine W.widen (k := 1) (n := 7) (by omega) (by omega) ?_
                exact hret _ _ _ _ _ (ad_29, mk_27, x_111, k_28) dX9_oneOf_117 rfl ⟨g30, h⟩ hh
              refine jn_elim h (fun J106 hJ106 h => ?_)
              have kJ106 : ∀ (x_106 : Ob) (k_106 : Ob) (nw_106 : Ob) (H : Heap) (locs : List Loc) (ls : Array Slot), J106 x_106 k_106 nw_106 → Wh D A s.heap ((List.flatten [bX9 ad E x_106, bX5 ad E k_106, bX4 (fun _ : Nat => q20) E nw_106, dK ad E mk (k_106.2.1 1).toNatClampNeg])) H locs → lv_has ls 8 [] → W p l e ({ frames := 2, cells := 1, slots := 7, locals := 47 } : Room) s m args below meth c H locs 1 7 Q (F0 m 106 ls [.int (r19), .int (x4), .int (x2), .int (x3), .int (x1), .int (3), .ref (q20), .ref (q20), .ref (ad 4 0)]) := by
                intro x_106 k_106 nw_106 H locs ls h hh hl
                rw [hJ106] at h
                refine lv_iconst (v := 1) hx hb dX9_oneOf_106 (by decide) ?_
                refine lv_goto (tgt := 111) hx hb dX9_oneOf_107 (by decide) ?_
                exact kJ111 1 x_106 k_106 nw_106 _ _ _ h hh (lv_sub hl [] rfl)
              refine lv_if_ne (tgt := 106) hx hb dX9_oneOf_95 (by decide) (fun c22 => ?_) (fun c22 => ?_)
              · have h := h.1 c22
                exact kJ106 x k_10 ob0 _ _ _ h hh (lv_sub hl [] rfl)
              · have h := h.2 c22
                refine lv_aload hx hb dX9_oneOf_98 (lv_at hl 1 rfl) ?_
                obtain ⟨g23, h⟩ := h
                refine DG_X9_94 [_, _, _] [] hx hb hT hown hK hh g23 (v := (mk i12).2.1 6) rfl dX9_oneOf_100 ?_
                refine lv_if_eq (tgt := 110) hx hb dX9_oneOf_103 (by decide) (fun c24 => ?_) (fun c24 => ?_)
                · have h := h.1 c24
                  refine lv_iconst (v := 0) hx hb dX9_oneOf_110 (by decide) ?_
                  exact kJ111 0 x k_10 ob0 _ _ _ h hh (lv_sub hl [] rfl)
                · have h := h.2 c24
                  exact kJ106 x k_10 ob0 _ _ _ h hh (lv_sub hl [] rfl)
            · have h := h.2 c16
              refine lv_bipush (v := (-2)) hx hb dX9_oneOf_56 (by decide) ?_
              refine W.widen (k := 1) (n := 7) (by omega) (by omega) ?_
              exact hret _ _ _ _ _ (ad, mk, x, k_10) dX9_oneOf_58 rfl ⟨AgO.rf, h⟩ hh

def w_X9_mapped (mk : Nat → Ob) (x1 : Int32) (x2 : Int32) (x : Ob) (k : Ob) (Post : Int32 → (Nat → Ob) → Ob → Ob → Prop) : Prop := w_X5_at  x1 k (fun (r1 : Option Nat) (k_2 : Ob) => (k_2.2.1 1 = k.2.1 1) ∧ ((r1 = none → Post ((-1)) mk x k_2) ∧ (∀ i4 : Nat, r1 = some i4 → ((x2 < 0) → Post ((-2)) mk x k_2) ∧ (¬ (x2 < 0) → ((x2 < 5) → i4 < (k_2.2.1 1).toNatClampNeg ∧ (i4 < (k_2.2.1 1).toNatClampNeg ∧ (w_X4_init (4 : Int32) x1 x2 (0 : Int32) (0 : Int32) (((mk i4).2.1 5) + 1) ((mk i4).2.1 6) ob0 (fun (nw_10 : Ob) => w_X5_add mk k_2 nw_10 (fun (r11 : Int32) (mk_12 : Nat → Ob) (k_13 : Ob) => Post r11 mk_12 x k_13))))) ∧ (¬ (x2 < 5) → Post ((-2)) mk x k_2)))))
set_option maxRecDepth 100000 in
set_option maxHeartbeats 4000000 in
theorem c_X9_mapped (l : Launch) (D : va_G) (E : Nat → ClassId) (ad : Nat → Nat → Nat) (mk : Nat → Ob)  (x : Ob) (k : Ob) (x1 : Int32) (x2 : Int32) {Post : Int32 → (Nat → Ob) → Ob → Ob → Prop} (h : w_X9_mapped mk x1 x2 x k Post) : CtI l yX9_mapped cX9_mapped 4 .int ({ frames := 2, cells := 1, slots := 7, locals := 47 } : Room) D E [.ref (ad 0 0), .int (x1), .int (x2)] (List.flatten [bX9 ad E x, bX5 ad E k, dK ad E mk (k.2.1 1).toNatClampNeg]) (fun u : (Nat → Nat → Nat) × (Nat → Ob) × Ob × Ob => List.flatten [bX9 u.1 E u.2.2.1, bX5 u.1 E u.2.2.2, dK u.1 E u.2.1 (u.2.2.2.2.1 1).toNatClampNeg]) (fun (r : Int32) (u : (Nat → Nat → Nat) × (Nat → Ob) × Ob × Ob) => AgO 21 ad u.1 ∧ Post r u.2.1 u.2.2.1 u.2.2.2) 1 7 := by
  refine enI (by decide +kernel) (Nat.le_of_ble_eq_true rfl) ?_
  intro p e s m args below meth c Q A ls hx hb hml hown hT hK hA hret hh hl
  have hl : lv_has ls 4 [(0, .ref (ad 0 0)), (1, .int (x1)), (2, .int (x2))] := hl
  unfold w_X9_mapped at h
  refine lv_aload_n hx hb dX9_mapped_0 rfl (lv_at hl 0 rfl) ?_
  refine G_X9_21 [] [_, _] hx hb hT hown hK hh dX9_mapped_1 ?_
  refine lv_iload_n hx hb dX9_mapped_4 rfl (lv_at hl 1 rfl) ?_
  have hc := hh.cut [_] [_, _] [1, 0, 2] 3 rfl (by decide) rfl
  refine kE hc hA (rnVN hx hb hml hown hT hK hc (c_X5_at l D E ad  k x1 h _) mf_X5_at nml_X9_87 ⟨rfl, rfl, Nat.le_of_ble_eq_true rfl, Nat.le_of_ble_eq_true rfl⟩ ⟨Nat.le_of_ble_eq_true rfl, Nat.le_of_ble_eq_true rfl⟩ 5 0 rfl rfl hl.1 rfl dX9_mapped_5 (Nat.le_of_ble_eq_true rfl) rfl) (fun r1 k_2 H locs h hh => ?_)
  obtain ⟨g3, h⟩ := h
  rw [← g3] at hh
  have hh : Wh D A s.heap ((List.flatten [bX9 ad E x, bX5 ad E k_2, dK ad E mk (k_2.2.1 1).toNatClampNeg])) _ _ := Wh.back (cs := [_]) (rs := [_, _]) _ [1, 0, 2] 3 rfl (by decide) rfl hh
  cases r1 with
  | none =>
    have h := h.1 rfl
    refine lv_astore_nN (lv' := [(3, .null), (0, .ref (ad 0 0)), (1, .int (x1)), (2, .int (x2))]) hx hb dX9_mapped_8 rfl hl (by decide) rfl (fun ls hl => ?_)
    refine lv_aload_nN hx hb dX9_mapped_9 rfl (lv_at hl 0 rfl) ?_
    refine lv_ifnonnullN hx hb dX9_mapped_10 ?_
    refine lv_iconst (v := (-1)) hx hb dX9_mapped_13 (by decide) ?_
    refine W.widen (k := 1) (n := 7) (by omega) (by omega) ?_
    exact hret _ _ _ _ _ (ad, mk, x, k_2) dX9_mapped_14 rfl ⟨AgO.rf, h⟩ hh
  | some i4 =>
    have h := h.2 i4 rfl
    refine lv_astore_n (lv' := [(3, .ref (ad 21 i4)), (0, .ref (ad 0 0)), (1, .int (x1)), (2, .int (x2))]) hx hb dX9_mapped_8 rfl hl (by decide) rfl (fun ls hl => ?_)
    refine lv_aload_n hx hb dX9_mapped_9 rfl (lv_at hl 0 rfl) ?_
    refine lv_ifnonnull (tgt := 15) hx hb dX9_mapped_10 (by decide) ?_
    refine lv_iload_n hx hb dX9_mapped_15 rfl (lv_at hl 3 rfl) ?_
    refine lv_if_lt (tgt := 24) hx hb dX9_mapped_16 (by decide) (fun c5 => ?_) (fun c5 => ?_)
    · have h := h.1 c5
      refine lv_bipush (v := (-2)) hx hb dX9_mapped_24 (by decide) ?_
      refine W.widen (k := 1) (n := 7) (by omega) (by omega) ?_
      exact hret _ _ _ _ _ (ad, mk, x, k_2) dX9_mapped_26 rfl ⟨AgO.rf, h⟩ hh
    · have h := h.2 c5
      refine lv_iload_n hx hb dX9_mapped_19 rfl (lv_at hl 3 rfl) ?_
      refine lv_iconst (v := 5) hx hb dX9_mapped_20 (by decide) ?_
      refine lv_icmp_lt (tgt := 27) hx hb dX9_mapped_21 (by decide) (fun c6 => ?_) (fun c6 => ?_)
      · have h := h.1 c6
        refine lv_aload_n hx hb dX9_mapped_27 rfl (lv_at hl 1 rfl) ?_
        refine G_X9_21 [] [_, _] hx hb hT hown hK hh dX9_mapped_28 ?_
        refine N_X9_78 hx hb hT hown hK hh hA (Nat.le_of_ble_eq_true rfl) (Nat.le_of_ble_eq_true rfl) dX9_mapped_31 (fun q7 H hh => ?_)
        have hh : Wh D A s.heap ((List.flatten [bX9 ad E x, bX5 ad E k_2, bX4 (fun _ : Nat => q7) E ob0, dK ad E mk (k_2.2.1 1).toNatClampNeg])) _ _ := Wh.ord _ [0, 1, 3, 2] 4 rfl (by decide) rfl hh.snoc
        refine W.widen (k := 1) (n := 7) (by omega) (by omega) ?_
        refine lv_dup hx hb dX9_mapped_34 rfl ?_
        refine lv_iconst (v := 4) hx hb dX9_mapped_35 (by decide) ?_
        refine lv_iload_n hx hb dX9_mapped_36 rfl (lv_at hl 2 rfl) ?_
        refine lv_iload_n hx hb dX9_mapped_37 rfl (lv_at hl 3 rfl) ?_
        refine lv_iconst (v := 0) hx hb dX9_mapped_38 (by decide) ?_
        refine lv_iconst (v := 0) hx hb dX9_mapped_39 (by decide) ?_
        refine lv_aload_n hx hb dX9_mapped_40 rfl (lv_at hl 0 rfl) ?_
        obtain ⟨g8, h⟩ := h
        refine DG_X9_91 [_, _, _] [] hx hb hT hown hK hh g8 (v := (mk i4).2.1 5) rfl dX9_mapped_41 ?_
        refine lv_iconst (v := 1) hx hb dX9_mapped_44 (by decide) ?_
        refine lv_iadd hx hb dX9_mapped_45 ?_
        refine lv_aload_n hx hb dX9_mapped_46 rfl (lv_at hl 0 rfl) ?_
        obtain ⟨g9, h⟩ := h
        refine DG_X9_94 [_, _, _] [] hx hb hT hown hK hh g9 (v := (mk i4).2.1 6) rfl dX9_mapped_47 ?_
        have hc := hh.cut [_] [_, _, _] [2, 0, 1, 3] 4 rfl (by decide) rfl
        refine kV hc hA (rnIN hx hb hml hown hT hK hc (c_X4_init l D E (fun _ : Nat => q7) ob0 (4 : Int32) x1 x2 (0 : Int32) (0 : Int32) (((mk i4).2.1 5) + 1) ((mk i4).2.1 6) h _) mf_X4_init nml_X9_80 ⟨rfl, rfl, Nat.le_of_ble_eq_true rfl, Nat.le_of_ble_eq_true rfl⟩ ⟨Nat.le_of_ble_eq_true rfl, Nat.le_of_ble_eq_true rfl⟩ hl.1 rfl dX9_mapped_50 (Nat.le_of_ble_eq_true rfl) rfl) (fun nw_10 H locs h hh => ?_)
        have hh : Wh D A s.heap ((List.flatten [bX9 ad E x, bX5 ad E k_2, bX4 (fun _ : Nat => q7) E nw_10, dK ad E mk (k_2.2.1 1).toNatClampNeg])) _ _ := Wh.back (cs := [_]) (rs := [_, _, _]) _ [1, 2, 0, 3] 4 rfl (by decide) rfl hh
        have hc := hh.cut [_, _, _] [_] [1, 2, 3, 0] 4 rfl (by decide) rfl
        refine kI hc hA (rnVN hx hb hml hown hT hK hc (c_X5_add l D E ad (fun _ : Nat => q7) mk k_2 nw_10 h _) mf_X5_add nml_X9_83 ⟨rfl, rfl, Nat.le_of_ble_eq_true rfl, Nat.le_of_ble_eq_true rfl⟩ ⟨Nat.le_of_ble_eq_true rfl, Nat.le_of_ble_eq_true rfl⟩ 5 0 rfl rfl hl.1 rfl dX9_mapped_53 (Nat.le_of_ble_eq_true rfl) rfl) (fun r11 u H locs h hh => ?_)
        obtain ⟨ad_14, mk_12, k_13⟩ := u
        obtain ⟨g15, h⟩ := h
        rw [show bX9 ad E x = bX9 ad_14 E x from bX9_ag (Or.inr rfl) g15] at hh
        have hh : Wh D A s.heap (List.flatten [bX9 ad_14 E x, bX5 ad_14 E k_13, dK ad_14 E mk_12 (k_13.2.1 1).toNatClampNeg]) _ _ := Wh.back (cs := [_, _]) (rs := [_]) _ [2, 0, 1] 3 rfl (by decide) rfl hh
        refine W.widen (k := 1) (n := 7) (by omega) (by omega) ?_
        exact hret _ _ _ _ _ (ad_14, mk_12, x, k_13) dX9_mapped_56 rfl ⟨g15, h⟩ hh
      · have h := h.2 c6
        refine lv_bipush (v := (-2)) hx hb dX9_mapped_24 (by decide) ?_
        refine W.widen (k := 1) (n := 7) (by omega) (by omega) ?_
        exact hret _ _ _ _ _ (ad, mk, x, k_2) dX9_mapped_26 rfl ⟨AgO.rf, h⟩ hh

def w_X9_shuffled (mk : Nat → Ob) (x1 : Int32) (x : Ob) (k : Ob) (Post : Int32 → (Nat → Ob) → Ob → Ob → Prop) : Prop := ((x1 < 1) → Post ((-2)) mk x k) ∧ (¬ (x1 < 1) → ((x1 ≤ 24) → w_X4_init (6 : Int32) x1 (0 : Int32) (0 : Int32) (0 : Int32) x1 (0 : Int32) ob0 (fun (nw_4 : Ob) => w_X5_add mk k nw_4 (fun (r5 : Int32) (mk_6 : Nat → Ob) (k_7 : Ob) => Post r5 mk_6 x k_7))) ∧ (¬ (x1 ≤ 24) → Post ((-2)) mk x k))
set_option maxRecDepth 100000 in
set_option maxHeartbeats 4000000 in
theorem c_X9_shuffled (l : Launch) (D : va_G) (E : Nat → ClassId) (ad : Nat → Nat → Nat) (mk : Nat → Ob)  (x : Ob) (k : Ob) (x1 : Int32) {Post : Int32 → (Nat → Ob) → Ob → Ob → Prop} (h : w_X9_shuffled mk x1 x k Post) : CtI l yX9_shuffled cX9_shuffled 2 .int ({ frames := 2, cells := 1, slots := 7, locals := 47 } : Room) D E [.ref (ad 0 0), .int (x1)] (List.flatten [bX9 ad E x, bX5 ad E k, dK ad E mk (k.2.1 1).toNatClampNeg]) (fun u : (Nat → Nat → Nat) × (Nat → Ob) × Ob × Ob => List.flatten [bX9 u.1 E u.2.2.1, bX5 u.1 E u.2.2.2, dK u.1 E u.2.1 (u.2.2.2.2.1 1).toNatClampNeg]) (fun (r : Int32) (u : (Nat → Nat → Nat) × (Nat → Ob) × Ob × Ob) => AgO 21 ad u.1 ∧ Post r u.2.1 u.2.2.1 u.2.2.2) 1 7 := by
  refine enI (by decide +kernel) (Nat.le_of_ble_eq_true rfl) ?_
  intro p e s m args below meth c Q A ls hx hb hml hown hT hK hA hret hh hl
  have hl : lv_has ls 2 [(0, .ref (ad 0 0)), (1, .int (x1))] := hl
  unfold w_X9_shuffled at h
  refine lv_iload_n hx hb dX9_shuffled_0 rfl (lv_at hl 1 rfl) ?_
  refine lv_iconst (v := 1) hx hb dX9_shuffled_1 (by decide) ?_
  refine lv_icmp_lt (tgt := 11) hx hb dX9_shuffled_2 (by decide) (fun c1 => ?_) (fun c1 => ?_)
  · have h := h.1 c1
    refine lv_bipush (v := (-2)) hx hb dX9_shuffled_11 (by decide) ?_
    refine W.widen (k := 1) (n := 7) (by omega) (by omega) ?_
    exact hret _ _ _ _ _ (ad, mk, x, k) dX9_shuffled_13 rfl ⟨AgO.rf, h⟩ hh
  · have h := h.2 c1
    refine lv_iload_n hx hb dX9_shuffled_5 rfl (lv_at hl 1 rfl) ?_
    refine lv_bipush (v := 24) hx hb dX9_shuffled_6 (by decide) ?_
    refine lv_icmp_le (tgt := 14) hx hb dX9_shuffled_8 (by decide) (fun c2 => ?_) (fun c2 => ?_)
    · have h := h.1 c2
      refine lv_aload_n hx hb dX9_shuffled_14 rfl (lv_at hl 0 rfl) ?_
      refine G_X9_21 [] [_, _] hx hb hT hown hK hh dX9_shuffled_15 ?_
      refine N_X9_78 hx hb hT hown hK hh hA (Nat.le_of_ble_eq_true rfl) (Nat.le_of_ble_eq_true rfl) dX9_shuffled_18 (fun q3 H hh => ?_)
      have hh : Wh D A s.heap ((List.flatten [bX9 ad E x, bX5 ad E k, bX4 (fun _ : Nat => q3) E ob0, dK ad E mk (k.2.1 1).toNatClampNeg])) _ _ := Wh.ord _ [0, 1, 3, 2] 4 rfl (by decide) rfl hh.snoc
      refine W.widen (k := 1) (n := 7) (by omega) (by omega) ?_
      refine lv_dup hx hb dX9_shuffled_21 rfl ?_
      refine lv_bipush (v := 6) hx hb dX9_shuffled_22 (by decide) ?_
      refine lv_iload_n hx hb dX9_shuffled_24 rfl (lv_at hl 1 rfl) ?_
      refine lv_iconst (v := 0) hx hb dX9_shuffled_25 (by decide) ?_
      refine lv_iconst (v := 0) hx hb dX9_shuffled_26 (by decide) ?_
      refine lv_iconst (v := 0) hx hb dX9_shuffled_27 (by decide) ?_
      refine lv_iload_n hx hb dX9_shuffled_28 rfl (lv_at hl 1 rfl) ?_
      refine lv_iconst (v := 0) hx hb dX9_shuffled_29 (by decide) ?_
      have hc := hh.cut [_] [_, _, _] [2, 0, 1, 3] 4 rfl (by decide) rfl
      refine kV hc hA (rnIN hx hb hml hown hT hK hc (c_X4_init l D E (fun _ : Nat => q3) ob0 (6 : Int32) x1 (0 : Int32) (0 : Int32) (0 : Int32) x1 (0 : Int32) h _) mf_X4_init nml_X9_80 ⟨rfl, rfl, Nat.le_of_ble_eq_true rfl, Nat.le_of_ble_eq_true rfl⟩ ⟨Nat.le_of_ble_eq_true rfl, Nat.le_of_ble_eq_true rfl⟩ hl.1 rfl dX9_shuffled_30 (Nat.le_of_ble_eq_true rfl) rfl) (fun nw_4 H locs h hh => ?_)
      have hh : Wh D A s.heap ((List.flatten [bX9 ad E x, bX5 ad E k, bX4 (fun _ : Nat => q3) E nw_4, dK ad E mk (k.2.1 1).toNatClampNeg])) _ _ := Wh.back (cs := [_]) (rs := [_, _, _]) _ [1, 2, 0, 3] 4 rfl (by decide) rfl hh
      have hc := hh.cut [_, _, _] [_] [1, 2, 3, 0] 4 rfl (by decide) rfl
      refine kI hc hA (rnVN hx hb hml hown hT hK hc (c_X5_add l D E ad (fun _ : Nat => q3) mk k nw_4 h _) mf_X5_add nml_X9_83 ⟨rfl, rfl, Nat.le_of_ble_eq_true rfl, Nat.le_of_ble_eq_true rfl⟩ ⟨Nat.le_of_ble_eq_true rfl, Nat.le_of_ble_eq_true rfl⟩ 5 0 rfl rfl hl.1 rfl dX9_shuffled_33 (Nat.le_of_ble_eq_true rfl) rfl) (fun r5 u H locs h hh => ?_)
      obtain ⟨ad_8, mk_6, k_7⟩ := u
      obtain ⟨g9, h⟩ := h
      rw [show bX9 ad E x = bX9 ad_8 E x from bX9_ag (Or.inr rfl) g9] at hh
      have hh : Wh D A s.heap (List.flatten [bX9 ad_8 E x, bX5 ad_8 E k_7, dK ad_8 E mk_6 (k_7.2.1 1).toNatClampNeg]) _ _ := Wh.back (cs := [_, _]) (rs := [_]) _ [2, 0, 1] 3 rfl (by decide) rfl hh
      refine W.widen (k := 1) (n := 7) (by omega) (by omega) ?_
      exact hret _ _ _ _ _ (ad_8, mk_6, x, k_7) dX9_shuffled_36 rfl ⟨g9, h⟩ hh
    · have h := h.2 c2
      refine lv_bipush (v := (-2)) hx hb dX9_shuffled_11 (by decide) ?_
      refine W.widen (k := 1) (n := 7) (by omega) (by omega) ?_
      exact hret _ _ _ _ _ (ad, mk, x, k) dX9_shuffled_13 rfl ⟨AgO.rf, h⟩ hh
