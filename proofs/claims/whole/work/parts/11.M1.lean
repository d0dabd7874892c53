def w_X10_bound  (o : Ob) (Post : Int32 → Ob → Prop) : Prop := w_X10_sumOfLeaves   o (fun (r1 : Int32) (o_2 : Ob) => ((0 ≤ r1) → ((r1 ≤ 1000000) → Post r1 o_2) ∧ (¬ (r1 ≤ 1000000) → Post 1000000 o_2)) ∧ (¬ (0 ≤ r1) → Post 0 o_2))
set_option maxRecDepth 100000 in
set_option maxHeartbeats 4000000 in
theorem c_X10_bound (l : Launch) (D : va_G) (E : Nat → ClassId) (a : Nat → Nat)  (o : Ob)  {Post : Int32 → Ob → Prop} (h : w_X10_bound  o Post) : CtI l yX10_bound cX10_bound 2 .int ({ frames := 1, cells := 0, slots := 0, locals := 22 } : Room) D E [.ref (a 0)] (List.flatten [bX10 a E o]) (fun u : Ob => List.flatten [bX10 a E u]) Post 0 0 := by
  refine enI (by decide +kernel) (Nat.le_of_ble_eq_true rfl) ?_
  intro p e s m args below meth c Q A ls hx hb hml hown hT hK hA hret hh hl
  have hl : lv_has ls 2 [(0, .ref (a 0))] := hl
  unfold w_X10_bound at h
  refine lv_aload_n hx hb dX10_bound_0 rfl (lv_at hl 0 rfl) ?_
  refine kI hh.ap0 hA (rnV hx hb hml hown hT hK hh.ap0 (c_X10_sumOfLeaves l D E a  o  h _) mf_X10_sumOfLeaves kml_X10_174 ⟨rfl, rfl, Nat.le_of_ble_eq_true rfl, Nat.le_of_ble_eq_true rfl⟩ ⟨Nat.le_of_ble_eq_true rfl, Nat.le_of_ble_eq_true rfl⟩ 10 0 rfl rfl hl.1 rfl dX10_bound_1 (Nat.le_of_ble_eq_true rfl) rfl) (fun r1 o_2 H locs h hh => ?_)
  have hh : Wh D A s.heap ((List.flatten [bX10 a E o_2])) _ _ := hh.un0
  refine lv_istore_n (lv' := [(1, .int (r1)), (0, .ref (a 0))]) hx hb dX10_bound_4 rfl hl (by decide) rfl (fun ls hl => ?_)
  refine lv_iload_n hx hb dX10_bound_5 rfl (lv_at hl 0 rfl) ?_
  refine lv_if_ge (tgt := 13) hx hb dX10_bound_6 (by decide) (fun c3 => ?_) (fun c3 => ?_)
  · have h := h.1 c3
    refine lv_iload_n hx hb dX10_bound_13 rfl (lv_at hl 0 rfl) ?_
    refine lv_ldc (v := 1000000) hx hb hown (hT _ kcn_X10_131) dX10_bound_14 ?_
    refine lv_icmp_le (tgt := 24) hx hb dX10_bound_16 (by decide) (fun c4 => ?_) (fun c4 => ?_)
    · have h := h.1 c4
      refine lv_iload_n hx hb dX10_bound_24 rfl (lv_at hl 0 rfl) ?_
      exact hret _ _ _ _ _ o_2 dX10_bound_25 rfl h hh
    · have h := h.2 c4
      refine lv_ldc (v := 1000000) hx hb hown (hT _ kcn_X10_131) dX10_bound_19 ?_
      refine lv_goto (tgt := 25) hx hb dX10_bound_21 (by decide) ?_
      exact hret _ _ _ _ _ o_2 dX10_bound_25 rfl h hh
  · have h := h.2 c3
    refine lv_iconst (v := 0) hx hb dX10_bound_9 (by decide) ?_
    refine lv_goto (tgt := 25) hx hb dX10_bound_10 (by decide) ?_
    exact hret _ _ _ _ _ o_2 dX10_bound_25 rfl h hh

def w_X10_check (x1 : Int32) (x2 : Int32) (x3 : Int32) (o : Ob) (Post : Int32 → Ob → Prop) : Prop := jn (fun J47 : Ob → Prop => jn (fun J12 : Ob → Prop => ((x1 = 8) → J12 o) ∧ (¬ (x1 = 8) → ((¬ x1 = 9) → ((¬ x1 = 10) → J47 o) ∧ ((x1 = 10) → w_X10_noCheck  x2 o (fun (r4 : Int32) (o_5 : Ob) => ((r4 = 0) → J47 o_5) ∧ (¬ (r4 = 0) → Post ((-1)) o_5)))) ∧ ((x1 = 9) → J12 o))) (fun (o_12 : Ob) => w_X10_noCheck  x2 o_12 (fun (r7 : Int32) (o_8 : Ob) => ((¬ r7 = 0) → Post ((-1)) o_8) ∧ ((r7 = 0) → w_X10_noCheck  x3 o_8 (fun (r10 : Int32) (o_11 : Ob) => ((r10 = 0) → J47 o_11) ∧ (¬ (r10 = 0) → Post ((-1)) o_11)))))) (fun (o_47 : Ob) => w_X10_in  x1 (0 : Int32) (11 : Int32)  (fun (r13 : Int32) => ((r13 = 0) → Post ((-2)) o_47) ∧ (¬ (r13 = 0) → jn (fun J84 : Ob → Prop => ((¬ x1 = 11) → J84 o_47) ∧ ((x1 = 11) → w_X10_in  x2 (0 : Int32) (2 : Int32)  (fun (r16 : Int32) => ((r16 = 0) → Post ((-2)) o_47) ∧ (¬ (r16 = 0) → w_X10_in  x3 (0 : Int32) (3 : Int32)  (fun (r18 : Int32) => ((¬ r18 = 0) → J84 o_47) ∧ ((r18 = 0) → Post ((-2)) o_47)))))) (fun (o_84 : Ob) => ((¬ (o_84.2.1 21) = 40) → vp_in (o_84.2.1 21) 40 ∧ (vp_in (o_84.2.1 21) 40 ∧ (vp_in (o_84.2.1 21) 40 ∧ (Post ((((o_84.2.1 21) + 1)) - 1) ((o_84.1, (upd o_84.2.1 21 (((o_84.2.1 21) + 1))), (sa (sa (sa o_84.2.2 22 (upd (o_84.2.2 22) (o_84.2.1 21).toNatClampNeg x1)) 23 (upd (o_84.2.2 23) (o_84.2.1 21).toNatClampNeg x2)) 24 (upd (o_84.2.2 24) (o_84.2.1 21).toNatClampNeg x3)))))))) ∧ (((o_84.2.1 21) = 40) → Post ((-4)) o_84)))))
set_option maxRecDepth 100000 in
set_option maxHeartbeats 4000000 in
theorem c_X10_check (l : Launch) (D : va_G) (E : Nat → ClassId) (a : Nat → Nat)  (o : Ob) (x1 : Int32) (x2 : Int32) (x3 : Int32) {Post : Int32 → Ob → Prop} (h : w_X10_check x1 x2 x3 o Post) : CtI l yX10_check cX10_check 4 .int ({ frames := 2, cells := 0, slots := 0, locals := 43 } : Room) D E [.ref (a 0), .int (x1), .int (x2), .int (x3)] (List.flatten [bX10 a E o]) (fun u : Ob => List.flatten [bX10 a E u]) Post 0 0 := by
  refine enI (by decide +kernel) (Nat.le_of_ble_eq_true rfl) ?_
  intro p e s m args below meth c Q A ls hx hb hml hown hT hK hA hret hh hl
  have hl : lv_has ls 4 [(0, .ref (a 0)), (1, .int (x1)), (2, .int (x2)), (3, .int (x3))] := hl
  unfold w_X10_check at h
  refine lv_iload_n hx hb dX10_check_0 rfl (lv_at hl 1 rfl) ?_
  refine lv_bipush (v := 8) hx hb dX10_check_1 (by decide) ?_
  refine jn_elim h (fun J47 hJ47 h => ?_)
  have kJ47 : ∀ (o_47 : Ob) (H : Heap) (locs : List Loc) (ls : Array Slot), J47 o_47 → Wh D A s.heap ((List.flatten [bX10 a E o_47])) H locs → lv_has ls 4 [(0, .ref (a 0)), (1, .int (x1)), (2, .int (x2)), (3, .int (x3))] → W p l e ({ frames := 2, cells := 0, slots := 0, locals := 43 } : Room) s m args below meth c H locs 0 0 Q (F0 m 47 ls []) := by
    intro o_47 H locs ls h hh hl
    rw [hJ47] at h
    refine lv_iload_n hx hb dX10_check_47 rfl (lv_at hl 1 rfl) ?_
    refine lv_iconst (v := 0) hx hb dX10_check_48 (by decide) ?_
    refine lv_bipush (v := 11) hx hb dX10_check_49 (by decide) ?_
    refine kI hh.none hA (rnS hx hb hml hown hT hK hh.none (c_X10_in l D E    x1 (0 : Int32) (11 : Int32) h _) mf_X10_in kml_X10_126 ⟨rfl, rfl, Nat.le_of_ble_eq_true rfl, Nat.le_of_ble_eq_true rfl⟩ ⟨Nat.le_of_ble_eq_true rfl, Nat.le_of_ble_eq_true rfl⟩ hl.1 rfl dX10_check_51 (Nat.le_of_ble_eq_true rfl) rfl) (fun r13 u H locs h hh => ?_)
    have hh : Wh D A s.heap ((List.flatten [bX10 a E o_47])) _ _ := hh.unone
    refine lv_if_eq (tgt := 81) hx hb dX10_check_54 (by decide) (fun c14 => ?_) (fun c14 => ?_)
    · have h := h.1 c14
      refine lv_bipush (v := (-2)) hx hb dX10_check_81 (by decide) ?_
      exact hret _ _ _ _ _ o_47 dX10_check_83 rfl h hh
    · have h := h.2 c14
      refine lv_iload_n hx hb dX10_check_57 rfl (lv_at hl 1 rfl) ?_
      refine lv_bipush (v := 11) hx hb dX10_check_58 (by decide) ?_
      refine jn_elim h (fun J84 hJ84 h => ?_)
      have kJ84 : ∀ (o_84 : Ob) (H : Heap) (locs : List Loc) (ls : Array Slot), J84 o_84 → Wh D A s.heap ((List.flatten [bX10 a E o_84])) H locs → lv_has ls 4 [(0, .ref (a 0)), (1, .int (x1)), (2, .int (x2)), (3, .int (x3))] → W p l e ({ frames := 2, cells := 0, slots := 0, locals := 43 } : Room) s m args below meth c H locs 0 0 Q (F0 m 84 ls []) := by
        intro o_84 H locs ls h hh hl
        rw [hJ84] at h
        refine lv_aload_n hx hb dX10_check_84 rfl (lv_at hl 0 rfl) ?_
        refine G_X10_178 [] [] hx hb hT hown hK hh (v := o_84.2.1 21) rfl dX10_check_85 ?_
        refine lv_bipush (v := 40) hx hb dX10_check_88 (by decide) ?_
        refine lv_icmp_ne (tgt := 96) hx hb dX10_check_90 (by decide) (fun c20 => ?_) (fun c20 => ?_)
        · have h := h.1 c20
          refine lv_aload_n hx hb dX10_check_96 rfl (lv_at hl 0 rfl) ?_
          refine G_X10_62 [] [] hx hb hT hown hK hh dX10_check_97 ?_
          refine lv_aload_n hx hb dX10_check_100 rfl (lv_at hl 0 rfl) ?_
          refine G_X10_178 [] [] hx hb hT hown hK hh (v := o_84.2.1 21) rfl dX10_check_101 ?_
          refine lv_iload_n hx hb dX10_check_104 rfl (lv_at hl 1 rfl) ?_
          obtain ⟨g21, h⟩ := h
          refine S_X10_22 [] [] hx hb hK hh g21 dX10_check_105 (fun H locs (hh : Wh D A s.heap ((List.flatten [bX10 a E ((o_84.1, o_84.2.1, (sa o_84.2.2 22 (upd (o_84.2.2 22) (o_84.2.1 21).toNatClampNeg x1))))])) H locs) => ?_)
          refine lv_aload_n hx hb dX10_check_106 rfl (lv_at hl 0 rfl) ?_
          refine G_X10_65 [] [] hx hb hT hown hK hh dX10_check_107 ?_
          refine lv_aload_n hx hb dX10_check_110 rfl (lv_at hl 0 rfl) ?_
          refine G_X10_178 [] [] hx hb hT hown hK hh (v := o_84.2.1 21) rfl dX10_check_111 ?_
          refine lv_iload_n hx hb dX10_check_114 rfl (lv_at hl 2 rfl) ?_
          obtain ⟨g22, h⟩ := h
          refine S_X10_23 [] [] hx hb hK hh g22 dX10_check_115 (fun H locs (hh : Wh D A s.heap ((List.flatten [bX10 a E ((o_84.1, o_84.2.1, (sa (sa o_84.2.2 22 (upd (o_84.2.2 22) (o_84.2.1 21).toNatClampNeg x1)) 23 (upd (o_84.2.2 23) (o_84.2.1 21).toNatClampNeg x2))))])) H locs) => ?_)
          refine lv_aload_n hx hb dX10_check_116 rfl (lv_at hl 0 rfl) ?_
          refine G_X10_68 [] [] hx hb hT hown hK hh dX10_check_117 ?_
          refine lv_aload_n hx hb dX10_check_120 rfl (lv_at hl 0 rfl) ?_
          refine G_X10_178 [] [] hx hb hT hown hK hh (v := o_84.2.1 21) rfl dX10_check_121 ?_
          refine lv_iload_n hx hb dX10_check_124 rfl (lv_at hl 3 rfl) ?_
          obtain ⟨g23, h⟩ := h
          refine S_X10_24 [] [] hx hb hK hh g23 dX10_check_125 (fun H locs (hh : Wh D A s.heap ((List.flatten [bX10 a E ((o_84.1, o_84.2.1, (sa (sa (sa o_84.2.2 22 (upd (o_84.2.2 22) (o_84.2.1 21).toNatClampNeg x1)) 23 (upd (o_84.2.2 23) (o_84.2.1 21).toNatClampNeg x2)) 24 (upd (o_84.2.2 24) (o_84.2.1 21).toNatClampNeg x3))))])) H locs) => ?_)
          refine lv_aload_n hx hb dX10_check_126 rfl (lv_at hl 0 rfl) ?_
          refine lv_dup hx hb dX10_check_127 rfl ?_
          refine G_X10_178 [] [] hx hb hT hown hK hh (v := o_84.2.1 21) rfl dX10_check_128 ?_
          refine lv_iconst (v := 1) hx hb dX10_check_131 (by decide) ?_
          refine lv_iadd hx hb dX10_check_132 ?_
          refine P_X10_178 [] [] hx hb hT hown hK hh dX10_check_133 (fun H locs (hh : Wh D A s.heap ((List.flatten [bX10 a E ((o_84.1, (upd o_84.2.1 21 (((o_84.2.1 21) + 1))), (sa (sa (sa o_84.2.2 22 (upd (o_84.2.2 22) (o_84.2.1 21).toNatClampNeg x1)) 23 (upd (o_84.2.2 23) (o_84.2.1 21).toNatClampNeg x2)) 24 (upd (o_84.2.2 24) (o_84.2.1 21).toNatClampNeg x3))))])) H locs) => ?_)
          refine lv_aload_n hx hb dX10_check_136 rfl (lv_at hl 0 rfl) ?_
          refine G_X10_178 [] [] hx hb hT hown hK hh (v := ((o_84.2.1 21) + 1)) rfl dX10_check_137 ?_
          refine lv_iconst (v := 1) hx hb dX10_check_140 (by decide) ?_
          refine lv_isub hx hb dX10_check_141 ?_
          exact hret _ _ _ _ _ (o_84.1, (upd o_84.2.1 21 (((o_84.2.1 21) + 1))), (sa (sa (sa o_84.2.2 22 (upd (o_84.2.2 22) (o_84.2.1 21).toNatClampNeg x1)) 23 (upd (o_84.2.2 23) (o_84.2.1 21).toNatClampNeg x2)) 24 (upd (o_84.2.2 24) (o_84.2.1 21).toNatClampNeg x3))) dX10_check_142 rfl h hh
        · have h := h.2 c20
          refine lv_bipush (v := (-4)) hx hb dX10_check_93 (by decide) ?_
          exact hret _ _ _ _ _ o_84 dX10_check_95 rfl h hh
      refine lv_icmp_ne (tgt := 84) hx hb dX10_check_60 (by decide) (fun c15 => ?_) (fun c15 => ?_)
      · have h := h.1 c15
        exact kJ84 o_47 _ _ _ h hh (lv_sub hl [0, 1, 2, 3] rfl)
      · have h := h.2 c15
        refine lv_iload_n hx hb dX10_check_63 rfl (lv_at hl 2 rfl) ?_
        refine lv_iconst (v := 0) hx hb dX10_check_64 (by decide) ?_
        refine lv_iconst (v := 2) hx hb dX10_check_65 (by decide) ?_
        refine kI hh.none hA (rnS hx hb hml hown hT hK hh.none (c_X10_in l D E    x2 (0 : Int32) (2 : Int32) h _) mf_X10_in kml_X10_126 ⟨rfl, rfl, Nat.le_of_ble_eq_true rfl, Nat.le_of_ble_eq_true rfl⟩ ⟨Nat.le_of_ble_eq_true rfl, Nat.le_of_ble_eq_true rfl⟩ hl.1 rfl dX10_check_66 (Nat.le_of_ble_eq_true rfl) rfl) (fun r16 u H locs h hh => ?_)
        have hh : Wh D A s.heap ((List.flatten [bX10 a E o_47])) _ _ := hh.unone
        refine lv_if_eq (tgt := 81) hx hb dX10_check_69 (by decide) (fun c17 => ?_) (fun c17 => ?_)
        · have h := h.1 c17
          refine lv_bipush (v := (-2)) hx hb dX10_check_81 (by decide) ?_
          exact hret _ _ _ _ _ o_47 dX10_check_83 rfl h hh
        · have h := h.2 c17
          refine lv_iload_n hx hb dX10_check_72 rfl (lv_at hl 3 rfl) ?_
          refine lv_iconst (v := 0) hx hb dX10_check_73 (by decide) ?_
          refine lv_iconst (v := 3) hx hb dX10_check_74 (by decide) ?_
          refine kI hh.none hA (rnS hx hb hml hown hT hK hh.none (c_X10_in l D E    x3 (0 : Int32) (3 : Int32) h _) mf_X10_in kml_X10_126 ⟨rfl, rfl, Nat.le_of_ble_eq_true rfl, Nat.le_of_ble_eq_true rfl⟩ ⟨Nat.le_of_ble_eq_true rfl, Nat.le_of_ble_eq_true rfl⟩ hl.1 rfl dX10_check_75 (Nat.le_of_ble_eq_true rfl) rfl) (fun r18 u H locs h hh => ?_)
          have hh : Wh D A s.heap ((List.flatten [bX10 a E o_47])) _ _ := hh.unone
          refine lv_if_ne (tgt := 84) hx hb dX10_check_78 (by decide) (fun c19 => ?_) (fun c19 => ?_)
          · have h := h.1 c19
            exact kJ84 o_47 _ _ _ h hh (lv_sub hl [0, 1, 2, 3] rfl)
          · have h := h.2 c19
            refine lv_bipush (v := (-2)) hx hb dX10_check_81 (by decide) ?_
            exact hret _ _ _ _ _ o_47 dX10_check_83 rfl h hh
  refine jn_elim h (fun J12 hJ12 h => ?_)
  have kJ12 : ∀ (o_12 : Ob) (H : Heap) (locs : List Loc) (ls : Array Slot), J12 o_12 → Wh D A s.heap ((List.flatten [bX10 a E o_12])) H locs → lv_has ls 4 [(0, .ref (a 0)), (1, .int (x1)), (2, .int (x2)), (3, .int (x3))] → W p l e ({ frames := 2, cells := 0, slots := 0, locals := 43 } : Room) s m args below meth c H locs 0 0 Q (F0 m 12 ls []) := by
    intro o_12 H locs ls h hh hl
    rw [hJ12] at h
    refine lv_aload_n hx hb dX10_check_12 rfl (lv_at hl 0 rfl) ?_
    refine lv_iload_n hx hb dX10_check_13 rfl (lv_at hl 2 rfl) ?_
    refine kI hh.ap0 hA (rnV hx hb hml hown hT hK hh.ap0 (c_X10_noCheck l D E a  o_12 x2 h _) mf_X10_noCheck kml_X10_140 ⟨rfl, rfl, Nat.le_of_ble_eq_true rfl, Nat.le_of_ble_eq_true rfl⟩ ⟨Nat.le_of_ble_eq_true rfl, Nat.le_of_ble_eq_true rfl⟩ 10 0 rfl rfl hl.1 rfl dX10_check_14 (Nat.le_of_ble_eq_true rfl) rfl) (fun r7 o_8 H locs h hh => ?_)
    have hh : Wh D A s.heap ((List.flatten [bX10 a E o_8])) _ _ := hh.un0
    refine lv_if_ne (tgt := 45) hx hb dX10_check_17 (by decide) (fun c9 => ?_) (fun c9 => ?_)
    · have h := h.1 c9
      refine lv_iconst (v := (-1)) hx hb dX10_check_45 (by decide) ?_
      exact hret _ _ _ _ _ o_8 dX10_check_46 rfl h hh
    · have h := h.2 c9
      refine lv_aload_n hx hb dX10_check_20 rfl (lv_at hl 0 rfl) ?_
      refine lv_iload_n hx hb dX10_check_21 rfl (lv_at hl 3 rfl) ?_
      refine kI hh.ap0 hA (rnV hx hb hml hown hT hK hh.ap0 (c_X10_noCheck l D E a  o_8 x3 h _) mf_X10_noCheck kml_X10_140 ⟨rfl, rfl, Nat.le_of_ble_eq_true rfl, Nat.le_of_ble_eq_true rfl⟩ ⟨Nat.le_of_ble_eq_true rfl, Nat.le_of_ble_eq_true rfl⟩ 10 0 rfl rfl hl.1 rfl dX10_check_22 (Nat.le_of_ble_eq_true rfl) rfl) (fun r10 o_11 H locs h hh => ?_)
      have hh : Wh D A s.heap ((List.flatten [bX10 a E o_11])) _ _ := hh.un0
      refine lv_if_eq (tgt := 47) hx hb dX10_check_25 (by decide) (fun c12 => ?_) (fun c12 => ?_)
      · have h := h.1 c12
        exact kJ47 o_11 _ _ _ h hh (lv_sub hl [0, 1, 2, 3] rfl)
      · have h := h.2 c12
        refine lv_goto (tgt := 45) hx hb dX10_check_28 (by decide) ?_
        refine lv_iconst (v := (-1)) hx hb dX10_check_45 (by decide) ?_
        exact hret _ _ _ _ _ o_11 dX10_check_46 rfl h hh
  refine lv_icmp_eq (tgt := 12) hx hb dX10_check_3 (by decide) (fun c1 => ?_) (fun c1 => ?_)
  · have h := h.1 c1
    exact kJ12 o _ _ _ h hh (lv_sub hl [0, 1, 2, 3] rfl)
  · have h := h.2 c1
    refine lv_iload_n hx hb dX10_check_6 rfl (lv_at hl 1 rfl) ?_
    refine lv_bipush (v := 9) hx hb dX10_check_7 (by decide) ?_
    refine lv_icmp_ne (tgt := 31) hx hb dX10_check_9 (by decide) (fun c2 => ?_) (fun c2 => ?_)
    · have h := h.1 c2
      refine lv_iload_n hx hb dX10_check_31 rfl (lv_at hl 1 rfl) ?_
      refine lv_bipush (v := 10) hx hb dX10_check_32 (by decide) ?_
      refine lv_icmp_ne (tgt := 47) hx hb dX10_check_34 (by decide) (fun c3 => ?_) (fun c3 => ?_)
      · have h := h.1 c3
        exact kJ47 o _ _ _ h hh (lv_sub hl [0, 1, 2, 3] rfl)
      · have h := h.2 c3
        refine lv_aload_n hx hb dX10_check_37 rfl (lv_at hl 0 rfl) ?_
        refine lv_iload_n hx hb dX10_check_38 rfl (lv_at hl 2 rfl) ?_
        refine kI hh.ap0 hA (rnV hx hb hml hown hT hK hh.ap0 (c_X10_noCheck l D E a  o x2 h _) mf_X10_noCheck kml_X10_140 ⟨rfl, rfl, Nat.le_of_ble_eq_true rfl, Nat.le_of_ble_eq_true rfl⟩ ⟨Nat.le_of_ble_eq_true rfl, Nat.le_of_ble_eq_true rfl⟩ 10 0 rfl rfl hl.1 rfl dX10_check_39 (Nat.le_of_ble_eq_true rfl) rfl) (fun r4 o_5 H locs h hh => ?_)
        have hh : Wh D A s.heap ((List.flatten [bX10 a E o_5])) _ _ := hh.un0
        refine lv_if_eq (tgt := 47) hx hb dX10_check_42 (by decide) (fun c6 => ?_) (fun c6 => ?_)
        · have h := h.1 c6
          exact kJ47 o_5 _ _ _ h hh (lv_sub hl [0, 1, 2, 3] rfl)
        · have h := h.2 c6
          refine lv_iconst (v := (-1)) hx hb dX10_check_45 (by decide) ?_
          exact hret _ _ _ _ _ o_5 dX10_check_46 rfl h hh
    · have h := h.2 c2
      exact kJ12 o _ _ _ h hh (lv_sub hl [0, 1, 2, 3] rfl)

def w_X10_truth (x0 : Int32)  (Post : Int32 → Prop) : Prop := ((x0 = 0) → Post 0) ∧ (¬ (x0 = 0) → Post 1)
set_option maxRecDepth 100000 in
set_option maxHeartbeats 4000000 in
theorem c_X10_truth (l : Launch) (D : va_G) (E : Nat → ClassId)    (x0 : Int32) {Post : Int32 → Prop} (h : w_X10_truth x0  Post) : CtI l yX10_truth cX10_truth 1 .int ({ frames := 0, cells := 0, slots := 0, locals := 0 } : Room) D E [.int (x0)] [] (fun _ : Unit => []) (fun (r : Int32) (u : Unit) => Post r ) 0 0 := by
  refine enI (by decide +kernel) (Nat.le_of_ble_eq_true rfl) ?_
  intro p e s m args below meth c Q A ls hx hb hml hown hT hK hA hret hh hl
  have hl : lv_has ls 1 [(0, .int (x0))] := hl
  unfold w_X10_truth at h
  refine lv_iload_n hx hb dX10_truth_0 rfl (lv_at hl 0 rfl) ?_
  refine lv_if_eq (tgt := 8) hx hb dX10_truth_1 (by decide) (fun c1 => ?_) (fun c1 => ?_)
  · have h := h.1 c1
    refine lv_iconst (v := 0) hx hb dX10_truth_8 (by decide) ?_
    exact hret _ _ _ _ _ () dX10_truth_9 rfl h hh
  · have h := h.2 c1
    refine lv_iconst (v := 1) hx hb dX10_truth_4 (by decide) ?_
    refine lv_goto (tgt := 9) hx hb dX10_truth_5 (by decide) ?_
    exact hret _ _ _ _ _ () dX10_truth_9 rfl h hh

def w_X10_quotients_L2 (f1_2 : Int32)  (Post : Int32 → Ob → Prop) : Nat → Int32 → Ob → Prop
  | 0, _, _ => False
  | n2 + 1, p2_2, o_2 => (((o_2.2.1 14) ≤ p2_2) → Post 1 o_2) ∧ (¬ ((o_2.2.1 14) ≤ p2_2) → vp_in p2_2 64 ∧ (((¬ (((o_2.2.2 15) p2_2.toNatClampNeg) - f1_2) = 0) → ¬ (((o_2.2.2 15) p2_2.toNatClampNeg) - f1_2) = 0 ∧ (((¬ (1000 / (((o_2.2.2 15) p2_2.toNatClampNeg) - f1_2)) = 7) → w_X10_quotients_L2 f1_2  Post n2 (p2_2 + 1) o_2) ∧ (((1000 / (((o_2.2.2 15) p2_2.toNatClampNeg) - f1_2)) = 7) → Post 0 o_2))) ∧ (((((o_2.2.2 15) p2_2.toNatClampNeg) - f1_2) = 0) → Post ((-11)) o_2)))
def w_X10_quotients (x1 : Int32) (o : Ob) (Post : Int32 → Ob → Prop) : Prop := ∃ n2, w_X10_quotients_L2 x1  Post n2 0 o
set_option maxRecDepth 100000 in
set_option maxHeartbeats 4000000 in
theorem c_X10_quotients (l : Launch) (D : va_G) (E : Nat → ClassId) (a : Nat → Nat)  (o : Ob) (x1 : Int32) {Post : Int32 → Ob → Prop} (h : w_X10_quotients x1 o Post) : CtI l yX10_quotients cX10_quotients 4 .int ({ frames := 0, cells := 0, slots := 0, locals := 0 } : Room) D E [.ref (a 0), .int (x1)] (List.flatten [bX10 a E o]) (fun u : Ob => List.flatten [bX10 a E u]) Post 0 0 := by
  refine enI (by decide +kernel) (Nat.le_of_ble_eq_true rfl) ?_
  intro p e s m args below meth c Q A ls hx hb hml hown hT hK hA hret hh hl
  have hl : lv_has ls 4 [(0, .ref (a 0)), (1, .int (x1))] := hl
  unfold w_X10_quotients at h
  refine lv_iconst (v := 0) hx hb dX10_quotients_0 (by decide) ?_
  refine lv_istore_n (lv' := [(2, .int (0)), (0, .ref (a 0)), (1, .int (x1))]) hx hb dX10_quotients_1 rfl hl (by decide) rfl (fun ls hl => ?_)
  have hw2 : ∀   (n : Nat) (p2_2 : Int32) (o_2 : Ob) (H : Heap) (locs : List Loc) (ls : Array Slot), w_X10_quotients_L2 x1  Post n p2_2 o_2 → Wh D A s.heap ((List.flatten [bX10 a E o_2])) H locs → lv_has ls 4 [(0, .ref (a 0)), (1, .int (x1)), (2, .int (p2_2))] → W p l e ({ frames := 0, cells := 0, slots := 0, locals := 0 } : Room) s m args below meth c H locs 0 0 Q (F0 m 2 ls []) := by
    intro   n
    induction n with
    | zero => intro p2_2 o_2 H locs ls h hh hl; exact False.elim h
    | succ n ih =>
      intro p2_2 o_2 H locs ls h hh hl
      refine lv_iload_n hx hb dX10_quotients_2 rfl (lv_at hl 2 rfl) ?_
      refine lv_aload_n hx hb dX10_quotients_3 rfl (lv_at hl 0 rfl) ?_
      refine G_X10_147 [] [] hx hb hT hown hK hh (v := o_2.2.1 14) rfl dX10_quotients_4 ?_
      refine lv_icmp_ge (tgt := 44) hx hb dX10_quotients_7 (by decide) (fun c1 => ?_) (fun c1 => ?_)
      · have h := h.1 c1
        refine lv_iconst (v := 1) hx hb dX10_quotients_44 (by decide) ?_
        exact hret _ _ _ _ _ o_2 dX10_quotients_45 rfl h hh
      · have h := h.2 c1
        refine lv_aload_n hx hb dX10_quotients_10 rfl (lv_at hl 0 rfl) ?_
        refine G_X10_47 [] [] hx hb hT hown hK hh dX10_quotients_11 ?_
        refine lv_iload_n hx hb dX10_quotients_14 rfl (lv_at hl 2 rfl) ?_
        obtain ⟨g2, h⟩ := h
        refine A_X10_15 [] [] hx hb hK hh (v := (o_2.2.2 15) p2_2.toNatClampNeg) g2 rfl dX10_quotients_15 ?_
        refine lv_iload_n hx hb dX10_quotients_16 rfl (lv_at hl 1 rfl) ?_
        refine lv_isub hx hb dX10_quotients_17 ?_
        refine lv_istore_n (lv' := [(3, .int (((o_2.2.2 15) p2_2.toNatClampNeg) - x1)), (0, .ref (a 0)), (1, .int (x1)), (2, .int (p2_2))]) hx hb dX10_quotients_18 rfl hl (by decide) rfl (fun ls hl => ?_)
        refine lv_iload_n hx hb dX10_quotients_19 rfl (lv_at hl 0 rfl) ?_
        refine lv_if_ne (tgt := 26) hx hb dX10_quotients_20 (by decide) (fun c3 => ?_) (fun c3 => ?_)
        · have h := h.1 c3
          refine lv_sipush (v := 1000) hx hb dX10_quotients_26 (by decide) ?_
          refine lv_iload_n hx hb dX10_quotients_29 rfl (lv_at hl 0 rfl) ?_
          obtain ⟨g4, h⟩ := h
          refine lv_idiv hx hb dX10_quotients_30 g4 ?_
          refine lv_bipush (v := 7) hx hb dX10_quotients_31 (by decide) ?_
          refine lv_icmp_ne (tgt := 38) hx hb dX10_quotients_33 (by decide) (fun c5 => ?_) (fun c5 => ?_)
          · have h := h.1 c5
            refine lv_iinc (v := p2_2 + 1) (lv' := [(2, .int (p2_2 + 1)), (3, .int (((o_2.2.2 15) p2_2.toNatClampNeg) - x1)), (0, .ref (a 0)), (1, .int (x1))]) hx hb dX10_quotients_38 hl (k := 3) rfl (by rfl) (by decide) rfl (fun ls hl => ?_)
            refine lv_goto (tgt := 2) hx hb dX10_quotients_41 (by decide) ?_
            exact ih (p2_2 + 1) o_2 _ _ _ h hh (lv_sub hl [2, 3, 0] rfl)
          · have h := h.2 c5
            refine lv_iconst (v := 0) hx hb dX10_quotients_36 (by decide) ?_
            exact hret _ _ _ _ _ o_2 dX10_quotients_37 rfl h hh
        · have h := h.2 c3
          refine lv_bipush (v := (-11)) hx hb dX10_quotients_23 (by decide) ?_
          exact hret _ _ _ _ _ o_2 dX10_quotients_25 rfl h hh
  obtain ⟨n, h⟩ := h
  refine hw2   n 0 o _ _ _ h hh (lv_sub hl [1, 2, 0] rfl)

def w_X10_places_L2 (f1_2 : Int32)  (Post : Int32 → Ob → Prop) : Nat → Int32 → Ob → Prop
  | 0, _, _ => False
  | n2 + 1, p2_2, o_2 => (((o_2.2.1 14) ≤ p2_2) → Post 1 o_2) ∧ (¬ ((o_2.2.1 14) ≤ p2_2) → vp_in p2_2 64 ∧ (w_X10_in  ((o_2.2.2 15) p2_2.toNatClampNeg) (0 : Int32) ((o_2.2.1 14) - 1)  (fun (r3 : Int32) => ((¬ r3 = 0) → vp_in p2_2 64 ∧ (vp_in ((o_2.2.2 15) p2_2.toNatClampNeg) 64 ∧ (((¬ ((o_2.2.2 15) ((o_2.2.2 15) p2_2.toNatClampNeg).toNatClampNeg) = f1_2) → w_X10_places_L2 f1_2  Post n2 (p2_2 + 1) o_2) ∧ ((((o_2.2.2 15) ((o_2.2.2 15) p2_2.toNatClampNeg).toNatClampNeg) = f1_2) → Post 0 o_2)))) ∧ ((r3 = 0) → Post ((-12)) o_2))))
def w_X10_places (x1 : Int32) (o : Ob) (Post : Int32 → Ob → Prop) : Prop := ∃ n2, w_X10_places_L2 x1  Post n2 0 o
set_option maxRecDepth 100000 in
set_option maxHeartbeats 4000000 in
theorem c_X10_places (l : Launch) (D : va_G) (E : Nat → ClassId) (a : Nat → Nat)  (o : Ob) (x1 : Int32) {Post : Int32 → Ob → Prop} (h : w_X10_places x1 o Post) : CtI l yX10_places cX10_places 3 .int ({ frames := 1, cells := 0, slots := 0, locals := 22 } : Room) D E [.ref (a 0), .int (x1)] (List.flatten [bX10 a E o]) (fun u : Ob => List.flatten [bX10 a E u]) Post 0 0 := by
  refine enI (by decide +kernel) (Nat.le_of_ble_eq_true rfl) ?_
  intro p e s m args below meth c Q A ls hx hb hml hown hT hK hA hret hh hl
  have hl : lv_has ls 3 [(0, .ref (a 0)), (1, .int (x1))] := hl
  unfold w_X10_places at h
  refine lv_iconst (v := 0) hx hb dX10_places_0 (by decide) ?_
  refine lv_istore_n (lv' := [(2, .int (0)), (0, .ref (a 0)), (1, .int (x1))]) hx hb dX10_places_1 rfl hl (by decide) rfl (fun ls hl => ?_)
  have hw2 : ∀   (n : Nat) (p2_2 : Int32) (o_2 : Ob) (H : Heap) (locs : List Loc) (ls : Array Slot), w_X10_places_L2 x1  Post n p2_2 o_2 → Wh D A s.heap ((List.flatten [bX10 a E o_2])) H locs → lv_has ls 3 [(0, .ref (a 0)), (1, .int (x1)), (2, .int (p2_2))] → W p l e ({ frames := 1, cells := 0, slots := 0, locals := 22 } : Room) s m args below meth c H locs 0 0 Q (F0 m 2 ls []) := by
    intro   n
    induction n with
    | zero => intro p2_2 o_2 H locs ls h hh hl; exact False.elim h
    | succ n ih =>
      intro p2_2 o_2 H locs ls h hh hl
      refine lv_iload_n hx hb dX10_places_2 rfl (lv_at hl 2 rfl) ?_
      refine lv_aload_n hx hb dX10_places_3 rfl (lv_at hl 0 rfl) ?_
      refine G_X10_147 [] [] hx hb hT hown hK hh (v := o_2.2.1 14) rfl dX10_places_4 ?_
      refine lv_icmp_ge (tgt := 55) hx hb dX10_places_7 (by decide) (fun c1 => ?_) (fun c1 => ?_)
      · have h := h.1 c1
        refine lv_iconst (v := 1) hx hb dX10_places_55 (by decide) ?_
        exact hret _ _ _ _ _ o_2 dX10_places_56 rfl h hh
      · have h := h.2 c1
        refine lv_aload_n hx hb dX10_places_10 rfl (lv_at hl 0 rfl) ?_
        refine G_X10_47 [] [] hx hb hT hown hK hh dX10_places_11 ?_
        refine lv_iload_n hx hb dX10_places_14 rfl (lv_at hl 2 rfl) ?_
        obtain ⟨g2, h⟩ := h
        refine A_X10_15 [] [] hx hb hK hh (v := (o_2.2.2 15) p2_2.toNatClampNeg) g2 rfl dX10_places_15 ?_
        refine lv_iconst (v := 0) hx hb dX10_places_16 (by decide) ?_
        refine lv_aload_n hx hb dX10_places_17 rfl (lv_at hl 0 rfl) ?_
        refine G_X10_147 [] [] hx hb hT hown hK hh (v := o_2.2.1 14) rfl dX10_places_18 ?_
        refine lv_iconst (v := 1) hx hb dX10_places_21 (by decide) ?_
        refine lv_isub hx hb dX10_places_22 ?_
        refine kI hh.none hA (rnS hx hb hml hown hT hK hh.none (c_X10_in l D E    ((o_2.2.2 15) p2_2.toNatClampNeg) (0 : Int32) ((o_2.2.1 14) - 1) h _) mf_X10_in kml_X10_126 ⟨rfl, rfl, Nat.le_of_ble_eq_true rfl, Nat.le_of_ble_eq_true rfl⟩ ⟨Nat.le_of_ble_eq_true rfl, Nat.le_of_ble_eq_true rfl⟩ hl.1 rfl dX10_places_23 (Nat.le_of_ble_eq_true rfl) rfl) (fun r3 u H locs h hh => ?_)
        have hh : Wh D A s.heap ((List.flatten [bX10 a E o_2])) _ _ := hh.unone
        refine lv_if_ne (tgt := 32) hx hb dX10_places_26 (by decide) (fun c4 => ?_) (fun c4 => ?_)
        · have h := h.1 c4
          refine lv_aload_n hx hb dX10_places_32 rfl (lv_at hl 0 rfl) ?_
          refine G_X10_47 [] [] hx hb hT hown hK hh dX10_places_33 ?_
          refine lv_aload_n hx hb dX10_places_36 rfl (lv_at hl 0 rfl) ?_
          refine G_X10_47 [] [] hx hb hT hown hK hh dX10_places_37 ?_
          refine lv_iload_n hx hb dX10_places_40 rfl (lv_at hl 2 rfl) ?_
          obtain ⟨g5, h⟩ := h
          refine A_X10_15 [] [] hx hb hK hh (v := (o_2.2.2 15) p2_2.toNatClampNeg) g5 rfl dX10_places_41 ?_
          obtain ⟨g6, h⟩ := h
          refine A_X10_15 [] [] hx hb hK hh (v := (o_2.2.2 15) ((o_2.2.2 15) p2_2.toNatClampNeg).toNatClampNeg) g6 rfl dX10_places_42 ?_
          refine lv_iload_n hx hb dX10_places_43 rfl (lv_at hl 1 rfl) ?_
          refine lv_icmp_ne (tgt := 49) hx hb dX10_places_44 (by decide) (fun c7 => ?_) (fun c7 => ?_)
          · have h := h.1 c7
            refine lv_iinc (v := p2_2 + 1) (lv' := [(2, .int (p2_2 + 1)), (0, .ref (a 0)), (1, .int (x1))]) hx hb dX10_places_49 hl (k := 2) rfl (by rfl) (by decide) rfl (fun ls hl => ?_)
            refine lv_goto (tgt := 2) hx hb dX10_places_52 (by decide) ?_
            exact ih (p2_2 + 1) o_2 _ _ _ h hh (lv_sub hl [1, 2, 0] rfl)
          · have h := h.2 c7
            refine lv_iconst (v := 0) hx hb dX10_places_47 (by decide) ?_
            exact hret _ _ _ _ _ o_2 dX10_places_48 rfl h hh
        · have h := h.2 c4
          refine lv_bipush (v := (-12)) hx hb dX10_places_29 (by decide) ?_
          exact hret _ _ _ _ _ o_2 dX10_places_31 rfl h hh
  obtain ⟨n, h⟩ := h
  refine hw2   n 0 o _ _ _ h hh (lv_sub hl [1, 2, 0] rfl)

def w_X10_order_L15 (f1_15 : Int32) (f3_15 : Int32) (K76_15 : Int32 → Ob → Prop) (Post : Int32 → Ob → Prop) : Nat → Int32 → Int32 → Ob → Prop
  | 0, _, _, _ => False
  | n15 + 1, p2_15, p4_15, o_15 => ((f3_15 ≤ p4_15) → K76_15 p2_15 o_15) ∧ (¬ (f3_15 ≤ p4_15) → jn (fun J69 : Int32 → Ob → Prop => jn (fun J68 : Ob → Prop => ((p2_15 = 0) → J68 o_15) ∧ (¬ (p2_15 = 0) → jn (fun J64 : Ob → Prop => ((f1_15 = 0) → vp_in p4_15 64 ∧ (vp_in f3_15 64 ∧ (((((o_15.2.2 15) f3_15.toNatClampNeg) < ((o_15.2.2 15) p4_15.toNatClampNeg)) → J68 o_15) ∧ (¬ (((o_15.2.2 15) f3_15.toNatClampNeg) < ((o_15.2.2 15) p4_15.toNatClampNeg)) → J64 o_15)))) ∧ (¬ (f1_15 = 0) → vp_in p4_15 64 ∧ (vp_in f3_15 64 ∧ (((((o_15.2.2 15) p4_15.toNatClampNeg) = ((o_15.2.2 15) f3_15.toNatClampNeg)) → J68 o_15) ∧ (¬ (((o_15.2.2 15) p4_15.toNatClampNeg) = ((o_15.2.2 15) f3_15.toNatClampNeg)) → J64 o_15))))) (fun (o_64 : Ob) => J69 1 o_64))) (fun (o_68 : Ob) => J69 0 o_68)) (fun (z_69 : Int32) (o_69 : Ob) => w_X10_order_L15 f1_15 f3_15 K76_15 Post n15 z_69 (p4_15 + 1) o_69))
def w_X10_order_L4 (f1_4 : Int32) (K82_4 : Int32 → Ob → Prop) (Post : Int32 → Ob → Prop) : Nat → Int32 → Int32 → Ob → Prop
  | 0, _, _, _ => False
  | n4 + 1, p2_4, p3_4, o_4 => (((o_4.2.1 14) ≤ p3_4) → K82_4 p2_4 o_4) ∧ (¬ ((o_4.2.1 14) ≤ p3_4) → ∃ n15, w_X10_order_L15 f1_4 p3_4 (fun (k2_76 : Int32) (o_k76 : Ob) => w_X10_order_L4 f1_4 K82_4 Post n4 k2_76 (p3_4 + 1) o_k76) Post n15 p2_4 0 o_4)
def w_X10_order (x1 : Int32) (o : Ob) (Post : Int32 → Ob → Prop) : Prop := ∃ n4, w_X10_order_L4 x1 (fun (k2_82 : Int32) (o_k82 : Ob) => w_X10_truth  k2_82  (fun (r11 : Int32) => Post r11 o_k82)) Post n4 1 0 o
set_option maxRecDepth 100000 in
set_option maxHeartbeats 4000000 in
theorem c_X10_order (l : Launch) (D : va_G) (E : Nat → ClassId) (a : Nat → Nat)  (o : Ob) (x1 : Int32) {Post : Int32 → Ob → Prop} (h : w_X10_order x1 o Post) : CtI l yX10_order cX10_order 5 .int ({ frames := 1, cells := 0, slots := 0, locals := 20 } : Room) D E [.ref (a 0), .int (x1)] (List.flatten [bX10 a E o]) (fun u : Ob => List.flatten [bX10 a E u]) Post 0 0 := by
  refine enI (by decide +kernel) (Nat.le_of_ble_eq_true rfl) ?_
  intro p e s m args below meth c Q A ls hx hb hml hown hT hK hA hret hh hl
  have hl : lv_has ls 5 [(0, .ref (a 0)), (1, .int (x1))] := hl
  unfold w_X10_order at h
  refine lv_iconst (v := 1) hx hb dX10_order_0 (by decide) ?_
  refine lv_istore_n (lv' := [(2, .int (1)), (0, .ref (a 0)), (1, .int (x1))]) hx hb dX10_order_1 rfl hl (by decide) rfl (fun ls hl => ?_)
  refine lv_iconst (v := 0) hx hb dX10_order_2 (by decide) ?_
  refine lv_istore_n (lv' := [(3, .int (0)), (2, .int (1)), (0, .ref (a 0)), (1, .int (x1))]) hx hb dX10_order_3 rfl hl (by decide) rfl (fun ls hl => ?_)
  have hw4 : ∀ (K82_4 : Int32 → Ob → Prop) (hK82_4 : ∀ (k2_82 : Int32) (o_k82 : Ob) (H : Heap) (locs : List Loc) (ls : Array Slot), K82_4 k2_82 o_k82 → Wh D A s.heap ((List.flatten [bX10 a E o_k82])) H locs → lv_has ls 5 [(2, .int (k2_82))] → W p l e ({ frames := 1, cells := 0, slots := 0, locals := 20 } : Room) s m args below meth c H locs 0 0 Q (F0 m 82 ls [])) (n : Nat) (p2_4 : Int32) (p3_4 : Int32) (o_4 : Ob) (H : Heap) (locs : List Loc) (ls : Array Slot), w_X10_order_L4 x1 K82_4 Post n p2_4 p3_4 o_4 → Wh D A s.heap ((List.flatten [bX10 a E o_4])) H locs → lv_has ls 5 [(0, .ref (a 0)), (1, .int (x1)), (2, .int (p2_4)), (3, .int (p3_4))] → W p l e ({ frames := 1, cells := 0, slots := 0, locals := 20 } : Room) s m args below meth c H locs 0 0 Q (F0 m 4 ls []) := by
    intro K82_4 hK82_4 n
    induction n with
    | zero => intro p2_4 p3_4 o_4 H locs ls h hh hl; exact False.elim h
    | succ n ih =>
      intro p2_4 p3_4 o_4 H locs ls h hh hl
      refine lv_iload_n hx hb dX10_order_4 rfl (lv_at hl 3 rfl) ?_
      refine lv_aload_n hx hb dX10_order_5 rfl (lv_at hl 0 rfl) ?_
      refine G_X10_147 [] [] hx hb hT hown hK hh (v := o_4.2.1 14) rfl dX10_order_6 ?_
      refine lv_icmp_ge (tgt := 82) hx hb dX10_order_9 (by decide) (fun c1 => ?_) (fun c1 => ?_)
      · have h := h.1 c1
        exact hK82_4 p2_4 o_4 _ _ _ h hh (lv_sub hl [2] rfl)
      · have h := h.2 c1
        refine lv_iconst (v := 0) hx hb dX10_order_12 (by decide) ?_
        refine lv_istore (lv' := [(4, .int (0)), (0, .ref (a 0)), (1, .int (x1)), (2, .int (p2_4)), (3, .int (p3_4))]) hx hb dX10_order_13 hl (by decide) rfl (fun ls hl => ?_)
        have hw15 : ∀ (K76_15 : Int32 → Ob → Prop) (hK76_15 : ∀ (k2_76 : Int32) (o_k76 : Ob) (H : Heap) (locs : List Loc) (ls : Array Slot), K76_15 k2_76 o_k76 → Wh D A s.heap ((List.flatten [bX10 a E o_k76])) H locs → lv_has ls 5 [(0, .ref (a 0)), (1, .int (x1)), (2, .int (k2_76)), (3, .int (p3_4))] → W p l e ({ frames := 1, cells := 0, slots := 0, locals := 20 } : Room) s m args below meth c H locs 0 0 Q (F0 m 76 ls [])) (n : Nat) (p2_15 : Int32) (p4_15 : Int32) (o_15 : Ob) (H : Heap) (locs : List Loc) (ls : Array Slot), w_X10_order_L15 x1 p3_4 K76_15 Post n p2_15 p4_15 o_15 → Wh D A s.heap ((List.flatten [bX10 a E o_15])) H locs → lv_has ls 5 [(0, .ref (a 0)), (1, .int (x1)), (2, .int (p2_15)), (3, .int (p3_4)), (4, .int (p4_15))] → W p l e ({ frames := 1, cells := 0, slots := 0, locals := 20 } : Room) s m args below meth c H locs 0 0 Q (F0 m 15 ls []) := by
          intro K76_15 hK76_15 n
          induction n with
          | zero => intro p2_15 p4_15 o_15 H locs ls h hh hl; exact False.elim h
          | succ n ih =>
            intro p2_15 p4_15 o_15 H locs ls h hh hl
            refine lv_iload hx hb dX10_order_15 (lv_at hl 4 rfl) ?_
            refine lv_iload_n hx hb dX10_order_17 rfl (lv_at hl 3 rfl) ?_
            refine lv_icmp_ge (tgt := 76) hx hb dX10_order_18 (by decide) (fun c2 => ?_) (fun c2 => ?_)
            · have h := h.1 c2
              exact hK76_15 p2_15 o_15 _ _ _ h hh (lv_sub hl [0, 1, 2, 3] rfl)
            · have h := h.2 c2
              refine lv_iload_n hx hb dX10_order_21 rfl (lv_at hl 2 rfl) ?_
              refine jn_elim h (fun J69 hJ69 h => ?_)
              have kJ69 : ∀ (z_69 : Int32) (o_69 : Ob) (H : Heap) (locs : List Loc) (ls : Array Slot), J69 z_69 o_69 → Wh D A s.heap ((List.flatten [bX10 a E o_69])) H locs → lv_has ls 5 [(0, .ref (a 0)), (1, .int (x1)), (3, .int (p3_4)), (4, .int (p4_15))] → W p l e ({ frames := 1, cells := 0, slots := 0, locals := 20 } : Room) s m args below meth c H locs 0 0 Q (F0 m 69 ls [.int (z_69)]) := by
                intro z_69 o_69 H locs ls h hh hl
                rw [hJ69] at h
                refine lv_istore_n (lv' := [(2, .int (z_69)), (0, .ref (a 0)), (1, .int (x1)), (3, .int (p3_4)), (4, .int (p4_15))]) hx hb dX10_order_69 rfl hl (by decide) rfl (fun ls hl => ?_)
                refine lv_iinc (v := p4_15 + 1) (lv' := [(4, .int (p4_15 + 1)), (2, .int (z_69)), (0, .ref (a 0)), (1, .int (x1)), (3, .int (p3_4))]) hx hb dX10_order_70 hl (k := 4) rfl (by rfl) (by decide) rfl (fun ls hl => ?_)
                refine lv_goto (tgt := 15) hx hb dX10_order_73 (by decide) ?_
                exact ih z_69 (p4_15 + 1) o_69 _ _ _ h hh (lv_sub hl [2, 3, 1, 4, 0] rfl)
              refine jn_elim h (fun J68 hJ68 h => ?_)
              have kJ68 : ∀ (o_68 : Ob) (H : Heap) (locs : List Loc) (ls : Array Slot), J68 o_68 → Wh D A s.heap ((List.flatten [bX10 a E o_68])) H locs → lv_has ls 5 [(0, .ref (a 0)), (1, .int (x1)), (3, .int (p3_4)), (4, .int (p4_15))] → W p l e ({ frames := 1, cells := 0, slots := 0, locals := 20 } : Room) s m args below meth c H locs 0 0 Q (F0 m 68 ls []) := by
                intro o_68 H locs ls h hh hl
                rw [hJ68] at h
                refine lv_iconst (v := 0) hx hb dX10_order_68 (by decide) ?_
                exact kJ69 0 o_68 _ _ _ h hh (lv_sub hl [0, 1, 2, 3] rfl)
              refine lv_if_eq (tgt := 68) hx hb dX10_order_22 (by decide) (fun c3 => ?_) (fun c3 => ?_)
              · have h := h.1 c3
                exact kJ68 o_15 _ _ _ h hh (lv_sub hl [0, 1, 3, 4] rfl)
              · have h := h.2 c3
                refine lv_iload_n hx hb dX10_order_25 rfl (lv_at hl 1 rfl) ?_
                refine jn_elim h (fun J64 hJ64 h => ?_)
                have kJ64 : ∀ (o_64 : Ob) (H : Heap) (locs : List Loc) (ls : Array Slot), J64 o_64 → Wh D A s.heap ((List.flatten [bX10 a E o_64])) H locs → lv_has ls 5 [(0, .ref (a 0)), (1, .int (x1)), (3, .int (p3_4)), (4, .int (p4_15))] → W p l e ({ frames := 1, cells := 0, slots := 0, locals := 20 } : Room) s m args below meth c H locs 0 0 Q (F0 m 64 ls []) := by
                  intro o_64 H locs ls h hh hl
                  rw [hJ64] at h
                  refine lv_iconst (v := 1) hx hb dX10_order_64 (by decide) ?_
                  refine lv_goto (tgt := 69) hx hb dX10_order_65 (by decide) ?_
                  exact kJ69 1 o_64 _ _ _ h hh (lv_sub hl [0, 1, 2, 3] rfl)
                refine lv_if_eq (tgt := 48) hx hb dX10_order_26 (by decide) (fun c4 => ?_) (fun c4 => ?_)
                · have h := h.1 c4
                  refine lv_aload_n hx hb dX10_order_48 rfl (lv_at hl 0 rfl) ?_
                  refine G_X10_47 [] [] hx hb hT hown hK hh dX10_order_49 ?_
                  refine lv_iload hx hb dX10_order_52 (lv_at hl 4 rfl) ?_
                  obtain ⟨g5, h⟩ := h
                  refine A_X10_15 [] [] hx hb hK hh (v := (o_15.2.2 15) p4_15.toNatClampNeg) g5 rfl dX10_order_54 ?_
                  refine lv_aload_n hx hb dX10_order_55 rfl (lv_at hl 0 rfl) ?_
                  refine G_X10_47 [] [] hx hb hT hown hK hh dX10_order_56 ?_
                  refine lv_iload_n hx hb dX10_order_59 rfl (lv_at hl 3 rfl) ?_
                  obtain ⟨g6, h⟩ := h
                  refine A_X10_15 [] [] hx hb hK hh (v := (o_15.2.2 15) p3_4.toNatClampNeg) g6 rfl dX10_order_60 ?_
                  refine lv_icmp_gt (tgt := 68) hx hb dX10_order_61 (by decide) (fun c7 => ?_) (fun c7 => ?_)
                  · have h := h.1 c7
                    exact kJ68 o_15 _ _ _ h hh (lv_sub hl [0, 1, 3, 4] rfl)
                  · have h := h.2 c7
                    exact kJ64 o_15 _ _ _ h hh (lv_sub hl [0, 1, 3, 4] rfl)
                · have h := h.2 c4
                  refine lv_aload_n hx hb dX10_order_29 rfl (lv_at hl 0 rfl) ?_
                  refine G_X10_47 [] [] hx hb hT hown hK hh dX10_order_30 ?_
                  refine lv_iload hx hb dX10_order_33 (lv_at hl 4 rfl) ?_
                  obtain ⟨g8, h⟩ := h
                  refine A_X10_15 [] [] hx hb hK hh (v := (o_15.2.2 15) p4_15.toNatClampNeg) g8 rfl dX10_order_35 ?_
                  refine lv_aload_n hx hb dX10_order_36 rfl (lv_at hl 0 rfl) ?_
                  refine G_X10_47 [] [] hx hb hT hown hK hh dX10_order_37 ?_
                  refine lv_iload_n hx hb dX10_order_40 rfl (lv_at hl 3 rfl) ?_
                  obtain ⟨g9, h⟩ := h
                  refine A_X10_15 [] [] hx hb hK hh (v := (o_15.2.2 15) p3_4.toNatClampNeg) g9 rfl dX10_order_41 ?_
                  refine lv_icmp_eq (tgt := 68) hx hb dX10_order_42 (by decide) (fun c10 => ?_) (fun c10 => ?_)
                  · have h := h.1 c10
                    exact kJ68 o_15 _ _ _ h hh (lv_sub hl [0, 1, 3, 4] rfl)
                  · have h := h.2 c10
                    refine lv_goto (tgt := 64) hx hb dX10_order_45 (by decide) ?_
                    exact kJ64 o_15 _ _ _ h hh (lv_sub hl [0, 1, 3, 4] rfl)
        obtain ⟨n, h⟩ := h
        refine hw15 _ (fun k2_76 o_k76 H locs ls h hh hl => ?_) n p2_4 0 o_4 _ _ _ h hh (lv_sub hl [1, 2, 3, 4, 0] rfl)
        refine lv_iinc (v := p3_4 + 1) (lv' := [(3, .int (p3_4 + 1)), (0, .ref (a 0)), (1, .int (x1)), (2, .int (k2_76))]) hx hb dX10_order_76 hl (k := 3) rfl (by rfl) (by decide) rfl (fun ls hl => ?_)
        refine lv_goto (tgt := 4) hx hb dX10_order_79 (by decide) ?_
        exact ih k2_76 (p3_4 + 1) o_k76 _ _ _ h hh (lv_sub hl [1, 2, 3, 0] rfl)
  obtain ⟨n, h⟩ := h
  refine hw4 _ (fun k2_82 o_k82 H locs ls h hh hl => ?_) n 1 0 o _ _ _ h hh (lv_sub hl [2, 3, 1, 0] rfl)
  refine lv_iload_n hx hb dX10_order_82 rfl (lv_at hl 0 rfl) ?_
  refine kI hh.none hA (rnS hx hb hml hown hT hK hh.none (c_X10_truth l D E    k2_82 h _) mf_X10_truth kml_X10_181 ⟨rfl, rfl, Nat.le_of_ble_eq_true rfl, Nat.le_of_ble_eq_true rfl⟩ ⟨Nat.le_of_ble_eq_true rfl, Nat.le_of_ble_eq_true rfl⟩ hl.1 rfl dX10_order_83 (Nat.le_of_ble_eq_true rfl) rfl) (fun r11 u H locs h hh => ?_)
  have hh : Wh D A s.heap ((List.flatten [bX10 a E o_k82])) _ _ := hh.unone
  exact hret _ _ _ _ _ o_k82 dX10_order_86 rfl h hh

def w_X10_atLeast_L4 (f1_4 : Int32) (K38_4 : Int32 → Ob → Prop) (Post : Int32 → Ob → Prop) : Nat → Int32 → Int32 → Ob → Prop
  | 0, _, _, _ => False
  | n4 + 1, p2_4, p3_4, o_4 => (((o_4.2.1 14) ≤ p3_4) → K38_4 p2_4 o_4) ∧ (¬ ((o_4.2.1 14) ≤ p3_4) → jn (fun J31 : Int32 → Ob → Prop => jn (fun J30 : Ob → Prop => ((p2_4 = 0) → J30 o_4) ∧ (¬ (p2_4 = 0) → vp_in p3_4 64 ∧ (((((o_4.2.2 15) p3_4.toNatClampNeg) < f1_4) → J30 o_4) ∧ (¬ (((o_4.2.2 15) p3_4.toNatClampNeg) < f1_4) → J31 1 o_4)))) (fun (o_30 : Ob) => J31 0 o_30)) (fun (z_31 : Int32) (o_31 : Ob) => w_X10_atLeast_L4 f1_4 K38_4 Post n4 z_31 (p3_4 + 1) o_31))
def w_X10_atLeast (x1 : Int32) (o : Ob) (Post : Int32 → Ob → Prop) : Prop := ∃ n4, w_X10_atLeast_L4 x1 (fun (k2_38 : Int32) (o_k38 : Ob) => w_X10_truth  k2_38  (fun (r5 : Int32) => Post r5 o_k38)) Post n4 1 0 o
set_option maxRecDepth 100000 in
set_option maxHeartbeats 4000000 in
theorem c_X10_atLeast (l : Launch) (D : va_G) (E : Nat → ClassId) (a : Nat → Nat)  (o : Ob) (x1 : Int32) {Post : Int32 → Ob → Prop} (h : w_X10_atLeast x1 o Post) : CtI l yX10_atLeast cX10_atLeast 4 .int ({ frames := 1, cells := 0, slots := 0, locals := 20 } : Room) D E [.ref (a 0), .int (x1)] (List.flatten [bX10 a E o]) (fun u : Ob => List.flatten [bX10 a E u]) Post 0 0 := by
  refine enI (by decide +kernel) (Nat.le_of_ble_eq_true rfl) ?_
  intro p e s m args below meth c Q A ls hx hb hml hown hT hK hA hret hh hl
  have hl : lv_has ls 4 [(0, .ref (a 0)), (1, .int (x1))] := hl
  unfold w_X10_atLeast at h
  refine lv_iconst (v := 1) hx hb dX10_atLeast_0 (by decide) ?_
  refine lv_istore_n (lv' := [(2, .int (1)), (0, .ref (a 0)), (1, .int (x1))]) hx hb dX10_atLeast_1 rfl hl (by decide) rfl (fun ls hl => ?_)
  refine lv_iconst (v := 0) hx hb dX10_atLeast_2 (by decide) ?_
  refine lv_istore_n (lv' := [(3, .int (0)), (2, .int (1)), (0, .ref (a 0)), (1, .int (x1))]) hx hb dX10_atLeast_3 rfl hl (by decide) rfl (fun ls hl => ?_)
  have hw4 : ∀ (K38_4 : Int32 → Ob → Prop) (hK38_4 : ∀ (k2_38 : Int32) (o_k38 : Ob) (H : Heap) (locs : List Loc) (ls : Array Slot), K38_4 k2_38 o_k38 → Wh D A s.heap ((List.flatten [bX10 a E o_k38])) H locs → lv_has ls 4 [(2, .int (k2_38))] → W p l e ({ frames := 1, cells := 0, slots := 0, locals := 20 } : Room) s m args below meth c H locs 0 0 Q (F0 m 38 ls [])) (n : Nat) (p2_4 : Int32) (p3_4 : Int32) (o_4 : Ob) (H : Heap) (locs : List Loc) (ls : Array Slot), w_X10_atLeast_L4 x1 K38_4 Post n p2_4 p3_4 o_4 → Wh D A s.heap ((List.flatten [bX10 a E o_4])) H locs → lv_has ls 4 [(0, .ref (a 0)), (1, .int (x1)), (2, .int (p2_4)), (3, .int (p3_4))] → W p l e ({ frames := 1, cells := 0, slots := 0, locals := 20 } : Room) s m args below meth c H locs 0 0 Q (F0 m 4 ls []) := by
    intro K38_4 hK38_4 n
    induction n with
    | zero => intro p2_4 p3_4 o_4 H locs ls h hh hl; exact False.elim h
    | succ n ih =>
      intro p2_4 p3_4 o_4 H locs ls h hh hl
      refine lv_iload_n hx hb dX10_atLeast_4 rfl (lv_at hl 3 rfl) ?_
      refine lv_aload_n hx hb dX10_atLeast_5 rfl (lv_at hl 0 rfl) ?_
      refine G_X10_147 [] [] hx hb hT hown hK hh (v := o_4.2.1 14) rfl dX10_atLeast_6 ?_
      refine lv_icmp_ge (tgt := 38) hx hb dX10_atLeast_9 (by decide) (fun c1 => ?_) (fun c1 => ?_)
      · have h := h.1 c1
        exact hK38_4 p2_4 o_4 _ _ _ h hh (lv_sub hl [2] rfl)
      · have h := h.2 c1
        refine lv_iload_n hx hb dX10_atLeast_12 rfl (lv_at hl 2 rfl) ?_
        refine jn_elim h (fun J31 hJ31 h => ?_)
        have kJ31 : ∀ (z_31 : Int32) (o_31 : Ob) (H : Heap) (locs : List Loc) (ls : Array Slot), J31 z_31 o_31 → Wh D A s.heap ((List.flatten [bX10 a E o_31])) H locs → lv_has ls 4 [(0, .ref (a 0)), (1, .int (x1)), (3, .int (p3_4))] → W p l e ({ frames := 1, cells := 0, slots := 0, locals := 20 } : Room) s m args below meth c H locs 0 0 Q (F0 m 31 ls [.int (z_31)]) := by
          intro z_31 o_31 H locs ls h hh hl
          rw [hJ31] at h
          refine lv_istore_n (lv' := [(2, .int (z_31)), (0, .ref (a 0)), (1, .int (x1)), (3, .int (p3_4))]) hx hb dX10_atLeast_31 rfl hl (by decide) rfl (fun ls hl => ?_)
          refine lv_iinc (v := p3_4 + 1) (lv' := [(3, .int (p3_4 + 1)), (2, .int (z_31)), (0, .ref (a 0)), (1, .int (x1))]) hx hb dX10_atLeast_32 hl (k := 3) rfl (by rfl) (by decide) rfl (fun ls hl => ?_)
          refine lv_goto (tgt := 4) hx hb dX10_atLeast_35 (by decide) ?_
          exact ih z_31 (p3_4 + 1) o_31 _ _ _ h hh (lv_sub hl [2, 3, 1, 0] rfl)
        refine jn_elim h (fun J30 hJ30 h => ?_)
        have kJ30 : ∀ (o_30 : Ob) (H : Heap) (locs : List Loc) (ls : Array Slot), J30 o_30 → Wh D A s.heap ((List.flatten [bX10 a E o_30])) H locs → lv_has ls 4 [(0, .ref (a 0)), (1, .int (x1)), (3, .int (p3_4))] → W p l e ({ frames := 1, cells := 0, slots := 0, locals := 20 } : Room) s m args below meth c H locs 0 0 Q (F0 m 30 ls []) := by
          intro o_30 H locs ls h hh hl
          rw [hJ30] at h
          refine lv_iconst (v := 0) hx hb dX10_atLeast_30 (by decide) ?_
          exact kJ31 0 o_30 _ _ _ h hh (lv_sub hl [0, 1, 2] rfl)
        refine lv_if_eq (tgt := 30) hx hb dX10_atLeast_13 (by decide) (fun c2 => ?_) (fun c2 => ?_)
        · have h := h.1 c2
          exact kJ30 o_4 _ _ _ h hh (lv_sub hl [0, 1, 3] rfl)
        · have h := h.2 c2
          refine lv_aload_n hx hb dX10_atLeast_16 rfl (lv_at hl 0 rfl) ?_
          refine G_X10_47 [] [] hx hb hT hown hK hh dX10_atLeast_17 ?_
          refine lv_iload_n hx hb dX10_atLeast_20 rfl (lv_at hl 3 rfl) ?_
          obtain ⟨g3, h⟩ := h
          refine A_X10_15 [] [] hx hb hK hh (v := (o_4.2.2 15) p3_4.toNatClampNeg) g3 rfl dX10_atLeast_21 ?_
          refine lv_iload_n hx hb dX10_atLeast_22 rfl (lv_at hl 1 rfl) ?_
          refine lv_icmp_lt (tgt := 30) hx hb dX10_atLeast_23 (by decide) (fun c4 => ?_) (fun c4 => ?_)
          · have h := h.1 c4
            exact kJ30 o_4 _ _ _ h hh (lv_sub hl [0, 1, 3] rfl)
          · have h := h.2 c4
            refine lv_iconst (v := 1) hx hb dX10_atLeast_26 (by decide) ?_
            refine lv_goto (tgt := 31) hx hb dX10_atLeast_27 (by decide) ?_
            exact kJ31 1 o_4 _ _ _ h hh (lv_sub hl [0, 1, 3] rfl)
  obtain ⟨n, h⟩ := h
  refine hw4 _ (fun k2_38 o_k38 H locs ls h hh hl => ?_) n 1 0 o _ _ _ h hh (lv_sub hl [2, 3, 1, 0] rfl)
  refine lv_iload_n hx hb dX10_atLeast_38 rfl (lv_at hl 0 rfl) ?_
  refine kI hh.none hA (rnS hx hb hml hown hT hK hh.none (c_X10_truth l D E    k2_38 h _) mf_X10_truth kml_X10_181 ⟨rfl, rfl, Nat.le_of_ble_eq_true rfl, Nat.le_of_ble_eq_true rfl⟩ ⟨Nat.le_of_ble_eq_true rfl, Nat.le_of_ble_eq_true rfl⟩ hl.1 rfl dX10_atLeast_39 (Nat.le_of_ble_eq_true rfl) rfl) (fun r5 u H locs h hh => ?_)
  have hh : Wh D A s.heap ((List.flatten [bX10 a E o_k38])) _ _ := hh.unone
  exact hret _ _ _ _ _ o_k38 dX10_atLeast_42 rfl h hh

def w_X10_putAway_L7 (f1_7 : Int32) (f3_7 : Int32) (K46_7 : Ob → Prop) (Post : Ob → Prop) : Nat → Int32 → Ob → Prop
  | 0, _, _ => False
  | n7 + 1, p4_7, o_7 => vp_in f1_7 2 ∧ (((((o_7.2.2 27) f1_7.toNatClampNeg) ≤ (p4_7 + 1)) → K46_7 o_7) ∧ (¬ (((o_7.2.2 27) f1_7.toNatClampNeg) ≤ (p4_7 + 1)) → vp_in ((f3_7 + p4_7) + 1) 10 ∧ (vp_in (f3_7 + p4_7) 10 ∧ (w_X10_putAway_L7 f1_7 f3_7 K46_7 Post n7 (p4_7 + 1) ((o_7.1, o_7.2.1, (sa o_7.2.2 26 (upd (o_7.2.2 26) (f3_7 + p4_7).toNatClampNeg ((o_7.2.2 26) ((f3_7 + p4_7) + 1).toNatClampNeg)))))))))
def w_X10_putAway (x1 : Int32) (x2 : Int32) (o : Ob) (Post : Ob → Prop) : Prop := ∃ n7, w_X10_putAway_L7 x1 (5 * x1) (fun (o_k46 : Ob) => vp_in x1 2 ∧ (vp_in x1 2 ∧ (Post ((o_k46.1, o_k46.2.1, (sa o_k46.2.2 27 (upd (o_k46.2.2 27) x1.toNatClampNeg (((o_k46.2.2 27) x1.toNatClampNeg) - 1)))))))) Post n7 x2 o
set_option maxRecDepth 100000 in
set_option maxHeartbeats 4000000 in
theorem c_X10_putAway (l : Launch) (D : va_G) (E : Nat → ClassId) (a : Nat → Nat)  (o : Ob) (x1 : Int32) (x2 : Int32) {Post : Ob → Prop} (h : w_X10_putAway x1 x2 o Post) : CtV l yX10_putAway cX10_putAway 5 ({ frames := 0, cells := 0, slots := 0, locals := 0 } : Room) D E [.ref (a 0), .int (x1), .int (x2)] (List.flatten [bX10 a E o]) (fun u : Ob => List.flatten [bX10 a E u]) Post 0 0 := by
  refine enV (by decide +kernel) (Nat.le_of_ble_eq_true rfl) ?_
  intro p e s m args below meth c Q A ls hx hb hml hown hT hK hA hin0 hret hh hl
  have hl : lv_has ls 5 [(0, .ref (a 0)), (1, .int (x1)), (2, .int (x2))] := hl
  unfold w_X10_putAway at h
  refine lv_iconst (v := 5) hx hb dX10_putAway_0 (by decide) ?_
  refine lv_iload_n hx hb dX10_putAway_1 rfl (lv_at hl 1 rfl) ?_
  refine lv_imul hx hb dX10_putAway_2 ?_
  refine lv_istore_n (lv' := [(3, .int (5 * x1)), (0, .ref (a 0)), (1, .int (x1)), (2, .int (x2))]) hx hb dX10_putAway_3 rfl hl (by decide) rfl (fun ls hl => ?_)
  refine lv_iload_n hx hb dX10_putAway_4 rfl (lv_at hl 3 rfl) ?_
  refine lv_istore (lv' := [(4, .int (x2)), (3, .int (5 * x1)), (0, .ref (a 0)), (1, .int (x1)), (2, .int (x2))]) hx hb dX10_putAway_5 hl (by decide) rfl (fun ls hl => ?_)
  have hw7 : ∀ (K46_7 : Ob → Prop) (hK46_7 : ∀ (o_k46 : Ob) (H : Heap) (locs : List Loc) (ls : Array Slot), K46_7 o_k46 → Wh D A s.heap ((List.flatten [bX10 a E o_k46])) H locs → lv_has ls 5 [(0, .ref (a 0)), (1, .int (x1))] → W p l e ({ frames := 0, cells := 0, slots := 0, locals := 0 } : Room) s m args below meth c H locs 0 0 Q (F0 m 46 ls [])) (n : Nat) (p4_7 : Int32) (o_7 : Ob) (H : Heap) (locs : List Loc) (ls : Array Slot), w_X10_putAway_L7 x1 (5 * x1) K46_7 Post n p4_7 o_7 → Wh D A s.heap ((List.flatten [bX10 a E o_7])) H locs → lv_has ls 5 [(0, .ref (a 0)), (1, .int (x1)), (3, .int (5 * x1)), (4, .int (p4_7))] → W p l e ({ frames := 0, cells := 0, slots := 0, locals := 0 } : Room) s m args below meth c H locs 0 0 Q (F0 m 7 ls []) := by
    intro K46_7 hK46_7 n
    induction n with
    | zero => intro p4_7 o_7 H locs ls h hh hl; exact False.elim h
    | succ n ih =>
      intro p4_7 o_7 H locs ls h hh hl
      refine lv_iload hx hb dX10_putAway_7 (lv_at hl 3 rfl) ?_
      refine lv_iconst (v := 1) hx hb dX10_putAway_9 (by decide) ?_
      refine lv_iadd hx hb dX10_putAway_10 ?_
      refine lv_aload_n hx hb dX10_putAway_11 rfl (lv_at hl 0 rfl) ?_
      refine G_X10_77 [] [] hx hb hT hown hK hh dX10_putAway_12 ?_
      refine lv_iload_n hx hb dX10_putAway_15 rfl (lv_at hl 1 rfl) ?_
      obtain ⟨g1, h⟩ := h
      refine A_X10_27 [] [] hx hb hK hh (v := (o_7.2.2 27) x1.toNatClampNeg) g1 rfl dX10_putAway_16 ?_
      refine lv_icmp_ge (tgt := 46) hx hb dX10_putAway_17 (by decide) (fun c2 => ?_) (fun c2 => ?_)
      · have h := h.1 c2
        exact hK46_7 o_7 _ _ _ h hh (lv_sub hl [0, 1] rfl)
      · have h := h.2 c2
        refine lv_aload_n hx hb dX10_putAway_20 rfl (lv_at hl 0 rfl) ?_
        refine G_X10_74 [] [] hx hb hT hown hK hh dX10_putAway_21 ?_
        refine lv_iload_n hx hb dX10_putAway_24 rfl (lv_at hl 2 rfl) ?_
        refine lv_iload hx hb dX10_putAway_25 (lv_at hl 3 rfl) ?_
        refine lv_iadd hx hb dX10_putAway_27 ?_
        refine lv_aload_n hx hb dX10_putAway_28 rfl (lv_at hl 0 rfl) ?_
        refine G_X10_74 [] [] hx hb hT hown hK hh dX10_putAway_29 ?_
        refine lv_iload_n hx hb dX10_putAway_32 rfl (lv_at hl 2 rfl) ?_
        refine lv_iload hx hb dX10_putAway_33 (lv_at hl 3 rfl) ?_
        refine lv_iadd hx hb dX10_putAway_35 ?_
        refine lv_iconst (v := 1) hx hb dX10_putAway_36 (by decide) ?_
        refine lv_iadd hx hb dX10_putAway_37 ?_
        obtain ⟨g3, h⟩ := h
        refine A_X10_26 [] [] hx hb hK hh (v := (o_7.2.2 26) (((5 * x1) + p4_7) + 1).toNatClampNeg) g3 rfl dX10_putAway_38 ?_
        obtain ⟨g4, h⟩ := h
        refine S_X10_26 [] [] hx hb hK hh g4 dX10_putAway_39 (fun H locs (hh : Wh D A s.heap ((List.flatten [bX10 a E ((o_7.1, o_7.2.1, (sa o_7.2.2 26 (upd (o_7.2.2 26) ((5 * x1) + p4_7).toNatClampNeg ((o_7.2.2 26) (((5 * x1) + p4_7) + 1).toNatClampNeg)))))])) H locs) => ?_)
        refine lv_iinc (v := p4_7 + 1) (lv' := [(4, .int (p4_7 + 1)), (0, .ref (a 0)), (1, .int (x1)), (3, .int ((5 * x1)))]) hx hb dX10_putAway_40 hl (k := 3) rfl (by rfl) (by decide) rfl (fun ls hl => ?_)
        refine lv_goto (tgt := 7) hx hb dX10_putAway_43 (by decide) ?_
        exact ih (p4_7 + 1) ((o_7.1, o_7.2.1, (sa o_7.2.2 26 (upd (o_7.2.2 26) ((5 * x1) + p4_7).toNatClampNeg ((o_7.2.2 26) (((5 * x1) + p4_7) + 1).toNatClampNeg))))) _ _ _ h hh (lv_sub hl [1, 2, 3, 0] rfl)
  obtain ⟨n, h⟩ := h
  refine hw7 _ (fun o_k46 H locs ls h hh hl => ?_) n x2 o _ _ _ h hh (lv_sub hl [2, 3, 1, 0] rfl)
  refine lv_aload_n hx hb dX10_putAway_46 rfl (lv_at hl 0 rfl) ?_
  refine G_X10_77 [] [] hx hb hT hown hK hh dX10_putAway_47 ?_
  refine lv_iload_n hx hb dX10_putAway_50 rfl (lv_at hl 1 rfl) ?_
  refine lv_dup2_11 hx hb dX10_putAway_51 rfl rfl ?_
  obtain ⟨g5, h⟩ := h
  refine A_X10_27 [] [] hx hb hK hh (v := (o_k46.2.2 27) x1.toNatClampNeg) g5 rfl dX10_putAway_52 ?_
  refine lv_iconst (v := 1) hx hb dX10_putAway_53 (by decide) ?_
  refine lv_isub hx hb dX10_putAway_54 ?_
  obtain ⟨g6, h⟩ := h
  refine S_X10_27 [] [] hx hb hK hh g6 dX10_putAway_55 (fun H locs (hh : Wh D A s.heap ((List.flatten [bX10 a E ((o_k46.1, o_k46.2.1, (sa o_k46.2.2 27 (upd (o_k46.2.2 27) x1.toNatClampNeg (((o_k46.2.2 27) x1.toNatClampNeg) - 1)))))])) H locs) => ?_)
  exact hret _ _ _ _ (o_k46.1, o_k46.2.1, (sa o_k46.2.2 27 (upd (o_k46.2.2 27) x1.toNatClampNeg (((o_k46.2.2 27) x1.toNatClampNeg) - 1)))) dX10_putAway_56 h hh

def w_X10_putIn_L13 (f1_13 : Int32) (f2_13 : Int32) (f3_13 : Int32) (f4_13 : Int32) (K67_13 : Int32 → Ob → Prop) (Post : Ob → Prop) : Nat → Int32 → Ob → Prop
  | 0, _, _ => False
  | n13 + 1, p5_13, o_13 => ((¬ f1_13 = 2) → K67_13 p5_13 o_13) ∧ ((f1_13 = 2) → ((p5_13 ≤ 0) → K67_13 p5_13 o_13) ∧ (¬ (p5_13 ≤ 0) → vp_in ((f4_13 + p5_13) - 1) 10 ∧ (((((o_13.2.2 26) ((f4_13 + p5_13) - 1).toNatClampNeg) ≤ f3_13) → K67_13 p5_13 o_13) ∧ (¬ (((o_13.2.2 26) ((f4_13 + p5_13) - 1).toNatClampNeg) ≤ f3_13) → vp_in ((f4_13 + p5_13) - 1) 10 ∧ (vp_in (f4_13 + p5_13) 10 ∧ (w_X10_putIn_L13 f1_13 f2_13 f3_13 f4_13 K67_13 Post n13 (p5_13 + (-1)) ((o_13.1, o_13.2.1, (sa o_13.2.2 26 (upd (o_13.2.2 26) (f4_13 + p5_13).toNatClampNeg ((o_13.2.2 26) ((f4_13 + p5_13) - 1).toNatClampNeg)))))))))))
def w_X10_putIn (x1 : Int32) (x2 : Int32) (x3 : Int32) (o : Ob) (Post : Ob → Prop) : Prop := vp_in x2 2 ∧ (∃ n13, w_X10_putIn_L13 x1 x2 x3 (5 * x2) (fun (k5_67 : Int32) (o_k67 : Ob) => vp_in ((5 * x2) + k5_67) 10 ∧ (vp_in x2 2 ∧ (vp_in x2 2 ∧ (Post ((o_k67.1, o_k67.2.1, (sa (sa o_k67.2.2 26 (upd (o_k67.2.2 26) ((5 * x2) + k5_67).toNatClampNeg x3)) 27 (upd (o_k67.2.2 27) x2.toNatClampNeg (((o_k67.2.2 27) x2.toNatClampNeg) + 1))))))))) Post n13 ((o.2.2 27) x2.toNatClampNeg) o)
set_option maxRecDepth 100000 in
set_option maxHeartbeats 4000000 in
theorem c_X10_putIn (l : Launch) (D : va_G) (E : Nat → ClassId) (a : Nat → Nat)  (o : Ob) (x1 : Int32) (x2 : Int32) (x3 : Int32) {Post : Ob → Prop} (h : w_X10_putIn x1 x2 x3 o Post) : CtV l yX10_putIn cX10_putIn 6 ({ frames := 0, cells := 0, slots := 0, locals := 0 } : Room) D E [.ref (a 0), .int (x1), .int (x2), .int (x3)] (List.flatten [bX10 a E o]) (fun u : Ob => List.flatten [bX10 a E u]) Post 0 0 := by
  refine enV (by decide +kernel) (Nat.le_of_ble_eq_true rfl) ?_
  intro p e s m args below meth c Q A ls hx hb hml hown hT hK hA hin0 hret hh hl
  have hl : lv_has ls 6 [(0, .ref (a 0)), (1, .int (x1)), (2, .int (x2)), (3, .int (x3))] := hl
  unfold w_X10_putIn at h
  refine lv_iconst (v := 5) hx hb dX10_putIn_0 (by decide) ?_
  refine lv_iload_n hx hb dX10_putIn_1 rfl (lv_at hl 2 rfl) ?_
  refine lv_imul hx hb dX10_putIn_2 ?_
  refine lv_istore (lv' := [(4, .int (5 * x2)), (0, .ref (a 0)), (1, .int (x1)), (2, .int (x2)), (3, .int (x3))]) hx hb dX10_putIn_3 hl (by decide) rfl (fun ls hl => ?_)
  refine lv_aload_n hx hb dX10_putIn_5 rfl (lv_at hl 1 rfl) ?_
  refine G_X10_77 [] [] hx hb hT hown hK hh dX10_putIn_6 ?_
  refine lv_iload_n hx hb dX10_putIn_9 rfl (lv_at hl 3 rfl) ?_
  obtain ⟨g1, h⟩ := h
  refine A_X10_27 [] [] hx hb hK hh (v := (o.2.2 27) x2.toNatClampNeg) g1 rfl dX10_putIn_10 ?_
  refine lv_istore (lv' := [(5, .int ((o.2.2 27) x2.toNatClampNeg)), (4, .int (5 * x2)), (0, .ref (a 0)), (1, .int (x1)), (2, .int (x2)), (3, .int (x3))]) hx hb dX10_putIn_11 hl (by decide) rfl (fun ls hl => ?_)
  have hw13 : ∀ (K67_13 : Int32 → Ob → Prop) (hK67_13 : ∀ (k5_67 : Int32) (o_k67 : Ob) (H : Heap) (locs : List Loc) (ls : Array Slot), K67_13 k5_67 o_k67 → Wh D A s.heap ((List.flatten [bX10 a E o_k67])) H locs → lv_has ls 6 [(0, .ref (a 0)), (2, .int (x2)), (3, .int (x3)), (4, .int (5 * x2)), (5, .int (k5_67))] → W p l e ({ frames := 0, cells := 0, slots := 0, locals := 0 } : Room) s m args below meth c H locs 0 0 Q (F0 m 67 ls [])) (n : Nat) (p5_13 : Int32) (o_13 : Ob) (H : Heap) (locs : List Loc) (ls : Array Slot), w_X10_putIn_L13 x1 x2 x3 (5 * x2) K67_13 Post n p5_13 o_13 → Wh D A s.heap ((List.flatten [bX10 a E o_13])) H locs → lv_has ls 6 [(0, .ref (a 0)), (1, .int (x1)), (2, .int (x2)), (3, .int (x3)), (4, .int (5 * x2)), (5, .int (p5_13))] → W p l e ({ frames := 0, cells := 0, slots := 0, locals := 0 } : Room) s m args below meth c H locs 0 0 Q (F0 m 13 ls []) := by
    intro K67_13 hK67_13 n
    induction n with
    | zero => intro p5_13 o_13 H locs ls h hh hl; exact False.elim h
    | succ n ih =>
      intro p5_13 o_13 H locs ls h hh hl
      refine lv_iload_n hx hb dX10_putIn_13 rfl (lv_at hl 1 rfl) ?_
      refine lv_iconst (v := 2) hx hb dX10_putIn_14 (by decide) ?_
      refine lv_icmp_ne (tgt := 67) hx hb dX10_putIn_15 (by decide) (fun c2 => ?_) (fun c2 => ?_)
      · have h := h.1 c2
        exact hK67_13 p5_13 o_13 _ _ _ h hh (lv_sub hl [0, 2, 3, 4, 5] rfl)
      · have h := h.2 c2
        refine lv_iload hx hb dX10_putIn_18 (lv_at hl 5 rfl) ?_
        refine lv_if_le (tgt := 67) hx hb dX10_putIn_20 (by decide) (fun c3 => ?_) (fun c3 => ?_)
        · have h := h.1 c3
          exact hK67_13 p5_13 o_13 _ _ _ h hh (lv_sub hl [0, 2, 3, 4, 5] rfl)
        · have h := h.2 c3
          refine lv_aload_n hx hb dX10_putIn_23 rfl (lv_at hl 0 rfl) ?_
          refine G_X10_74 [] [] hx hb hT hown hK hh dX10_putIn_24 ?_
          refine lv_iload hx hb dX10_putIn_27 (lv_at hl 4 rfl) ?_
          refine lv_iload hx hb dX10_putIn_29 (lv_at hl 5 rfl) ?_
          refine lv_iadd hx hb dX10_putIn_31 ?_
          refine lv_iconst (v := 1) hx hb dX10_putIn_32 (by decide) ?_
          refine lv_isub hx hb dX10_putIn_33 ?_
          obtain ⟨g4, h⟩ := h
          refine A_X10_26 [] [] hx hb hK hh (v := (o_13.2.2 26) (((5 * x2) + p5_13) - 1).toNatClampNeg) g4 rfl dX10_putIn_34 ?_
          refine lv_iload_n hx hb dX10_putIn_35 rfl (lv_at hl 3 rfl) ?_
          refine lv_icmp_le (tgt := 67) hx hb dX10_putIn_36 (by decide) (fun c5 => ?_) (fun c5 => ?_)
          · have h := h.1 c5
            exact hK67_13 p5_13 o_13 _ _ _ h hh (lv_sub hl [0, 2, 3, 4, 5] rfl)
          · have h := h.2 c5
            refine lv_aload_n hx hb dX10_putIn_39 rfl (lv_at hl 0 rfl) ?_
            refine G_X10_74 [] [] hx hb hT hown hK hh dX10_putIn_40 ?_
            refine lv_iload hx hb dX10_putIn_43 (lv_at hl 4 rfl) ?_
            refine lv_iload hx hb dX10_putIn_45 (lv_at hl 5 rfl) ?_
            refine lv_iadd hx hb dX10_putIn_47 ?_
            refine lv_aload_n hx hb dX10_putIn_48 rfl (lv_at hl 0 rfl) ?_
            refine G_X10_74 [] [] hx hb hT hown hK hh dX10_putIn_49 ?_
            refine lv_iload hx hb dX10_putIn_52 (lv_at hl 4 rfl) ?_
            refine lv_iload hx hb dX10_putIn_54 (lv_at hl 5 rfl) ?_
            refine lv_iadd hx hb dX10_putIn_56 ?_
            refine lv_iconst (v := 1) hx hb dX10_putIn_57 (by decide) ?_
            refine lv_isub hx hb dX10_putIn_58 ?_
            obtain ⟨g6, h⟩ := h
            refine A_X10_26 [] [] hx hb hK hh (v := (o_13.2.2 26) (((5 * x2) + p5_13) - 1).toNatClampNeg) g6 rfl dX10_putIn_59 ?_
            obtain ⟨g7, h⟩ := h
            refine S_X10_26 [] [] hx hb hK hh g7 dX10_putIn_60 (fun H locs (hh : Wh D A s.heap ((List.flatten [bX10 a E ((o_13.1, o_13.2.1, (sa o_13.2.2 26 (upd (o_13.2.2 26) ((5 * x2) + p5_13).toNatClampNeg ((o_13.2.2 26) (((5 * x2) + p5_13) - 1).toNatClampNeg)))))])) H locs) => ?_)
            refine lv_iinc (v := p5_13 + (-1)) (lv' := [(5, .int (p5_13 + (-1))), (0, .ref (a 0)), (1, .int (x1)), (2, .int (x2)), (3, .int (x3)), (4, .int ((5 * x2)))]) hx hb dX10_putIn_61 hl (k := 5) rfl (by rfl) (by decide) rfl (fun ls hl => ?_)
            refine lv_goto (tgt := 13) hx hb dX10_putIn_64 (by decide) ?_
            exact ih (p5_13 + (-1)) ((o_13.1, o_13.2.1, (sa o_13.2.2 26 (upd (o_13.2.2 26) ((5 * x2) + p5_13).toNatClampNeg ((o_13.2.2 26) (((5 * x2) + p5_13) - 1).toNatClampNeg))))) _ _ _ h hh (lv_sub hl [1, 2, 3, 4, 5, 0] rfl)
  obtain ⟨n, h⟩ := h
  refine hw13 _ (fun k5_67 o_k67 H locs ls h hh hl => ?_) n ((o.2.2 27) x2.toNatClampNeg) o _ _ _ h hh (lv_sub hl [2, 3, 4, 5, 1, 0] rfl)
  refine lv_aload_n hx hb dX10_putIn_67 rfl (lv_at hl 0 rfl) ?_
  refine G_X10_74 [] [] hx hb hT hown hK hh dX10_putIn_68 ?_
  refine lv_iload hx hb dX10_putIn_71 (lv_at hl 3 rfl) ?_
  refine lv_iload hx hb dX10_putIn_73 (lv_at hl 4 rfl) ?_
  refine lv_iadd hx hb dX10_putIn_75 ?_
  refine lv_iload_n hx hb dX10_putIn_76 rfl (lv_at hl 2 rfl) ?_
  obtain ⟨g8, h⟩ := h
  refine S_X10_26 [] [] hx hb hK hh g8 dX10_putIn_77 (fun H locs (hh : Wh D A s.heap ((List.flatten [bX10 a E ((o_k67.1, o_k67.2.1, (sa o_k67.2.2 26 (upd (o_k67.2.2 26) ((5 * x2) + k5_67).toNatClampNeg x3))))])) H locs) => ?_)
  refine lv_aload_n hx hb dX10_putIn_78 rfl (lv_at hl 0 rfl) ?_
  refine G_X10_77 [] [] hx hb hT hown hK hh dX10_putIn_79 ?_
  refine lv_iload_n hx hb dX10_putIn_82 rfl (lv_at hl 1 rfl) ?_
  refine lv_dup2_11 hx hb dX10_putIn_83 rfl rfl ?_
  obtain ⟨g9, h⟩ := h
  refine A_X10_27 [] [] hx hb hK hh (v := (o_k67.2.2 27) x2.toNatClampNeg) g9 rfl dX10_putIn_84 ?_
  refine lv_iconst (v := 1) hx hb dX10_putIn_85 (by decide) ?_
  refine lv_iadd hx hb dX10_putIn_86 ?_
  obtain ⟨g10, h⟩ := h
  refine S_X10_27 [] [] hx hb hK hh g10 dX10_putIn_87 (fun H locs (hh : Wh D A s.heap ((List.flatten [bX10 a E ((o_k67.1, o_k67.2.1, (sa (sa o_k67.2.2 26 (upd (o_k67.2.2 26) ((5 * x2) + k5_67).toNatClampNeg x3)) 27 (upd (o_k67.2.2 27) x2.toNatClampNeg (((o_k67.2.2 27) x2.toNatClampNeg) + 1)))))])) H locs) => ?_)
  exact hret _ _ _ _ (o_k67.1, o_k67.2.1, (sa (sa o_k67.2.2 26 (upd (o_k67.2.2 26) ((5 * x2) + k5_67).toNatClampNeg x3)) 27 (upd (o_k67.2.2 27) x2.toNatClampNeg (((o_k67.2.2 27) x2.toNatClampNeg) + 1)))) dX10_putIn_88 h hh

def w_X10_answer_L106 (f5_106 : Int32) (f6_106 : Int32) (f7_106 : Int32)  (Post : Int32 → Ob → Prop) : Nat → Int32 → Int32 → Ob → Prop
  | 0, _, _, _ => False
  | n106 + 1, p8_106, p9_106, o_106 => ((f7_106 ≤ p9_106) → Post p8_106 o_106) ∧ (¬ (f7_106 ≤ p9_106) → vp_in (f6_106 + p9_106) 10 ∧ (jn (fun J135 : Int32 → Ob → Prop => ((¬ ((o_106.2.2 26) (f6_106 + p9_106).toNatClampNeg) = f5_106) → J135 0 o_106) ∧ ((((o_106.2.2 26) (f6_106 + p9_106).toNatClampNeg) = f5_106) → J135 1 o_106)) (fun (z_135 : Int32) (o_135 : Ob) => w_X10_answer_L106 f5_106 f6_106 f7_106  Post n106 (p8_106 + z_135) (p9_106 + 1) o_135)))
def w_X10_answer (x1 : Int32) (x2 : Int32) (x3 : Int32) (x4 : Int32) (x5 : Int32) (o : Ob) (Post : Int32 → Ob → Prop) : Prop := vp_in x2 2 ∧ (((¬ x4 = 0) → ((¬ x4 = 3) → jn (fun J147 : Ob → Prop => ((¬ x4 = 2) → J147 o) ∧ ((x4 = 2) → ((¬ x1 = 2) → J147 o) ∧ ((x1 = 2) → ∃ n106, w_X10_answer_L106 x5 (5 * x2) ((o.2.2 27) x2.toNatClampNeg)  Post n106 0 0 o))) (fun (o_147 : Ob) => ((¬ ((o.2.2 27) x2.toNatClampNeg) = 0) → jn (fun J181 : Int32 → Ob → Prop => ((¬ x1 = 0) → J181 0 o_147) ∧ ((x1 = 0) → J181 (((o.2.2 27) x2.toNatClampNeg) - 1) o_147)) (fun (z_181 : Int32) (o_181 : Ob) => vp_in ((5 * x2) + z_181) 10 ∧ (((¬ x4 = 1) → Post ((o_181.2.2 26) ((5 * x2) + z_181).toNatClampNeg) o_181) ∧ ((x4 = 1) → w_X10_putAway  x2 z_181 o_181 (fun (o_14 : Ob) => Post ((o_181.2.2 26) ((5 * x2) + z_181).toNatClampNeg) o_14))))) ∧ ((((o.2.2 27) x2.toNatClampNeg) = 0) → ((¬ x4 = 1) → Post ((-1)) o_147) ∧ ((x4 = 1) → ((¬ x3 = 2) → Post ((-1)) o_147) ∧ ((x3 = 2) → Post 0 o_147))))) ∧ ((x4 = 3) → Post ((o.2.2 27) x2.toNatClampNeg) o)) ∧ ((x4 = 0) → jn (fun J36 : Ob → Prop => ((¬ ((o.2.2 27) x2.toNatClampNeg) = 5) → J36 o) ∧ ((((o.2.2 27) x2.toNatClampNeg) = 5) → ((¬ x3 = 3) → J36 o) ∧ ((x3 = 3) → Post 0 ((o.1, (upd o.2.1 28 ((1 : Int32))), o.2.2))))) (fun (o_36 : Ob) => jn (fun J49 : Ob → Prop => ((¬ ((o.2.2 27) x2.toNatClampNeg) = 5) → J49 o_36) ∧ ((((o.2.2 27) x2.toNatClampNeg) = 5) → ((x3 = 1) → J49 o_36) ∧ (¬ (x3 = 1) → Post 0 o_36))) (fun (o_49 : Ob) => jn (fun J70 : Ob → Prop => ((¬ ((o.2.2 27) x2.toNatClampNeg) = 5) → J70 o_49) ∧ ((((o.2.2 27) x2.toNatClampNeg) = 5) → jn (fun J67 : Int32 → Ob → Prop => ((¬ x1 = 2) → J67 0 o_49) ∧ ((x1 = 2) → J67 4 o_49)) (fun (z_67 : Int32) (o_67 : Ob) => w_X10_putAway  x2 z_67 o_67 (fun (o_24 : Ob) => J70 o_24)))) (fun (o_70 : Ob) => w_X10_putIn  x1 x2 x5 o_70 (fun (o_26 : Ob) => Post 1 o_26))))))
set_option maxRecDepth 100000 in
set_option maxHeartbeats 4000000 in
theorem c_X10_answer (l : Launch) (D : va_G) (E : Nat → ClassId) (a : Nat → Nat)  (o : Ob) (x1 : Int32) (x2 : Int32) (x3 : Int32) (x4 : Int32) (x5 : Int32) {Post : Int32 → Ob → Prop} (h : w_X10_answer x1 x2 x3 x4 x5 o Post) : CtI l yX10_answer cX10_answer 10 .int ({ frames := 1, cells := 0, slots := 0, locals := 25 } : Room) D E [.ref (a 0), .int (x1), .int (x2), .int (x3), .int (x4), .int (x5)] (List.flatten [bX10 a E o]) (fun u : Ob => List.flatten [bX10 a E u]) Post 0 0 := by
  refine enI (by decide +kernel) (Nat.le_of_ble_eq_true rfl) ?_
  intro p e s m args below meth c Q A ls hx hb hml hown hT hK hA hret hh hl
  have hl : lv_has ls 10 [(0, .ref (a 0)), (1, .int (x1)), (2, .int (x2)), (3, .int (x3)), (4, .int (x4)), (5, .int (x5))] := hl
  unfold w_X10_answer at h
  refine lv_iconst (v := 5) hx hb dX10_answer_0 (by decide) ?_
  refine lv_iload_n hx hb dX10_answer_1 rfl (lv_at hl 2 rfl) ?_
  refine lv_imul hx hb dX10_answer_2 ?_
  refine lv_istore (lv' := [(6, .int (5 * x2)), (0, .ref (a 0)), (1, .int (x1)), (2, .int (x2)), (3, .int (x3)), (4, .int (x4)), (5, .int (x5))]) hx hb dX10_answer_3 hl (by decide) rfl (fun ls hl => ?_)
  refine lv_aload_n hx hb dX10_answer_5 rfl (lv_at hl 1 rfl) ?_
  refine G_X10_77 [] [] hx hb hT hown hK hh dX10_answer_6 ?_
  refine lv_iload_n hx hb dX10_answer_9 rfl (lv_at hl 3 rfl) ?_
  obtain ⟨g1, h⟩ := h
  refine A_X10_27 [] [] hx hb hK hh (v := (o.2.2 27) x2.toNatClampNeg) g1 rfl dX10_answer_10 ?_
  refine lv_istore (lv' := [(7, .int ((o.2.2 27) x2.toNatClampNeg)), (6, .int (5 * x2)), (0, .ref (a 0)), (1, .int (x1)), (2, .int (x2)), (3, .int (x3)), (4, .int (x4)), (5, .int (x5))]) hx hb dX10_answer_11 hl (by decide) rfl (fun ls hl => ?_)
  refine lv_iload hx hb dX10_answer_13 (lv_at hl 6 rfl) ?_
  refine lv_if_ne (tgt := 80) hx hb dX10_answer_15 (by decide) (fun c2 => ?_) (fun c2 => ?_)
  · have h := h.1 c2
    refine lv_iload hx hb dX10_answer_80 (lv_at hl 6 rfl) ?_
    refine lv_iconst (v := 3) hx hb dX10_answer_82 (by decide) ?_
    refine lv_icmp_ne (tgt := 89) hx hb dX10_answer_83 (by decide) (fun c3 => ?_) (fun c3 => ?_)
    · have h := h.1 c3
      refine lv_iload hx hb dX10_answer_89 (lv_at hl 6 rfl) ?_
      refine lv_iconst (v := 2) hx hb dX10_answer_91 (by decide) ?_
      refine jn_elim h (fun J147 hJ147 h => ?_)
      have kJ147 : ∀ (o_147 : Ob) (H : Heap) (locs : List Loc) (ls : Array Slot), J147 o_147 → Wh D A s.heap ((List.flatten [bX10 a E o_147])) H locs → lv_has ls 10 [(0, .ref (a 0)), (1, .int (x1)), (2, .int (x2)), (3, .int (x3)), (4, .int (x4)), (6, .int (5 * x2)), (7, .int ((o.2.2 27) x2.toNatClampNeg))] → W p l e ({ frames := 1, cells := 0, slots := 0, locals := 25 } : Room) s m args below meth c H locs 0 0 Q (F0 m 147 ls []) := by
        intro o_147 H locs ls h hh hl
        rw [hJ147] at h
        refine lv_iload hx hb dX10_answer_147 (lv_at hl 6 rfl) ?_
        refine lv_if_ne (tgt := 169) hx hb dX10_answer_149 (by decide) (fun c9 => ?_) (fun c9 => ?_)
        · have h := h.1 c9
          refine lv_iload_n hx hb dX10_answer_169 rfl (lv_at hl 1 rfl) ?_
          refine jn_elim h (fun J181 hJ181 h => ?_)
          have kJ181 : ∀ (z_181 : Int32) (o_181 : Ob) (H : Heap) (locs : List Loc) (ls : Array Slot), J181 z_181 o_181 → Wh D A s.heap ((List.flatten [bX10 a E o_181])) H locs → lv_has ls 10 [(0, .ref (a 0)), (2, .int (x2)), (4, .int (x4)), (6, .int (5 * x2))] → W p l e ({ frames := 1, cells := 0, slots := 0, locals := 25 } : Room) s m args below meth c H locs 0 0 Q (F0 m 181 ls [.int (z_181)]) := by
            intro z_181 o_181 H locs ls h hh hl
            rw [hJ181] at h
            refine lv_istore (lv' := [(8, .int (z_181)), (0, .ref (a 0)), (2, .int (x2)), (4, .int (x4)), (6, .int (5 * x2))]) hx hb dX10_answer_181 hl (by decide) rfl (fun ls hl => ?_)
            refine lv_aload_n hx hb dX10_answer_183 rfl (lv_at hl 1 rfl) ?_
            refine G_X10_74 [] [] hx hb hT hown hK hh dX10_answer_184 ?_
            refine lv_iload hx hb dX10_answer_187 (lv_at hl 4 rfl) ?_
            refine lv_iload hx hb dX10_answer_189 (lv_at hl 0 rfl) ?_
            refine lv_iadd hx hb dX10_answer_191 ?_
            obtain ⟨g11, h⟩ := h
            refine A_X10_26 [] [] hx hb hK hh (v := (o_181.2.2 26) ((5 * x2) + z_181).toNatClampNeg) g11 rfl dX10_answer_192 ?_
            refine lv_istore (lv' := [(9, .int ((o_181.2.2 26) ((5 * x2) + z_181).toNatClampNeg)), (8, .int (z_181)), (0, .ref (a 0)), (2, .int (x2)), (4, .int (x4)), (6, .int (5 * x2))]) hx hb dX10_answer_193 hl (by decide) rfl (fun ls hl => ?_)
            refine lv_iload hx hb dX10_answer_195 (lv_at hl 4 rfl) ?_
            refine lv_iconst (v := 1) hx hb dX10_answer_197 (by decide) ?_
            refine lv_icmp_ne (tgt := 208) hx hb dX10_answer_198 (by decide) (fun c12 => ?_) (fun c12 => ?_)
            · have h := h.1 c12
              refine lv_iload hx hb dX10_answer_208 (lv_at hl 0 rfl) ?_
              exact hret _ _ _ _ _ o_181 dX10_answer_210 rfl h hh
            · have h := h.2 c12
              refine lv_aload_n hx hb dX10_answer_201 rfl (lv_at hl 2 rfl) ?_
              refine lv_iload_n hx hb dX10_answer_202 rfl (lv_at hl 3 rfl) ?_
              refine lv_iload hx hb dX10_answer_203 (lv_at hl 1 rfl) ?_
              refine kV hh.ap0 hA (rnV hx hb hml hown hT hK hh.ap0 (c_X10_putAway l D E a  o_181 x2 z_181 h _) mf_X10_putAway kml_X10_188 ⟨rfl, rfl, Nat.le_of_ble_eq_true rfl, Nat.le_of_ble_eq_true rfl⟩ ⟨Nat.le_of_ble_eq_true rfl, Nat.le_of_ble_eq_true rfl⟩ 10 0 rfl rfl hl.1 rfl dX10_answer_205 (Nat.le_of_ble_eq_true rfl) rfl) (fun o_14 H locs h hh => ?_)
              have hh : Wh D A s.heap ((List.flatten [bX10 a E o_14])) _ _ := hh.un0
              refine lv_iload hx hb dX10_answer_208 (lv_at hl 0 rfl) ?_
              exact hret _ _ _ _ _ o_14 dX10_answer_210 rfl h hh
          refine lv_if_ne (tgt := 180) hx hb dX10_answer_170 (by decide) (fun c10 => ?_) (fun c10 => ?_)
          · have h := h.1 c10
            refine lv_iconst (v := 0) hx hb dX10_answer_180 (by decide) ?_
            exact kJ181 0 o_147 _ _ _ h hh (lv_sub hl [0, 2, 4, 5] rfl)
          · have h := h.2 c10
            refine lv_iload hx hb dX10_answer_173 (lv_at hl 6 rfl) ?_
            refine lv_iconst (v := 1) hx hb dX10_answer_175 (by decide) ?_
            refine lv_isub hx hb dX10_answer_176 ?_
            refine lv_goto (tgt := 181) hx hb dX10_answer_177 (by decide) ?_
            exact kJ181 (((o.2.2 27) x2.toNatClampNeg) - 1) o_147 _ _ _ h hh (lv_sub hl [0, 2, 4, 5] rfl)
        · have h := h.2 c9
          refine lv_iload hx hb dX10_answer_152 (lv_at hl 4 rfl) ?_
          refine lv_iconst (v := 1) hx hb dX10_answer_154 (by decide) ?_
          refine lv_icmp_ne (tgt := 167) hx hb dX10_answer_155 (by decide) (fun c15 => ?_) (fun c15 => ?_)
          · have h := h.1 c15
            refine lv_iconst (v := (-1)) hx hb dX10_answer_167 (by decide) ?_
            exact hret _ _ _ _ _ o_147 dX10_answer_168 rfl h hh
          · have h := h.2 c15
            refine lv_iload_n hx hb dX10_answer_158 rfl (lv_at hl 3 rfl) ?_
            refine lv_iconst (v := 2) hx hb dX10_answer_159 (by decide) ?_
            refine lv_icmp_ne (tgt := 167) hx hb dX10_answer_160 (by decide) (fun c16 => ?_) (fun c16 => ?_)
            · have h := h.1 c16
              refine lv_iconst (v := (-1)) hx hb dX10_answer_167 (by decide) ?_
              exact hret _ _ _ _ _ o_147 dX10_answer_168 rfl h hh
            · have h := h.2 c16
              refine lv_iconst (v := 0) hx hb dX10_answer_163 (by decide) ?_
              refine lv_goto (tgt := 168) hx hb dX10_answer_164 (by decide) ?_
              exact hret _ _ _ _ _ o_147 dX10_answer_168 rfl h hh
      refine lv_icmp_ne (tgt := 147) hx hb dX10_answer_92 (by decide) (fun c4 => ?_) (fun c4 => ?_)
      · have h := h.1 c4
        exact kJ147 o _ _ _ h hh (lv_sub hl [2, 3, 4, 5, 6, 1, 0] rfl)
      · have h := h.2 c4
        refine lv_iload_n hx hb dX10_answer_95 rfl (lv_at hl 3 rfl) ?_
        refine lv_iconst (v := 2) hx hb dX10_answer_96 (by decide) ?_
        refine lv_icmp_ne (tgt := 147) hx hb dX10_answer_97 (by decide) (fun c5 => ?_) (fun c5 => ?_)
        · have h := h.1 c5
          exact kJ147 o _ _ _ h hh (lv_sub hl [2, 3, 4, 5, 6, 1, 0] rfl)
        · have h := h.2 c5
          refine lv_iconst (v := 0) hx hb dX10_answer_100 (by decide) ?_
          refine lv_istore (lv' := [(8, .int (0)), (7, .int ((o.2.2 27) x2.toNatClampNeg)), (6, .int (5 * x2)), (0, .ref (a 0)), (1, .int (x1)), (2, .int (x2)), (3, .int (x3)), (4, .int (x4)), (5, .int (x5))]) hx hb dX10_answer_101 hl (by decide) rfl (fun ls hl => ?_)
          refine lv_iconst (v := 0) hx hb dX10_answer_103 (by decide) ?_
          refine lv_istore (lv' := [(9, .int (0)), (8, .int (0)), (7, .int ((o.2.2 27) x2.toNatClampNeg)), (6, .int (5 * x2)), (0, .ref (a 0)), (1, .int (x1)), (2, .int (x2)), (3, .int (x3)), (4, .int (x4)), (5, .int (x5))]) hx hb dX10_answer_104 hl (by decide) rfl (fun ls hl => ?_)
          have hw106 : ∀   (n : Nat) (p8_106 : Int32) (p9_106 : Int32) (o_106 : Ob) (H : Heap) (locs : List Loc) (ls : Array Slot), w_X10_answer_L106 x5 (5 * x2) ((o.2.2 27) x2.toNatClampNeg)  Post n p8_106 p9_106 o_106 → Wh D A s.heap ((List.flatten [bX10 a E o_106])) H locs → lv_has ls 10 [(0, .ref (a 0)), (5, .int (x5)), (6, .int (5 * x2)), (7, .int ((o.2.2 27) x2.toNatClampNeg)), (8, .int (p8_106)), (9, .int (p9_106))] → W p l e ({ frames := 1, cells := 0, slots := 0, locals := 25 } : Room) s m args below meth c H locs 0 0 Q (F0 m 106 ls []) := by
            intro   n
            induction n with
            | zero => intro p8_106 p9_106 o_106 H locs ls h hh hl; exact False.elim h
            | succ n ih =>
              intro p8_106 p9_106 o_106 H locs ls h hh hl
              refine lv_iload hx hb dX10_answer_106 (lv_at hl 5 rfl) ?_
              refine lv_iload hx hb dX10_answer_108 (lv_at hl 3 rfl) ?_
              refine lv_icmp_ge (tgt := 144) hx hb dX10_answer_110 (by decide) (fun c6 => ?_) (fun c6 => ?_)
              · have h := h.1 c6
                refine lv_iload hx hb dX10_answer_144 (lv_at hl 4 rfl) ?_
                exact hret _ _ _ _ _ o_106 dX10_answer_146 rfl h hh
              · have h := h.2 c6
                refine lv_iload hx hb dX10_answer_113 (lv_at hl 4 rfl) ?_
                refine lv_aload_n hx hb dX10_answer_115 rfl (lv_at hl 0 rfl) ?_
                refine G_X10_74 [] [] hx hb hT hown hK hh dX10_answer_116 ?_
                refine lv_iload hx hb dX10_answer_119 (lv_at hl 2 rfl) ?_
                refine lv_iload hx hb dX10_answer_121 (lv_at hl 5 rfl) ?_
                refine lv_iadd hx hb dX10_answer_123 ?_
                obtain ⟨g7, h⟩ := h
                refine A_X10_26 [] [] hx hb hK hh (v := (o_106.2.2 26) ((5 * x2) + p9_106).toNatClampNeg) g7 rfl dX10_answer_124 ?_
                refine lv_iload hx hb dX10_answer_125 (lv_at hl 1 rfl) ?_
                refine jn_elim h (fun J135 hJ135 h => ?_)
                have kJ135 : ∀ (z_135 : Int32) (o_135 : Ob) (H : Heap) (locs : List Loc) (ls : Array Slot), J135 z_135 o_135 → Wh D A s.heap ((List.flatten [bX10 a E o_135])) H locs → lv_has ls 10 [(0, .ref (a 0)), (5, .int (x5)), (6, .int ((5 * x2))), (7, .int (((o.2.2 27) x2.toNatClampNeg))), (9, .int (p9_106))] → W p l e ({ frames := 1, cells := 0, slots := 0, locals := 25 } : Room) s m args below meth c H locs 0 0 Q (F0 m 135 ls [.int (z_135), .int (p8_106)]) := by
                  intro z_135 o_135 H locs ls h hh hl
                  rw [hJ135] at h
                  refine lv_iadd hx hb dX10_answer_135 ?_
                  refine lv_istore (lv' := [(8, .int (p8_106 + z_135)), (0, .ref (a 0)), (5, .int (x5)), (6, .int ((5 * x2))), (7, .int (((o.2.2 27) x2.toNatClampNeg))), (9, .int (p9_106))]) hx hb dX10_answer_136 hl (by decide) rfl (fun ls hl => ?_)
                  refine lv_iinc (v := p9_106 + 1) (lv' := [(9, .int (p9_106 + 1)), (8, .int (p8_106 + z_135)), (0, .ref (a 0)), (5, .int (x5)), (6, .int ((5 * x2))), (7, .int (((o.2.2 27) x2.toNatClampNeg)))]) hx hb dX10_answer_138 hl (k := 5) rfl (by rfl) (by decide) rfl (fun ls hl => ?_)
                  refine lv_goto (tgt := 106) hx hb dX10_answer_141 (by decide) ?_
                  exact ih (p8_106 + z_135) (p9_106 + 1) o_135 _ _ _ h hh (lv_sub hl [2, 3, 4, 5, 1, 0] rfl)
                refine lv_icmp_ne (tgt := 134) hx hb dX10_answer_127 (by decide) (fun c8 => ?_) (fun c8 => ?_)
                · have h := h.1 c8
                  refine lv_iconst (v := 0) hx hb dX10_answer_134 (by decide) ?_
                  exact kJ135 0 o_106 _ _ _ h hh (lv_sub hl [0, 1, 2, 3, 5] rfl)
                · have h := h.2 c8
                  refine lv_iconst (v := 1) hx hb dX10_answer_130 (by decide) ?_
                  refine lv_goto (tgt := 135) hx hb dX10_answer_131 (by decide) ?_
                  exact kJ135 1 o_106 _ _ _ h hh (lv_sub hl [0, 1, 2, 3, 5] rfl)
          obtain ⟨n, h⟩ := h
          refine hw106   n 0 0 o _ _ _ h hh (lv_sub hl [4, 9, 3, 2, 1, 0] rfl)
    · have h := h.2 c3
      refine lv_iload hx hb dX10_answer_86 (lv_at hl 0 rfl) ?_
      exact hret _ _ _ _ _ o dX10_answer_88 rfl h hh
  · have h := h.2 c2
    refine lv_iload hx hb dX10_answer_18 (lv_at hl 0 rfl) ?_
    refine lv_iconst (v := 5) hx hb dX10_answer_20 (by decide) ?_
    refine jn_elim h (fun J36 hJ36 h => ?_)
    have kJ36 : ∀ (o_36 : Ob) (H : Heap) (locs : List Loc) (ls : Array Slot), J36 o_36 → Wh D A s.heap ((List.flatten [bX10 a E o_36])) H locs → lv_has ls 10 [(0, .ref (a 0)), (1, .int (x1)), (2, .int (x2)), (3, .int (x3)), (5, .int (x5)), (7, .int ((o.2.2 27) x2.toNatClampNeg))] → W p l e ({ frames := 1, cells := 0, slots := 0, locals := 25 } : Room) s m args below meth c H locs 0 0 Q (F0 m 36 ls []) := by
      intro o_36 H locs ls h hh hl
      rw [hJ36] at h
      refine lv_iload hx hb dX10_answer_36 (lv_at hl 5 rfl) ?_
      refine lv_iconst (v := 5) hx hb dX10_answer_38 (by decide) ?_
      refine jn_elim h (fun J49 hJ49 h => ?_)
      have kJ49 : ∀ (o_49 : Ob) (H : Heap) (locs : List Loc) (ls : Array Slot), J49 o_49 → Wh D A s.heap ((List.flatten [bX10 a E o_49])) H locs → lv_has ls 10 [(0, .ref (a 0)), (1, .int (x1)), (2, .int (x2)), (5, .int (x5)), (7, .int ((o.2.2 27) x2.toNatClampNeg))] → W p l e ({ frames := 1, cells := 0, slots := 0, locals := 25 } : Room) s m args below meth c H locs 0 0 Q (F0 m 49 ls []) := by
        intro o_49 H locs ls h hh hl
        rw [hJ49] at h
        refine lv_iload hx hb dX10_answer_49 (lv_at hl 4 rfl) ?_
        refine lv_iconst (v := 5) hx hb dX10_answer_51 (by decide) ?_
        refine jn_elim h (fun J70 hJ70 h => ?_)
        have kJ70 : ∀ (o_70 : Ob) (H : Heap) (locs : List Loc) (ls : Array Slot), J70 o_70 → Wh D A s.heap ((List.flatten [bX10 a E o_70])) H locs → lv_has ls 10 [(0, .ref (a 0)), (1, .int (x1)), (2, .int (x2)), (5, .int (x5))] → W p l e ({ frames := 1, cells := 0, slots := 0, locals := 25 } : Room) s m args below meth c H locs 0 0 Q (F0 m 70 ls []) := by
          intro o_70 H locs ls h hh hl
          rw [hJ70] at h
          refine lv_aload_n hx hb dX10_answer_70 rfl (lv_at hl 0 rfl) ?_
          refine lv_iload_n hx hb dX10_answer_71 rfl (lv_at hl 1 rfl) ?_
          refine lv_iload_n hx hb dX10_answer_72 rfl (lv_at hl 2 rfl) ?_
          refine lv_iload hx hb dX10_answer_73 (lv_at hl 3 rfl) ?_
          refine kV hh.ap0 hA (rnV hx hb hml hown hT hK hh.ap0 (c_X10_putIn l D E a  o_70 x1 x2 x5 h _) mf_X10_putIn kml_X10_191 ⟨rfl, rfl, Nat.le_of_ble_eq_true rfl, Nat.le_of_ble_eq_true rfl⟩ ⟨Nat.le_of_ble_eq_true rfl, Nat.le_of_ble_eq_true rfl⟩ 10 0 rfl rfl hl.1 rfl dX10_answer_75 (Nat.le_of_ble_eq_true rfl) rfl) (fun o_26 H locs h hh => ?_)
          have hh : Wh D A s.heap ((List.flatten [bX10 a E o_26])) _ _ := hh.un0
          refine lv_iconst (v := 1) hx hb dX10_answer_78 (by decide) ?_
          exact hret _ _ _ _ _ o_26 dX10_answer_79 rfl h hh
        refine lv_icmp_ne (tgt := 70) hx hb dX10_answer_52 (by decide) (fun c21 => ?_) (fun c21 => ?_)
        · have h := h.1 c21
          exact kJ70 o_49 _ _ _ h hh (lv_sub hl [0, 1, 2, 3] rfl)
        · have h := h.2 c21
          refine lv_aload_n hx hb dX10_answer_55 rfl (lv_at hl 0 rfl) ?_
          refine lv_iload_n hx hb dX10_answer_56 rfl (lv_at hl 2 rfl) ?_
          refine lv_iload_n hx hb dX10_answer_57 rfl (lv_at hl 1 rfl) ?_
          refine lv_iconst (v := 2) hx hb dX10_answer_58 (by decide) ?_
          refine jn_elim h (fun J67 hJ67 h => ?_)
          have kJ67 : ∀ (z_67 : Int32) (o_67 : Ob) (H : Heap) (locs : List Loc) (ls : Array Slot), J67 z_67 o_67 → Wh D A s.heap ((List.flatten [bX10 a E o_67])) H locs → lv_has ls 10 [(0, .ref (a 0)), (1, .int (x1)), (2, .int (x2)), (5, .int (x5))] → W p l e ({ frames := 1, cells := 0, slots := 0, locals := 25 } : Room) s m args below meth c H locs 0 0 Q (F0 m 67 ls [.int (z_67), .int (x2), .ref (a 0)]) := by
            intro z_67 o_67 H locs ls h hh hl
            rw [hJ67] at h
            refine kV hh.ap0 hA (rnV hx hb hml hown hT hK hh.ap0 (c_X10_putAway l D E a  o_67 x2 z_67 h _) mf_X10_putAway kml_X10_188 ⟨rfl, rfl, Nat.le_of_ble_eq_true rfl, Nat.le_of_ble_eq_true rfl⟩ ⟨Nat.le_of_ble_eq_true rfl, Nat.le_of_ble_eq_true rfl⟩ 10 0 rfl rfl hl.1 rfl dX10_answer_67 (Nat.le_of_ble_eq_true rfl) rfl) (fun o_24 H locs h hh => ?_)
            have hh : Wh D A s.heap ((List.flatten [bX10 a E o_24])) _ _ := hh.un0
            exact kJ70 o_24 _ _ _ h hh (lv_sub hl [0, 1, 2, 3] rfl)
          refine lv_icmp_ne (tgt := 66) hx hb dX10_answer_59 (by decide) (fun c22 => ?_) (fun c22 => ?_)
          · have h := h.1 c22
            refine lv_iconst (v := 0) hx hb dX10_answer_66 (by decide) ?_
            exact kJ67 0 o_49 _ _ _ h hh (lv_sub hl [0, 1, 2, 3] rfl)
          · have h := h.2 c22
            refine lv_iconst (v := 4) hx hb dX10_answer_62 (by decide) ?_
            refine lv_goto (tgt := 67) hx hb dX10_answer_63 (by decide) ?_
            exact kJ67 4 o_49 _ _ _ h hh (lv_sub hl [0, 1, 2, 3] rfl)
      refine lv_icmp_ne (tgt := 49) hx hb dX10_answer_39 (by decide) (fun c19 => ?_) (fun c19 => ?_)
      · have h := h.1 c19
        exact kJ49 o_36 _ _ _ h hh (lv_sub hl [0, 1, 2, 4, 5] rfl)
      · have h := h.2 c19
        refine lv_iload_n hx hb dX10_answer_42 rfl (lv_at hl 3 rfl) ?_
        refine lv_iconst (v := 1) hx hb dX10_answer_43 (by decide) ?_
        refine lv_icmp_eq (tgt := 49) hx hb dX10_answer_44 (by decide) (fun c20 => ?_) (fun c20 => ?_)
        · have h := h.1 c20
          exact kJ49 o_36 _ _ _ h hh (lv_sub hl [0, 1, 2, 4, 5] rfl)
        · have h := h.2 c20
          refine lv_iconst (v := 0) hx hb dX10_answer_47 (by decide) ?_
          exact hret _ _ _ _ _ o_36 dX10_answer_48 rfl h hh
    refine lv_icmp_ne (tgt := 36) hx hb dX10_answer_21 (by decide) (fun c17 => ?_) (fun c17 => ?_)
    · have h := h.1 c17
      exact kJ36 o _ _ _ h hh (lv_sub hl [2, 3, 4, 5, 7, 0] rfl)
    · have h := h.2 c17
      refine lv_iload_n hx hb dX10_answer_24 rfl (lv_at hl 5 rfl) ?_
      refine lv_iconst (v := 3) hx hb dX10_answer_25 (by decide) ?_
      refine lv_icmp_ne (tgt := 36) hx hb dX10_answer_26 (by decide) (fun c18 => ?_) (fun c18 => ?_)
      · have h := h.1 c18
        exact kJ36 o _ _ _ h hh (lv_sub hl [2, 3, 4, 5, 7, 0] rfl)
      · have h := h.2 c18
        refine lv_aload_n hx hb dX10_answer_29 rfl (lv_at hl 2 rfl) ?_
        refine lv_iconst (v := 1) hx hb dX10_answer_30 (by decide) ?_
        refine P_X10_185 [] [] hx hb hT hown hK hh (by decide) dX10_answer_31 (fun H locs (hh : Wh D A s.heap ((List.flatten [bX10 a E ((o.1, (upd o.2.1 28 ((1 : Int32))), o.2.2))])) H locs) => ?_)
        refine lv_iconst (v := 0) hx hb dX10_answer_34 (by decide) ?_
        exact hret _ _ _ _ _ (o.1, (upd o.2.1 28 ((1 : Int32))), o.2.2) dX10_answer_35 rfl h hh

def w_X10_runs_L25 (f1_25 : Int32) (f2_25 : Int32) (f3_25 : Int32)  (Post : Int32 → Ob → Prop) : Nat → Int32 → Int32 → Ob → Prop
  | 0, _, _, _ => False
  | n25 + 1, p4_25, p5_25, o_25 => ((f3_25 ≤ p5_25) → (p4_25 = 0 ∨ p4_25 = 1) ∧ (Post p4_25 o_25)) ∧ (¬ (f3_25 ≤ p5_25) → vp_in (2 * p5_25) 64 ∧ (jn (fun J59 : Int32 → Ob → Prop => ((0 ≤ (((o_25.2.2 15) (2 * p5_25).toNatClampNeg) - ((o_25.2.2 15) (2 * p5_25).toNatClampNeg) / 4 * 4)) → J59 (((o_25.2.2 15) (2 * p5_25).toNatClampNeg) - ((o_25.2.2 15) (2 * p5_25).toNatClampNeg) / 4 * 4) o_25) ∧ (¬ (0 ≤ (((o_25.2.2 15) (2 * p5_25).toNatClampNeg) - ((o_25.2.2 15) (2 * p5_25).toNatClampNeg) / 4 * 4)) → J59 ((((o_25.2.2 15) (2 * p5_25).toNatClampNeg) - ((o_25.2.2 15) (2 * p5_25).toNatClampNeg) / 4 * 4) + 4) o_25)) (fun (z_59 : Int32) (o_59 : Ob) => vp_in ((2 * p5_25) + 1) 64 ∧ (w_X10_answer  f1_25 (1 : Int32) (0 : Int32) z_59 (((o_59.2.2 15) ((2 * p5_25) + 1).toNatClampNeg)) ((o_59.1, (upd (upd o_59.2.1 29 z_59) 30 (((o_59.2.2 15) ((2 * p5_25) + 1).toNatClampNeg))), o_59.2.2)) (fun (r6 : Int32) (o_7 : Ob) => jn (fun J123 : Int32 → Ob → Prop => (((o_7.2.1 28) = 0) → w_X10_answer  f1_25 (0 : Int32) f2_25 (o_7.2.1 29) (o_7.2.1 30) ((o_7.1, (upd o_7.2.1 32 r6), o_7.2.2)) (fun (r9 : Int32) (o_10 : Ob) => J123 r9 o_10)) ∧ (¬ ((o_7.2.1 28) = 0) → J123 0 ((o_7.1, (upd o_7.2.1 32 r6), o_7.2.2)))) (fun (z_123 : Int32) (o_123 : Ob) => jn (fun J147 : Int32 → Ob → Prop => jn (fun J146 : Ob → Prop => ((p4_25 = 0) → J146 ((o_123.1, (upd o_123.2.1 31 z_123), o_123.2.2))) ∧ (¬ (p4_25 = 0) → ((¬ z_123 = (o_123.2.1 32)) → J146 ((o_123.1, (upd o_123.2.1 31 z_123), o_123.2.2))) ∧ ((z_123 = (o_123.2.1 32)) → J147 1 ((o_123.1, (upd o_123.2.1 31 z_123), o_123.2.2))))) (fun (o_146 : Ob) => J147 0 o_146)) (fun (z_147 : Int32) (o_147 : Ob) => w_X10_runs_L25 f1_25 f2_25 f3_25  Post n25 z_147 (p5_25 + 1) o_147)))))))
def w_X10_runs (x1 : Int32) (x2 : Int32) (x3 : Int32) (o : Ob) (Post : Int32 → Ob → Prop) : Prop := ∃ n25, w_X10_runs_L25 x1 x2 x3  Post n25 1 0 ((o.1, (upd o.2.1 28 ((0 : Int32))), (sa (sa o.2.2 27 (upd (o.2.2 27) (0 : Int32).toNatClampNeg (0 : Int32))) 27 (upd (upd (o.2.2 27) (0 : Int32).toNatClampNeg (0 : Int32)) (1 : Int32).toNatClampNeg (0 : Int32)))))
set_option maxRecDepth 100000 in
set_option maxHeartbeats 4000000 in
theorem c_X10_runs (l : Launch) (D : va_G) (E : Nat → ClassId) (a : Nat → Nat)  (o : Ob) (x1 : Int32) (x2 : Int32) (x3 : Int32) {Post : Int32 → Ob → Prop} (h : w_X10_runs x1 x2 x3 o Post) : CtI l yX10_runs cX10_runs 7 .boolean ({ frames := 2, cells := 0, slots := 0, locals := 54 } : Room) D E [.ref (a 0), .int (x1), .int (x2), .int (x3)] (List.flatten [bX10 a E o]) (fun u : Ob => List.flatten [bX10 a E u]) Post 0 0 := by
  refine enI (by decide +kernel) (Nat.le_of_ble_eq_true rfl) ?_
  intro p e s m args below meth c Q A ls hx hb hml hown hT hK hA hret hh hl
  have hl : lv_has ls 7 [(0, .ref (a 0)), (1, .int (x1)), (2, .int (x2)), (3, .int (x3))] := hl
  unfold w_X10_runs at h
  refine lv_aload_n hx hb dX10_runs_0 rfl (lv_at hl 0 rfl) ?_
  refine G_X10_77 [] [] hx hb hT hown hK hh dX10_runs_1 ?_
  refine lv_iconst (v := 0) hx hb dX10_runs_4 (by decide) ?_
  refine lv_iconst (v := 0) hx hb dX10_runs_5 (by decide) ?_
  refine S_X10_27 [] [] hx hb hK hh (by unfold vp_in; decide) dX10_runs_6 (fun H locs (hh : Wh D A s.heap ((List.flatten [bX10 a E ((o.1, o.2.1, (sa o.2.2 27 (upd (o.2.2 27) (0 : Int32).toNatClampNeg (0 : Int32)))))])) H locs) => ?_)
  refine lv_aload_n hx hb dX10_runs_7 rfl (lv_at hl 0 rfl) ?_
  refine G_X10_77 [] [] hx hb hT hown hK hh dX10_runs_8 ?_
  refine lv_iconst (v := 1) hx hb dX10_runs_11 (by decide) ?_
  refine lv_iconst (v := 0) hx hb dX10_runs_12 (by decide) ?_
  refine S_X10_27 [] [] hx hb hK hh (by unfold vp_in; decide) dX10_runs_13 (fun H locs (hh : Wh D A s.heap ((List.flatten [bX10 a E ((o.1, o.2.1, (sa (sa o.2.2 27 (upd (o.2.2 27) (0 : Int32).toNatClampNeg (0 : Int32))) 27 (upd (upd (o.2.2 27) (0 : Int32).toNatClampNeg (0 : Int32)) (1 : Int32).toNatClampNeg (0 : Int32)))))])) H locs) => ?_)
  refine lv_aload_n hx hb dX10_runs_14 rfl (lv_at hl 0 rfl) ?_
  refine lv_iconst (v := 0) hx hb dX10_runs_15 (by decide) ?_
  refine P_X10_185 [] [] hx hb hT hown hK hh (by decide) dX10_runs_16 (fun H locs (hh : Wh D A s.heap ((List.flatten [bX10 a E ((o.1, (upd o.2.1 28 ((0 : Int32))), (sa (sa o.2.2 27 (upd (o.2.2 27) (0 : Int32).toNatClampNeg (0 : Int32))) 27 (upd (upd (o.2.2 27) (0 : Int32).toNatClampNeg (0 : Int32)) (1 : Int32).toNatClampNeg (0 : Int32)))))])) H locs) => ?_)
  refine lv_iconst (v := 1) hx hb dX10_runs_19 (by decide) ?_
  refine lv_istore (lv' := [(4, .int (1)), (0, .ref (a 0)), (1, .int (x1)), (2, .int (x2)), (3, .int (x3))]) hx hb dX10_runs_20 hl (by decide) rfl (fun ls hl => ?_)
  refine lv_iconst (v := 0) hx hb dX10_runs_22 (by decide) ?_
  refine lv_istore (lv' := [(5, .int (0)), (4, .int (1)), (0, .ref (a 0)), (1, .int (x1)), (2, .int (x2)), (3, .int (x3))]) hx hb dX10_runs_23 hl (by decide) rfl (fun ls hl => ?_)
  have hw25 : ∀   (n : Nat) (p4_25 : Int32) (p5_25 : Int32) (o_25 : Ob) (H : Heap) (locs : List Loc) (ls : Array Slot), w_X10_runs_L25 x1 x2 x3  Post n p4_25 p5_25 o_25 → Wh D A s.heap ((List.flatten [bX10 a E o_25])) H locs → lv_has ls 7 [(0, .ref (a 0)), (1, .int (x1)), (2, .int (x2)), (3, .int (x3)), (4, .int (p4_25)), (5, .int (p5_25))] → W p l e ({ frames := 2, cells := 0, slots := 0, locals := 54 } : Room) s m args below meth c H locs 0 0 Q (F0 m 25 ls []) := by
    intro   n
    induction n with
    | zero => intro p4_25 p5_25 o_25 H locs ls h hh hl; exact False.elim h
    | succ n ih =>
      intro p4_25 p5_25 o_25 H locs ls h hh hl
      refine lv_iload hx hb dX10_runs_25 (lv_at hl 5 rfl) ?_
      refine lv_iload_n hx hb dX10_runs_27 rfl (lv_at hl 3 rfl) ?_
      refine lv_icmp_ge (tgt := 155) hx hb dX10_runs_28 (by decide) (fun c1 => ?_) (fun c1 => ?_)
      · have h := h.1 c1
        refine lv_iload hx hb dX10_runs_155 (lv_at hl 4 rfl) ?_
        obtain ⟨g2, h⟩ := h
        exact hret _ _ _ _ _ o_25 dX10_runs_157 (bool_nar g2) h hh
      · have h := h.2 c1
        refine lv_aload_n hx hb dX10_runs_31 rfl (lv_at hl 0 rfl) ?_
        refine G_X10_47 [] [] hx hb hT hown hK hh dX10_runs_32 ?_
        refine lv_iconst (v := 2) hx hb dX10_runs_35 (by decide) ?_
        refine lv_iload hx hb dX10_runs_36 (lv_at hl 5 rfl) ?_
        refine lv_imul hx hb dX10_runs_38 ?_
        obtain ⟨g3, h⟩ := h
        refine A_X10_15 [] [] hx hb hK hh (v := (o_25.2.2 15) (2 * p5_25).toNatClampNeg) g3 rfl dX10_runs_39 ?_
        refine lv_iconst (v := 4) hx hb dX10_runs_40 (by decide) ?_
        refine lv_irem hx hb dX10_runs_41 (by decide) ?_
        refine lv_istore (lv' := [(6, .int (((o_25.2.2 15) (2 * p5_25).toNatClampNeg) - ((o_25.2.2 15) (2 * p5_25).toNatClampNeg) / 4 * 4)), (0, .ref (a 0)), (1, .int (x1)), (2, .int (x2)), (3, .int (x3)), (4, .int (p4_25)), (5, .int (p5_25))]) hx hb dX10_runs_42 hl (by decide) rfl (fun ls hl => ?_)
        refine lv_aload_n hx hb dX10_runs_44 rfl (lv_at hl 1 rfl) ?_
        refine lv_iload hx hb dX10_runs_45 (lv_at hl 0 rfl) ?_
        refine jn_elim h (fun J59 hJ59 h => ?_)
        have kJ59 : ∀ (z_59 : Int32) (o_59 : Ob) (H : Heap) (locs : List Loc) (ls : Array Slot), J59 z_59 o_59 → Wh D A s.heap ((List.flatten [bX10 a E o_59])) H locs → lv_has ls 7 [(0, .ref (a 0)), (1, .int (x1)), (2, .int (x2)), (3, .int (x3)), (4, .int (p4_25)), (5, .int (p5_25))] → W p l e ({ frames := 2, cells := 0, slots := 0, locals := 54 } : Room) s m args below meth c H locs 0 0 Q (F0 m 59 ls [.int (z_59), .ref (a 0)]) := by
          intro z_59 o_59 H locs ls h hh hl
          rw [hJ59] at h
          refine P_X10_195 [] [] hx hb hT hown hK hh dX10_runs_59 (fun H locs (hh : Wh D A s.heap ((List.flatten [bX10 a E ((o_59.1, (upd o_59.2.1 29 z_59), o_59.2.2))])) H locs) => ?_)
          refine lv_aload_n hx hb dX10_runs_62 rfl (lv_at hl 0 rfl) ?_
          refine lv_aload_n hx hb dX10_runs_63 rfl (lv_at hl 0 rfl) ?_
          refine G_X10_47 [] [] hx hb hT hown hK hh dX10_runs_64 ?_
          refine lv_iconst (v := 2) hx hb dX10_runs_67 (by decide) ?_
          refine lv_iload hx hb dX10_runs_68 (lv_at hl 5 rfl) ?_
          refine lv_imul hx hb dX10_runs_70 ?_
          refine lv_iconst (v := 1) hx hb dX10_runs_71 (by decide) ?_
          refine lv_iadd hx hb dX10_runs_72 ?_
          obtain ⟨g5, h⟩ := h
          refine A_X10_15 [] [] hx hb hK hh (v := (o_59.2.2 15) ((2 * p5_25) + 1).toNatClampNeg) g5 rfl dX10_runs_73 ?_
          refine P_X10_198 [] [] hx hb hT hown hK hh dX10_runs_74 (fun H locs (hh : Wh D A s.heap ((List.flatten [bX10 a E ((o_59.1, (upd (upd o_59.2.1 29 z_59) 30 (((o_59.2.2 15) ((2 * p5_25) + 1).toNatClampNeg))), o_59.2.2))])) H locs) => ?_)
          refine lv_aload_n hx hb dX10_runs_77 rfl (lv_at hl 0 rfl) ?_
          refine lv_aload_n hx hb dX10_runs_78 rfl (lv_at hl 0 rfl) ?_
          refine lv_iload_n hx hb dX10_runs_79 rfl (lv_at hl 1 rfl) ?_
          refine lv_iconst (v := 1) hx hb dX10_runs_80 (by decide) ?_
          refine lv_iconst (v := 0) hx hb dX10_runs_81 (by decide) ?_
          refine lv_aload_n hx hb dX10_runs_82 rfl (lv_at hl 0 rfl) ?_
          refine G_X10_195 [] [] hx hb hT hown hK hh (v := z_59) rfl dX10_runs_83 ?_
          refine lv_aload_n hx hb dX10_runs_86 rfl (lv_at hl 0 rfl) ?_
          refine G_X10_198 [] [] hx hb hT hown hK hh (v := ((o_59.2.2 15) ((2 * p5_25) + 1).toNatClampNeg)) rfl dX10_runs_87 ?_
          refine kI hh.ap0 hA (rnV hx hb hml hown hT hK hh.ap0 (c_X10_answer l D E a  ((o_59.1, (upd (upd o_59.2.1 29 z_59) 30 (((o_59.2.2 15) ((2 * p5_25) + 1).toNatClampNeg))), o_59.2.2)) x1 (1 : Int32) (0 : Int32) z_59 (((o_59.2.2 15) ((2 * p5_25) + 1).toNatClampNeg)) h _) mf_X10_answer kml_X10_201 ⟨rfl, rfl, Nat.le_of_ble_eq_true rfl, Nat.le_of_ble_eq_true rfl⟩ ⟨Nat.le_of_ble_eq_true rfl, Nat.le_of_ble_eq_true rfl⟩ 10 0 rfl rfl hl.1 rfl dX10_runs_90 (Nat.le_of_ble_eq_true rfl) rfl) (fun r6 o_7 H locs h hh => ?_)
          have hh : Wh D A s.heap ((List.flatten [bX10 a E o_7])) _ _ := hh.un0
          refine P_X10_205 [] [] hx hb hT hown hK hh dX10_runs_93 (fun H locs (hh : Wh D A s.heap ((List.flatten [bX10 a E ((o_7.1, (upd o_7.2.1 32 r6), o_7.2.2))])) H locs) => ?_)
          refine lv_aload_n hx hb dX10_runs_96 rfl (lv_at hl 0 rfl) ?_
          refine lv_aload_n hx hb dX10_runs_97 rfl (lv_at hl 0 rfl) ?_
          refine G_X10_185 [] [] hx hb hT hown hK hh (v := o_7.2.1 28) rfl dX10_runs_98 ?_
          refine jn_elim h (fun J123 hJ123 h => ?_)
          have kJ123 : ∀ (z_123 : Int32) (o_123 : Ob) (H : Heap) (locs : List Loc) (ls : Array Slot), J123 z_123 o_123 → Wh D A s.heap ((List.flatten [bX10 a E o_123])) H locs → lv_has ls 7 [(0, .ref (a 0)), (1, .int (x1)), (2, .int (x2)), (3, .int (x3)), (4, .int (p4_25)), (5, .int (p5_25))] → W p l e ({ frames := 2, cells := 0, slots := 0, locals := 54 } : Room) s m args below meth c H locs 0 0 Q (F0 m 123 ls [.int (z_123), .ref (a 0)]) := by
            intro z_123 o_123 H locs ls h hh hl
            rw [hJ123] at h
            refine P_X10_208 [] [] hx hb hT hown hK hh dX10_runs_123 (fun H locs (hh : Wh D A s.heap ((List.flatten [bX10 a E ((o_123.1, (upd o_123.2.1 31 z_123), o_123.2.2))])) H locs) => ?_)
            refine lv_iload hx hb dX10_runs_126 (lv_at hl 4 rfl) ?_
            refine jn_elim h (fun J147 hJ147 h => ?_)
            have kJ147 : ∀ (z_147 : Int32) (o_147 : Ob) (H : Heap) (locs : List Loc) (ls : Array Slot), J147 z_147 o_147 → Wh D A s.heap ((List.flatten [bX10 a E o_147])) H locs → lv_has ls 7 [(0, .ref (a 0)), (1, .int (x1)), (2, .int (x2)), (3, .int (x3)), (5, .int (p5_25))] → W p l e ({ frames := 2, cells := 0, slots := 0, locals := 54 } : Room) s m args below meth c H locs 0 0 Q (F0 m 147 ls [.int (z_147)]) := by
              intro z_147 o_147 H locs ls h hh hl
              rw [hJ147] at h
              refine lv_istore (lv' := [(4, .int (z_147)), (0, .ref (a 0)), (1, .int (x1)), (2, .int (x2)), (3, .int (x3)), (5, .int (p5_25))]) hx hb dX10_runs_147 hl (by decide) rfl (fun ls hl => ?_)
              refine lv_iinc (v := p5_25 + 1) (lv' := [(5, .int (p5_25 + 1)), (4, .int (z_147)), (0, .ref (a 0)), (1, .int (x1)), (2, .int (x2)), (3, .int (x3))]) hx hb dX10_runs_149 hl (k := 5) rfl (by rfl) (by decide) rfl (fun ls hl => ?_)
              refine lv_goto (tgt := 25) hx hb dX10_runs_152 (by decide) ?_
              exact ih z_147 (p5_25 + 1) o_147 _ _ _ h hh (lv_sub hl [2, 3, 4, 5, 1, 0] rfl)
            refine jn_elim h (fun J146 hJ146 h => ?_)
            have kJ146 : ∀ (o_146 : Ob) (H : Heap) (locs : List Loc) (ls : Array Slot), J146 o_146 → Wh D A s.heap ((List.flatten [bX10 a E o_146])) H locs → lv_has ls 7 [(0, .ref (a 0)), (1, .int (x1)), (2, .int (x2)), (3, .int (x3)), (5, .int (p5_25))] → W p l e ({ frames := 2, cells := 0, slots := 0, locals := 54 } : Room) s m args below meth c H locs 0 0 Q (F0 m 146 ls []) := by
              intro o_146 H locs ls h hh hl
              rw [hJ146] at h
              refine lv_iconst (v := 0) hx hb dX10_runs_146 (by decide) ?_
              exact kJ147 0 o_146 _ _ _ h hh (lv_sub hl [0, 1, 2, 3, 4] rfl)
            refine lv_if_eq (tgt := 146) hx hb dX10_runs_128 (by decide) (fun c11 => ?_) (fun c11 => ?_)
            · have h := h.1 c11
              exact kJ146 ((o_123.1, (upd o_123.2.1 31 z_123), o_123.2.2)) _ _ _ h hh (lv_sub hl [0, 1, 2, 3, 5] rfl)
            · have h := h.2 c11
              refine lv_aload_n hx hb dX10_runs_131 rfl (lv_at hl 0 rfl) ?_
              refine G_X10_208 [] [] hx hb hT hown hK hh (v := z_123) rfl dX10_runs_132 ?_
              refine lv_aload_n hx hb dX10_runs_135 rfl (lv_at hl 0 rfl) ?_
              refine G_X10_205 [] [] hx hb hT hown hK hh (v := o_123.2.1 32) rfl dX10_runs_136 ?_
              refine lv_icmp_ne (tgt := 146) hx hb dX10_runs_139 (by decide) (fun c12 => ?_) (fun c12 => ?_)
              · have h := h.1 c12
                exact kJ146 ((o_123.1, (upd o_123.2.1 31 z_123), o_123.2.2)) _ _ _ h hh (lv_sub hl [0, 1, 2, 3, 5] rfl)
              · have h := h.2 c12
                refine lv_iconst (v := 1) hx hb dX10_runs_142 (by decide) ?_
                refine lv_goto (tgt := 147) hx hb dX10_runs_143 (by decide) ?_
                exact kJ147 1 ((o_123.1, (upd o_123.2.1 31 z_123), o_123.2.2)) _ _ _ h hh (lv_sub hl [0, 1, 2, 3, 5] rfl)
          refine lv_if_eq (tgt := 108) hx hb dX10_runs_101 (by decide) (fun c8 => ?_) (fun c8 => ?_)
          · have h := h.1 c8
            refine lv_aload_n hx hb dX10_runs_108 rfl (lv_at hl 0 rfl) ?_
            refine lv_iload_n hx hb dX10_runs_109 rfl (lv_at hl 1 rfl) ?_
            refine lv_iconst (v := 0) hx hb dX10_runs_110 (by decide) ?_
            refine lv_iload_n hx hb dX10_runs_111 rfl (lv_at hl 2 rfl) ?_
            refine lv_aload_n hx hb dX10_runs_112 rfl (lv_at hl 0 rfl) ?_
            refine G_X10_195 [] [] hx hb hT hown hK hh (v := o_7.2.1 29) rfl dX10_runs_113 ?_
            refine lv_aload_n hx hb dX10_runs_116 rfl (lv_at hl 0 rfl) ?_
            refine G_X10_198 [] [] hx hb hT hown hK hh (v := o_7.2.1 30) rfl dX10_runs_117 ?_
            refine kI hh.ap0 hA (rnV hx hb hml hown hT hK hh.ap0 (c_X10_answer l D E a  ((o_7.1, (upd o_7.2.1 32 r6), o_7.2.2)) x1 (0 : Int32) x2 (o_7.2.1 29) (o_7.2.1 30) h _) mf_X10_answer kml_X10_201 ⟨rfl, rfl, Nat.le_of_ble_eq_true rfl, Nat.le_of_ble_eq_true rfl⟩ ⟨Nat.le_of_ble_eq_true rfl, Nat.le_of_ble_eq_true rfl⟩ 10 0 rfl rfl hl.1 rfl dX10_runs_120 (Nat.le_of_ble_eq_true rfl) rfl) (fun r9 o_10 H locs h hh => ?_)
            have hh : Wh D A s.heap ((List.flatten [bX10 a E o_10])) _ _ := hh.un0
            exact kJ123 r9 o_10 _ _ _ h hh (lv_sub hl [0, 1, 2, 3, 4, 5] rfl)
          · have h := h.2 c8
            refine lv_iconst (v := 0) hx hb dX10_runs_104 (by decide) ?_
            refine lv_goto (tgt := 123) hx hb dX10_runs_105 (by decide) ?_
            exact kJ123 0 ((o_7.1, (upd o_7.2.1 32 r6), o_7.2.2)) _ _ _ h hh (lv_sub hl [0, 1, 2, 3, 4, 5] rfl)
        refine lv_if_ge (tgt := 57) hx hb dX10_runs_47 (by decide) (fun c4 => ?_) (fun c4 => ?_)
        · have h := h.1 c4
          refine lv_iload hx hb dX10_runs_57 (lv_at hl 0 rfl) ?_
          exact kJ59 (((o_25.2.2 15) (2 * p5_25).toNatClampNeg) - ((o_25.2.2 15) (2 * p5_25).toNatClampNeg) / 4 * 4) o_25 _ _ _ h hh (lv_sub hl [1, 2, 3, 4, 5, 6] rfl)
        · have h := h.2 c4
          refine lv_iload hx hb dX10_runs_50 (lv_at hl 0 rfl) ?_
          refine lv_iconst (v := 4) hx hb dX10_runs_52 (by decide) ?_
          refine lv_iadd hx hb dX10_runs_53 ?_
          refine lv_goto (tgt := 59) hx hb dX10_runs_54 (by decide) ?_
          exact kJ59 ((((o_25.2.2 15) (2 * p5_25).toNatClampNeg) - ((o_25.2.2 15) (2 * p5_25).toNatClampNeg) / 4 * 4) + 4) o_25 _ _ _ h hh (lv_sub hl [1, 2, 3, 4, 5, 6] rfl)
  obtain ⟨n, h⟩ := h
  refine hw25   n 1 0 ((o.1, (upd o.2.1 28 ((0 : Int32))), (sa (sa o.2.2 27 (upd (o.2.2 27) (0 : Int32).toNatClampNeg (0 : Int32))) 27 (upd (upd (o.2.2 27) (0 : Int32).toNatClampNeg (0 : Int32)) (1 : Int32).toNatClampNeg (0 : Int32))))) _ _ _ h hh (lv_sub hl [2, 3, 4, 5, 1, 0] rfl)

def w_X10_machine (x1 : Int32) (x2 : Int32) (o : Ob) (Post : Int32 → Ob → Prop) : Prop := w_X10_runs  x1 x2 ((o.2.1 14) / 2) o (fun (r1 : Int32) (o_2 : Ob) => (((o_2.2.1 28) = 0) → w_X10_truth  r1  (fun (r4 : Int32) => Post r4 o_2)) ∧ (¬ ((o_2.2.1 28) = 0) → Post ((-13)) o_2))
set_option maxRecDepth 100000 in
set_option maxHeartbeats 4000000 in
theorem c_X10_machine (l : Launch) (D : va_G) (E : Nat → ClassId) (a : Nat → Nat)  (o : Ob) (x1 : Int32) (x2 : Int32) {Post : Int32 → Ob → Prop} (h : w_X10_machine x1 x2 o Post) : CtI l yX10_machine cX10_machine 4 .int ({ frames := 3, cells := 0, slots := 0, locals := 80 } : Room) D E [.ref (a 0), .int (x1), .int (x2)] (List.flatten [bX10 a E o]) (fun u : Ob => List.flatten [bX10 a E u]) Post 0 0 := by
  refine enI (by decide +kernel) (Nat.le_of_ble_eq_true rfl) ?_
  intro p e s m args below meth c Q A ls hx hb hml hown hT hK hA hret hh hl
  have hl : lv_has ls 4 [(0, .ref (a 0)), (1, .int (x1)), (2, .int (x2))] := hl
  unfold w_X10_machine at h
  refine lv_aload_n hx hb dX10_machine_0 rfl (lv_at hl 0 rfl) ?_
  refine lv_iload_n hx hb dX10_machine_1 rfl (lv_at hl 1 rfl) ?_
  refine lv_iload_n hx hb dX10_machine_2 rfl (lv_at hl 2 rfl) ?_
  refine lv_aload_n hx hb dX10_machine_3 rfl (lv_at hl 0 rfl) ?_
  refine G_X10_147 [] [] hx hb hT hown hK hh (v := o.2.1 14) rfl dX10_machine_4 ?_
  refine lv_iconst (v := 2) hx hb dX10_machine_7 (by decide) ?_
  refine lv_idiv hx hb dX10_machine_8 (by decide) ?_
  refine kI hh.ap0 hA (rnV hx hb hml hown hT hK hh.ap0 (c_X10_runs l D E a  o x1 x2 ((o.2.1 14) / 2) h _) mf_X10_runs kml_X10_211 ⟨rfl, rfl, Nat.le_of_ble_eq_true rfl, Nat.le_of_ble_eq_true rfl⟩ ⟨Nat.le_of_ble_eq_true rfl, Nat.le_of_ble_eq_true rfl⟩ 10 0 rfl rfl hl.1 rfl dX10_machine_9 (Nat.le_of_ble_eq_true rfl) rfl) (fun r1 o_2 H locs h hh => ?_)
  have hh : Wh D A s.heap ((List.flatten [bX10 a E o_2])) _ _ := hh.un0
  refine lv_istore_n (lv' := [(3, .int (r1)), (0, .ref (a 0)), (1, .int (x1)), (2, .int (x2))]) hx hb dX10_machine_12 rfl hl (by decide) rfl (fun ls hl => ?_)
  refine lv_aload_n hx hb dX10_machine_13 rfl (lv_at hl 1 rfl) ?_
  refine G_X10_185 [] [] hx hb hT hown hK hh (v := o_2.2.1 28) rfl dX10_machine_14 ?_
  refine lv_if_eq (tgt := 25) hx hb dX10_machine_17 (by decide) (fun c3 => ?_) (fun c3 => ?_)
  · have h := h.1 c3
    refine lv_iload_n hx hb dX10_machine_25 rfl (lv_at hl 0 rfl) ?_
    refine kI hh.none hA (rnS hx hb hml hown hT hK hh.none (c_X10_truth l D E    r1 h _) mf_X10_truth kml_X10_181 ⟨rfl, rfl, Nat.le_of_ble_eq_true rfl, Nat.le_of_ble_eq_true rfl⟩ ⟨Nat.le_of_ble_eq_true rfl, Nat.le_of_ble_eq_true rfl⟩ hl.1 rfl dX10_machine_26 (Nat.le_of_ble_eq_true rfl) rfl) (fun r4 u H locs h hh => ?_)
    have hh : Wh D A s.heap ((List.flatten [bX10 a E o_2])) _ _ := hh.unone
    exact hret _ _ _ _ _ o_2 dX10_machine_29 rfl h hh
  · have h := h.2 c3
    refine lv_bipush (v := (-13)) hx hb dX10_machine_20 (by decide) ?_
    refine lv_goto (tgt := 29) hx hb dX10_machine_22 (by decide) ?_
    exact hret _ _ _ _ _ o_2 dX10_machine_29 rfl h hh

def w_X10_asked (x1 : Int32) (o : Ob) (Post : Int32 → Ob → Prop) : Prop := vp_in x1 40 ∧ (vp_in x1 40 ∧ (vp_in x1 40 ∧ (((((o.2.2 22) x1.toNatClampNeg) = 0) → w_X10_sumOfLeaves   o (fun (r4 : Int32) (o_5 : Ob) => jn (fun J93 : Int32 → Ob → Prop => ((((o.2.2 23) x1.toNatClampNeg) ≤ r4) → J93 0 o_5) ∧ (¬ (((o.2.2 23) x1.toNatClampNeg) ≤ r4) → J93 1 o_5)) (fun (z_93 : Int32) (o_93 : Ob) => w_X10_truth  z_93  (fun (r7 : Int32) => Post r7 o_93)))) ∧ ((((o.2.2 22) x1.toNatClampNeg) = 1) → w_X10_atLeast  ((o.2.2 23) x1.toNatClampNeg) o (fun (r9 : Int32) (o_10 : Ob) => Post r9 o_10)) ∧ ((((o.2.2 22) x1.toNatClampNeg) = 2) → jn (fun J116 : Int32 → Ob → Prop => ((((o.2.2 23) x1.toNatClampNeg) ≤ (o.2.1 14)) → J116 0 o) ∧ (¬ (((o.2.2 23) x1.toNatClampNeg) ≤ (o.2.1 14)) → J116 1 o)) (fun (z_116 : Int32) (o_116 : Ob) => w_X10_truth  z_116  (fun (r13 : Int32) => Post r13 o_116))) ∧ ((((o.2.2 22) x1.toNatClampNeg) = 3) → w_X10_order  (0 : Int32) o (fun (r15 : Int32) (o_16 : Ob) => Post r15 o_16)) ∧ ((((o.2.2 22) x1.toNatClampNeg) = 4) → w_X10_order  (1 : Int32) o (fun (r18 : Int32) (o_19 : Ob) => Post r18 o_19)) ∧ ((((o.2.2 22) x1.toNatClampNeg) = 5) → ((¬ ((o.2.2 23) x1.toNatClampNeg) = 0) → w_X10_sumOfLeaves   o (fun (r22 : Int32) (o_23 : Ob) => ¬ ((o.2.2 23) x1.toNatClampNeg) = 0 ∧ (jn (fun J155 : Int32 → Ob → Prop => ((¬ (r22 - r22 / ((o.2.2 23) x1.toNatClampNeg) * ((o.2.2 23) x1.toNatClampNeg)) = 0) → J155 0 o_23) ∧ (((r22 - r22 / ((o.2.2 23) x1.toNatClampNeg) * ((o.2.2 23) x1.toNatClampNeg)) = 0) → J155 1 o_23)) (fun (z_155 : Int32) (o_155 : Ob) => w_X10_truth  z_155  (fun (r26 : Int32) => Post r26 o_155))))) ∧ ((((o.2.2 23) x1.toNatClampNeg) = 0) → Post ((-11)) o)) ∧ ((((o.2.2 22) x1.toNatClampNeg) = 6) → w_X10_quotients  ((o.2.2 23) x1.toNatClampNeg) o (fun (r28 : Int32) (o_29 : Ob) => Post r28 o_29)) ∧ ((((o.2.2 22) x1.toNatClampNeg) = 7) → w_X10_places  ((o.2.2 23) x1.toNatClampNeg) o (fun (r31 : Int32) (o_32 : Ob) => Post r31 o_32)) ∧ ((((o.2.2 22) x1.toNatClampNeg) = 8) → vp_in ((o.2.2 23) x1.toNatClampNeg) 40 ∧ (((¬ ((o.2.2 25) ((o.2.2 23) x1.toNatClampNeg).toNatClampNeg) = 1) → vp_in ((o.2.2 23) x1.toNatClampNeg) 40 ∧ (Post ((o.2.2 25) ((o.2.2 23) x1.toNatClampNeg).toNatClampNeg) o)) ∧ ((((o.2.2 25) ((o.2.2 23) x1.toNatClampNeg).toNatClampNeg) = 1) → vp_in ((o.2.2 24) x1.toNatClampNeg) 40 ∧ (Post ((o.2.2 25) ((o.2.2 24) x1.toNatClampNeg).toNatClampNeg) o)))) ∧ ((((o.2.2 22) x1.toNatClampNeg) = 9) → vp_in ((o.2.2 23) x1.toNatClampNeg) 40 ∧ (((¬ ((o.2.2 25) ((o.2.2 23) x1.toNatClampNeg).toNatClampNeg) = 0) → vp_in ((o.2.2 23) x1.toNatClampNeg) 40 ∧ (Post ((o.2.2 25) ((o.2.2 23) x1.toNatClampNeg).toNatClampNeg) o)) ∧ ((((o.2.2 25) ((o.2.2 23) x1.toNatClampNeg).toNatClampNeg) = 0) → vp_in ((o.2.2 24) x1.toNatClampNeg) 40 ∧ (Post ((o.2.2 25) ((o.2.2 24) x1.toNatClampNeg).toNatClampNeg) o)))) ∧ ((((o.2.2 22) x1.toNatClampNeg) = 10) → vp_in ((o.2.2 23) x1.toNatClampNeg) 40 ∧ (((0 ≤ ((o.2.2 25) ((o.2.2 23) x1.toNatClampNeg).toNatClampNeg)) → vp_in ((o.2.2 23) x1.toNatClampNeg) 40 ∧ (Post (1 - ((o.2.2 25) ((o.2.2 23) x1.toNatClampNeg).toNatClampNeg)) o)) ∧ (¬ (0 ≤ ((o.2.2 25) ((o.2.2 23) x1.toNatClampNeg).toNatClampNeg)) → vp_in ((o.2.2 23) x1.toNatClampNeg) 40 ∧ (Post ((o.2.2 25) ((o.2.2 23) x1.toNatClampNeg).toNatClampNeg) o)))) ∧ ((¬ ((o.2.2 22) x1.toNatClampNeg) = 0 ∧ ¬ ((o.2.2 22) x1.toNatClampNeg) = 1 ∧ ¬ ((o.2.2 22) x1.toNatClampNeg) = 2 ∧ ¬ ((o.2.2 22) x1.toNatClampNeg) = 3 ∧ ¬ ((o.2.2 22) x1.toNatClampNeg) = 4 ∧ ¬ ((o.2.2 22) x1.toNatClampNeg) = 5 ∧ ¬ ((o.2.2 22) x1.toNatClampNeg) = 6 ∧ ¬ ((o.2.2 22) x1.toNatClampNeg) = 7 ∧ ¬ ((o.2.2 22) x1.toNatClampNeg) = 8 ∧ ¬ ((o.2.2 22) x1.toNatClampNeg) = 9 ∧ ¬ ((o.2.2 22) x1.toNatClampNeg) = 10) → w_X10_machine  ((o.2.2 23) x1.toNatClampNeg) ((o.2.2 24) x1.toNatClampNeg) o (fun (r49 : Int32) (o_50 : Ob) => Post r49 o_50)))))
set_option maxRecDepth 100000 in
set_option maxHeartbeats 4000000 in
theorem c_X10_asked (l : Launch) (D : va_G) (E : Nat → ClassId) (a : Nat → Nat)  (o : Ob) (x1 : Int32) {Post : Int32 → Ob → Prop} (h : w_X10_asked x1 o Post) : CtI l yX10_asked cX10_asked 4 .int ({ frames := 4, cells := 0, slots := 0, locals := 103 } : Room) D E [.ref (a 0), .int (x1)] (List.flatten [bX10 a E o]) (fun u : Ob => List.flatten [bX10 a E u]) Post 0 0 := by
  refine enI (by decide +kernel) (Nat.le_of_ble_eq_true rfl) ?_
  intro p e s m args below meth c Q A ls hx hb hml hown hT hK hA hret hh hl
  have hl : lv_has ls 4 [(0, .ref (a 0)), (1, .int (x1))] := hl
  unfold w_X10_asked at h
  refine lv_aload_n hx hb dX10_asked_0 rfl (lv_at hl 0 rfl) ?_
  refine G_X10_65 [] [] hx hb hT hown hK hh dX10_asked_1 ?_
  refine lv_iload_n hx hb dX10_asked_4 rfl (lv_at hl 1 rfl) ?_
  obtain ⟨g1, h⟩ := h
  refine A_X10_23 [] [] hx hb hK hh (v := (o.2.2 23) x1.toNatClampNeg) g1 rfl dX10_asked_5 ?_
  refine lv_istore_n (lv' := [(2, .int ((o.2.2 23) x1.toNatClampNeg)), (0, .ref (a 0)), (1, .int (x1))]) hx hb dX10_asked_6 rfl hl (by decide) rfl (fun ls hl => ?_)
  refine lv_aload_n hx hb dX10_asked_7 rfl (lv_at hl 1 rfl) ?_
  refine G_X10_68 [] [] hx hb hT hown hK hh dX10_asked_8 ?_
  refine lv_iload_n hx hb dX10_asked_11 rfl (lv_at hl 2 rfl) ?_
  obtain ⟨g2, h⟩ := h
  refine A_X10_24 [] [] hx hb hK hh (v := (o.2.2 24) x1.toNatClampNeg) g2 rfl dX10_asked_12 ?_
  refine lv_istore_n (lv' := [(3, .int ((o.2.2 24) x1.toNatClampNeg)), (2, .int ((o.2.2 23) x1.toNatClampNeg)), (0, .ref (a 0)), (1, .int (x1))]) hx hb dX10_asked_13 rfl hl (by decide) rfl (fun ls hl => ?_)
  refine lv_aload_n hx hb dX10_asked_14 rfl (lv_at hl 2 rfl) ?_
  refine G_X10_62 [] [] hx hb hT hown hK hh dX10_asked_15 ?_
  refine lv_iload_n hx hb dX10_asked_18 rfl (lv_at hl 3 rfl) ?_
  obtain ⟨g3, h⟩ := h
  refine A_X10_22 [] [] hx hb hK hh (v := (o.2.2 22) x1.toNatClampNeg) g3 rfl dX10_asked_19 ?_
  by_cases c8 : ((o.2.2 22) x1.toNatClampNeg) = 0
  · have h := h.1 c8
    refine lv_tableIn (off := 60) (tgt := 80) hx hb dX10_asked_20 (by rw [c8]; decide) (by rw [c8]; decide) (by rw [c8]; rfl) (by decide) ?_
    refine lv_aload_n hx hb dX10_asked_80 rfl (lv_at hl 2 rfl) ?_
    refine kI hh.ap0 hA (rnV hx hb hml hown hT hK hh.ap0 (c_X10_sumOfLeaves l D E a  o  h _) mf_X10_sumOfLeaves kml_X10_174 ⟨rfl, rfl, Nat.le_of_ble_eq_true rfl, Nat.le_of_ble_eq_true rfl⟩ ⟨Nat.le_of_ble_eq_true rfl, Nat.le_of_ble_eq_true rfl⟩ 10 0 rfl rfl hl.1 rfl dX10_asked_81 (Nat.le_of_ble_eq_true rfl) rfl) (fun r4 o_5 H locs h hh => ?_)
    have hh : Wh D A s.heap ((List.flatten [bX10 a E o_5])) _ _ := hh.un0
    refine lv_iload_n hx hb dX10_asked_84 rfl (lv_at hl 1 rfl) ?_
    refine jn_elim h (fun J93 hJ93 h => ?_)
    have kJ93 : ∀ (z_93 : Int32) (o_93 : Ob) (H : Heap) (locs : List Loc) (ls : Array Slot), J93 z_93 o_93 → Wh D A s.heap ((List.flatten [bX10 a E o_93])) H locs → lv_has ls 4 [] → W p l e ({ frames := 4, cells := 0, slots := 0, locals := 103 } : Room) s m args below meth c H locs 0 0 Q (F0 m 93 ls [.int (z_93)]) := by
      intro z_93 o_93 H locs ls h hh hl
      rw [hJ93] at h
      refine kI hh.none hA (rnS hx hb hml hown hT hK hh.none (c_X10_truth l D E    z_93 h _) mf_X10_truth kml_X10_181 ⟨rfl, rfl, Nat.le_of_ble_eq_true rfl, Nat.le_of_ble_eq_true rfl⟩ ⟨Nat.le_of_ble_eq_true rfl, Nat.le_of_ble_eq_true rfl⟩ hl.1 rfl dX10_asked_93 (Nat.le_of_ble_eq_true rfl) rfl) (fun r7 u H locs h hh => ?_)
      have hh : Wh D A s.heap ((List.flatten [bX10 a E o_93])) _ _ := hh.unone
      exact hret _ _ _ _ _ o_93 dX10_asked_96 rfl h hh
    refine lv_icmp_ge (tgt := 92) hx hb dX10_asked_85 (by decide) (fun c6 => ?_) (fun c6 => ?_)
    · have h := h.1 c6
      refine lv_iconst (v := 0) hx hb dX10_asked_92 (by decide) ?_
      exact kJ93 0 o_5 _ _ _ h hh (lv_sub hl [] rfl)
    · have h := h.2 c6
      refine lv_iconst (v := 1) hx hb dX10_asked_88 (by decide) ?_
      refine lv_goto (tgt := 93) hx hb dX10_asked_89 (by decide) ?_
      exact kJ93 1 o_5 _ _ _ h hh (lv_sub hl [] rfl)
  · by_cases c11 : ((o.2.2 22) x1.toNatClampNeg) = 1
    · have h := h.2.1 c11
      refine lv_tableIn (off := 77) (tgt := 97) hx hb dX10_asked_20 (by rw [c11]; decide) (by rw [c11]; decide) (by rw [c11]; rfl) (by decide) ?_
      refine lv_aload_n hx hb dX10_asked_97 rfl (lv_at hl 2 rfl) ?_
      refine lv_iload_n hx hb dX10_asked_98 rfl (lv_at hl 1 rfl) ?_
      refine kI hh.ap0 hA (rnV hx hb hml hown hT hK hh.ap0 (c_X10_atLeast l D E a  o ((o.2.2 23) x1.toNatClampNeg) h _) mf_X10_atLeast kml_X10_214 ⟨rfl, rfl, Nat.le_of_ble_eq_true rfl, Nat.le_of_ble_eq_true rfl⟩ ⟨Nat.le_of_ble_eq_true rfl, Nat.le_of_ble_eq_true rfl⟩ 10 0 rfl rfl hl.1 rfl dX10_asked_99 (Nat.le_of_ble_eq_true rfl) rfl) (fun r9 o_10 H locs h hh => ?_)
      have hh : Wh D A s.heap ((List.flatten [bX10 a E o_10])) _ _ := hh.un0
      exact hret _ _ _ _ _ o_10 dX10_asked_102 rfl h hh
    · by_cases c14 : ((o.2.2 22) x1.toNatClampNeg) = 2
      · have h := h.2.2.1 c14
        refine lv_tableIn (off := 83) (tgt := 103) hx hb dX10_asked_20 (by rw [c14]; decide) (by rw [c14]; decide) (by rw [c14]; rfl) (by decide) ?_
        refine lv_aload_n hx hb dX10_asked_103 rfl (lv_at hl 2 rfl) ?_
        refine G_X10_147 [] [] hx hb hT hown hK hh (v := o.2.1 14) rfl dX10_asked_104 ?_
        refine lv_iload_n hx hb dX10_asked_107 rfl (lv_at hl 1 rfl) ?_
        refine jn_elim h (fun J116 hJ116 h => ?_)
        have kJ116 : ∀ (z_116 : Int32) (o_116 : Ob) (H : Heap) (locs : List Loc) (ls : Array Slot), J116 z_116 o_116 → Wh D A s.heap ((List.flatten [bX10 a E o_116])) H locs → lv_has ls 4 [] → W p l e ({ frames := 4, cells := 0, slots := 0, locals := 103 } : Room) s m args below meth c H locs 0 0 Q (F0 m 116 ls [.int (z_116)]) := by
          intro z_116 o_116 H locs ls h hh hl
          rw [hJ116] at h
          refine kI hh.none hA (rnS hx hb hml hown hT hK hh.none (c_X10_truth l D E    z_116 h _) mf_X10_truth kml_X10_181 ⟨rfl, rfl, Nat.le_of_ble_eq_true rfl, Nat.le_of_ble_eq_true rfl⟩ ⟨Nat.le_of_ble_eq_true rfl, Nat.le_of_ble_eq_true rfl⟩ hl.1 rfl dX10_asked_116 (Nat.le_of_ble_eq_true rfl) rfl) (fun r13 u H locs h hh => ?_)
          have hh : Wh D A s.heap ((List.flatten [bX10 a E o_116])) _ _ := hh.unone
          exact hret _ _ _ _ _ o_116 dX10_asked_119 rfl h hh
        refine lv_icmp_ge (tgt := 115) hx hb dX10_asked_108 (by decide) (fun c12 => ?_) (fun c12 => ?_)
        · have h := h.1 c12
          refine lv_iconst (v := 0) hx hb dX10_asked_115 (by decide) ?_
          exact kJ116 0 o _ _ _ h hh (lv_sub hl [] rfl)
        · have h := h.2 c12
          refine lv_iconst (v := 1) hx hb dX10_asked_111 (by decide) ?_
          refine lv_goto (tgt := 116) hx hb dX10_asked_112 (by decide) ?_
          exact kJ116 1 o _ _ _ h hh (lv_sub hl [] rfl)
      · by_cases c17 : ((o.2.2 22) x1.toNatClampNeg) = 3
        · have h := h.2.2.2.1 c17
          refine lv_tableIn (off := 100) (tgt := 120) hx hb dX10_asked_20 (by rw [c17]; decide) (by rw [c17]; decide) (by rw [c17]; rfl) (by decide) ?_
          refine lv_aload_n hx hb dX10_asked_120 rfl (lv_at hl 2 rfl) ?_
          refine lv_iconst (v := 0) hx hb dX10_asked_121 (by decide) ?_
          refine kI hh.ap0 hA (rnV hx hb hml hown hT hK hh.ap0 (c_X10_order l D E a  o (0 : Int32) h _) mf_X10_order kml_X10_217 ⟨rfl, rfl, Nat.le_of_ble_eq_true rfl, Nat.le_of_ble_eq_true rfl⟩ ⟨Nat.le_of_ble_eq_true rfl, Nat.le_of_ble_eq_true rfl⟩ 10 0 rfl rfl hl.1 rfl dX10_asked_122 (Nat.le_of_ble_eq_true rfl) rfl) (fun r15 o_16 H locs h hh => ?_)
          have hh : Wh D A s.heap ((List.flatten [bX10 a E o_16])) _ _ := hh.un0
          exact hret _ _ _ _ _ o_16 dX10_asked_125 rfl h hh
        · by_cases c20 : ((o.2.2 22) x1.toNatClampNeg) = 4
          · have h := h.2.2.2.2.1 c20
            refine lv_tableIn (off := 106) (tgt := 126) hx hb dX10_asked_20 (by rw [c20]; decide) (by rw [c20]; decide) (by rw [c20]; rfl) (by decide) ?_
            refine lv_aload_n hx hb dX10_asked_126 rfl (lv_at hl 2 rfl) ?_
            refine lv_iconst (v := 1) hx hb dX10_asked_127 (by decide) ?_
            refine kI hh.ap0 hA (rnV hx hb hml hown hT hK hh.ap0 (c_X10_order l D E a  o (1 : Int32) h _) mf_X10_order kml_X10_217 ⟨rfl, rfl, Nat.le_of_ble_eq_true rfl, Nat.le_of_ble_eq_true rfl⟩ ⟨Nat.le_of_ble_eq_true rfl, Nat.le_of_ble_eq_true rfl⟩ 10 0 rfl rfl hl.1 rfl dX10_asked_128 (Nat.le_of_ble_eq_true rfl) rfl) (fun r18 o_19 H locs h hh => ?_)
            have hh : Wh D A s.heap ((List.flatten [bX10 a E o_19])) _ _ := hh.un0
            exact hret _ _ _ _ _ o_19 dX10_asked_131 rfl h hh
          · by_cases c27 : ((o.2.2 22) x1.toNatClampNeg) = 5
            · have h := h.2.2.2.2.2.1 c27
              refine lv_tableIn (off := 112) (tgt := 132) hx hb dX10_asked_20 (by rw [c27]; decide) (by rw [c27]; decide) (by rw [c27]; rfl) (by decide) ?_
              refine lv_iload_n hx hb dX10_asked_132 rfl (lv_at hl 1 rfl) ?_
              refine lv_if_ne (tgt := 141) hx hb dX10_asked_133 (by decide) (fun c21 => ?_) (fun c21 => ?_)
              · have h := h.1 c21
                refine lv_aload_n hx hb dX10_asked_141 rfl (lv_at hl 2 rfl) ?_
                refine kI hh.ap0 hA (rnV hx hb hml hown hT hK hh.ap0 (c_X10_sumOfLeaves l D E a  o  h _) mf_X10_sumOfLeaves kml_X10_174 ⟨rfl, rfl, Nat.le_of_ble_eq_true rfl, Nat.le_of_ble_eq_true rfl⟩ ⟨Nat.le_of_ble_eq_true rfl, Nat.le_of_ble_eq_true rfl⟩ 10 0 rfl rfl hl.1 rfl dX10_asked_142 (Nat.le_of_ble_eq_true rfl) rfl) (fun r22 o_23 H locs h hh => ?_)
                have hh : Wh D A s.heap ((List.flatten [bX10 a E o_23])) _ _ := hh.un0
                refine lv_iload_n hx hb dX10_asked_145 rfl (lv_at hl 1 rfl) ?_
                obtain ⟨g24, h⟩ := h
                refine lv_irem hx hb dX10_asked_146 g24 ?_
                refine jn_elim h (fun J155 hJ155 h => ?_)
                have kJ155 : ∀ (z_155 : Int32) (o_155 : Ob) (H : Heap) (locs : List Loc) (ls : Array Slot), J155 z_155 o_155 → Wh D A s.heap ((List.flatten [bX10 a E o_155])) H locs → lv_has ls 4 [] → W p l e ({ frames := 4, cells := 0, slots := 0, locals := 103 } : Room) s m args below meth c H locs 0 0 Q (F0 m 155 ls [.int (z_155)]) := by
                  intro z_155 o_155 H locs ls h hh hl
                  rw [hJ155] at h
                  refine kI hh.none hA (rnS hx hb hml hown hT hK hh.none (c_X10_truth l D E    z_155 h _) mf_X10_truth kml_X10_181 ⟨rfl, rfl, Nat.le_of_ble_eq_true rfl, Nat.le_of_ble_eq_true rfl⟩ ⟨Nat.le_of_ble_eq_true rfl, Nat.le_of_ble_eq_true rfl⟩ hl.1 rfl dX10_asked_155 (Nat.le_of_ble_eq_true rfl) rfl) (fun r26 u H locs h hh => ?_)
                  have hh : Wh D A s.heap ((List.flatten [bX10 a E o_155])) _ _ := hh.unone
                  exact hret _ _ _ _ _ o_155 dX10_asked_158 rfl h hh
                refine lv_if_ne (tgt := 154) hx hb dX10_asked_147 (by decide) (fun c25 => ?_) (fun c25 => ?_)
                · have h := h.1 c25
                  refine lv_iconst (v := 0) hx hb dX10_asked_154 (by decide) ?_
                  exact kJ155 0 o_23 _ _ _ h hh (lv_sub hl [] rfl)
                · have h := h.2 c25
                  refine lv_iconst (v := 1) hx hb dX10_asked_150 (by decide) ?_
                  refine lv_goto (tgt := 155) hx hb dX10_asked_151 (by decide) ?_
                  exact kJ155 1 o_23 _ _ _ h hh (lv_sub hl [] rfl)
              · have h := h.2 c21
                refine lv_bipush (v := (-11)) hx hb dX10_asked_136 (by decide) ?_
                refine lv_goto (tgt := 158) hx hb dX10_asked_138 (by decide) ?_
                exact hret _ _ _ _ _ o dX10_asked_158 rfl h hh
            · by_cases c30 : ((o.2.2 22) x1.toNatClampNeg) = 6
              · have h := h.2.2.2.2.2.2.1 c30
                refine lv_tableIn (off := 139) (tgt := 159) hx hb dX10_asked_20 (by rw [c30]; decide) (by rw [c30]; decide) (by rw [c30]; rfl) (by decide) ?_
                refine lv_aload_n hx hb dX10_asked_159 rfl (lv_at hl 2 rfl) ?_
                refine lv_iload_n hx hb dX10_asked_160 rfl (lv_at hl 1 rfl) ?_
                refine kI hh.ap0 hA (rnV hx hb hml hown hT hK hh.ap0 (c_X10_quotients l D E a  o ((o.2.2 23) x1.toNatClampNeg) h _) mf_X10_quotients kml_X10_220 ⟨rfl, rfl, Nat.le_of_ble_eq_true rfl, Nat.le_of_ble_eq_true rfl⟩ ⟨Nat.le_of_ble_eq_true rfl, Nat.le_of_ble_eq_true rfl⟩ 10 0 rfl rfl hl.1 rfl dX10_asked_161 (Nat.le_of_ble_eq_true rfl) rfl) (fun r28 o_29 H locs h hh => ?_)
                have hh : Wh D A s.heap ((List.flatten [bX10 a E o_29])) _ _ := hh.un0
                exact hret _ _ _ _ _ o_29 dX10_asked_164 rfl h hh
              · by_cases c33 : ((o.2.2 22) x1.toNatClampNeg) = 7
                · have h := h.2.2.2.2.2.2.2.1 c33
                  refine lv_tableIn (off := 145) (tgt := 165) hx hb dX10_asked_20 (by rw [c33]; decide) (by rw [c33]; decide) (by rw [c33]; rfl) (by decide) ?_
                  refine lv_aload_n hx hb dX10_asked_165 rfl (lv_at hl 2 rfl) ?_
                  refine lv_iload_n hx hb dX10_asked_166 rfl (lv_at hl 1 rfl) ?_
                  refine kI hh.ap0 hA (rnV hx hb hml hown hT hK hh.ap0 (c_X10_places l D E a  o ((o.2.2 23) x1.toNatClampNeg) h _) mf_X10_places kml_X10_223 ⟨rfl, rfl, Nat.le_of_ble_eq_true rfl, Nat.le_of_ble_eq_true rfl⟩ ⟨Nat.le_of_ble_eq_true rfl, Nat.le_of_ble_eq_true rfl⟩ 10 0 rfl rfl hl.1 rfl dX10_asked_167 (Nat.le_of_ble_eq_true rfl) rfl) (fun r31 o_32 H locs h hh => ?_)
                  have hh : Wh D A s.heap ((List.flatten [bX10 a E o_32])) _ _ := hh.un0
                  exact hret _ _ _ _ _ o_32 dX10_asked_170 rfl h hh
                · by_cases c38 : ((o.2.2 22) x1.toNatClampNeg) = 8
                  · have h := h.2.2.2.2.2.2.2.2.1 c38
                    refine lv_tableIn (off := 151) (tgt := 171) hx hb dX10_asked_20 (by rw [c38]; decide) (by rw [c38]; decide) (by rw [c38]; rfl) (by decide) ?_
                    refine lv_aload_n hx hb dX10_asked_171 rfl (lv_at hl 2 rfl) ?_
                    refine G_X10_71 [] [] hx hb hT hown hK hh dX10_asked_172 ?_
                    refine lv_iload_n hx hb dX10_asked_175 rfl (lv_at hl 1 rfl) ?_
                    obtain ⟨g34, h⟩ := h
                    refine A_X10_25 [] [] hx hb hK hh (v := (o.2.2 25) ((o.2.2 23) x1.toNatClampNeg).toNatClampNeg) g34 rfl dX10_asked_176 ?_
                    refine lv_iconst (v := 1) hx hb dX10_asked_177 (by decide) ?_
                    refine lv_icmp_ne (tgt := 190) hx hb dX10_asked_178 (by decide) (fun c35 => ?_) (fun c35 => ?_)
                    · have h := h.1 c35
                      refine lv_aload_n hx hb dX10_asked_190 rfl (lv_at hl 2 rfl) ?_
                      refine G_X10_71 [] [] hx hb hT hown hK hh dX10_asked_191 ?_
                      refine lv_iload_n hx hb dX10_asked_194 rfl (lv_at hl 1 rfl) ?_
                      obtain ⟨g36, h⟩ := h
                      refine A_X10_25 [] [] hx hb hK hh (v := (o.2.2 25) ((o.2.2 23) x1.toNatClampNeg).toNatClampNeg) g36 rfl dX10_asked_195 ?_
                      exact hret _ _ _ _ _ o dX10_asked_196 rfl h hh
                    · have h := h.2 c35
                      refine lv_aload_n hx hb dX10_asked_181 rfl (lv_at hl 2 rfl) ?_
                      refine G_X10_71 [] [] hx hb hT hown hK hh dX10_asked_182 ?_
                      refine lv_iload_n hx hb dX10_asked_185 rfl (lv_at hl 0 rfl) ?_
                      obtain ⟨g37, h⟩ := h
                      refine A_X10_25 [] [] hx hb hK hh (v := (o.2.2 25) ((o.2.2 24) x1.toNatClampNeg).toNatClampNeg) g37 rfl dX10_asked_186 ?_
                      refine lv_goto (tgt := 196) hx hb dX10_asked_187 (by decide) ?_
                      exact hret _ _ _ _ _ o dX10_asked_196 rfl h hh
                  · by_cases c43 : ((o.2.2 22) x1.toNatClampNeg) = 9
                    · have h := h.2.2.2.2.2.2.2.2.2.1 c43
                      refine lv_tableIn (off := 177) (tgt := 197) hx hb dX10_asked_20 (by rw [c43]; decide) (by rw [c43]; decide) (by rw [c43]; rfl) (by decide) ?_
                      refine lv_aload_n hx hb dX10_asked_197 rfl (lv_at hl 2 rfl) ?_
                      refine G_X10_71 [] [] hx hb hT hown hK hh dX10_asked_198 ?_
                      refine lv_iload_n hx hb dX10_asked_201 rfl (lv_at hl 1 rfl) ?_
                      obtain ⟨g39, h⟩ := h
                      refine A_X10_25 [] [] hx hb hK hh (v := (o.2.2 25) ((o.2.2 23) x1.toNatClampNeg).toNatClampNeg) g39 rfl dX10_asked_202 ?_
                      refine lv_if_ne (tgt := 215) hx hb dX10_asked_203 (by decide) (fun c40 => ?_) (fun c40 => ?_)
                      · have h := h.1 c40
                        refine lv_aload_n hx hb dX10_asked_215 rfl (lv_at hl 2 rfl) ?_
                        refine G_X10_71 [] [] hx hb hT hown hK hh dX10_asked_216 ?_
                        refine lv_iload_n hx hb dX10_asked_219 rfl (lv_at hl 1 rfl) ?_
                        obtain ⟨g41, h⟩ := h
                        refine A_X10_25 [] [] hx hb hK hh (v := (o.2.2 25) ((o.2.2 23) x1.toNatClampNeg).toNatClampNeg) g41 rfl dX10_asked_220 ?_
                        exact hret _ _ _ _ _ o dX10_asked_221 rfl h hh
                      · have h := h.2 c40
                        refine lv_aload_n hx hb dX10_asked_206 rfl (lv_at hl 2 rfl) ?_
                        refine G_X10_71 [] [] hx hb hT hown hK hh dX10_asked_207 ?_
                        refine lv_iload_n hx hb dX10_asked_210 rfl (lv_at hl 0 rfl) ?_
                        obtain ⟨g42, h⟩ := h
                        refine A_X10_25 [] [] hx hb hK hh (v := (o.2.2 25) ((o.2.2 24) x1.toNatClampNeg).toNatClampNeg) g42 rfl dX10_asked_211 ?_
                        refine lv_goto (tgt := 221) hx hb dX10_asked_212 (by decide) ?_
                        exact hret _ _ _ _ _ o dX10_asked_221 rfl h hh
                    · by_cases c48 : ((o.2.2 22) x1.toNatClampNeg) = 10
                      · have h := h.2.2.2.2.2.2.2.2.2.2.1 c48
                        refine lv_tableIn (off := 202) (tgt := 222) hx hb dX10_asked_20 (by rw [c48]; decide) (by rw [c48]; decide) (by rw [c48]; rfl) (by decide) ?_
                        refine lv_aload_n hx hb dX10_asked_222 rfl (lv_at hl 2 rfl) ?_
                        refine G_X10_71 [] [] hx hb hT hown hK hh dX10_asked_223 ?_
                        refine lv_iload_n hx hb dX10_asked_226 rfl (lv_at hl 1 rfl) ?_
                        obtain ⟨g44, h⟩ := h
                        refine A_X10_25 [] [] hx hb hK hh (v := (o.2.2 25) ((o.2.2 23) x1.toNatClampNeg).toNatClampNeg) g44 rfl dX10_asked_227 ?_
                        refine lv_if_ge (tgt := 240) hx hb dX10_asked_228 (by decide) (fun c45 => ?_) (fun c45 => ?_)
                        · have h := h.1 c45
                          refine lv_iconst (v := 1) hx hb dX10_asked_240 (by decide) ?_
                          refine lv_aload_n hx hb dX10_asked_241 rfl (lv_at hl 2 rfl) ?_
                          refine G_X10_71 [] [] hx hb hT hown hK hh dX10_asked_242 ?_
                          refine lv_iload_n hx hb dX10_asked_245 rfl (lv_at hl 1 rfl) ?_
                          obtain ⟨g46, h⟩ := h
                          refine A_X10_25 [] [] hx hb hK hh (v := (o.2.2 25) ((o.2.2 23) x1.toNatClampNeg).toNatClampNeg) g46 rfl dX10_asked_246 ?_
                          refine lv_isub hx hb dX10_asked_247 ?_
                          exact hret _ _ _ _ _ o dX10_asked_248 rfl h hh
                        · have h := h.2 c45
                          refine lv_aload_n hx hb dX10_asked_231 rfl (lv_at hl 2 rfl) ?_
                          refine G_X10_71 [] [] hx hb hT hown hK hh dX10_asked_232 ?_
                          refine lv_iload_n hx hb dX10_asked_235 rfl (lv_at hl 1 rfl) ?_
                          obtain ⟨g47, h⟩ := h
                          refine A_X10_25 [] [] hx hb hK hh (v := (o.2.2 25) ((o.2.2 23) x1.toNatClampNeg).toNatClampNeg) g47 rfl dX10_asked_236 ?_
                          refine lv_goto (tgt := 248) hx hb dX10_asked_237 (by decide) ?_
                          exact hret _ _ _ _ _ o dX10_asked_248 rfl h hh
                      · have h := h.2.2.2.2.2.2.2.2.2.2.2 ⟨c8, c11, c14, c17, c20, c27, c30, c33, c38, c43, c48⟩
                        refine q_swD (tgt := 249) hx hb dX10_asked_20 (fun i h1 h2 he => (show i = 0 ∨ i = 1 ∨ i = 2 ∨ i = 3 ∨ i = 4 ∨ i = 5 ∨ i = 6 ∨ i = 7 ∨ i = 8 ∨ i = 9 ∨ i = 10 by omega).elim (fun z => absurd (q_oi he z (by decide)) c8) (fun z => z.elim (fun z => absurd (q_oi he z (by decide)) c11) (fun z => z.elim (fun z => absurd (q_oi he z (by decide)) c14) (fun z => z.elim (fun z => absurd (q_oi he z (by decide)) c17) (fun z => z.elim (fun z => absurd (q_oi he z (by decide)) c20) (fun z => z.elim (fun z => absurd (q_oi he z (by decide)) c27) (fun z => z.elim (fun z => absurd (q_oi he z (by decide)) c30) (fun z => z.elim (fun z => absurd (q_oi he z (by decide)) c33) (fun z => z.elim (fun z => absurd (q_oi he z (by decide)) c38) (fun z => z.elim (fun z => absurd (q_oi he z (by decide)) c43) (fun z => absurd (q_oi he z (by decide)) c48))))))))))) (by decide) ?_
                        refine lv_aload_n hx hb dX10_asked_249 rfl (lv_at hl 2 rfl) ?_
                        refine lv_iload_n hx hb dX10_asked_250 rfl (lv_at hl 1 rfl) ?_
                        refine lv_iload_n hx hb dX10_asked_251 rfl (lv_at hl 0 rfl) ?_
                        refine kI hh.ap0 hA (rnV hx hb hml hown hT hK hh.ap0 (c_X10_machine l D E a  o ((o.2.2 23) x1.toNatClampNeg) ((o.2.2 24) x1.toNatClampNeg) h _) mf_X10_machine kml_X10_226 ⟨rfl, rfl, Nat.le_of_ble_eq_true rfl, Nat.le_of_ble_eq_true rfl⟩ ⟨Nat.le_of_ble_eq_true rfl, Nat.le_of_ble_eq_true rfl⟩ 10 0 rfl rfl hl.1 rfl dX10_asked_252 (Nat.le_of_ble_eq_true rfl) rfl) (fun r49 o_50 H locs h hh => ?_)
                        have hh : Wh D A s.heap ((List.flatten [bX10 a E o_50])) _ _ := hh.un0
                        exact hret _ _ _ _ _ o_50 dX10_asked_255 rfl h hh

def w_X10_result_L2 (f1_2 : Int32)  (Post : Int32 → Ob → Prop) : Nat → Int32 → Ob → Prop
  | 0, _, _ => False
  | n2 + 1, p2_2, o_2 => ((f1_2 < p2_2) → vp_in f1_2 40 ∧ (Post ((o_2.2.2 25) f1_2.toNatClampNeg) o_2)) ∧ (¬ (f1_2 < p2_2) → w_X10_asked  p2_2 o_2 (fun (r3 : Int32) (o_4 : Ob) => vp_in p2_2 40 ∧ (w_X10_result_L2 f1_2  Post n2 (p2_2 + 1) ((o_4.1, o_4.2.1, (sa o_4.2.2 25 (upd (o_4.2.2 25) p2_2.toNatClampNeg r3)))))))
def w_X10_result (x1 : Int32) (o : Ob) (Post : Int32 → Ob → Prop) : Prop := ∃ n2, w_X10_result_L2 x1  Post n2 0 o
set_option maxRecDepth 100000 in
set_option maxHeartbeats 4000000 in
theorem c_X10_result (l : Launch) (D : va_G) (E : Nat → ClassId) (a : Nat → Nat)  (o : Ob) (x1 : Int32) {Post : Int32 → Ob → Prop} (h : w_X10_result x1 o Post) : CtI l yX10_result cX10_result 3 .int ({ frames := 5, cells := 0, slots := 0, locals := 126 } : Room) D E [.ref (a 0), .int (x1)] (List.flatten [bX10 a E o]) (fun u : Ob => List.flatten [bX10 a E u]) Post 0 0 := by
  refine enI (by decide +kernel) (Nat.le_of_ble_eq_true rfl) ?_
  intro p e s m args below meth c Q A ls hx hb hml hown hT hK hA hret hh hl
  have hl : lv_has ls 3 [(0, .ref (a 0)), (1, .int (x1))] := hl
  unfold w_X10_result at h
  refine lv_iconst (v := 0) hx hb dX10_result_0 (by decide) ?_
  refine lv_istore_n (lv' := [(2, .int (0)), (0, .ref (a 0)), (1, .int (x1))]) hx hb dX10_result_1 rfl hl (by decide) rfl (fun ls hl => ?_)
  have hw2 : ∀   (n : Nat) (p2_2 : Int32) (o_2 : Ob) (H : Heap) (locs : List Loc) (ls : Array Slot), w_X10_result_L2 x1  Post n p2_2 o_2 → Wh D A s.heap ((List.flatten [bX10 a E o_2])) H locs → lv_has ls 3 [(0, .ref (a 0)), (1, .int (x1)), (2, .int (p2_2))] → W p l e ({ frames := 5, cells := 0, slots := 0, locals := 126 } : Room) s m args below meth c H locs 0 0 Q (F0 m 2 ls []) := by
    intro   n
    induction n with
    | zero => intro p2_2 o_2 H locs ls h hh hl; exact False.elim h
    | succ n ih =>
      intro p2_2 o_2 H locs ls h hh hl
      refine lv_iload_n hx hb dX10_result_2 rfl (lv_at hl 2 rfl) ?_
      refine lv_iload_n hx hb dX10_result_3 rfl (lv_at hl 1 rfl) ?_
      refine lv_icmp_gt (tgt := 24) hx hb dX10_result_4 (by decide) (fun c1 => ?_) (fun c1 => ?_)
      · have h := h.1 c1
        refine lv_aload_n hx hb dX10_result_24 rfl (lv_at hl 0 rfl) ?_
        refine G_X10_71 [] [] hx hb hT hown hK hh dX10_result_25 ?_
        refine lv_iload_n hx hb dX10_result_28 rfl (lv_at hl 1 rfl) ?_
        obtain ⟨g2, h⟩ := h
        refine A_X10_25 [] [] hx hb hK hh (v := (o_2.2.2 25) x1.toNatClampNeg) g2 rfl dX10_result_29 ?_
        exact hret _ _ _ _ _ o_2 dX10_result_30 rfl h hh
      · have h := h.2 c1
        refine lv_aload_n hx hb dX10_result_7 rfl (lv_at hl 0 rfl) ?_
        refine G_X10_71 [] [] hx hb hT hown hK hh dX10_result_8 ?_
        refine lv_iload_n hx hb dX10_result_11 rfl (lv_at hl 2 rfl) ?_
        refine lv_aload_n hx hb dX10_result_12 rfl (lv_at hl 0 rfl) ?_
        refine lv_iload_n hx hb dX10_result_13 rfl (lv_at hl 2 rfl) ?_
        refine kI hh.ap0 hA (rnV hx hb hml hown hT hK hh.ap0 (c_X10_asked l D E a  o_2 p2_2 h _) mf_X10_asked kml_X10_229 ⟨rfl, rfl, Nat.le_of_ble_eq_true rfl, Nat.le_of_ble_eq_true rfl⟩ ⟨Nat.le_of_ble_eq_true rfl, Nat.le_of_ble_eq_true rfl⟩ 10 0 rfl rfl hl.1 rfl dX10_result_14 (Nat.le_of_ble_eq_true rfl) rfl) (fun r3 o_4 H locs h hh => ?_)
        have hh : Wh D A s.heap ((List.flatten [bX10 a E o_4])) _ _ := hh.un0
        obtain ⟨g5, h⟩ := h
        refine S_X10_25 [] [] hx hb hK hh g5 dX10_result_17 (fun H locs (hh : Wh D A s.heap ((List.flatten [bX10 a E ((o_4.1, o_4.2.1, (sa o_4.2.2 25 (upd (o_4.2.2 25) p2_2.toNatClampNeg r3))))])) H locs) => ?_)
        refine lv_iinc (v := p2_2 + 1) (lv' := [(2, .int (p2_2 + 1)), (0, .ref (a 0)), (1, .int (x1))]) hx hb dX10_result_18 hl (k := 2) rfl (by rfl) (by decide) rfl (fun ls hl => ?_)
        refine lv_goto (tgt := 2) hx hb dX10_result_21 (by decide) ?_
        exact ih (p2_2 + 1) ((o_4.1, o_4.2.1, (sa o_4.2.2 25 (upd (o_4.2.2 25) p2_2.toNatClampNeg r3)))) _ _ _ h hh (lv_sub hl [1, 2, 0] rfl)
  obtain ⟨n, h⟩ := h
  refine hw2   n 0 o _ _ _ h hh (lv_sub hl [1, 2, 0] rfl)

def w_X10_number (x1 : Int32) (o : Ob) (Post : Int32 → Ob → Prop) : Prop := Post ((us32 ((us32 ((((o.1 33) * 6364136223846793005) + 1442695040888963407))) * x1.toInt64)).toInt32) (((sl o.1 33 ((((o.1 33) * 6364136223846793005) + 1442695040888963407))), o.2.1, o.2.2))
set_option maxRecDepth 100000 in
set_option maxHeartbeats 4000000 in
theorem c_X10_number (l : Launch) (D : va_G) (E : Nat → ClassId) (a : Nat → Nat)  (o : Ob) (x1 : Int32) {Post : Int32 → Ob → Prop} (h : w_X10_number x1 o Post) : CtI l yX10_number cX10_number 2 .int ({ frames := 0, cells := 0, slots := 0, locals := 0 } : Room) D E [.ref (a 0), .int (x1)] (List.flatten [bX10 a E o]) (fun u : Ob => List.flatten [bX10 a E u]) Post 0 0 := by
  refine enI (by decide +kernel) (Nat.le_of_ble_eq_true rfl) ?_
  intro p e s m args below meth c Q A ls hx hb hml hown hT hK hA hret hh hl
  have hl : lv_has ls 2 [(0, .ref (a 0)), (1, .int (x1))] := hl
  unfold w_X10_number at h
  refine lv_aload_n hx hb dX10_number_0 rfl (lv_at hl 0 rfl) ?_
  refine lv_aload_n hx hb dX10_number_1 rfl (lv_at hl 0 rfl) ?_
  refine G_X10_232 [] [] hx hb hT hown hK hh (v := o.1 33) rfl dX10_number_2 ?_
  refine lv_ldc2 (v := 6364136223846793005) hx hb hown (hT _ kcL_X10_236) dX10_number_5 ?_
  refine lv_lmul hx hb dX10_number_8 ?_
  refine lv_ldc2 (v := 1442695040888963407) hx hb hown (hT _ kcL_X10_238) dX10_number_9 ?_
  refine lv_ladd hx hb dX10_number_12 ?_
  refine P_X10_232 [] [] hx hb hT hown hK hh dX10_number_13 (fun H locs (hh : Wh D A s.heap ((List.flatten [bX10 a E (((sl o.1 33 ((((o.1 33) * 6364136223846793005) + 1442695040888963407))), o.2.1, o.2.2))])) H locs) => ?_)
  refine lv_aload_n hx hb dX10_number_16 rfl (lv_at hl 0 rfl) ?_
  refine G_X10_232 [] [] hx hb hT hown hK hh (v := (((o.1 33) * 6364136223846793005) + 1442695040888963407)) rfl dX10_number_17 ?_
  refine lv_bipush (v := 32) hx hb dX10_number_20 (by decide) ?_
  refine lv_lushr (v := us32 ((((o.1 33) * 6364136223846793005) + 1442695040888963407))) hx hb dX10_number_22 rfl ?_
  refine lv_iload_n hx hb dX10_number_23 rfl (lv_at hl 1 rfl) ?_
  refine lv_i2l (v := x1.toInt64) hx hb dX10_number_24 rfl ?_
  refine lv_lmul hx hb dX10_number_25 ?_
  refine lv_bipush (v := 32) hx hb dX10_number_26 (by decide) ?_
  refine lv_lushr (v := us32 ((us32 ((((o.1 33) * 6364136223846793005) + 1442695040888963407))) * x1.toInt64)) hx hb dX10_number_28 rfl ?_
  refine lv_l2i (v := (us32 ((us32 ((((o.1 33) * 6364136223846793005) + 1442695040888963407))) * x1.toInt64)).toInt32) hx hb dX10_number_29 rfl ?_
  exact hret _ _ _ _ _ ((sl o.1 33 ((((o.1 33) * 6364136223846793005) + 1442695040888963407))), o.2.1, o.2.2) dX10_number_30 rfl h hh

def w_X10_goInto (x1 : Int32) (o : Ob) (Post : Ob → Prop) : Prop := vp_in (o.2.1 35) 64 ∧ (vp_in (o.2.1 35) 64 ∧ (vp_in (o.2.1 35) 64 ∧ (Post ((o.1, (upd o.2.1 35 (((o.2.1 35) + 1))), (sa (sa (sa o.2.2 36 (upd (o.2.2 36) (o.2.1 35).toNatClampNeg x1)) 39 (upd (o.2.2 39) (o.2.1 35).toNatClampNeg (0 : Int32))) 40 (upd (o.2.2 40) (o.2.1 35).toNatClampNeg (0 : Int32))))))))
set_option maxRecDepth 100000 in
set_option maxHeartbeats 4000000 in
theorem c_X10_goInto (l : Launch) (D : va_G) (E : Nat → ClassId) (a : Nat → Nat)  (o : Ob) (x1 : Int32) {Post : Ob → Prop} (h : w_X10_goInto x1 o Post) : CtV l yX10_goInto cX10_goInto 2 ({ frames := 0, cells := 0, slots := 0, locals := 0 } : Room) D E [.ref (a 0), .int (x1)] (List.flatten [bX10 a E o]) (fun u : Ob => List.flatten [bX10 a E u]) Post 0 0 := by
  refine enV (by decide +kernel) (Nat.le_of_ble_eq_true rfl) ?_
  intro p e s m args below meth c Q A ls hx hb hml hown hT hK hA hin0 hret hh hl
  have hl : lv_has ls 2 [(0, .ref (a 0)), (1, .int (x1))] := hl
  unfold w_X10_goInto at h
  refine lv_aload_n hx hb dX10_goInto_0 rfl (lv_at hl 0 rfl) ?_
  refine G_X10_80 [] [] hx hb hT hown hK hh dX10_goInto_1 ?_
  refine lv_aload_n hx hb dX10_goInto_4 rfl (lv_at hl 0 rfl) ?_
  refine G_X10_240 [] [] hx hb hT hown hK hh (v := o.2.1 35) rfl dX10_goInto_5 ?_
  refine lv_iload_n hx hb dX10_goInto_8 rfl (lv_at hl 1 rfl) ?_
  obtain ⟨g1, h⟩ := h
  refine S_X10_36 [] [] hx hb hK hh g1 dX10_goInto_9 (fun H locs (hh : Wh D A s.heap ((List.flatten [bX10 a E ((o.1, o.2.1, (sa o.2.2 36 (upd (o.2.2 36) (o.2.1 35).toNatClampNeg x1))))])) H locs) => ?_)
  refine lv_aload_n hx hb dX10_goInto_10 rfl (lv_at hl 0 rfl) ?_
  refine G_X10_89 [] [] hx hb hT hown hK hh dX10_goInto_11 ?_
  refine lv_aload_n hx hb dX10_goInto_14 rfl (lv_at hl 0 rfl) ?_
  refine G_X10_240 [] [] hx hb hT hown hK hh (v := o.2.1 35) rfl dX10_goInto_15 ?_
  refine lv_iconst (v := 0) hx hb dX10_goInto_18 (by decide) ?_
  obtain ⟨g2, h⟩ := h
  refine S_X10_39 [] [] hx hb hK hh g2 dX10_goInto_19 (fun H locs (hh : Wh D A s.heap ((List.flatten [bX10 a E ((o.1, o.2.1, (sa (sa o.2.2 36 (upd (o.2.2 36) (o.2.1 35).toNatClampNeg x1)) 39 (upd (o.2.2 39) (o.2.1 35).toNatClampNeg (0 : Int32)))))])) H locs) => ?_)
  refine lv_aload_n hx hb dX10_goInto_20 rfl (lv_at hl 0 rfl) ?_
  refine G_X10_92 [] [] hx hb hT hown hK hh dX10_goInto_21 ?_
  refine lv_aload_n hx hb dX10_goInto_24 rfl (lv_at hl 0 rfl) ?_
  refine G_X10_240 [] [] hx hb hT hown hK hh (v := o.2.1 35) rfl dX10_goInto_25 ?_
  refine lv_iconst (v := 0) hx hb dX10_goInto_28 (by decide) ?_
  obtain ⟨g3, h⟩ := h
  refine S_X10_40 [] [] hx hb hK hh g3 (by decide) dX10_goInto_29 (fun H locs (hh : Wh D A s.heap ((List.flatten [bX10 a E ((o.1, o.2.1, (sa (sa (sa o.2.2 36 (upd (o.2.2 36) (o.2.1 35).toNatClampNeg x1)) 39 (upd (o.2.2 39) (o.2.1 35).toNatClampNeg (0 : Int32))) 40 (upd (o.2.2 40) (o.2.1 35).toNatClampNeg (0 : Int32)))))])) H locs) => ?_)
  refine lv_aload_n hx hb dX10_goInto_30 rfl (lv_at hl 0 rfl) ?_
  refine lv_dup hx hb dX10_goInto_31 rfl ?_
  refine G_X10_240 [] [] hx hb hT hown hK hh (v := o.2.1 35) rfl dX10_goInto_32 ?_
  refine lv_iconst (v := 1) hx hb dX10_goInto_35 (by decide) ?_
  refine lv_iadd hx hb dX10_goInto_36 ?_
  refine P_X10_240 [] [] hx hb hT hown hK hh dX10_goInto_37 (fun H locs (hh : Wh D A s.heap ((List.flatten [bX10 a E ((o.1, (upd o.2.1 35 (((o.2.1 35) + 1))), (sa (sa (sa o.2.2 36 (upd (o.2.2 36) (o.2.1 35).toNatClampNeg x1)) 39 (upd (o.2.2 39) (o.2.1 35).toNatClampNeg (0 : Int32))) 40 (upd (o.2.2 40) (o.2.1 35).toNatClampNeg (0 : Int32)))))])) H locs) => ?_)
  exact hret _ _ _ _ (o.1, (upd o.2.1 35 (((o.2.1 35) + 1))), (sa (sa (sa o.2.2 36 (upd (o.2.2 36) (o.2.1 35).toNatClampNeg x1)) 39 (upd (o.2.2 39) (o.2.1 35).toNatClampNeg (0 : Int32))) 40 (upd (o.2.2 40) (o.2.1 35).toNatClampNeg (0 : Int32)))) dX10_goInto_40 h hh

def w_X10_add (x1 : Int32) (x2 : Int32) (o : Ob) (Post : Ob → Prop) : Prop := vp_in (4000 + ((o.2.2 8) (4 : Int32).toNatClampNeg)) 5000 ∧ (vp_in (4000 + ((o.2.2 8) (4 : Int32).toNatClampNeg)) 5000 ∧ (Post ((o.1, o.2.1, (sa (sa (sa o.2.2 9 (upd (o.2.2 9) (4000 + ((o.2.2 8) (4 : Int32).toNatClampNeg)).toNatClampNeg x1)) 10 (upd (o.2.2 10) (4000 + ((o.2.2 8) (4 : Int32).toNatClampNeg)).toNatClampNeg x2)) 8 (upd (o.2.2 8) (4 : Int32).toNatClampNeg (((o.2.2 8) (4 : Int32).toNatClampNeg) + 1)))))))
set_option maxRecDepth 100000 in
set_option maxHeartbeats 4000000 in
theorem c_X10_add (l : Launch) (D : va_G) (E : Nat → ClassId) (a : Nat → Nat)  (o : Ob) (x1 : Int32) (x2 : Int32) {Post : Ob → Prop} (h : w_X10_add x1 x2 o Post) : CtV l yX10_add cX10_add 3 ({ frames := 0, cells := 0, slots := 0, locals := 0 } : Room) D E [.ref (a 0), .int (x1), .int (x2)] (List.flatten [bX10 a E o]) (fun u : Ob => List.flatten [bX10 a E u]) Post 0 0 := by
  refine enV (by decide +kernel) (Nat.le_of_ble_eq_true rfl) ?_
  intro p e s m args below meth c Q A ls hx hb hml hown hT hK hA hin0 hret hh hl
  have hl : lv_has ls 3 [(0, .ref (a 0)), (1, .int (x1)), (2, .int (x2))] := hl
  unfold w_X10_add at h
  refine lv_aload_n hx hb dX10_add_0 rfl (lv_at hl 0 rfl) ?_
  refine G_X10_35 [] [] hx hb hT hown hK hh dX10_add_1 ?_
  refine lv_sipush (v := 4000) hx hb dX10_add_4 (by decide) ?_
  refine lv_aload_n hx hb dX10_add_7 rfl (lv_at hl 0 rfl) ?_
  refine G_X10_32 [] [] hx hb hT hown hK hh dX10_add_8 ?_
  refine lv_iconst (v := 4) hx hb dX10_add_11 (by decide) ?_
  refine A_X10_8 [] [] hx hb hK hh (v := (o.2.2 8) (4 : Int32).toNatClampNeg) (by unfold vp_in; decide) rfl dX10_add_12 ?_
  refine lv_iadd hx hb dX10_add_13 ?_
  refine lv_iload_n hx hb dX10_add_14 rfl (lv_at hl 1 rfl) ?_
  obtain ⟨g1, h⟩ := h
  refine S_X10_9 [] [] hx hb hK hh g1 dX10_add_15 (fun H locs (hh : Wh D A s.heap ((List.flatten [bX10 a E ((o.1, o.2.1, (sa o.2.2 9 (upd (o.2.2 9) (4000 + ((o.2.2 8) (4 : Int32).toNatClampNeg)).toNatClampNeg x1))))])) H locs) => ?_)
  refine lv_aload_n hx hb dX10_add_16 rfl (lv_at hl 0 rfl) ?_
  refine G_X10_38 [] [] hx hb hT hown hK hh dX10_add_17 ?_
  refine lv_sipush (v := 4000) hx hb dX10_add_20 (by decide) ?_
  refine lv_aload_n hx hb dX10_add_23 rfl (lv_at hl 0 rfl) ?_
  refine G_X10_32 [] [] hx hb hT hown hK hh dX10_add_24 ?_
  refine lv_iconst (v := 4) hx hb dX10_add_27 (by decide) ?_
  refine A_X10_8 [] [] hx hb hK hh (v := (o.2.2 8) (4 : Int32).toNatClampNeg) (by unfold vp_in; decide) rfl dX10_add_28 ?_
  refine lv_iadd hx hb dX10_add_29 ?_
  refine lv_iload_n hx hb dX10_add_30 rfl (lv_at hl 2 rfl) ?_
  obtain ⟨g2, h⟩ := h
  refine S_X10_10 [] [] hx hb hK hh g2 dX10_add_31 (fun H locs (hh : Wh D A s.heap ((List.flatten [bX10 a E ((o.1, o.2.1, (sa (sa o.2.2 9 (upd (o.2.2 9) (4000 + ((o.2.2 8) (4 : Int32).toNatClampNeg)).toNatClampNeg x1)) 10 (upd (o.2.2 10) (4000 + ((o.2.2 8) (4 : Int32).toNatClampNeg)).toNatClampNeg x2))))])) H locs) => ?_)
  refine lv_aload_n hx hb dX10_add_32 rfl (lv_at hl 0 rfl) ?_
  refine G_X10_32 [] [] hx hb hT hown hK hh dX10_add_33 ?_
  refine lv_iconst (v := 4) hx hb dX10_add_36 (by decide) ?_
  refine lv_dup2_11 hx hb dX10_add_37 rfl rfl ?_
  refine A_X10_8 [] [] hx hb hK hh (v := (o.2.2 8) (4 : Int32).toNatClampNeg) (by unfold vp_in; decide) rfl dX10_add_38 ?_
  refine lv_iconst (v := 1) hx hb dX10_add_39 (by decide) ?_
  refine lv_iadd hx hb dX10_add_40 ?_
  refine S_X10_8 [] [] hx hb hK hh (by unfold vp_in; decide) dX10_add_41 (fun H locs (hh : Wh D A s.heap ((List.flatten [bX10 a E ((o.1, o.2.1, (sa (sa (sa o.2.2 9 (upd (o.2.2 9) (4000 + ((o.2.2 8) (4 : Int32).toNatClampNeg)).toNatClampNeg x1)) 10 (upd (o.2.2 10) (4000 + ((o.2.2 8) (4 : Int32).toNatClampNeg)).toNatClampNeg x2)) 8 (upd (o.2.2 8) (4 : Int32).toNatClampNeg (((o.2.2 8) (4 : Int32).toNatClampNeg) + 1)))))])) H locs) => ?_)
  exact hret _ _ _ _ (o.1, o.2.1, (sa (sa (sa o.2.2 9 (upd (o.2.2 9) (4000 + ((o.2.2 8) (4 : Int32).toNatClampNeg)).toNatClampNeg x1)) 10 (upd (o.2.2 10) (4000 + ((o.2.2 8) (4 : Int32).toNatClampNeg)).toNatClampNeg x2)) 8 (upd (o.2.2 8) (4 : Int32).toNatClampNeg (((o.2.2 8) (4 : Int32).toNatClampNeg) + 1)))) dX10_add_42 h hh

def w_X10_shuffle_L13 (f1_13 : Int32) (f2_13 : Int32) (K30_13 : Ob → Prop) (Post : Ob → Prop) : Nat → Int32 → Ob → Prop
  | 0, _, _ => False
  | n13 + 1, p3_13, o_13 => ((f1_13 ≤ p3_13) → K30_13 o_13) ∧ (¬ (f1_13 ≤ p3_13) → w_X10_add  ((-1) : Int32) p3_13 o_13 (fun (o_3 : Ob) => w_X10_shuffle_L13 f1_13 f2_13 K30_13 Post n13 (p3_13 + 1) o_3))
def w_X10_shuffle_L34 (f2_34 : Int32)  (Post : Ob → Prop) : Nat → Int32 → Ob → Prop
  | 0, _, _ => False
  | n34 + 1, p3_34, o_34 => ((p3_34 ≤ 0) → Post o_34) ∧ (¬ (p3_34 ≤ 0) → w_X10_number  (p3_34 + 1) o_34 (fun (r5 : Int32) (o_6 : Ob) => vp_in (f2_34 + p3_34) 5000 ∧ (vp_in (f2_34 + r5) 5000 ∧ (vp_in (f2_34 + p3_34) 5000 ∧ (vp_in (f2_34 + r5) 5000 ∧ (w_X10_shuffle_L34 f2_34  Post n34 (p3_34 + (-1)) ((o_6.1, o_6.2.1, (sa (sa o_6.2.2 10 (upd (o_6.2.2 10) (f2_34 + p3_34).toNatClampNeg ((o_6.2.2 10) (f2_34 + r5).toNatClampNeg))) 10 (upd (upd (o_6.2.2 10) (f2_34 + p3_34).toNatClampNeg ((o_6.2.2 10) (f2_34 + r5).toNatClampNeg)) (f2_34 + r5).toNatClampNeg ((o_6.2.2 10) (f2_34 + p3_34).toNatClampNeg)))))))))))
def w_X10_shuffle (x1 : Int32) (o : Ob) (Post : Ob → Prop) : Prop := ∃ n13, w_X10_shuffle_L13 x1 (4000 + ((o.2.2 8) (4 : Int32).toNatClampNeg)) (fun (o_k30 : Ob) => ∃ n34, w_X10_shuffle_L34 (4000 + ((o.2.2 8) (4 : Int32).toNatClampNeg))  Post n34 (x1 - 1) o_k30) Post n13 0 o
set_option maxRecDepth 100000 in
set_option maxHeartbeats 4000000 in
theorem c_X10_shuffle (l : Launch) (D : va_G) (E : Nat → ClassId) (a : Nat → Nat)  (o : Ob) (x1 : Int32) {Post : Ob → Prop} (h : w_X10_shuffle x1 o Post) : CtV l yX10_shuffle cX10_shuffle 6 ({ frames := 1, cells := 0, slots := 0, locals := 22 } : Room) D E [.ref (a 0), .int (x1)] (List.flatten [bX10 a E o]) (fun u : Ob => List.flatten [bX10 a E u]) Post 0 0 := by
  refine enV (by decide +kernel) (Nat.le_of_ble_eq_true rfl) ?_
  intro p e s m args below meth c Q A ls hx hb hml hown hT hK hA hin0 hret hh hl
  have hl : lv_has ls 6 [(0, .ref (a 0)), (1, .int (x1))] := hl
  unfold w_X10_shuffle at h
  refine lv_sipush (v := 4000) hx hb dX10_shuffle_0 (by decide) ?_
  refine lv_aload_n hx hb dX10_shuffle_3 rfl (lv_at hl 0 rfl) ?_
  refine G_X10_32 [] [] hx hb hT hown hK hh dX10_shuffle_4 ?_
  refine lv_iconst (v := 4) hx hb dX10_shuffle_7 (by decide) ?_
  refine A_X10_8 [] [] hx hb hK hh (v := (o.2.2 8) (4 : Int32).toNatClampNeg) (by unfold vp_in; decide) rfl dX10_shuffle_8 ?_
  refine lv_iadd hx hb dX10_shuffle_9 ?_
  refine lv_istore_n (lv' := [(2, .int (4000 + ((o.2.2 8) (4 : Int32).toNatClampNeg))), (0, .ref (a 0)), (1, .int (x1))]) hx hb dX10_shuffle_10 rfl hl (by decide) rfl (fun ls hl => ?_)
  refine lv_iconst (v := 0) hx hb dX10_shuffle_11 (by decide) ?_
  refine lv_istore_n (lv' := [(3, .int (0)), (2, .int (4000 + ((o.2.2 8) (4 : Int32).toNatClampNeg))), (0, .ref (a 0)), (1, .int (x1))]) hx hb dX10_shuffle_12 rfl hl (by decide) rfl (fun ls hl => ?_)
  have hw13 : ∀ (K30_13 : Ob → Prop) (hK30_13 : ∀ (o_k30 : Ob) (H : Heap) (locs : List Loc) (ls : Array Slot), K30_13 o_k30 → Wh D A s.heap ((List.flatten [bX10 a E o_k30])) H locs → lv_has ls 6 [(0, .ref (a 0)), (1, .int (x1)), (2, .int (4000 + ((o.2.2 8) (4 : Int32).toNatClampNeg)))] → W p l e ({ frames := 1, cells := 0, slots := 0, locals := 22 } : Room) s m args below meth c H locs 0 0 Q (F0 m 30 ls [])) (n : Nat) (p3_13 : Int32) (o_13 : Ob) (H : Heap) (locs : List Loc) (ls : Array Slot), w_X10_shuffle_L13 x1 (4000 + ((o.2.2 8) (4 : Int32).toNatClampNeg)) K30_13 Post n p3_13 o_13 → Wh D A s.heap ((List.flatten [bX10 a E o_13])) H locs → lv_has ls 6 [(0, .ref (a 0)), (1, .int (x1)), (2, .int (4000 + ((o.2.2 8) (4 : Int32).toNatClampNeg))), (3, .int (p3_13))] → W p l e ({ frames := 1, cells := 0, slots := 0, locals := 22 } : Room) s m args below meth c H locs 0 0 Q (F0 m 13 ls []) := by
    intro K30_13 hK30_13 n
    induction n with
    | zero => intro p3_13 o_13 H locs ls h hh hl; exact False.elim h
    | succ n ih =>
      intro p3_13 o_13 H locs ls h hh hl
      refine lv_iload_n hx hb dX10_shuffle_13 rfl (lv_at hl 3 rfl) ?_
      refine lv_iload_n hx hb dX10_shuffle_14 rfl (lv_at hl 1 rfl) ?_
      refine lv_icmp_ge (tgt := 30) hx hb dX10_shuffle_15 (by decide) (fun c1 => ?_) (fun c1 => ?_)
      · have h := h.1 c1
        exact hK30_13 o_13 _ _ _ h hh (lv_sub hl [0, 1, 2] rfl)
      · have h := h.2 c1
        refine lv_aload_n hx hb dX10_shuffle_18 rfl (lv_at hl 0 rfl) ?_
        refine lv_iconst (v := (-1)) hx hb dX10_shuffle_19 (by decide) ?_
        refine lv_iload_n hx hb dX10_shuffle_20 rfl (lv_at hl 3 rfl) ?_
        refine kV hh.ap0 hA (rnV hx hb hml hown hT hK hh.ap0 (c_X10_add l D E a  o_13 ((-1) : Int32) p3_13 h _) mf_X10_add kml_X10_243 ⟨rfl, rfl, Nat.le_of_ble_eq_true rfl, Nat.le_of_ble_eq_true rfl⟩ ⟨Nat.le_of_ble_eq_true rfl, Nat.le_of_ble_eq_true rfl⟩ 10 0 rfl rfl hl.1 rfl dX10_shuffle_21 (Nat.le_of_ble_eq_true rfl) rfl) (fun o_3 H locs h hh => ?_)
        have hh : Wh D A s.heap ((List.flatten [bX10 a E o_3])) _ _ := hh.un0
        refine lv_iinc (v := p3_13 + 1) (lv' := [(3, .int (p3_13 + 1)), (0, .ref (a 0)), (1, .int (x1)), (2, .int ((4000 + ((o.2.2 8) (4 : Int32).toNatClampNeg))))]) hx hb dX10_shuffle_24 hl (k := 3) rfl (by rfl) (by decide) rfl (fun ls hl => ?_)
        refine lv_goto (tgt := 13) hx hb dX10_shuffle_27 (by decide) ?_
        exact ih (p3_13 + 1) o_3 _ _ _ h hh (lv_sub hl [1, 2, 3, 0] rfl)
  obtain ⟨n, h⟩ := h
  refine hw13 _ (fun o_k30 H locs ls h hh hl => ?_) n 0 o _ _ _ h hh (lv_sub hl [2, 3, 1, 0] rfl)
  refine lv_iload_n hx hb dX10_shuffle_30 rfl (lv_at hl 1 rfl) ?_
  refine lv_iconst (v := 1) hx hb dX10_shuffle_31 (by decide) ?_
  refine lv_isub hx hb dX10_shuffle_32 ?_
  refine lv_istore_n (lv' := [(3, .int (x1 - 1)), (0, .ref (a 0)), (1, .int (x1)), (2, .int (4000 + ((o.2.2 8) (4 : Int32).toNatClampNeg)))]) hx hb dX10_shuffle_33 rfl hl (by decide) rfl (fun ls hl => ?_)
  have hw34 : ∀   (n : Nat) (p3_34 : Int32) (o_34 : Ob) (H : Heap) (locs : List Loc) (ls : Array Slot), w_X10_shuffle_L34 (4000 + ((o.2.2 8) (4 : Int32).toNatClampNeg))  Post n p3_34 o_34 → Wh D A s.heap ((List.flatten [bX10 a E o_34])) H locs → lv_has ls 6 [(0, .ref (a 0)), (2, .int (4000 + ((o.2.2 8) (4 : Int32).toNatClampNeg))), (3, .int (p3_34))] → W p l e ({ frames := 1, cells := 0, slots := 0, locals := 22 } : Room) s m args below meth c H locs 0 0 Q (F0 m 34 ls []) := by
    intro   n
    induction n with
    | zero => intro p3_34 o_34 H locs ls h hh hl; exact False.elim h
    | succ n ih =>
      intro p3_34 o_34 H locs ls h hh hl
      refine lv_iload_n hx hb dX10_shuffle_34 rfl (lv_at hl 2 rfl) ?_
      refine lv_if_le (tgt := 91) hx hb dX10_shuffle_35 (by decide) (fun c4 => ?_) (fun c4 => ?_)
      · have h := h.1 c4
        exact hret _ _ _ _ o_34 dX10_shuffle_91 h hh
      · have h := h.2 c4
        refine lv_aload_n hx hb dX10_shuffle_38 rfl (lv_at hl 0 rfl) ?_
        refine lv_iload_n hx hb dX10_shuffle_39 rfl (lv_at hl 2 rfl) ?_
        refine lv_iconst (v := 1) hx hb dX10_shuffle_40 (by decide) ?_
        refine lv_iadd hx hb dX10_shuffle_41 ?_
        refine kI hh.ap0 hA (rnV hx hb hml hown hT hK hh.ap0 (c_X10_number l D E a  o_34 (p3_34 + 1) h _) mf_X10_number kml_X10_246 ⟨rfl, rfl, Nat.le_of_ble_eq_true rfl, Nat.le_of_ble_eq_true rfl⟩ ⟨Nat.le_of_ble_eq_true rfl, Nat.le_of_ble_eq_true rfl⟩ 10 0 rfl rfl hl.1 rfl dX10_shuffle_42 (Nat.le_of_ble_eq_true rfl) rfl) (fun r5 o_6 H locs h hh => ?_)
        have hh : Wh D A s.heap ((List.flatten [bX10 a E o_6])) _ _ := hh.un0
        refine lv_istore (lv' := [(4, .int (r5)), (0, .ref (a 0)), (2, .int ((4000 + ((o.2.2 8) (4 : Int32).toNatClampNeg)))), (3, .int (p3_34))]) hx hb dX10_shuffle_45 hl (by decide) rfl (fun ls hl => ?_)
        refine lv_aload_n hx hb dX10_shuffle_47 rfl (lv_at hl 1 rfl) ?_
        refine G_X10_38 [] [] hx hb hT hown hK hh dX10_shuffle_48 ?_
        refine lv_iload_n hx hb dX10_shuffle_51 rfl (lv_at hl 2 rfl) ?_
        refine lv_iload_n hx hb dX10_shuffle_52 rfl (lv_at hl 3 rfl) ?_
        refine lv_iadd hx hb dX10_shuffle_53 ?_
        obtain ⟨g7, h⟩ := h
        refine A_X10_10 [] [] hx hb hK hh (v := (o_6.2.2 10) ((4000 + ((o.2.2 8) (4 : Int32).toNatClampNeg)) + p3_34).toNatClampNeg) g7 rfl dX10_shuffle_54 ?_
        refine lv_istore (lv' := [(5, .int ((o_6.2.2 10) ((4000 + ((o.2.2 8) (4 : Int32).toNatClampNeg)) + p3_34).toNatClampNeg)), (4, .int (r5)), (0, .ref (a 0)), (2, .int ((4000 + ((o.2.2 8) (4 : Int32).toNatClampNeg)))), (3, .int (p3_34))]) hx hb dX10_shuffle_55 hl (by decide) rfl (fun ls hl => ?_)
        refine lv_aload_n hx hb dX10_shuffle_57 rfl (lv_at hl 2 rfl) ?_
        refine G_X10_38 [] [] hx hb hT hown hK hh dX10_shuffle_58 ?_
        refine lv_iload_n hx hb dX10_shuffle_61 rfl (lv_at hl 3 rfl) ?_
        refine lv_iload_n hx hb dX10_shuffle_62 rfl (lv_at hl 4 rfl) ?_
        refine lv_iadd hx hb dX10_shuffle_63 ?_
        refine lv_aload_n hx hb dX10_shuffle_64 rfl (lv_at hl 2 rfl) ?_
        refine G_X10_38 [] [] hx hb hT hown hK hh dX10_shuffle_65 ?_
        refine lv_iload_n hx hb dX10_shuffle_68 rfl (lv_at hl 3 rfl) ?_
        refine lv_iload hx hb dX10_shuffle_69 (lv_at hl 1 rfl) ?_
        refine lv_iadd hx hb dX10_shuffle_71 ?_
        obtain ⟨g8, h⟩ := h
        refine A_X10_10 [] [] hx hb hK hh (v := (o_6.2.2 10) ((4000 + ((o.2.2 8) (4 : Int32).toNatClampNeg)) + r5).toNatClampNeg) g8 rfl dX10_shuffle_72 ?_
        obtain ⟨g9, h⟩ := h
        refine S_X10_10 [] [] hx hb hK hh g9 dX10_shuffle_73 (fun H locs (hh : Wh D A s.heap ((List.flatten [bX10 a E ((o_6.1, o_6.2.1, (sa o_6.2.2 10 (upd (o_6.2.2 10) ((4000 + ((o.2.2 8) (4 : Int32).toNatClampNeg)) + p3_34).toNatClampNeg ((o_6.2.2 10) ((4000 + ((o.2.2 8) (4 : Int32).toNatClampNeg)) + r5).toNatClampNeg)))))])) H locs) => ?_)
        refine lv_aload_n hx hb dX10_shuffle_74 rfl (lv_at hl 2 rfl) ?_
        refine G_X10_38 [] [] hx hb hT hown hK hh dX10_shuffle_75 ?_
        refine lv_iload_n hx hb dX10_shuffle_78 rfl (lv_at hl 3 rfl) ?_
        refine lv_iload hx hb dX10_shuffle_79 (lv_at hl 1 rfl) ?_
        refine lv_iadd hx hb dX10_shuffle_81 ?_
        refine lv_iload hx hb dX10_shuffle_82 (lv_at hl 0 rfl) ?_
        obtain ⟨g10, h⟩ := h
        refine S_X10_10 [] [] hx hb hK hh g10 dX10_shuffle_84 (fun H locs (hh : Wh D A s.heap ((List.flatten [bX10 a E ((o_6.1, o_6.2.1, (sa (sa o_6.2.2 10 (upd (o_6.2.2 10) ((4000 + ((o.2.2 8) (4 : Int32).toNatClampNeg)) + p3_34).toNatClampNeg ((o_6.2.2 10) ((4000 + ((o.2.2 8) (4 : Int32).toNatClampNeg)) + r5).toNatClampNeg))) 10 (upd (upd (o_6.2.2 10) ((4000 + ((o.2.2 8) (4 : Int32).toNatClampNeg)) + p3_34).toNatClampNeg ((o_6.2.2 10) ((4000 + ((o.2.2 8) (4 : Int32).toNatClampNeg)) + r5).toNatClampNeg)) ((4000 + ((o.2.2 8) (4 : Int32).toNatClampNeg)) + r5).toNatClampNeg ((o_6.2.2 10) ((4000 + ((o.2.2 8) (4 : Int32).toNatClampNeg)) + p3_34).toNatClampNeg)))))])) H locs) => ?_)
        refine lv_iinc (v := p3_34 + (-1)) (lv' := [(3, .int (p3_34 + (-1))), (5, .int ((o_6.2.2 10) ((4000 + ((o.2.2 8) (4 : Int32).toNatClampNeg)) + p3_34).toNatClampNeg)), (4, .int (r5)), (0, .ref (a 0)), (2, .int ((4000 + ((o.2.2 8) (4 : Int32).toNatClampNeg))))]) hx hb dX10_shuffle_85 hl (k := 4) rfl (by rfl) (by decide) rfl (fun ls hl => ?_)
        refine lv_goto (tgt := 34) hx hb dX10_shuffle_88 (by decide) ?_
        exact ih (p3_34 + (-1)) ((o_6.1, o_6.2.1, (sa (sa o_6.2.2 10 (upd (o_6.2.2 10) ((4000 + ((o.2.2 8) (4 : Int32).toNatClampNeg)) + p3_34).toNatClampNeg ((o_6.2.2 10) ((4000 + ((o.2.2 8) (4 : Int32).toNatClampNeg)) + r5).toNatClampNeg))) 10 (upd (upd (o_6.2.2 10) ((4000 + ((o.2.2 8) (4 : Int32).toNatClampNeg)) + p3_34).toNatClampNeg ((o_6.2.2 10) ((4000 + ((o.2.2 8) (4 : Int32).toNatClampNeg)) + r5).toNatClampNeg)) ((4000 + ((o.2.2 8) (4 : Int32).toNatClampNeg)) + r5).toNatClampNeg ((o_6.2.2 10) ((4000 + ((o.2.2 8) (4 : Int32).toNatClampNeg)) + p3_34).toNatClampNeg))))) _ _ _ h hh (lv_sub hl [3, 4, 0] rfl)
  obtain ⟨n, h⟩ := h
  refine hw34   n (x1 - 1) o_k30 _ _ _ h hh (lv_sub hl [1, 3, 0] rfl)
