def w_X10_in (x0 : Int32) (x1 : Int32) (x2 : Int32)  (Post : Int32 → Prop) : Prop := ((x0 < x1) → Post 0) ∧ (¬ (x0 < x1) → ((x2 < x0) → Post 0) ∧ (¬ (x2 < x0) → Post 1))
set_option maxRecDepth 100000 in
set_option maxHeartbeats 4000000 in
theorem c_X10_in (l : Launch) (D : va_G) (E : Nat → ClassId)    (x0 : Int32) (x1 : Int32) (x2 : Int32) {Post : Int32 → Prop} (h : w_X10_in x0 x1 x2  Post) : CtI l yX10_in cX10_in 3 .boolean ({ frames := 0, cells := 0, slots := 0, locals := 0 } : Room) D E [.int (x0), .int (x1), .int (x2)] [] (fun _ : Unit => []) (fun (r : Int32) (u : Unit) => Post r ) 0 0 := by
  refine enI (by decide +kernel) (Nat.le_of_ble_eq_true rfl) ?_
  intro p e s m args below meth c Q A ls hx hb hml hown hT hK hA hret hh hl
  have hl : lv_has ls 3 [(0, .int (x0)), (1, .int (x1)), (2, .int (x2))] := hl
  unfold w_X10_in at h
  refine lv_iload_n hx hb dX10_in_0 rfl (lv_at hl 0 rfl) ?_
  refine lv_iload_n hx hb dX10_in_1 rfl (lv_at hl 1 rfl) ?_
  refine lv_icmp_lt (tgt := 14) hx hb dX10_in_2 (by decide) (fun c1 => ?_) (fun c1 => ?_)
  · have h := h.1 c1
    refine lv_iconst (v := 0) hx hb dX10_in_14 (by decide) ?_
    exact hret _ _ _ _ _ () dX10_in_15 rfl h hh
  · have h := h.2 c1
    refine lv_iload_n hx hb dX10_in_5 rfl (lv_at hl 0 rfl) ?_
    refine lv_iload_n hx hb dX10_in_6 rfl (lv_at hl 2 rfl) ?_
    refine lv_icmp_gt (tgt := 14) hx hb dX10_in_7 (by decide) (fun c2 => ?_) (fun c2 => ?_)
    · have h := h.1 c2
      refine lv_iconst (v := 0) hx hb dX10_in_14 (by decide) ?_
      exact hret _ _ _ _ _ () dX10_in_15 rfl h hh
    · have h := h.2 c2
      refine lv_iconst (v := 1) hx hb dX10_in_10 (by decide) ?_
      refine lv_goto (tgt := 15) hx hb dX10_in_11 (by decide) ?_
      exact hret _ _ _ _ _ () dX10_in_15 rfl h hh

def w_X10_lost   (Post : Int64 → Prop) : Prop := Post ((-9223372036854775808))
set_option maxRecDepth 100000 in
set_option maxHeartbeats 4000000 in
theorem c_X10_lost (l : Launch) (D : va_G) (E : Nat → ClassId)     {Post : Int64 → Prop} (h : w_X10_lost   Post) : CtL l yX10_lost cX10_lost 0 ({ frames := 0, cells := 0, slots := 0, locals := 0 } : Room) D E [] [] (fun _ : Unit => []) (fun (r : Int64) (u : Unit) => Post r ) 0 0 := by
  refine enL (by decide +kernel) (Nat.le_of_ble_eq_true rfl) ?_
  intro p e s m args below meth c Q A ls hx hb hml hown hT hK hA hret hh hl
  have hl : lv_has ls 0 [] := hl
  unfold w_X10_lost at h
  refine lv_ldc2 (v := (-9223372036854775808)) hx hb hown (hT _ kcL_X10_121) dX10_lost_0 ?_
  exact hret _ _ _ _ _ () dX10_lost_3 h hh

def w_X10_noMaker (x1 : Int32) (o : Ob) (Post : Int32 → Ob → Prop) : Prop := w_X10_in  x1 (0 : Int32) ((o.2.1 0) - 1)  (fun (r1 : Int32) => ((¬ r1 = 0) → Post 0 o) ∧ ((r1 = 0) → Post 1 o))
set_option maxRecDepth 100000 in
set_option maxHeartbeats 4000000 in
theorem c_X10_noMaker (l : Launch) (D : va_G) (E : Nat → ClassId) (a : Nat → Nat)  (o : Ob) (x1 : Int32) {Post : Int32 → Ob → Prop} (h : w_X10_noMaker x1 o Post) : CtI l yX10_noMaker cX10_noMaker 2 .boolean ({ frames := 1, cells := 0, slots := 0, locals := 22 } : Room) D E [.ref (a 0), .int (x1)] (List.flatten [bX10 a E o]) (fun u : Ob => List.flatten [bX10 a E u]) Post 0 0 := by
  refine enI (by decide +kernel) (Nat.le_of_ble_eq_true rfl) ?_
  intro p e s m args below meth c Q A ls hx hb hml hown hT hK hA hret hh hl
  have hl : lv_has ls 2 [(0, .ref (a 0)), (1, .int (x1))] := hl
  unfold w_X10_noMaker at h
  refine lv_iload_n hx hb dX10_noMaker_0 rfl (lv_at hl 1 rfl) ?_
  refine lv_iconst (v := 0) hx hb dX10_noMaker_1 (by decide) ?_
  refine lv_aload_n hx hb dX10_noMaker_2 rfl (lv_at hl 0 rfl) ?_
  refine G_X10_123 [] [] hx hb hT hown hK hh (v := o.2.1 0) rfl dX10_noMaker_3 ?_
  refine lv_iconst (v := 1) hx hb dX10_noMaker_6 (by decide) ?_
  refine lv_isub hx hb dX10_noMaker_7 ?_
  refine kI hh.none hA (rnS hx hb hml hown hT hK hh.none (c_X10_in l D E    x1 (0 : Int32) ((o.2.1 0) - 1) h _) mf_X10_in kml_X10_126 ⟨rfl, rfl, Nat.le_of_ble_eq_true rfl, Nat.le_of_ble_eq_true rfl⟩ ⟨Nat.le_of_ble_eq_true rfl, Nat.le_of_ble_eq_true rfl⟩ hl.1 rfl dX10_noMaker_8 (Nat.le_of_ble_eq_true rfl) rfl) (fun r1 u H locs h hh => ?_)
  have hh : Wh D A s.heap ((List.flatten [bX10 a E o])) _ _ := hh.unone
  refine lv_if_ne (tgt := 18) hx hb dX10_noMaker_11 (by decide) (fun c2 => ?_) (fun c2 => ?_)
  · have h := h.1 c2
    refine lv_iconst (v := 0) hx hb dX10_noMaker_18 (by decide) ?_
    exact hret _ _ _ _ _ o dX10_noMaker_19 rfl h hh
  · have h := h.2 c2
    refine lv_iconst (v := 1) hx hb dX10_noMaker_14 (by decide) ?_
    refine lv_goto (tgt := 19) hx hb dX10_noMaker_15 (by decide) ?_
    exact hret _ _ _ _ _ o dX10_noMaker_19 rfl h hh

def w_X10_added (x1 : Int32) (x2 : Int32) (x3 : Int32) (x4 : Int32) (x5 : Int32) (x6 : Int32) (x7 : Int32) (o : Ob) (Post : Int32 → Ob → Prop) : Prop := (((o.2.1 0) = 30) → Post ((-4)) o) ∧ (¬ ((o.2.1 0) = 30) → ((x6 ≤ 24) → vp_in (o.2.1 0) 30 ∧ (vp_in (o.2.1 0) 30 ∧ (vp_in (o.2.1 0) 30 ∧ (vp_in (o.2.1 0) 30 ∧ (vp_in (o.2.1 0) 30 ∧ (vp_in (o.2.1 0) 30 ∧ (vp_in (o.2.1 0) 30 ∧ ((x7 = 0 ∨ x7 = 1) ∧ (Post ((((o.2.1 0) + 1)) - 1) ((o.1, (upd o.2.1 0 (((o.2.1 0) + 1))), (sa (sa (sa (sa (sa (sa (sa o.2.2 1 (upd (o.2.2 1) (o.2.1 0).toNatClampNeg x1)) 2 (upd (o.2.2 2) (o.2.1 0).toNatClampNeg x2)) 3 (upd (o.2.2 3) (o.2.1 0).toNatClampNeg x3)) 4 (upd (o.2.2 4) (o.2.1 0).toNatClampNeg x4)) 5 (upd (o.2.2 5) (o.2.1 0).toNatClampNeg x5)) 6 (upd (o.2.2 6) (o.2.1 0).toNatClampNeg x6)) 7 (upd (o.2.2 7) (o.2.1 0).toNatClampNeg x7))))))))))))) ∧ (¬ (x6 ≤ 24) → Post ((-4)) o))
set_option maxRecDepth 100000 in
set_option maxHeartbeats 4000000 in
theorem c_X10_added (l : Launch) (D : va_G) (E : Nat → ClassId) (a : Nat → Nat)  (o : Ob) (x1 : Int32) (x2 : Int32) (x3 : Int32) (x4 : Int32) (x5 : Int32) (x6 : Int32) (x7 : Int32) {Post : Int32 → Ob → Prop} (h : w_X10_added x1 x2 x3 x4 x5 x6 x7 o Post) : CtI l yX10_added cX10_added 8 .int ({ frames := 0, cells := 0, slots := 0, locals := 0 } : Room) D E [.ref (a 0), .int (x1), .int (x2), .int (x3), .int (x4), .int (x5), .int (x6), .int (x7)] (List.flatten [bX10 a E o]) (fun u : Ob => List.flatten [bX10 a E u]) Post 0 0 := by
  refine enI (by decide +kernel) (Nat.le_of_ble_eq_true rfl) ?_
  intro p e s m args below meth c Q A ls hx hb hml hown hT hK hA hret hh hl
  have hl : lv_has ls 8 [(0, .ref (a 0)), (1, .int (x1)), (2, .int (x2)), (3, .int (x3)), (4, .int (x4)), (5, .int (x5)), (6, .int (x6)), (7, .int (x7))] := hl
  unfold w_X10_added at h
  refine lv_aload_n hx hb dX10_added_0 rfl (lv_at hl 0 rfl) ?_
  refine G_X10_123 [] [] hx hb hT hown hK hh (v := o.2.1 0) rfl dX10_added_1 ?_
  refine lv_bipush (v := 30) hx hb dX10_added_4 (by decide) ?_
  refine lv_icmp_eq (tgt := 16) hx hb dX10_added_6 (by decide) (fun c1 => ?_) (fun c1 => ?_)
  · have h := h.1 c1
    refine lv_bipush (v := (-4)) hx hb dX10_added_16 (by decide) ?_
    exact hret _ _ _ _ _ o dX10_added_18 rfl h hh
  · have h := h.2 c1
    refine lv_iload hx hb dX10_added_9 (lv_at hl 6 rfl) ?_
    refine lv_bipush (v := 24) hx hb dX10_added_11 (by decide) ?_
    refine lv_icmp_le (tgt := 19) hx hb dX10_added_13 (by decide) (fun c2 => ?_) (fun c2 => ?_)
    · have h := h.1 c2
      refine lv_aload_n hx hb dX10_added_19 rfl (lv_at hl 0 rfl) ?_
      refine G_X10_7 [] [] hx hb hT hown hK hh dX10_added_20 ?_
      refine lv_aload_n hx hb dX10_added_23 rfl (lv_at hl 0 rfl) ?_
      refine G_X10_123 [] [] hx hb hT hown hK hh (v := o.2.1 0) rfl dX10_added_24 ?_
      refine lv_iload_n hx hb dX10_added_27 rfl (lv_at hl 1 rfl) ?_
      obtain ⟨g3, h⟩ := h
      refine S_X10_1 [] [] hx hb hK hh g3 dX10_added_28 (fun H locs (hh : Wh D A s.heap ((List.flatten [bX10 a E ((o.1, o.2.1, (sa o.2.2 1 (upd (o.2.2 1) (o.2.1 0).toNatClampNeg x1))))])) H locs) => ?_)
      refine lv_aload_n hx hb dX10_added_29 rfl (lv_at hl 0 rfl) ?_
      refine G_X10_13 [] [] hx hb hT hown hK hh dX10_added_30 ?_
      refine lv_aload_n hx hb dX10_added_33 rfl (lv_at hl 0 rfl) ?_
      refine G_X10_123 [] [] hx hb hT hown hK hh (v := o.2.1 0) rfl dX10_added_34 ?_
      refine lv_iload_n hx hb dX10_added_37 rfl (lv_at hl 2 rfl) ?_
      obtain ⟨g4, h⟩ := h
      refine S_X10_2 [] [] hx hb hK hh g4 dX10_added_38 (fun H locs (hh : Wh D A s.heap ((List.flatten [bX10 a E ((o.1, o.2.1, (sa (sa o.2.2 1 (upd (o.2.2 1) (o.2.1 0).toNatClampNeg x1)) 2 (upd (o.2.2 2) (o.2.1 0).toNatClampNeg x2))))])) H locs) => ?_)
      refine lv_aload_n hx hb dX10_added_39 rfl (lv_at hl 0 rfl) ?_
      refine G_X10_16 [] [] hx hb hT hown hK hh dX10_added_40 ?_
      refine lv_aload_n hx hb dX10_added_43 rfl (lv_at hl 0 rfl) ?_
      refine G_X10_123 [] [] hx hb hT hown hK hh (v := o.2.1 0) rfl dX10_added_44 ?_
      refine lv_iload_n hx hb dX10_added_47 rfl (lv_at hl 3 rfl) ?_
      obtain ⟨g5, h⟩ := h
      refine S_X10_3 [] [] hx hb hK hh g5 dX10_added_48 (fun H locs (hh : Wh D A s.heap ((List.flatten [bX10 a E ((o.1, o.2.1, (sa (sa (sa o.2.2 1 (upd (o.2.2 1) (o.2.1 0).toNatClampNeg x1)) 2 (upd (o.2.2 2) (o.2.1 0).toNatClampNeg x2)) 3 (upd (o.2.2 3) (o.2.1 0).toNatClampNeg x3))))])) H locs) => ?_)
      refine lv_aload_n hx hb dX10_added_49 rfl (lv_at hl 0 rfl) ?_
      refine G_X10_19 [] [] hx hb hT hown hK hh dX10_added_50 ?_
      refine lv_aload_n hx hb dX10_added_53 rfl (lv_at hl 0 rfl) ?_
      refine G_X10_123 [] [] hx hb hT hown hK hh (v := o.2.1 0) rfl dX10_added_54 ?_
      refine lv_iload hx hb dX10_added_57 (lv_at hl 4 rfl) ?_
      obtain ⟨g6, h⟩ := h
      refine S_X10_4 [] [] hx hb hK hh g6 dX10_added_59 (fun H locs (hh : Wh D A s.heap ((List.flatten [bX10 a E ((o.1, o.2.1, (sa (sa (sa (sa o.2.2 1 (upd (o.2.2 1) (o.2.1 0).toNatClampNeg x1)) 2 (upd (o.2.2 2) (o.2.1 0).toNatClampNeg x2)) 3 (upd (o.2.2 3) (o.2.1 0).toNatClampNeg x3)) 4 (upd (o.2.2 4) (o.2.1 0).toNatClampNeg x4))))])) H locs) => ?_)
      refine lv_aload_n hx hb dX10_added_60 rfl (lv_at hl 0 rfl) ?_
      refine G_X10_22 [] [] hx hb hT hown hK hh dX10_added_61 ?_
      refine lv_aload_n hx hb dX10_added_64 rfl (lv_at hl 0 rfl) ?_
      refine G_X10_123 [] [] hx hb hT hown hK hh (v := o.2.1 0) rfl dX10_added_65 ?_
      refine lv_iload hx hb dX10_added_68 (lv_at hl 5 rfl) ?_
      obtain ⟨g7, h⟩ := h
      refine S_X10_5 [] [] hx hb hK hh g7 dX10_added_70 (fun H locs (hh : Wh D A s.heap ((List.flatten [bX10 a E ((o.1, o.2.1, (sa (sa (sa (sa (sa o.2.2 1 (upd (o.2.2 1) (o.2.1 0).toNatClampNeg x1)) 2 (upd (o.2.2 2) (o.2.1 0).toNatClampNeg x2)) 3 (upd (o.2.2 3) (o.2.1 0).toNatClampNeg x3)) 4 (upd (o.2.2 4) (o.2.1 0).toNatClampNeg x4)) 5 (upd (o.2.2 5) (o.2.1 0).toNatClampNeg x5))))])) H locs) => ?_)
      refine lv_aload_n hx hb dX10_added_71 rfl (lv_at hl 0 rfl) ?_
      refine G_X10_25 [] [] hx hb hT hown hK hh dX10_added_72 ?_
      refine lv_aload_n hx hb dX10_added_75 rfl (lv_at hl 0 rfl) ?_
      refine G_X10_123 [] [] hx hb hT hown hK hh (v := o.2.1 0) rfl dX10_added_76 ?_
      refine lv_iload hx hb dX10_added_79 (lv_at hl 6 rfl) ?_
      obtain ⟨g8, h⟩ := h
      refine S_X10_6 [] [] hx hb hK hh g8 dX10_added_81 (fun H locs (hh : Wh D A s.heap ((List.flatten [bX10 a E ((o.1, o.2.1, (sa (sa (sa (sa (sa (sa o.2.2 1 (upd (o.2.2 1) (o.2.1 0).toNatClampNeg x1)) 2 (upd (o.2.2 2) (o.2.1 0).toNatClampNeg x2)) 3 (upd (o.2.2 3) (o.2.1 0).toNatClampNeg x3)) 4 (upd (o.2.2 4) (o.2.1 0).toNatClampNeg x4)) 5 (upd (o.2.2 5) (o.2.1 0).toNatClampNeg x5)) 6 (upd (o.2.2 6) (o.2.1 0).toNatClampNeg x6))))])) H locs) => ?_)
      refine lv_aload_n hx hb dX10_added_82 rfl (lv_at hl 0 rfl) ?_
      refine G_X10_28 [] [] hx hb hT hown hK hh dX10_added_83 ?_
      refine lv_aload_n hx hb dX10_added_86 rfl (lv_at hl 0 rfl) ?_
      refine G_X10_123 [] [] hx hb hT hown hK hh (v := o.2.1 0) rfl dX10_added_87 ?_
      refine lv_iload hx hb dX10_added_90 (lv_at hl 7 rfl) ?_
      obtain ⟨g9, h⟩ := h
      obtain ⟨g10, h⟩ := h
      refine S_X10_7 [] [] hx hb hK hh g9 g10 dX10_added_92 (fun H locs (hh : Wh D A s.heap ((List.flatten [bX10 a E ((o.1, o.2.1, (sa (sa (sa (sa (sa (sa (sa o.2.2 1 (upd (o.2.2 1) (o.2.1 0).toNatClampNeg x1)) 2 (upd (o.2.2 2) (o.2.1 0).toNatClampNeg x2)) 3 (upd (o.2.2 3) (o.2.1 0).toNatClampNeg x3)) 4 (upd (o.2.2 4) (o.2.1 0).toNatClampNeg x4)) 5 (upd (o.2.2 5) (o.2.1 0).toNatClampNeg x5)) 6 (upd (o.2.2 6) (o.2.1 0).toNatClampNeg x6)) 7 (upd (o.2.2 7) (o.2.1 0).toNatClampNeg x7))))])) H locs) => ?_)
      refine lv_aload_n hx hb dX10_added_93 rfl (lv_at hl 0 rfl) ?_
      refine lv_dup hx hb dX10_added_94 rfl ?_
      refine G_X10_123 [] [] hx hb hT hown hK hh (v := o.2.1 0) rfl dX10_added_95 ?_
      refine lv_iconst (v := 1) hx hb dX10_added_98 (by decide) ?_
      refine lv_iadd hx hb dX10_added_99 ?_
      refine P_X10_123 [] [] hx hb hT hown hK hh dX10_added_100 (fun H locs (hh : Wh D A s.heap ((List.flatten [bX10 a E ((o.1, (upd o.2.1 0 (((o.2.1 0) + 1))), (sa (sa (sa (sa (sa (sa (sa o.2.2 1 (upd (o.2.2 1) (o.2.1 0).toNatClampNeg x1)) 2 (upd (o.2.2 2) (o.2.1 0).toNatClampNeg x2)) 3 (upd (o.2.2 3) (o.2.1 0).toNatClampNeg x3)) 4 (upd (o.2.2 4) (o.2.1 0).toNatClampNeg x4)) 5 (upd (o.2.2 5) (o.2.1 0).toNatClampNeg x5)) 6 (upd (o.2.2 6) (o.2.1 0).toNatClampNeg x6)) 7 (upd (o.2.2 7) (o.2.1 0).toNatClampNeg x7))))])) H locs) => ?_)
      refine lv_aload_n hx hb dX10_added_103 rfl (lv_at hl 0 rfl) ?_
      refine G_X10_123 [] [] hx hb hT hown hK hh (v := ((o.2.1 0) + 1)) rfl dX10_added_104 ?_
      refine lv_iconst (v := 1) hx hb dX10_added_107 (by decide) ?_
      refine lv_isub hx hb dX10_added_108 ?_
      exact hret _ _ _ _ _ (o.1, (upd o.2.1 0 (((o.2.1 0) + 1))), (sa (sa (sa (sa (sa (sa (sa o.2.2 1 (upd (o.2.2 1) (o.2.1 0).toNatClampNeg x1)) 2 (upd (o.2.2 2) (o.2.1 0).toNatClampNeg x2)) 3 (upd (o.2.2 3) (o.2.1 0).toNatClampNeg x3)) 4 (upd (o.2.2 4) (o.2.1 0).toNatClampNeg x4)) 5 (upd (o.2.2 5) (o.2.1 0).toNatClampNeg x5)) 6 (upd (o.2.2 6) (o.2.1 0).toNatClampNeg x6)) 7 (upd (o.2.2 7) (o.2.1 0).toNatClampNeg x7))) dX10_added_109 rfl h hh
    · have h := h.2 c2
      refine lv_bipush (v := (-4)) hx hb dX10_added_16 (by decide) ?_
      exact hret _ _ _ _ _ o dX10_added_18 rfl h hh

def w_X10_whole (x1 : Int32) (x2 : Int32) (o : Ob) (Post : Int32 → Ob → Prop) : Prop := w_X10_in  x1 ((-1000000) : Int32) (1000000 : Int32)  (fun (r1 : Int32) => ((r1 = 0) → Post ((-2)) o) ∧ (¬ (r1 = 0) → w_X10_in  x2 x1 (1000000 : Int32)  (fun (r3 : Int32) => ((¬ r3 = 0) → w_X10_added  (0 : Int32) ((-1) : Int32) ((-1) : Int32) x1 x2 (1 : Int32) (0 : Int32) o (fun (r5 : Int32) (o_6 : Ob) => Post r5 o_6)) ∧ ((r3 = 0) → Post ((-2)) o))))
set_option maxRecDepth 100000 in
set_option maxHeartbeats 4000000 in
theorem c_X10_whole (l : Launch) (D : va_G) (E : Nat → ClassId) (a : Nat → Nat)  (o : Ob) (x1 : Int32) (x2 : Int32) {Post : Int32 → Ob → Prop} (h : w_X10_whole x1 x2 o Post) : CtI l yX10_whole cX10_whole 3 .int ({ frames := 1, cells := 0, slots := 0, locals := 27 } : Room) D E [.ref (a 0), .int (x1), .int (x2)] (List.flatten [bX10 a E o]) (fun u : Ob => List.flatten [bX10 a E u]) Post 0 0 := by
  refine enI (by decide +kernel) (Nat.le_of_ble_eq_true rfl) ?_
  intro p e s m args below meth c Q A ls hx hb hml hown hT hK hA hret hh hl
  have hl : lv_has ls 3 [(0, .ref (a 0)), (1, .int (x1)), (2, .int (x2))] := hl
  unfold w_X10_whole at h
  refine lv_iload_n hx hb dX10_whole_0 rfl (lv_at hl 1 rfl) ?_
  refine lv_ldc (v := (-1000000)) hx hb hown (hT _ kcn_X10_130) dX10_whole_1 ?_
  refine lv_ldc (v := 1000000) hx hb hown (hT _ kcn_X10_131) dX10_whole_3 ?_
  refine kI hh.none hA (rnS hx hb hml hown hT hK hh.none (c_X10_in l D E    x1 ((-1000000) : Int32) (1000000 : Int32) h _) mf_X10_in kml_X10_126 ⟨rfl, rfl, Nat.le_of_ble_eq_true rfl, Nat.le_of_ble_eq_true rfl⟩ ⟨Nat.le_of_ble_eq_true rfl, Nat.le_of_ble_eq_true rfl⟩ hl.1 rfl dX10_whole_5 (Nat.le_of_ble_eq_true rfl) rfl) (fun r1 u H locs h hh => ?_)
  have hh : Wh D A s.heap ((List.flatten [bX10 a E o])) _ _ := hh.unone
  refine lv_if_eq (tgt := 21) hx hb dX10_whole_8 (by decide) (fun c2 => ?_) (fun c2 => ?_)
  · have h := h.1 c2
    refine lv_bipush (v := (-2)) hx hb dX10_whole_21 (by decide) ?_
    exact hret _ _ _ _ _ o dX10_whole_23 rfl h hh
  · have h := h.2 c2
    refine lv_iload_n hx hb dX10_whole_11 rfl (lv_at hl 2 rfl) ?_
    refine lv_iload_n hx hb dX10_whole_12 rfl (lv_at hl 1 rfl) ?_
    refine lv_ldc (v := 1000000) hx hb hown (hT _ kcn_X10_131) dX10_whole_13 ?_
    refine kI hh.none hA (rnS hx hb hml hown hT hK hh.none (c_X10_in l D E    x2 x1 (1000000 : Int32) h _) mf_X10_in kml_X10_126 ⟨rfl, rfl, Nat.le_of_ble_eq_true rfl, Nat.le_of_ble_eq_true rfl⟩ ⟨Nat.le_of_ble_eq_true rfl, Nat.le_of_ble_eq_true rfl⟩ hl.1 rfl dX10_whole_15 (Nat.le_of_ble_eq_true rfl) rfl) (fun r3 u H locs h hh => ?_)
    have hh : Wh D A s.heap ((List.flatten [bX10 a E o])) _ _ := hh.unone
    refine lv_if_ne (tgt := 24) hx hb dX10_whole_18 (by decide) (fun c4 => ?_) (fun c4 => ?_)
    · have h := h.1 c4
      refine lv_aload_n hx hb dX10_whole_24 rfl (lv_at hl 0 rfl) ?_
      refine lv_iconst (v := 0) hx hb dX10_whole_25 (by decide) ?_
      refine lv_iconst (v := (-1)) hx hb dX10_whole_26 (by decide) ?_
      refine lv_iconst (v := (-1)) hx hb dX10_whole_27 (by decide) ?_
      refine lv_iload_n hx hb dX10_whole_28 rfl (lv_at hl 1 rfl) ?_
      refine lv_iload_n hx hb dX10_whole_29 rfl (lv_at hl 2 rfl) ?_
      refine lv_iconst (v := 1) hx hb dX10_whole_30 (by decide) ?_
      refine lv_iconst (v := 0) hx hb dX10_whole_31 (by decide) ?_
      refine kI hh.ap0 hA (rnV hx hb hml hown hT hK hh.ap0 (c_X10_added l D E a  o (0 : Int32) ((-1) : Int32) ((-1) : Int32) x1 x2 (1 : Int32) (0 : Int32) h _) mf_X10_added kml_X10_132 ⟨rfl, rfl, Nat.le_of_ble_eq_true rfl, Nat.le_of_ble_eq_true rfl⟩ ⟨Nat.le_of_ble_eq_true rfl, Nat.le_of_ble_eq_true rfl⟩ 10 0 rfl rfl hl.1 rfl dX10_whole_32 (Nat.le_of_ble_eq_true rfl) rfl) (fun r5 o_6 H locs h hh => ?_)
      have hh : Wh D A s.heap ((List.flatten [bX10 a E o_6])) _ _ := hh.un0
      exact hret _ _ _ _ _ o_6 dX10_whole_35 rfl h hh
    · have h := h.2 c4
      refine lv_bipush (v := (-2)) hx hb dX10_whole_21 (by decide) ?_
      exact hret _ _ _ _ _ o dX10_whole_23 rfl h hh

def w_X10_listOf (x1 : Int32) (x2 : Int32) (o : Ob) (Post : Int32 → Ob → Prop) : Prop := w_X10_noMaker  x1 o (fun (r1 : Int32) (o_2 : Ob) => ((r1 = 0) → w_X10_in  x2 (1 : Int32) (24 : Int32)  (fun (r4 : Int32) => ((r4 = 0) → Post ((-2)) o_2) ∧ (¬ (r4 = 0) → vp_in x1 30 ∧ (vp_in x1 30 ∧ (w_X10_added  (1 : Int32) x1 ((-1) : Int32) x2 (0 : Int32) (x2 * ((o_2.2.2 6) x1.toNatClampNeg)) ((o_2.2.2 7) x1.toNatClampNeg) o_2 (fun (r8 : Int32) (o_9 : Ob) => Post r8 o_9)))))) ∧ (¬ (r1 = 0) → Post ((-1)) o_2))
set_option maxRecDepth 100000 in
set_option maxHeartbeats 4000000 in
theorem c_X10_listOf (l : Launch) (D : va_G) (E : Nat → ClassId) (a : Nat → Nat)  (o : Ob) (x1 : Int32) (x2 : Int32) {Post : Int32 → Ob → Prop} (h : w_X10_listOf x1 x2 o Post) : CtI l yX10_listOf cX10_listOf 3 .int ({ frames := 2, cells := 0, slots := 0, locals := 43 } : Room) D E [.ref (a 0), .int (x1), .int (x2)] (List.flatten [bX10 a E o]) (fun u : Ob => List.flatten [bX10 a E u]) Post 0 0 := by
  refine enI (by decide +kernel) (Nat.le_of_ble_eq_true rfl) ?_
  intro p e s m args below meth c Q A ls hx hb hml hown hT hK hA hret hh hl
  have hl : lv_has ls 3 [(0, .ref (a 0)), (1, .int (x1)), (2, .int (x2))] := hl
  unfold w_X10_listOf at h
  refine lv_aload_n hx hb dX10_listOf_0 rfl (lv_at hl 0 rfl) ?_
  refine lv_iload_n hx hb dX10_listOf_1 rfl (lv_at hl 1 rfl) ?_
  refine kI hh.ap0 hA (rnV hx hb hml hown hT hK hh.ap0 (c_X10_noMaker l D E a  o x1 h _) mf_X10_noMaker kml_X10_136 ⟨rfl, rfl, Nat.le_of_ble_eq_true rfl, Nat.le_of_ble_eq_true rfl⟩ ⟨Nat.le_of_ble_eq_true rfl, Nat.le_of_ble_eq_true rfl⟩ 10 0 rfl rfl hl.1 rfl dX10_listOf_2 (Nat.le_of_ble_eq_true rfl) rfl) (fun r1 o_2 H locs h hh => ?_)
  have hh : Wh D A s.heap ((List.flatten [bX10 a E o_2])) _ _ := hh.un0
  refine lv_if_eq (tgt := 10) hx hb dX10_listOf_5 (by decide) (fun c3 => ?_) (fun c3 => ?_)
  · have h := h.1 c3
    refine lv_iload_n hx hb dX10_listOf_10 rfl (lv_at hl 2 rfl) ?_
    refine lv_iconst (v := 1) hx hb dX10_listOf_11 (by decide) ?_
    refine lv_bipush (v := 24) hx hb dX10_listOf_12 (by decide) ?_
    refine kI hh.none hA (rnS hx hb hml hown hT hK hh.none (c_X10_in l D E    x2 (1 : Int32) (24 : Int32) h _) mf_X10_in kml_X10_126 ⟨rfl, rfl, Nat.le_of_ble_eq_true rfl, Nat.le_of_ble_eq_true rfl⟩ ⟨Nat.le_of_ble_eq_true rfl, Nat.le_of_ble_eq_true rfl⟩ hl.1 rfl dX10_listOf_14 (Nat.le_of_ble_eq_true rfl) rfl) (fun r4 u H locs h hh => ?_)
    have hh : Wh D A s.heap ((List.flatten [bX10 a E o_2])) _ _ := hh.unone
    refine lv_if_eq (tgt := 46) hx hb dX10_listOf_17 (by decide) (fun c5 => ?_) (fun c5 => ?_)
    · have h := h.1 c5
      refine lv_bipush (v := (-2)) hx hb dX10_listOf_46 (by decide) ?_
      exact hret _ _ _ _ _ o_2 dX10_listOf_48 rfl h hh
    · have h := h.2 c5
      refine lv_aload_n hx hb dX10_listOf_20 rfl (lv_at hl 0 rfl) ?_
      refine lv_iconst (v := 1) hx hb dX10_listOf_21 (by decide) ?_
      refine lv_iload_n hx hb dX10_listOf_22 rfl (lv_at hl 1 rfl) ?_
      refine lv_iconst (v := (-1)) hx hb dX10_listOf_23 (by decide) ?_
      refine lv_iload_n hx hb dX10_listOf_24 rfl (lv_at hl 2 rfl) ?_
      refine lv_iconst (v := 0) hx hb dX10_listOf_25 (by decide) ?_
      refine lv_iload_n hx hb dX10_listOf_26 rfl (lv_at hl 2 rfl) ?_
      refine lv_aload_n hx hb dX10_listOf_27 rfl (lv_at hl 0 rfl) ?_
      refine G_X10_25 [] [] hx hb hT hown hK hh dX10_listOf_28 ?_
      refine lv_iload_n hx hb dX10_listOf_31 rfl (lv_at hl 1 rfl) ?_
      obtain ⟨g6, h⟩ := h
      refine A_X10_6 [] [] hx hb hK hh (v := (o_2.2.2 6) x1.toNatClampNeg) g6 rfl dX10_listOf_32 ?_
      refine lv_imul hx hb dX10_listOf_33 ?_
      refine lv_aload_n hx hb dX10_listOf_34 rfl (lv_at hl 0 rfl) ?_
      refine G_X10_28 [] [] hx hb hT hown hK hh dX10_listOf_35 ?_
      refine lv_iload_n hx hb dX10_listOf_38 rfl (lv_at hl 1 rfl) ?_
      obtain ⟨g7, h⟩ := h
      refine A_X10_7 [] [] hx hb hK hh (v := (o_2.2.2 7) x1.toNatClampNeg) g7 rfl dX10_listOf_39 ?_
      refine kI hh.ap0 hA (rnV hx hb hml hown hT hK hh.ap0 (c_X10_added l D E a  o_2 (1 : Int32) x1 ((-1) : Int32) x2 (0 : Int32) (x2 * ((o_2.2.2 6) x1.toNatClampNeg)) ((o_2.2.2 7) x1.toNatClampNeg) h _) mf_X10_added kml_X10_132 ⟨rfl, rfl, Nat.le_of_ble_eq_true rfl, Nat.le_of_ble_eq_true rfl⟩ ⟨Nat.le_of_ble_eq_true rfl, Nat.le_of_ble_eq_true rfl⟩ 10 0 rfl rfl hl.1 rfl dX10_listOf_40 (Nat.le_of_ble_eq_true rfl) rfl) (fun r8 o_9 H locs h hh => ?_)
      have hh : Wh D A s.heap ((List.flatten [bX10 a E o_9])) _ _ := hh.un0
      refine lv_goto (tgt := 48) hx hb dX10_listOf_43 (by decide) ?_
      exact hret _ _ _ _ _ o_9 dX10_listOf_48 rfl h hh
  · have h := h.2 c3
    refine lv_iconst (v := (-1)) hx hb dX10_listOf_8 (by decide) ?_
    exact hret _ _ _ _ _ o_2 dX10_listOf_9 rfl h hh

def w_X10_pair (x1 : Int32) (x2 : Int32) (o : Ob) (Post : Int32 → Ob → Prop) : Prop := w_X10_noMaker  x1 o (fun (r1 : Int32) (o_2 : Ob) => ((¬ r1 = 0) → Post ((-1)) o_2) ∧ ((r1 = 0) → w_X10_noMaker  x2 o_2 (fun (r4 : Int32) (o_5 : Ob) => ((r4 = 0) → vp_in x1 30 ∧ (vp_in x2 30 ∧ (vp_in x1 30 ∧ (jn (fun J60 : Int32 → Ob → Prop => jn (fun J55 : Ob → Prop => ((¬ ((o_5.2.2 7) x1.toNatClampNeg) = 0) → J55 o_5) ∧ ((((o_5.2.2 7) x1.toNatClampNeg) = 0) → vp_in x2 30 ∧ (((((o_5.2.2 7) x2.toNatClampNeg) = 0) → J60 0 o_5) ∧ (¬ (((o_5.2.2 7) x2.toNatClampNeg) = 0) → J55 o_5)))) (fun (o_55 : Ob) => J60 1 o_55)) (fun (z_60 : Int32) (o_60 : Ob) => w_X10_added  (2 : Int32) x1 x2 (0 : Int32) (0 : Int32) (((o_5.2.2 6) x1.toNatClampNeg) + ((o_5.2.2 6) x2.toNatClampNeg)) z_60 o_60 (fun (r13 : Int32) (o_14 : Ob) => Post r13 o_14)))))) ∧ (¬ (r4 = 0) → Post ((-1)) o_5))))
set_option maxRecDepth 100000 in
set_option maxHeartbeats 4000000 in
theorem c_X10_pair (l : Launch) (D : va_G) (E : Nat → ClassId) (a : Nat → Nat)  (o : Ob) (x1 : Int32) (x2 : Int32) {Post : Int32 → Ob → Prop} (h : w_X10_pair x1 x2 o Post) : CtI l yX10_pair cX10_pair 3 .int ({ frames := 2, cells := 0, slots := 0, locals := 43 } : Room) D E [.ref (a 0), .int (x1), .int (x2)] (List.flatten [bX10 a E o]) (fun u : Ob => List.flatten [bX10 a E u]) Post 0 0 := by
  refine enI (by decide +kernel) (Nat.le_of_ble_eq_true rfl) ?_
  intro p e s m args below meth c Q A ls hx hb hml hown hT hK hA hret hh hl
  have hl : lv_has ls 3 [(0, .ref (a 0)), (1, .int (x1)), (2, .int (x2))] := hl
  unfold w_X10_pair at h
  refine lv_aload_n hx hb dX10_pair_0 rfl (lv_at hl 0 rfl) ?_
  refine lv_iload_n hx hb dX10_pair_1 rfl (lv_at hl 1 rfl) ?_
  refine kI hh.ap0 hA (rnV hx hb hml hown hT hK hh.ap0 (c_X10_noMaker l D E a  o x1 h _) mf_X10_noMaker kml_X10_136 ⟨rfl, rfl, Nat.le_of_ble_eq_true rfl, Nat.le_of_ble_eq_true rfl⟩ ⟨Nat.le_of_ble_eq_true rfl, Nat.le_of_ble_eq_true rfl⟩ 10 0 rfl rfl hl.1 rfl dX10_pair_2 (Nat.le_of_ble_eq_true rfl) rfl) (fun r1 o_2 H locs h hh => ?_)
  have hh : Wh D A s.heap ((List.flatten [bX10 a E o_2])) _ _ := hh.un0
  refine lv_if_ne (tgt := 16) hx hb dX10_pair_5 (by decide) (fun c3 => ?_) (fun c3 => ?_)
  · have h := h.1 c3
    refine lv_iconst (v := (-1)) hx hb dX10_pair_16 (by decide) ?_
    exact hret _ _ _ _ _ o_2 dX10_pair_17 rfl h hh
  · have h := h.2 c3
    refine lv_aload_n hx hb dX10_pair_8 rfl (lv_at hl 0 rfl) ?_
    refine lv_iload_n hx hb dX10_pair_9 rfl (lv_at hl 2 rfl) ?_
    refine kI hh.ap0 hA (rnV hx hb hml hown hT hK hh.ap0 (c_X10_noMaker l D E a  o_2 x2 h _) mf_X10_noMaker kml_X10_136 ⟨rfl, rfl, Nat.le_of_ble_eq_true rfl, Nat.le_of_ble_eq_true rfl⟩ ⟨Nat.le_of_ble_eq_true rfl, Nat.le_of_ble_eq_true rfl⟩ 10 0 rfl rfl hl.1 rfl dX10_pair_10 (Nat.le_of_ble_eq_true rfl) rfl) (fun r4 o_5 H locs h hh => ?_)
    have hh : Wh D A s.heap ((List.flatten [bX10 a E o_5])) _ _ := hh.un0
    refine lv_if_eq (tgt := 18) hx hb dX10_pair_13 (by decide) (fun c6 => ?_) (fun c6 => ?_)
    · have h := h.1 c6
      refine lv_aload_n hx hb dX10_pair_18 rfl (lv_at hl 0 rfl) ?_
      refine lv_iconst (v := 2) hx hb dX10_pair_19 (by decide) ?_
      refine lv_iload_n hx hb dX10_pair_20 rfl (lv_at hl 1 rfl) ?_
      refine lv_iload_n hx hb dX10_pair_21 rfl (lv_at hl 2 rfl) ?_
      refine lv_iconst (v := 0) hx hb dX10_pair_22 (by decide) ?_
      refine lv_iconst (v := 0) hx hb dX10_pair_23 (by decide) ?_
      refine lv_aload_n hx hb dX10_pair_24 rfl (lv_at hl 0 rfl) ?_
      refine G_X10_25 [] [] hx hb hT hown hK hh dX10_pair_25 ?_
      refine lv_iload_n hx hb dX10_pair_28 rfl (lv_at hl 1 rfl) ?_
      obtain ⟨g7, h⟩ := h
      refine A_X10_6 [] [] hx hb hK hh (v := (o_5.2.2 6) x1.toNatClampNeg) g7 rfl dX10_pair_29 ?_
      refine lv_aload_n hx hb dX10_pair_30 rfl (lv_at hl 0 rfl) ?_
      refine G_X10_25 [] [] hx hb hT hown hK hh dX10_pair_31 ?_
      refine lv_iload_n hx hb dX10_pair_34 rfl (lv_at hl 2 rfl) ?_
      obtain ⟨g8, h⟩ := h
      refine A_X10_6 [] [] hx hb hK hh (v := (o_5.2.2 6) x2.toNatClampNeg) g8 rfl dX10_pair_35 ?_
      refine lv_iadd hx hb dX10_pair_36 ?_
      refine lv_aload_n hx hb dX10_pair_37 rfl (lv_at hl 0 rfl) ?_
      refine G_X10_28 [] [] hx hb hT hown hK hh dX10_pair_38 ?_
      refine lv_iload_n hx hb dX10_pair_41 rfl (lv_at hl 1 rfl) ?_
      obtain ⟨g9, h⟩ := h
      refine A_X10_7 [] [] hx hb hK hh (v := (o_5.2.2 7) x1.toNatClampNeg) g9 rfl dX10_pair_42 ?_
      refine jn_elim h (fun J60 hJ60 h => ?_)
      have kJ60 : ∀ (z_60 : Int32) (o_60 : Ob) (H : Heap) (locs : List Loc) (ls : Array Slot), J60 z_60 o_60 → Wh D A s.heap ((List.flatten [bX10 a E o_60])) H locs → lv_has ls 3 [] → W p l e ({ frames := 2, cells := 0, slots := 0, locals := 43 } : Room) s m args below meth c H locs 0 0 Q (F0 m 60 ls [.int (z_60), .int (((o_5.2.2 6) x1.toNatClampNeg) + ((o_5.2.2 6) x2.toNatClampNeg)), .int (0), .int (0), .int (x2), .int (x1), .int (2), .ref (a 0)]) := by
        intro z_60 o_60 H locs ls h hh hl
        rw [hJ60] at h
        refine kI hh.ap0 hA (rnV hx hb hml hown hT hK hh.ap0 (c_X10_added l D E a  o_60 (2 : Int32) x1 x2 (0 : Int32) (0 : Int32) (((o_5.2.2 6) x1.toNatClampNeg) + ((o_5.2.2 6) x2.toNatClampNeg)) z_60 h _) mf_X10_added kml_X10_132 ⟨rfl, rfl, Nat.le_of_ble_eq_true rfl, Nat.le_of_ble_eq_true rfl⟩ ⟨Nat.le_of_ble_eq_true rfl, Nat.le_of_ble_eq_true rfl⟩ 10 0 rfl rfl hl.1 rfl dX10_pair_60 (Nat.le_of_ble_eq_true rfl) rfl) (fun r13 o_14 H locs h hh => ?_)
        have hh : Wh D A s.heap ((List.flatten [bX10 a E o_14])) _ _ := hh.un0
        exact hret _ _ _ _ _ o_14 dX10_pair_63 rfl h hh
      refine jn_elim h (fun J55 hJ55 h => ?_)
      have kJ55 : ∀ (o_55 : Ob) (H : Heap) (locs : List Loc) (ls : Array Slot), J55 o_55 → Wh D A s.heap ((List.flatten [bX10 a E o_55])) H locs → lv_has ls 3 [] → W p l e ({ frames := 2, cells := 0, slots := 0, locals := 43 } : Room) s m args below meth c H locs 0 0 Q (F0 m 55 ls [.int (((o_5.2.2 6) x1.toNatClampNeg) + ((o_5.2.2 6) x2.toNatClampNeg)), .int (0), .int (0), .int (x2), .int (x1), .int (2), .ref (a 0)]) := by
        intro o_55 H locs ls h hh hl
        rw [hJ55] at h
        refine lv_iconst (v := 1) hx hb dX10_pair_55 (by decide) ?_
        refine lv_goto (tgt := 60) hx hb dX10_pair_56 (by decide) ?_
        exact kJ60 1 o_55 _ _ _ h hh (lv_sub hl [] rfl)
      refine lv_if_ne (tgt := 55) hx hb dX10_pair_43 (by decide) (fun c10 => ?_) (fun c10 => ?_)
      · have h := h.1 c10
        exact kJ55 o_5 _ _ _ h hh (lv_sub hl [] rfl)
      · have h := h.2 c10
        refine lv_aload_n hx hb dX10_pair_46 rfl (lv_at hl 0 rfl) ?_
        refine G_X10_28 [] [] hx hb hT hown hK hh dX10_pair_47 ?_
        refine lv_iload_n hx hb dX10_pair_50 rfl (lv_at hl 2 rfl) ?_
        obtain ⟨g11, h⟩ := h
        refine A_X10_7 [] [] hx hb hK hh (v := (o_5.2.2 7) x2.toNatClampNeg) g11 rfl dX10_pair_51 ?_
        refine lv_if_eq (tgt := 59) hx hb dX10_pair_52 (by decide) (fun c12 => ?_) (fun c12 => ?_)
        · have h := h.1 c12
          refine lv_iconst (v := 0) hx hb dX10_pair_59 (by decide) ?_
          exact kJ60 0 o_5 _ _ _ h hh (lv_sub hl [] rfl)
        · have h := h.2 c12
          exact kJ55 o_5 _ _ _ h hh (lv_sub hl [] rfl)
    · have h := h.2 c6
      refine lv_iconst (v := (-1)) hx hb dX10_pair_16 (by decide) ?_
      exact hret _ _ _ _ _ o_5 dX10_pair_17 rfl h hh

def w_X10_oneOf (x1 : Int32) (x2 : Int32) (x3 : Int32) (x4 : Int32) (o : Ob) (Post : Int32 → Ob → Prop) : Prop := w_X10_noMaker  x1 o (fun (r1 : Int32) (o_2 : Ob) => ((¬ r1 = 0) → Post ((-1)) o_2) ∧ ((r1 = 0) → w_X10_noMaker  x3 o_2 (fun (r4 : Int32) (o_5 : Ob) => ((r4 = 0) → w_X10_in  x2 (1 : Int32) (100 : Int32)  (fun (r7 : Int32) => ((r7 = 0) → Post ((-2)) o_5) ∧ (¬ (r7 = 0) → w_X10_in  x4 (1 : Int32) (100 : Int32)  (fun (r9 : Int32) => ((¬ r9 = 0) → vp_in x1 30 ∧ (vp_in x3 30 ∧ (jn (fun J79 : Int32 → Ob → Prop => ((((o_5.2.2 6) x1.toNatClampNeg) ≤ ((o_5.2.2 6) x3.toNatClampNeg)) → vp_in x3 30 ∧ (J79 ((o_5.2.2 6) x3.toNatClampNeg) o_5)) ∧ (¬ (((o_5.2.2 6) x1.toNatClampNeg) ≤ ((o_5.2.2 6) x3.toNatClampNeg)) → vp_in x1 30 ∧ (J79 ((o_5.2.2 6) x1.toNatClampNeg) o_5))) (fun (z_79 : Int32) (o_79 : Ob) => vp_in x1 30 ∧ (jn (fun J102 : Int32 → Ob → Prop => jn (fun J97 : Ob → Prop => ((¬ ((o_79.2.2 7) x1.toNatClampNeg) = 0) → J97 o_79) ∧ ((((o_79.2.2 7) x1.toNatClampNeg) = 0) → vp_in x3 30 ∧ (((((o_79.2.2 7) x3.toNatClampNeg) = 0) → J102 0 o_79) ∧ (¬ (((o_79.2.2 7) x3.toNatClampNeg) = 0) → J97 o_79)))) (fun (o_97 : Ob) => J102 1 o_97)) (fun (z_102 : Int32) (o_102 : Ob) => w_X10_added  (3 : Int32) x1 x3 x2 x4 z_79 z_102 o_102 (fun (r20 : Int32) (o_21 : Ob) => Post r20 o_21))))))) ∧ ((r9 = 0) → Post ((-2)) o_5))))) ∧ (¬ (r4 = 0) → Post ((-1)) o_5))))
set_option maxRecDepth 100000 in
set_option maxHeartbeats 4000000 in
theorem c_X10_oneOf (l : Launch) (D : va_G) (E : Nat → ClassId) (a : Nat → Nat)  (o : Ob) (x1 : Int32) (x2 : Int32) (x3 : Int32) (x4 : Int32) {Post : Int32 → Ob → Prop} (h : w_X10_oneOf x1 x2 x3 x4 o Post) : CtI l yX10_oneOf cX10_oneOf 5 .int ({ frames := 2, cells := 0, slots := 0, locals := 43 } : Room) D E [.ref (a 0), .int (x1), .int (x2), .int (x3), .int (x4)] (List.flatten [bX10 a E o]) (fun u : Ob => List.flatten [bX10 a E u]) Post 0 0 := by
  refine enI (by decide +kernel) (Nat.le_of_ble_eq_true rfl) ?_
  intro p e s m args below meth c Q A ls hx hb hml hown hT hK hA hret hh hl
  have hl : lv_has ls 5 [(0, .ref (a 0)), (1, .int (x1)), (2, .int (x2)), (3, .int (x3)), (4, .int (x4))] := hl
  unfold w_X10_oneOf at h
  refine lv_aload_n hx hb dX10_oneOf_0 rfl (lv_at hl 0 rfl) ?_
  refine lv_iload_n hx hb dX10_oneOf_1 rfl (lv_at hl 1 rfl) ?_
  refine kI hh.ap0 hA (rnV hx hb hml hown hT hK hh.ap0 (c_X10_noMaker l D E a  o x1 h _) mf_X10_noMaker kml_X10_136 ⟨rfl, rfl, Nat.le_of_ble_eq_true rfl, Nat.le_of_ble_eq_true rfl⟩ ⟨Nat.le_of_ble_eq_true rfl, Nat.le_of_ble_eq_true rfl⟩ 10 0 rfl rfl hl.1 rfl dX10_oneOf_2 (Nat.le_of_ble_eq_true rfl) rfl) (fun r1 o_2 H locs h hh => ?_)
  have hh : Wh D A s.heap ((List.flatten [bX10 a E o_2])) _ _ := hh.un0
  refine lv_if_ne (tgt := 16) hx hb dX10_oneOf_5 (by decide) (fun c3 => ?_) (fun c3 => ?_)
  · have h := h.1 c3
    refine lv_iconst (v := (-1)) hx hb dX10_oneOf_16 (by decide) ?_
    exact hret _ _ _ _ _ o_2 dX10_oneOf_17 rfl h hh
  · have h := h.2 c3
    refine lv_aload_n hx hb dX10_oneOf_8 rfl (lv_at hl 0 rfl) ?_
    refine lv_iload_n hx hb dX10_oneOf_9 rfl (lv_at hl 3 rfl) ?_
    refine kI hh.ap0 hA (rnV hx hb hml hown hT hK hh.ap0 (c_X10_noMaker l D E a  o_2 x3 h _) mf_X10_noMaker kml_X10_136 ⟨rfl, rfl, Nat.le_of_ble_eq_true rfl, Nat.le_of_ble_eq_true rfl⟩ ⟨Nat.le_of_ble_eq_true rfl, Nat.le_of_ble_eq_true rfl⟩ 10 0 rfl rfl hl.1 rfl dX10_oneOf_10 (Nat.le_of_ble_eq_true rfl) rfl) (fun r4 o_5 H locs h hh => ?_)
    have hh : Wh D A s.heap ((List.flatten [bX10 a E o_5])) _ _ := hh.un0
    refine lv_if_eq (tgt := 18) hx hb dX10_oneOf_13 (by decide) (fun c6 => ?_) (fun c6 => ?_)
    · have h := h.1 c6
      refine lv_iload_n hx hb dX10_oneOf_18 rfl (lv_at hl 2 rfl) ?_
      refine lv_iconst (v := 1) hx hb dX10_oneOf_19 (by decide) ?_
      refine lv_bipush (v := 100) hx hb dX10_oneOf_20 (by decide) ?_
      refine kI hh.none hA (rnS hx hb hml hown hT hK hh.none (c_X10_in l D E    x2 (1 : Int32) (100 : Int32) h _) mf_X10_in kml_X10_126 ⟨rfl, rfl, Nat.le_of_ble_eq_true rfl, Nat.le_of_ble_eq_true rfl⟩ ⟨Nat.le_of_ble_eq_true rfl, Nat.le_of_ble_eq_true rfl⟩ hl.1 rfl dX10_oneOf_22 (Nat.le_of_ble_eq_true rfl) rfl) (fun r7 u H locs h hh => ?_)
      have hh : Wh D A s.heap ((List.flatten [bX10 a E o_5])) _ _ := hh.unone
      refine lv_if_eq (tgt := 39) hx hb dX10_oneOf_25 (by decide) (fun c8 => ?_) (fun c8 => ?_)
      · have h := h.1 c8
        refine lv_bipush (v := (-2)) hx hb dX10_oneOf_39 (by decide) ?_
        exact hret _ _ _ _ _ o_5 dX10_oneOf_41 rfl h hh
      · have h := h.2 c8
        refine lv_iload hx hb dX10_oneOf_28 (lv_at hl 4 rfl) ?_
        refine lv_iconst (v := 1) hx hb dX10_oneOf_30 (by decide) ?_
        refine lv_bipush (v := 100) hx hb dX10_oneOf_31 (by decide) ?_
        refine kI hh.none hA (rnS hx hb hml hown hT hK hh.none (c_X10_in l D E    x4 (1 : Int32) (100 : Int32) h _) mf_X10_in kml_X10_126 ⟨rfl, rfl, Nat.le_of_ble_eq_true rfl, Nat.le_of_ble_eq_true rfl⟩ ⟨Nat.le_of_ble_eq_true rfl, Nat.le_of_ble_eq_true rfl⟩ hl.1 rfl dX10_oneOf_33 (Nat.le_of_ble_eq_true rfl) rfl) (fun r9 u H locs h hh => ?_)
        have hh : Wh D A s.heap ((List.flatten [bX10 a E o_5])) _ _ := hh.unone
        refine lv_if_ne (tgt := 42) hx hb dX10_oneOf_36 (by decide) (fun c10 => ?_) (fun c10 => ?_)
        · have h := h.1 c10
          refine lv_aload_n hx hb dX10_oneOf_42 rfl (lv_at hl 0 rfl) ?_
          refine lv_iconst (v := 3) hx hb dX10_oneOf_43 (by decide) ?_
          refine lv_iload_n hx hb dX10_oneOf_44 rfl (lv_at hl 1 rfl) ?_
          refine lv_iload_n hx hb dX10_oneOf_45 rfl (lv_at hl 3 rfl) ?_
          refine lv_iload_n hx hb dX10_oneOf_46 rfl (lv_at hl 2 rfl) ?_
          refine lv_iload hx hb dX10_oneOf_47 (lv_at hl 4 rfl) ?_
          refine lv_aload_n hx hb dX10_oneOf_49 rfl (lv_at hl 0 rfl) ?_
          refine G_X10_25 [] [] hx hb hT hown hK hh dX10_oneOf_50 ?_
          refine lv_iload_n hx hb dX10_oneOf_53 rfl (lv_at hl 1 rfl) ?_
          obtain ⟨g11, h⟩ := h
          refine A_X10_6 [] [] hx hb hK hh (v := (o_5.2.2 6) x1.toNatClampNeg) g11 rfl dX10_oneOf_54 ?_
          refine lv_aload_n hx hb dX10_oneOf_55 rfl (lv_at hl 0 rfl) ?_
          refine G_X10_25 [] [] hx hb hT hown hK hh dX10_oneOf_56 ?_
          refine lv_iload_n hx hb dX10_oneOf_59 rfl (lv_at hl 3 rfl) ?_
          obtain ⟨g12, h⟩ := h
          refine A_X10_6 [] [] hx hb hK hh (v := (o_5.2.2 6) x3.toNatClampNeg) g12 rfl dX10_oneOf_60 ?_
          refine jn_elim h (fun J79 hJ79 h => ?_)
          have kJ79 : ∀ (z_79 : Int32) (o_79 : Ob) (H : Heap) (locs : List Loc) (ls : Array Slot), J79 z_79 o_79 → Wh D A s.heap ((List.flatten [bX10 a E o_79])) H locs → lv_has ls 5 [(0, .ref (a 0)), (1, .int (x1)), (3, .int (x3))] → W p l e ({ frames := 2, cells := 0, slots := 0, locals := 43 } : Room) s m args below meth c H locs 0 0 Q (F0 m 79 ls [.int (z_79), .int (x4), .int (x2), .int (x3), .int (x1), .int (3), .ref (a 0)]) := by
            intro z_79 o_79 H locs ls h hh hl
            rw [hJ79] at h
            refine lv_aload_n hx hb dX10_oneOf_79 rfl (lv_at hl 0 rfl) ?_
            refine G_X10_28 [] [] hx hb hT hown hK hh dX10_oneOf_80 ?_
            refine lv_iload_n hx hb dX10_oneOf_83 rfl (lv_at hl 1 rfl) ?_
            obtain ⟨g16, h⟩ := h
            refine A_X10_7 [] [] hx hb hK hh (v := (o_79.2.2 7) x1.toNatClampNeg) g16 rfl dX10_oneOf_84 ?_
            refine jn_elim h (fun J102 hJ102 h => ?_)
            have kJ102 : ∀ (z_102 : Int32) (o_102 : Ob) (H : Heap) (locs : List Loc) (ls : Array Slot), J102 z_102 o_102 → Wh D A s.heap ((List.flatten [bX10 a E o_102])) H locs → lv_has ls 5 [] → W p l e ({ frames := 2, cells := 0, slots := 0, locals := 43 } : Room) s m args below meth c H locs 0 0 Q (F0 m 102 ls [.int (z_102), .int (z_79), .int (x4), .int (x2), .int (x3), .int (x1), .int (3), .ref (a 0)]) := by
              intro z_102 o_102 H locs ls h hh hl
              rw [hJ102] at h
              refine kI hh.ap0 hA (rnV hx hb hml hown hT hK hh.ap0 (c_X10_added l D E a  o_102 (3 : Int32) x1 x3 x2 x4 z_79 z_102 h _) mf_X10_added kml_X10_132 ⟨rfl, rfl, Nat.le_of_ble_eq_true rfl, Nat.le_of_ble_eq_true rfl⟩ ⟨Nat.le_of_ble_eq_true rfl, Nat.le_of_ble_eq_true rfl⟩ 10 0 rfl rfl hl.1 rfl dX10_oneOf_102 (Nat.le_of_ble_eq_true rfl) rfl) (fun r20 o_21 H locs h hh => ?_)
              have hh : Wh D A s.heap ((List.flatten [bX10 a E o_21])) _ _ := hh.un0
              exact hret _ _ _ _ _ o_21 dX10_oneOf_105 rfl h hh
            refine jn_elim h (fun J97 hJ97 h => ?_)
            have kJ97 : ∀ (o_97 : Ob) (H : Heap) (locs : List Loc) (ls : Array Slot), J97 o_97 → Wh D A s.heap ((List.flatten [bX10 a E o_97])) H locs → lv_has ls 5 [] → W p l e ({ frames := 2, cells := 0, slots := 0, locals := 43 } : Room) s m args below meth c H locs 0 0 Q (F0 m 97 ls [.int (z_79), .int (x4), .int (x2), .int (x3), .int (x1), .int (3), .ref (a 0)]) := by
              intro o_97 H locs ls h hh hl
              rw [hJ97] at h
              refine lv_iconst (v := 1) hx hb dX10_oneOf_97 (by decide) ?_
              refine lv_goto (tgt := 102) hx hb dX10_oneOf_98 (by decide) ?_
              exact kJ102 1 o_97 _ _ _ h hh (lv_sub hl [] rfl)
            refine lv_if_ne (tgt := 97) hx hb dX10_oneOf_85 (by decide) (fun c17 => ?_) (fun c17 => ?_)
            · have h := h.1 c17
              exact kJ97 o_79 _ _ _ h hh (lv_sub hl [] rfl)
            · have h := h.2 c17
              refine lv_aload_n hx hb dX10_oneOf_88 rfl (lv_at hl 0 rfl) ?_
              refine G_X10_28 [] [] hx hb hT hown hK hh dX10_oneOf_89 ?_
              refine lv_iload_n hx hb dX10_oneOf_92 rfl (lv_at hl 2 rfl) ?_
              obtain ⟨g18, h⟩ := h
              refine A_X10_7 [] [] hx hb hK hh (v := (o_79.2.2 7) x3.toNatClampNeg) g18 rfl dX10_oneOf_93 ?_
              refine lv_if_eq (tgt := 101) hx hb dX10_oneOf_94 (by decide) (fun c19 => ?_) (fun c19 => ?_)
              · have h := h.1 c19
                refine lv_iconst (v := 0) hx hb dX10_oneOf_101 (by decide) ?_
                exact kJ102 0 o_79 _ _ _ h hh (lv_sub hl [] rfl)
              · have h := h.2 c19
                exact kJ97 o_79 _ _ _ h hh (lv_sub hl [] rfl)
          refine lv_icmp_le (tgt := 73) hx hb dX10_oneOf_61 (by decide) (fun c13 => ?_) (fun c13 => ?_)
          · have h := h.1 c13
            refine lv_aload_n hx hb dX10_oneOf_73 rfl (lv_at hl 0 rfl) ?_
            refine G_X10_25 [] [] hx hb hT hown hK hh dX10_oneOf_74 ?_
            refine lv_iload_n hx hb dX10_oneOf_77 rfl (lv_at hl 3 rfl) ?_
            obtain ⟨g14, h⟩ := h
            refine A_X10_6 [] [] hx hb hK hh (v := (o_5.2.2 6) x3.toNatClampNeg) g14 rfl dX10_oneOf_78 ?_
            exact kJ79 ((o_5.2.2 6) x3.toNatClampNeg) o_5 _ _ _ h hh (lv_sub hl [0, 1, 3] rfl)
          · have h := h.2 c13
            refine lv_aload_n hx hb dX10_oneOf_64 rfl (lv_at hl 0 rfl) ?_
            refine G_X10_25 [] [] hx hb hT hown hK hh dX10_oneOf_65 ?_
            refine lv_iload_n hx hb dX10_oneOf_68 rfl (lv_at hl 1 rfl) ?_
            obtain ⟨g15, h⟩ := h
            refine A_X10_6 [] [] hx hb hK hh (v := (o_5.2.2 6) x1.toNatClampNeg) g15 rfl dX10_oneOf_69 ?_
            refine lv_goto (tgt := 79) hx hb dX10_oneOf_70 (by decide) ?_
            exact kJ79 ((o_5.2.2 6) x1.toNatClampNeg) o_5 _ _ _ h hh (lv_sub hl [0, 1, 3] rfl)
        · have h := h.2 c10
          refine lv_bipush (v := (-2)) hx hb dX10_oneOf_39 (by decide) ?_
          exact hret _ _ _ _ _ o_5 dX10_oneOf_41 rfl h hh
    · have h := h.2 c6
      refine lv_iconst (v := (-1)) hx hb dX10_oneOf_16 (by decide) ?_
      exact hret _ _ _ _ _ o_5 dX10_oneOf_17 rfl h hh

def w_X10_mapped (x1 : Int32) (x2 : Int32) (o : Ob) (Post : Int32 → Ob → Prop) : Prop := w_X10_noMaker  x1 o (fun (r1 : Int32) (o_2 : Ob) => ((r1 = 0) → w_X10_in  x2 (0 : Int32) (4 : Int32)  (fun (r4 : Int32) => ((r4 = 0) → Post ((-2)) o_2) ∧ (¬ (r4 = 0) → vp_in x1 30 ∧ (vp_in x1 30 ∧ (w_X10_added  (4 : Int32) x1 ((-1) : Int32) x2 (0 : Int32) (((o_2.2.2 6) x1.toNatClampNeg) + 1) ((o_2.2.2 7) x1.toNatClampNeg) o_2 (fun (r8 : Int32) (o_9 : Ob) => Post r8 o_9)))))) ∧ (¬ (r1 = 0) → Post ((-1)) o_2))
set_option maxRecDepth 100000 in
set_option maxHeartbeats 4000000 in
theorem c_X10_mapped (l : Launch) (D : va_G) (E : Nat → ClassId) (a : Nat → Nat)  (o : Ob) (x1 : Int32) (x2 : Int32) {Post : Int32 → Ob → Prop} (h : w_X10_mapped x1 x2 o Post) : CtI l yX10_mapped cX10_mapped 3 .int ({ frames := 2, cells := 0, slots := 0, locals := 43 } : Room) D E [.ref (a 0), .int (x1), .int (x2)] (List.flatten [bX10 a E o]) (fun u : Ob => List.flatten [bX10 a E u]) Post 0 0 := by
  refine enI (by decide +kernel) (Nat.le_of_ble_eq_true rfl) ?_
  intro p e s m args below meth c Q A ls hx hb hml hown hT hK hA hret hh hl
  have hl : lv_has ls 3 [(0, .ref (a 0)), (1, .int (x1)), (2, .int (x2))] := hl
  unfold w_X10_mapped at h
  refine lv_aload_n hx hb dX10_mapped_0 rfl (lv_at hl 0 rfl) ?_
  refine lv_iload_n hx hb dX10_mapped_1 rfl (lv_at hl 1 rfl) ?_
  refine kI hh.ap0 hA (rnV hx hb hml hown hT hK hh.ap0 (c_X10_noMaker l D E a  o x1 h _) mf_X10_noMaker kml_X10_136 ⟨rfl, rfl, Nat.le_of_ble_eq_true rfl, Nat.le_of_ble_eq_true rfl⟩ ⟨Nat.le_of_ble_eq_true rfl, Nat.le_of_ble_eq_true rfl⟩ 10 0 rfl rfl hl.1 rfl dX10_mapped_2 (Nat.le_of_ble_eq_true rfl) rfl) (fun r1 o_2 H locs h hh => ?_)
  have hh : Wh D A s.heap ((List.flatten [bX10 a E o_2])) _ _ := hh.un0
  refine lv_if_eq (tgt := 10) hx hb dX10_mapped_5 (by decide) (fun c3 => ?_) (fun c3 => ?_)
  · have h := h.1 c3
    refine lv_iload_n hx hb dX10_mapped_10 rfl (lv_at hl 2 rfl) ?_
    refine lv_iconst (v := 0) hx hb dX10_mapped_11 (by decide) ?_
    refine lv_iconst (v := 4) hx hb dX10_mapped_12 (by decide) ?_
    refine kI hh.none hA (rnS hx hb hml hown hT hK hh.none (c_X10_in l D E    x2 (0 : Int32) (4 : Int32) h _) mf_X10_in kml_X10_126 ⟨rfl, rfl, Nat.le_of_ble_eq_true rfl, Nat.le_of_ble_eq_true rfl⟩ ⟨Nat.le_of_ble_eq_true rfl, Nat.le_of_ble_eq_true rfl⟩ hl.1 rfl dX10_mapped_13 (Nat.le_of_ble_eq_true rfl) rfl) (fun r4 u H locs h hh => ?_)
    have hh : Wh D A s.heap ((List.flatten [bX10 a E o_2])) _ _ := hh.unone
    refine lv_if_eq (tgt := 45) hx hb dX10_mapped_16 (by decide) (fun c5 => ?_) (fun c5 => ?_)
    · have h := h.1 c5
      refine lv_bipush (v := (-2)) hx hb dX10_mapped_45 (by decide) ?_
      exact hret _ _ _ _ _ o_2 dX10_mapped_47 rfl h hh
    · have h := h.2 c5
      refine lv_aload_n hx hb dX10_mapped_19 rfl (lv_at hl 0 rfl) ?_
      refine lv_iconst (v := 4) hx hb dX10_mapped_20 (by decide) ?_
      refine lv_iload_n hx hb dX10_mapped_21 rfl (lv_at hl 1 rfl) ?_
      refine lv_iconst (v := (-1)) hx hb dX10_mapped_22 (by decide) ?_
      refine lv_iload_n hx hb dX10_mapped_23 rfl (lv_at hl 2 rfl) ?_
      refine lv_iconst (v := 0) hx hb dX10_mapped_24 (by decide) ?_
      refine lv_aload_n hx hb dX10_mapped_25 rfl (lv_at hl 0 rfl) ?_
      refine G_X10_25 [] [] hx hb hT hown hK hh dX10_mapped_26 ?_
      refine lv_iload_n hx hb dX10_mapped_29 rfl (lv_at hl 1 rfl) ?_
      obtain ⟨g6, h⟩ := h
      refine A_X10_6 [] [] hx hb hK hh (v := (o_2.2.2 6) x1.toNatClampNeg) g6 rfl dX10_mapped_30 ?_
      refine lv_iconst (v := 1) hx hb dX10_mapped_31 (by decide) ?_
      refine lv_iadd hx hb dX10_mapped_32 ?_
      refine lv_aload_n hx hb dX10_mapped_33 rfl (lv_at hl 0 rfl) ?_
      refine G_X10_28 [] [] hx hb hT hown hK hh dX10_mapped_34 ?_
      refine lv_iload_n hx hb dX10_mapped_37 rfl (lv_at hl 1 rfl) ?_
      obtain ⟨g7, h⟩ := h
      refine A_X10_7 [] [] hx hb hK hh (v := (o_2.2.2 7) x1.toNatClampNeg) g7 rfl dX10_mapped_38 ?_
      refine kI hh.ap0 hA (rnV hx hb hml hown hT hK hh.ap0 (c_X10_added l D E a  o_2 (4 : Int32) x1 ((-1) : Int32) x2 (0 : Int32) (((o_2.2.2 6) x1.toNatClampNeg) + 1) ((o_2.2.2 7) x1.toNatClampNeg) h _) mf_X10_added kml_X10_132 ⟨rfl, rfl, Nat.le_of_ble_eq_true rfl, Nat.le_of_ble_eq_true rfl⟩ ⟨Nat.le_of_ble_eq_true rfl, Nat.le_of_ble_eq_true rfl⟩ 10 0 rfl rfl hl.1 rfl dX10_mapped_39 (Nat.le_of_ble_eq_true rfl) rfl) (fun r8 o_9 H locs h hh => ?_)
      have hh : Wh D A s.heap ((List.flatten [bX10 a E o_9])) _ _ := hh.un0
      refine lv_goto (tgt := 47) hx hb dX10_mapped_42 (by decide) ?_
      exact hret _ _ _ _ _ o_9 dX10_mapped_47 rfl h hh
  · have h := h.2 c3
    refine lv_iconst (v := (-1)) hx hb dX10_mapped_8 (by decide) ?_
    exact hret _ _ _ _ _ o_2 dX10_mapped_9 rfl h hh

def w_X10_noCheck (x1 : Int32) (o : Ob) (Post : Int32 → Ob → Prop) : Prop := w_X10_in  x1 (0 : Int32) ((o.2.1 21) - 1)  (fun (r1 : Int32) => ((¬ r1 = 0) → Post 0 o) ∧ ((r1 = 0) → Post 1 o))
set_option maxRecDepth 100000 in
set_option maxHeartbeats 4000000 in
theorem c_X10_noCheck (l : Launch) (D : va_G) (E : Nat → ClassId) (a : Nat → Nat)  (o : Ob) (x1 : Int32) {Post : Int32 → Ob → Prop} (h : w_X10_noCheck x1 o Post) : CtI l yX10_noCheck cX10_noCheck 2 .boolean ({ frames := 1, cells := 0, slots := 0, locals := 22 } : Room) D E [.ref (a 0), .int (x1)] (List.flatten [bX10 a E o]) (fun u : Ob => List.flatten [bX10 a E u]) Post 0 0 := by
  refine enI (by decide +kernel) (Nat.le_of_ble_eq_true rfl) ?_
  intro p e s m args below meth c Q A ls hx hb hml hown hT hK hA hret hh hl
  have hl : lv_has ls 2 [(0, .ref (a 0)), (1, .int (x1))] := hl
  unfold w_X10_noCheck at h
  refine lv_iload_n hx hb dX10_noCheck_0 rfl (lv_at hl 1 rfl) ?_
  refine lv_iconst (v := 0) hx hb dX10_noCheck_1 (by decide) ?_
  refine lv_aload_n hx hb dX10_noCheck_2 rfl (lv_at hl 0 rfl) ?_
  refine G_X10_178 [] [] hx hb hT hown hK hh (v := o.2.1 21) rfl dX10_noCheck_3 ?_
  refine lv_iconst (v := 1) hx hb dX10_noCheck_6 (by decide) ?_
  refine lv_isub hx hb dX10_noCheck_7 ?_
  refine kI hh.none hA (rnS hx hb hml hown hT hK hh.none (c_X10_in l D E    x1 (0 : Int32) ((o.2.1 21) - 1) h _) mf_X10_in kml_X10_126 ⟨rfl, rfl, Nat.le_of_ble_eq_true rfl, Nat.le_of_ble_eq_true rfl⟩ ⟨Nat.le_of_ble_eq_true rfl, Nat.le_of_ble_eq_true rfl⟩ hl.1 rfl dX10_noCheck_8 (Nat.le_of_ble_eq_true rfl) rfl) (fun r1 u H locs h hh => ?_)
  have hh : Wh D A s.heap ((List.flatten [bX10 a E o])) _ _ := hh.unone
  refine lv_if_ne (tgt := 18) hx hb dX10_noCheck_11 (by decide) (fun c2 => ?_) (fun c2 => ?_)
  · have h := h.1 c2
    refine lv_iconst (v := 0) hx hb dX10_noCheck_18 (by decide) ?_
    exact hret _ _ _ _ _ o dX10_noCheck_19 rfl h hh
  · have h := h.2 c2
    refine lv_iconst (v := 1) hx hb dX10_noCheck_14 (by decide) ?_
    refine lv_goto (tgt := 19) hx hb dX10_noCheck_15 (by decide) ?_
    exact hret _ _ _ _ _ o dX10_noCheck_19 rfl h hh

def w_X10_picked (x1 : Int32) (x2 : Int32) (o : Ob) (Post : Int32 → Ob → Prop) : Prop := w_X10_noMaker  x1 o (fun (r1 : Int32) (o_2 : Ob) => ((¬ r1 = 0) → Post ((-1)) o_2) ∧ ((r1 = 0) → w_X10_noCheck  x2 o_2 (fun (r4 : Int32) (o_5 : Ob) => ((r4 = 0) → vp_in x1 30 ∧ (((((o_5.2.2 7) x1.toNatClampNeg) = 0) → vp_in x1 30 ∧ (w_X10_added  (5 : Int32) x1 x2 (0 : Int32) (0 : Int32) (((o_5.2.2 6) x1.toNatClampNeg) + 1) (1 : Int32) o_5 (fun (r10 : Int32) (o_11 : Ob) => Post r10 o_11))) ∧ (¬ (((o_5.2.2 7) x1.toNatClampNeg) = 0) → Post ((-3)) o_5))) ∧ (¬ (r4 = 0) → Post ((-1)) o_5))))
set_option maxRecDepth 100000 in
set_option maxHeartbeats 4000000 in
theorem c_X10_picked (l : Launch) (D : va_G) (E : Nat → ClassId) (a : Nat → Nat)  (o : Ob) (x1 : Int32) (x2 : Int32) {Post : Int32 → Ob → Prop} (h : w_X10_picked x1 x2 o Post) : CtI l yX10_picked cX10_picked 3 .int ({ frames := 2, cells := 0, slots := 0, locals := 43 } : Room) D E [.ref (a 0), .int (x1), .int (x2)] (List.flatten [bX10 a E o]) (fun u : Ob => List.flatten [bX10 a E u]) Post 0 0 := by
  refine enI (by decide +kernel) (Nat.le_of_ble_eq_true rfl) ?_
  intro p e s m args below meth c Q A ls hx hb hml hown hT hK hA hret hh hl
  have hl : lv_has ls 3 [(0, .ref (a 0)), (1, .int (x1)), (2, .int (x2))] := hl
  unfold w_X10_picked at h
  refine lv_aload_n hx hb dX10_picked_0 rfl (lv_at hl 0 rfl) ?_
  refine lv_iload_n hx hb dX10_picked_1 rfl (lv_at hl 1 rfl) ?_
  refine kI hh.ap0 hA (rnV hx hb hml hown hT hK hh.ap0 (c_X10_noMaker l D E a  o x1 h _) mf_X10_noMaker kml_X10_136 ⟨rfl, rfl, Nat.le_of_ble_eq_true rfl, Nat.le_of_ble_eq_true rfl⟩ ⟨Nat.le_of_ble_eq_true rfl, Nat.le_of_ble_eq_true rfl⟩ 10 0 rfl rfl hl.1 rfl dX10_picked_2 (Nat.le_of_ble_eq_true rfl) rfl) (fun r1 o_2 H locs h hh => ?_)
  have hh : Wh D A s.heap ((List.flatten [bX10 a E o_2])) _ _ := hh.un0
  refine lv_if_ne (tgt := 16) hx hb dX10_picked_5 (by decide) (fun c3 => ?_) (fun c3 => ?_)
  · have h := h.1 c3
    refine lv_iconst (v := (-1)) hx hb dX10_picked_16 (by decide) ?_
    exact hret _ _ _ _ _ o_2 dX10_picked_17 rfl h hh
  · have h := h.2 c3
    refine lv_aload_n hx hb dX10_picked_8 rfl (lv_at hl 0 rfl) ?_
    refine lv_iload_n hx hb dX10_picked_9 rfl (lv_at hl 2 rfl) ?_
    refine kI hh.ap0 hA (rnV hx hb hml hown hT hK hh.ap0 (c_X10_noCheck l D E a  o_2 x2 h _) mf_X10_noCheck kml_X10_140 ⟨rfl, rfl, Nat.le_of_ble_eq_true rfl, Nat.le_of_ble_eq_true rfl⟩ ⟨Nat.le_of_ble_eq_true rfl, Nat.le_of_ble_eq_true rfl⟩ 10 0 rfl rfl hl.1 rfl dX10_picked_10 (Nat.le_of_ble_eq_true rfl) rfl) (fun r4 o_5 H locs h hh => ?_)
    have hh : Wh D A s.heap ((List.flatten [bX10 a E o_5])) _ _ := hh.un0
    refine lv_if_eq (tgt := 18) hx hb dX10_picked_13 (by decide) (fun c6 => ?_) (fun c6 => ?_)
    · have h := h.1 c6
      refine lv_aload_n hx hb dX10_picked_18 rfl (lv_at hl 0 rfl) ?_
      refine G_X10_28 [] [] hx hb hT hown hK hh dX10_picked_19 ?_
      refine lv_iload_n hx hb dX10_picked_22 rfl (lv_at hl 1 rfl) ?_
      obtain ⟨g7, h⟩ := h
      refine A_X10_7 [] [] hx hb hK hh (v := (o_5.2.2 7) x1.toNatClampNeg) g7 rfl dX10_picked_23 ?_
      refine lv_if_eq (tgt := 32) hx hb dX10_picked_24 (by decide) (fun c8 => ?_) (fun c8 => ?_)
      · have h := h.1 c8
        refine lv_aload_n hx hb dX10_picked_32 rfl (lv_at hl 0 rfl) ?_
        refine lv_iconst (v := 5) hx hb dX10_picked_33 (by decide) ?_
        refine lv_iload_n hx hb dX10_picked_34 rfl (lv_at hl 1 rfl) ?_
        refine lv_iload_n hx hb dX10_picked_35 rfl (lv_at hl 2 rfl) ?_
        refine lv_iconst (v := 0) hx hb dX10_picked_36 (by decide) ?_
        refine lv_iconst (v := 0) hx hb dX10_picked_37 (by decide) ?_
        refine lv_aload_n hx hb dX10_picked_38 rfl (lv_at hl 0 rfl) ?_
        refine G_X10_25 [] [] hx hb hT hown hK hh dX10_picked_39 ?_
        refine lv_iload_n hx hb dX10_picked_42 rfl (lv_at hl 1 rfl) ?_
        obtain ⟨g9, h⟩ := h
        refine A_X10_6 [] [] hx hb hK hh (v := (o_5.2.2 6) x1.toNatClampNeg) g9 rfl dX10_picked_43 ?_
        refine lv_iconst (v := 1) hx hb dX10_picked_44 (by decide) ?_
        refine lv_iadd hx hb dX10_picked_45 ?_
        refine lv_iconst (v := 1) hx hb dX10_picked_46 (by decide) ?_
        refine kI hh.ap0 hA (rnV hx hb hml hown hT hK hh.ap0 (c_X10_added l D E a  o_5 (5 : Int32) x1 x2 (0 : Int32) (0 : Int32) (((o_5.2.2 6) x1.toNatClampNeg) + 1) (1 : Int32) h _) mf_X10_added kml_X10_132 ⟨rfl, rfl, Nat.le_of_ble_eq_true rfl, Nat.le_of_ble_eq_true rfl⟩ ⟨Nat.le_of_ble_eq_true rfl, Nat.le_of_ble_eq_true rfl⟩ 10 0 rfl rfl hl.1 rfl dX10_picked_47 (Nat.le_of_ble_eq_true rfl) rfl) (fun r10 o_11 H locs h hh => ?_)
        have hh : Wh D A s.heap ((List.flatten [bX10 a E o_11])) _ _ := hh.un0
        exact hret _ _ _ _ _ o_11 dX10_picked_50 rfl h hh
      · have h := h.2 c8
        refine lv_bipush (v := (-3)) hx hb dX10_picked_27 (by decide) ?_
        refine lv_goto (tgt := 50) hx hb dX10_picked_29 (by decide) ?_
        exact hret _ _ _ _ _ o_5 dX10_picked_50 rfl h hh
    · have h := h.2 c6
      refine lv_iconst (v := (-1)) hx hb dX10_picked_16 (by decide) ?_
      exact hret _ _ _ _ _ o_5 dX10_picked_17 rfl h hh

def w_X10_shuffled (x1 : Int32) (o : Ob) (Post : Int32 → Ob → Prop) : Prop := w_X10_in  x1 (1 : Int32) (24 : Int32)  (fun (r1 : Int32) => ((r1 = 0) → Post ((-2)) o) ∧ (¬ (r1 = 0) → w_X10_added  (6 : Int32) ((-1) : Int32) ((-1) : Int32) x1 (0 : Int32) x1 (0 : Int32) o (fun (r3 : Int32) (o_4 : Ob) => Post r3 o_4)))
set_option maxRecDepth 100000 in
set_option maxHeartbeats 4000000 in
theorem c_X10_shuffled (l : Launch) (D : va_G) (E : Nat → ClassId) (a : Nat → Nat)  (o : Ob) (x1 : Int32) {Post : Int32 → Ob → Prop} (h : w_X10_shuffled x1 o Post) : CtI l yX10_shuffled cX10_shuffled 2 .int ({ frames := 1, cells := 0, slots := 0, locals := 27 } : Room) D E [.ref (a 0), .int (x1)] (List.flatten [bX10 a E o]) (fun u : Ob => List.flatten [bX10 a E u]) Post 0 0 := by
  refine enI (by decide +kernel) (Nat.le_of_ble_eq_true rfl) ?_
  intro p e s m args below meth c Q A ls hx hb hml hown hT hK hA hret hh hl
  have hl : lv_has ls 2 [(0, .ref (a 0)), (1, .int (x1))] := hl
  unfold w_X10_shuffled at h
  refine lv_iload_n hx hb dX10_shuffled_0 rfl (lv_at hl 1 rfl) ?_
  refine lv_iconst (v := 1) hx hb dX10_shuffled_1 (by decide) ?_
  refine lv_bipush (v := 24) hx hb dX10_shuffled_2 (by decide) ?_
  refine kI hh.none hA (rnS hx hb hml hown hT hK hh.none (c_X10_in l D E    x1 (1 : Int32) (24 : Int32) h _) mf_X10_in kml_X10_126 ⟨rfl, rfl, Nat.le_of_ble_eq_true rfl, Nat.le_of_ble_eq_true rfl⟩ ⟨Nat.le_of_ble_eq_true rfl, Nat.le_of_ble_eq_true rfl⟩ hl.1 rfl dX10_shuffled_4 (Nat.le_of_ble_eq_true rfl) rfl) (fun r1 u H locs h hh => ?_)
  have hh : Wh D A s.heap ((List.flatten [bX10 a E o])) _ _ := hh.unone
  refine lv_if_eq (tgt := 25) hx hb dX10_shuffled_7 (by decide) (fun c2 => ?_) (fun c2 => ?_)
  · have h := h.1 c2
    refine lv_bipush (v := (-2)) hx hb dX10_shuffled_25 (by decide) ?_
    exact hret _ _ _ _ _ o dX10_shuffled_27 rfl h hh
  · have h := h.2 c2
    refine lv_aload_n hx hb dX10_shuffled_10 rfl (lv_at hl 0 rfl) ?_
    refine lv_bipush (v := 6) hx hb dX10_shuffled_11 (by decide) ?_
    refine lv_iconst (v := (-1)) hx hb dX10_shuffled_13 (by decide) ?_
    refine lv_iconst (v := (-1)) hx hb dX10_shuffled_14 (by decide) ?_
    refine lv_iload_n hx hb dX10_shuffled_15 rfl (lv_at hl 1 rfl) ?_
    refine lv_iconst (v := 0) hx hb dX10_shuffled_16 (by decide) ?_
    refine lv_iload_n hx hb dX10_shuffled_17 rfl (lv_at hl 1 rfl) ?_
    refine lv_iconst (v := 0) hx hb dX10_shuffled_18 (by decide) ?_
    refine kI hh.ap0 hA (rnV hx hb hml hown hT hK hh.ap0 (c_X10_added l D E a  o (6 : Int32) ((-1) : Int32) ((-1) : Int32) x1 (0 : Int32) x1 (0 : Int32) h _) mf_X10_added kml_X10_132 ⟨rfl, rfl, Nat.le_of_ble_eq_true rfl, Nat.le_of_ble_eq_true rfl⟩ ⟨Nat.le_of_ble_eq_true rfl, Nat.le_of_ble_eq_true rfl⟩ 10 0 rfl rfl hl.1 rfl dX10_shuffled_19 (Nat.le_of_ble_eq_true rfl) rfl) (fun r3 o_4 H locs h hh => ?_)
    have hh : Wh D A s.heap ((List.flatten [bX10 a E o_4])) _ _ := hh.un0
    refine lv_goto (tgt := 27) hx hb dX10_shuffled_22 (by decide) ?_
    exact hret _ _ _ _ _ o_4 dX10_shuffled_27 rfl h hh

def w_X10_below (x1 : Int32) (o : Ob) (Post : Int32 → Ob → Prop) : Prop := w_X10_noMaker  x1 o (fun (r1 : Int32) (o_2 : Ob) => ((r1 = 0) → vp_in x1 30 ∧ (vp_in x1 30 ∧ (w_X10_added  (7 : Int32) x1 ((-1) : Int32) (0 : Int32) (0 : Int32) (((o_2.2.2 6) x1.toNatClampNeg) + 1) ((o_2.2.2 7) x1.toNatClampNeg) o_2 (fun (r6 : Int32) (o_7 : Ob) => Post r6 o_7)))) ∧ (¬ (r1 = 0) → Post ((-1)) o_2))
set_option maxRecDepth 100000 in
set_option maxHeartbeats 4000000 in
theorem c_X10_below (l : Launch) (D : va_G) (E : Nat → ClassId) (a : Nat → Nat)  (o : Ob) (x1 : Int32) {Post : Int32 → Ob → Prop} (h : w_X10_below x1 o Post) : CtI l yX10_below cX10_below 2 .int ({ frames := 2, cells := 0, slots := 0, locals := 43 } : Room) D E [.ref (a 0), .int (x1)] (List.flatten [bX10 a E o]) (fun u : Ob => List.flatten [bX10 a E u]) Post 0 0 := by
  refine enI (by decide +kernel) (Nat.le_of_ble_eq_true rfl) ?_
  intro p e s m args below meth c Q A ls hx hb hml hown hT hK hA hret hh hl
  have hl : lv_has ls 2 [(0, .ref (a 0)), (1, .int (x1))] := hl
  unfold w_X10_below at h
  refine lv_aload_n hx hb dX10_below_0 rfl (lv_at hl 0 rfl) ?_
  refine lv_iload_n hx hb dX10_below_1 rfl (lv_at hl 1 rfl) ?_
  refine kI hh.ap0 hA (rnV hx hb hml hown hT hK hh.ap0 (c_X10_noMaker l D E a  o x1 h _) mf_X10_noMaker kml_X10_136 ⟨rfl, rfl, Nat.le_of_ble_eq_true rfl, Nat.le_of_ble_eq_true rfl⟩ ⟨Nat.le_of_ble_eq_true rfl, Nat.le_of_ble_eq_true rfl⟩ 10 0 rfl rfl hl.1 rfl dX10_below_2 (Nat.le_of_ble_eq_true rfl) rfl) (fun r1 o_2 H locs h hh => ?_)
  have hh : Wh D A s.heap ((List.flatten [bX10 a E o_2])) _ _ := hh.un0
  refine lv_if_eq (tgt := 12) hx hb dX10_below_5 (by decide) (fun c3 => ?_) (fun c3 => ?_)
  · have h := h.1 c3
    refine lv_aload_n hx hb dX10_below_12 rfl (lv_at hl 0 rfl) ?_
    refine lv_bipush (v := 7) hx hb dX10_below_13 (by decide) ?_
    refine lv_iload_n hx hb dX10_below_15 rfl (lv_at hl 1 rfl) ?_
    refine lv_iconst (v := (-1)) hx hb dX10_below_16 (by decide) ?_
    refine lv_iconst (v := 0) hx hb dX10_below_17 (by decide) ?_
    refine lv_iconst (v := 0) hx hb dX10_below_18 (by decide) ?_
    refine lv_aload_n hx hb dX10_below_19 rfl (lv_at hl 0 rfl) ?_
    refine G_X10_25 [] [] hx hb hT hown hK hh dX10_below_20 ?_
    refine lv_iload_n hx hb dX10_below_23 rfl (lv_at hl 1 rfl) ?_
    obtain ⟨g4, h⟩ := h
    refine A_X10_6 [] [] hx hb hK hh (v := (o_2.2.2 6) x1.toNatClampNeg) g4 rfl dX10_below_24 ?_
    refine lv_iconst (v := 1) hx hb dX10_below_25 (by decide) ?_
    refine lv_iadd hx hb dX10_below_26 ?_
    refine lv_aload_n hx hb dX10_below_27 rfl (lv_at hl 0 rfl) ?_
    refine G_X10_28 [] [] hx hb hT hown hK hh dX10_below_28 ?_
    refine lv_iload_n hx hb dX10_below_31 rfl (lv_at hl 1 rfl) ?_
    obtain ⟨g5, h⟩ := h
    refine A_X10_7 [] [] hx hb hK hh (v := (o_2.2.2 7) x1.toNatClampNeg) g5 rfl dX10_below_32 ?_
    refine kI hh.ap0 hA (rnV hx hb hml hown hT hK hh.ap0 (c_X10_added l D E a  o_2 (7 : Int32) x1 ((-1) : Int32) (0 : Int32) (0 : Int32) (((o_2.2.2 6) x1.toNatClampNeg) + 1) ((o_2.2.2 7) x1.toNatClampNeg) h _) mf_X10_added kml_X10_132 ⟨rfl, rfl, Nat.le_of_ble_eq_true rfl, Nat.le_of_ble_eq_true rfl⟩ ⟨Nat.le_of_ble_eq_true rfl, Nat.le_of_ble_eq_true rfl⟩ 10 0 rfl rfl hl.1 rfl dX10_below_33 (Nat.le_of_ble_eq_true rfl) rfl) (fun r6 o_7 H locs h hh => ?_)
    have hh : Wh D A s.heap ((List.flatten [bX10 a E o_7])) _ _ := hh.un0
    exact hret _ _ _ _ _ o_7 dX10_below_36 rfl h hh
  · have h := h.2 c3
    refine lv_iconst (v := (-1)) hx hb dX10_below_8 (by decide) ?_
    refine lv_goto (tgt := 36) hx hb dX10_below_9 (by decide) ?_
    exact hret _ _ _ _ _ o_2 dX10_below_36 rfl h hh

def w_X10_maker (x1 : Int32) (x2 : Int32) (o : Ob) (Post : Int32 → Ob → Prop) : Prop := w_X10_noMaker  x1 o (fun (r1 : Int32) (o_2 : Ob) => ((r1 = 0) → ((¬ x2 = 0) → ((¬ x2 = 1) → ((¬ x2 = 2) → Post ((-2)) o_2) ∧ ((x2 = 2) → vp_in x1 30 ∧ (((((o_2.2.2 7) x1.toNatClampNeg) = 0) → Post 0 o_2) ∧ (¬ (((o_2.2.2 7) x1.toNatClampNeg) = 0) → Post 1 o_2)))) ∧ ((x2 = 1) → vp_in x1 30 ∧ (Post ((o_2.2.2 6) x1.toNatClampNeg) o_2))) ∧ ((x2 = 0) → vp_in x1 30 ∧ (Post ((o_2.2.2 1) x1.toNatClampNeg) o_2))) ∧ (¬ (r1 = 0) → Post ((-1)) o_2))
set_option maxRecDepth 100000 in
set_option maxHeartbeats 4000000 in
theorem c_X10_maker (l : Launch) (D : va_G) (E : Nat → ClassId) (a : Nat → Nat)  (o : Ob) (x1 : Int32) (x2 : Int32) {Post : Int32 → Ob → Prop} (h : w_X10_maker x1 x2 o Post) : CtI l yX10_maker cX10_maker 3 .int ({ frames := 2, cells := 0, slots := 0, locals := 43 } : Room) D E [.ref (a 0), .int (x1), .int (x2)] (List.flatten [bX10 a E o]) (fun u : Ob => List.flatten [bX10 a E u]) Post 0 0 := by
  refine enI (by decide +kernel) (Nat.le_of_ble_eq_true rfl) ?_
  intro p e s m args below meth c Q A ls hx hb hml hown hT hK hA hret hh hl
  have hl : lv_has ls 3 [(0, .ref (a 0)), (1, .int (x1)), (2, .int (x2))] := hl
  unfold w_X10_maker at h
  refine lv_aload_n hx hb dX10_maker_0 rfl (lv_at hl 0 rfl) ?_
  refine lv_iload_n hx hb dX10_maker_1 rfl (lv_at hl 1 rfl) ?_
  refine kI hh.ap0 hA (rnV hx hb hml hown hT hK hh.ap0 (c_X10_noMaker l D E a  o x1 h _) mf_X10_noMaker kml_X10_136 ⟨rfl, rfl, Nat.le_of_ble_eq_true rfl, Nat.le_of_ble_eq_true rfl⟩ ⟨Nat.le_of_ble_eq_true rfl, Nat.le_of_ble_eq_true rfl⟩ 10 0 rfl rfl hl.1 rfl dX10_maker_2 (Nat.le_of_ble_eq_true rfl) rfl) (fun r1 o_2 H locs h hh => ?_)
  have hh : Wh D A s.heap ((List.flatten [bX10 a E o_2])) _ _ := hh.un0
  refine lv_if_eq (tgt := 10) hx hb dX10_maker_5 (by decide) (fun c3 => ?_) (fun c3 => ?_)
  · have h := h.1 c3
    refine lv_iload_n hx hb dX10_maker_10 rfl (lv_at hl 2 rfl) ?_
    refine lv_if_ne (tgt := 23) hx hb dX10_maker_11 (by decide) (fun c4 => ?_) (fun c4 => ?_)
    · have h := h.1 c4
      refine lv_iload_n hx hb dX10_maker_23 rfl (lv_at hl 2 rfl) ?_
      refine lv_iconst (v := 1) hx hb dX10_maker_24 (by decide) ?_
      refine lv_icmp_ne (tgt := 37) hx hb dX10_maker_25 (by decide) (fun c5 => ?_) (fun c5 => ?_)
      · have h := h.1 c5
        refine lv_iload_n hx hb dX10_maker_37 rfl (lv_at hl 2 rfl) ?_
        refine lv_iconst (v := 2) hx hb dX10_maker_38 (by decide) ?_
        refine lv_icmp_ne (tgt := 59) hx hb dX10_maker_39 (by decide) (fun c6 => ?_) (fun c6 => ?_)
        · have h := h.1 c6
          refine lv_bipush (v := (-2)) hx hb dX10_maker_59 (by decide) ?_
          exact hret _ _ _ _ _ o_2 dX10_maker_61 rfl h hh
        · have h := h.2 c6
          refine lv_aload_n hx hb dX10_maker_42 rfl (lv_at hl 0 rfl) ?_
          refine G_X10_28 [] [] hx hb hT hown hK hh dX10_maker_43 ?_
          refine lv_iload_n hx hb dX10_maker_46 rfl (lv_at hl 1 rfl) ?_
          obtain ⟨g7, h⟩ := h
          refine A_X10_7 [] [] hx hb hK hh (v := (o_2.2.2 7) x1.toNatClampNeg) g7 rfl dX10_maker_47 ?_
          refine lv_if_eq (tgt := 55) hx hb dX10_maker_48 (by decide) (fun c8 => ?_) (fun c8 => ?_)
          · have h := h.1 c8
            refine lv_iconst (v := 0) hx hb dX10_maker_55 (by decide) ?_
            refine lv_goto (tgt := 61) hx hb dX10_maker_56 (by decide) ?_
            exact hret _ _ _ _ _ o_2 dX10_maker_61 rfl h hh
          · have h := h.2 c8
            refine lv_iconst (v := 1) hx hb dX10_maker_51 (by decide) ?_
            refine lv_goto (tgt := 61) hx hb dX10_maker_52 (by decide) ?_
            exact hret _ _ _ _ _ o_2 dX10_maker_61 rfl h hh
      · have h := h.2 c5
        refine lv_aload_n hx hb dX10_maker_28 rfl (lv_at hl 0 rfl) ?_
        refine G_X10_25 [] [] hx hb hT hown hK hh dX10_maker_29 ?_
        refine lv_iload_n hx hb dX10_maker_32 rfl (lv_at hl 1 rfl) ?_
        obtain ⟨g9, h⟩ := h
        refine A_X10_6 [] [] hx hb hK hh (v := (o_2.2.2 6) x1.toNatClampNeg) g9 rfl dX10_maker_33 ?_
        refine lv_goto (tgt := 61) hx hb dX10_maker_34 (by decide) ?_
        exact hret _ _ _ _ _ o_2 dX10_maker_61 rfl h hh
    · have h := h.2 c4
      refine lv_aload_n hx hb dX10_maker_14 rfl (lv_at hl 0 rfl) ?_
      refine G_X10_7 [] [] hx hb hT hown hK hh dX10_maker_15 ?_
      refine lv_iload_n hx hb dX10_maker_18 rfl (lv_at hl 1 rfl) ?_
      obtain ⟨g10, h⟩ := h
      refine A_X10_1 [] [] hx hb hK hh (v := (o_2.2.2 1) x1.toNatClampNeg) g10 rfl dX10_maker_19 ?_
      refine lv_goto (tgt := 61) hx hb dX10_maker_20 (by decide) ?_
      exact hret _ _ _ _ _ o_2 dX10_maker_61 rfl h hh
  · have h := h.2 c3
    refine lv_iconst (v := (-1)) hx hb dX10_maker_8 (by decide) ?_
    exact hret _ _ _ _ _ o_2 dX10_maker_9 rfl h hh

def w_X10_copyRow_L2 (f1_2 : Int32) (f2_2 : Int32) (K66_2 : Ob → Prop) (Post : Ob → Prop) : Nat → Int32 → Ob → Prop
  | 0, _, _ => False
  | n2 + 1, p3_2, o_2 => vp_in f1_2 5 ∧ (((((o_2.2.2 8) f1_2.toNatClampNeg) ≤ p3_2) → K66_2 o_2) ∧ (¬ (((o_2.2.2 8) f1_2.toNatClampNeg) ≤ p3_2) → vp_in ((1000 * f1_2) + p3_2) 5000 ∧ (vp_in ((1000 * f2_2) + p3_2) 5000 ∧ (vp_in ((1000 * f1_2) + p3_2) 5000 ∧ (vp_in ((1000 * f2_2) + p3_2) 5000 ∧ (w_X10_copyRow_L2 f1_2 f2_2 K66_2 Post n2 (p3_2 + 1) ((o_2.1, o_2.2.1, (sa (sa o_2.2.2 9 (upd (o_2.2.2 9) ((1000 * f2_2) + p3_2).toNatClampNeg ((o_2.2.2 9) ((1000 * f1_2) + p3_2).toNatClampNeg))) 10 (upd (o_2.2.2 10) ((1000 * f2_2) + p3_2).toNatClampNeg ((o_2.2.2 10) ((1000 * f1_2) + p3_2).toNatClampNeg)))))))))))
def w_X10_copyRow (x1 : Int32) (x2 : Int32) (o : Ob) (Post : Ob → Prop) : Prop := ∃ n2, w_X10_copyRow_L2 x1 x2 (fun (o_k66 : Ob) => vp_in x1 5 ∧ (vp_in x2 5 ∧ (Post ((o_k66.1, o_k66.2.1, (sa o_k66.2.2 8 (upd (o_k66.2.2 8) x2.toNatClampNeg ((o_k66.2.2 8) x1.toNatClampNeg)))))))) Post n2 0 o
set_option maxRecDepth 100000 in
set_option maxHeartbeats 4000000 in
theorem c_X10_copyRow (l : Launch) (D : va_G) (E : Nat → ClassId) (a : Nat → Nat)  (o : Ob) (x1 : Int32) (x2 : Int32) {Post : Ob → Prop} (h : w_X10_copyRow x1 x2 o Post) : CtV l yX10_copyRow cX10_copyRow 4 ({ frames := 0, cells := 0, slots := 0, locals := 0 } : Room) D E [.ref (a 0), .int (x1), .int (x2)] (List.flatten [bX10 a E o]) (fun u : Ob => List.flatten [bX10 a E u]) Post 0 0 := by
  refine enV (by decide +kernel) (Nat.le_of_ble_eq_true rfl) ?_
  intro p e s m args below meth c Q A ls hx hb hml hown hT hK hA hin0 hret hh hl
  have hl : lv_has ls 4 [(0, .ref (a 0)), (1, .int (x1)), (2, .int (x2))] := hl
  unfold w_X10_copyRow at h
  refine lv_iconst (v := 0) hx hb dX10_copyRow_0 (by decide) ?_
  refine lv_istore_n (lv' := [(3, .int (0)), (0, .ref (a 0)), (1, .int (x1)), (2, .int (x2))]) hx hb dX10_copyRow_1 rfl hl (by decide) rfl (fun ls hl => ?_)
  have hw2 : ∀ (K66_2 : Ob → Prop) (hK66_2 : ∀ (o_k66 : Ob) (H : Heap) (locs : List Loc) (ls : Array Slot), K66_2 o_k66 → Wh D A s.heap ((List.flatten [bX10 a E o_k66])) H locs → lv_has ls 4 [(0, .ref (a 0)), (1, .int (x1)), (2, .int (x2))] → W p l e ({ frames := 0, cells := 0, slots := 0, locals := 0 } : Room) s m args below meth c H locs 0 0 Q (F0 m 66 ls [])) (n : Nat) (p3_2 : Int32) (o_2 : Ob) (H : Heap) (locs : List Loc) (ls : Array Slot), w_X10_copyRow_L2 x1 x2 K66_2 Post n p3_2 o_2 → Wh D A s.heap ((List.flatten [bX10 a E o_2])) H locs → lv_has ls 4 [(0, .ref (a 0)), (1, .int (x1)), (2, .int (x2)), (3, .int (p3_2))] → W p l e ({ frames := 0, cells := 0, slots := 0, locals := 0 } : Room) s m args below meth c H locs 0 0 Q (F0 m 2 ls []) := by
    intro K66_2 hK66_2 n
    induction n with
    | zero => intro p3_2 o_2 H locs ls h hh hl; exact False.elim h
    | succ n ih =>
      intro p3_2 o_2 H locs ls h hh hl
      refine lv_iload_n hx hb dX10_copyRow_2 rfl (lv_at hl 3 rfl) ?_
      refine lv_aload_n hx hb dX10_copyRow_3 rfl (lv_at hl 0 rfl) ?_
      refine G_X10_32 [] [] hx hb hT hown hK hh dX10_copyRow_4 ?_
      refine lv_iload_n hx hb dX10_copyRow_7 rfl (lv_at hl 1 rfl) ?_
      obtain ⟨g1, h⟩ := h
      refine A_X10_8 [] [] hx hb hK hh (v := (o_2.2.2 8) x1.toNatClampNeg) g1 rfl dX10_copyRow_8 ?_
      refine lv_icmp_ge (tgt := 66) hx hb dX10_copyRow_9 (by decide) (fun c2 => ?_) (fun c2 => ?_)
      · have h := h.1 c2
        exact hK66_2 o_2 _ _ _ h hh (lv_sub hl [0, 1, 2] rfl)
      · have h := h.2 c2
        refine lv_aload_n hx hb dX10_copyRow_12 rfl (lv_at hl 0 rfl) ?_
        refine G_X10_35 [] [] hx hb hT hown hK hh dX10_copyRow_13 ?_
        refine lv_sipush (v := 1000) hx hb dX10_copyRow_16 (by decide) ?_
        refine lv_iload_n hx hb dX10_copyRow_19 rfl (lv_at hl 2 rfl) ?_
        refine lv_imul hx hb dX10_copyRow_20 ?_
        refine lv_iload_n hx hb dX10_copyRow_21 rfl (lv_at hl 3 rfl) ?_
        refine lv_iadd hx hb dX10_copyRow_22 ?_
        refine lv_aload_n hx hb dX10_copyRow_23 rfl (lv_at hl 0 rfl) ?_
        refine G_X10_35 [] [] hx hb hT hown hK hh dX10_copyRow_24 ?_
        refine lv_sipush (v := 1000) hx hb dX10_copyRow_27 (by decide) ?_
        refine lv_iload_n hx hb dX10_copyRow_30 rfl (lv_at hl 1 rfl) ?_
        refine lv_imul hx hb dX10_copyRow_31 ?_
        refine lv_iload_n hx hb dX10_copyRow_32 rfl (lv_at hl 3 rfl) ?_
        refine lv_iadd hx hb dX10_copyRow_33 ?_
        obtain ⟨g3, h⟩ := h
        refine A_X10_9 [] [] hx hb hK hh (v := (o_2.2.2 9) ((1000 * x1) + p3_2).toNatClampNeg) g3 rfl dX10_copyRow_34 ?_
        obtain ⟨g4, h⟩ := h
        refine S_X10_9 [] [] hx hb hK hh g4 dX10_copyRow_35 (fun H locs (hh : Wh D A s.heap ((List.flatten [bX10 a E ((o_2.1, o_2.2.1, (sa o_2.2.2 9 (upd (o_2.2.2 9) ((1000 * x2) + p3_2).toNatClampNeg ((o_2.2.2 9) ((1000 * x1) + p3_2).toNatClampNeg)))))])) H locs) => ?_)
        refine lv_aload_n hx hb dX10_copyRow_36 rfl (lv_at hl 0 rfl) ?_
        refine G_X10_38 [] [] hx hb hT hown hK hh dX10_copyRow_37 ?_
        refine lv_sipush (v := 1000) hx hb dX10_copyRow_40 (by decide) ?_
        refine lv_iload_n hx hb dX10_copyRow_43 rfl (lv_at hl 2 rfl) ?_
        refine lv_imul hx hb dX10_copyRow_44 ?_
        refine lv_iload_n hx hb dX10_copyRow_45 rfl (lv_at hl 3 rfl) ?_
        refine lv_iadd hx hb dX10_copyRow_46 ?_
        refine lv_aload_n hx hb dX10_copyRow_47 rfl (lv_at hl 0 rfl) ?_
        refine G_X10_38 [] [] hx hb hT hown hK hh dX10_copyRow_48 ?_
        refine lv_sipush (v := 1000) hx hb dX10_copyRow_51 (by decide) ?_
        refine lv_iload_n hx hb dX10_copyRow_54 rfl (lv_at hl 1 rfl) ?_
        refine lv_imul hx hb dX10_copyRow_55 ?_
        refine lv_iload_n hx hb dX10_copyRow_56 rfl (lv_at hl 3 rfl) ?_
        refine lv_iadd hx hb dX10_copyRow_57 ?_
        obtain ⟨g5, h⟩ := h
        refine A_X10_10 [] [] hx hb hK hh (v := (o_2.2.2 10) ((1000 * x1) + p3_2).toNatClampNeg) g5 rfl dX10_copyRow_58 ?_
        obtain ⟨g6, h⟩ := h
        refine S_X10_10 [] [] hx hb hK hh g6 dX10_copyRow_59 (fun H locs (hh : Wh D A s.heap ((List.flatten [bX10 a E ((o_2.1, o_2.2.1, (sa (sa o_2.2.2 9 (upd (o_2.2.2 9) ((1000 * x2) + p3_2).toNatClampNeg ((o_2.2.2 9) ((1000 * x1) + p3_2).toNatClampNeg))) 10 (upd (o_2.2.2 10) ((1000 * x2) + p3_2).toNatClampNeg ((o_2.2.2 10) ((1000 * x1) + p3_2).toNatClampNeg)))))])) H locs) => ?_)
        refine lv_iinc (v := p3_2 + 1) (lv' := [(3, .int (p3_2 + 1)), (0, .ref (a 0)), (1, .int (x1)), (2, .int (x2))]) hx hb dX10_copyRow_60 hl (k := 3) rfl (by rfl) (by decide) rfl (fun ls hl => ?_)
        refine lv_goto (tgt := 2) hx hb dX10_copyRow_63 (by decide) ?_
        exact ih (p3_2 + 1) ((o_2.1, o_2.2.1, (sa (sa o_2.2.2 9 (upd (o_2.2.2 9) ((1000 * x2) + p3_2).toNatClampNeg ((o_2.2.2 9) ((1000 * x1) + p3_2).toNatClampNeg))) 10 (upd (o_2.2.2 10) ((1000 * x2) + p3_2).toNatClampNeg ((o_2.2.2 10) ((1000 * x1) + p3_2).toNatClampNeg))))) _ _ _ h hh (lv_sub hl [1, 2, 3, 0] rfl)
  obtain ⟨n, h⟩ := h
  refine hw2 _ (fun o_k66 H locs ls h hh hl => ?_) n 0 o _ _ _ h hh (lv_sub hl [1, 2, 3, 0] rfl)
  refine lv_aload_n hx hb dX10_copyRow_66 rfl (lv_at hl 0 rfl) ?_
  refine G_X10_32 [] [] hx hb hT hown hK hh dX10_copyRow_67 ?_
  refine lv_iload_n hx hb dX10_copyRow_70 rfl (lv_at hl 2 rfl) ?_
  refine lv_aload_n hx hb dX10_copyRow_71 rfl (lv_at hl 0 rfl) ?_
  refine G_X10_32 [] [] hx hb hT hown hK hh dX10_copyRow_72 ?_
  refine lv_iload_n hx hb dX10_copyRow_75 rfl (lv_at hl 1 rfl) ?_
  obtain ⟨g7, h⟩ := h
  refine A_X10_8 [] [] hx hb hK hh (v := (o_k66.2.2 8) x1.toNatClampNeg) g7 rfl dX10_copyRow_76 ?_
  obtain ⟨g8, h⟩ := h
  refine S_X10_8 [] [] hx hb hK hh g8 dX10_copyRow_77 (fun H locs (hh : Wh D A s.heap ((List.flatten [bX10 a E ((o_k66.1, o_k66.2.1, (sa o_k66.2.2 8 (upd (o_k66.2.2 8) x2.toNatClampNeg ((o_k66.2.2 8) x1.toNatClampNeg)))))])) H locs) => ?_)
  exact hret _ _ _ _ (o_k66.1, o_k66.2.1, (sa o_k66.2.2 8 (upd (o_k66.2.2 8) x2.toNatClampNeg ((o_k66.2.2 8) x1.toNatClampNeg)))) dX10_copyRow_78 h hh

def w_X10_parts (x1 : Int32) (o : Ob) (Post : Int32 → Ob → Prop) : Prop := vp_in x1 5000 ∧ (((0 ≤ ((o.2.2 9) x1.toNatClampNeg)) → vp_in ((o.2.2 9) x1.toNatClampNeg) 30 ∧ (((((o.2.2 1) ((o.2.2 9) x1.toNatClampNeg).toNatClampNeg) = 0) → Post 0 o) ∧ ((((o.2.2 1) ((o.2.2 9) x1.toNatClampNeg).toNatClampNeg) = 1 ∨ ((o.2.2 1) ((o.2.2 9) x1.toNatClampNeg).toNatClampNeg) = 6) → vp_in x1 5000 ∧ (Post ((o.2.2 10) x1.toNatClampNeg) o)) ∧ ((((o.2.2 1) ((o.2.2 9) x1.toNatClampNeg).toNatClampNeg) = 2) → Post 2 o) ∧ ((¬ ((o.2.2 1) ((o.2.2 9) x1.toNatClampNeg).toNatClampNeg) = 0 ∧ ¬ ((o.2.2 1) ((o.2.2 9) x1.toNatClampNeg).toNatClampNeg) = 1 ∧ ¬ ((o.2.2 1) ((o.2.2 9) x1.toNatClampNeg).toNatClampNeg) = 6 ∧ ¬ ((o.2.2 1) ((o.2.2 9) x1.toNatClampNeg).toNatClampNeg) = 2) → Post 1 o))) ∧ (¬ (0 ≤ ((o.2.2 9) x1.toNatClampNeg)) → Post 0 o))
set_option maxRecDepth 100000 in
set_option maxHeartbeats 4000000 in
theorem c_X10_parts (l : Launch) (D : va_G) (E : Nat → ClassId) (a : Nat → Nat)  (o : Ob) (x1 : Int32) {Post : Int32 → Ob → Prop} (h : w_X10_parts x1 o Post) : CtI l yX10_parts cX10_parts 3 .int ({ frames := 0, cells := 0, slots := 0, locals := 0 } : Room) D E [.ref (a 0), .int (x1)] (List.flatten [bX10 a E o]) (fun u : Ob => List.flatten [bX10 a E u]) Post 0 0 := by
  refine enI (by decide +kernel) (Nat.le_of_ble_eq_true rfl) ?_
  intro p e s m args below meth c Q A ls hx hb hml hown hT hK hA hret hh hl
  have hl : lv_has ls 3 [(0, .ref (a 0)), (1, .int (x1))] := hl
  unfold w_X10_parts at h
  refine lv_aload_n hx hb dX10_parts_0 rfl (lv_at hl 0 rfl) ?_
  refine G_X10_35 [] [] hx hb hT hown hK hh dX10_parts_1 ?_
  refine lv_iload_n hx hb dX10_parts_4 rfl (lv_at hl 1 rfl) ?_
  obtain ⟨g1, h⟩ := h
  refine A_X10_9 [] [] hx hb hK hh (v := (o.2.2 9) x1.toNatClampNeg) g1 rfl dX10_parts_5 ?_
  refine lv_istore_n (lv' := [(2, .int ((o.2.2 9) x1.toNatClampNeg)), (0, .ref (a 0)), (1, .int (x1))]) hx hb dX10_parts_6 rfl hl (by decide) rfl (fun ls hl => ?_)
  refine lv_iload_n hx hb dX10_parts_7 rfl (lv_at hl 0 rfl) ?_
  refine lv_if_ge (tgt := 13) hx hb dX10_parts_8 (by decide) (fun c2 => ?_) (fun c2 => ?_)
  · have h := h.1 c2
    refine lv_aload_n hx hb dX10_parts_13 rfl (lv_at hl 1 rfl) ?_
    refine G_X10_7 [] [] hx hb hT hown hK hh dX10_parts_14 ?_
    refine lv_iload_n hx hb dX10_parts_17 rfl (lv_at hl 0 rfl) ?_
    obtain ⟨g3, h⟩ := h
    refine A_X10_1 [] [] hx hb hK hh (v := (o.2.2 1) ((o.2.2 9) x1.toNatClampNeg).toNatClampNeg) g3 rfl dX10_parts_18 ?_
    by_cases c4 : ((o.2.2 1) ((o.2.2 9) x1.toNatClampNeg).toNatClampNeg) = 0
    · have h := h.1 c4
      refine lv_tableIn (off := 41) (tgt := 60) hx hb dX10_parts_19 (by rw [c4]; decide) (by rw [c4]; decide) (by rw [c4]; rfl) (by decide) ?_
      refine lv_iconst (v := 0) hx hb dX10_parts_60 (by decide) ?_
      exact hret _ _ _ _ _ o dX10_parts_61 rfl h hh
    · by_cases c6 : ((o.2.2 1) ((o.2.2 9) x1.toNatClampNeg).toNatClampNeg) = 1 ∨ ((o.2.2 1) ((o.2.2 9) x1.toNatClampNeg).toNatClampNeg) = 6
      · have h := h.2.1 c6
        refine q_swIn (tgt := 62) (off := 43) hx hb dX10_parts_19 (by rcases c6 with c6 | c6 <;> rw [c6] <;> decide) (by decide) ?_
        refine lv_aload_n hx hb dX10_parts_62 rfl (lv_at hl 1 rfl) ?_
        refine G_X10_38 [] [] hx hb hT hown hK hh dX10_parts_63 ?_
        refine lv_iload_n hx hb dX10_parts_66 rfl (lv_at hl 2 rfl) ?_
        obtain ⟨g5, h⟩ := h
        refine A_X10_10 [] [] hx hb hK hh (v := (o.2.2 10) x1.toNatClampNeg) g5 rfl dX10_parts_67 ?_
        exact hret _ _ _ _ _ o dX10_parts_68 rfl h hh
      · by_cases c7 : ((o.2.2 1) ((o.2.2 9) x1.toNatClampNeg).toNatClampNeg) = 2
        · have h := h.2.2.1 c7
          refine lv_tableIn (off := 50) (tgt := 69) hx hb dX10_parts_19 (by rw [c7]; decide) (by rw [c7]; decide) (by rw [c7]; rfl) (by decide) ?_
          refine lv_iconst (v := 2) hx hb dX10_parts_69 (by decide) ?_
          exact hret _ _ _ _ _ o dX10_parts_70 rfl h hh
        · have h := h.2.2.2 ⟨c4, (fun z => c6 (Or.inl z)), (fun z => c6 (Or.inr (z))), c7⟩
          refine q_swD (tgt := 71) hx hb dX10_parts_19 (fun i h1 h2 he => (show i = 0 ∨ i = 1 ∨ i = 2 ∨ i = 3 ∨ i = 4 ∨ i = 5 ∨ i = 6 by omega).elim (fun z => absurd (q_oi he z (by decide)) c4) (fun z => z.elim (fun z => absurd (q_oi he z (by decide)) (fun z => c6 (Or.inl z))) (fun z => z.elim (fun z => absurd (q_oi he z (by decide)) c7) (fun z => z.elim (fun z => by rw [z]; rfl) (fun z => z.elim (fun z => by rw [z]; rfl) (fun z => z.elim (fun z => by rw [z]; rfl) (fun z => absurd (q_oi he z (by decide)) (fun z => c6 (Or.inr (z)))))))))) (by decide) ?_
          refine lv_iconst (v := 1) hx hb dX10_parts_71 (by decide) ?_
          exact hret _ _ _ _ _ o dX10_parts_72 rfl h hh
  · have h := h.2 c2
    refine lv_iconst (v := 0) hx hb dX10_parts_11 (by decide) ?_
    exact hret _ _ _ _ _ o dX10_parts_12 rfl h hh

def w_X10_endOf_L5 (f1_5 : Int32)  (Post : Int32 → Ob → Prop) : Nat → Int32 → Int32 → Ob → Prop
  | 0, _, _, _ => False
  | n5 + 1, p3_5, p4_5, o_5 => ((p3_5 ≤ 0) → Post p4_5 o_5) ∧ (¬ (p3_5 ≤ 0) → w_X10_parts  ((1000 * f1_5) + p4_5) o_5 (fun (r2 : Int32) (o_3 : Ob) => w_X10_endOf_L5 f1_5  Post n5 (p3_5 + (r2 - 1)) (p4_5 + 1) o_3))
def w_X10_endOf (x1 : Int32) (x2 : Int32) (o : Ob) (Post : Int32 → Ob → Prop) : Prop := ∃ n5, w_X10_endOf_L5 x1  Post n5 1 x2 o
set_option maxRecDepth 100000 in
set_option maxHeartbeats 4000000 in
theorem c_X10_endOf (l : Launch) (D : va_G) (E : Nat → ClassId) (a : Nat → Nat)  (o : Ob) (x1 : Int32) (x2 : Int32) {Post : Int32 → Ob → Prop} (h : w_X10_endOf x1 x2 o Post) : CtI l yX10_endOf cX10_endOf 5 .int ({ frames := 1, cells := 0, slots := 0, locals := 22 } : Room) D E [.ref (a 0), .int (x1), .int (x2)] (List.flatten [bX10 a E o]) (fun u : Ob => List.flatten [bX10 a E u]) Post 0 0 := by
  refine enI (by decide +kernel) (Nat.le_of_ble_eq_true rfl) ?_
  intro p e s m args below meth c Q A ls hx hb hml hown hT hK hA hret hh hl
  have hl : lv_has ls 5 [(0, .ref (a 0)), (1, .int (x1)), (2, .int (x2))] := hl
  unfold w_X10_endOf at h
  refine lv_iconst (v := 1) hx hb dX10_endOf_0 (by decide) ?_
  refine lv_istore_n (lv' := [(3, .int (1)), (0, .ref (a 0)), (1, .int (x1)), (2, .int (x2))]) hx hb dX10_endOf_1 rfl hl (by decide) rfl (fun ls hl => ?_)
  refine lv_iload_n hx hb dX10_endOf_2 rfl (lv_at hl 3 rfl) ?_
  refine lv_istore (lv' := [(4, .int (x2)), (3, .int (1)), (0, .ref (a 0)), (1, .int (x1)), (2, .int (x2))]) hx hb dX10_endOf_3 hl (by decide) rfl (fun ls hl => ?_)
  have hw5 : ∀   (n : Nat) (p3_5 : Int32) (p4_5 : Int32) (o_5 : Ob) (H : Heap) (locs : List Loc) (ls : Array Slot), w_X10_endOf_L5 x1  Post n p3_5 p4_5 o_5 → Wh D A s.heap ((List.flatten [bX10 a E o_5])) H locs → lv_has ls 5 [(0, .ref (a 0)), (1, .int (x1)), (3, .int (p3_5)), (4, .int (p4_5))] → W p l e ({ frames := 1, cells := 0, slots := 0, locals := 22 } : Room) s m args below meth c H locs 0 0 Q (F0 m 5 ls []) := by
    intro   n
    induction n with
    | zero => intro p3_5 p4_5 o_5 H locs ls h hh hl; exact False.elim h
    | succ n ih =>
      intro p3_5 p4_5 o_5 H locs ls h hh hl
      refine lv_iload_n hx hb dX10_endOf_5 rfl (lv_at hl 2 rfl) ?_
      refine lv_if_le (tgt := 32) hx hb dX10_endOf_6 (by decide) (fun c1 => ?_) (fun c1 => ?_)
      · have h := h.1 c1
        refine lv_iload hx hb dX10_endOf_32 (lv_at hl 3 rfl) ?_
        exact hret _ _ _ _ _ o_5 dX10_endOf_34 rfl h hh
      · have h := h.2 c1
        refine lv_iload_n hx hb dX10_endOf_9 rfl (lv_at hl 2 rfl) ?_
        refine lv_aload_n hx hb dX10_endOf_10 rfl (lv_at hl 0 rfl) ?_
        refine lv_sipush (v := 1000) hx hb dX10_endOf_11 (by decide) ?_
        refine lv_iload_n hx hb dX10_endOf_14 rfl (lv_at hl 1 rfl) ?_
        refine lv_imul hx hb dX10_endOf_15 ?_
        refine lv_iload hx hb dX10_endOf_16 (lv_at hl 3 rfl) ?_
        refine lv_iadd hx hb dX10_endOf_18 ?_
        refine kI hh.ap0 hA (rnV hx hb hml hown hT hK hh.ap0 (c_X10_parts l D E a  o_5 ((1000 * x1) + p4_5) h _) mf_X10_parts kml_X10_143 ⟨rfl, rfl, Nat.le_of_ble_eq_true rfl, Nat.le_of_ble_eq_true rfl⟩ ⟨Nat.le_of_ble_eq_true rfl, Nat.le_of_ble_eq_true rfl⟩ 10 0 rfl rfl hl.1 rfl dX10_endOf_19 (Nat.le_of_ble_eq_true rfl) rfl) (fun r2 o_3 H locs h hh => ?_)
        have hh : Wh D A s.heap ((List.flatten [bX10 a E o_3])) _ _ := hh.un0
        refine lv_iconst (v := 1) hx hb dX10_endOf_22 (by decide) ?_
        refine lv_isub hx hb dX10_endOf_23 ?_
        refine lv_iadd hx hb dX10_endOf_24 ?_
        refine lv_istore_n (lv' := [(3, .int (p3_5 + (r2 - 1))), (0, .ref (a 0)), (1, .int (x1)), (4, .int (p4_5))]) hx hb dX10_endOf_25 rfl hl (by decide) rfl (fun ls hl => ?_)
        refine lv_iinc (v := p4_5 + 1) (lv' := [(4, .int (p4_5 + 1)), (3, .int (p3_5 + (r2 - 1))), (0, .ref (a 0)), (1, .int (x1))]) hx hb dX10_endOf_26 hl (k := 3) rfl (by rfl) (by decide) rfl (fun ls hl => ?_)
        refine lv_goto (tgt := 5) hx hb dX10_endOf_29 (by decide) ?_
        exact ih (p3_5 + (r2 - 1)) (p4_5 + 1) o_3 _ _ _ h hh (lv_sub hl [2, 3, 1, 0] rfl)
  obtain ⟨n, h⟩ := h
  refine hw5   n 1 x2 o _ _ _ h hh (lv_sub hl [2, 3, 1, 0] rfl)

def w_X10_leafIs (x1 : Int32) (o : Ob) (Post : Ob → Prop) : Prop := vp_in (o.2.1 14) 64 ∧ (vp_in (o.2.1 14) 64 ∧ (vp_in (o.2.1 11) 1600 ∧ (Post ((o.1, (upd (upd o.2.1 14 (((o.2.1 14) + 1))) 11 (((o.2.1 11) + 1))), (sa (sa (sa o.2.2 15 (upd (o.2.2 15) (o.2.1 14).toNatClampNeg x1)) 16 (upd (o.2.2 16) (o.2.1 14).toNatClampNeg (o.2.1 11))) 12 (upd (o.2.2 12) (o.2.1 11).toNatClampNeg (0 : Int32))))))))
set_option maxRecDepth 100000 in
set_option maxHeartbeats 4000000 in
theorem c_X10_leafIs (l : Launch) (D : va_G) (E : Nat → ClassId) (a : Nat → Nat)  (o : Ob) (x1 : Int32) {Post : Ob → Prop} (h : w_X10_leafIs x1 o Post) : CtV l yX10_leafIs cX10_leafIs 2 ({ frames := 0, cells := 0, slots := 0, locals := 0 } : Room) D E [.ref (a 0), .int (x1)] (List.flatten [bX10 a E o]) (fun u : Ob => List.flatten [bX10 a E u]) Post 0 0 := by
  refine enV (by decide +kernel) (Nat.le_of_ble_eq_true rfl) ?_
  intro p e s m args below meth c Q A ls hx hb hml hown hT hK hA hin0 hret hh hl
  have hl : lv_has ls 2 [(0, .ref (a 0)), (1, .int (x1))] := hl
  unfold w_X10_leafIs at h
  refine lv_aload_n hx hb dX10_leafIs_0 rfl (lv_at hl 0 rfl) ?_
  refine G_X10_47 [] [] hx hb hT hown hK hh dX10_leafIs_1 ?_
  refine lv_aload_n hx hb dX10_leafIs_4 rfl (lv_at hl 0 rfl) ?_
  refine G_X10_147 [] [] hx hb hT hown hK hh (v := o.2.1 14) rfl dX10_leafIs_5 ?_
  refine lv_iload_n hx hb dX10_leafIs_8 rfl (lv_at hl 1 rfl) ?_
  obtain ⟨g1, h⟩ := h
  refine S_X10_15 [] [] hx hb hK hh g1 dX10_leafIs_9 (fun H locs (hh : Wh D A s.heap ((List.flatten [bX10 a E ((o.1, o.2.1, (sa o.2.2 15 (upd (o.2.2 15) (o.2.1 14).toNatClampNeg x1))))])) H locs) => ?_)
  refine lv_aload_n hx hb dX10_leafIs_10 rfl (lv_at hl 0 rfl) ?_
  refine G_X10_50 [] [] hx hb hT hown hK hh dX10_leafIs_11 ?_
  refine lv_aload_n hx hb dX10_leafIs_14 rfl (lv_at hl 0 rfl) ?_
  refine G_X10_147 [] [] hx hb hT hown hK hh (v := o.2.1 14) rfl dX10_leafIs_15 ?_
  refine lv_aload_n hx hb dX10_leafIs_18 rfl (lv_at hl 0 rfl) ?_
  refine G_X10_150 [] [] hx hb hT hown hK hh (v := o.2.1 11) rfl dX10_leafIs_19 ?_
  obtain ⟨g2, h⟩ := h
  refine S_X10_16 [] [] hx hb hK hh g2 dX10_leafIs_22 (fun H locs (hh : Wh D A s.heap ((List.flatten [bX10 a E ((o.1, o.2.1, (sa (sa o.2.2 15 (upd (o.2.2 15) (o.2.1 14).toNatClampNeg x1)) 16 (upd (o.2.2 16) (o.2.1 14).toNatClampNeg (o.2.1 11)))))])) H locs) => ?_)
  refine lv_aload_n hx hb dX10_leafIs_23 rfl (lv_at hl 0 rfl) ?_
  refine lv_dup hx hb dX10_leafIs_24 rfl ?_
  refine G_X10_147 [] [] hx hb hT hown hK hh (v := o.2.1 14) rfl dX10_leafIs_25 ?_
  refine lv_iconst (v := 1) hx hb dX10_leafIs_28 (by decide) ?_
  refine lv_iadd hx hb dX10_leafIs_29 ?_
  refine P_X10_147 [] [] hx hb hT hown hK hh dX10_leafIs_30 (fun H locs (hh : Wh D A s.heap ((List.flatten [bX10 a E ((o.1, (upd o.2.1 14 (((o.2.1 14) + 1))), (sa (sa o.2.2 15 (upd (o.2.2 15) (o.2.1 14).toNatClampNeg x1)) 16 (upd (o.2.2 16) (o.2.1 14).toNatClampNeg (o.2.1 11)))))])) H locs) => ?_)
  refine lv_aload_n hx hb dX10_leafIs_33 rfl (lv_at hl 0 rfl) ?_
  refine G_X10_41 [] [] hx hb hT hown hK hh dX10_leafIs_34 ?_
  refine lv_aload_n hx hb dX10_leafIs_37 rfl (lv_at hl 0 rfl) ?_
  refine G_X10_150 [] [] hx hb hT hown hK hh (v := o.2.1 11) rfl dX10_leafIs_38 ?_
  refine lv_iconst (v := 0) hx hb dX10_leafIs_41 (by decide) ?_
  obtain ⟨g3, h⟩ := h
  refine S_X10_12 [] [] hx hb hK hh g3 dX10_leafIs_42 (fun H locs (hh : Wh D A s.heap ((List.flatten [bX10 a E ((o.1, (upd o.2.1 14 (((o.2.1 14) + 1))), (sa (sa (sa o.2.2 15 (upd (o.2.2 15) (o.2.1 14).toNatClampNeg x1)) 16 (upd (o.2.2 16) (o.2.1 14).toNatClampNeg (o.2.1 11))) 12 (upd (o.2.2 12) (o.2.1 11).toNatClampNeg (0 : Int32)))))])) H locs) => ?_)
  refine lv_aload_n hx hb dX10_leafIs_43 rfl (lv_at hl 0 rfl) ?_
  refine lv_dup hx hb dX10_leafIs_44 rfl ?_
  refine G_X10_150 [] [] hx hb hT hown hK hh (v := o.2.1 11) rfl dX10_leafIs_45 ?_
  refine lv_iconst (v := 1) hx hb dX10_leafIs_48 (by decide) ?_
  refine lv_iadd hx hb dX10_leafIs_49 ?_
  refine P_X10_150 [] [] hx hb hT hown hK hh dX10_leafIs_50 (fun H locs (hh : Wh D A s.heap ((List.flatten [bX10 a E ((o.1, (upd (upd o.2.1 14 (((o.2.1 14) + 1))) 11 (((o.2.1 11) + 1))), (sa (sa (sa o.2.2 15 (upd (o.2.2 15) (o.2.1 14).toNatClampNeg x1)) 16 (upd (o.2.2 16) (o.2.1 14).toNatClampNeg (o.2.1 11))) 12 (upd (o.2.2 12) (o.2.1 11).toNatClampNeg (0 : Int32)))))])) H locs) => ?_)
  exact hret _ _ _ _ (o.1, (upd (upd o.2.1 14 (((o.2.1 14) + 1))) 11 (((o.2.1 11) + 1))), (sa (sa (sa o.2.2 15 (upd (o.2.2 15) (o.2.1 14).toNatClampNeg x1)) 16 (upd (o.2.2 16) (o.2.1 14).toNatClampNeg (o.2.1 11))) 12 (upd (o.2.2 12) (o.2.1 11).toNatClampNeg (0 : Int32)))) dX10_leafIs_53 h hh

def w_X10_rowIs (x1 : Int32) (o : Ob) (Post : Ob → Prop) : Prop := vp_in (o.2.1 11) 1600 ∧ (vp_in (o.2.1 11) 1600 ∧ (Post ((o.1, (upd o.2.1 11 (((o.2.1 11) + 1))), (sa (sa o.2.2 12 (upd (o.2.2 12) (o.2.1 11).toNatClampNeg (1 : Int32))) 13 (upd (o.2.2 13) (o.2.1 11).toNatClampNeg x1))))))
set_option maxRecDepth 100000 in
set_option maxHeartbeats 4000000 in
theorem c_X10_rowIs (l : Launch) (D : va_G) (E : Nat → ClassId) (a : Nat → Nat)  (o : Ob) (x1 : Int32) {Post : Ob → Prop} (h : w_X10_rowIs x1 o Post) : CtV l yX10_rowIs cX10_rowIs 2 ({ frames := 0, cells := 0, slots := 0, locals := 0 } : Room) D E [.ref (a 0), .int (x1)] (List.flatten [bX10 a E o]) (fun u : Ob => List.flatten [bX10 a E u]) Post 0 0 := by
  refine enV (by decide +kernel) (Nat.le_of_ble_eq_true rfl) ?_
  intro p e s m args below meth c Q A ls hx hb hml hown hT hK hA hin0 hret hh hl
  have hl : lv_has ls 2 [(0, .ref (a 0)), (1, .int (x1))] := hl
  unfold w_X10_rowIs at h
  refine lv_aload_n hx hb dX10_rowIs_0 rfl (lv_at hl 0 rfl) ?_
  refine G_X10_41 [] [] hx hb hT hown hK hh dX10_rowIs_1 ?_
  refine lv_aload_n hx hb dX10_rowIs_4 rfl (lv_at hl 0 rfl) ?_
  refine G_X10_150 [] [] hx hb hT hown hK hh (v := o.2.1 11) rfl dX10_rowIs_5 ?_
  refine lv_iconst (v := 1) hx hb dX10_rowIs_8 (by decide) ?_
  obtain ⟨g1, h⟩ := h
  refine S_X10_12 [] [] hx hb hK hh g1 dX10_rowIs_9 (fun H locs (hh : Wh D A s.heap ((List.flatten [bX10 a E ((o.1, o.2.1, (sa o.2.2 12 (upd (o.2.2 12) (o.2.1 11).toNatClampNeg (1 : Int32)))))])) H locs) => ?_)
  refine lv_aload_n hx hb dX10_rowIs_10 rfl (lv_at hl 0 rfl) ?_
  refine G_X10_44 [] [] hx hb hT hown hK hh dX10_rowIs_11 ?_
  refine lv_aload_n hx hb dX10_rowIs_14 rfl (lv_at hl 0 rfl) ?_
  refine G_X10_150 [] [] hx hb hT hown hK hh (v := o.2.1 11) rfl dX10_rowIs_15 ?_
  refine lv_iload_n hx hb dX10_rowIs_18 rfl (lv_at hl 1 rfl) ?_
  obtain ⟨g2, h⟩ := h
  refine S_X10_13 [] [] hx hb hK hh g2 dX10_rowIs_19 (fun H locs (hh : Wh D A s.heap ((List.flatten [bX10 a E ((o.1, o.2.1, (sa (sa o.2.2 12 (upd (o.2.2 12) (o.2.1 11).toNatClampNeg (1 : Int32))) 13 (upd (o.2.2 13) (o.2.1 11).toNatClampNeg x1))))])) H locs) => ?_)
  refine lv_aload_n hx hb dX10_rowIs_20 rfl (lv_at hl 0 rfl) ?_
  refine lv_dup hx hb dX10_rowIs_21 rfl ?_
  refine G_X10_150 [] [] hx hb hT hown hK hh (v := o.2.1 11) rfl dX10_rowIs_22 ?_
  refine lv_iconst (v := 1) hx hb dX10_rowIs_25 (by decide) ?_
  refine lv_iadd hx hb dX10_rowIs_26 ?_
  refine P_X10_150 [] [] hx hb hT hown hK hh dX10_rowIs_27 (fun H locs (hh : Wh D A s.heap ((List.flatten [bX10 a E ((o.1, (upd o.2.1 11 (((o.2.1 11) + 1))), (sa (sa o.2.2 12 (upd (o.2.2 12) (o.2.1 11).toNatClampNeg (1 : Int32))) 13 (upd (o.2.2 13) (o.2.1 11).toNatClampNeg x1))))])) H locs) => ?_)
  exact hret _ _ _ _ (o.1, (upd o.2.1 11 (((o.2.1 11) + 1))), (sa (sa o.2.2 12 (upd (o.2.2 12) (o.2.1 11).toNatClampNeg (1 : Int32))) 13 (upd (o.2.2 13) (o.2.1 11).toNatClampNeg x1))) dX10_rowIs_30 h hh

def w_X10_through (x0 : Int32) (x1 : Int32)  (Post : Int32 → Prop) : Prop := ((¬ x0 = 0) → ((¬ x0 = 1) → ((¬ x0 = 2) → Post (x1 - x1 / 7 * 7)) ∧ ((x0 = 2) → Post (x1 * x1))) ∧ ((x0 = 1) → Post (2 * x1))) ∧ ((x0 = 0) → Post (-x1))
set_option maxRecDepth 100000 in
set_option maxHeartbeats 4000000 in
theorem c_X10_through (l : Launch) (D : va_G) (E : Nat → ClassId)    (x0 : Int32) (x1 : Int32) {Post : Int32 → Prop} (h : w_X10_through x0 x1  Post) : CtI l yX10_through cX10_through 2 .int ({ frames := 0, cells := 0, slots := 0, locals := 0 } : Room) D E [.int (x0), .int (x1)] [] (fun _ : Unit => []) (fun (r : Int32) (u : Unit) => Post r ) 0 0 := by
  refine enI (by decide +kernel) (Nat.le_of_ble_eq_true rfl) ?_
  intro p e s m args below meth c Q A ls hx hb hml hown hT hK hA hret hh hl
  have hl : lv_has ls 2 [(0, .int (x0)), (1, .int (x1))] := hl
  unfold w_X10_through at h
  refine lv_iload_n hx hb dX10_through_0 rfl (lv_at hl 0 rfl) ?_
  refine lv_if_ne (tgt := 9) hx hb dX10_through_1 (by decide) (fun c1 => ?_) (fun c1 => ?_)
  · have h := h.1 c1
    refine lv_iload_n hx hb dX10_through_9 rfl (lv_at hl 0 rfl) ?_
    refine lv_iconst (v := 1) hx hb dX10_through_10 (by decide) ?_
    refine lv_icmp_ne (tgt := 20) hx hb dX10_through_11 (by decide) (fun c2 => ?_) (fun c2 => ?_)
    · have h := h.1 c2
      refine lv_iload_n hx hb dX10_through_20 rfl (lv_at hl 0 rfl) ?_
      refine lv_iconst (v := 2) hx hb dX10_through_21 (by decide) ?_
      refine lv_icmp_ne (tgt := 31) hx hb dX10_through_22 (by decide) (fun c3 => ?_) (fun c3 => ?_)
      · have h := h.1 c3
        refine lv_iload_n hx hb dX10_through_31 rfl (lv_at hl 1 rfl) ?_
        refine lv_bipush (v := 7) hx hb dX10_through_32 (by decide) ?_
        refine lv_irem hx hb dX10_through_34 (by decide) ?_
        exact hret _ _ _ _ _ () dX10_through_35 rfl h hh
      · have h := h.2 c3
        refine lv_iload_n hx hb dX10_through_25 rfl (lv_at hl 1 rfl) ?_
        refine lv_iload_n hx hb dX10_through_26 rfl (lv_at hl 1 rfl) ?_
        refine lv_imul hx hb dX10_through_27 ?_
        refine lv_goto (tgt := 35) hx hb dX10_through_28 (by decide) ?_
        exact hret _ _ _ _ _ () dX10_through_35 rfl h hh
    · have h := h.2 c2
      refine lv_iconst (v := 2) hx hb dX10_through_14 (by decide) ?_
      refine lv_iload_n hx hb dX10_through_15 rfl (lv_at hl 1 rfl) ?_
      refine lv_imul hx hb dX10_through_16 ?_
      refine lv_goto (tgt := 35) hx hb dX10_through_17 (by decide) ?_
      exact hret _ _ _ _ _ () dX10_through_35 rfl h hh
  · have h := h.2 c1
    refine lv_iload_n hx hb dX10_through_4 rfl (lv_at hl 1 rfl) ?_
    refine lv_ineg hx hb dX10_through_5 ?_
    refine lv_goto (tgt := 35) hx hb dX10_through_6 (by decide) ?_
    exact hret _ _ _ _ _ () dX10_through_35 rfl h hh

def w_X10_mapFrom_L39 (f1_39 : Int32) (f2_39 : Int32) (f3_39 : Int32) (f4_39 : Int32) (K86_39 : Int32 → Ob → Prop) (Post : Ob → Prop) : Nat → Int32 → Ob → Prop
  | 0, _, _ => False
  | n39 + 1, p5_39, o_39 => ((¬ f1_39 = 4) → K86_39 p5_39 o_39) ∧ ((f1_39 = 4) → ((p5_39 ≤ f2_39) → K86_39 p5_39 o_39) ∧ (¬ (p5_39 ≤ f2_39) → vp_in (p5_39 - 1) 64 ∧ (((((o_39.2.2 15) (p5_39 - 1).toNatClampNeg) ≤ f4_39) → K86_39 p5_39 o_39) ∧ (¬ (((o_39.2.2 15) (p5_39 - 1).toNatClampNeg) ≤ f4_39) → vp_in (p5_39 - 1) 64 ∧ (vp_in p5_39 64 ∧ (w_X10_mapFrom_L39 f1_39 f2_39 f3_39 f4_39 K86_39 Post n39 (p5_39 + (-1)) ((o_39.1, o_39.2.1, (sa o_39.2.2 15 (upd (o_39.2.2 15) p5_39.toNatClampNeg ((o_39.2.2 15) (p5_39 - 1).toNatClampNeg)))))))))))
def w_X10_mapFrom_L2 (f1_2 : Int32) (f2_2 : Int32)  (Post : Ob → Prop) : Nat → Int32 → Ob → Prop
  | 0, _, _ => False
  | n2 + 1, p3_2, o_2 => (((o_2.2.1 14) ≤ p3_2) → Post o_2) ∧ (¬ ((o_2.2.1 14) ≤ p3_2) → jn (fun J34 : Int32 → Ob → Prop => ((4 ≤ f1_2) → vp_in p3_2 64 ∧ (J34 ((o_2.2.2 15) p3_2.toNatClampNeg) o_2)) ∧ (¬ (4 ≤ f1_2) → vp_in p3_2 64 ∧ (w_X10_through  f1_2 ((o_2.2.2 15) p3_2.toNatClampNeg)  (fun (r5 : Int32) => J34 r5 o_2)))) (fun (z_34 : Int32) (o_34 : Ob) => ∃ n39, w_X10_mapFrom_L39 f1_2 f2_2 p3_2 z_34 (fun (k5_86 : Int32) (o_k86 : Ob) => vp_in k5_86 64 ∧ (w_X10_mapFrom_L2 f1_2 f2_2  Post n2 (p3_2 + 1) ((o_k86.1, o_k86.2.1, (sa o_k86.2.2 15 (upd (o_k86.2.2 15) k5_86.toNatClampNeg z_34)))))) Post n39 p3_2 o_34))
def w_X10_mapFrom (x1 : Int32) (x2 : Int32) (o : Ob) (Post : Ob → Prop) : Prop := ∃ n2, w_X10_mapFrom_L2 x1 x2  Post n2 x2 o
set_option maxRecDepth 100000 in
set_option maxHeartbeats 4000000 in
theorem c_X10_mapFrom (l : Launch) (D : va_G) (E : Nat → ClassId) (a : Nat → Nat)  (o : Ob) (x1 : Int32) (x2 : Int32) {Post : Ob → Prop} (h : w_X10_mapFrom x1 x2 o Post) : CtV l yX10_mapFrom cX10_mapFrom 6 ({ frames := 1, cells := 0, slots := 0, locals := 21 } : Room) D E [.ref (a 0), .int (x1), .int (x2)] (List.flatten [bX10 a E o]) (fun u : Ob => List.flatten [bX10 a E u]) Post 0 0 := by
  refine enV (by decide +kernel) (Nat.le_of_ble_eq_true rfl) ?_
  intro p e s m args below meth c Q A ls hx hb hml hown hT hK hA hin0 hret hh hl
  have hl : lv_has ls 6 [(0, .ref (a 0)), (1, .int (x1)), (2, .int (x2))] := hl
  unfold w_X10_mapFrom at h
  refine lv_iload_n hx hb dX10_mapFrom_0 rfl (lv_at hl 2 rfl) ?_
  refine lv_istore_n (lv' := [(3, .int (x2)), (0, .ref (a 0)), (1, .int (x1)), (2, .int (x2))]) hx hb dX10_mapFrom_1 rfl hl (by decide) rfl (fun ls hl => ?_)
  have hw2 : ∀   (n : Nat) (p3_2 : Int32) (o_2 : Ob) (H : Heap) (locs : List Loc) (ls : Array Slot), w_X10_mapFrom_L2 x1 x2  Post n p3_2 o_2 → Wh D A s.heap ((List.flatten [bX10 a E o_2])) H locs → lv_has ls 6 [(0, .ref (a 0)), (1, .int (x1)), (2, .int (x2)), (3, .int (p3_2))] → W p l e ({ frames := 1, cells := 0, slots := 0, locals := 21 } : Room) s m args below meth c H locs 0 0 Q (F0 m 2 ls []) := by
    intro   n
    induction n with
    | zero => intro p3_2 o_2 H locs ls h hh hl; exact False.elim h
    | succ n ih =>
      intro p3_2 o_2 H locs ls h hh hl
      refine lv_iload_n hx hb dX10_mapFrom_2 rfl (lv_at hl 3 rfl) ?_
      refine lv_aload_n hx hb dX10_mapFrom_3 rfl (lv_at hl 0 rfl) ?_
      refine G_X10_147 [] [] hx hb hT hown hK hh (v := o_2.2.1 14) rfl dX10_mapFrom_4 ?_
      refine lv_icmp_ge (tgt := 101) hx hb dX10_mapFrom_7 (by decide) (fun c1 => ?_) (fun c1 => ?_)
      · have h := h.1 c1
        exact hret _ _ _ _ o_2 dX10_mapFrom_101 h hh
      · have h := h.2 c1
        refine lv_iload_n hx hb dX10_mapFrom_10 rfl (lv_at hl 1 rfl) ?_
        refine lv_iconst (v := 4) hx hb dX10_mapFrom_11 (by decide) ?_
        refine jn_elim h (fun J34 hJ34 h => ?_)
        have kJ34 : ∀ (z_34 : Int32) (o_34 : Ob) (H : Heap) (locs : List Loc) (ls : Array Slot), J34 z_34 o_34 → Wh D A s.heap ((List.flatten [bX10 a E o_34])) H locs → lv_has ls 6 [(0, .ref (a 0)), (1, .int (x1)), (2, .int (x2)), (3, .int (p3_2))] → W p l e ({ frames := 1, cells := 0, slots := 0, locals := 21 } : Room) s m args below meth c H locs 0 0 Q (F0 m 34 ls [.int (z_34)]) := by
          intro z_34 o_34 H locs ls h hh hl
          rw [hJ34] at h
          refine lv_istore (lv' := [(4, .int (z_34)), (0, .ref (a 0)), (1, .int (x1)), (2, .int (x2)), (3, .int (p3_2))]) hx hb dX10_mapFrom_34 hl (by decide) rfl (fun ls hl => ?_)
          refine lv_iload_n hx hb dX10_mapFrom_36 rfl (lv_at hl 4 rfl) ?_
          refine lv_istore (lv' := [(5, .int (p3_2)), (4, .int (z_34)), (0, .ref (a 0)), (1, .int (x1)), (2, .int (x2)), (3, .int (p3_2))]) hx hb dX10_mapFrom_37 hl (by decide) rfl (fun ls hl => ?_)
          have hw39 : ∀ (K86_39 : Int32 → Ob → Prop) (hK86_39 : ∀ (k5_86 : Int32) (o_k86 : Ob) (H : Heap) (locs : List Loc) (ls : Array Slot), K86_39 k5_86 o_k86 → Wh D A s.heap ((List.flatten [bX10 a E o_k86])) H locs → lv_has ls 6 [(0, .ref (a 0)), (1, .int (x1)), (2, .int (x2)), (3, .int (p3_2)), (4, .int (z_34)), (5, .int (k5_86))] → W p l e ({ frames := 1, cells := 0, slots := 0, locals := 21 } : Room) s m args below meth c H locs 0 0 Q (F0 m 86 ls [])) (n : Nat) (p5_39 : Int32) (o_39 : Ob) (H : Heap) (locs : List Loc) (ls : Array Slot), w_X10_mapFrom_L39 x1 x2 p3_2 z_34 K86_39 Post n p5_39 o_39 → Wh D A s.heap ((List.flatten [bX10 a E o_39])) H locs → lv_has ls 6 [(0, .ref (a 0)), (1, .int (x1)), (2, .int (x2)), (3, .int (p3_2)), (4, .int (z_34)), (5, .int (p5_39))] → W p l e ({ frames := 1, cells := 0, slots := 0, locals := 21 } : Room) s m args below meth c H locs 0 0 Q (F0 m 39 ls []) := by
            intro K86_39 hK86_39 n
            induction n with
            | zero => intro p5_39 o_39 H locs ls h hh hl; exact False.elim h
            | succ n ih =>
              intro p5_39 o_39 H locs ls h hh hl
              refine lv_iload_n hx hb dX10_mapFrom_39 rfl (lv_at hl 1 rfl) ?_
              refine lv_iconst (v := 4) hx hb dX10_mapFrom_40 (by decide) ?_
              refine lv_icmp_ne (tgt := 86) hx hb dX10_mapFrom_41 (by decide) (fun c6 => ?_) (fun c6 => ?_)
              · have h := h.1 c6
                exact hK86_39 p5_39 o_39 _ _ _ h hh (lv_sub hl [0, 1, 2, 3, 4, 5] rfl)
              · have h := h.2 c6
                refine lv_iload hx hb dX10_mapFrom_44 (lv_at hl 5 rfl) ?_
                refine lv_iload_n hx hb dX10_mapFrom_46 rfl (lv_at hl 2 rfl) ?_
                refine lv_icmp_le (tgt := 86) hx hb dX10_mapFrom_47 (by decide) (fun c7 => ?_) (fun c7 => ?_)
                · have h := h.1 c7
                  exact hK86_39 p5_39 o_39 _ _ _ h hh (lv_sub hl [0, 1, 2, 3, 4, 5] rfl)
                · have h := h.2 c7
                  refine lv_aload_n hx hb dX10_mapFrom_50 rfl (lv_at hl 0 rfl) ?_
                  refine G_X10_47 [] [] hx hb hT hown hK hh dX10_mapFrom_51 ?_
                  refine lv_iload hx hb dX10_mapFrom_54 (lv_at hl 5 rfl) ?_
                  refine lv_iconst (v := 1) hx hb dX10_mapFrom_56 (by decide) ?_
                  refine lv_isub hx hb dX10_mapFrom_57 ?_
                  obtain ⟨g8, h⟩ := h
                  refine A_X10_15 [] [] hx hb hK hh (v := (o_39.2.2 15) (p5_39 - 1).toNatClampNeg) g8 rfl dX10_mapFrom_58 ?_
                  refine lv_iload hx hb dX10_mapFrom_59 (lv_at hl 4 rfl) ?_
                  refine lv_icmp_le (tgt := 86) hx hb dX10_mapFrom_61 (by decide) (fun c9 => ?_) (fun c9 => ?_)
                  · have h := h.1 c9
                    exact hK86_39 p5_39 o_39 _ _ _ h hh (lv_sub hl [0, 1, 2, 3, 4, 5] rfl)
                  · have h := h.2 c9
                    refine lv_aload_n hx hb dX10_mapFrom_64 rfl (lv_at hl 0 rfl) ?_
                    refine G_X10_47 [] [] hx hb hT hown hK hh dX10_mapFrom_65 ?_
                    refine lv_iload hx hb dX10_mapFrom_68 (lv_at hl 5 rfl) ?_
                    refine lv_aload_n hx hb dX10_mapFrom_70 rfl (lv_at hl 0 rfl) ?_
                    refine G_X10_47 [] [] hx hb hT hown hK hh dX10_mapFrom_71 ?_
                    refine lv_iload hx hb dX10_mapFrom_74 (lv_at hl 5 rfl) ?_
                    refine lv_iconst (v := 1) hx hb dX10_mapFrom_76 (by decide) ?_
                    refine lv_isub hx hb dX10_mapFrom_77 ?_
                    obtain ⟨g10, h⟩ := h
                    refine A_X10_15 [] [] hx hb hK hh (v := (o_39.2.2 15) (p5_39 - 1).toNatClampNeg) g10 rfl dX10_mapFrom_78 ?_
                    obtain ⟨g11, h⟩ := h
                    refine S_X10_15 [] [] hx hb hK hh g11 dX10_mapFrom_79 (fun H locs (hh : Wh D A s.heap ((List.flatten [bX10 a E ((o_39.1, o_39.2.1, (sa o_39.2.2 15 (upd (o_39.2.2 15) p5_39.toNatClampNeg ((o_39.2.2 15) (p5_39 - 1).toNatClampNeg)))))])) H locs) => ?_)
                    refine lv_iinc (v := p5_39 + (-1)) (lv' := [(5, .int (p5_39 + (-1))), (0, .ref (a 0)), (1, .int (x1)), (2, .int (x2)), (3, .int (p3_2)), (4, .int (z_34))]) hx hb dX10_mapFrom_80 hl (k := 5) rfl (by rfl) (by decide) rfl (fun ls hl => ?_)
                    refine lv_goto (tgt := 39) hx hb dX10_mapFrom_83 (by decide) ?_
                    exact ih (p5_39 + (-1)) ((o_39.1, o_39.2.1, (sa o_39.2.2 15 (upd (o_39.2.2 15) p5_39.toNatClampNeg ((o_39.2.2 15) (p5_39 - 1).toNatClampNeg))))) _ _ _ h hh (lv_sub hl [1, 2, 3, 4, 5, 0] rfl)
          obtain ⟨n, h⟩ := h
          refine hw39 _ (fun k5_86 o_k86 H locs ls h hh hl => ?_) n p3_2 o_34 _ _ _ h hh (lv_sub hl [2, 3, 4, 5, 1, 0] rfl)
          refine lv_aload_n hx hb dX10_mapFrom_86 rfl (lv_at hl 0 rfl) ?_
          refine G_X10_47 [] [] hx hb hT hown hK hh dX10_mapFrom_87 ?_
          refine lv_iload hx hb dX10_mapFrom_90 (lv_at hl 5 rfl) ?_
          refine lv_iload hx hb dX10_mapFrom_92 (lv_at hl 4 rfl) ?_
          obtain ⟨g12, h⟩ := h
          refine S_X10_15 [] [] hx hb hK hh g12 dX10_mapFrom_94 (fun H locs (hh : Wh D A s.heap ((List.flatten [bX10 a E ((o_k86.1, o_k86.2.1, (sa o_k86.2.2 15 (upd (o_k86.2.2 15) k5_86.toNatClampNeg z_34))))])) H locs) => ?_)
          refine lv_iinc (v := p3_2 + 1) (lv' := [(3, .int (p3_2 + 1)), (0, .ref (a 0)), (1, .int (x1)), (2, .int (x2)), (4, .int (z_34)), (5, .int (k5_86))]) hx hb dX10_mapFrom_95 hl (k := 3) rfl (by rfl) (by decide) rfl (fun ls hl => ?_)
          refine lv_goto (tgt := 2) hx hb dX10_mapFrom_98 (by decide) ?_
          exact ih (p3_2 + 1) ((o_k86.1, o_k86.2.1, (sa o_k86.2.2 15 (upd (o_k86.2.2 15) k5_86.toNatClampNeg z_34)))) _ _ _ h hh (lv_sub hl [1, 2, 3, 0] rfl)
        refine lv_icmp_ge (tgt := 28) hx hb dX10_mapFrom_12 (by decide) (fun c2 => ?_) (fun c2 => ?_)
        · have h := h.1 c2
          refine lv_aload_n hx hb dX10_mapFrom_28 rfl (lv_at hl 0 rfl) ?_
          refine G_X10_47 [] [] hx hb hT hown hK hh dX10_mapFrom_29 ?_
          refine lv_iload_n hx hb dX10_mapFrom_32 rfl (lv_at hl 3 rfl) ?_
          obtain ⟨g3, h⟩ := h
          refine A_X10_15 [] [] hx hb hK hh (v := (o_2.2.2 15) p3_2.toNatClampNeg) g3 rfl dX10_mapFrom_33 ?_
          exact kJ34 ((o_2.2.2 15) p3_2.toNatClampNeg) o_2 _ _ _ h hh (lv_sub hl [0, 1, 2, 3] rfl)
        · have h := h.2 c2
          refine lv_iload_n hx hb dX10_mapFrom_15 rfl (lv_at hl 1 rfl) ?_
          refine lv_aload_n hx hb dX10_mapFrom_16 rfl (lv_at hl 0 rfl) ?_
          refine G_X10_47 [] [] hx hb hT hown hK hh dX10_mapFrom_17 ?_
          refine lv_iload_n hx hb dX10_mapFrom_20 rfl (lv_at hl 3 rfl) ?_
          obtain ⟨g4, h⟩ := h
          refine A_X10_15 [] [] hx hb hK hh (v := (o_2.2.2 15) p3_2.toNatClampNeg) g4 rfl dX10_mapFrom_21 ?_
          refine kI hh.none hA (rnS hx hb hml hown hT hK hh.none (c_X10_through l D E    x1 ((o_2.2.2 15) p3_2.toNatClampNeg) h _) mf_X10_through kml_X10_153 ⟨rfl, rfl, Nat.le_of_ble_eq_true rfl, Nat.le_of_ble_eq_true rfl⟩ ⟨Nat.le_of_ble_eq_true rfl, Nat.le_of_ble_eq_true rfl⟩ hl.1 rfl dX10_mapFrom_22 (Nat.le_of_ble_eq_true rfl) rfl) (fun r5 u H locs h hh => ?_)
          have hh : Wh D A s.heap ((List.flatten [bX10 a E o_2])) _ _ := hh.unone
          refine lv_goto (tgt := 34) hx hb dX10_mapFrom_25 (by decide) ?_
          exact kJ34 r5 o_2 _ _ _ h hh (lv_sub hl [0, 1, 2, 3] rfl)
  obtain ⟨n, h⟩ := h
  refine hw2   n x2 o _ _ _ h hh (lv_sub hl [1, 2, 3, 0] rfl)

def w_X10_leave_L0   (Post : Ob → Prop) : Nat → Ob → Prop
  | 0, _ => False
  | n0 + 1, o_0 => (((o_0.2.1 17) ≤ 0) → Post o_0) ∧ (¬ ((o_0.2.1 17) ≤ 0) → vp_in ((o_0.2.1 17) - 1) 1000 ∧ (((¬ ((o_0.2.2 19) ((o_0.2.1 17) - 1).toNatClampNeg) = 0) → Post o_0) ∧ ((((o_0.2.2 19) ((o_0.2.1 17) - 1).toNatClampNeg) = 0) → vp_in (((o_0.2.1 17) - 1)) 1000 ∧ (vp_in ((o_0.2.2 18) (((o_0.2.1 17) - 1)).toNatClampNeg) 5000 ∧ (jn (fun J109 : Ob → Prop => jn (fun J84 : Ob → Prop => ((((o_0.2.2 9) ((o_0.2.2 18) (((o_0.2.1 17) - 1)).toNatClampNeg).toNatClampNeg) < 0) → J84 ((o_0.1, (upd o_0.2.1 17 (((o_0.2.1 17) - 1))), o_0.2.2))) ∧ (¬ (((o_0.2.2 9) ((o_0.2.2 18) (((o_0.2.1 17) - 1)).toNatClampNeg).toNatClampNeg) < 0) → vp_in ((o_0.2.2 9) ((o_0.2.2 18) (((o_0.2.1 17) - 1)).toNatClampNeg).toNatClampNeg) 30 ∧ (((¬ ((o_0.2.2 1) ((o_0.2.2 9) ((o_0.2.2 18) (((o_0.2.1 17) - 1)).toNatClampNeg).toNatClampNeg).toNatClampNeg) = 4) → J84 ((o_0.1, (upd o_0.2.1 17 (((o_0.2.1 17) - 1))), o_0.2.2))) ∧ ((((o_0.2.2 1) ((o_0.2.2 9) ((o_0.2.2 18) (((o_0.2.1 17) - 1)).toNatClampNeg).toNatClampNeg).toNatClampNeg) = 4) → vp_in ((o_0.2.2 9) ((o_0.2.2 18) (((o_0.2.1 17) - 1)).toNatClampNeg).toNatClampNeg) 30 ∧ (vp_in (((o_0.2.1 17) - 1)) 1000 ∧ (w_X10_mapFrom  ((o_0.2.2 4) ((o_0.2.2 9) ((o_0.2.2 18) (((o_0.2.1 17) - 1)).toNatClampNeg).toNatClampNeg).toNatClampNeg) ((o_0.2.2 20) (((o_0.2.1 17) - 1)).toNatClampNeg) ((o_0.1, (upd o_0.2.1 17 (((o_0.2.1 17) - 1))), o_0.2.2)) (fun (o_12 : Ob) => J109 o_12))))))) (fun (o_84 : Ob) => ((((o_0.2.2 9) ((o_0.2.2 18) (((o_0.2.1 17) - 1)).toNatClampNeg).toNatClampNeg) < 0) → J109 o_84) ∧ (¬ (((o_0.2.2 9) ((o_0.2.2 18) (((o_0.2.1 17) - 1)).toNatClampNeg).toNatClampNeg) < 0) → vp_in ((o_0.2.2 9) ((o_0.2.2 18) (((o_0.2.1 17) - 1)).toNatClampNeg).toNatClampNeg) 30 ∧ (((¬ ((o_84.2.2 1) ((o_0.2.2 9) ((o_0.2.2 18) (((o_0.2.1 17) - 1)).toNatClampNeg).toNatClampNeg).toNatClampNeg) = 7) → J109 o_84) ∧ ((((o_84.2.2 1) ((o_0.2.2 9) ((o_0.2.2 18) (((o_0.2.1 17) - 1)).toNatClampNeg).toNatClampNeg).toNatClampNeg) = 7) → vp_in ((o_0.2.2 18) (((o_0.2.1 17) - 1)).toNatClampNeg) 5000 ∧ (w_X10_leafIs  ((o_84.2.2 10) ((o_0.2.2 18) (((o_0.2.1 17) - 1)).toNatClampNeg).toNatClampNeg) o_84 (fun (o_18 : Ob) => J109 o_18))))))) (fun (o_109 : Ob) => jn (fun J131 : Ob → Prop => (((o_109.2.1 17) ≤ 0) → J131 o_109) ∧ (¬ ((o_109.2.1 17) ≤ 0) → vp_in ((o_109.2.1 17) - 1) 1000 ∧ (vp_in ((o_109.2.1 17) - 1) 1000 ∧ (J131 ((o_109.1, o_109.2.1, (sa o_109.2.2 19 (upd (o_109.2.2 19) ((o_109.2.1 17) - 1).toNatClampNeg (((o_109.2.2 19) ((o_109.2.1 17) - 1).toNatClampNeg) - 1))))))))) (fun (o_131 : Ob) => w_X10_leave_L0   Post n0 o_131)))))))
def w_X10_leave  (o : Ob) (Post : Ob → Prop) : Prop := ∃ n0, w_X10_leave_L0   Post n0 o
set_option maxRecDepth 100000 in
set_option maxHeartbeats 4000000 in
theorem c_X10_leave (l : Launch) (D : va_G) (E : Nat → ClassId) (a : Nat → Nat)  (o : Ob)  {Post : Ob → Prop} (h : w_X10_leave  o Post) : CtV l yX10_leave cX10_leave 3 ({ frames := 2, cells := 0, slots := 0, locals := 46 } : Room) D E [.ref (a 0)] (List.flatten [bX10 a E o]) (fun u : Ob => List.flatten [bX10 a E u]) Post 0 0 := by
  refine enV (by decide +kernel) (Nat.le_of_ble_eq_true rfl) ?_
  intro p e s m args below meth c Q A ls hx hb hml hown hT hK hA hin0 hret hh hl
  have hl : lv_has ls 3 [(0, .ref (a 0))] := hl
  unfold w_X10_leave at h
  have hw0 : ∀   (n : Nat) (o_0 : Ob) (H : Heap) (locs : List Loc) (ls : Array Slot), w_X10_leave_L0   Post n o_0 → Wh D A s.heap ((List.flatten [bX10 a E o_0])) H locs → lv_has ls 3 [(0, .ref (a 0))] → W p l e ({ frames := 2, cells := 0, slots := 0, locals := 46 } : Room) s m args below meth c H locs 0 0 Q (F0 m 0 ls []) := by
    intro   n
    induction n with
    | zero => intro o_0 H locs ls h hh hl; exact False.elim h
    | succ n ih =>
      intro o_0 H locs ls h hh hl
      refine lv_aload_n hx hb dX10_leave_0 rfl (lv_at hl 0 rfl) ?_
      refine G_X10_157 [] [] hx hb hT hown hK hh (v := o_0.2.1 17) rfl dX10_leave_1 ?_
      refine lv_if_le (tgt := 134) hx hb dX10_leave_4 (by decide) (fun c1 => ?_) (fun c1 => ?_)
      · have h := h.1 c1
        exact hret _ _ _ _ o_0 dX10_leave_134 h hh
      · have h := h.2 c1
        refine lv_aload_n hx hb dX10_leave_7 rfl (lv_at hl 0 rfl) ?_
        refine G_X10_56 [] [] hx hb hT hown hK hh dX10_leave_8 ?_
        refine lv_aload_n hx hb dX10_leave_11 rfl (lv_at hl 0 rfl) ?_
        refine G_X10_157 [] [] hx hb hT hown hK hh (v := o_0.2.1 17) rfl dX10_leave_12 ?_
        refine lv_iconst (v := 1) hx hb dX10_leave_15 (by decide) ?_
        refine lv_isub hx hb dX10_leave_16 ?_
        obtain ⟨g2, h⟩ := h
        refine A_X10_19 [] [] hx hb hK hh (v := (o_0.2.2 19) ((o_0.2.1 17) - 1).toNatClampNeg) g2 rfl dX10_leave_17 ?_
        refine lv_if_ne (tgt := 134) hx hb dX10_leave_18 (by decide) (fun c3 => ?_) (fun c3 => ?_)
        · have h := h.1 c3
          exact hret _ _ _ _ o_0 dX10_leave_134 h hh
        · have h := h.2 c3
          refine lv_aload_n hx hb dX10_leave_21 rfl (lv_at hl 0 rfl) ?_
          refine lv_dup hx hb dX10_leave_22 rfl ?_
          refine G_X10_157 [] [] hx hb hT hown hK hh (v := o_0.2.1 17) rfl dX10_leave_23 ?_
          refine lv_iconst (v := 1) hx hb dX10_leave_26 (by decide) ?_
          refine lv_isub hx hb dX10_leave_27 ?_
          refine P_X10_157 [] [] hx hb hT hown hK hh dX10_leave_28 (fun H locs (hh : Wh D A s.heap ((List.flatten [bX10 a E ((o_0.1, (upd o_0.2.1 17 (((o_0.2.1 17) - 1))), o_0.2.2))])) H locs) => ?_)
          refine lv_aload_n hx hb dX10_leave_31 rfl (lv_at hl 0 rfl) ?_
          refine G_X10_53 [] [] hx hb hT hown hK hh dX10_leave_32 ?_
          refine lv_aload_n hx hb dX10_leave_35 rfl (lv_at hl 0 rfl) ?_
          refine G_X10_157 [] [] hx hb hT hown hK hh (v := ((o_0.2.1 17) - 1)) rfl dX10_leave_36 ?_
          obtain ⟨g4, h⟩ := h
          refine A_X10_18 [] [] hx hb hK hh (v := (o_0.2.2 18) (((o_0.2.1 17) - 1)).toNatClampNeg) g4 rfl dX10_leave_39 ?_
          refine lv_istore_n (lv' := [(1, .int ((o_0.2.2 18) (((o_0.2.1 17) - 1)).toNatClampNeg)), (0, .ref (a 0))]) hx hb dX10_leave_40 rfl hl (by decide) rfl (fun ls hl => ?_)
          refine lv_aload_n hx hb dX10_leave_41 rfl (lv_at hl 1 rfl) ?_
          refine G_X10_35 [] [] hx hb hT hown hK hh dX10_leave_42 ?_
          refine lv_iload_n hx hb dX10_leave_45 rfl (lv_at hl 0 rfl) ?_
          obtain ⟨g5, h⟩ := h
          refine A_X10_9 [] [] hx hb hK hh (v := (o_0.2.2 9) ((o_0.2.2 18) (((o_0.2.1 17) - 1)).toNatClampNeg).toNatClampNeg) g5 rfl dX10_leave_46 ?_
          refine lv_istore_n (lv' := [(2, .int ((o_0.2.2 9) ((o_0.2.2 18) (((o_0.2.1 17) - 1)).toNatClampNeg).toNatClampNeg)), (1, .int ((o_0.2.2 18) (((o_0.2.1 17) - 1)).toNatClampNeg)), (0, .ref (a 0))]) hx hb dX10_leave_47 rfl hl (by decide) rfl (fun ls hl => ?_)
          refine lv_iload_n hx hb dX10_leave_48 rfl (lv_at hl 0 rfl) ?_
          refine jn_elim h (fun J109 hJ109 h => ?_)
          have kJ109 : ∀ (o_109 : Ob) (H : Heap) (locs : List Loc) (ls : Array Slot), J109 o_109 → Wh D A s.heap ((List.flatten [bX10 a E o_109])) H locs → lv_has ls 3 [(0, .ref (a 0))] → W p l e ({ frames := 2, cells := 0, slots := 0, locals := 46 } : Room) s m args below meth c H locs 0 0 Q (F0 m 109 ls []) := by
            intro o_109 H locs ls h hh hl
            rw [hJ109] at h
            refine lv_aload_n hx hb dX10_leave_109 rfl (lv_at hl 0 rfl) ?_
            refine G_X10_157 [] [] hx hb hT hown hK hh (v := o_109.2.1 17) rfl dX10_leave_110 ?_
            refine jn_elim h (fun J131 hJ131 h => ?_)
            have kJ131 : ∀ (o_131 : Ob) (H : Heap) (locs : List Loc) (ls : Array Slot), J131 o_131 → Wh D A s.heap ((List.flatten [bX10 a E o_131])) H locs → lv_has ls 3 [(0, .ref (a 0))] → W p l e ({ frames := 2, cells := 0, slots := 0, locals := 46 } : Room) s m args below meth c H locs 0 0 Q (F0 m 131 ls []) := by
              intro o_131 H locs ls h hh hl
              rw [hJ131] at h
              refine lv_goto (tgt := 0) hx hb dX10_leave_131 (by decide) ?_
              exact ih o_131 _ _ _ h hh (lv_sub hl [0] rfl)
            refine lv_if_le (tgt := 131) hx hb dX10_leave_113 (by decide) (fun c19 => ?_) (fun c19 => ?_)
            · have h := h.1 c19
              exact kJ131 o_109 _ _ _ h hh (lv_sub hl [0] rfl)
            · have h := h.2 c19
              refine lv_aload_n hx hb dX10_leave_116 rfl (lv_at hl 0 rfl) ?_
              refine G_X10_56 [] [] hx hb hT hown hK hh dX10_leave_117 ?_
              refine lv_aload_n hx hb dX10_leave_120 rfl (lv_at hl 0 rfl) ?_
              refine G_X10_157 [] [] hx hb hT hown hK hh (v := o_109.2.1 17) rfl dX10_leave_121 ?_
              refine lv_iconst (v := 1) hx hb dX10_leave_124 (by decide) ?_
              refine lv_isub hx hb dX10_leave_125 ?_
              refine lv_dup2_11 hx hb dX10_leave_126 rfl rfl ?_
              obtain ⟨g20, h⟩ := h
              refine A_X10_19 [] [] hx hb hK hh (v := (o_109.2.2 19) ((o_109.2.1 17) - 1).toNatClampNeg) g20 rfl dX10_leave_127 ?_
              refine lv_iconst (v := 1) hx hb dX10_leave_128 (by decide) ?_
              refine lv_isub hx hb dX10_leave_129 ?_
              obtain ⟨g21, h⟩ := h
              refine S_X10_19 [] [] hx hb hK hh g21 dX10_leave_130 (fun H locs (hh : Wh D A s.heap ((List.flatten [bX10 a E ((o_109.1, o_109.2.1, (sa o_109.2.2 19 (upd (o_109.2.2 19) ((o_109.2.1 17) - 1).toNatClampNeg (((o_109.2.2 19) ((o_109.2.1 17) - 1).toNatClampNeg) - 1)))))])) H locs) => ?_)
              exact kJ131 ((o_109.1, o_109.2.1, (sa o_109.2.2 19 (upd (o_109.2.2 19) ((o_109.2.1 17) - 1).toNatClampNeg (((o_109.2.2 19) ((o_109.2.1 17) - 1).toNatClampNeg) - 1))))) _ _ _ h hh (lv_sub hl [0] rfl)
          refine jn_elim h (fun J84 hJ84 h => ?_)
          have kJ84 : ∀ (o_84 : Ob) (H : Heap) (locs : List Loc) (ls : Array Slot), J84 o_84 → Wh D A s.heap ((List.flatten [bX10 a E o_84])) H locs → lv_has ls 3 [(0, .ref (a 0)), (1, .int ((o_0.2.2 18) (((o_0.2.1 17) - 1)).toNatClampNeg)), (2, .int ((o_0.2.2 9) ((o_0.2.2 18) (((o_0.2.1 17) - 1)).toNatClampNeg).toNatClampNeg))] → W p l e ({ frames := 2, cells := 0, slots := 0, locals := 46 } : Room) s m args below meth c H locs 0 0 Q (F0 m 84 ls []) := by
            intro o_84 H locs ls h hh hl
            rw [hJ84] at h
            refine lv_iload_n hx hb dX10_leave_84 rfl (lv_at hl 2 rfl) ?_
            refine lv_if_lt (tgt := 109) hx hb dX10_leave_85 (by decide) (fun c13 => ?_) (fun c13 => ?_)
            · have h := h.1 c13
              exact kJ109 o_84 _ _ _ h hh (lv_sub hl [0] rfl)
            · have h := h.2 c13
              refine lv_aload_n hx hb dX10_leave_88 rfl (lv_at hl 0 rfl) ?_
              refine G_X10_7 [] [] hx hb hT hown hK hh dX10_leave_89 ?_
              refine lv_iload_n hx hb dX10_leave_92 rfl (lv_at hl 2 rfl) ?_
              obtain ⟨g14, h⟩ := h
              refine A_X10_1 [] [] hx hb hK hh (v := (o_84.2.2 1) ((o_0.2.2 9) ((o_0.2.2 18) (((o_0.2.1 17) - 1)).toNatClampNeg).toNatClampNeg).toNatClampNeg) g14 rfl dX10_leave_93 ?_
              refine lv_bipush (v := 7) hx hb dX10_leave_94 (by decide) ?_
              refine lv_icmp_ne (tgt := 109) hx hb dX10_leave_96 (by decide) (fun c15 => ?_) (fun c15 => ?_)
              · have h := h.1 c15
                exact kJ109 o_84 _ _ _ h hh (lv_sub hl [0] rfl)
              · have h := h.2 c15
                refine lv_aload_n hx hb dX10_leave_99 rfl (lv_at hl 0 rfl) ?_
                refine lv_aload_n hx hb dX10_leave_100 rfl (lv_at hl 0 rfl) ?_
                refine G_X10_38 [] [] hx hb hT hown hK hh dX10_leave_101 ?_
                refine lv_iload_n hx hb dX10_leave_104 rfl (lv_at hl 1 rfl) ?_
                obtain ⟨g16, h⟩ := h
                refine A_X10_10 [] [] hx hb hK hh (v := (o_84.2.2 10) ((o_0.2.2 18) (((o_0.2.1 17) - 1)).toNatClampNeg).toNatClampNeg) g16 rfl dX10_leave_105 ?_
                refine kV hh.ap0 hA (rnV hx hb hml hown hT hK hh.ap0 (c_X10_leafIs l D E a  o_84 ((o_84.2.2 10) ((o_0.2.2 18) (((o_0.2.1 17) - 1)).toNatClampNeg).toNatClampNeg) h _) mf_X10_leafIs kml_X10_164 ⟨rfl, rfl, Nat.le_of_ble_eq_true rfl, Nat.le_of_ble_eq_true rfl⟩ ⟨Nat.le_of_ble_eq_true rfl, Nat.le_of_ble_eq_true rfl⟩ 10 0 rfl rfl hl.1 rfl dX10_leave_106 (Nat.le_of_ble_eq_true rfl) rfl) (fun o_18 H locs h hh => ?_)
                have hh : Wh D A s.heap ((List.flatten [bX10 a E o_18])) _ _ := hh.un0
                exact kJ109 o_18 _ _ _ h hh (lv_sub hl [0] rfl)
          refine lv_if_lt (tgt := 84) hx hb dX10_leave_49 (by decide) (fun c6 => ?_) (fun c6 => ?_)
          · have h := h.1 c6
            exact kJ84 ((o_0.1, (upd o_0.2.1 17 (((o_0.2.1 17) - 1))), o_0.2.2)) _ _ _ h hh (lv_sub hl [2, 1, 0] rfl)
          · have h := h.2 c6
            refine lv_aload_n hx hb dX10_leave_52 rfl (lv_at hl 2 rfl) ?_
            refine G_X10_7 [] [] hx hb hT hown hK hh dX10_leave_53 ?_
            refine lv_iload_n hx hb dX10_leave_56 rfl (lv_at hl 0 rfl) ?_
            obtain ⟨g7, h⟩ := h
            refine A_X10_1 [] [] hx hb hK hh (v := (o_0.2.2 1) ((o_0.2.2 9) ((o_0.2.2 18) (((o_0.2.1 17) - 1)).toNatClampNeg).toNatClampNeg).toNatClampNeg) g7 rfl dX10_leave_57 ?_
            refine lv_iconst (v := 4) hx hb dX10_leave_58 (by decide) ?_
            refine lv_icmp_ne (tgt := 84) hx hb dX10_leave_59 (by decide) (fun c8 => ?_) (fun c8 => ?_)
            · have h := h.1 c8
              exact kJ84 ((o_0.1, (upd o_0.2.1 17 (((o_0.2.1 17) - 1))), o_0.2.2)) _ _ _ h hh (lv_sub hl [2, 1, 0] rfl)
            · have h := h.2 c8
              refine lv_aload_n hx hb dX10_leave_62 rfl (lv_at hl 2 rfl) ?_
              refine lv_aload_n hx hb dX10_leave_63 rfl (lv_at hl 2 rfl) ?_
              refine G_X10_19 [] [] hx hb hT hown hK hh dX10_leave_64 ?_
              refine lv_iload_n hx hb dX10_leave_67 rfl (lv_at hl 0 rfl) ?_
              obtain ⟨g9, h⟩ := h
              refine A_X10_4 [] [] hx hb hK hh (v := (o_0.2.2 4) ((o_0.2.2 9) ((o_0.2.2 18) (((o_0.2.1 17) - 1)).toNatClampNeg).toNatClampNeg).toNatClampNeg) g9 rfl dX10_leave_68 ?_
              refine lv_aload_n hx hb dX10_leave_69 rfl (lv_at hl 2 rfl) ?_
              refine G_X10_59 [] [] hx hb hT hown hK hh dX10_leave_70 ?_
              refine lv_aload_n hx hb dX10_leave_73 rfl (lv_at hl 2 rfl) ?_
              refine G_X10_157 [] [] hx hb hT hown hK hh (v := ((o_0.2.1 17) - 1)) rfl dX10_leave_74 ?_
              obtain ⟨g10, h⟩ := h
              refine A_X10_20 [] [] hx hb hK hh (v := (o_0.2.2 20) (((o_0.2.1 17) - 1)).toNatClampNeg) g10 rfl dX10_leave_77 ?_
              refine kV hh.ap0 hA (rnV hx hb hml hown hT hK hh.ap0 (c_X10_mapFrom l D E a  ((o_0.1, (upd o_0.2.1 17 (((o_0.2.1 17) - 1))), o_0.2.2)) ((o_0.2.2 4) ((o_0.2.2 9) ((o_0.2.2 18) (((o_0.2.1 17) - 1)).toNatClampNeg).toNatClampNeg).toNatClampNeg) ((o_0.2.2 20) (((o_0.2.1 17) - 1)).toNatClampNeg) h _) mf_X10_mapFrom kml_X10_160 ⟨rfl, rfl, Nat.le_of_ble_eq_true rfl, Nat.le_of_ble_eq_true rfl⟩ ⟨Nat.le_of_ble_eq_true rfl, Nat.le_of_ble_eq_true rfl⟩ 10 0 rfl rfl hl.1 rfl dX10_leave_78 (Nat.le_of_ble_eq_true rfl) rfl) (fun o_12 H locs h hh => ?_)
              have hh : Wh D A s.heap ((List.flatten [bX10 a E o_12])) _ _ := hh.un0
              refine lv_goto (tgt := 109) hx hb dX10_leave_81 (by decide) ?_
              exact kJ109 o_12 _ _ _ h hh (lv_sub hl [2] rfl)
  obtain ⟨n, h⟩ := h
  refine hw0   n o _ _ _ h hh (lv_sub hl [0] rfl)

def w_X10_reckon_L18 (f1_18 : Int32) (f3_18 : Int32) (K220_18 : Ob → Prop) (Post : Ob → Prop) : Nat → Int32 → Ob → Prop
  | 0, _, _ => False
  | n18 + 1, p4_18, o_18 => ((f3_18 ≤ p4_18) → K220_18 o_18) ∧ (¬ (f3_18 ≤ p4_18) → vp_in ((1000 * f1_18) + p4_18) 5000 ∧ (jn (fun J137 : Ob → Prop => jn (fun J58 : Ob → Prop => ((((o_18.2.2 9) ((1000 * f1_18) + p4_18).toNatClampNeg) < 0) → J58 o_18) ∧ (¬ (((o_18.2.2 9) ((1000 * f1_18) + p4_18).toNatClampNeg) < 0) → vp_in ((o_18.2.2 9) ((1000 * f1_18) + p4_18).toNatClampNeg) 30 ∧ (((¬ ((o_18.2.2 1) ((o_18.2.2 9) ((1000 * f1_18) + p4_18).toNatClampNeg).toNatClampNeg) = 0) → vp_in ((o_18.2.2 9) ((1000 * f1_18) + p4_18).toNatClampNeg) 30 ∧ (jn (fun J95 : Ob → Prop => ((((o_18.2.2 1) ((o_18.2.2 9) ((1000 * f1_18) + p4_18).toNatClampNeg).toNatClampNeg) = 1) → J95 o_18) ∧ (¬ (((o_18.2.2 1) ((o_18.2.2 9) ((1000 * f1_18) + p4_18).toNatClampNeg).toNatClampNeg) = 1) → vp_in ((o_18.2.2 9) ((1000 * f1_18) + p4_18).toNatClampNeg) 30 ∧ (((¬ ((o_18.2.2 1) ((o_18.2.2 9) ((1000 * f1_18) + p4_18).toNatClampNeg).toNatClampNeg) = 6) → vp_in ((o_18.2.2 9) ((1000 * f1_18) + p4_18).toNatClampNeg) 30 ∧ (jn (fun J132 : Ob → Prop => ((((o_18.2.2 1) ((o_18.2.2 9) ((1000 * f1_18) + p4_18).toNatClampNeg).toNatClampNeg) = 2) → J132 o_18) ∧ (¬ (((o_18.2.2 1) ((o_18.2.2 9) ((1000 * f1_18) + p4_18).toNatClampNeg).toNatClampNeg) = 2) → vp_in ((o_18.2.2 9) ((1000 * f1_18) + p4_18).toNatClampNeg) 30 ∧ (((¬ ((o_18.2.2 1) ((o_18.2.2 9) ((1000 * f1_18) + p4_18).toNatClampNeg).toNatClampNeg) = 7) → J137 o_18) ∧ ((((o_18.2.2 1) ((o_18.2.2 9) ((1000 * f1_18) + p4_18).toNatClampNeg).toNatClampNeg) = 7) → J132 o_18)))) (fun (o_132 : Ob) => w_X10_rowIs  (2 : Int32) o_132 (fun (o_15 : Ob) => J137 o_15)))) ∧ ((((o_18.2.2 1) ((o_18.2.2 9) ((1000 * f1_18) + p4_18).toNatClampNeg).toNatClampNeg) = 6) → J95 o_18)))) (fun (o_95 : Ob) => vp_in ((1000 * f1_18) + p4_18) 5000 ∧ (w_X10_rowIs  ((o_95.2.2 10) ((1000 * f1_18) + p4_18).toNatClampNeg) o_95 (fun (o_18 : Ob) => J137 o_18))))) ∧ ((((o_18.2.2 1) ((o_18.2.2 9) ((1000 * f1_18) + p4_18).toNatClampNeg).toNatClampNeg) = 0) → J58 o_18)))) (fun (o_58 : Ob) => vp_in ((1000 * f1_18) + p4_18) 5000 ∧ (w_X10_leafIs  ((o_58.2.2 10) ((1000 * f1_18) + p4_18).toNatClampNeg) o_58 (fun (o_21 : Ob) => J137 o_21)))) (fun (o_137 : Ob) => vp_in (o_137.2.1 17) 1000 ∧ (w_X10_parts  ((1000 * f1_18) + p4_18) ((o_137.1, o_137.2.1, (sa o_137.2.2 18 (upd (o_137.2.2 18) (o_137.2.1 17).toNatClampNeg ((1000 * f1_18) + p4_18))))) (fun (r23 : Int32) (o_24 : Ob) => vp_in (o_137.2.1 17) 1000 ∧ (jn (fun J199 : Int32 → Ob → Prop => jn (fun J186 : Ob → Prop => ((((o_18.2.2 9) ((1000 * f1_18) + p4_18).toNatClampNeg) < 0) → J186 ((o_24.1, o_24.2.1, (sa o_24.2.2 19 (upd (o_24.2.2 19) (o_137.2.1 17).toNatClampNeg r23))))) ∧ (¬ (((o_18.2.2 9) ((1000 * f1_18) + p4_18).toNatClampNeg) < 0) → vp_in ((o_18.2.2 9) ((1000 * f1_18) + p4_18).toNatClampNeg) 30 ∧ (((¬ ((o_24.2.2 1) ((o_18.2.2 9) ((1000 * f1_18) + p4_18).toNatClampNeg).toNatClampNeg) = 0) → J199 (o_24.2.1 14) ((o_24.1, o_24.2.1, (sa o_24.2.2 19 (upd (o_24.2.2 19) (o_137.2.1 17).toNatClampNeg r23))))) ∧ ((((o_24.2.2 1) ((o_18.2.2 9) ((1000 * f1_18) + p4_18).toNatClampNeg).toNatClampNeg) = 0) → J186 ((o_24.1, o_24.2.1, (sa o_24.2.2 19 (upd (o_24.2.2 19) (o_137.2.1 17).toNatClampNeg r23)))))))) (fun (o_186 : Ob) => J199 ((o_186.2.1 14) - 1) o_186)) (fun (z_199 : Int32) (o_199 : Ob) => vp_in (o_24.2.1 17) 1000 ∧ (w_X10_leave   ((o_199.1, (upd o_199.2.1 17 (((o_199.2.1 17) + 1))), (sa o_199.2.2 20 (upd (o_199.2.2 20) (o_24.2.1 17).toNatClampNeg z_199)))) (fun (o_31 : Ob) => w_X10_reckon_L18 f1_18 f3_18 K220_18 Post n18 (p4_18 + 1) o_31)))))))))
def w_X10_reckon_L223   (Post : Ob → Prop) : Nat → Int32 → Ob → Prop
  | 0, _, _ => False
  | n223 + 1, p4_223, o_223 => (((o_223.2.1 14) ≤ p4_223) → Post o_223) ∧ (¬ ((o_223.2.1 14) ≤ p4_223) → vp_in p4_223 64 ∧ (vp_in p4_223 64 ∧ (vp_in ((o_223.2.2 16) p4_223.toNatClampNeg) 1600 ∧ (w_X10_reckon_L223   Post n223 (p4_223 + 1) ((o_223.1, o_223.2.1, (sa o_223.2.2 13 (upd (o_223.2.2 13) ((o_223.2.2 16) p4_223.toNatClampNeg).toNatClampNeg ((o_223.2.2 15) p4_223.toNatClampNeg)))))))))
def w_X10_reckon (x1 : Int32) (x2 : Int32) (x3 : Int32) (o : Ob) (Post : Ob → Prop) : Prop := ∃ n18, w_X10_reckon_L18 x1 x3 (fun (o_k220 : Ob) => ∃ n223, w_X10_reckon_L223   Post n223 0 o_k220) Post n18 x2 ((o.1, (upd (upd (upd o.2.1 11 ((0 : Int32))) 14 ((0 : Int32))) 17 ((0 : Int32))), o.2.2))
set_option maxRecDepth 100000 in
set_option maxHeartbeats 4000000 in
theorem c_X10_reckon (l : Launch) (D : va_G) (E : Nat → ClassId) (a : Nat → Nat)  (o : Ob) (x1 : Int32) (x2 : Int32) (x3 : Int32) {Post : Ob → Prop} (h : w_X10_reckon x1 x2 x3 o Post) : CtV l yX10_reckon cX10_reckon 7 ({ frames := 3, cells := 0, slots := 0, locals := 68 } : Room) D E [.ref (a 0), .int (x1), .int (x2), .int (x3)] (List.flatten [bX10 a E o]) (fun u : Ob => List.flatten [bX10 a E u]) Post 0 0 := by
  refine enV (by decide +kernel) (Nat.le_of_ble_eq_true rfl) ?_
  intro p e s m args below meth c Q A ls hx hb hml hown hT hK hA hin0 hret hh hl
  have hl : lv_has ls 7 [(0, .ref (a 0)), (1, .int (x1)), (2, .int (x2)), (3, .int (x3))] := hl
  unfold w_X10_reckon at h
  refine lv_aload_n hx hb dX10_reckon_0 rfl (lv_at hl 0 rfl) ?_
  refine lv_iconst (v := 0) hx hb dX10_reckon_1 (by decide) ?_
  refine P_X10_150 [] [] hx hb hT hown hK hh dX10_reckon_2 (fun H locs (hh : Wh D A s.heap ((List.flatten [bX10 a E ((o.1, (upd o.2.1 11 ((0 : Int32))), o.2.2))])) H locs) => ?_)
  refine lv_aload_n hx hb dX10_reckon_5 rfl (lv_at hl 0 rfl) ?_
  refine lv_iconst (v := 0) hx hb dX10_reckon_6 (by decide) ?_
  refine P_X10_147 [] [] hx hb hT hown hK hh dX10_reckon_7 (fun H locs (hh : Wh D A s.heap ((List.flatten [bX10 a E ((o.1, (upd (upd o.2.1 11 ((0 : Int32))) 14 ((0 : Int32))), o.2.2))])) H locs) => ?_)
  refine lv_aload_n hx hb dX10_reckon_10 rfl (lv_at hl 0 rfl) ?_
  refine lv_iconst (v := 0) hx hb dX10_reckon_11 (by decide) ?_
  refine P_X10_157 [] [] hx hb hT hown hK hh dX10_reckon_12 (fun H locs (hh : Wh D A s.heap ((List.flatten [bX10 a E ((o.1, (upd (upd (upd o.2.1 11 ((0 : Int32))) 14 ((0 : Int32))) 17 ((0 : Int32))), o.2.2))])) H locs) => ?_)
  refine lv_iload_n hx hb dX10_reckon_15 rfl (lv_at hl 2 rfl) ?_
  refine lv_istore (lv' := [(4, .int (x2)), (0, .ref (a 0)), (1, .int (x1)), (2, .int (x2)), (3, .int (x3))]) hx hb dX10_reckon_16 hl (by decide) rfl (fun ls hl => ?_)
  have hw18 : ∀ (K220_18 : Ob → Prop) (hK220_18 : ∀ (o_k220 : Ob) (H : Heap) (locs : List Loc) (ls : Array Slot), K220_18 o_k220 → Wh D A s.heap ((List.flatten [bX10 a E o_k220])) H locs → lv_has ls 7 [(0, .ref (a 0))] → W p l e ({ frames := 3, cells := 0, slots := 0, locals := 68 } : Room) s m args below meth c H locs 0 0 Q (F0 m 220 ls [])) (n : Nat) (p4_18 : Int32) (o_18 : Ob) (H : Heap) (locs : List Loc) (ls : Array Slot), w_X10_reckon_L18 x1 x3 K220_18 Post n p4_18 o_18 → Wh D A s.heap ((List.flatten [bX10 a E o_18])) H locs → lv_has ls 7 [(0, .ref (a 0)), (1, .int (x1)), (3, .int (x3)), (4, .int (p4_18))] → W p l e ({ frames := 3, cells := 0, slots := 0, locals := 68 } : Room) s m args below meth c H locs 0 0 Q (F0 m 18 ls []) := by
    intro K220_18 hK220_18 n
    induction n with
    | zero => intro p4_18 o_18 H locs ls h hh hl; exact False.elim h
    | succ n ih =>
      intro p4_18 o_18 H locs ls h hh hl
      refine lv_iload hx hb dX10_reckon_18 (lv_at hl 3 rfl) ?_
      refine lv_iload_n hx hb dX10_reckon_20 rfl (lv_at hl 2 rfl) ?_
      refine lv_icmp_ge (tgt := 220) hx hb dX10_reckon_21 (by decide) (fun c1 => ?_) (fun c1 => ?_)
      · have h := h.1 c1
        exact hK220_18 o_18 _ _ _ h hh (lv_sub hl [0] rfl)
      · have h := h.2 c1
        refine lv_sipush (v := 1000) hx hb dX10_reckon_24 (by decide) ?_
        refine lv_iload_n hx hb dX10_reckon_27 rfl (lv_at hl 1 rfl) ?_
        refine lv_imul hx hb dX10_reckon_28 ?_
        refine lv_iload hx hb dX10_reckon_29 (lv_at hl 3 rfl) ?_
        refine lv_iadd hx hb dX10_reckon_31 ?_
        refine lv_istore (lv' := [(5, .int ((1000 * x1) + p4_18)), (0, .ref (a 0)), (1, .int (x1)), (3, .int (x3)), (4, .int (p4_18))]) hx hb dX10_reckon_32 hl (by decide) rfl (fun ls hl => ?_)
        refine lv_aload_n hx hb dX10_reckon_34 rfl (lv_at hl 1 rfl) ?_
        refine G_X10_35 [] [] hx hb hT hown hK hh dX10_reckon_35 ?_
        refine lv_iload hx hb dX10_reckon_38 (lv_at hl 0 rfl) ?_
        obtain ⟨g2, h⟩ := h
        refine A_X10_9 [] [] hx hb hK hh (v := (o_18.2.2 9) ((1000 * x1) + p4_18).toNatClampNeg) g2 rfl dX10_reckon_40 ?_
        refine lv_istore (lv' := [(6, .int ((o_18.2.2 9) ((1000 * x1) + p4_18).toNatClampNeg)), (5, .int ((1000 * x1) + p4_18)), (0, .ref (a 0)), (1, .int (x1)), (3, .int (x3)), (4, .int (p4_18))]) hx hb dX10_reckon_41 hl (by decide) rfl (fun ls hl => ?_)
        refine lv_iload hx hb dX10_reckon_43 (lv_at hl 0 rfl) ?_
        refine jn_elim h (fun J137 hJ137 h => ?_)
        have kJ137 : ∀ (o_137 : Ob) (H : Heap) (locs : List Loc) (ls : Array Slot), J137 o_137 → Wh D A s.heap ((List.flatten [bX10 a E o_137])) H locs → lv_has ls 7 [(0, .ref (a 0)), (1, .int (x1)), (3, .int (x3)), (4, .int (p4_18)), (5, .int ((1000 * x1) + p4_18)), (6, .int ((o_18.2.2 9) ((1000 * x1) + p4_18).toNatClampNeg))] → W p l e ({ frames := 3, cells := 0, slots := 0, locals := 68 } : Room) s m args below meth c H locs 0 0 Q (F0 m 137 ls []) := by
          intro o_137 H locs ls h hh hl
          rw [hJ137] at h
          refine lv_aload_n hx hb dX10_reckon_137 rfl (lv_at hl 0 rfl) ?_
          refine G_X10_53 [] [] hx hb hT hown hK hh dX10_reckon_138 ?_
          refine lv_aload_n hx hb dX10_reckon_141 rfl (lv_at hl 0 rfl) ?_
          refine G_X10_157 [] [] hx hb hT hown hK hh (v := o_137.2.1 17) rfl dX10_reckon_142 ?_
          refine lv_iload hx hb dX10_reckon_145 (lv_at hl 4 rfl) ?_
          obtain ⟨g22, h⟩ := h
          refine S_X10_18 [] [] hx hb hK hh g22 dX10_reckon_147 (fun H locs (hh : Wh D A s.heap ((List.flatten [bX10 a E ((o_137.1, o_137.2.1, (sa o_137.2.2 18 (upd (o_137.2.2 18) (o_137.2.1 17).toNatClampNeg ((1000 * x1) + p4_18)))))])) H locs) => ?_)
          refine lv_aload_n hx hb dX10_reckon_148 rfl (lv_at hl 0 rfl) ?_
          refine G_X10_56 [] [] hx hb hT hown hK hh dX10_reckon_149 ?_
          refine lv_aload_n hx hb dX10_reckon_152 rfl (lv_at hl 0 rfl) ?_
          refine G_X10_157 [] [] hx hb hT hown hK hh (v := o_137.2.1 17) rfl dX10_reckon_153 ?_
          refine lv_aload_n hx hb dX10_reckon_156 rfl (lv_at hl 0 rfl) ?_
          refine lv_iload hx hb dX10_reckon_157 (lv_at hl 4 rfl) ?_
          refine kI hh.ap0 hA (rnV hx hb hml hown hT hK hh.ap0 (c_X10_parts l D E a  ((o_137.1, o_137.2.1, (sa o_137.2.2 18 (upd (o_137.2.2 18) (o_137.2.1 17).toNatClampNeg ((1000 * x1) + p4_18))))) ((1000 * x1) + p4_18) h _) mf_X10_parts kml_X10_143 ⟨rfl, rfl, Nat.le_of_ble_eq_true rfl, Nat.le_of_ble_eq_true rfl⟩ ⟨Nat.le_of_ble_eq_true rfl, Nat.le_of_ble_eq_true rfl⟩ 10 0 rfl rfl hl.1 rfl dX10_reckon_159 (Nat.le_of_ble_eq_true rfl) rfl) (fun r23 o_24 H locs h hh => ?_)
          have hh : Wh D A s.heap ((List.flatten [bX10 a E o_24])) _ _ := hh.un0
          obtain ⟨g25, h⟩ := h
          refine S_X10_19 [] [] hx hb hK hh g25 dX10_reckon_162 (fun H locs (hh : Wh D A s.heap ((List.flatten [bX10 a E ((o_24.1, o_24.2.1, (sa o_24.2.2 19 (upd (o_24.2.2 19) (o_137.2.1 17).toNatClampNeg r23))))])) H locs) => ?_)
          refine lv_aload_n hx hb dX10_reckon_163 rfl (lv_at hl 0 rfl) ?_
          refine G_X10_59 [] [] hx hb hT hown hK hh dX10_reckon_164 ?_
          refine lv_aload_n hx hb dX10_reckon_167 rfl (lv_at hl 0 rfl) ?_
          refine G_X10_157 [] [] hx hb hT hown hK hh (v := o_24.2.1 17) rfl dX10_reckon_168 ?_
          refine lv_iload hx hb dX10_reckon_171 (lv_at hl 5 rfl) ?_
          refine jn_elim h (fun J199 hJ199 h => ?_)
          have kJ199 : ∀ (z_199 : Int32) (o_199 : Ob) (H : Heap) (locs : List Loc) (ls : Array Slot), J199 z_199 o_199 → Wh D A s.heap ((List.flatten [bX10 a E o_199])) H locs → lv_has ls 7 [(0, .ref (a 0)), (1, .int (x1)), (3, .int (x3)), (4, .int (p4_18))] → W p l e ({ frames := 3, cells := 0, slots := 0, locals := 68 } : Room) s m args below meth c H locs 0 0 Q (F0 m 199 ls [.int (z_199), .int (o_24.2.1 17), .ref (a 21)]) := by
            intro z_199 o_199 H locs ls h hh hl
            rw [hJ199] at h
            obtain ⟨g29, h⟩ := h
            refine S_X10_20 [] [] hx hb hK hh g29 dX10_reckon_199 (fun H locs (hh : Wh D A s.heap ((List.flatten [bX10 a E ((o_199.1, o_199.2.1, (sa o_199.2.2 20 (upd (o_199.2.2 20) (o_24.2.1 17).toNatClampNeg z_199))))])) H locs) => ?_)
            refine lv_aload_n hx hb dX10_reckon_200 rfl (lv_at hl 0 rfl) ?_
            refine lv_dup hx hb dX10_reckon_201 rfl ?_
            refine G_X10_157 [] [] hx hb hT hown hK hh (v := o_199.2.1 17) rfl dX10_reckon_202 ?_
            refine lv_iconst (v := 1) hx hb dX10_reckon_205 (by decide) ?_
            refine lv_iadd hx hb dX10_reckon_206 ?_
            refine P_X10_157 [] [] hx hb hT hown hK hh dX10_reckon_207 (fun H locs (hh : Wh D A s.heap ((List.flatten [bX10 a E ((o_199.1, (upd o_199.2.1 17 (((o_199.2.1 17) + 1))), (sa o_199.2.2 20 (upd (o_199.2.2 20) (o_24.2.1 17).toNatClampNeg z_199))))])) H locs) => ?_)
            refine lv_aload_n hx hb dX10_reckon_210 rfl (lv_at hl 0 rfl) ?_
            refine kV hh.ap0 hA (rnV hx hb hml hown hT hK hh.ap0 (c_X10_leave l D E a  ((o_199.1, (upd o_199.2.1 17 (((o_199.2.1 17) + 1))), (sa o_199.2.2 20 (upd (o_199.2.2 20) (o_24.2.1 17).toNatClampNeg z_199))))  h _) mf_X10_leave kml_X10_171 ⟨rfl, rfl, Nat.le_of_ble_eq_true rfl, Nat.le_of_ble_eq_true rfl⟩ ⟨Nat.le_of_ble_eq_true rfl, Nat.le_of_ble_eq_true rfl⟩ 10 0 rfl rfl hl.1 rfl dX10_reckon_211 (Nat.le_of_ble_eq_true rfl) rfl) (fun o_31 H locs h hh => ?_)
            have hh : Wh D A s.heap ((List.flatten [bX10 a E o_31])) _ _ := hh.un0
            refine lv_iinc (v := p4_18 + 1) (lv' := [(4, .int (p4_18 + 1)), (0, .ref (a 0)), (1, .int (x1)), (3, .int (x3))]) hx hb dX10_reckon_214 hl (k := 3) rfl (by rfl) (by decide) rfl (fun ls hl => ?_)
            refine lv_goto (tgt := 18) hx hb dX10_reckon_217 (by decide) ?_
            exact ih (p4_18 + 1) o_31 _ _ _ h hh (lv_sub hl [1, 2, 3, 0] rfl)
          refine jn_elim h (fun J186 hJ186 h => ?_)
          have kJ186 : ∀ (o_186 : Ob) (H : Heap) (locs : List Loc) (ls : Array Slot), J186 o_186 → Wh D A s.heap ((List.flatten [bX10 a E o_186])) H locs → lv_has ls 7 [(0, .ref (a 0)), (1, .int (x1)), (3, .int (x3)), (4, .int (p4_18))] → W p l e ({ frames := 3, cells := 0, slots := 0, locals := 68 } : Room) s m args below meth c H locs 0 0 Q (F0 m 186 ls [.int (o_24.2.1 17), .ref (a 21)]) := by
            intro o_186 H locs ls h hh hl
            rw [hJ186] at h
            refine lv_aload_n hx hb dX10_reckon_186 rfl (lv_at hl 0 rfl) ?_
            refine G_X10_147 [] [] hx hb hT hown hK hh (v := o_186.2.1 14) rfl dX10_reckon_187 ?_
            refine lv_iconst (v := 1) hx hb dX10_reckon_190 (by decide) ?_
            refine lv_isub hx hb dX10_reckon_191 ?_
            refine lv_goto (tgt := 199) hx hb dX10_reckon_192 (by decide) ?_
            exact kJ199 ((o_186.2.1 14) - 1) o_186 _ _ _ h hh (lv_sub hl [0, 1, 2, 3] rfl)
          refine lv_if_lt (tgt := 186) hx hb dX10_reckon_173 (by decide) (fun c26 => ?_) (fun c26 => ?_)
          · have h := h.1 c26
            exact kJ186 ((o_24.1, o_24.2.1, (sa o_24.2.2 19 (upd (o_24.2.2 19) (o_137.2.1 17).toNatClampNeg r23)))) _ _ _ h hh (lv_sub hl [0, 1, 2, 3] rfl)
          · have h := h.2 c26
            refine lv_aload_n hx hb dX10_reckon_176 rfl (lv_at hl 0 rfl) ?_
            refine G_X10_7 [] [] hx hb hT hown hK hh dX10_reckon_177 ?_
            refine lv_iload hx hb dX10_reckon_180 (lv_at hl 5 rfl) ?_
            obtain ⟨g27, h⟩ := h
            refine A_X10_1 [] [] hx hb hK hh (v := (o_24.2.2 1) ((o_18.2.2 9) ((1000 * x1) + p4_18).toNatClampNeg).toNatClampNeg) g27 rfl dX10_reckon_182 ?_
            refine lv_if_ne (tgt := 195) hx hb dX10_reckon_183 (by decide) (fun c28 => ?_) (fun c28 => ?_)
            · have h := h.1 c28
              refine lv_aload_n hx hb dX10_reckon_195 rfl (lv_at hl 0 rfl) ?_
              refine G_X10_147 [] [] hx hb hT hown hK hh (v := o_24.2.1 14) rfl dX10_reckon_196 ?_
              exact kJ199 (o_24.2.1 14) ((o_24.1, o_24.2.1, (sa o_24.2.2 19 (upd (o_24.2.2 19) (o_137.2.1 17).toNatClampNeg r23)))) _ _ _ h hh (lv_sub hl [0, 1, 2, 3] rfl)
            · have h := h.2 c28
              exact kJ186 ((o_24.1, o_24.2.1, (sa o_24.2.2 19 (upd (o_24.2.2 19) (o_137.2.1 17).toNatClampNeg r23)))) _ _ _ h hh (lv_sub hl [0, 1, 2, 3] rfl)
        refine jn_elim h (fun J58 hJ58 h => ?_)
        have kJ58 : ∀ (o_58 : Ob) (H : Heap) (locs : List Loc) (ls : Array Slot), J58 o_58 → Wh D A s.heap ((List.flatten [bX10 a E o_58])) H locs → lv_has ls 7 [(0, .ref (a 0)), (1, .int (x1)), (3, .int (x3)), (4, .int (p4_18)), (5, .int ((1000 * x1) + p4_18)), (6, .int ((o_18.2.2 9) ((1000 * x1) + p4_18).toNatClampNeg))] → W p l e ({ frames := 3, cells := 0, slots := 0, locals := 68 } : Room) s m args below meth c H locs 0 0 Q (F0 m 58 ls []) := by
          intro o_58 H locs ls h hh hl
          rw [hJ58] at h
          refine lv_aload_n hx hb dX10_reckon_58 rfl (lv_at hl 0 rfl) ?_
          refine lv_aload_n hx hb dX10_reckon_59 rfl (lv_at hl 0 rfl) ?_
          refine G_X10_38 [] [] hx hb hT hown hK hh dX10_reckon_60 ?_
          refine lv_iload hx hb dX10_reckon_63 (lv_at hl 4 rfl) ?_
          obtain ⟨g19, h⟩ := h
          refine A_X10_10 [] [] hx hb hK hh (v := (o_58.2.2 10) ((1000 * x1) + p4_18).toNatClampNeg) g19 rfl dX10_reckon_65 ?_
          refine kV hh.ap0 hA (rnV hx hb hml hown hT hK hh.ap0 (c_X10_leafIs l D E a  o_58 ((o_58.2.2 10) ((1000 * x1) + p4_18).toNatClampNeg) h _) mf_X10_leafIs kml_X10_164 ⟨rfl, rfl, Nat.le_of_ble_eq_true rfl, Nat.le_of_ble_eq_true rfl⟩ ⟨Nat.le_of_ble_eq_true rfl, Nat.le_of_ble_eq_true rfl⟩ 10 0 rfl rfl hl.1 rfl dX10_reckon_66 (Nat.le_of_ble_eq_true rfl) rfl) (fun o_21 H locs h hh => ?_)
          have hh : Wh D A s.heap ((List.flatten [bX10 a E o_21])) _ _ := hh.un0
          refine lv_goto (tgt := 137) hx hb dX10_reckon_69 (by decide) ?_
          exact kJ137 o_21 _ _ _ h hh (lv_sub hl [0, 1, 2, 3, 4, 5] rfl)
        refine lv_if_lt (tgt := 58) hx hb dX10_reckon_45 (by decide) (fun c3 => ?_) (fun c3 => ?_)
        · have h := h.1 c3
          exact kJ58 o_18 _ _ _ h hh (lv_sub hl [2, 3, 4, 5, 1, 0] rfl)
        · have h := h.2 c3
          refine lv_aload_n hx hb dX10_reckon_48 rfl (lv_at hl 2 rfl) ?_
          refine G_X10_7 [] [] hx hb hT hown hK hh dX10_reckon_49 ?_
          refine lv_iload hx hb dX10_reckon_52 (lv_at hl 0 rfl) ?_
          obtain ⟨g4, h⟩ := h
          refine A_X10_1 [] [] hx hb hK hh (v := (o_18.2.2 1) ((o_18.2.2 9) ((1000 * x1) + p4_18).toNatClampNeg).toNatClampNeg) g4 rfl dX10_reckon_54 ?_
          refine lv_if_ne (tgt := 72) hx hb dX10_reckon_55 (by decide) (fun c5 => ?_) (fun c5 => ?_)
          · have h := h.1 c5
            refine lv_aload_n hx hb dX10_reckon_72 rfl (lv_at hl 2 rfl) ?_
            refine G_X10_7 [] [] hx hb hT hown hK hh dX10_reckon_73 ?_
            refine lv_iload hx hb dX10_reckon_76 (lv_at hl 0 rfl) ?_
            obtain ⟨g6, h⟩ := h
            refine A_X10_1 [] [] hx hb hK hh (v := (o_18.2.2 1) ((o_18.2.2 9) ((1000 * x1) + p4_18).toNatClampNeg).toNatClampNeg) g6 rfl dX10_reckon_78 ?_
            refine lv_iconst (v := 1) hx hb dX10_reckon_79 (by decide) ?_
            refine jn_elim h (fun J95 hJ95 h => ?_)
            have kJ95 : ∀ (o_95 : Ob) (H : Heap) (locs : List Loc) (ls : Array Slot), J95 o_95 → Wh D A s.heap ((List.flatten [bX10 a E o_95])) H locs → lv_has ls 7 [(0, .ref (a 0)), (1, .int (x1)), (3, .int (x3)), (4, .int (p4_18)), (5, .int ((1000 * x1) + p4_18)), (6, .int ((o_18.2.2 9) ((1000 * x1) + p4_18).toNatClampNeg))] → W p l e ({ frames := 3, cells := 0, slots := 0, locals := 68 } : Room) s m args below meth c H locs 0 0 Q (F0 m 95 ls []) := by
              intro o_95 H locs ls h hh hl
              rw [hJ95] at h
              refine lv_aload_n hx hb dX10_reckon_95 rfl (lv_at hl 0 rfl) ?_
              refine lv_aload_n hx hb dX10_reckon_96 rfl (lv_at hl 0 rfl) ?_
              refine G_X10_38 [] [] hx hb hT hown hK hh dX10_reckon_97 ?_
              refine lv_iload hx hb dX10_reckon_100 (lv_at hl 4 rfl) ?_
              obtain ⟨g16, h⟩ := h
              refine A_X10_10 [] [] hx hb hK hh (v := (o_95.2.2 10) ((1000 * x1) + p4_18).toNatClampNeg) g16 rfl dX10_reckon_102 ?_
              refine kV hh.ap0 hA (rnV hx hb hml hown hT hK hh.ap0 (c_X10_rowIs l D E a  o_95 ((o_95.2.2 10) ((1000 * x1) + p4_18).toNatClampNeg) h _) mf_X10_rowIs kml_X10_168 ⟨rfl, rfl, Nat.le_of_ble_eq_true rfl, Nat.le_of_ble_eq_true rfl⟩ ⟨Nat.le_of_ble_eq_true rfl, Nat.le_of_ble_eq_true rfl⟩ 10 0 rfl rfl hl.1 rfl dX10_reckon_103 (Nat.le_of_ble_eq_true rfl) rfl) (fun o_18 H locs h hh => ?_)
              have hh : Wh D A s.heap ((List.flatten [bX10 a E o_18])) _ _ := hh.un0
              refine lv_goto (tgt := 137) hx hb dX10_reckon_106 (by decide) ?_
              exact kJ137 o_18 _ _ _ h hh (lv_sub hl [0, 1, 2, 3, 4, 5] rfl)
            refine lv_icmp_eq (tgt := 95) hx hb dX10_reckon_80 (by decide) (fun c7 => ?_) (fun c7 => ?_)
            · have h := h.1 c7
              exact kJ95 o_18 _ _ _ h hh (lv_sub hl [2, 3, 4, 5, 1, 0] rfl)
            · have h := h.2 c7
              refine lv_aload_n hx hb dX10_reckon_83 rfl (lv_at hl 2 rfl) ?_
              refine G_X10_7 [] [] hx hb hT hown hK hh dX10_reckon_84 ?_
              refine lv_iload hx hb dX10_reckon_87 (lv_at hl 0 rfl) ?_
              obtain ⟨g8, h⟩ := h
              refine A_X10_1 [] [] hx hb hK hh (v := (o_18.2.2 1) ((o_18.2.2 9) ((1000 * x1) + p4_18).toNatClampNeg).toNatClampNeg) g8 rfl dX10_reckon_89 ?_
              refine lv_bipush (v := 6) hx hb dX10_reckon_90 (by decide) ?_
              refine lv_icmp_ne (tgt := 109) hx hb dX10_reckon_92 (by decide) (fun c9 => ?_) (fun c9 => ?_)
              · have h := h.1 c9
                refine lv_aload_n hx hb dX10_reckon_109 rfl (lv_at hl 2 rfl) ?_
                refine G_X10_7 [] [] hx hb hT hown hK hh dX10_reckon_110 ?_
                refine lv_iload hx hb dX10_reckon_113 (lv_at hl 0 rfl) ?_
                obtain ⟨g10, h⟩ := h
                refine A_X10_1 [] [] hx hb hK hh (v := (o_18.2.2 1) ((o_18.2.2 9) ((1000 * x1) + p4_18).toNatClampNeg).toNatClampNeg) g10 rfl dX10_reckon_115 ?_
                refine lv_iconst (v := 2) hx hb dX10_reckon_116 (by decide) ?_
                refine jn_elim h (fun J132 hJ132 h => ?_)
                have kJ132 : ∀ (o_132 : Ob) (H : Heap) (locs : List Loc) (ls : Array Slot), J132 o_132 → Wh D A s.heap ((List.flatten [bX10 a E o_132])) H locs → lv_has ls 7 [(0, .ref (a 0)), (1, .int (x1)), (3, .int (x3)), (4, .int (p4_18)), (5, .int ((1000 * x1) + p4_18)), (6, .int ((o_18.2.2 9) ((1000 * x1) + p4_18).toNatClampNeg))] → W p l e ({ frames := 3, cells := 0, slots := 0, locals := 68 } : Room) s m args below meth c H locs 0 0 Q (F0 m 132 ls []) := by
                  intro o_132 H locs ls h hh hl
                  rw [hJ132] at h
                  refine lv_aload_n hx hb dX10_reckon_132 rfl (lv_at hl 0 rfl) ?_
                  refine lv_iconst (v := 2) hx hb dX10_reckon_133 (by decide) ?_
                  refine kV hh.ap0 hA (rnV hx hb hml hown hT hK hh.ap0 (c_X10_rowIs l D E a  o_132 (2 : Int32) h _) mf_X10_rowIs kml_X10_168 ⟨rfl, rfl, Nat.le_of_ble_eq_true rfl, Nat.le_of_ble_eq_true rfl⟩ ⟨Nat.le_of_ble_eq_true rfl, Nat.le_of_ble_eq_true rfl⟩ 10 0 rfl rfl hl.1 rfl dX10_reckon_134 (Nat.le_of_ble_eq_true rfl) rfl) (fun o_15 H locs h hh => ?_)
                  have hh : Wh D A s.heap ((List.flatten [bX10 a E o_15])) _ _ := hh.un0
                  exact kJ137 o_15 _ _ _ h hh (lv_sub hl [0, 1, 2, 3, 4, 5] rfl)
                refine lv_icmp_eq (tgt := 132) hx hb dX10_reckon_117 (by decide) (fun c11 => ?_) (fun c11 => ?_)
                · have h := h.1 c11
                  exact kJ132 o_18 _ _ _ h hh (lv_sub hl [2, 3, 4, 5, 1, 0] rfl)
                · have h := h.2 c11
                  refine lv_aload_n hx hb dX10_reckon_120 rfl (lv_at hl 2 rfl) ?_
                  refine G_X10_7 [] [] hx hb hT hown hK hh dX10_reckon_121 ?_
                  refine lv_iload hx hb dX10_reckon_124 (lv_at hl 0 rfl) ?_
                  obtain ⟨g12, h⟩ := h
                  refine A_X10_1 [] [] hx hb hK hh (v := (o_18.2.2 1) ((o_18.2.2 9) ((1000 * x1) + p4_18).toNatClampNeg).toNatClampNeg) g12 rfl dX10_reckon_126 ?_
                  refine lv_bipush (v := 7) hx hb dX10_reckon_127 (by decide) ?_
                  refine lv_icmp_ne (tgt := 137) hx hb dX10_reckon_129 (by decide) (fun c13 => ?_) (fun c13 => ?_)
                  · have h := h.1 c13
                    exact kJ137 o_18 _ _ _ h hh (lv_sub hl [2, 3, 4, 5, 1, 0] rfl)
                  · have h := h.2 c13
                    exact kJ132 o_18 _ _ _ h hh (lv_sub hl [2, 3, 4, 5, 1, 0] rfl)
              · have h := h.2 c9
                exact kJ95 o_18 _ _ _ h hh (lv_sub hl [2, 3, 4, 5, 1, 0] rfl)
          · have h := h.2 c5
            exact kJ58 o_18 _ _ _ h hh (lv_sub hl [2, 3, 4, 5, 1, 0] rfl)
  obtain ⟨n, h⟩ := h
  refine hw18 _ (fun o_k220 H locs ls h hh hl => ?_) n x2 ((o.1, (upd (upd (upd o.2.1 11 ((0 : Int32))) 14 ((0 : Int32))) 17 ((0 : Int32))), o.2.2)) _ _ _ h hh (lv_sub hl [1, 2, 4, 0] rfl)
  refine lv_iconst (v := 0) hx hb dX10_reckon_220 (by decide) ?_
  refine lv_istore (lv' := [(4, .int (0)), (0, .ref (a 0))]) hx hb dX10_reckon_221 hl (by decide) rfl (fun ls hl => ?_)
  have hw223 : ∀   (n : Nat) (p4_223 : Int32) (o_223 : Ob) (H : Heap) (locs : List Loc) (ls : Array Slot), w_X10_reckon_L223   Post n p4_223 o_223 → Wh D A s.heap ((List.flatten [bX10 a E o_223])) H locs → lv_has ls 7 [(0, .ref (a 0)), (4, .int (p4_223))] → W p l e ({ frames := 3, cells := 0, slots := 0, locals := 68 } : Room) s m args below meth c H locs 0 0 Q (F0 m 223 ls []) := by
    intro   n
    induction n with
    | zero => intro p4_223 o_223 H locs ls h hh hl; exact False.elim h
    | succ n ih =>
      intro p4_223 o_223 H locs ls h hh hl
      refine lv_iload hx hb dX10_reckon_223 (lv_at hl 1 rfl) ?_
      refine lv_aload_n hx hb dX10_reckon_225 rfl (lv_at hl 0 rfl) ?_
      refine G_X10_147 [] [] hx hb hT hown hK hh (v := o_223.2.1 14) rfl dX10_reckon_226 ?_
      refine lv_icmp_ge (tgt := 257) hx hb dX10_reckon_229 (by decide) (fun c32 => ?_) (fun c32 => ?_)
      · have h := h.1 c32
        exact hret _ _ _ _ o_223 dX10_reckon_257 h hh
      · have h := h.2 c32
        refine lv_aload_n hx hb dX10_reckon_232 rfl (lv_at hl 0 rfl) ?_
        refine G_X10_44 [] [] hx hb hT hown hK hh dX10_reckon_233 ?_
        refine lv_aload_n hx hb dX10_reckon_236 rfl (lv_at hl 0 rfl) ?_
        refine G_X10_50 [] [] hx hb hT hown hK hh dX10_reckon_237 ?_
        refine lv_iload hx hb dX10_reckon_240 (lv_at hl 1 rfl) ?_
        obtain ⟨g33, h⟩ := h
        refine A_X10_16 [] [] hx hb hK hh (v := (o_223.2.2 16) p4_223.toNatClampNeg) g33 rfl dX10_reckon_242 ?_
        refine lv_aload_n hx hb dX10_reckon_243 rfl (lv_at hl 0 rfl) ?_
        refine G_X10_47 [] [] hx hb hT hown hK hh dX10_reckon_244 ?_
        refine lv_iload hx hb dX10_reckon_247 (lv_at hl 1 rfl) ?_
        obtain ⟨g34, h⟩ := h
        refine A_X10_15 [] [] hx hb hK hh (v := (o_223.2.2 15) p4_223.toNatClampNeg) g34 rfl dX10_reckon_249 ?_
        obtain ⟨g35, h⟩ := h
        refine S_X10_13 [] [] hx hb hK hh g35 dX10_reckon_250 (fun H locs (hh : Wh D A s.heap ((List.flatten [bX10 a E ((o_223.1, o_223.2.1, (sa o_223.2.2 13 (upd (o_223.2.2 13) ((o_223.2.2 16) p4_223.toNatClampNeg).toNatClampNeg ((o_223.2.2 15) p4_223.toNatClampNeg)))))])) H locs) => ?_)
        refine lv_iinc (v := p4_223 + 1) (lv' := [(4, .int (p4_223 + 1)), (0, .ref (a 0))]) hx hb dX10_reckon_251 hl (k := 1) rfl (by rfl) (by decide) rfl (fun ls hl => ?_)
        refine lv_goto (tgt := 223) hx hb dX10_reckon_254 (by decide) ?_
        exact ih (p4_223 + 1) ((o_223.1, o_223.2.1, (sa o_223.2.2 13 (upd (o_223.2.2 13) ((o_223.2.2 16) p4_223.toNatClampNeg).toNatClampNeg ((o_223.2.2 15) p4_223.toNatClampNeg))))) _ _ _ h hh (lv_sub hl [1, 0] rfl)
  obtain ⟨n, h⟩ := h
  refine hw223   n 0 o_k220 _ _ _ h hh (lv_sub hl [1, 0] rfl)

def w_X10_sumOfLeaves_L4   (Post : Int32 → Ob → Prop) : Nat → Int32 → Int32 → Ob → Prop
  | 0, _, _, _ => False
  | n4 + 1, p1_4, p2_4, o_4 => (((o_4.2.1 14) ≤ p2_4) → Post p1_4 o_4) ∧ (¬ ((o_4.2.1 14) ≤ p2_4) → vp_in p2_4 64 ∧ (w_X10_sumOfLeaves_L4   Post n4 (p1_4 + ((o_4.2.2 15) p2_4.toNatClampNeg)) (p2_4 + 1) o_4))
def w_X10_sumOfLeaves  (o : Ob) (Post : Int32 → Ob → Prop) : Prop := ∃ n4, w_X10_sumOfLeaves_L4   Post n4 0 0 o
set_option maxRecDepth 100000 in
set_option maxHeartbeats 4000000 in
theorem c_X10_sumOfLeaves (l : Launch) (D : va_G) (E : Nat → ClassId) (a : Nat → Nat)  (o : Ob)  {Post : Int32 → Ob → Prop} (h : w_X10_sumOfLeaves  o Post) : CtI l yX10_sumOfLeaves cX10_sumOfLeaves 3 .int ({ frames := 0, cells := 0, slots := 0, locals := 0 } : Room) D E [.ref (a 0)] (List.flatten [bX10 a E o]) (fun u : Ob => List.flatten [bX10 a E u]) Post 0 0 := by
  refine enI (by decide +kernel) (Nat.le_of_ble_eq_true rfl) ?_
  intro p e s m args below meth c Q A ls hx hb hml hown hT hK hA hret hh hl
  have hl : lv_has ls 3 [(0, .ref (a 0))] := hl
  unfold w_X10_sumOfLeaves at h
  refine lv_iconst (v := 0) hx hb dX10_sumOfLeaves_0 (by decide) ?_
  refine lv_istore_n (lv' := [(1, .int (0)), (0, .ref (a 0))]) hx hb dX10_sumOfLeaves_1 rfl hl (by decide) rfl (fun ls hl => ?_)
  refine lv_iconst (v := 0) hx hb dX10_sumOfLeaves_2 (by decide) ?_
  refine lv_istore_n (lv' := [(2, .int (0)), (1, .int (0)), (0, .ref (a 0))]) hx hb dX10_sumOfLeaves_3 rfl hl (by decide) rfl (fun ls hl => ?_)
  have hw4 : ∀   (n : Nat) (p1_4 : Int32) (p2_4 : Int32) (o_4 : Ob) (H : Heap) (locs : List Loc) (ls : Array Slot), w_X10_sumOfLeaves_L4   Post n p1_4 p2_4 o_4 → Wh D A s.heap ((List.flatten [bX10 a E o_4])) H locs → lv_has ls 3 [(0, .ref (a 0)), (1, .int (p1_4)), (2, .int (p2_4))] → W p l e ({ frames := 0, cells := 0, slots := 0, locals := 0 } : Room) s m args below meth c H locs 0 0 Q (F0 m 4 ls []) := by
    intro   n
    induction n with
    | zero => intro p1_4 p2_4 o_4 H locs ls h hh hl; exact False.elim h
    | succ n ih =>
      intro p1_4 p2_4 o_4 H locs ls h hh hl
      refine lv_iload_n hx hb dX10_sumOfLeaves_4 rfl (lv_at hl 2 rfl) ?_
      refine lv_aload_n hx hb dX10_sumOfLeaves_5 rfl (lv_at hl 0 rfl) ?_
      refine G_X10_147 [] [] hx hb hT hown hK hh (v := o_4.2.1 14) rfl dX10_sumOfLeaves_6 ?_
      refine lv_icmp_ge (tgt := 27) hx hb dX10_sumOfLeaves_9 (by decide) (fun c1 => ?_) (fun c1 => ?_)
      · have h := h.1 c1
        refine lv_iload_n hx hb dX10_sumOfLeaves_27 rfl (lv_at hl 1 rfl) ?_
        exact hret _ _ _ _ _ o_4 dX10_sumOfLeaves_28 rfl h hh
      · have h := h.2 c1
        refine lv_iload_n hx hb dX10_sumOfLeaves_12 rfl (lv_at hl 1 rfl) ?_
        refine lv_aload_n hx hb dX10_sumOfLeaves_13 rfl (lv_at hl 0 rfl) ?_
        refine G_X10_47 [] [] hx hb hT hown hK hh dX10_sumOfLeaves_14 ?_
        refine lv_iload_n hx hb dX10_sumOfLeaves_17 rfl (lv_at hl 2 rfl) ?_
        obtain ⟨g2, h⟩ := h
        refine A_X10_15 [] [] hx hb hK hh (v := (o_4.2.2 15) p2_4.toNatClampNeg) g2 rfl dX10_sumOfLeaves_18 ?_
        refine lv_iadd hx hb dX10_sumOfLeaves_19 ?_
        refine lv_istore_n (lv' := [(1, .int (p1_4 + ((o_4.2.2 15) p2_4.toNatClampNeg))), (0, .ref (a 0)), (2, .int (p2_4))]) hx hb dX10_sumOfLeaves_20 rfl hl (by decide) rfl (fun ls hl => ?_)
        refine lv_iinc (v := p2_4 + 1) (lv' := [(2, .int (p2_4 + 1)), (1, .int (p1_4 + ((o_4.2.2 15) p2_4.toNatClampNeg))), (0, .ref (a 0))]) hx hb dX10_sumOfLeaves_21 hl (k := 2) rfl (by rfl) (by decide) rfl (fun ls hl => ?_)
        refine lv_goto (tgt := 4) hx hb dX10_sumOfLeaves_24 (by decide) ?_
        exact ih (p1_4 + ((o_4.2.2 15) p2_4.toNatClampNeg)) (p2_4 + 1) o_4 _ _ _ h hh (lv_sub hl [2, 1, 0] rfl)
  obtain ⟨n, h⟩ := h
  refine hw4   n 0 0 o _ _ _ h hh (lv_sub hl [2, 1, 0] rfl)
