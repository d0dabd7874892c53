def w_X10_beginNode (x1 : Int32) (x2 : Int32) (o : Ob) (Post : Ob → Prop) : Prop := vp_in x1 64 ∧ (vp_in x1 64 ∧ (vp_in x1 64 ∧ (vp_in ((o.2.2 36) x1.toNatClampNeg) 30 ∧ (jn (fun J205 : Int32 → Int32 → Ob → Prop => ((((o.2.2 1) ((o.2.2 36) x1.toNatClampNeg).toNatClampNeg) = 0) → vp_in ((o.2.2 36) x1.toNatClampNeg) 30 ∧ (vp_in ((o.2.2 36) x1.toNatClampNeg) 30 ∧ (vp_in ((o.2.2 36) x1.toNatClampNeg) 30 ∧ (w_X10_number  ((((o.2.2 5) ((o.2.2 36) x1.toNatClampNeg).toNatClampNeg) - ((o.2.2 4) ((o.2.2 36) x1.toNatClampNeg).toNatClampNeg)) + 1) ((o.1, o.2.1, (sa (sa o.2.2 40 (upd (o.2.2 40) x1.toNatClampNeg (1 : Int32))) 37 (upd (o.2.2 37) x1.toNatClampNeg ((o.2.2 8) (4 : Int32).toNatClampNeg))))) (fun (r8 : Int32) (o_9 : Ob) => J205 (((o.2.2 4) ((o.2.2 36) x1.toNatClampNeg).toNatClampNeg) + r8) 0 o_9))))) ∧ ((((o.2.2 1) ((o.2.2 36) x1.toNatClampNeg).toNatClampNeg) = 1) → vp_in ((o.2.2 36) x1.toNatClampNeg) 30 ∧ (jn (fun J136 : Int32 → Ob → Prop => ((x2 ≤ ((o.2.2 4) ((o.2.2 36) x1.toNatClampNeg).toNatClampNeg)) → J136 x2 ((o.1, o.2.1, (sa (sa o.2.2 40 (upd (o.2.2 40) x1.toNatClampNeg (1 : Int32))) 37 (upd (o.2.2 37) x1.toNatClampNeg ((o.2.2 8) (4 : Int32).toNatClampNeg)))))) ∧ (¬ (x2 ≤ ((o.2.2 4) ((o.2.2 36) x1.toNatClampNeg).toNatClampNeg)) → vp_in ((o.2.2 36) x1.toNatClampNeg) 30 ∧ (J136 ((o.2.2 4) ((o.2.2 36) x1.toNatClampNeg).toNatClampNeg) ((o.1, o.2.1, (sa (sa o.2.2 40 (upd (o.2.2 40) x1.toNatClampNeg (1 : Int32))) 37 (upd (o.2.2 37) x1.toNatClampNeg ((o.2.2 8) (4 : Int32).toNatClampNeg)))))))) (fun (z_136 : Int32) (o_136 : Ob) => w_X10_number  (1 + z_136) o_136 (fun (r14 : Int32) (o_15 : Ob) => J205 r14 r14 o_15)))) ∧ ((((o.2.2 1) ((o.2.2 36) x1.toNatClampNeg).toNatClampNeg) = 2) → J205 0 2 ((o.1, o.2.1, (sa (sa o.2.2 40 (upd (o.2.2 40) x1.toNatClampNeg (1 : Int32))) 37 (upd (o.2.2 37) x1.toNatClampNeg ((o.2.2 8) (4 : Int32).toNatClampNeg)))))) ∧ ((((o.2.2 1) ((o.2.2 36) x1.toNatClampNeg).toNatClampNeg) = 3) → vp_in ((o.2.2 36) x1.toNatClampNeg) 30 ∧ (vp_in ((o.2.2 36) x1.toNatClampNeg) 30 ∧ (w_X10_number  (((o.2.2 4) ((o.2.2 36) x1.toNatClampNeg).toNatClampNeg) + ((o.2.2 5) ((o.2.2 36) x1.toNatClampNeg).toNatClampNeg)) ((o.1, o.2.1, (sa (sa o.2.2 40 (upd (o.2.2 40) x1.toNatClampNeg (1 : Int32))) 37 (upd (o.2.2 37) x1.toNatClampNeg ((o.2.2 8) (4 : Int32).toNatClampNeg))))) (fun (r20 : Int32) (o_21 : Ob) => vp_in ((o.2.2 36) x1.toNatClampNeg) 30 ∧ (jn (fun J186 : Int32 → Ob → Prop => ((((o_21.2.2 4) ((o.2.2 36) x1.toNatClampNeg).toNatClampNeg) ≤ r20) → J186 1 o_21) ∧ (¬ (((o_21.2.2 4) ((o.2.2 36) x1.toNatClampNeg).toNatClampNeg) ≤ r20) → J186 0 o_21)) (fun (z_186 : Int32) (o_186 : Ob) => J205 z_186 1 o_186)))))) ∧ ((((o.2.2 1) ((o.2.2 36) x1.toNatClampNeg).toNatClampNeg) = 6) → vp_in ((o.2.2 36) x1.toNatClampNeg) 30 ∧ (J205 ((o.2.2 4) ((o.2.2 36) x1.toNatClampNeg).toNatClampNeg) 0 ((o.1, o.2.1, (sa (sa o.2.2 40 (upd (o.2.2 40) x1.toNatClampNeg (1 : Int32))) 37 (upd (o.2.2 37) x1.toNatClampNeg ((o.2.2 8) (4 : Int32).toNatClampNeg))))))) ∧ ((¬ ((o.2.2 1) ((o.2.2 36) x1.toNatClampNeg).toNatClampNeg) = 0 ∧ ¬ ((o.2.2 1) ((o.2.2 36) x1.toNatClampNeg).toNatClampNeg) = 1 ∧ ¬ ((o.2.2 1) ((o.2.2 36) x1.toNatClampNeg).toNatClampNeg) = 2 ∧ ¬ ((o.2.2 1) ((o.2.2 36) x1.toNatClampNeg).toNatClampNeg) = 3 ∧ ¬ ((o.2.2 1) ((o.2.2 36) x1.toNatClampNeg).toNatClampNeg) = 6) → J205 0 1 ((o.1, o.2.1, (sa (sa o.2.2 40 (upd (o.2.2 40) x1.toNatClampNeg (1 : Int32))) 37 (upd (o.2.2 37) x1.toNatClampNeg ((o.2.2 8) (4 : Int32).toNatClampNeg))))))) (fun (y4_205 : Int32) (y5_205 : Int32) (o_205 : Ob) => w_X10_add  ((o.2.2 36) x1.toNatClampNeg) y4_205 o_205 (fun (o_28 : Ob) => vp_in x1 64 ∧ (vp_in ((o.2.2 36) x1.toNatClampNeg) 30 ∧ (((¬ ((o_28.2.2 1) ((o.2.2 36) x1.toNatClampNeg).toNatClampNeg) = 6) → Post ((o_28.1, o_28.2.1, (sa o_28.2.2 38 (upd (o_28.2.2 38) x1.toNatClampNeg y5_205))))) ∧ ((((o_28.2.2 1) ((o.2.2 36) x1.toNatClampNeg).toNatClampNeg) = 6) → w_X10_shuffle  y4_205 ((o_28.1, o_28.2.1, (sa o_28.2.2 38 (upd (o_28.2.2 38) x1.toNatClampNeg y5_205)))) (fun (o_33 : Ob) => Post o_33))))))))))
set_option maxRecDepth 100000 in
set_option maxHeartbeats 4000000 in
theorem c_X10_beginNode (l : Launch) (D : va_G) (E : Nat → ClassId) (a : Nat → Nat)  (o : Ob) (x1 : Int32) (x2 : Int32) {Post : Ob → Prop} (h : w_X10_beginNode x1 x2 o Post) : CtV l yX10_beginNode cX10_beginNode 6 ({ frames := 2, cells := 0, slots := 0, locals := 47 } : Room) D E [.ref (a 0), .int (x1), .int (x2)] (List.flatten [bX10 a E o]) (fun u : Ob => List.flatten [bX10 a E u]) Post 0 0 := by
  refine enV (by decide +kernel) (Nat.le_of_ble_eq_true rfl) ?_
  intro p e s m args below meth c Q A ls hx hb hml hown hT hK hA hin0 hret hh hl
  have hl : lv_has ls 6 [(0, .ref (a 0)), (1, .int (x1)), (2, .int (x2))] := hl
  unfold w_X10_beginNode at h
  refine lv_aload_n hx hb dX10_beginNode_0 rfl (lv_at hl 0 rfl) ?_
  refine G_X10_80 [] [] hx hb hT hown hK hh dX10_beginNode_1 ?_
  refine lv_iload_n hx hb dX10_beginNode_4 rfl (lv_at hl 1 rfl) ?_
  obtain ⟨g1, h⟩ := h
  refine A_X10_36 [] [] hx hb hK hh (v := (o.2.2 36) x1.toNatClampNeg) g1 rfl dX10_beginNode_5 ?_
  refine lv_istore_n (lv' := [(3, .int ((o.2.2 36) x1.toNatClampNeg)), (0, .ref (a 0)), (1, .int (x1)), (2, .int (x2))]) hx hb dX10_beginNode_6 rfl hl (by decide) rfl (fun ls hl => ?_)
  refine lv_aload_n hx hb dX10_beginNode_7 rfl (lv_at hl 1 rfl) ?_
  refine G_X10_92 [] [] hx hb hT hown hK hh dX10_beginNode_8 ?_
  refine lv_iload_n hx hb dX10_beginNode_11 rfl (lv_at hl 2 rfl) ?_
  refine lv_iconst (v := 1) hx hb dX10_beginNode_12 (by decide) ?_
  obtain ⟨g2, h⟩ := h
  refine S_X10_40 [] [] hx hb hK hh g2 (by decide) dX10_beginNode_13 (fun H locs (hh : Wh D A s.heap ((List.flatten [bX10 a E ((o.1, o.2.1, (sa o.2.2 40 (upd (o.2.2 40) x1.toNatClampNeg (1 : Int32)))))])) H locs) => ?_)
  refine lv_aload_n hx hb dX10_beginNode_14 rfl (lv_at hl 1 rfl) ?_
  refine G_X10_83 [] [] hx hb hT hown hK hh dX10_beginNode_15 ?_
  refine lv_iload_n hx hb dX10_beginNode_18 rfl (lv_at hl 2 rfl) ?_
  refine lv_aload_n hx hb dX10_beginNode_19 rfl (lv_at hl 1 rfl) ?_
  refine G_X10_32 [] [] hx hb hT hown hK hh dX10_beginNode_20 ?_
  refine lv_iconst (v := 4) hx hb dX10_beginNode_23 (by decide) ?_
  refine A_X10_8 [] [] hx hb hK hh (v := (o.2.2 8) (4 : Int32).toNatClampNeg) (by unfold vp_in; decide) rfl dX10_beginNode_24 ?_
  obtain ⟨g3, h⟩ := h
  refine S_X10_37 [] [] hx hb hK hh g3 dX10_beginNode_25 (fun H locs (hh : Wh D A s.heap ((List.flatten [bX10 a E ((o.1, o.2.1, (sa (sa o.2.2 40 (upd (o.2.2 40) x1.toNatClampNeg (1 : Int32))) 37 (upd (o.2.2 37) x1.toNatClampNeg ((o.2.2 8) (4 : Int32).toNatClampNeg)))))])) H locs) => ?_)
  refine lv_iconst (v := 0) hx hb dX10_beginNode_26 (by decide) ?_
  refine lv_istore (lv' := [(4, .int (0)), (3, .int ((o.2.2 36) x1.toNatClampNeg)), (0, .ref (a 0)), (1, .int (x1)), (2, .int (x2))]) hx hb dX10_beginNode_27 hl (by decide) rfl (fun ls hl => ?_)
  refine lv_iconst (v := 1) hx hb dX10_beginNode_29 (by decide) ?_
  refine lv_istore (lv' := [(5, .int (1)), (4, .int (0)), (3, .int ((o.2.2 36) x1.toNatClampNeg)), (0, .ref (a 0)), (1, .int (x1)), (2, .int (x2))]) hx hb dX10_beginNode_30 hl (by decide) rfl (fun ls hl => ?_)
  refine lv_aload_n hx hb dX10_beginNode_32 rfl (lv_at hl 3 rfl) ?_
  refine G_X10_7 [] [] hx hb hT hown hK hh dX10_beginNode_33 ?_
  refine lv_iload_n hx hb dX10_beginNode_36 rfl (lv_at hl 2 rfl) ?_
  obtain ⟨g4, h⟩ := h
  refine A_X10_1 [] [] hx hb hK hh (v := (o.2.2 1) ((o.2.2 36) x1.toNatClampNeg).toNatClampNeg) g4 rfl dX10_beginNode_37 ?_
  refine jn_elim h (fun J205 hJ205 h => ?_)
  have kJ205 : ∀ (y4_205 : Int32) (y5_205 : Int32) (o_205 : Ob) (H : Heap) (locs : List Loc) (ls : Array Slot), J205 y4_205 y5_205 o_205 → Wh D A s.heap ((List.flatten [bX10 a E o_205])) H locs → lv_has ls 6 [(0, .ref (a 0)), (1, .int (x1)), (3, .int ((o.2.2 36) x1.toNatClampNeg)), (4, .int (y4_205)), (5, .int (y5_205))] → W p l e ({ frames := 2, cells := 0, slots := 0, locals := 47 } : Room) s m args below meth c H locs 0 0 Q (F0 m 205 ls []) := by
    intro y4_205 y5_205 o_205 H locs ls h hh hl
    rw [hJ205] at h
    refine lv_aload_n hx hb dX10_beginNode_205 rfl (lv_at hl 0 rfl) ?_
    refine lv_iload_n hx hb dX10_beginNode_206 rfl (lv_at hl 2 rfl) ?_
    refine lv_iload hx hb dX10_beginNode_207 (lv_at hl 3 rfl) ?_
    refine kV hh.ap0 hA (rnV hx hb hml hown hT hK hh.ap0 (c_X10_add l D E a  o_205 ((o.2.2 36) x1.toNatClampNeg) y4_205 h _) mf_X10_add kml_X10_243 ⟨rfl, rfl, Nat.le_of_ble_eq_true rfl, Nat.le_of_ble_eq_true rfl⟩ ⟨Nat.le_of_ble_eq_true rfl, Nat.le_of_ble_eq_true rfl⟩ 10 0 rfl rfl hl.1 rfl dX10_beginNode_209 (Nat.le_of_ble_eq_true rfl) rfl) (fun o_28 H locs h hh => ?_)
    have hh : Wh D A s.heap ((List.flatten [bX10 a E o_28])) _ _ := hh.un0
    refine lv_aload_n hx hb dX10_beginNode_212 rfl (lv_at hl 0 rfl) ?_
    refine G_X10_86 [] [] hx hb hT hown hK hh dX10_beginNode_213 ?_
    refine lv_iload_n hx hb dX10_beginNode_216 rfl (lv_at hl 1 rfl) ?_
    refine lv_iload hx hb dX10_beginNode_217 (lv_at hl 4 rfl) ?_
    obtain ⟨g29, h⟩ := h
    refine S_X10_38 [] [] hx hb hK hh g29 dX10_beginNode_219 (fun H locs (hh : Wh D A s.heap ((List.flatten [bX10 a E ((o_28.1, o_28.2.1, (sa o_28.2.2 38 (upd (o_28.2.2 38) x1.toNatClampNeg y5_205))))])) H locs) => ?_)
    refine lv_aload_n hx hb dX10_beginNode_220 rfl (lv_at hl 0 rfl) ?_
    refine G_X10_7 [] [] hx hb hT hown hK hh dX10_beginNode_221 ?_
    refine lv_iload_n hx hb dX10_beginNode_224 rfl (lv_at hl 2 rfl) ?_
    obtain ⟨g30, h⟩ := h
    refine A_X10_1 [] [] hx hb hK hh (v := (o_28.2.2 1) ((o.2.2 36) x1.toNatClampNeg).toNatClampNeg) g30 rfl dX10_beginNode_225 ?_
    refine lv_bipush (v := 6) hx hb dX10_beginNode_226 (by decide) ?_
    refine lv_icmp_ne (tgt := 237) hx hb dX10_beginNode_228 (by decide) (fun c31 => ?_) (fun c31 => ?_)
    · have h := h.1 c31
      exact hret _ _ _ _ (o_28.1, o_28.2.1, (sa o_28.2.2 38 (upd (o_28.2.2 38) x1.toNatClampNeg y5_205))) dX10_beginNode_237 h hh
    · have h := h.2 c31
      refine lv_aload_n hx hb dX10_beginNode_231 rfl (lv_at hl 0 rfl) ?_
      refine lv_iload hx hb dX10_beginNode_232 (lv_at hl 3 rfl) ?_
      refine kV hh.ap0 hA (rnV hx hb hml hown hT hK hh.ap0 (c_X10_shuffle l D E a  ((o_28.1, o_28.2.1, (sa o_28.2.2 38 (upd (o_28.2.2 38) x1.toNatClampNeg y5_205)))) y4_205 h _) mf_X10_shuffle kml_X10_249 ⟨rfl, rfl, Nat.le_of_ble_eq_true rfl, Nat.le_of_ble_eq_true rfl⟩ ⟨Nat.le_of_ble_eq_true rfl, Nat.le_of_ble_eq_true rfl⟩ 10 0 rfl rfl hl.1 rfl dX10_beginNode_234 (Nat.le_of_ble_eq_true rfl) rfl) (fun o_33 H locs h hh => ?_)
      have hh : Wh D A s.heap ((List.flatten [bX10 a E o_33])) _ _ := hh.un0
      exact hret _ _ _ _ o_33 dX10_beginNode_237 h hh
  by_cases c10 : ((o.2.2 1) ((o.2.2 36) x1.toNatClampNeg).toNatClampNeg) = 0
  · have h := h.1 c10
    refine lv_tableIn (off := 42) (tgt := 80) hx hb dX10_beginNode_38 (by rw [c10]; decide) (by rw [c10]; decide) (by rw [c10]; rfl) (by decide) ?_
    refine lv_aload_n hx hb dX10_beginNode_80 rfl (lv_at hl 3 rfl) ?_
    refine G_X10_19 [] [] hx hb hT hown hK hh dX10_beginNode_81 ?_
    refine lv_iload_n hx hb dX10_beginNode_84 rfl (lv_at hl 2 rfl) ?_
    obtain ⟨g5, h⟩ := h
    refine A_X10_4 [] [] hx hb hK hh (v := (o.2.2 4) ((o.2.2 36) x1.toNatClampNeg).toNatClampNeg) g5 rfl dX10_beginNode_85 ?_
    refine lv_aload_n hx hb dX10_beginNode_86 rfl (lv_at hl 3 rfl) ?_
    refine lv_aload_n hx hb dX10_beginNode_87 rfl (lv_at hl 3 rfl) ?_
    refine G_X10_22 [] [] hx hb hT hown hK hh dX10_beginNode_88 ?_
    refine lv_iload_n hx hb dX10_beginNode_91 rfl (lv_at hl 2 rfl) ?_
    obtain ⟨g6, h⟩ := h
    refine A_X10_5 [] [] hx hb hK hh (v := (o.2.2 5) ((o.2.2 36) x1.toNatClampNeg).toNatClampNeg) g6 rfl dX10_beginNode_92 ?_
    refine lv_aload_n hx hb dX10_beginNode_93 rfl (lv_at hl 3 rfl) ?_
    refine G_X10_19 [] [] hx hb hT hown hK hh dX10_beginNode_94 ?_
    refine lv_iload_n hx hb dX10_beginNode_97 rfl (lv_at hl 2 rfl) ?_
    obtain ⟨g7, h⟩ := h
    refine A_X10_4 [] [] hx hb hK hh (v := (o.2.2 4) ((o.2.2 36) x1.toNatClampNeg).toNatClampNeg) g7 rfl dX10_beginNode_98 ?_
    refine lv_isub hx hb dX10_beginNode_99 ?_
    refine lv_iconst (v := 1) hx hb dX10_beginNode_100 (by decide) ?_
    refine lv_iadd hx hb dX10_beginNode_101 ?_
    refine kI hh.ap0 hA (rnV hx hb hml hown hT hK hh.ap0 (c_X10_number l D E a  ((o.1, o.2.1, (sa (sa o.2.2 40 (upd (o.2.2 40) x1.toNatClampNeg (1 : Int32))) 37 (upd (o.2.2 37) x1.toNatClampNeg ((o.2.2 8) (4 : Int32).toNatClampNeg))))) ((((o.2.2 5) ((o.2.2 36) x1.toNatClampNeg).toNatClampNeg) - ((o.2.2 4) ((o.2.2 36) x1.toNatClampNeg).toNatClampNeg)) + 1) h _) mf_X10_number kml_X10_246 ⟨rfl, rfl, Nat.le_of_ble_eq_true rfl, Nat.le_of_ble_eq_true rfl⟩ ⟨Nat.le_of_ble_eq_true rfl, Nat.le_of_ble_eq_true rfl⟩ 10 0 rfl rfl hl.1 rfl dX10_beginNode_102 (Nat.le_of_ble_eq_true rfl) rfl) (fun r8 o_9 H locs h hh => ?_)
    have hh : Wh D A s.heap ((List.flatten [bX10 a E o_9])) _ _ := hh.un0
    refine lv_iadd hx hb dX10_beginNode_105 ?_
    refine lv_istore (lv' := [(4, .int (((o.2.2 4) ((o.2.2 36) x1.toNatClampNeg).toNatClampNeg) + r8)), (5, .int (1)), (3, .int ((o.2.2 36) x1.toNatClampNeg)), (0, .ref (a 0)), (1, .int (x1)), (2, .int (x2))]) hx hb dX10_beginNode_106 hl (by decide) rfl (fun ls hl => ?_)
    refine lv_iconst (v := 0) hx hb dX10_beginNode_108 (by decide) ?_
    refine lv_istore (lv' := [(5, .int (0)), (4, .int (((o.2.2 4) ((o.2.2 36) x1.toNatClampNeg).toNatClampNeg) + r8)), (3, .int ((o.2.2 36) x1.toNatClampNeg)), (0, .ref (a 0)), (1, .int (x1)), (2, .int (x2))]) hx hb dX10_beginNode_109 hl (by decide) rfl (fun ls hl => ?_)
    refine lv_goto (tgt := 205) hx hb dX10_beginNode_111 (by decide) ?_
    exact kJ205 (((o.2.2 4) ((o.2.2 36) x1.toNatClampNeg).toNatClampNeg) + r8) 0 o_9 _ _ _ h hh (lv_sub hl [3, 4, 2, 1, 0] rfl)
  · by_cases c16 : ((o.2.2 1) ((o.2.2 36) x1.toNatClampNeg).toNatClampNeg) = 1
    · have h := h.2.1 c16
      refine lv_tableIn (off := 76) (tgt := 114) hx hb dX10_beginNode_38 (by rw [c16]; decide) (by rw [c16]; decide) (by rw [c16]; rfl) (by decide) ?_
      refine lv_aload_n hx hb dX10_beginNode_114 rfl (lv_at hl 3 rfl) ?_
      refine lv_iconst (v := 1) hx hb dX10_beginNode_115 (by decide) ?_
      refine lv_aload_n hx hb dX10_beginNode_116 rfl (lv_at hl 3 rfl) ?_
      refine G_X10_19 [] [] hx hb hT hown hK hh dX10_beginNode_117 ?_
      refine lv_iload_n hx hb dX10_beginNode_120 rfl (lv_at hl 2 rfl) ?_
      obtain ⟨g11, h⟩ := h
      refine A_X10_4 [] [] hx hb hK hh (v := (o.2.2 4) ((o.2.2 36) x1.toNatClampNeg).toNatClampNeg) g11 rfl dX10_beginNode_121 ?_
      refine lv_iload_n hx hb dX10_beginNode_122 rfl (lv_at hl 5 rfl) ?_
      refine jn_elim h (fun J136 hJ136 h => ?_)
      have kJ136 : ∀ (z_136 : Int32) (o_136 : Ob) (H : Heap) (locs : List Loc) (ls : Array Slot), J136 z_136 o_136 → Wh D A s.heap ((List.flatten [bX10 a E o_136])) H locs → lv_has ls 6 [(0, .ref (a 0)), (1, .int (x1)), (3, .int ((o.2.2 36) x1.toNatClampNeg))] → W p l e ({ frames := 2, cells := 0, slots := 0, locals := 47 } : Room) s m args below meth c H locs 0 0 Q (F0 m 136 ls [.int (z_136), .int (1), .ref (a 0)]) := by
        intro z_136 o_136 H locs ls h hh hl
        rw [hJ136] at h
        refine lv_iadd hx hb dX10_beginNode_136 ?_
        refine kI hh.ap0 hA (rnV hx hb hml hown hT hK hh.ap0 (c_X10_number l D E a  o_136 (1 + z_136) h _) mf_X10_number kml_X10_246 ⟨rfl, rfl, Nat.le_of_ble_eq_true rfl, Nat.le_of_ble_eq_true rfl⟩ ⟨Nat.le_of_ble_eq_true rfl, Nat.le_of_ble_eq_true rfl⟩ 10 0 rfl rfl hl.1 rfl dX10_beginNode_137 (Nat.le_of_ble_eq_true rfl) rfl) (fun r14 o_15 H locs h hh => ?_)
        have hh : Wh D A s.heap ((List.flatten [bX10 a E o_15])) _ _ := hh.un0
        refine lv_istore (lv' := [(4, .int (r14)), (0, .ref (a 0)), (1, .int (x1)), (3, .int ((o.2.2 36) x1.toNatClampNeg))]) hx hb dX10_beginNode_140 hl (by decide) rfl (fun ls hl => ?_)
        refine lv_iload hx hb dX10_beginNode_142 (lv_at hl 0 rfl) ?_
        refine lv_istore (lv' := [(5, .int (r14)), (4, .int (r14)), (0, .ref (a 0)), (1, .int (x1)), (3, .int ((o.2.2 36) x1.toNatClampNeg))]) hx hb dX10_beginNode_144 hl (by decide) rfl (fun ls hl => ?_)
        refine lv_goto (tgt := 205) hx hb dX10_beginNode_146 (by decide) ?_
        exact kJ205 r14 r14 o_15 _ _ _ h hh (lv_sub hl [2, 3, 4, 1, 0] rfl)
      refine lv_icmp_ge (tgt := 135) hx hb dX10_beginNode_123 (by decide) (fun c12 => ?_) (fun c12 => ?_)
      · have h := h.1 c12
        refine lv_iload_n hx hb dX10_beginNode_135 rfl (lv_at hl 5 rfl) ?_
        exact kJ136 x2 ((o.1, o.2.1, (sa (sa o.2.2 40 (upd (o.2.2 40) x1.toNatClampNeg (1 : Int32))) 37 (upd (o.2.2 37) x1.toNatClampNeg ((o.2.2 8) (4 : Int32).toNatClampNeg))))) _ _ _ h hh (lv_sub hl [3, 4, 2] rfl)
      · have h := h.2 c12
        refine lv_aload_n hx hb dX10_beginNode_126 rfl (lv_at hl 3 rfl) ?_
        refine G_X10_19 [] [] hx hb hT hown hK hh dX10_beginNode_127 ?_
        refine lv_iload_n hx hb dX10_beginNode_130 rfl (lv_at hl 2 rfl) ?_
        obtain ⟨g13, h⟩ := h
        refine A_X10_4 [] [] hx hb hK hh (v := (o.2.2 4) ((o.2.2 36) x1.toNatClampNeg).toNatClampNeg) g13 rfl dX10_beginNode_131 ?_
        refine lv_goto (tgt := 136) hx hb dX10_beginNode_132 (by decide) ?_
        exact kJ136 ((o.2.2 4) ((o.2.2 36) x1.toNatClampNeg).toNatClampNeg) ((o.1, o.2.1, (sa (sa o.2.2 40 (upd (o.2.2 40) x1.toNatClampNeg (1 : Int32))) 37 (upd (o.2.2 37) x1.toNatClampNeg ((o.2.2 8) (4 : Int32).toNatClampNeg))))) _ _ _ h hh (lv_sub hl [3, 4, 2] rfl)
    · by_cases c17 : ((o.2.2 1) ((o.2.2 36) x1.toNatClampNeg).toNatClampNeg) = 2
      · have h := h.2.2.1 c17
        refine lv_tableIn (off := 111) (tgt := 149) hx hb dX10_beginNode_38 (by rw [c17]; decide) (by rw [c17]; decide) (by rw [c17]; rfl) (by decide) ?_
        refine lv_iconst (v := 2) hx hb dX10_beginNode_149 (by decide) ?_
        refine lv_istore (lv' := [(5, .int (2)), (4, .int (0)), (3, .int ((o.2.2 36) x1.toNatClampNeg)), (0, .ref (a 0)), (1, .int (x1)), (2, .int (x2))]) hx hb dX10_beginNode_150 hl (by decide) rfl (fun ls hl => ?_)
        refine lv_goto (tgt := 205) hx hb dX10_beginNode_152 (by decide) ?_
        exact kJ205 0 2 ((o.1, o.2.1, (sa (sa o.2.2 40 (upd (o.2.2 40) x1.toNatClampNeg (1 : Int32))) 37 (upd (o.2.2 37) x1.toNatClampNeg ((o.2.2 8) (4 : Int32).toNatClampNeg))))) _ _ _ h hh (lv_sub hl [3, 4, 2, 1, 0] rfl)
      · by_cases c24 : ((o.2.2 1) ((o.2.2 36) x1.toNatClampNeg).toNatClampNeg) = 3
        · have h := h.2.2.2.1 c24
          refine lv_tableIn (off := 117) (tgt := 155) hx hb dX10_beginNode_38 (by rw [c24]; decide) (by rw [c24]; decide) (by rw [c24]; rfl) (by decide) ?_
          refine lv_aload_n hx hb dX10_beginNode_155 rfl (lv_at hl 3 rfl) ?_
          refine lv_aload_n hx hb dX10_beginNode_156 rfl (lv_at hl 3 rfl) ?_
          refine G_X10_19 [] [] hx hb hT hown hK hh dX10_beginNode_157 ?_
          refine lv_iload_n hx hb dX10_beginNode_160 rfl (lv_at hl 2 rfl) ?_
          obtain ⟨g18, h⟩ := h
          refine A_X10_4 [] [] hx hb hK hh (v := (o.2.2 4) ((o.2.2 36) x1.toNatClampNeg).toNatClampNeg) g18 rfl dX10_beginNode_161 ?_
          refine lv_aload_n hx hb dX10_beginNode_162 rfl (lv_at hl 3 rfl) ?_
          refine G_X10_22 [] [] hx hb hT hown hK hh dX10_beginNode_163 ?_
          refine lv_iload_n hx hb dX10_beginNode_166 rfl (lv_at hl 2 rfl) ?_
          obtain ⟨g19, h⟩ := h
          refine A_X10_5 [] [] hx hb hK hh (v := (o.2.2 5) ((o.2.2 36) x1.toNatClampNeg).toNatClampNeg) g19 rfl dX10_beginNode_167 ?_
          refine lv_iadd hx hb dX10_beginNode_168 ?_
          refine kI hh.ap0 hA (rnV hx hb hml hown hT hK hh.ap0 (c_X10_number l D E a  ((o.1, o.2.1, (sa (sa o.2.2 40 (upd (o.2.2 40) x1.toNatClampNeg (1 : Int32))) 37 (upd (o.2.2 37) x1.toNatClampNeg ((o.2.2 8) (4 : Int32).toNatClampNeg))))) (((o.2.2 4) ((o.2.2 36) x1.toNatClampNeg).toNatClampNeg) + ((o.2.2 5) ((o.2.2 36) x1.toNatClampNeg).toNatClampNeg)) h _) mf_X10_number kml_X10_246 ⟨rfl, rfl, Nat.le_of_ble_eq_true rfl, Nat.le_of_ble_eq_true rfl⟩ ⟨Nat.le_of_ble_eq_true rfl, Nat.le_of_ble_eq_true rfl⟩ 10 0 rfl rfl hl.1 rfl dX10_beginNode_169 (Nat.le_of_ble_eq_true rfl) rfl) (fun r20 o_21 H locs h hh => ?_)
          have hh : Wh D A s.heap ((List.flatten [bX10 a E o_21])) _ _ := hh.un0
          refine lv_aload_n hx hb dX10_beginNode_172 rfl (lv_at hl 3 rfl) ?_
          refine G_X10_19 [] [] hx hb hT hown hK hh dX10_beginNode_173 ?_
          refine lv_iload_n hx hb dX10_beginNode_176 rfl (lv_at hl 2 rfl) ?_
          obtain ⟨g22, h⟩ := h
          refine A_X10_4 [] [] hx hb hK hh (v := (o_21.2.2 4) ((o.2.2 36) x1.toNatClampNeg).toNatClampNeg) g22 rfl dX10_beginNode_177 ?_
          refine jn_elim h (fun J186 hJ186 h => ?_)
          have kJ186 : ∀ (z_186 : Int32) (o_186 : Ob) (H : Heap) (locs : List Loc) (ls : Array Slot), J186 z_186 o_186 → Wh D A s.heap ((List.flatten [bX10 a E o_186])) H locs → lv_has ls 6 [(0, .ref (a 0)), (1, .int (x1)), (3, .int ((o.2.2 36) x1.toNatClampNeg)), (5, .int (1))] → W p l e ({ frames := 2, cells := 0, slots := 0, locals := 47 } : Room) s m args below meth c H locs 0 0 Q (F0 m 186 ls [.int (z_186)]) := by
            intro z_186 o_186 H locs ls h hh hl
            rw [hJ186] at h
            refine lv_istore (lv' := [(4, .int (z_186)), (0, .ref (a 0)), (1, .int (x1)), (3, .int ((o.2.2 36) x1.toNatClampNeg)), (5, .int (1))]) hx hb dX10_beginNode_186 hl (by decide) rfl (fun ls hl => ?_)
            refine lv_goto (tgt := 205) hx hb dX10_beginNode_188 (by decide) ?_
            exact kJ205 z_186 1 o_186 _ _ _ h hh (lv_sub hl [1, 2, 3, 0, 4] rfl)
          refine lv_icmp_ge (tgt := 185) hx hb dX10_beginNode_178 (by decide) (fun c23 => ?_) (fun c23 => ?_)
          · have h := h.1 c23
            refine lv_iconst (v := 1) hx hb dX10_beginNode_185 (by decide) ?_
            exact kJ186 1 o_21 _ _ _ h hh (lv_sub hl [3, 4, 2, 0] rfl)
          · have h := h.2 c23
            refine lv_iconst (v := 0) hx hb dX10_beginNode_181 (by decide) ?_
            refine lv_goto (tgt := 186) hx hb dX10_beginNode_182 (by decide) ?_
            exact kJ186 0 o_21 _ _ _ h hh (lv_sub hl [3, 4, 2, 0] rfl)
        · by_cases c26 : ((o.2.2 1) ((o.2.2 36) x1.toNatClampNeg).toNatClampNeg) = 6
          · have h := h.2.2.2.2.1 c26
            refine lv_tableIn (off := 153) (tgt := 191) hx hb dX10_beginNode_38 (by rw [c26]; decide) (by rw [c26]; decide) (by rw [c26]; rfl) (by decide) ?_
            refine lv_aload_n hx hb dX10_beginNode_191 rfl (lv_at hl 3 rfl) ?_
            refine G_X10_19 [] [] hx hb hT hown hK hh dX10_beginNode_192 ?_
            refine lv_iload_n hx hb dX10_beginNode_195 rfl (lv_at hl 2 rfl) ?_
            obtain ⟨g25, h⟩ := h
            refine A_X10_4 [] [] hx hb hK hh (v := (o.2.2 4) ((o.2.2 36) x1.toNatClampNeg).toNatClampNeg) g25 rfl dX10_beginNode_196 ?_
            refine lv_istore (lv' := [(4, .int ((o.2.2 4) ((o.2.2 36) x1.toNatClampNeg).toNatClampNeg)), (5, .int (1)), (3, .int ((o.2.2 36) x1.toNatClampNeg)), (0, .ref (a 0)), (1, .int (x1)), (2, .int (x2))]) hx hb dX10_beginNode_197 hl (by decide) rfl (fun ls hl => ?_)
            refine lv_iconst (v := 0) hx hb dX10_beginNode_199 (by decide) ?_
            refine lv_istore (lv' := [(5, .int (0)), (4, .int ((o.2.2 4) ((o.2.2 36) x1.toNatClampNeg).toNatClampNeg)), (3, .int ((o.2.2 36) x1.toNatClampNeg)), (0, .ref (a 0)), (1, .int (x1)), (2, .int (x2))]) hx hb dX10_beginNode_200 hl (by decide) rfl (fun ls hl => ?_)
            refine lv_goto (tgt := 205) hx hb dX10_beginNode_202 (by decide) ?_
            exact kJ205 ((o.2.2 4) ((o.2.2 36) x1.toNatClampNeg).toNatClampNeg) 0 ((o.1, o.2.1, (sa (sa o.2.2 40 (upd (o.2.2 40) x1.toNatClampNeg (1 : Int32))) 37 (upd (o.2.2 37) x1.toNatClampNeg ((o.2.2 8) (4 : Int32).toNatClampNeg))))) _ _ _ h hh (lv_sub hl [3, 4, 2, 1, 0] rfl)
          · have h := h.2.2.2.2.2 ⟨c10, c16, c17, c24, c26⟩
            refine q_swD (tgt := 205) hx hb dX10_beginNode_38 (fun i h1 h2 he => (show i = 0 ∨ i = 1 ∨ i = 2 ∨ i = 3 ∨ i = 4 ∨ i = 5 ∨ i = 6 by omega).elim (fun z => absurd (q_oi he z (by decide)) c10) (fun z => z.elim (fun z => absurd (q_oi he z (by decide)) c16) (fun z => z.elim (fun z => absurd (q_oi he z (by decide)) c17) (fun z => z.elim (fun z => absurd (q_oi he z (by decide)) c24) (fun z => z.elim (fun z => by rw [z]; rfl) (fun z => z.elim (fun z => by rw [z]; rfl) (fun z => absurd (q_oi he z (by decide)) c26))))))) (by decide) ?_
            exact kJ205 0 1 ((o.1, o.2.1, (sa (sa o.2.2 40 (upd (o.2.2 40) x1.toNatClampNeg (1 : Int32))) 37 (upd (o.2.2 37) x1.toNatClampNeg ((o.2.2 8) (4 : Int32).toNatClampNeg))))) _ _ _ h hh (lv_sub hl [3, 4, 2, 1, 0] rfl)

def w_X10_nextPart (x1 : Int32) (o : Ob) (Post : Int32 → Ob → Prop) : Prop := vp_in x1 64 ∧ (vp_in ((o.2.2 36) x1.toNatClampNeg) 30 ∧ (jn (fun J68 : Int32 → Ob → Prop => ((¬ ((o.2.2 1) ((o.2.2 36) x1.toNatClampNeg).toNatClampNeg) = 2) → vp_in ((o.2.2 36) x1.toNatClampNeg) 30 ∧ (jn (fun J67 : Ob → Prop => ((¬ ((o.2.2 1) ((o.2.2 36) x1.toNatClampNeg).toNatClampNeg) = 3) → J67 o) ∧ ((((o.2.2 1) ((o.2.2 36) x1.toNatClampNeg).toNatClampNeg) = 3) → vp_in x1 64 ∧ (vp_in (4000 + ((o.2.2 37) x1.toNatClampNeg)) 5000 ∧ (((¬ ((o.2.2 10) (4000 + ((o.2.2 37) x1.toNatClampNeg)).toNatClampNeg) = 1) → J67 o) ∧ ((((o.2.2 10) (4000 + ((o.2.2 37) x1.toNatClampNeg)).toNatClampNeg) = 1) → J68 1 o))))) (fun (o_67 : Ob) => J68 0 o_67))) ∧ ((((o.2.2 1) ((o.2.2 36) x1.toNatClampNeg).toNatClampNeg) = 2) → vp_in x1 64 ∧ (((¬ ((o.2.2 38) x1.toNatClampNeg) = 0) → J68 0 o) ∧ ((((o.2.2 38) x1.toNatClampNeg) = 0) → J68 1 o)))) (fun (z_68 : Int32) (o_68 : Ob) => ((z_68 = 0) → vp_in ((o.2.2 36) x1.toNatClampNeg) 30 ∧ (Post ((o_68.2.2 2) ((o.2.2 36) x1.toNatClampNeg).toNatClampNeg) o_68)) ∧ (¬ (z_68 = 0) → vp_in ((o.2.2 36) x1.toNatClampNeg) 30 ∧ (Post ((o_68.2.2 3) ((o.2.2 36) x1.toNatClampNeg).toNatClampNeg) o_68)))))
set_option maxRecDepth 100000 in
set_option maxHeartbeats 4000000 in
theorem c_X10_nextPart (l : Launch) (D : va_G) (E : Nat → ClassId) (a : Nat → Nat)  (o : Ob) (x1 : Int32) {Post : Int32 → Ob → Prop} (h : w_X10_nextPart x1 o Post) : CtI l yX10_nextPart cX10_nextPart 4 .int ({ frames := 0, cells := 0, slots := 0, locals := 0 } : Room) D E [.ref (a 0), .int (x1)] (List.flatten [bX10 a E o]) (fun u : Ob => List.flatten [bX10 a E u]) Post 0 0 := by
  refine enI (by decide +kernel) (Nat.le_of_ble_eq_true rfl) ?_
  intro p e s m args below meth c Q A ls hx hb hml hown hT hK hA hret hh hl
  have hl : lv_has ls 4 [(0, .ref (a 0)), (1, .int (x1))] := hl
  unfold w_X10_nextPart at h
  refine lv_aload_n hx hb dX10_nextPart_0 rfl (lv_at hl 0 rfl) ?_
  refine G_X10_80 [] [] hx hb hT hown hK hh dX10_nextPart_1 ?_
  refine lv_iload_n hx hb dX10_nextPart_4 rfl (lv_at hl 1 rfl) ?_
  obtain ⟨g1, h⟩ := h
  refine A_X10_36 [] [] hx hb hK hh (v := (o.2.2 36) x1.toNatClampNeg) g1 rfl dX10_nextPart_5 ?_
  refine lv_istore_n (lv' := [(2, .int ((o.2.2 36) x1.toNatClampNeg)), (0, .ref (a 0)), (1, .int (x1))]) hx hb dX10_nextPart_6 rfl hl (by decide) rfl (fun ls hl => ?_)
  refine lv_aload_n hx hb dX10_nextPart_7 rfl (lv_at hl 1 rfl) ?_
  refine G_X10_7 [] [] hx hb hT hown hK hh dX10_nextPart_8 ?_
  refine lv_iload_n hx hb dX10_nextPart_11 rfl (lv_at hl 0 rfl) ?_
  obtain ⟨g2, h⟩ := h
  refine A_X10_1 [] [] hx hb hK hh (v := (o.2.2 1) ((o.2.2 36) x1.toNatClampNeg).toNatClampNeg) g2 rfl dX10_nextPart_12 ?_
  refine lv_iconst (v := 2) hx hb dX10_nextPart_13 (by decide) ?_
  refine jn_elim h (fun J68 hJ68 h => ?_)
  have kJ68 : ∀ (z_68 : Int32) (o_68 : Ob) (H : Heap) (locs : List Loc) (ls : Array Slot), J68 z_68 o_68 → Wh D A s.heap ((List.flatten [bX10 a E o_68])) H locs → lv_has ls 4 [(0, .ref (a 0)), (2, .int ((o.2.2 36) x1.toNatClampNeg))] → W p l e ({ frames := 0, cells := 0, slots := 0, locals := 0 } : Room) s m args below meth c H locs 0 0 Q (F0 m 68 ls [.int (z_68)]) := by
    intro z_68 o_68 H locs ls h hh hl
    rw [hJ68] at h
    refine lv_istore_n (lv' := [(3, .int (z_68)), (0, .ref (a 0)), (2, .int ((o.2.2 36) x1.toNatClampNeg))]) hx hb dX10_nextPart_68 rfl hl (by decide) rfl (fun ls hl => ?_)
    refine lv_iload_n hx hb dX10_nextPart_69 rfl (lv_at hl 0 rfl) ?_
    refine lv_if_eq (tgt := 82) hx hb dX10_nextPart_70 (by decide) (fun c11 => ?_) (fun c11 => ?_)
    · have h := h.1 c11
      refine lv_aload_n hx hb dX10_nextPart_82 rfl (lv_at hl 1 rfl) ?_
      refine G_X10_13 [] [] hx hb hT hown hK hh dX10_nextPart_83 ?_
      refine lv_iload_n hx hb dX10_nextPart_86 rfl (lv_at hl 2 rfl) ?_
      obtain ⟨g12, h⟩ := h
      refine A_X10_2 [] [] hx hb hK hh (v := (o_68.2.2 2) ((o.2.2 36) x1.toNatClampNeg).toNatClampNeg) g12 rfl dX10_nextPart_87 ?_
      exact hret _ _ _ _ _ o_68 dX10_nextPart_88 rfl h hh
    · have h := h.2 c11
      refine lv_aload_n hx hb dX10_nextPart_73 rfl (lv_at hl 1 rfl) ?_
      refine G_X10_16 [] [] hx hb hT hown hK hh dX10_nextPart_74 ?_
      refine lv_iload_n hx hb dX10_nextPart_77 rfl (lv_at hl 2 rfl) ?_
      obtain ⟨g13, h⟩ := h
      refine A_X10_3 [] [] hx hb hK hh (v := (o_68.2.2 3) ((o.2.2 36) x1.toNatClampNeg).toNatClampNeg) g13 rfl dX10_nextPart_78 ?_
      refine lv_goto (tgt := 88) hx hb dX10_nextPart_79 (by decide) ?_
      exact hret _ _ _ _ _ o_68 dX10_nextPart_88 rfl h hh
  refine lv_icmp_ne (tgt := 34) hx hb dX10_nextPart_14 (by decide) (fun c3 => ?_) (fun c3 => ?_)
  · have h := h.1 c3
    refine lv_aload_n hx hb dX10_nextPart_34 rfl (lv_at hl 1 rfl) ?_
    refine G_X10_7 [] [] hx hb hT hown hK hh dX10_nextPart_35 ?_
    refine lv_iload_n hx hb dX10_nextPart_38 rfl (lv_at hl 0 rfl) ?_
    obtain ⟨g4, h⟩ := h
    refine A_X10_1 [] [] hx hb hK hh (v := (o.2.2 1) ((o.2.2 36) x1.toNatClampNeg).toNatClampNeg) g4 rfl dX10_nextPart_39 ?_
    refine lv_iconst (v := 3) hx hb dX10_nextPart_40 (by decide) ?_
    refine jn_elim h (fun J67 hJ67 h => ?_)
    have kJ67 : ∀ (o_67 : Ob) (H : Heap) (locs : List Loc) (ls : Array Slot), J67 o_67 → Wh D A s.heap ((List.flatten [bX10 a E o_67])) H locs → lv_has ls 4 [(0, .ref (a 0)), (2, .int ((o.2.2 36) x1.toNatClampNeg))] → W p l e ({ frames := 0, cells := 0, slots := 0, locals := 0 } : Room) s m args below meth c H locs 0 0 Q (F0 m 67 ls []) := by
      intro o_67 H locs ls h hh hl
      rw [hJ67] at h
      refine lv_iconst (v := 0) hx hb dX10_nextPart_67 (by decide) ?_
      exact kJ68 0 o_67 _ _ _ h hh (lv_sub hl [0, 1] rfl)
    refine lv_icmp_ne (tgt := 67) hx hb dX10_nextPart_41 (by decide) (fun c5 => ?_) (fun c5 => ?_)
    · have h := h.1 c5
      exact kJ67 o _ _ _ h hh (lv_sub hl [1, 0] rfl)
    · have h := h.2 c5
      refine lv_aload_n hx hb dX10_nextPart_44 rfl (lv_at hl 1 rfl) ?_
      refine G_X10_38 [] [] hx hb hT hown hK hh dX10_nextPart_45 ?_
      refine lv_sipush (v := 4000) hx hb dX10_nextPart_48 (by decide) ?_
      refine lv_aload_n hx hb dX10_nextPart_51 rfl (lv_at hl 1 rfl) ?_
      refine G_X10_83 [] [] hx hb hT hown hK hh dX10_nextPart_52 ?_
      refine lv_iload_n hx hb dX10_nextPart_55 rfl (lv_at hl 2 rfl) ?_
      obtain ⟨g6, h⟩ := h
      refine A_X10_37 [] [] hx hb hK hh (v := (o.2.2 37) x1.toNatClampNeg) g6 rfl dX10_nextPart_56 ?_
      refine lv_iadd hx hb dX10_nextPart_57 ?_
      obtain ⟨g7, h⟩ := h
      refine A_X10_10 [] [] hx hb hK hh (v := (o.2.2 10) (4000 + ((o.2.2 37) x1.toNatClampNeg)).toNatClampNeg) g7 rfl dX10_nextPart_58 ?_
      refine lv_iconst (v := 1) hx hb dX10_nextPart_59 (by decide) ?_
      refine lv_icmp_ne (tgt := 67) hx hb dX10_nextPart_60 (by decide) (fun c8 => ?_) (fun c8 => ?_)
      · have h := h.1 c8
        exact kJ67 o _ _ _ h hh (lv_sub hl [1, 0] rfl)
      · have h := h.2 c8
        refine lv_iconst (v := 1) hx hb dX10_nextPart_63 (by decide) ?_
        refine lv_goto (tgt := 68) hx hb dX10_nextPart_64 (by decide) ?_
        exact kJ68 1 o _ _ _ h hh (lv_sub hl [1, 0] rfl)
  · have h := h.2 c3
    refine lv_aload_n hx hb dX10_nextPart_17 rfl (lv_at hl 1 rfl) ?_
    refine G_X10_86 [] [] hx hb hT hown hK hh dX10_nextPart_18 ?_
    refine lv_iload_n hx hb dX10_nextPart_21 rfl (lv_at hl 2 rfl) ?_
    obtain ⟨g9, h⟩ := h
    refine A_X10_38 [] [] hx hb hK hh (v := (o.2.2 38) x1.toNatClampNeg) g9 rfl dX10_nextPart_22 ?_
    refine lv_if_ne (tgt := 30) hx hb dX10_nextPart_23 (by decide) (fun c10 => ?_) (fun c10 => ?_)
    · have h := h.1 c10
      refine lv_iconst (v := 0) hx hb dX10_nextPart_30 (by decide) ?_
      refine lv_goto (tgt := 68) hx hb dX10_nextPart_31 (by decide) ?_
      exact kJ68 0 o _ _ _ h hh (lv_sub hl [1, 0] rfl)
    · have h := h.2 c10
      refine lv_iconst (v := 1) hx hb dX10_nextPart_26 (by decide) ?_
      refine lv_goto (tgt := 68) hx hb dX10_nextPart_27 (by decide) ?_
      exact kJ68 1 o _ _ _ h hh (lv_sub hl [1, 0] rfl)

def w_X10_endNode (x1 : Int32) (o : Ob) (Post : Int32 → Ob → Prop) : Prop := vp_in x1 64 ∧ (vp_in x1 64 ∧ (vp_in ((o.2.2 36) x1.toNatClampNeg) 30 ∧ (jn (fun J59 : Ob → Prop => ((¬ ((o.2.2 1) ((o.2.2 36) x1.toNatClampNeg).toNatClampNeg) = 7) → J59 o) ∧ ((((o.2.2 1) ((o.2.2 36) x1.toNatClampNeg).toNatClampNeg) = 7) → w_X10_reckon  (4 : Int32) (((o.2.2 37) x1.toNatClampNeg) + 1) ((o.2.2 8) (4 : Int32).toNatClampNeg) o (fun (o_6 : Ob) => w_X10_bound   o_6 (fun (r7 : Int32) (o_8 : Ob) => w_X10_number  (1 + r7) o_8 (fun (r9 : Int32) (o_10 : Ob) => vp_in (4000 + ((o.2.2 37) x1.toNatClampNeg)) 5000 ∧ (J59 ((o_10.1, o_10.2.1, (sa o_10.2.2 10 (upd (o_10.2.2 10) (4000 + ((o.2.2 37) x1.toNatClampNeg)).toNatClampNeg r9)))))))))) (fun (o_59 : Ob) => vp_in ((o.2.2 36) x1.toNatClampNeg) 30 ∧ (((¬ ((o_59.2.2 1) ((o.2.2 36) x1.toNatClampNeg).toNatClampNeg) = 5) → Post 0 ((o_59.1, (upd o_59.2.1 35 (((o_59.2.1 35) - 1))), o_59.2.2))) ∧ ((((o_59.2.2 1) ((o.2.2 36) x1.toNatClampNeg).toNatClampNeg) = 5) → ((¬ (o_59.2.1 34) = 0) → w_X10_reckon  (4 : Int32) (((o.2.2 37) x1.toNatClampNeg) + 1) ((o_59.2.2 8) (4 : Int32).toNatClampNeg) ((o_59.1, (upd o_59.2.1 34 (((o_59.2.1 34) - 1))), o_59.2.2)) (fun (o_16 : Ob) => vp_in ((o.2.2 36) x1.toNatClampNeg) 30 ∧ (w_X10_result  ((o_16.2.2 3) ((o.2.2 36) x1.toNatClampNeg).toNatClampNeg) o_16 (fun (r18 : Int32) (o_19 : Ob) => ((¬ r18 = 1) → vp_in x1 64 ∧ (vp_in x1 64 ∧ (((r18 < 0) → Post ((-5)) ((o_19.1, o_19.2.1, (sa o_19.2.2 39 (upd (o_19.2.2 39) x1.toNatClampNeg (((o_19.2.2 39) x1.toNatClampNeg) + 1)))))) ∧ (¬ (r18 < 0) → vp_in x1 64 ∧ (((¬ ((upd (o_19.2.2 39) x1.toNatClampNeg (((o_19.2.2 39) x1.toNatClampNeg) + 1)) x1.toNatClampNeg) = 8) → vp_in x1 64 ∧ (Post 0 ((o_19.1, o_19.2.1, (sa (sa (sa o_19.2.2 39 (upd (o_19.2.2 39) x1.toNatClampNeg (((o_19.2.2 39) x1.toNatClampNeg) + 1))) 8 (upd (o_19.2.2 8) (4 : Int32).toNatClampNeg (((o.2.2 37) x1.toNatClampNeg) + 1))) 38 (upd (o_19.2.2 38) x1.toNatClampNeg (1 : Int32))))))) ∧ ((((upd (o_19.2.2 39) x1.toNatClampNeg (((o_19.2.2 39) x1.toNatClampNeg) + 1)) x1.toNatClampNeg) = 8) → Post ((-5)) ((o_19.1, o_19.2.1, (sa o_19.2.2 39 (upd (o_19.2.2 39) x1.toNatClampNeg (((o_19.2.2 39) x1.toNatClampNeg) + 1))))))))))) ∧ ((r18 = 1) → Post 0 ((o_19.1, (upd o_19.2.1 35 (((o_19.2.1 35) - 1))), o_19.2.2))))))) ∧ (((o_59.2.1 34) = 0) → Post ((-6)) o_59)))))))
set_option maxRecDepth 100000 in
set_option maxHeartbeats 4000000 in
theorem c_X10_endNode (l : Launch) (D : va_G) (E : Nat → ClassId) (a : Nat → Nat)  (o : Ob) (x1 : Int32) {Post : Int32 → Ob → Prop} (h : w_X10_endNode x1 o Post) : CtI l yX10_endNode cX10_endNode 5 .int ({ frames := 6, cells := 0, slots := 0, locals := 148 } : Room) D E [.ref (a 0), .int (x1)] (List.flatten [bX10 a E o]) (fun u : Ob => List.flatten [bX10 a E u]) Post 0 0 := by
  refine enI (by decide +kernel) (Nat.le_of_ble_eq_true rfl) ?_
  intro p e s m args below meth c Q A ls hx hb hml hown hT hK hA hret hh hl
  have hl : lv_has ls 5 [(0, .ref (a 0)), (1, .int (x1))] := hl
  unfold w_X10_endNode at h
  refine lv_aload_n hx hb dX10_endNode_0 rfl (lv_at hl 0 rfl) ?_
  refine G_X10_80 [] [] hx hb hT hown hK hh dX10_endNode_1 ?_
  refine lv_iload_n hx hb dX10_endNode_4 rfl (lv_at hl 1 rfl) ?_
  obtain ⟨g1, h⟩ := h
  refine A_X10_36 [] [] hx hb hK hh (v := (o.2.2 36) x1.toNatClampNeg) g1 rfl dX10_endNode_5 ?_
  refine lv_istore_n (lv' := [(2, .int ((o.2.2 36) x1.toNatClampNeg)), (0, .ref (a 0)), (1, .int (x1))]) hx hb dX10_endNode_6 rfl hl (by decide) rfl (fun ls hl => ?_)
  refine lv_aload_n hx hb dX10_endNode_7 rfl (lv_at hl 1 rfl) ?_
  refine G_X10_83 [] [] hx hb hT hown hK hh dX10_endNode_8 ?_
  refine lv_iload_n hx hb dX10_endNode_11 rfl (lv_at hl 2 rfl) ?_
  obtain ⟨g2, h⟩ := h
  refine A_X10_37 [] [] hx hb hK hh (v := (o.2.2 37) x1.toNatClampNeg) g2 rfl dX10_endNode_12 ?_
  refine lv_istore_n (lv' := [(3, .int ((o.2.2 37) x1.toNatClampNeg)), (2, .int ((o.2.2 36) x1.toNatClampNeg)), (0, .ref (a 0)), (1, .int (x1))]) hx hb dX10_endNode_13 rfl hl (by decide) rfl (fun ls hl => ?_)
  refine lv_aload_n hx hb dX10_endNode_14 rfl (lv_at hl 2 rfl) ?_
  refine G_X10_7 [] [] hx hb hT hown hK hh dX10_endNode_15 ?_
  refine lv_iload_n hx hb dX10_endNode_18 rfl (lv_at hl 1 rfl) ?_
  obtain ⟨g3, h⟩ := h
  refine A_X10_1 [] [] hx hb hK hh (v := (o.2.2 1) ((o.2.2 36) x1.toNatClampNeg).toNatClampNeg) g3 rfl dX10_endNode_19 ?_
  refine lv_bipush (v := 7) hx hb dX10_endNode_20 (by decide) ?_
  refine jn_elim h (fun J59 hJ59 h => ?_)
  have kJ59 : ∀ (o_59 : Ob) (H : Heap) (locs : List Loc) (ls : Array Slot), J59 o_59 → Wh D A s.heap ((List.flatten [bX10 a E o_59])) H locs → lv_has ls 5 [(0, .ref (a 0)), (1, .int (x1)), (2, .int ((o.2.2 36) x1.toNatClampNeg)), (3, .int ((o.2.2 37) x1.toNatClampNeg))] → W p l e ({ frames := 6, cells := 0, slots := 0, locals := 148 } : Room) s m args below meth c H locs 0 0 Q (F0 m 59 ls []) := by
    intro o_59 H locs ls h hh hl
    rw [hJ59] at h
    refine lv_aload_n hx hb dX10_endNode_59 rfl (lv_at hl 0 rfl) ?_
    refine G_X10_7 [] [] hx hb hT hown hK hh dX10_endNode_60 ?_
    refine lv_iload_n hx hb dX10_endNode_63 rfl (lv_at hl 2 rfl) ?_
    obtain ⟨g12, h⟩ := h
    refine A_X10_1 [] [] hx hb hK hh (v := (o_59.2.2 1) ((o.2.2 36) x1.toNatClampNeg).toNatClampNeg) g12 rfl dX10_endNode_64 ?_
    refine lv_iconst (v := 5) hx hb dX10_endNode_65 (by decide) ?_
    refine lv_icmp_ne (tgt := 180) hx hb dX10_endNode_66 (by decide) (fun c13 => ?_) (fun c13 => ?_)
    · have h := h.1 c13
      refine lv_aload_n hx hb dX10_endNode_180 rfl (lv_at hl 0 rfl) ?_
      refine lv_dup hx hb dX10_endNode_181 rfl ?_
      refine G_X10_240 [] [] hx hb hT hown hK hh (v := o_59.2.1 35) rfl dX10_endNode_182 ?_
      refine lv_iconst (v := 1) hx hb dX10_endNode_185 (by decide) ?_
      refine lv_isub hx hb dX10_endNode_186 ?_
      refine P_X10_240 [] [] hx hb hT hown hK hh dX10_endNode_187 (fun H locs (hh : Wh D A s.heap ((List.flatten [bX10 a E ((o_59.1, (upd o_59.2.1 35 (((o_59.2.1 35) - 1))), o_59.2.2))])) H locs) => ?_)
      refine lv_iconst (v := 0) hx hb dX10_endNode_190 (by decide) ?_
      exact hret _ _ _ _ _ (o_59.1, (upd o_59.2.1 35 (((o_59.2.1 35) - 1))), o_59.2.2) dX10_endNode_191 rfl h hh
    · have h := h.2 c13
      refine lv_aload_n hx hb dX10_endNode_69 rfl (lv_at hl 0 rfl) ?_
      refine G_X10_110 [] [] hx hb hT hown hK hh (v := o_59.2.1 34) rfl dX10_endNode_70 ?_
      refine lv_if_ne (tgt := 79) hx hb dX10_endNode_73 (by decide) (fun c14 => ?_) (fun c14 => ?_)
      · have h := h.1 c14
        refine lv_aload_n hx hb dX10_endNode_79 rfl (lv_at hl 0 rfl) ?_
        refine lv_dup hx hb dX10_endNode_80 rfl ?_
        refine G_X10_110 [] [] hx hb hT hown hK hh (v := o_59.2.1 34) rfl dX10_endNode_81 ?_
        refine lv_iconst (v := 1) hx hb dX10_endNode_84 (by decide) ?_
        refine lv_isub hx hb dX10_endNode_85 ?_
        refine P_X10_110 [] [] hx hb hT hown hK hh dX10_endNode_86 (fun H locs (hh : Wh D A s.heap ((List.flatten [bX10 a E ((o_59.1, (upd o_59.2.1 34 (((o_59.2.1 34) - 1))), o_59.2.2))])) H locs) => ?_)
        refine lv_aload_n hx hb dX10_endNode_89 rfl (lv_at hl 0 rfl) ?_
        refine lv_iconst (v := 4) hx hb dX10_endNode_90 (by decide) ?_
        refine lv_iload_n hx hb dX10_endNode_91 rfl (lv_at hl 3 rfl) ?_
        refine lv_iconst (v := 1) hx hb dX10_endNode_92 (by decide) ?_
        refine lv_iadd hx hb dX10_endNode_93 ?_
        refine lv_aload_n hx hb dX10_endNode_94 rfl (lv_at hl 0 rfl) ?_
        refine G_X10_32 [] [] hx hb hT hown hK hh dX10_endNode_95 ?_
        refine lv_iconst (v := 4) hx hb dX10_endNode_98 (by decide) ?_
        refine A_X10_8 [] [] hx hb hK hh (v := (o_59.2.2 8) (4 : Int32).toNatClampNeg) (by unfold vp_in; decide) rfl dX10_endNode_99 ?_
        refine kV hh.ap0 hA (rnV hx hb hml hown hT hK hh.ap0 (c_X10_reckon l D E a  ((o_59.1, (upd o_59.2.1 34 (((o_59.2.1 34) - 1))), o_59.2.2)) (4 : Int32) (((o.2.2 37) x1.toNatClampNeg) + 1) ((o_59.2.2 8) (4 : Int32).toNatClampNeg) h _) mf_X10_reckon kml_X10_252 ⟨rfl, rfl, Nat.le_of_ble_eq_true rfl, Nat.le_of_ble_eq_true rfl⟩ ⟨Nat.le_of_ble_eq_true rfl, Nat.le_of_ble_eq_true rfl⟩ 10 0 rfl rfl hl.1 rfl dX10_endNode_100 (Nat.le_of_ble_eq_true rfl) rfl) (fun o_16 H locs h hh => ?_)
        have hh : Wh D A s.heap ((List.flatten [bX10 a E o_16])) _ _ := hh.un0
        refine lv_aload_n hx hb dX10_endNode_103 rfl (lv_at hl 0 rfl) ?_
        refine lv_aload_n hx hb dX10_endNode_104 rfl (lv_at hl 0 rfl) ?_
        refine G_X10_16 [] [] hx hb hT hown hK hh dX10_endNode_105 ?_
        refine lv_iload_n hx hb dX10_endNode_108 rfl (lv_at hl 2 rfl) ?_
        obtain ⟨g17, h⟩ := h
        refine A_X10_3 [] [] hx hb hK hh (v := (o_16.2.2 3) ((o.2.2 36) x1.toNatClampNeg).toNatClampNeg) g17 rfl dX10_endNode_109 ?_
        refine kI hh.ap0 hA (rnV hx hb hml hown hT hK hh.ap0 (c_X10_result l D E a  o_16 ((o_16.2.2 3) ((o.2.2 36) x1.toNatClampNeg).toNatClampNeg) h _) mf_X10_result kml_X10_258 ⟨rfl, rfl, Nat.le_of_ble_eq_true rfl, Nat.le_of_ble_eq_true rfl⟩ ⟨Nat.le_of_ble_eq_true rfl, Nat.le_of_ble_eq_true rfl⟩ 10 0 rfl rfl hl.1 rfl dX10_endNode_110 (Nat.le_of_ble_eq_true rfl) rfl) (fun r18 o_19 H locs h hh => ?_)
        have hh : Wh D A s.heap ((List.flatten [bX10 a E o_19])) _ _ := hh.un0
        refine lv_istore (lv' := [(4, .int (r18)), (0, .ref (a 0)), (1, .int (x1)), (2, .int ((o.2.2 36) x1.toNatClampNeg)), (3, .int ((o.2.2 37) x1.toNatClampNeg))]) hx hb dX10_endNode_113 hl (by decide) rfl (fun ls hl => ?_)
        refine lv_iload hx hb dX10_endNode_115 (lv_at hl 0 rfl) ?_
        refine lv_iconst (v := 1) hx hb dX10_endNode_117 (by decide) ?_
        refine lv_icmp_ne (tgt := 133) hx hb dX10_endNode_118 (by decide) (fun c20 => ?_) (fun c20 => ?_)
        · have h := h.1 c20
          refine lv_aload_n hx hb dX10_endNode_133 rfl (lv_at hl 1 rfl) ?_
          refine G_X10_89 [] [] hx hb hT hown hK hh dX10_endNode_134 ?_
          refine lv_iload_n hx hb dX10_endNode_137 rfl (lv_at hl 2 rfl) ?_
          refine lv_dup2_11 hx hb dX10_endNode_138 rfl rfl ?_
          obtain ⟨g21, h⟩ := h
          refine A_X10_39 [] [] hx hb hK hh (v := (o_19.2.2 39) x1.toNatClampNeg) g21 rfl dX10_endNode_139 ?_
          refine lv_iconst (v := 1) hx hb dX10_endNode_140 (by decide) ?_
          refine lv_iadd hx hb dX10_endNode_141 ?_
          obtain ⟨g22, h⟩ := h
          refine S_X10_39 [] [] hx hb hK hh g22 dX10_endNode_142 (fun H locs (hh : Wh D A s.heap ((List.flatten [bX10 a E ((o_19.1, o_19.2.1, (sa o_19.2.2 39 (upd (o_19.2.2 39) x1.toNatClampNeg (((o_19.2.2 39) x1.toNatClampNeg) + 1)))))])) H locs) => ?_)
          refine lv_iload hx hb dX10_endNode_143 (lv_at hl 0 rfl) ?_
          refine lv_if_lt (tgt := 159) hx hb dX10_endNode_145 (by decide) (fun c23 => ?_) (fun c23 => ?_)
          · have h := h.1 c23
            refine lv_bipush (v := (-5)) hx hb dX10_endNode_159 (by decide) ?_
            exact hret _ _ _ _ _ (o_19.1, o_19.2.1, (sa o_19.2.2 39 (upd (o_19.2.2 39) x1.toNatClampNeg (((o_19.2.2 39) x1.toNatClampNeg) + 1)))) dX10_endNode_161 rfl h hh
          · have h := h.2 c23
            refine lv_aload_n hx hb dX10_endNode_148 rfl (lv_at hl 1 rfl) ?_
            refine G_X10_89 [] [] hx hb hT hown hK hh dX10_endNode_149 ?_
            refine lv_iload_n hx hb dX10_endNode_152 rfl (lv_at hl 2 rfl) ?_
            obtain ⟨g24, h⟩ := h
            refine A_X10_39 [] [] hx hb hK hh (v := (upd (o_19.2.2 39) x1.toNatClampNeg (((o_19.2.2 39) x1.toNatClampNeg) + 1)) x1.toNatClampNeg) g24 rfl dX10_endNode_153 ?_
            refine lv_bipush (v := 8) hx hb dX10_endNode_154 (by decide) ?_
            refine lv_icmp_ne (tgt := 162) hx hb dX10_endNode_156 (by decide) (fun c25 => ?_) (fun c25 => ?_)
            · have h := h.1 c25
              refine lv_aload_n hx hb dX10_endNode_162 rfl (lv_at hl 1 rfl) ?_
              refine G_X10_32 [] [] hx hb hT hown hK hh dX10_endNode_163 ?_
              refine lv_iconst (v := 4) hx hb dX10_endNode_166 (by decide) ?_
              refine lv_iload_n hx hb dX10_endNode_167 rfl (lv_at hl 4 rfl) ?_
              refine lv_iconst (v := 1) hx hb dX10_endNode_168 (by decide) ?_
              refine lv_iadd hx hb dX10_endNode_169 ?_
              refine S_X10_8 [] [] hx hb hK hh (by unfold vp_in; decide) dX10_endNode_170 (fun H locs (hh : Wh D A s.heap ((List.flatten [bX10 a E ((o_19.1, o_19.2.1, (sa (sa o_19.2.2 39 (upd (o_19.2.2 39) x1.toNatClampNeg (((o_19.2.2 39) x1.toNatClampNeg) + 1))) 8 (upd (o_19.2.2 8) (4 : Int32).toNatClampNeg (((o.2.2 37) x1.toNatClampNeg) + 1)))))])) H locs) => ?_)
              refine lv_aload_n hx hb dX10_endNode_171 rfl (lv_at hl 1 rfl) ?_
              refine G_X10_86 [] [] hx hb hT hown hK hh dX10_endNode_172 ?_
              refine lv_iload_n hx hb dX10_endNode_175 rfl (lv_at hl 2 rfl) ?_
              refine lv_iconst (v := 1) hx hb dX10_endNode_176 (by decide) ?_
              obtain ⟨g26, h⟩ := h
              refine S_X10_38 [] [] hx hb hK hh g26 dX10_endNode_177 (fun H locs (hh : Wh D A s.heap ((List.flatten [bX10 a E ((o_19.1, o_19.2.1, (sa (sa (sa o_19.2.2 39 (upd (o_19.2.2 39) x1.toNatClampNeg (((o_19.2.2 39) x1.toNatClampNeg) + 1))) 8 (upd (o_19.2.2 8) (4 : Int32).toNatClampNeg (((o.2.2 37) x1.toNatClampNeg) + 1))) 38 (upd (o_19.2.2 38) x1.toNatClampNeg (1 : Int32)))))])) H locs) => ?_)
              refine lv_iconst (v := 0) hx hb dX10_endNode_178 (by decide) ?_
              exact hret _ _ _ _ _ (o_19.1, o_19.2.1, (sa (sa (sa o_19.2.2 39 (upd (o_19.2.2 39) x1.toNatClampNeg (((o_19.2.2 39) x1.toNatClampNeg) + 1))) 8 (upd (o_19.2.2 8) (4 : Int32).toNatClampNeg (((o.2.2 37) x1.toNatClampNeg) + 1))) 38 (upd (o_19.2.2 38) x1.toNatClampNeg (1 : Int32)))) dX10_endNode_179 rfl h hh
            · have h := h.2 c25
              refine lv_bipush (v := (-5)) hx hb dX10_endNode_159 (by decide) ?_
              exact hret _ _ _ _ _ (o_19.1, o_19.2.1, (sa o_19.2.2 39 (upd (o_19.2.2 39) x1.toNatClampNeg (((o_19.2.2 39) x1.toNatClampNeg) + 1)))) dX10_endNode_161 rfl h hh
        · have h := h.2 c20
          refine lv_aload_n hx hb dX10_endNode_121 rfl (lv_at hl 1 rfl) ?_
          refine lv_dup hx hb dX10_endNode_122 rfl ?_
          refine G_X10_240 [] [] hx hb hT hown hK hh (v := o_19.2.1 35) rfl dX10_endNode_123 ?_
          refine lv_iconst (v := 1) hx hb dX10_endNode_126 (by decide) ?_
          refine lv_isub hx hb dX10_endNode_127 ?_
          refine P_X10_240 [] [] hx hb hT hown hK hh dX10_endNode_128 (fun H locs (hh : Wh D A s.heap ((List.flatten [bX10 a E ((o_19.1, (upd o_19.2.1 35 (((o_19.2.1 35) - 1))), o_19.2.2))])) H locs) => ?_)
          refine lv_iconst (v := 0) hx hb dX10_endNode_131 (by decide) ?_
          exact hret _ _ _ _ _ (o_19.1, (upd o_19.2.1 35 (((o_19.2.1 35) - 1))), o_19.2.2) dX10_endNode_132 rfl h hh
      · have h := h.2 c14
        refine lv_bipush (v := (-6)) hx hb dX10_endNode_76 (by decide) ?_
        exact hret _ _ _ _ _ o_59 dX10_endNode_78 rfl h hh
  refine lv_icmp_ne (tgt := 59) hx hb dX10_endNode_22 (by decide) (fun c4 => ?_) (fun c4 => ?_)
  · have h := h.1 c4
    exact kJ59 o _ _ _ h hh (lv_sub hl [2, 3, 1, 0] rfl)
  · have h := h.2 c4
    refine lv_aload_n hx hb dX10_endNode_25 rfl (lv_at hl 2 rfl) ?_
    refine lv_iconst (v := 4) hx hb dX10_endNode_26 (by decide) ?_
    refine lv_iload_n hx hb dX10_endNode_27 rfl (lv_at hl 0 rfl) ?_
    refine lv_iconst (v := 1) hx hb dX10_endNode_28 (by decide) ?_
    refine lv_iadd hx hb dX10_endNode_29 ?_
    refine lv_aload_n hx hb dX10_endNode_30 rfl (lv_at hl 2 rfl) ?_
    refine G_X10_32 [] [] hx hb hT hown hK hh dX10_endNode_31 ?_
    refine lv_iconst (v := 4) hx hb dX10_endNode_34 (by decide) ?_
    refine A_X10_8 [] [] hx hb hK hh (v := (o.2.2 8) (4 : Int32).toNatClampNeg) (by unfold vp_in; decide) rfl dX10_endNode_35 ?_
    refine kV hh.ap0 hA (rnV hx hb hml hown hT hK hh.ap0 (c_X10_reckon l D E a  o (4 : Int32) (((o.2.2 37) x1.toNatClampNeg) + 1) ((o.2.2 8) (4 : Int32).toNatClampNeg) h _) mf_X10_reckon kml_X10_252 ⟨rfl, rfl, Nat.le_of_ble_eq_true rfl, Nat.le_of_ble_eq_true rfl⟩ ⟨Nat.le_of_ble_eq_true rfl, Nat.le_of_ble_eq_true rfl⟩ 10 0 rfl rfl hl.1 rfl dX10_endNode_36 (Nat.le_of_ble_eq_true rfl) rfl) (fun o_6 H locs h hh => ?_)
    have hh : Wh D A s.heap ((List.flatten [bX10 a E o_6])) _ _ := hh.un0
    refine lv_aload_n hx hb dX10_endNode_39 rfl (lv_at hl 2 rfl) ?_
    refine G_X10_38 [] [] hx hb hT hown hK hh dX10_endNode_40 ?_
    refine lv_sipush (v := 4000) hx hb dX10_endNode_43 (by decide) ?_
    refine lv_iload_n hx hb dX10_endNode_46 rfl (lv_at hl 0 rfl) ?_
    refine lv_iadd hx hb dX10_endNode_47 ?_
    refine lv_aload_n hx hb dX10_endNode_48 rfl (lv_at hl 2 rfl) ?_
    refine lv_iconst (v := 1) hx hb dX10_endNode_49 (by decide) ?_
    refine lv_aload_n hx hb dX10_endNode_50 rfl (lv_at hl 2 rfl) ?_
    refine kI hh.ap0 hA (rnV hx hb hml hown hT hK hh.ap0 (c_X10_bound l D E a  o_6  h _) mf_X10_bound kml_X10_255 ⟨rfl, rfl, Nat.le_of_ble_eq_true rfl, Nat.le_of_ble_eq_true rfl⟩ ⟨Nat.le_of_ble_eq_true rfl, Nat.le_of_ble_eq_true rfl⟩ 10 0 rfl rfl hl.1 rfl dX10_endNode_51 (Nat.le_of_ble_eq_true rfl) rfl) (fun r7 o_8 H locs h hh => ?_)
    have hh : Wh D A s.heap ((List.flatten [bX10 a E o_8])) _ _ := hh.un0
    refine lv_iadd hx hb dX10_endNode_54 ?_
    refine kI hh.ap0 hA (rnV hx hb hml hown hT hK hh.ap0 (c_X10_number l D E a  o_8 (1 + r7) h _) mf_X10_number kml_X10_246 ⟨rfl, rfl, Nat.le_of_ble_eq_true rfl, Nat.le_of_ble_eq_true rfl⟩ ⟨Nat.le_of_ble_eq_true rfl, Nat.le_of_ble_eq_true rfl⟩ 10 0 rfl rfl hl.1 rfl dX10_endNode_55 (Nat.le_of_ble_eq_true rfl) rfl) (fun r9 o_10 H locs h hh => ?_)
    have hh : Wh D A s.heap ((List.flatten [bX10 a E o_10])) _ _ := hh.un0
    obtain ⟨g11, h⟩ := h
    refine S_X10_10 [] [] hx hb hK hh g11 dX10_endNode_58 (fun H locs (hh : Wh D A s.heap ((List.flatten [bX10 a E ((o_10.1, o_10.2.1, (sa o_10.2.2 10 (upd (o_10.2.2 10) (4000 + ((o.2.2 37) x1.toNatClampNeg)).toNatClampNeg r9))))])) H locs) => ?_)
    exact kJ59 ((o_10.1, o_10.2.1, (sa o_10.2.2 10 (upd (o_10.2.2 10) (4000 + ((o.2.2 37) x1.toNatClampNeg)).toNatClampNeg r9)))) _ _ _ h hh (lv_sub hl [2, 3, 1, 0] rfl)

def w_X10_makes_L25 (f4_25 : Int32)  (Post : Int32 → Ob → Prop) : Nat → Int32 → Ob → Prop
  | 0, _, _ => False
  | n25 + 1, p5_25, o_25 => (((o_25.2.1 35) ≤ 0) → Post p5_25 o_25) ∧ (¬ ((o_25.2.1 35) ≤ 0) → ((¬ p5_25 = 0) → Post p5_25 o_25) ∧ ((p5_25 = 0) → vp_in ((o_25.2.1 35) - 1) 64 ∧ (jn (fun J108 : Int32 → Ob → Prop => ((¬ ((o_25.2.2 40) ((o_25.2.1 35) - 1).toNatClampNeg) = 0) → vp_in ((o_25.2.1 35) - 1) 64 ∧ (((((o_25.2.2 38) ((o_25.2.1 35) - 1).toNatClampNeg) ≤ 0) → w_X10_endNode  ((o_25.2.1 35) - 1) o_25 (fun (r9 : Int32) (o_10 : Ob) => J108 r9 o_10)) ∧ (¬ (((o_25.2.2 38) ((o_25.2.1 35) - 1).toNatClampNeg) ≤ 0) → vp_in ((o_25.2.1 35) - 1) 64 ∧ (vp_in ((o_25.2.1 35) - 1) 64 ∧ (w_X10_nextPart  ((o_25.2.1 35) - 1) ((o_25.1, o_25.2.1, (sa o_25.2.2 38 (upd (o_25.2.2 38) ((o_25.2.1 35) - 1).toNatClampNeg (((o_25.2.2 38) ((o_25.2.1 35) - 1).toNatClampNeg) - 1))))) (fun (r13 : Int32) (o_14 : Ob) => w_X10_goInto  r13 o_14 (fun (o_16 : Ob) => J108 p5_25 o_16))))))) ∧ ((((o_25.2.2 40) ((o_25.2.1 35) - 1).toNatClampNeg) = 0) → w_X10_beginNode  ((o_25.2.1 35) - 1) f4_25 o_25 (fun (o_18 : Ob) => J108 p5_25 o_18))) (fun (y5_108 : Int32) (o_108 : Ob) => w_X10_makes_L25 f4_25  Post n25 y5_108 o_108))))
def w_X10_makes (x1 : Int32) (x2 : Int64) (x4 : Int32) (o : Ob) (Post : Int32 → Ob → Prop) : Prop := w_X10_goInto  x1 (((sl o.1 33 x2), (upd o.2.1 35 ((0 : Int32))), (sa o.2.2 8 (upd (o.2.2 8) (4 : Int32).toNatClampNeg (0 : Int32))))) (fun (o_2 : Ob) => ∃ n25, w_X10_makes_L25 x4  Post n25 0 o_2)
set_option maxRecDepth 100000 in
set_option maxHeartbeats 4000000 in
theorem c_X10_makes (l : Launch) (D : va_G) (E : Nat → ClassId) (a : Nat → Nat)  (o : Ob) (x1 : Int32) (x2 : Int64) (x4 : Int32) {Post : Int32 → Ob → Prop} (h : w_X10_makes x1 x2 x4 o Post) : CtI l yX10_makes cX10_makes 7 .int ({ frames := 7, cells := 0, slots := 0, locals := 172 } : Room) D E [.ref (a 0), .int (x1), .long (x2), .int (x4)] (List.flatten [bX10 a E o]) (fun u : Ob => List.flatten [bX10 a E u]) Post 0 0 := by
  refine enI (by decide +kernel) (Nat.le_of_ble_eq_true rfl) ?_
  intro p e s m args below meth c Q A ls hx hb hml hown hT hK hA hret hh hl
  have hl : lv_has ls 7 [(0, .ref (a 0)), (1, .int (x1)), (2, .long (x2)), (4, .int (x4))] := hl
  unfold w_X10_makes at h
  refine lv_aload_n hx hb dX10_makes_0 rfl (lv_at hl 0 rfl) ?_
  refine lv_lload_n hx hb dX10_makes_1 rfl (lv_at hl 2 rfl) ?_
  refine P_X10_232 [] [] hx hb hT hown hK hh dX10_makes_2 (fun H locs (hh : Wh D A s.heap ((List.flatten [bX10 a E (((sl o.1 33 x2), o.2.1, o.2.2))])) H locs) => ?_)
  refine lv_aload_n hx hb dX10_makes_5 rfl (lv_at hl 0 rfl) ?_
  refine G_X10_32 [] [] hx hb hT hown hK hh dX10_makes_6 ?_
  refine lv_iconst (v := 4) hx hb dX10_makes_9 (by decide) ?_
  refine lv_iconst (v := 0) hx hb dX10_makes_10 (by decide) ?_
  refine S_X10_8 [] [] hx hb hK hh (by unfold vp_in; decide) dX10_makes_11 (fun H locs (hh : Wh D A s.heap ((List.flatten [bX10 a E (((sl o.1 33 x2), o.2.1, (sa o.2.2 8 (upd (o.2.2 8) (4 : Int32).toNatClampNeg (0 : Int32)))))])) H locs) => ?_)
  refine lv_aload_n hx hb dX10_makes_12 rfl (lv_at hl 0 rfl) ?_
  refine lv_iconst (v := 0) hx hb dX10_makes_13 (by decide) ?_
  refine P_X10_240 [] [] hx hb hT hown hK hh dX10_makes_14 (fun H locs (hh : Wh D A s.heap ((List.flatten [bX10 a E (((sl o.1 33 x2), (upd o.2.1 35 ((0 : Int32))), (sa o.2.2 8 (upd (o.2.2 8) (4 : Int32).toNatClampNeg (0 : Int32)))))])) H locs) => ?_)
  refine lv_aload_n hx hb dX10_makes_17 rfl (lv_at hl 0 rfl) ?_
  refine lv_iload_n hx hb dX10_makes_18 rfl (lv_at hl 1 rfl) ?_
  refine kV hh.ap0 hA (rnV hx hb hml hown hT hK hh.ap0 (c_X10_goInto l D E a  (((sl o.1 33 x2), (upd o.2.1 35 ((0 : Int32))), (sa o.2.2 8 (upd (o.2.2 8) (4 : Int32).toNatClampNeg (0 : Int32))))) x1 h _) mf_X10_goInto kml_X10_261 ⟨rfl, rfl, Nat.le_of_ble_eq_true rfl, Nat.le_of_ble_eq_true rfl⟩ ⟨Nat.le_of_ble_eq_true rfl, Nat.le_of_ble_eq_true rfl⟩ 10 0 rfl rfl hl.1 rfl dX10_makes_19 (Nat.le_of_ble_eq_true rfl) rfl) (fun o_2 H locs h hh => ?_)
  have hh : Wh D A s.heap ((List.flatten [bX10 a E o_2])) _ _ := hh.un0
  refine lv_iconst (v := 0) hx hb dX10_makes_22 (by decide) ?_
  refine lv_istore (lv' := [(5, .int (0)), (0, .ref (a 0)), (1, .int (x1)), (2, .long (x2)), (4, .int (x4))]) hx hb dX10_makes_23 hl (by decide) rfl (fun ls hl => ?_)
  have hw25 : ∀   (n : Nat) (p5_25 : Int32) (o_25 : Ob) (H : Heap) (locs : List Loc) (ls : Array Slot), w_X10_makes_L25 x4  Post n p5_25 o_25 → Wh D A s.heap ((List.flatten [bX10 a E o_25])) H locs → lv_has ls 7 [(0, .ref (a 0)), (4, .int (x4)), (5, .int (p5_25))] → W p l e ({ frames := 7, cells := 0, slots := 0, locals := 172 } : Room) s m args below meth c H locs 0 0 Q (F0 m 25 ls []) := by
    intro   n
    induction n with
    | zero => intro p5_25 o_25 H locs ls h hh hl; exact False.elim h
    | succ n ih =>
      intro p5_25 o_25 H locs ls h hh hl
      refine lv_aload_n hx hb dX10_makes_25 rfl (lv_at hl 0 rfl) ?_
      refine G_X10_240 [] [] hx hb hT hown hK hh (v := o_25.2.1 35) rfl dX10_makes_26 ?_
      refine lv_if_le (tgt := 111) hx hb dX10_makes_29 (by decide) (fun c3 => ?_) (fun c3 => ?_)
      · have h := h.1 c3
        refine lv_iload hx hb dX10_makes_111 (lv_at hl 2 rfl) ?_
        exact hret _ _ _ _ _ o_25 dX10_makes_113 rfl h hh
      · have h := h.2 c3
        refine lv_iload hx hb dX10_makes_32 (lv_at hl 2 rfl) ?_
        refine lv_if_ne (tgt := 111) hx hb dX10_makes_34 (by decide) (fun c4 => ?_) (fun c4 => ?_)
        · have h := h.1 c4
          refine lv_iload hx hb dX10_makes_111 (lv_at hl 2 rfl) ?_
          exact hret _ _ _ _ _ o_25 dX10_makes_113 rfl h hh
        · have h := h.2 c4
          refine lv_aload_n hx hb dX10_makes_37 rfl (lv_at hl 0 rfl) ?_
          refine G_X10_240 [] [] hx hb hT hown hK hh (v := o_25.2.1 35) rfl dX10_makes_38 ?_
          refine lv_iconst (v := 1) hx hb dX10_makes_41 (by decide) ?_
          refine lv_isub hx hb dX10_makes_42 ?_
          refine lv_istore (lv' := [(6, .int ((o_25.2.1 35) - 1)), (0, .ref (a 0)), (4, .int (x4)), (5, .int (p5_25))]) hx hb dX10_makes_43 hl (by decide) rfl (fun ls hl => ?_)
          refine lv_aload_n hx hb dX10_makes_45 rfl (lv_at hl 1 rfl) ?_
          refine G_X10_92 [] [] hx hb hT hown hK hh dX10_makes_46 ?_
          refine lv_iload hx hb dX10_makes_49 (lv_at hl 0 rfl) ?_
          obtain ⟨g5, h⟩ := h
          refine A_X10_40 [] [] hx hb hK hh (v := (o_25.2.2 40) ((o_25.2.1 35) - 1).toNatClampNeg) g5 rfl dX10_makes_51 ?_
          refine jn_elim h (fun J108 hJ108 h => ?_)
          have kJ108 : ∀ (y5_108 : Int32) (o_108 : Ob) (H : Heap) (locs : List Loc) (ls : Array Slot), J108 y5_108 o_108 → Wh D A s.heap ((List.flatten [bX10 a E o_108])) H locs → lv_has ls 7 [(0, .ref (a 0)), (4, .int (x4)), (5, .int (y5_108))] → W p l e ({ frames := 7, cells := 0, slots := 0, locals := 172 } : Room) s m args below meth c H locs 0 0 Q (F0 m 108 ls []) := by
            intro y5_108 o_108 H locs ls h hh hl
            rw [hJ108] at h
            refine lv_goto (tgt := 25) hx hb dX10_makes_108 (by decide) ?_
            exact ih y5_108 o_108 _ _ _ h hh (lv_sub hl [0, 1, 2] rfl)
          refine lv_if_ne (tgt := 66) hx hb dX10_makes_52 (by decide) (fun c6 => ?_) (fun c6 => ?_)
          · have h := h.1 c6
            refine lv_aload_n hx hb dX10_makes_66 rfl (lv_at hl 1 rfl) ?_
            refine G_X10_86 [] [] hx hb hT hown hK hh dX10_makes_67 ?_
            refine lv_iload hx hb dX10_makes_70 (lv_at hl 0 rfl) ?_
            obtain ⟨g7, h⟩ := h
            refine A_X10_38 [] [] hx hb hK hh (v := (o_25.2.2 38) ((o_25.2.1 35) - 1).toNatClampNeg) g7 rfl dX10_makes_72 ?_
            refine lv_if_le (tgt := 100) hx hb dX10_makes_73 (by decide) (fun c8 => ?_) (fun c8 => ?_)
            · have h := h.1 c8
              refine lv_aload_n hx hb dX10_makes_100 rfl (lv_at hl 1 rfl) ?_
              refine lv_iload hx hb dX10_makes_101 (lv_at hl 0 rfl) ?_
              refine kI hh.ap0 hA (rnV hx hb hml hown hT hK hh.ap0 (c_X10_endNode l D E a  o_25 ((o_25.2.1 35) - 1) h _) mf_X10_endNode kml_X10_270 ⟨rfl, rfl, Nat.le_of_ble_eq_true rfl, Nat.le_of_ble_eq_true rfl⟩ ⟨Nat.le_of_ble_eq_true rfl, Nat.le_of_ble_eq_true rfl⟩ 10 0 rfl rfl hl.1 rfl dX10_makes_103 (Nat.le_of_ble_eq_true rfl) rfl) (fun r9 o_10 H locs h hh => ?_)
              have hh : Wh D A s.heap ((List.flatten [bX10 a E o_10])) _ _ := hh.un0
              refine lv_istore (lv' := [(5, .int (r9)), (6, .int ((o_25.2.1 35) - 1)), (0, .ref (a 0)), (4, .int (x4))]) hx hb dX10_makes_106 hl (by decide) rfl (fun ls hl => ?_)
              exact kJ108 r9 o_10 _ _ _ h hh (lv_sub hl [2, 3, 0] rfl)
            · have h := h.2 c8
              refine lv_aload_n hx hb dX10_makes_76 rfl (lv_at hl 1 rfl) ?_
              refine G_X10_86 [] [] hx hb hT hown hK hh dX10_makes_77 ?_
              refine lv_iload hx hb dX10_makes_80 (lv_at hl 0 rfl) ?_
              refine lv_dup2_11 hx hb dX10_makes_82 rfl rfl ?_
              obtain ⟨g11, h⟩ := h
              refine A_X10_38 [] [] hx hb hK hh (v := (o_25.2.2 38) ((o_25.2.1 35) - 1).toNatClampNeg) g11 rfl dX10_makes_83 ?_
              refine lv_iconst (v := 1) hx hb dX10_makes_84 (by decide) ?_
              refine lv_isub hx hb dX10_makes_85 ?_
              obtain ⟨g12, h⟩ := h
              refine S_X10_38 [] [] hx hb hK hh g12 dX10_makes_86 (fun H locs (hh : Wh D A s.heap ((List.flatten [bX10 a E ((o_25.1, o_25.2.1, (sa o_25.2.2 38 (upd (o_25.2.2 38) ((o_25.2.1 35) - 1).toNatClampNeg (((o_25.2.2 38) ((o_25.2.1 35) - 1).toNatClampNeg) - 1)))))])) H locs) => ?_)
              refine lv_aload_n hx hb dX10_makes_87 rfl (lv_at hl 1 rfl) ?_
              refine lv_aload_n hx hb dX10_makes_88 rfl (lv_at hl 1 rfl) ?_
              refine lv_iload hx hb dX10_makes_89 (lv_at hl 0 rfl) ?_
              refine kI hh.ap0 hA (rnV hx hb hml hown hT hK hh.ap0 (c_X10_nextPart l D E a  ((o_25.1, o_25.2.1, (sa o_25.2.2 38 (upd (o_25.2.2 38) ((o_25.2.1 35) - 1).toNatClampNeg (((o_25.2.2 38) ((o_25.2.1 35) - 1).toNatClampNeg) - 1))))) ((o_25.2.1 35) - 1) h _) mf_X10_nextPart kml_X10_267 ⟨rfl, rfl, Nat.le_of_ble_eq_true rfl, Nat.le_of_ble_eq_true rfl⟩ ⟨Nat.le_of_ble_eq_true rfl, Nat.le_of_ble_eq_true rfl⟩ 10 0 rfl rfl hl.1 rfl dX10_makes_91 (Nat.le_of_ble_eq_true rfl) rfl) (fun r13 o_14 H locs h hh => ?_)
              have hh : Wh D A s.heap ((List.flatten [bX10 a E o_14])) _ _ := hh.un0
              refine kV hh.ap0 hA (rnV hx hb hml hown hT hK hh.ap0 (c_X10_goInto l D E a  o_14 r13 h _) mf_X10_goInto kml_X10_261 ⟨rfl, rfl, Nat.le_of_ble_eq_true rfl, Nat.le_of_ble_eq_true rfl⟩ ⟨Nat.le_of_ble_eq_true rfl, Nat.le_of_ble_eq_true rfl⟩ 10 0 rfl rfl hl.1 rfl dX10_makes_94 (Nat.le_of_ble_eq_true rfl) rfl) (fun o_16 H locs h hh => ?_)
              have hh : Wh D A s.heap ((List.flatten [bX10 a E o_16])) _ _ := hh.un0
              refine lv_goto (tgt := 108) hx hb dX10_makes_97 (by decide) ?_
              exact kJ108 p5_25 o_16 _ _ _ h hh (lv_sub hl [1, 2, 3] rfl)
          · have h := h.2 c6
            refine lv_aload_n hx hb dX10_makes_55 rfl (lv_at hl 1 rfl) ?_
            refine lv_iload hx hb dX10_makes_56 (lv_at hl 0 rfl) ?_
            refine lv_iload hx hb dX10_makes_58 (lv_at hl 2 rfl) ?_
            refine kV hh.ap0 hA (rnV hx hb hml hown hT hK hh.ap0 (c_X10_beginNode l D E a  o_25 ((o_25.2.1 35) - 1) x4 h _) mf_X10_beginNode kml_X10_264 ⟨rfl, rfl, Nat.le_of_ble_eq_true rfl, Nat.le_of_ble_eq_true rfl⟩ ⟨Nat.le_of_ble_eq_true rfl, Nat.le_of_ble_eq_true rfl⟩ 10 0 rfl rfl hl.1 rfl dX10_makes_60 (Nat.le_of_ble_eq_true rfl) rfl) (fun o_18 H locs h hh => ?_)
            have hh : Wh D A s.heap ((List.flatten [bX10 a E o_18])) _ _ := hh.un0
            refine lv_goto (tgt := 108) hx hb dX10_makes_63 (by decide) ?_
            exact kJ108 p5_25 o_18 _ _ _ h hh (lv_sub hl [1, 2, 3] rfl)
  obtain ⟨n, h⟩ := h
  refine hw25   n 0 o_2 _ _ _ h hh (lv_sub hl [1, 4, 0] rfl)

def w_X10_shows (x1 : Int32) (o : Ob) (Post : Int32 → Ob → Prop) : Prop := w_X10_copyRow  x1 (0 : Int32) o (fun (o_2 : Ob) => w_X10_reckon  (0 : Int32) (0 : Int32) ((o_2.2.2 8) (0 : Int32).toNatClampNeg) o_2 (fun (o_4 : Ob) => Post (2 * (o_4.2.1 11)) o_4))
set_option maxRecDepth 100000 in
set_option maxHeartbeats 4000000 in
theorem c_X10_shows (l : Launch) (D : va_G) (E : Nat → ClassId) (a : Nat → Nat)  (o : Ob) (x1 : Int32) {Post : Int32 → Ob → Prop} (h : w_X10_shows x1 o Post) : CtI l yX10_shows cX10_shows 2 .int ({ frames := 4, cells := 0, slots := 0, locals := 94 } : Room) D E [.ref (a 0), .int (x1)] (List.flatten [bX10 a E o]) (fun u : Ob => List.flatten [bX10 a E u]) Post 0 0 := by
  refine enI (by decide +kernel) (Nat.le_of_ble_eq_true rfl) ?_
  intro p e s m args below meth c Q A ls hx hb hml hown hT hK hA hret hh hl
  have hl : lv_has ls 2 [(0, .ref (a 0)), (1, .int (x1))] := hl
  unfold w_X10_shows at h
  refine lv_aload_n hx hb dX10_shows_0 rfl (lv_at hl 0 rfl) ?_
  refine lv_iload_n hx hb dX10_shows_1 rfl (lv_at hl 1 rfl) ?_
  refine lv_iconst (v := 0) hx hb dX10_shows_2 (by decide) ?_
  refine kV hh.ap0 hA (rnV hx hb hml hown hT hK hh.ap0 (c_X10_copyRow l D E a  o x1 (0 : Int32) h _) mf_X10_copyRow kml_X10_273 ⟨rfl, rfl, Nat.le_of_ble_eq_true rfl, Nat.le_of_ble_eq_true rfl⟩ ⟨Nat.le_of_ble_eq_true rfl, Nat.le_of_ble_eq_true rfl⟩ 10 0 rfl rfl hl.1 rfl dX10_shows_3 (Nat.le_of_ble_eq_true rfl) rfl) (fun o_2 H locs h hh => ?_)
  have hh : Wh D A s.heap ((List.flatten [bX10 a E o_2])) _ _ := hh.un0
  refine lv_aload_n hx hb dX10_shows_6 rfl (lv_at hl 0 rfl) ?_
  refine lv_iconst (v := 0) hx hb dX10_shows_7 (by decide) ?_
  refine lv_iconst (v := 0) hx hb dX10_shows_8 (by decide) ?_
  refine lv_aload_n hx hb dX10_shows_9 rfl (lv_at hl 0 rfl) ?_
  refine G_X10_32 [] [] hx hb hT hown hK hh dX10_shows_10 ?_
  refine lv_iconst (v := 0) hx hb dX10_shows_13 (by decide) ?_
  refine A_X10_8 [] [] hx hb hK hh (v := (o_2.2.2 8) (0 : Int32).toNatClampNeg) (by unfold vp_in; decide) rfl dX10_shows_14 ?_
  refine kV hh.ap0 hA (rnV hx hb hml hown hT hK hh.ap0 (c_X10_reckon l D E a  o_2 (0 : Int32) (0 : Int32) ((o_2.2.2 8) (0 : Int32).toNatClampNeg) h _) mf_X10_reckon kml_X10_252 ⟨rfl, rfl, Nat.le_of_ble_eq_true rfl, Nat.le_of_ble_eq_true rfl⟩ ⟨Nat.le_of_ble_eq_true rfl, Nat.le_of_ble_eq_true rfl⟩ 10 0 rfl rfl hl.1 rfl dX10_shows_15 (Nat.le_of_ble_eq_true rfl) rfl) (fun o_4 H locs h hh => ?_)
  have hh : Wh D A s.heap ((List.flatten [bX10 a E o_4])) _ _ := hh.un0
  refine lv_iconst (v := 2) hx hb dX10_shows_18 (by decide) ?_
  refine lv_aload_n hx hb dX10_shows_19 rfl (lv_at hl 0 rfl) ?_
  refine G_X10_150 [] [] hx hb hT hown hK hh (v := o_4.2.1 11) rfl dX10_shows_20 ?_
  refine lv_imul hx hb dX10_shows_23 ?_
  exact hret _ _ _ _ _ o_4 dX10_shows_24 rfl h hh

def w_X10_make (x1 : Int32) (x2 : Int64) (x4 : Int32) (o : Ob) (Post : Int32 → Ob → Prop) : Prop := w_X10_noMaker  x1 o (fun (r1 : Int32) (o_2 : Ob) => ((r1 = 0) → w_X10_in  x4 (0 : Int32) (24 : Int32)  (fun (r4 : Int32) => ((¬ r4 = 0) → w_X10_makes  x1 x2 x4 o_2 (fun (r6 : Int32) (o_7 : Ob) => ((0 ≤ r6) → w_X10_shows  (4 : Int32) o_7 (fun (r9 : Int32) (o_10 : Ob) => Post r9 o_10)) ∧ (¬ (0 ≤ r6) → Post r6 o_7))) ∧ ((r4 = 0) → Post ((-2)) o_2))) ∧ (¬ (r1 = 0) → Post ((-1)) o_2))
set_option maxRecDepth 100000 in
set_option maxHeartbeats 4000000 in
theorem c_X10_make (l : Launch) (D : va_G) (E : Nat → ClassId) (a : Nat → Nat)  (o : Ob) (x1 : Int32) (x2 : Int64) (x4 : Int32) {Post : Int32 → Ob → Prop} (h : w_X10_make x1 x2 x4 o Post) : CtI l yX10_make cX10_make 6 .int ({ frames := 8, cells := 0, slots := 0, locals := 198 } : Room) D E [.ref (a 0), .int (x1), .long (x2), .int (x4)] (List.flatten [bX10 a E o]) (fun u : Ob => List.flatten [bX10 a E u]) Post 0 0 := by
  refine enI (by decide +kernel) (Nat.le_of_ble_eq_true rfl) ?_
  intro p e s m args below meth c Q A ls hx hb hml hown hT hK hA hret hh hl
  have hl : lv_has ls 6 [(0, .ref (a 0)), (1, .int (x1)), (2, .long (x2)), (4, .int (x4))] := hl
  unfold w_X10_make at h
  refine lv_aload_n hx hb dX10_make_0 rfl (lv_at hl 0 rfl) ?_
  refine lv_iload_n hx hb dX10_make_1 rfl (lv_at hl 1 rfl) ?_
  refine kI hh.ap0 hA (rnV hx hb hml hown hT hK hh.ap0 (c_X10_noMaker l D E a  o x1 h _) mf_X10_noMaker kml_X10_136 ⟨rfl, rfl, Nat.le_of_ble_eq_true rfl, Nat.le_of_ble_eq_true rfl⟩ ⟨Nat.le_of_ble_eq_true rfl, Nat.le_of_ble_eq_true rfl⟩ 10 0 rfl rfl hl.1 rfl dX10_make_2 (Nat.le_of_ble_eq_true rfl) rfl) (fun r1 o_2 H locs h hh => ?_)
  have hh : Wh D A s.heap ((List.flatten [bX10 a E o_2])) _ _ := hh.un0
  refine lv_if_eq (tgt := 10) hx hb dX10_make_5 (by decide) (fun c3 => ?_) (fun c3 => ?_)
  · have h := h.1 c3
    refine lv_iload hx hb dX10_make_10 (lv_at hl 3 rfl) ?_
    refine lv_iconst (v := 0) hx hb dX10_make_12 (by decide) ?_
    refine lv_bipush (v := 24) hx hb dX10_make_13 (by decide) ?_
    refine kI hh.none hA (rnS hx hb hml hown hT hK hh.none (c_X10_in l D E    x4 (0 : Int32) (24 : Int32) h _) mf_X10_in kml_X10_126 ⟨rfl, rfl, Nat.le_of_ble_eq_true rfl, Nat.le_of_ble_eq_true rfl⟩ ⟨Nat.le_of_ble_eq_true rfl, Nat.le_of_ble_eq_true rfl⟩ hl.1 rfl dX10_make_15 (Nat.le_of_ble_eq_true rfl) rfl) (fun r4 u H locs h hh => ?_)
    have hh : Wh D A s.heap ((List.flatten [bX10 a E o_2])) _ _ := hh.unone
    refine lv_if_ne (tgt := 24) hx hb dX10_make_18 (by decide) (fun c5 => ?_) (fun c5 => ?_)
    · have h := h.1 c5
      refine lv_aload_n hx hb dX10_make_24 rfl (lv_at hl 0 rfl) ?_
      refine lv_iload_n hx hb dX10_make_25 rfl (lv_at hl 1 rfl) ?_
      refine lv_lload_n hx hb dX10_make_26 rfl (lv_at hl 2 rfl) ?_
      refine lv_iload hx hb dX10_make_27 (lv_at hl 3 rfl) ?_
      refine kI hh.ap0 hA (rnV hx hb hml hown hT hK hh.ap0 (c_X10_makes l D E a  o_2 x1 x2 x4 h _) mf_X10_makes kml_X10_276 ⟨rfl, rfl, Nat.le_of_ble_eq_true rfl, Nat.le_of_ble_eq_true rfl⟩ ⟨Nat.le_of_ble_eq_true rfl, Nat.le_of_ble_eq_true rfl⟩ 10 0 rfl rfl hl.1 rfl dX10_make_29 (Nat.le_of_ble_eq_true rfl) rfl) (fun r6 o_7 H locs h hh => ?_)
      have hh : Wh D A s.heap ((List.flatten [bX10 a E o_7])) _ _ := hh.un0
      refine lv_istore (lv' := [(5, .int (r6)), (0, .ref (a 0)), (1, .int (x1)), (2, .long (x2)), (4, .int (x4))]) hx hb dX10_make_32 hl (by decide) rfl (fun ls hl => ?_)
      refine lv_iload hx hb dX10_make_34 (lv_at hl 0 rfl) ?_
      refine lv_if_ge (tgt := 44) hx hb dX10_make_36 (by decide) (fun c8 => ?_) (fun c8 => ?_)
      · have h := h.1 c8
        refine lv_aload_n hx hb dX10_make_44 rfl (lv_at hl 1 rfl) ?_
        refine lv_iconst (v := 4) hx hb dX10_make_45 (by decide) ?_
        refine kI hh.ap0 hA (rnV hx hb hml hown hT hK hh.ap0 (c_X10_shows l D E a  o_7 (4 : Int32) h _) mf_X10_shows kml_X10_280 ⟨rfl, rfl, Nat.le_of_ble_eq_true rfl, Nat.le_of_ble_eq_true rfl⟩ ⟨Nat.le_of_ble_eq_true rfl, Nat.le_of_ble_eq_true rfl⟩ 10 0 rfl rfl hl.1 rfl dX10_make_46 (Nat.le_of_ble_eq_true rfl) rfl) (fun r9 o_10 H locs h hh => ?_)
        have hh : Wh D A s.heap ((List.flatten [bX10 a E o_10])) _ _ := hh.un0
        exact hret _ _ _ _ _ o_10 dX10_make_49 rfl h hh
      · have h := h.2 c8
        refine lv_iload hx hb dX10_make_39 (lv_at hl 0 rfl) ?_
        refine lv_goto (tgt := 49) hx hb dX10_make_41 (by decide) ?_
        exact hret _ _ _ _ _ o_7 dX10_make_49 rfl h hh
    · have h := h.2 c5
      refine lv_bipush (v := (-2)) hx hb dX10_make_21 (by decide) ?_
      exact hret _ _ _ _ _ o_2 dX10_make_23 rfl h hh
  · have h := h.2 c3
    refine lv_iconst (v := (-1)) hx hb dX10_make_8 (by decide) ?_
    exact hret _ _ _ _ _ o_2 dX10_make_9 rfl h hh

def w_X10_beginChanges (x1 : Int32) (o : Ob) (Post : Ob → Prop) : Prop := Post ((o.1, (upd (upd (upd (upd o.2.1 41 x1) 42 ((0 : Int32))) 43 ((0 : Int32))) 44 ((0 : Int32))), o.2.2))
set_option maxRecDepth 100000 in
set_option maxHeartbeats 4000000 in
theorem c_X10_beginChanges (l : Launch) (D : va_G) (E : Nat → ClassId) (a : Nat → Nat)  (o : Ob) (x1 : Int32) {Post : Ob → Prop} (h : w_X10_beginChanges x1 o Post) : CtV l yX10_beginChanges cX10_beginChanges 2 ({ frames := 0, cells := 0, slots := 0, locals := 0 } : Room) D E [.ref (a 0), .int (x1)] (List.flatten [bX10 a E o]) (fun u : Ob => List.flatten [bX10 a E u]) Post 0 0 := by
  refine enV (by decide +kernel) (Nat.le_of_ble_eq_true rfl) ?_
  intro p e s m args below meth c Q A ls hx hb hml hown hT hK hA hin0 hret hh hl
  have hl : lv_has ls 2 [(0, .ref (a 0)), (1, .int (x1))] := hl
  unfold w_X10_beginChanges at h
  refine lv_aload_n hx hb dX10_beginChanges_0 rfl (lv_at hl 0 rfl) ?_
  refine lv_iload_n hx hb dX10_beginChanges_1 rfl (lv_at hl 1 rfl) ?_
  refine P_X10_283 [] [] hx hb hT hown hK hh dX10_beginChanges_2 (fun H locs (hh : Wh D A s.heap ((List.flatten [bX10 a E ((o.1, (upd o.2.1 41 x1), o.2.2))])) H locs) => ?_)
  refine lv_aload_n hx hb dX10_beginChanges_5 rfl (lv_at hl 0 rfl) ?_
  refine lv_iconst (v := 0) hx hb dX10_beginChanges_6 (by decide) ?_
  refine P_X10_286 [] [] hx hb hT hown hK hh dX10_beginChanges_7 (fun H locs (hh : Wh D A s.heap ((List.flatten [bX10 a E ((o.1, (upd (upd o.2.1 41 x1) 42 ((0 : Int32))), o.2.2))])) H locs) => ?_)
  refine lv_aload_n hx hb dX10_beginChanges_10 rfl (lv_at hl 0 rfl) ?_
  refine lv_iconst (v := 0) hx hb dX10_beginChanges_11 (by decide) ?_
  refine P_X10_289 [] [] hx hb hT hown hK hh (by decide) dX10_beginChanges_12 (fun H locs (hh : Wh D A s.heap ((List.flatten [bX10 a E ((o.1, (upd (upd (upd o.2.1 41 x1) 42 ((0 : Int32))) 43 ((0 : Int32))), o.2.2))])) H locs) => ?_)
  refine lv_aload_n hx hb dX10_beginChanges_15 rfl (lv_at hl 0 rfl) ?_
  refine lv_iconst (v := 0) hx hb dX10_beginChanges_16 (by decide) ?_
  refine P_X10_292 [] [] hx hb hT hown hK hh dX10_beginChanges_17 (fun H locs (hh : Wh D A s.heap ((List.flatten [bX10 a E ((o.1, (upd (upd (upd (upd o.2.1 41 x1) 42 ((0 : Int32))) 43 ((0 : Int32))) 44 ((0 : Int32))), o.2.2))])) H locs) => ?_)
  exact hret _ _ _ _ (o.1, (upd (upd (upd (upd o.2.1 41 x1) 42 ((0 : Int32))) 43 ((0 : Int32))) 44 ((0 : Int32))), o.2.2) dX10_beginChanges_20 h hh

def w_X10_nearest (x0 : Int32) (x1 : Int32)  (Post : Int32 → Prop) : Prop := jn (fun J12 : Prop => ((0 < x0) → J12) ∧ (¬ (0 < x0) → ((x1 < 0) → J12) ∧ (¬ (x1 < 0) → Post 0))) (((x0 ≤ 0) → Post x1) ∧ (¬ (x0 ≤ 0) → Post x0))
set_option maxRecDepth 100000 in
set_option maxHeartbeats 4000000 in
theorem c_X10_nearest (l : Launch) (D : va_G) (E : Nat → ClassId)    (x0 : Int32) (x1 : Int32) {Post : Int32 → Prop} (h : w_X10_nearest x0 x1  Post) : CtI l yX10_nearest cX10_nearest 2 .int ({ frames := 0, cells := 0, slots := 0, locals := 0 } : Room) D E [.int (x0), .int (x1)] [] (fun _ : Unit => []) (fun (r : Int32) (u : Unit) => Post r ) 0 0 := by
  refine enI (by decide +kernel) (Nat.le_of_ble_eq_true rfl) ?_
  intro p e s m args below meth c Q A ls hx hb hml hown hT hK hA hret hh hl
  have hl : lv_has ls 2 [(0, .int (x0)), (1, .int (x1))] := hl
  unfold w_X10_nearest at h
  refine lv_iload_n hx hb dX10_nearest_0 rfl (lv_at hl 0 rfl) ?_
  refine jn_elim h (fun J12 hJ12 h => ?_)
  have kJ12 : ∀  (H : Heap) (locs : List Loc) (ls : Array Slot), J12 → Wh D A s.heap ((List.flatten [])) H locs → lv_has ls 2 [(0, .int (x0)), (1, .int (x1))] → W p l e ({ frames := 0, cells := 0, slots := 0, locals := 0 } : Room) s m args below meth c H locs 0 0 Q (F0 m 12 ls []) := by
    intro  H locs ls h hh hl
    rw [hJ12] at h
    refine lv_iload_n hx hb dX10_nearest_12 rfl (lv_at hl 0 rfl) ?_
    refine lv_if_le (tgt := 20) hx hb dX10_nearest_13 (by decide) (fun c3 => ?_) (fun c3 => ?_)
    · have h := h.1 c3
      refine lv_iload_n hx hb dX10_nearest_20 rfl (lv_at hl 1 rfl) ?_
      exact hret _ _ _ _ _ () dX10_nearest_21 rfl h hh
    · have h := h.2 c3
      refine lv_iload_n hx hb dX10_nearest_16 rfl (lv_at hl 0 rfl) ?_
      refine lv_goto (tgt := 21) hx hb dX10_nearest_17 (by decide) ?_
      exact hret _ _ _ _ _ () dX10_nearest_21 rfl h hh
  refine lv_if_gt (tgt := 12) hx hb dX10_nearest_1 (by decide) (fun c1 => ?_) (fun c1 => ?_)
  · have h := h.1 c1
    exact kJ12  _ _ _ h hh (lv_sub hl [0, 1] rfl)
  · have h := h.2 c1
    refine lv_iload_n hx hb dX10_nearest_4 rfl (lv_at hl 1 rfl) ?_
    refine lv_if_lt (tgt := 12) hx hb dX10_nearest_5 (by decide) (fun c2 => ?_) (fun c2 => ?_)
    · have h := h.1 c2
      exact kJ12  _ _ _ h hh (lv_sub hl [0, 1] rfl)
    · have h := h.2 c2
      refine lv_iconst (v := 0) hx hb dX10_nearest_8 (by decide) ?_
      refine lv_goto (tgt := 21) hx hb dX10_nearest_9 (by decide) ?_
      exact hret _ _ _ _ _ () dX10_nearest_21 rfl h hh

def w_X10_smallerNumber (x0 : Int32) (x1 : Int32) (x2 : Int32) (x3 : Int32)  (Post : Int32 → Prop) : Prop := w_X10_nearest  x1 x2  (fun (r1 : Int32) => ((x3 ≤ 30) → ¬ ((1 : Int32) <<< (x3 &&& 31)) = 0 ∧ (Post (x0 - ((x0 - r1) / ((1 : Int32) <<< (x3 &&& 31)))))) ∧ (¬ (x3 ≤ 30) → Post x0))
set_option maxRecDepth 100000 in
set_option maxHeartbeats 4000000 in
theorem c_X10_smallerNumber (l : Launch) (D : va_G) (E : Nat → ClassId)    (x0 : Int32) (x1 : Int32) (x2 : Int32) (x3 : Int32) {Post : Int32 → Prop} (h : w_X10_smallerNumber x0 x1 x2 x3  Post) : CtI l yX10_smallerNumber cX10_smallerNumber 5 .int ({ frames := 1, cells := 0, slots := 0, locals := 21 } : Room) D E [.int (x0), .int (x1), .int (x2), .int (x3)] [] (fun _ : Unit => []) (fun (r : Int32) (u : Unit) => Post r ) 0 0 := by
  refine enI (by decide +kernel) (Nat.le_of_ble_eq_true rfl) ?_
  intro p e s m args below meth c Q A ls hx hb hml hown hT hK hA hret hh hl
  have hl : lv_has ls 5 [(0, .int (x0)), (1, .int (x1)), (2, .int (x2)), (3, .int (x3))] := hl
  unfold w_X10_smallerNumber at h
  refine lv_iload_n hx hb dX10_smallerNumber_0 rfl (lv_at hl 0 rfl) ?_
  refine lv_iload_n hx hb dX10_smallerNumber_1 rfl (lv_at hl 1 rfl) ?_
  refine lv_iload_n hx hb dX10_smallerNumber_2 rfl (lv_at hl 2 rfl) ?_
  refine kI hh.none hA (rnS hx hb hml hown hT hK hh.none (c_X10_nearest l D E    x1 x2 h _) mf_X10_nearest kml_X10_295 ⟨rfl, rfl, Nat.le_of_ble_eq_true rfl, Nat.le_of_ble_eq_true rfl⟩ ⟨Nat.le_of_ble_eq_true rfl, Nat.le_of_ble_eq_true rfl⟩ hl.1 rfl dX10_smallerNumber_3 (Nat.le_of_ble_eq_true rfl) rfl) (fun r1 u H locs h hh => ?_)
  have hh : Wh D A s.heap ((List.flatten [])) _ _ := hh.unone
  refine lv_isub hx hb dX10_smallerNumber_6 ?_
  refine lv_istore (lv' := [(4, .int (x0 - r1)), (0, .int (x0)), (1, .int (x1)), (2, .int (x2)), (3, .int (x3))]) hx hb dX10_smallerNumber_7 hl (by decide) rfl (fun ls hl => ?_)
  refine lv_iload_n hx hb dX10_smallerNumber_9 rfl (lv_at hl 4 rfl) ?_
  refine lv_bipush (v := 30) hx hb dX10_smallerNumber_10 (by decide) ?_
  refine lv_icmp_le (tgt := 19) hx hb dX10_smallerNumber_12 (by decide) (fun c2 => ?_) (fun c2 => ?_)
  · have h := h.1 c2
    refine lv_iload_n hx hb dX10_smallerNumber_19 rfl (lv_at hl 1 rfl) ?_
    refine lv_iload hx hb dX10_smallerNumber_20 (lv_at hl 0 rfl) ?_
    refine lv_iconst (v := 1) hx hb dX10_smallerNumber_22 (by decide) ?_
    refine lv_iload_n hx hb dX10_smallerNumber_23 rfl (lv_at hl 4 rfl) ?_
    refine lv_ishl hx hb dX10_smallerNumber_24 ?_
    obtain ⟨g3, h⟩ := h
    refine lv_idiv hx hb dX10_smallerNumber_25 g3 ?_
    refine lv_isub hx hb dX10_smallerNumber_26 ?_
    exact hret _ _ _ _ _ () dX10_smallerNumber_27 rfl h hh
  · have h := h.2 c2
    refine lv_iload_n hx hb dX10_smallerNumber_15 rfl (lv_at hl 1 rfl) ?_
    refine lv_goto (tgt := 27) hx hb dX10_smallerNumber_16 (by decide) ?_
    exact hret _ _ _ _ _ () dX10_smallerNumber_27 rfl h hh

def w_X10_tryWith (x1 : Int32) (x2 : Int32) (o : Ob) (Post : Ob → Prop) : Prop := w_X10_copyRow  (o.2.1 41) (3 : Int32) o (fun (o_2 : Ob) => vp_in (3000 + x1) 5000 ∧ (Post ((o_2.1, o_2.2.1, (sa o_2.2.2 10 (upd (o_2.2.2 10) (3000 + x1).toNatClampNeg x2))))))
set_option maxRecDepth 100000 in
set_option maxHeartbeats 4000000 in
theorem c_X10_tryWith (l : Launch) (D : va_G) (E : Nat → ClassId) (a : Nat → Nat)  (o : Ob) (x1 : Int32) (x2 : Int32) {Post : Ob → Prop} (h : w_X10_tryWith x1 x2 o Post) : CtV l yX10_tryWith cX10_tryWith 3 ({ frames := 1, cells := 0, slots := 0, locals := 23 } : Room) D E [.ref (a 0), .int (x1), .int (x2)] (List.flatten [bX10 a E o]) (fun u : Ob => List.flatten [bX10 a E u]) Post 0 0 := by
  refine enV (by decide +kernel) (Nat.le_of_ble_eq_true rfl) ?_
  intro p e s m args below meth c Q A ls hx hb hml hown hT hK hA hin0 hret hh hl
  have hl : lv_has ls 3 [(0, .ref (a 0)), (1, .int (x1)), (2, .int (x2))] := hl
  unfold w_X10_tryWith at h
  refine lv_aload_n hx hb dX10_tryWith_0 rfl (lv_at hl 0 rfl) ?_
  refine lv_aload_n hx hb dX10_tryWith_1 rfl (lv_at hl 0 rfl) ?_
  refine G_X10_283 [] [] hx hb hT hown hK hh (v := o.2.1 41) rfl dX10_tryWith_2 ?_
  refine lv_iconst (v := 3) hx hb dX10_tryWith_5 (by decide) ?_
  refine kV hh.ap0 hA (rnV hx hb hml hown hT hK hh.ap0 (c_X10_copyRow l D E a  o (o.2.1 41) (3 : Int32) h _) mf_X10_copyRow kml_X10_273 ⟨rfl, rfl, Nat.le_of_ble_eq_true rfl, Nat.le_of_ble_eq_true rfl⟩ ⟨Nat.le_of_ble_eq_true rfl, Nat.le_of_ble_eq_true rfl⟩ 10 0 rfl rfl hl.1 rfl dX10_tryWith_6 (Nat.le_of_ble_eq_true rfl) rfl) (fun o_2 H locs h hh => ?_)
  have hh : Wh D A s.heap ((List.flatten [bX10 a E o_2])) _ _ := hh.un0
  refine lv_aload_n hx hb dX10_tryWith_9 rfl (lv_at hl 0 rfl) ?_
  refine G_X10_38 [] [] hx hb hT hown hK hh dX10_tryWith_10 ?_
  refine lv_sipush (v := 3000) hx hb dX10_tryWith_13 (by decide) ?_
  refine lv_iload_n hx hb dX10_tryWith_16 rfl (lv_at hl 1 rfl) ?_
  refine lv_iadd hx hb dX10_tryWith_17 ?_
  refine lv_iload_n hx hb dX10_tryWith_18 rfl (lv_at hl 2 rfl) ?_
  obtain ⟨g3, h⟩ := h
  refine S_X10_10 [] [] hx hb hK hh g3 dX10_tryWith_19 (fun H locs (hh : Wh D A s.heap ((List.flatten [bX10 a E ((o_2.1, o_2.2.1, (sa o_2.2.2 10 (upd (o_2.2.2 10) (3000 + x1).toNatClampNeg x2))))])) H locs) => ?_)
  exact hret _ _ _ _ (o_2.1, o_2.2.1, (sa o_2.2.2 10 (upd (o_2.2.2 10) (3000 + x1).toNatClampNeg x2))) dX10_tryWith_20 h hh

def w_X10_tryWithout_L8 (f1_8 : Int32) (f2_8 : Int32) (f3_8 : Int32) (K32_8 : Int32 → Ob → Prop) (Post : Ob → Prop) : Nat → Int32 → Int32 → Ob → Prop
  | 0, _, _, _ => False
  | n8 + 1, p4_8, p5_8, o_8 => ((f2_8 ≤ p5_8) → K32_8 p4_8 o_8) ∧ (¬ (f2_8 ≤ p5_8) → w_X10_endOf  (o_8.2.1 41) p4_8 o_8 (fun (r2 : Int32) (o_3 : Ob) => w_X10_tryWithout_L8 f1_8 f2_8 f3_8 K32_8 Post n8 r2 (p5_8 + 1) o_3))
def w_X10_tryWithout_L39 (f1_39 : Int32) (f3_39 : Int32) (f4_39 : Int32) (K63_39 : Int32 → Ob → Prop) (Post : Ob → Prop) : Nat → Int32 → Int32 → Ob → Prop
  | 0, _, _, _ => False
  | n39 + 1, p5_39, p6_39, o_39 => ((f3_39 ≤ p6_39) → K63_39 p5_39 o_39) ∧ (¬ (f3_39 ≤ p6_39) → w_X10_endOf  (o_39.2.1 41) p5_39 o_39 (fun (r5 : Int32) (o_6 : Ob) => w_X10_tryWithout_L39 f1_39 f3_39 f4_39 K63_39 Post n39 r5 (p6_39 + 1) o_6))
def w_X10_tryWithout_L76 (f1_76 : Int32) (f3_76 : Int32) (f4_76 : Int32) (f5_76 : Int32) (K162_76 : Ob → Prop) (Post : Ob → Prop) : Nat → Int32 → Ob → Prop
  | 0, _, _ => False
  | n76 + 1, p6_76, o_76 => vp_in (o_76.2.1 41) 5 ∧ (((((o_76.2.2 8) (o_76.2.1 41).toNatClampNeg) ≤ p6_76) → K162_76 o_76) ∧ (¬ (((o_76.2.2 8) (o_76.2.1 41).toNatClampNeg) ≤ p6_76) → vp_in ((1000 * (o_76.2.1 41)) + p6_76) 5000 ∧ (vp_in (((3000 + f4_76) + p6_76) - f5_76) 5000 ∧ (vp_in ((1000 * (o_76.2.1 41)) + p6_76) 5000 ∧ (vp_in (((3000 + f4_76) + p6_76) - f5_76) 5000 ∧ (w_X10_tryWithout_L76 f1_76 f3_76 f4_76 f5_76 K162_76 Post n76 (p6_76 + 1) ((o_76.1, o_76.2.1, (sa (sa o_76.2.2 9 (upd (o_76.2.2 9) (((3000 + f4_76) + p6_76) - f5_76).toNatClampNeg ((o_76.2.2 9) ((1000 * (o_76.2.1 41)) + p6_76).toNatClampNeg))) 10 (upd (o_76.2.2 10) (((3000 + f4_76) + p6_76) - f5_76).toNatClampNeg ((o_76.2.2 10) ((1000 * (o_76.2.1 41)) + p6_76).toNatClampNeg)))))))))))
def w_X10_tryWithout (x1 : Int32) (x2 : Int32) (x3 : Int32) (o : Ob) (Post : Ob → Prop) : Prop := ∃ n8, w_X10_tryWithout_L8 x1 x2 x3 (fun (k4_32 : Int32) (o_k32 : Ob) => ∃ n39, w_X10_tryWithout_L39 x1 x3 k4_32 (fun (k5_63 : Int32) (o_k63 : Ob) => w_X10_copyRow  (o_k63.2.1 41) (3 : Int32) o_k63 (fun (o_8 : Ob) => ∃ n76, w_X10_tryWithout_L76 x1 x3 k4_32 k5_63 (fun (o_k162 : Ob) => vp_in (o_k162.2.1 41) 5 ∧ (vp_in (3000 + x1) 5000 ∧ (vp_in (3000 + x1) 5000 ∧ (Post ((o_k162.1, o_k162.2.1, (sa (sa o_k162.2.2 8 (upd (o_k162.2.2 8) (3 : Int32).toNatClampNeg (((o_k162.2.2 8) (o_k162.2.1 41).toNatClampNeg) - (k5_63 - k4_32)))) 10 (upd (o_k162.2.2 10) (3000 + x1).toNatClampNeg (((o_k162.2.2 10) (3000 + x1).toNatClampNeg) - x3))))))))) Post n76 k5_63 o_8)) Post n39 k4_32 0 o_k32) Post n8 (x1 + 1) 0 o
set_option maxRecDepth 100000 in
set_option maxHeartbeats 4000000 in
theorem c_X10_tryWithout (l : Launch) (D : va_G) (E : Nat → ClassId) (a : Nat → Nat)  (o : Ob) (x1 : Int32) (x2 : Int32) (x3 : Int32) {Post : Ob → Prop} (h : w_X10_tryWithout x1 x2 x3 o Post) : CtV l yX10_tryWithout cX10_tryWithout 7 ({ frames := 2, cells := 0, slots := 0, locals := 46 } : Room) D E [.ref (a 0), .int (x1), .int (x2), .int (x3)] (List.flatten [bX10 a E o]) (fun u : Ob => List.flatten [bX10 a E u]) Post 0 0 := by
  refine enV (by decide +kernel) (Nat.le_of_ble_eq_true rfl) ?_
  intro p e s m args below meth c Q A ls hx hb hml hown hT hK hA hin0 hret hh hl
  have hl : lv_has ls 7 [(0, .ref (a 0)), (1, .int (x1)), (2, .int (x2)), (3, .int (x3))] := hl
  unfold w_X10_tryWithout at h
  refine lv_iload_n hx hb dX10_tryWithout_0 rfl (lv_at hl 1 rfl) ?_
  refine lv_iconst (v := 1) hx hb dX10_tryWithout_1 (by decide) ?_
  refine lv_iadd hx hb dX10_tryWithout_2 ?_
  refine lv_istore (lv' := [(4, .int (x1 + 1)), (0, .ref (a 0)), (1, .int (x1)), (2, .int (x2)), (3, .int (x3))]) hx hb dX10_tryWithout_3 hl (by decide) rfl (fun ls hl => ?_)
  refine lv_iconst (v := 0) hx hb dX10_tryWithout_5 (by decide) ?_
  refine lv_istore (lv' := [(5, .int (0)), (4, .int (x1 + 1)), (0, .ref (a 0)), (1, .int (x1)), (2, .int (x2)), (3, .int (x3))]) hx hb dX10_tryWithout_6 hl (by decide) rfl (fun ls hl => ?_)
  have hw8 : ∀ (K32_8 : Int32 → Ob → Prop) (hK32_8 : ∀ (k4_32 : Int32) (o_k32 : Ob) (H : Heap) (locs : List Loc) (ls : Array Slot), K32_8 k4_32 o_k32 → Wh D A s.heap ((List.flatten [bX10 a E o_k32])) H locs → lv_has ls 7 [(0, .ref (a 0)), (1, .int (x1)), (3, .int (x3)), (4, .int (k4_32))] → W p l e ({ frames := 2, cells := 0, slots := 0, locals := 46 } : Room) s m args below meth c H locs 0 0 Q (F0 m 32 ls [])) (n : Nat) (p4_8 : Int32) (p5_8 : Int32) (o_8 : Ob) (H : Heap) (locs : List Loc) (ls : Array Slot), w_X10_tryWithout_L8 x1 x2 x3 K32_8 Post n p4_8 p5_8 o_8 → Wh D A s.heap ((List.flatten [bX10 a E o_8])) H locs → lv_has ls 7 [(0, .ref (a 0)), (1, .int (x1)), (2, .int (x2)), (3, .int (x3)), (4, .int (p4_8)), (5, .int (p5_8))] → W p l e ({ frames := 2, cells := 0, slots := 0, locals := 46 } : Room) s m args below meth c H locs 0 0 Q (F0 m 8 ls []) := by
    intro K32_8 hK32_8 n
    induction n with
    | zero => intro p4_8 p5_8 o_8 H locs ls h hh hl; exact False.elim h
    | succ n ih =>
      intro p4_8 p5_8 o_8 H locs ls h hh hl
      refine lv_iload hx hb dX10_tryWithout_8 (lv_at hl 5 rfl) ?_
      refine lv_iload_n hx hb dX10_tryWithout_10 rfl (lv_at hl 2 rfl) ?_
      refine lv_icmp_ge (tgt := 32) hx hb dX10_tryWithout_11 (by decide) (fun c1 => ?_) (fun c1 => ?_)
      · have h := h.1 c1
        exact hK32_8 p4_8 o_8 _ _ _ h hh (lv_sub hl [0, 1, 3, 4] rfl)
      · have h := h.2 c1
        refine lv_aload_n hx hb dX10_tryWithout_14 rfl (lv_at hl 0 rfl) ?_
        refine lv_aload_n hx hb dX10_tryWithout_15 rfl (lv_at hl 0 rfl) ?_
        refine G_X10_283 [] [] hx hb hT hown hK hh (v := o_8.2.1 41) rfl dX10_tryWithout_16 ?_
        refine lv_iload hx hb dX10_tryWithout_19 (lv_at hl 4 rfl) ?_
        refine kI hh.ap0 hA (rnV hx hb hml hown hT hK hh.ap0 (c_X10_endOf l D E a  o_8 (o_8.2.1 41) p4_8 h _) mf_X10_endOf kml_X10_298 ⟨rfl, rfl, Nat.le_of_ble_eq_true rfl, Nat.le_of_ble_eq_true rfl⟩ ⟨Nat.le_of_ble_eq_true rfl, Nat.le_of_ble_eq_true rfl⟩ 10 0 rfl rfl hl.1 rfl dX10_tryWithout_21 (Nat.le_of_ble_eq_true rfl) rfl) (fun r2 o_3 H locs h hh => ?_)
        have hh : Wh D A s.heap ((List.flatten [bX10 a E o_3])) _ _ := hh.un0
        refine lv_istore (lv' := [(4, .int (r2)), (0, .ref (a 0)), (1, .int (x1)), (2, .int (x2)), (3, .int (x3)), (5, .int (p5_8))]) hx hb dX10_tryWithout_24 hl (by decide) rfl (fun ls hl => ?_)
        refine lv_iinc (v := p5_8 + 1) (lv' := [(5, .int (p5_8 + 1)), (4, .int (r2)), (0, .ref (a 0)), (1, .int (x1)), (2, .int (x2)), (3, .int (x3))]) hx hb dX10_tryWithout_26 hl (k := 5) rfl (by rfl) (by decide) rfl (fun ls hl => ?_)
        refine lv_goto (tgt := 8) hx hb dX10_tryWithout_29 (by decide) ?_
        exact ih r2 (p5_8 + 1) o_3 _ _ _ h hh (lv_sub hl [2, 3, 4, 5, 1, 0] rfl)
  obtain ⟨n, h⟩ := h
  refine hw8 _ (fun k4_32 o_k32 H locs ls h hh hl => ?_) n (x1 + 1) 0 o _ _ _ h hh (lv_sub hl [2, 3, 4, 5, 1, 0] rfl)
  refine lv_iload hx hb dX10_tryWithout_32 (lv_at hl 3 rfl) ?_
  refine lv_istore (lv' := [(5, .int (k4_32)), (0, .ref (a 0)), (1, .int (x1)), (3, .int (x3)), (4, .int (k4_32))]) hx hb dX10_tryWithout_34 hl (by decide) rfl (fun ls hl => ?_)
  refine lv_iconst (v := 0) hx hb dX10_tryWithout_36 (by decide) ?_
  refine lv_istore (lv' := [(6, .int (0)), (5, .int (k4_32)), (0, .ref (a 0)), (1, .int (x1)), (3, .int (x3)), (4, .int (k4_32))]) hx hb dX10_tryWithout_37 hl (by decide) rfl (fun ls hl => ?_)
  have hw39 : ∀ (K63_39 : Int32 → Ob → Prop) (hK63_39 : ∀ (k5_63 : Int32) (o_k63 : Ob) (H : Heap) (locs : List Loc) (ls : Array Slot), K63_39 k5_63 o_k63 → Wh D A s.heap ((List.flatten [bX10 a E o_k63])) H locs → lv_has ls 7 [(0, .ref (a 0)), (1, .int (x1)), (3, .int (x3)), (4, .int (k4_32)), (5, .int (k5_63))] → W p l e ({ frames := 2, cells := 0, slots := 0, locals := 46 } : Room) s m args below meth c H locs 0 0 Q (F0 m 63 ls [])) (n : Nat) (p5_39 : Int32) (p6_39 : Int32) (o_39 : Ob) (H : Heap) (locs : List Loc) (ls : Array Slot), w_X10_tryWithout_L39 x1 x3 k4_32 K63_39 Post n p5_39 p6_39 o_39 → Wh D A s.heap ((List.flatten [bX10 a E o_39])) H locs → lv_has ls 7 [(0, .ref (a 0)), (1, .int (x1)), (3, .int (x3)), (4, .int (k4_32)), (5, .int (p5_39)), (6, .int (p6_39))] → W p l e ({ frames := 2, cells := 0, slots := 0, locals := 46 } : Room) s m args below meth c H locs 0 0 Q (F0 m 39 ls []) := by
    intro K63_39 hK63_39 n
    induction n with
    | zero => intro p5_39 p6_39 o_39 H locs ls h hh hl; exact False.elim h
    | succ n ih =>
      intro p5_39 p6_39 o_39 H locs ls h hh hl
      refine lv_iload hx hb dX10_tryWithout_39 (lv_at hl 5 rfl) ?_
      refine lv_iload_n hx hb dX10_tryWithout_41 rfl (lv_at hl 2 rfl) ?_
      refine lv_icmp_ge (tgt := 63) hx hb dX10_tryWithout_42 (by decide) (fun c4 => ?_) (fun c4 => ?_)
      · have h := h.1 c4
        exact hK63_39 p5_39 o_39 _ _ _ h hh (lv_sub hl [0, 1, 2, 3, 4] rfl)
      · have h := h.2 c4
        refine lv_aload_n hx hb dX10_tryWithout_45 rfl (lv_at hl 0 rfl) ?_
        refine lv_aload_n hx hb dX10_tryWithout_46 rfl (lv_at hl 0 rfl) ?_
        refine G_X10_283 [] [] hx hb hT hown hK hh (v := o_39.2.1 41) rfl dX10_tryWithout_47 ?_
        refine lv_iload hx hb dX10_tryWithout_50 (lv_at hl 4 rfl) ?_
        refine kI hh.ap0 hA (rnV hx hb hml hown hT hK hh.ap0 (c_X10_endOf l D E a  o_39 (o_39.2.1 41) p5_39 h _) mf_X10_endOf kml_X10_298 ⟨rfl, rfl, Nat.le_of_ble_eq_true rfl, Nat.le_of_ble_eq_true rfl⟩ ⟨Nat.le_of_ble_eq_true rfl, Nat.le_of_ble_eq_true rfl⟩ 10 0 rfl rfl hl.1 rfl dX10_tryWithout_52 (Nat.le_of_ble_eq_true rfl) rfl) (fun r5 o_6 H locs h hh => ?_)
        have hh : Wh D A s.heap ((List.flatten [bX10 a E o_6])) _ _ := hh.un0
        refine lv_istore (lv' := [(5, .int (r5)), (0, .ref (a 0)), (1, .int (x1)), (3, .int (x3)), (4, .int (k4_32)), (6, .int (p6_39))]) hx hb dX10_tryWithout_55 hl (by decide) rfl (fun ls hl => ?_)
        refine lv_iinc (v := p6_39 + 1) (lv' := [(6, .int (p6_39 + 1)), (5, .int (r5)), (0, .ref (a 0)), (1, .int (x1)), (3, .int (x3)), (4, .int (k4_32))]) hx hb dX10_tryWithout_57 hl (k := 5) rfl (by rfl) (by decide) rfl (fun ls hl => ?_)
        refine lv_goto (tgt := 39) hx hb dX10_tryWithout_60 (by decide) ?_
        exact ih r5 (p6_39 + 1) o_6 _ _ _ h hh (lv_sub hl [2, 3, 4, 5, 1, 0] rfl)
  obtain ⟨n, h⟩ := h
  refine hw39 _ (fun k5_63 o_k63 H locs ls h hh hl => ?_) n k4_32 0 o_k32 _ _ _ h hh (lv_sub hl [2, 3, 4, 5, 1, 0] rfl)
  refine lv_aload_n hx hb dX10_tryWithout_63 rfl (lv_at hl 0 rfl) ?_
  refine lv_aload_n hx hb dX10_tryWithout_64 rfl (lv_at hl 0 rfl) ?_
  refine G_X10_283 [] [] hx hb hT hown hK hh (v := o_k63.2.1 41) rfl dX10_tryWithout_65 ?_
  refine lv_iconst (v := 3) hx hb dX10_tryWithout_68 (by decide) ?_
  refine kV hh.ap0 hA (rnV hx hb hml hown hT hK hh.ap0 (c_X10_copyRow l D E a  o_k63 (o_k63.2.1 41) (3 : Int32) h _) mf_X10_copyRow kml_X10_273 ⟨rfl, rfl, Nat.le_of_ble_eq_true rfl, Nat.le_of_ble_eq_true rfl⟩ ⟨Nat.le_of_ble_eq_true rfl, Nat.le_of_ble_eq_true rfl⟩ 10 0 rfl rfl hl.1 rfl dX10_tryWithout_69 (Nat.le_of_ble_eq_true rfl) rfl) (fun o_8 H locs h hh => ?_)
  have hh : Wh D A s.heap ((List.flatten [bX10 a E o_8])) _ _ := hh.un0
  refine lv_iload hx hb dX10_tryWithout_72 (lv_at hl 4 rfl) ?_
  refine lv_istore (lv' := [(6, .int (k5_63)), (0, .ref (a 0)), (1, .int (x1)), (3, .int (x3)), (4, .int (k4_32)), (5, .int (k5_63))]) hx hb dX10_tryWithout_74 hl (by decide) rfl (fun ls hl => ?_)
  have hw76 : ∀ (K162_76 : Ob → Prop) (hK162_76 : ∀ (o_k162 : Ob) (H : Heap) (locs : List Loc) (ls : Array Slot), K162_76 o_k162 → Wh D A s.heap ((List.flatten [bX10 a E o_k162])) H locs → lv_has ls 7 [(0, .ref (a 0)), (1, .int (x1)), (3, .int (x3)), (4, .int (k4_32)), (5, .int (k5_63))] → W p l e ({ frames := 2, cells := 0, slots := 0, locals := 46 } : Room) s m args below meth c H locs 0 0 Q (F0 m 162 ls [])) (n : Nat) (p6_76 : Int32) (o_76 : Ob) (H : Heap) (locs : List Loc) (ls : Array Slot), w_X10_tryWithout_L76 x1 x3 k4_32 k5_63 K162_76 Post n p6_76 o_76 → Wh D A s.heap ((List.flatten [bX10 a E o_76])) H locs → lv_has ls 7 [(0, .ref (a 0)), (1, .int (x1)), (3, .int (x3)), (4, .int (k4_32)), (5, .int (k5_63)), (6, .int (p6_76))] → W p l e ({ frames := 2, cells := 0, slots := 0, locals := 46 } : Room) s m args below meth c H locs 0 0 Q (F0 m 76 ls []) := by
    intro K162_76 hK162_76 n
    induction n with
    | zero => intro p6_76 o_76 H locs ls h hh hl; exact False.elim h
    | succ n ih =>
      intro p6_76 o_76 H locs ls h hh hl
      refine lv_iload hx hb dX10_tryWithout_76 (lv_at hl 5 rfl) ?_
      refine lv_aload_n hx hb dX10_tryWithout_78 rfl (lv_at hl 0 rfl) ?_
      refine G_X10_32 [] [] hx hb hT hown hK hh dX10_tryWithout_79 ?_
      refine lv_aload_n hx hb dX10_tryWithout_82 rfl (lv_at hl 0 rfl) ?_
      refine G_X10_283 [] [] hx hb hT hown hK hh (v := o_76.2.1 41) rfl dX10_tryWithout_83 ?_
      obtain ⟨g9, h⟩ := h
      refine A_X10_8 [] [] hx hb hK hh (v := (o_76.2.2 8) (o_76.2.1 41).toNatClampNeg) g9 rfl dX10_tryWithout_86 ?_
      refine lv_icmp_ge (tgt := 162) hx hb dX10_tryWithout_87 (by decide) (fun c10 => ?_) (fun c10 => ?_)
      · have h := h.1 c10
        exact hK162_76 o_76 _ _ _ h hh (lv_sub hl [0, 1, 2, 3, 4] rfl)
      · have h := h.2 c10
        refine lv_aload_n hx hb dX10_tryWithout_90 rfl (lv_at hl 0 rfl) ?_
        refine G_X10_35 [] [] hx hb hT hown hK hh dX10_tryWithout_91 ?_
        refine lv_sipush (v := 3000) hx hb dX10_tryWithout_94 (by decide) ?_
        refine lv_iload hx hb dX10_tryWithout_97 (lv_at hl 3 rfl) ?_
        refine lv_iadd hx hb dX10_tryWithout_99 ?_
        refine lv_iload hx hb dX10_tryWithout_100 (lv_at hl 5 rfl) ?_
        refine lv_iadd hx hb dX10_tryWithout_102 ?_
        refine lv_iload hx hb dX10_tryWithout_103 (lv_at hl 4 rfl) ?_
        refine lv_isub hx hb dX10_tryWithout_105 ?_
        refine lv_aload_n hx hb dX10_tryWithout_106 rfl (lv_at hl 0 rfl) ?_
        refine G_X10_35 [] [] hx hb hT hown hK hh dX10_tryWithout_107 ?_
        refine lv_sipush (v := 1000) hx hb dX10_tryWithout_110 (by decide) ?_
        refine lv_aload_n hx hb dX10_tryWithout_113 rfl (lv_at hl 0 rfl) ?_
        refine G_X10_283 [] [] hx hb hT hown hK hh (v := o_76.2.1 41) rfl dX10_tryWithout_114 ?_
        refine lv_imul hx hb dX10_tryWithout_117 ?_
        refine lv_iload hx hb dX10_tryWithout_118 (lv_at hl 5 rfl) ?_
        refine lv_iadd hx hb dX10_tryWithout_120 ?_
        obtain ⟨g11, h⟩ := h
        refine A_X10_9 [] [] hx hb hK hh (v := (o_76.2.2 9) ((1000 * (o_76.2.1 41)) + p6_76).toNatClampNeg) g11 rfl dX10_tryWithout_121 ?_
        obtain ⟨g12, h⟩ := h
        refine S_X10_9 [] [] hx hb hK hh g12 dX10_tryWithout_122 (fun H locs (hh : Wh D A s.heap ((List.flatten [bX10 a E ((o_76.1, o_76.2.1, (sa o_76.2.2 9 (upd (o_76.2.2 9) (((3000 + k4_32) + p6_76) - k5_63).toNatClampNeg ((o_76.2.2 9) ((1000 * (o_76.2.1 41)) + p6_76).toNatClampNeg)))))])) H locs) => ?_)
        refine lv_aload_n hx hb dX10_tryWithout_123 rfl (lv_at hl 0 rfl) ?_
        refine G_X10_38 [] [] hx hb hT hown hK hh dX10_tryWithout_124 ?_
        refine lv_sipush (v := 3000) hx hb dX10_tryWithout_127 (by decide) ?_
        refine lv_iload hx hb dX10_tryWithout_130 (lv_at hl 3 rfl) ?_
        refine lv_iadd hx hb dX10_tryWithout_132 ?_
        refine lv_iload hx hb dX10_tryWithout_133 (lv_at hl 5 rfl) ?_
        refine lv_iadd hx hb dX10_tryWithout_135 ?_
        refine lv_iload hx hb dX10_tryWithout_136 (lv_at hl 4 rfl) ?_
        refine lv_isub hx hb dX10_tryWithout_138 ?_
        refine lv_aload_n hx hb dX10_tryWithout_139 rfl (lv_at hl 0 rfl) ?_
        refine G_X10_38 [] [] hx hb hT hown hK hh dX10_tryWithout_140 ?_
        refine lv_sipush (v := 1000) hx hb dX10_tryWithout_143 (by decide) ?_
        refine lv_aload_n hx hb dX10_tryWithout_146 rfl (lv_at hl 0 rfl) ?_
        refine G_X10_283 [] [] hx hb hT hown hK hh (v := o_76.2.1 41) rfl dX10_tryWithout_147 ?_
        refine lv_imul hx hb dX10_tryWithout_150 ?_
        refine lv_iload hx hb dX10_tryWithout_151 (lv_at hl 5 rfl) ?_
        refine lv_iadd hx hb dX10_tryWithout_153 ?_
        obtain ⟨g13, h⟩ := h
        refine A_X10_10 [] [] hx hb hK hh (v := (o_76.2.2 10) ((1000 * (o_76.2.1 41)) + p6_76).toNatClampNeg) g13 rfl dX10_tryWithout_154 ?_
        obtain ⟨g14, h⟩ := h
        refine S_X10_10 [] [] hx hb hK hh g14 dX10_tryWithout_155 (fun H locs (hh : Wh D A s.heap ((List.flatten [bX10 a E ((o_76.1, o_76.2.1, (sa (sa o_76.2.2 9 (upd (o_76.2.2 9) (((3000 + k4_32) + p6_76) - k5_63).toNatClampNeg ((o_76.2.2 9) ((1000 * (o_76.2.1 41)) + p6_76).toNatClampNeg))) 10 (upd (o_76.2.2 10) (((3000 + k4_32) + p6_76) - k5_63).toNatClampNeg ((o_76.2.2 10) ((1000 * (o_76.2.1 41)) + p6_76).toNatClampNeg)))))])) H locs) => ?_)
        refine lv_iinc (v := p6_76 + 1) (lv' := [(6, .int (p6_76 + 1)), (0, .ref (a 0)), (1, .int (x1)), (3, .int (x3)), (4, .int (k4_32)), (5, .int (k5_63))]) hx hb dX10_tryWithout_156 hl (k := 5) rfl (by rfl) (by decide) rfl (fun ls hl => ?_)
        refine lv_goto (tgt := 76) hx hb dX10_tryWithout_159 (by decide) ?_
        exact ih (p6_76 + 1) ((o_76.1, o_76.2.1, (sa (sa o_76.2.2 9 (upd (o_76.2.2 9) (((3000 + k4_32) + p6_76) - k5_63).toNatClampNeg ((o_76.2.2 9) ((1000 * (o_76.2.1 41)) + p6_76).toNatClampNeg))) 10 (upd (o_76.2.2 10) (((3000 + k4_32) + p6_76) - k5_63).toNatClampNeg ((o_76.2.2 10) ((1000 * (o_76.2.1 41)) + p6_76).toNatClampNeg))))) _ _ _ h hh (lv_sub hl [1, 2, 3, 4, 5, 0] rfl)
  obtain ⟨n, h⟩ := h
  refine hw76 _ (fun o_k162 H locs ls h hh hl => ?_) n k5_63 o_8 _ _ _ h hh (lv_sub hl [1, 2, 3, 4, 5, 0] rfl)
  refine lv_aload_n hx hb dX10_tryWithout_162 rfl (lv_at hl 0 rfl) ?_
  refine G_X10_32 [] [] hx hb hT hown hK hh dX10_tryWithout_163 ?_
  refine lv_iconst (v := 3) hx hb dX10_tryWithout_166 (by decide) ?_
  refine lv_aload_n hx hb dX10_tryWithout_167 rfl (lv_at hl 0 rfl) ?_
  refine G_X10_32 [] [] hx hb hT hown hK hh dX10_tryWithout_168 ?_
  refine lv_aload_n hx hb dX10_tryWithout_171 rfl (lv_at hl 0 rfl) ?_
  refine G_X10_283 [] [] hx hb hT hown hK hh (v := o_k162.2.1 41) rfl dX10_tryWithout_172 ?_
  obtain ⟨g15, h⟩ := h
  refine A_X10_8 [] [] hx hb hK hh (v := (o_k162.2.2 8) (o_k162.2.1 41).toNatClampNeg) g15 rfl dX10_tryWithout_175 ?_
  refine lv_iload hx hb dX10_tryWithout_176 (lv_at hl 4 rfl) ?_
  refine lv_iload hx hb dX10_tryWithout_178 (lv_at hl 3 rfl) ?_
  refine lv_isub hx hb dX10_tryWithout_180 ?_
  refine lv_isub hx hb dX10_tryWithout_181 ?_
  refine S_X10_8 [] [] hx hb hK hh (by unfold vp_in; decide) dX10_tryWithout_182 (fun H locs (hh : Wh D A s.heap ((List.flatten [bX10 a E ((o_k162.1, o_k162.2.1, (sa o_k162.2.2 8 (upd (o_k162.2.2 8) (3 : Int32).toNatClampNeg (((o_k162.2.2 8) (o_k162.2.1 41).toNatClampNeg) - (k5_63 - k4_32))))))])) H locs) => ?_)
  refine lv_aload_n hx hb dX10_tryWithout_183 rfl (lv_at hl 0 rfl) ?_
  refine G_X10_38 [] [] hx hb hT hown hK hh dX10_tryWithout_184 ?_
  refine lv_sipush (v := 3000) hx hb dX10_tryWithout_187 (by decide) ?_
  refine lv_iload_n hx hb dX10_tryWithout_190 rfl (lv_at hl 1 rfl) ?_
  refine lv_iadd hx hb dX10_tryWithout_191 ?_
  refine lv_dup2_11 hx hb dX10_tryWithout_192 rfl rfl ?_
  obtain ⟨g16, h⟩ := h
  refine A_X10_10 [] [] hx hb hK hh (v := (o_k162.2.2 10) (3000 + x1).toNatClampNeg) g16 rfl dX10_tryWithout_193 ?_
  refine lv_iload_n hx hb dX10_tryWithout_194 rfl (lv_at hl 2 rfl) ?_
  refine lv_isub hx hb dX10_tryWithout_195 ?_
  obtain ⟨g17, h⟩ := h
  refine S_X10_10 [] [] hx hb hK hh g17 dX10_tryWithout_196 (fun H locs (hh : Wh D A s.heap ((List.flatten [bX10 a E ((o_k162.1, o_k162.2.1, (sa (sa o_k162.2.2 8 (upd (o_k162.2.2 8) (3 : Int32).toNatClampNeg (((o_k162.2.2 8) (o_k162.2.1 41).toNatClampNeg) - (k5_63 - k4_32)))) 10 (upd (o_k162.2.2 10) (3000 + x1).toNatClampNeg (((o_k162.2.2 10) (3000 + x1).toNatClampNeg) - x3)))))])) H locs) => ?_)
  exact hret _ _ _ _ (o_k162.1, o_k162.2.1, (sa (sa o_k162.2.2 8 (upd (o_k162.2.2 8) (3 : Int32).toNatClampNeg (((o_k162.2.2 8) (o_k162.2.1 41).toNatClampNeg) - (k5_63 - k4_32)))) 10 (upd (o_k162.2.2 10) (3000 + x1).toNatClampNeg (((o_k162.2.2 10) (3000 + x1).toNatClampNeg) - x3)))) dX10_tryWithout_197 h hh

def w_X10_listChange_L8 (f1_8 : Int32) (f2_8 : Int32) (K25_8 : Int32 → Int32 → Ob → Prop) (Post : Int32 → Ob → Prop) : Nat → Int32 → Int32 → Ob → Prop
  | 0, _, _, _ => False
  | n8 + 1, p3_8, p4_8, o_8 => ((p4_8 ≤ 0) → Post 0 o_8) ∧ (¬ (p4_8 ≤ 0) → ¬ p4_8 = 0 ∧ ((((f2_8 / p4_8) ≤ p3_8) → w_X10_listChange_L8 f1_8 f2_8 K25_8 Post n8 (p3_8 - (f2_8 / p4_8)) (p4_8 / 2) o_8) ∧ (¬ ((f2_8 / p4_8) ≤ p3_8) → K25_8 p3_8 p4_8 o_8)))
def w_X10_listChange (x1 : Int32) (x2 : Int32) (o : Ob) (Post : Int32 → Ob → Prop) : Prop := ∃ n8, w_X10_listChange_L8 x1 x2 (fun (k3_25 : Int32) (k4_25 : Int32) (o_k25 : Ob) => w_X10_tryWithout  x1 (k4_25 * k3_25) k4_25 o_k25 (fun (o_5 : Ob) => Post 1 o_5)) Post n8 (o.2.1 44) x2 o
set_option maxRecDepth 100000 in
set_option maxHeartbeats 4000000 in
theorem c_X10_listChange (l : Launch) (D : va_G) (E : Nat → ClassId) (a : Nat → Nat)  (o : Ob) (x1 : Int32) (x2 : Int32) {Post : Int32 → Ob → Prop} (h : w_X10_listChange x1 x2 o Post) : CtI l yX10_listChange cX10_listChange 6 .boolean ({ frames := 3, cells := 0, slots := 0, locals := 72 } : Room) D E [.ref (a 0), .int (x1), .int (x2)] (List.flatten [bX10 a E o]) (fun u : Ob => List.flatten [bX10 a E u]) Post 0 0 := by
  refine enI (by decide +kernel) (Nat.le_of_ble_eq_true rfl) ?_
  intro p e s m args below meth c Q A ls hx hb hml hown hT hK hA hret hh hl
  have hl : lv_has ls 6 [(0, .ref (a 0)), (1, .int (x1)), (2, .int (x2))] := hl
  unfold w_X10_listChange at h
  refine lv_aload_n hx hb dX10_listChange_0 rfl (lv_at hl 0 rfl) ?_
  refine G_X10_292 [] [] hx hb hT hown hK hh (v := o.2.1 44) rfl dX10_listChange_1 ?_
  refine lv_istore_n (lv' := [(3, .int (o.2.1 44)), (0, .ref (a 0)), (1, .int (x1)), (2, .int (x2))]) hx hb dX10_listChange_4 rfl hl (by decide) rfl (fun ls hl => ?_)
  refine lv_iload_n hx hb dX10_listChange_5 rfl (lv_at hl 3 rfl) ?_
  refine lv_istore (lv' := [(4, .int (x2)), (3, .int (o.2.1 44)), (0, .ref (a 0)), (1, .int (x1)), (2, .int (x2))]) hx hb dX10_listChange_6 hl (by decide) rfl (fun ls hl => ?_)
  have hw8 : ∀ (K25_8 : Int32 → Int32 → Ob → Prop) (hK25_8 : ∀ (k3_25 : Int32) (k4_25 : Int32) (o_k25 : Ob) (H : Heap) (locs : List Loc) (ls : Array Slot), K25_8 k3_25 k4_25 o_k25 → Wh D A s.heap ((List.flatten [bX10 a E o_k25])) H locs → lv_has ls 6 [(0, .ref (a 0)), (1, .int (x1)), (3, .int (k3_25)), (4, .int (k4_25))] → W p l e ({ frames := 3, cells := 0, slots := 0, locals := 72 } : Room) s m args below meth c H locs 0 0 Q (F0 m 25 ls [])) (n : Nat) (p3_8 : Int32) (p4_8 : Int32) (o_8 : Ob) (H : Heap) (locs : List Loc) (ls : Array Slot), w_X10_listChange_L8 x1 x2 K25_8 Post n p3_8 p4_8 o_8 → Wh D A s.heap ((List.flatten [bX10 a E o_8])) H locs → lv_has ls 6 [(0, .ref (a 0)), (1, .int (x1)), (2, .int (x2)), (3, .int (p3_8)), (4, .int (p4_8))] → W p l e ({ frames := 3, cells := 0, slots := 0, locals := 72 } : Room) s m args below meth c H locs 0 0 Q (F0 m 8 ls []) := by
    intro K25_8 hK25_8 n
    induction n with
    | zero => intro p3_8 p4_8 o_8 H locs ls h hh hl; exact False.elim h
    | succ n ih =>
      intro p3_8 p4_8 o_8 H locs ls h hh hl
      refine lv_iload hx hb dX10_listChange_8 (lv_at hl 4 rfl) ?_
      refine lv_if_le (tgt := 52) hx hb dX10_listChange_10 (by decide) (fun c1 => ?_) (fun c1 => ?_)
      · have h := h.1 c1
        refine lv_iconst (v := 0) hx hb dX10_listChange_52 (by decide) ?_
        exact hret _ _ _ _ _ o_8 dX10_listChange_53 rfl h hh
      · have h := h.2 c1
        refine lv_iload_n hx hb dX10_listChange_13 rfl (lv_at hl 2 rfl) ?_
        refine lv_iload hx hb dX10_listChange_14 (lv_at hl 4 rfl) ?_
        obtain ⟨g2, h⟩ := h
        refine lv_idiv hx hb dX10_listChange_16 g2 ?_
        refine lv_istore (lv' := [(5, .int (x2 / p4_8)), (0, .ref (a 0)), (1, .int (x1)), (2, .int (x2)), (3, .int (p3_8)), (4, .int (p4_8))]) hx hb dX10_listChange_17 hl (by decide) rfl (fun ls hl => ?_)
        refine lv_iload_n hx hb dX10_listChange_19 rfl (lv_at hl 4 rfl) ?_
        refine lv_iload hx hb dX10_listChange_20 (lv_at hl 0 rfl) ?_
        refine lv_icmp_ge (tgt := 38) hx hb dX10_listChange_22 (by decide) (fun c3 => ?_) (fun c3 => ?_)
        · have h := h.1 c3
          refine lv_iload_n hx hb dX10_listChange_38 rfl (lv_at hl 4 rfl) ?_
          refine lv_iload hx hb dX10_listChange_39 (lv_at hl 0 rfl) ?_
          refine lv_isub hx hb dX10_listChange_41 ?_
          refine lv_istore_n (lv' := [(3, .int (p3_8 - (x2 / p4_8))), (5, .int (x2 / p4_8)), (0, .ref (a 0)), (1, .int (x1)), (2, .int (x2)), (4, .int (p4_8))]) hx hb dX10_listChange_42 rfl hl (by decide) rfl (fun ls hl => ?_)
          refine lv_iload hx hb dX10_listChange_43 (lv_at hl 5 rfl) ?_
          refine lv_iconst (v := 2) hx hb dX10_listChange_45 (by decide) ?_
          refine lv_idiv hx hb dX10_listChange_46 (by decide) ?_
          refine lv_istore (lv' := [(4, .int (p4_8 / 2)), (3, .int (p3_8 - (x2 / p4_8))), (5, .int (x2 / p4_8)), (0, .ref (a 0)), (1, .int (x1)), (2, .int (x2))]) hx hb dX10_listChange_47 hl (by decide) rfl (fun ls hl => ?_)
          refine lv_goto (tgt := 8) hx hb dX10_listChange_49 (by decide) ?_
          exact ih (p3_8 - (x2 / p4_8)) (p4_8 / 2) o_8 _ _ _ h hh (lv_sub hl [3, 4, 5, 1, 0] rfl)
        · have h := h.2 c3
          exact hK25_8 p3_8 p4_8 o_8 _ _ _ h hh (lv_sub hl [1, 2, 4, 5] rfl)
  obtain ⟨n, h⟩ := h
  refine hw8 _ (fun k3_25 k4_25 o_k25 H locs ls h hh hl => ?_) n (o.2.1 44) x2 o _ _ _ h hh (lv_sub hl [2, 3, 4, 1, 0] rfl)
  refine lv_aload_n hx hb dX10_listChange_25 rfl (lv_at hl 0 rfl) ?_
  refine lv_iload_n hx hb dX10_listChange_26 rfl (lv_at hl 1 rfl) ?_
  refine lv_iload hx hb dX10_listChange_27 (lv_at hl 3 rfl) ?_
  refine lv_iload_n hx hb dX10_listChange_29 rfl (lv_at hl 2 rfl) ?_
  refine lv_imul hx hb dX10_listChange_30 ?_
  refine lv_iload hx hb dX10_listChange_31 (lv_at hl 3 rfl) ?_
  refine kV hh.ap0 hA (rnV hx hb hml hown hT hK hh.ap0 (c_X10_tryWithout l D E a  o_k25 x1 (k4_25 * k3_25) k4_25 h _) mf_X10_tryWithout kml_X10_301 ⟨rfl, rfl, Nat.le_of_ble_eq_true rfl, Nat.le_of_ble_eq_true rfl⟩ ⟨Nat.le_of_ble_eq_true rfl, Nat.le_of_ble_eq_true rfl⟩ 10 0 rfl rfl hl.1 rfl dX10_listChange_33 (Nat.le_of_ble_eq_true rfl) rfl) (fun o_5 H locs h hh => ?_)
  have hh : Wh D A s.heap ((List.flatten [bX10 a E o_5])) _ _ := hh.un0
  refine lv_iconst (v := 1) hx hb dX10_listChange_36 (by decide) ?_
  exact hret _ _ _ _ _ o_5 dX10_listChange_37 rfl h hh

def w_X10_shuffleChange_L8 (f1_8 : Int32) (f2_8 : Int32) (K56_8 : Int32 → Int32 → Ob → Prop) (Post : Int32 → Ob → Prop) : Nat → Int32 → Int32 → Ob → Prop
  | 0, _, _, _ => False
  | n8 + 1, p3_8, p4_8, o_8 => ((f2_8 ≤ (p4_8 + 1)) → Post 0 o_8) ∧ (¬ (f2_8 ≤ (p4_8 + 1)) → vp_in ((((1000 * (o_8.2.1 41)) + f1_8) + 1) + p4_8) 5000 ∧ (vp_in (((((1000 * (o_8.2.1 41)) + f1_8) + 1) + p4_8) + 1) 5000 ∧ (jn (fun J116 : Int32 → Ob → Prop => ((((o_8.2.2 10) ((((1000 * (o_8.2.1 41)) + f1_8) + 1) + p4_8).toNatClampNeg) ≤ ((o_8.2.2 10) (((((1000 * (o_8.2.1 41)) + f1_8) + 1) + p4_8) + 1).toNatClampNeg)) → J116 p3_8 o_8) ∧ (¬ (((o_8.2.2 10) ((((1000 * (o_8.2.1 41)) + f1_8) + 1) + p4_8).toNatClampNeg) ≤ ((o_8.2.2 10) (((((1000 * (o_8.2.1 41)) + f1_8) + 1) + p4_8) + 1).toNatClampNeg)) → ((¬ p3_8 = 0) → J116 (p3_8 + (-1)) o_8) ∧ ((p3_8 = 0) → K56_8 p4_8 ((((1000 * (o_8.2.1 41)) + f1_8) + 1) + p4_8) o_8))) (fun (y3_116 : Int32) (o_116 : Ob) => w_X10_shuffleChange_L8 f1_8 f2_8 K56_8 Post n8 y3_116 (p4_8 + 1) o_116))))
def w_X10_shuffleChange (x1 : Int32) (x2 : Int32) (o : Ob) (Post : Int32 → Ob → Prop) : Prop := ∃ n8, w_X10_shuffleChange_L8 x1 x2 (fun (k4_56 : Int32) (k5_56 : Int32) (o_k56 : Ob) => w_X10_copyRow  (o_k56.2.1 41) (3 : Int32) o_k56 (fun (o_7 : Ob) => vp_in (k5_56 + 1) 5000 ∧ (vp_in (((3000 + x1) + 1) + k4_56) 5000 ∧ (vp_in k5_56 5000 ∧ (vp_in (((3000 + x1) + 2) + k4_56) 5000 ∧ (Post 1 ((o_7.1, o_7.2.1, (sa (sa o_7.2.2 10 (upd (o_7.2.2 10) (((3000 + x1) + 1) + k4_56).toNatClampNeg ((o_7.2.2 10) (k5_56 + 1).toNatClampNeg))) 10 (upd (upd (o_7.2.2 10) (((3000 + x1) + 1) + k4_56).toNatClampNeg ((o_7.2.2 10) (k5_56 + 1).toNatClampNeg)) (((3000 + x1) + 2) + k4_56).toNatClampNeg ((upd (o_7.2.2 10) (((3000 + x1) + 1) + k4_56).toNatClampNeg ((o_7.2.2 10) (k5_56 + 1).toNatClampNeg)) k5_56.toNatClampNeg))))))))))) Post n8 (o.2.1 44) 0 o
set_option maxRecDepth 100000 in
set_option maxHeartbeats 4000000 in
theorem c_X10_shuffleChange (l : Launch) (D : va_G) (E : Nat → ClassId) (a : Nat → Nat)  (o : Ob) (x1 : Int32) (x2 : Int32) {Post : Int32 → Ob → Prop} (h : w_X10_shuffleChange x1 x2 o Post) : CtI l yX10_shuffleChange cX10_shuffleChange 6 .boolean ({ frames := 1, cells := 0, slots := 0, locals := 23 } : Room) D E [.ref (a 0), .int (x1), .int (x2)] (List.flatten [bX10 a E o]) (fun u : Ob => List.flatten [bX10 a E u]) Post 0 0 := by
  refine enI (by decide +kernel) (Nat.le_of_ble_eq_true rfl) ?_
  intro p e s m args below meth c Q A ls hx hb hml hown hT hK hA hret hh hl
  have hl : lv_has ls 6 [(0, .ref (a 0)), (1, .int (x1)), (2, .int (x2))] := hl
  unfold w_X10_shuffleChange at h
  refine lv_aload_n hx hb dX10_shuffleChange_0 rfl (lv_at hl 0 rfl) ?_
  refine G_X10_292 [] [] hx hb hT hown hK hh (v := o.2.1 44) rfl dX10_shuffleChange_1 ?_
  refine lv_istore_n (lv' := [(3, .int (o.2.1 44)), (0, .ref (a 0)), (1, .int (x1)), (2, .int (x2))]) hx hb dX10_shuffleChange_4 rfl hl (by decide) rfl (fun ls hl => ?_)
  refine lv_iconst (v := 0) hx hb dX10_shuffleChange_5 (by decide) ?_
  refine lv_istore (lv' := [(4, .int (0)), (3, .int (o.2.1 44)), (0, .ref (a 0)), (1, .int (x1)), (2, .int (x2))]) hx hb dX10_shuffleChange_6 hl (by decide) rfl (fun ls hl => ?_)
  have hw8 : ∀ (K56_8 : Int32 → Int32 → Ob → Prop) (hK56_8 : ∀ (k4_56 : Int32) (k5_56 : Int32) (o_k56 : Ob) (H : Heap) (locs : List Loc) (ls : Array Slot), K56_8 k4_56 k5_56 o_k56 → Wh D A s.heap ((List.flatten [bX10 a E o_k56])) H locs → lv_has ls 6 [(0, .ref (a 0)), (1, .int (x1)), (4, .int (k4_56)), (5, .int (k5_56))] → W p l e ({ frames := 1, cells := 0, slots := 0, locals := 23 } : Room) s m args below meth c H locs 0 0 Q (F0 m 56 ls [])) (n : Nat) (p3_8 : Int32) (p4_8 : Int32) (o_8 : Ob) (H : Heap) (locs : List Loc) (ls : Array Slot), w_X10_shuffleChange_L8 x1 x2 K56_8 Post n p3_8 p4_8 o_8 → Wh D A s.heap ((List.flatten [bX10 a E o_8])) H locs → lv_has ls 6 [(0, .ref (a 0)), (1, .int (x1)), (2, .int (x2)), (3, .int (p3_8)), (4, .int (p4_8))] → W p l e ({ frames := 1, cells := 0, slots := 0, locals := 23 } : Room) s m args below meth c H locs 0 0 Q (F0 m 8 ls []) := by
    intro K56_8 hK56_8 n
    induction n with
    | zero => intro p3_8 p4_8 o_8 H locs ls h hh hl; exact False.elim h
    | succ n ih =>
      intro p3_8 p4_8 o_8 H locs ls h hh hl
      refine lv_iload hx hb dX10_shuffleChange_8 (lv_at hl 4 rfl) ?_
      refine lv_iconst (v := 1) hx hb dX10_shuffleChange_10 (by decide) ?_
      refine lv_iadd hx hb dX10_shuffleChange_11 ?_
      refine lv_iload_n hx hb dX10_shuffleChange_12 rfl (lv_at hl 2 rfl) ?_
      refine lv_icmp_ge (tgt := 122) hx hb dX10_shuffleChange_13 (by decide) (fun c1 => ?_) (fun c1 => ?_)
      · have h := h.1 c1
        refine lv_iconst (v := 0) hx hb dX10_shuffleChange_122 (by decide) ?_
        exact hret _ _ _ _ _ o_8 dX10_shuffleChange_123 rfl h hh
      · have h := h.2 c1
        refine lv_sipush (v := 1000) hx hb dX10_shuffleChange_16 (by decide) ?_
        refine lv_aload_n hx hb dX10_shuffleChange_19 rfl (lv_at hl 0 rfl) ?_
        refine G_X10_283 [] [] hx hb hT hown hK hh (v := o_8.2.1 41) rfl dX10_shuffleChange_20 ?_
        refine lv_imul hx hb dX10_shuffleChange_23 ?_
        refine lv_iload_n hx hb dX10_shuffleChange_24 rfl (lv_at hl 1 rfl) ?_
        refine lv_iadd hx hb dX10_shuffleChange_25 ?_
        refine lv_iconst (v := 1) hx hb dX10_shuffleChange_26 (by decide) ?_
        refine lv_iadd hx hb dX10_shuffleChange_27 ?_
        refine lv_iload hx hb dX10_shuffleChange_28 (lv_at hl 4 rfl) ?_
        refine lv_iadd hx hb dX10_shuffleChange_30 ?_
        refine lv_istore (lv' := [(5, .int ((((1000 * (o_8.2.1 41)) + x1) + 1) + p4_8)), (0, .ref (a 0)), (1, .int (x1)), (2, .int (x2)), (3, .int (p3_8)), (4, .int (p4_8))]) hx hb dX10_shuffleChange_31 hl (by decide) rfl (fun ls hl => ?_)
        refine lv_aload_n hx hb dX10_shuffleChange_33 rfl (lv_at hl 1 rfl) ?_
        refine G_X10_38 [] [] hx hb hT hown hK hh dX10_shuffleChange_34 ?_
        refine lv_iload hx hb dX10_shuffleChange_37 (lv_at hl 0 rfl) ?_
        obtain ⟨g2, h⟩ := h
        refine A_X10_10 [] [] hx hb hK hh (v := (o_8.2.2 10) ((((1000 * (o_8.2.1 41)) + x1) + 1) + p4_8).toNatClampNeg) g2 rfl dX10_shuffleChange_39 ?_
        refine lv_aload_n hx hb dX10_shuffleChange_40 rfl (lv_at hl 1 rfl) ?_
        refine G_X10_38 [] [] hx hb hT hown hK hh dX10_shuffleChange_41 ?_
        refine lv_iload hx hb dX10_shuffleChange_44 (lv_at hl 0 rfl) ?_
        refine lv_iconst (v := 1) hx hb dX10_shuffleChange_46 (by decide) ?_
        refine lv_iadd hx hb dX10_shuffleChange_47 ?_
        obtain ⟨g3, h⟩ := h
        refine A_X10_10 [] [] hx hb hK hh (v := (o_8.2.2 10) (((((1000 * (o_8.2.1 41)) + x1) + 1) + p4_8) + 1).toNatClampNeg) g3 rfl dX10_shuffleChange_48 ?_
        refine jn_elim h (fun J116 hJ116 h => ?_)
        have kJ116 : ∀ (y3_116 : Int32) (o_116 : Ob) (H : Heap) (locs : List Loc) (ls : Array Slot), J116 y3_116 o_116 → Wh D A s.heap ((List.flatten [bX10 a E o_116])) H locs → lv_has ls 6 [(0, .ref (a 0)), (1, .int (x1)), (2, .int (x2)), (3, .int (y3_116)), (4, .int (p4_8))] → W p l e ({ frames := 1, cells := 0, slots := 0, locals := 23 } : Room) s m args below meth c H locs 0 0 Q (F0 m 116 ls []) := by
          intro y3_116 o_116 H locs ls h hh hl
          rw [hJ116] at h
          refine lv_iinc (v := p4_8 + 1) (lv' := [(4, .int (p4_8 + 1)), (0, .ref (a 0)), (1, .int (x1)), (2, .int (x2)), (3, .int (y3_116))]) hx hb dX10_shuffleChange_116 hl (k := 4) rfl (by rfl) (by decide) rfl (fun ls hl => ?_)
          refine lv_goto (tgt := 8) hx hb dX10_shuffleChange_119 (by decide) ?_
          exact ih y3_116 (p4_8 + 1) o_116 _ _ _ h hh (lv_sub hl [1, 2, 3, 4, 0] rfl)
        refine lv_icmp_le (tgt := 116) hx hb dX10_shuffleChange_49 (by decide) (fun c4 => ?_) (fun c4 => ?_)
        · have h := h.1 c4
          exact kJ116 p3_8 o_8 _ _ _ h hh (lv_sub hl [1, 2, 3, 4, 5] rfl)
        · have h := h.2 c4
          refine lv_iload_n hx hb dX10_shuffleChange_52 rfl (lv_at hl 4 rfl) ?_
          refine lv_if_ne (tgt := 113) hx hb dX10_shuffleChange_53 (by decide) (fun c5 => ?_) (fun c5 => ?_)
          · have h := h.1 c5
            refine lv_iinc (v := p3_8 + (-1)) (lv' := [(3, .int (p3_8 + (-1))), (5, .int ((((1000 * (o_8.2.1 41)) + x1) + 1) + p4_8)), (0, .ref (a 0)), (1, .int (x1)), (2, .int (x2)), (4, .int (p4_8))]) hx hb dX10_shuffleChange_113 hl (k := 4) rfl (by rfl) (by decide) rfl (fun ls hl => ?_)
            exact kJ116 (p3_8 + (-1)) o_8 _ _ _ h hh (lv_sub hl [2, 3, 4, 0, 5] rfl)
          · have h := h.2 c5
            exact hK56_8 p4_8 ((((1000 * (o_8.2.1 41)) + x1) + 1) + p4_8) o_8 _ _ _ h hh (lv_sub hl [1, 2, 5, 0] rfl)
  obtain ⟨n, h⟩ := h
  refine hw8 _ (fun k4_56 k5_56 o_k56 H locs ls h hh hl => ?_) n (o.2.1 44) 0 o _ _ _ h hh (lv_sub hl [2, 3, 4, 1, 0] rfl)
  refine lv_aload_n hx hb dX10_shuffleChange_56 rfl (lv_at hl 0 rfl) ?_
  refine lv_aload_n hx hb dX10_shuffleChange_57 rfl (lv_at hl 0 rfl) ?_
  refine G_X10_283 [] [] hx hb hT hown hK hh (v := o_k56.2.1 41) rfl dX10_shuffleChange_58 ?_
  refine lv_iconst (v := 3) hx hb dX10_shuffleChange_61 (by decide) ?_
  refine kV hh.ap0 hA (rnV hx hb hml hown hT hK hh.ap0 (c_X10_copyRow l D E a  o_k56 (o_k56.2.1 41) (3 : Int32) h _) mf_X10_copyRow kml_X10_273 ⟨rfl, rfl, Nat.le_of_ble_eq_true rfl, Nat.le_of_ble_eq_true rfl⟩ ⟨Nat.le_of_ble_eq_true rfl, Nat.le_of_ble_eq_true rfl⟩ 10 0 rfl rfl hl.1 rfl dX10_shuffleChange_62 (Nat.le_of_ble_eq_true rfl) rfl) (fun o_7 H locs h hh => ?_)
  have hh : Wh D A s.heap ((List.flatten [bX10 a E o_7])) _ _ := hh.un0
  refine lv_aload_n hx hb dX10_shuffleChange_65 rfl (lv_at hl 0 rfl) ?_
  refine G_X10_38 [] [] hx hb hT hown hK hh dX10_shuffleChange_66 ?_
  refine lv_sipush (v := 3000) hx hb dX10_shuffleChange_69 (by decide) ?_
  refine lv_iload_n hx hb dX10_shuffleChange_72 rfl (lv_at hl 1 rfl) ?_
  refine lv_iadd hx hb dX10_shuffleChange_73 ?_
  refine lv_iconst (v := 1) hx hb dX10_shuffleChange_74 (by decide) ?_
  refine lv_iadd hx hb dX10_shuffleChange_75 ?_
  refine lv_iload hx hb dX10_shuffleChange_76 (lv_at hl 2 rfl) ?_
  refine lv_iadd hx hb dX10_shuffleChange_78 ?_
  refine lv_aload_n hx hb dX10_shuffleChange_79 rfl (lv_at hl 0 rfl) ?_
  refine G_X10_38 [] [] hx hb hT hown hK hh dX10_shuffleChange_80 ?_
  refine lv_iload hx hb dX10_shuffleChange_83 (lv_at hl 3 rfl) ?_
  refine lv_iconst (v := 1) hx hb dX10_shuffleChange_85 (by decide) ?_
  refine lv_iadd hx hb dX10_shuffleChange_86 ?_
  obtain ⟨g8, h⟩ := h
  refine A_X10_10 [] [] hx hb hK hh (v := (o_7.2.2 10) (k5_56 + 1).toNatClampNeg) g8 rfl dX10_shuffleChange_87 ?_
  obtain ⟨g9, h⟩ := h
  refine S_X10_10 [] [] hx hb hK hh g9 dX10_shuffleChange_88 (fun H locs (hh : Wh D A s.heap ((List.flatten [bX10 a E ((o_7.1, o_7.2.1, (sa o_7.2.2 10 (upd (o_7.2.2 10) (((3000 + x1) + 1) + k4_56).toNatClampNeg ((o_7.2.2 10) (k5_56 + 1).toNatClampNeg)))))])) H locs) => ?_)
  refine lv_aload_n hx hb dX10_shuffleChange_89 rfl (lv_at hl 0 rfl) ?_
  refine G_X10_38 [] [] hx hb hT hown hK hh dX10_shuffleChange_90 ?_
  refine lv_sipush (v := 3000) hx hb dX10_shuffleChange_93 (by decide) ?_
  refine lv_iload_n hx hb dX10_shuffleChange_96 rfl (lv_at hl 1 rfl) ?_
  refine lv_iadd hx hb dX10_shuffleChange_97 ?_
  refine lv_iconst (v := 2) hx hb dX10_shuffleChange_98 (by decide) ?_
  refine lv_iadd hx hb dX10_shuffleChange_99 ?_
  refine lv_iload hx hb dX10_shuffleChange_100 (lv_at hl 2 rfl) ?_
  refine lv_iadd hx hb dX10_shuffleChange_102 ?_
  refine lv_aload_n hx hb dX10_shuffleChange_103 rfl (lv_at hl 0 rfl) ?_
  refine G_X10_38 [] [] hx hb hT hown hK hh dX10_shuffleChange_104 ?_
  refine lv_iload hx hb dX10_shuffleChange_107 (lv_at hl 3 rfl) ?_
  obtain ⟨g10, h⟩ := h
  refine A_X10_10 [] [] hx hb hK hh (v := (upd (o_7.2.2 10) (((3000 + x1) + 1) + k4_56).toNatClampNeg ((o_7.2.2 10) (k5_56 + 1).toNatClampNeg)) k5_56.toNatClampNeg) g10 rfl dX10_shuffleChange_109 ?_
  obtain ⟨g11, h⟩ := h
  refine S_X10_10 [] [] hx hb hK hh g11 dX10_shuffleChange_110 (fun H locs (hh : Wh D A s.heap ((List.flatten [bX10 a E ((o_7.1, o_7.2.1, (sa (sa o_7.2.2 10 (upd (o_7.2.2 10) (((3000 + x1) + 1) + k4_56).toNatClampNeg ((o_7.2.2 10) (k5_56 + 1).toNatClampNeg))) 10 (upd (upd (o_7.2.2 10) (((3000 + x1) + 1) + k4_56).toNatClampNeg ((o_7.2.2 10) (k5_56 + 1).toNatClampNeg)) (((3000 + x1) + 2) + k4_56).toNatClampNeg ((upd (o_7.2.2 10) (((3000 + x1) + 1) + k4_56).toNatClampNeg ((o_7.2.2 10) (k5_56 + 1).toNatClampNeg)) k5_56.toNatClampNeg)))))])) H locs) => ?_)
  refine lv_iconst (v := 1) hx hb dX10_shuffleChange_111 (by decide) ?_
  exact hret _ _ _ _ _ (o_7.1, o_7.2.1, (sa (sa o_7.2.2 10 (upd (o_7.2.2 10) (((3000 + x1) + 1) + k4_56).toNatClampNeg ((o_7.2.2 10) (k5_56 + 1).toNatClampNeg))) 10 (upd (upd (o_7.2.2 10) (((3000 + x1) + 1) + k4_56).toNatClampNeg ((o_7.2.2 10) (k5_56 + 1).toNatClampNeg)) (((3000 + x1) + 2) + k4_56).toNatClampNeg ((upd (o_7.2.2 10) (((3000 + x1) + 1) + k4_56).toNatClampNeg ((o_7.2.2 10) (k5_56 + 1).toNatClampNeg)) k5_56.toNatClampNeg)))) dX10_shuffleChange_112 rfl h hh

def w_X10_changes  (o : Ob) (Post : Int32 → Ob → Prop) : Prop := vp_in ((1000 * (o.2.1 41)) + (o.2.1 42)) 5000 ∧ (((0 ≤ ((o.2.2 9) ((1000 * (o.2.1 41)) + (o.2.1 42)).toNatClampNeg)) → vp_in ((1000 * (o.2.1 41)) + (o.2.1 42)) 5000 ∧ ((((o.2.1 43) = 0) → vp_in ((o.2.2 9) ((1000 * (o.2.1 41)) + (o.2.1 42)).toNatClampNeg) 30 ∧ (((((o.2.2 1) ((o.2.2 9) ((1000 * (o.2.1 41)) + (o.2.1 42)).toNatClampNeg).toNatClampNeg) = 0) → vp_in ((o.2.2 9) ((1000 * (o.2.1 41)) + (o.2.1 42)).toNatClampNeg) 30 ∧ (vp_in ((o.2.2 9) ((1000 * (o.2.1 41)) + (o.2.1 42)).toNatClampNeg) 30 ∧ (w_X10_smallerNumber  ((o.2.2 10) ((1000 * (o.2.1 41)) + (o.2.1 42)).toNatClampNeg) ((o.2.2 4) ((o.2.2 9) ((1000 * (o.2.1 41)) + (o.2.1 42)).toNatClampNeg).toNatClampNeg) ((o.2.2 5) ((o.2.2 9) ((1000 * (o.2.1 41)) + (o.2.1 42)).toNatClampNeg).toNatClampNeg) (o.2.1 44)  (fun (r8 : Int32) => jn (fun J162 : Ob → Prop => ((r8 = ((o.2.2 10) ((1000 * (o.2.1 41)) + (o.2.1 42)).toNatClampNeg)) → J162 o) ∧ (¬ (r8 = ((o.2.2 10) ((1000 * (o.2.1 41)) + (o.2.1 42)).toNatClampNeg)) → w_X10_tryWith  (o.2.1 42) r8 o (fun (o_11 : Ob) => J162 o_11))) (fun (o_162 : Ob) => ((r8 = ((o.2.2 10) ((1000 * (o.2.1 41)) + (o.2.1 42)).toNatClampNeg)) → Post 0 o_162) ∧ (¬ (r8 = ((o.2.2 10) ((1000 * (o.2.1 41)) + (o.2.1 42)).toNatClampNeg)) → Post 1 o_162)))))) ∧ ((((o.2.2 1) ((o.2.2 9) ((1000 * (o.2.1 41)) + (o.2.1 42)).toNatClampNeg).toNatClampNeg) = 1) → w_X10_listChange  (o.2.1 42) ((o.2.2 10) ((1000 * (o.2.1 41)) + (o.2.1 42)).toNatClampNeg) o (fun (r14 : Int32) (o_15 : Ob) => (r14 = 0 ∨ r14 = 1) ∧ (Post r14 o_15))) ∧ ((((o.2.2 1) ((o.2.2 9) ((1000 * (o.2.1 41)) + (o.2.1 42)).toNatClampNeg).toNatClampNeg) = 6) → w_X10_shuffleChange  (o.2.1 42) ((o.2.2 10) ((1000 * (o.2.1 41)) + (o.2.1 42)).toNatClampNeg) o (fun (r18 : Int32) (o_19 : Ob) => (r18 = 0 ∨ r18 = 1) ∧ (Post r18 o_19))) ∧ ((¬ ((o.2.2 1) ((o.2.2 9) ((1000 * (o.2.1 41)) + (o.2.1 42)).toNatClampNeg).toNatClampNeg) = 0 ∧ ¬ ((o.2.2 1) ((o.2.2 9) ((1000 * (o.2.1 41)) + (o.2.1 42)).toNatClampNeg).toNatClampNeg) = 1 ∧ ¬ ((o.2.2 1) ((o.2.2 9) ((1000 * (o.2.1 41)) + (o.2.1 42)).toNatClampNeg).toNatClampNeg) = 6) → Post 0 o))) ∧ (¬ ((o.2.1 43) = 0) → w_X10_smallerNumber  ((o.2.2 10) ((1000 * (o.2.1 41)) + (o.2.1 42)).toNatClampNeg) (0 : Int32) ((o.2.2 10) ((1000 * (o.2.1 41)) + (o.2.1 42)).toNatClampNeg) (o.2.1 44)  (fun (r22 : Int32) => vp_in ((o.2.2 9) ((1000 * (o.2.1 41)) + (o.2.1 42)).toNatClampNeg) 30 ∧ (((¬ ((o.2.2 1) ((o.2.2 9) ((1000 * (o.2.1 41)) + (o.2.1 42)).toNatClampNeg).toNatClampNeg) = 7) → Post 0 o) ∧ ((((o.2.2 1) ((o.2.2 9) ((1000 * (o.2.1 41)) + (o.2.1 42)).toNatClampNeg).toNatClampNeg) = 7) → ((¬ r22 = ((o.2.2 10) ((1000 * (o.2.1 41)) + (o.2.1 42)).toNatClampNeg)) → w_X10_tryWith  (o.2.1 42) r22 o (fun (o_27 : Ob) => Post 1 o_27)) ∧ ((r22 = ((o.2.2 10) ((1000 * (o.2.1 41)) + (o.2.1 42)).toNatClampNeg)) → Post 0 o))))))) ∧ (¬ (0 ≤ ((o.2.2 9) ((1000 * (o.2.1 41)) + (o.2.1 42)).toNatClampNeg)) → Post 0 o))
set_option maxRecDepth 100000 in
set_option maxHeartbeats 4000000 in
theorem c_X10_changes (l : Launch) (D : va_G) (E : Nat → ClassId) (a : Nat → Nat)  (o : Ob)  {Post : Int32 → Ob → Prop} (h : w_X10_changes  o Post) : CtI l yX10_changes cX10_changes 5 .boolean ({ frames := 4, cells := 0, slots := 0, locals := 97 } : Room) D E [.ref (a 0)] (List.flatten [bX10 a E o]) (fun u : Ob => List.flatten [bX10 a E u]) Post 0 0 := by
  refine enI (by decide +kernel) (Nat.le_of_ble_eq_true rfl) ?_
  intro p e s m args below meth c Q A ls hx hb hml hown hT hK hA hret hh hl
  have hl : lv_has ls 5 [(0, .ref (a 0))] := hl
  unfold w_X10_changes at h
  refine lv_sipush (v := 1000) hx hb dX10_changes_0 (by decide) ?_
  refine lv_aload_n hx hb dX10_changes_3 rfl (lv_at hl 0 rfl) ?_
  refine G_X10_283 [] [] hx hb hT hown hK hh (v := o.2.1 41) rfl dX10_changes_4 ?_
  refine lv_imul hx hb dX10_changes_7 ?_
  refine lv_aload_n hx hb dX10_changes_8 rfl (lv_at hl 0 rfl) ?_
  refine G_X10_286 [] [] hx hb hT hown hK hh (v := o.2.1 42) rfl dX10_changes_9 ?_
  refine lv_iadd hx hb dX10_changes_12 ?_
  refine lv_istore_n (lv' := [(1, .int ((1000 * (o.2.1 41)) + (o.2.1 42))), (0, .ref (a 0))]) hx hb dX10_changes_13 rfl hl (by decide) rfl (fun ls hl => ?_)
  refine lv_aload_n hx hb dX10_changes_14 rfl (lv_at hl 1 rfl) ?_
  refine G_X10_35 [] [] hx hb hT hown hK hh dX10_changes_15 ?_
  refine lv_iload_n hx hb dX10_changes_18 rfl (lv_at hl 0 rfl) ?_
  obtain ⟨g1, h⟩ := h
  refine A_X10_9 [] [] hx hb hK hh (v := (o.2.2 9) ((1000 * (o.2.1 41)) + (o.2.1 42)).toNatClampNeg) g1 rfl dX10_changes_19 ?_
  refine lv_istore_n (lv' := [(2, .int ((o.2.2 9) ((1000 * (o.2.1 41)) + (o.2.1 42)).toNatClampNeg)), (1, .int ((1000 * (o.2.1 41)) + (o.2.1 42))), (0, .ref (a 0))]) hx hb dX10_changes_20 rfl hl (by decide) rfl (fun ls hl => ?_)
  refine lv_iload_n hx hb dX10_changes_21 rfl (lv_at hl 0 rfl) ?_
  refine lv_if_ge (tgt := 27) hx hb dX10_changes_22 (by decide) (fun c2 => ?_) (fun c2 => ?_)
  · have h := h.1 c2
    refine lv_aload_n hx hb dX10_changes_27 rfl (lv_at hl 2 rfl) ?_
    refine G_X10_38 [] [] hx hb hT hown hK hh dX10_changes_28 ?_
    refine lv_iload_n hx hb dX10_changes_31 rfl (lv_at hl 1 rfl) ?_
    obtain ⟨g3, h⟩ := h
    refine A_X10_10 [] [] hx hb hK hh (v := (o.2.2 10) ((1000 * (o.2.1 41)) + (o.2.1 42)).toNatClampNeg) g3 rfl dX10_changes_32 ?_
    refine lv_istore_n (lv' := [(3, .int ((o.2.2 10) ((1000 * (o.2.1 41)) + (o.2.1 42)).toNatClampNeg)), (2, .int ((o.2.2 9) ((1000 * (o.2.1 41)) + (o.2.1 42)).toNatClampNeg)), (1, .int ((1000 * (o.2.1 41)) + (o.2.1 42))), (0, .ref (a 0))]) hx hb dX10_changes_33 rfl hl (by decide) rfl (fun ls hl => ?_)
    refine lv_aload_n hx hb dX10_changes_34 rfl (lv_at hl 3 rfl) ?_
    refine G_X10_289 [] [] hx hb hT hown hK hh (v := o.2.1 43) rfl dX10_changes_35 ?_
    refine lv_if_eq (tgt := 84) hx hb dX10_changes_38 (by decide) (fun c4 => ?_) (fun c4 => ?_)
    · have h := h.1 c4
      refine lv_aload_n hx hb dX10_changes_84 rfl (lv_at hl 3 rfl) ?_
      refine G_X10_7 [] [] hx hb hT hown hK hh dX10_changes_85 ?_
      refine lv_iload_n hx hb dX10_changes_88 rfl (lv_at hl 1 rfl) ?_
      obtain ⟨g5, h⟩ := h
      refine A_X10_1 [] [] hx hb hK hh (v := (o.2.2 1) ((o.2.2 9) ((1000 * (o.2.1 41)) + (o.2.1 42)).toNatClampNeg).toNatClampNeg) g5 rfl dX10_changes_89 ?_
      by_cases c13 : ((o.2.2 1) ((o.2.2 9) ((1000 * (o.2.1 41)) + (o.2.1 42)).toNatClampNeg).toNatClampNeg) = 0
      · have h := h.1 c13
        refine lv_lookup (off := 34) (tgt := 124) hx hb dX10_changes_90 (by decide) (by rw [c13]; decide) (by decide) ?_
        refine lv_iload_n hx hb dX10_changes_124 rfl (lv_at hl 0 rfl) ?_
        refine lv_aload_n hx hb dX10_changes_125 rfl (lv_at hl 3 rfl) ?_
        refine G_X10_19 [] [] hx hb hT hown hK hh dX10_changes_126 ?_
        refine lv_iload_n hx hb dX10_changes_129 rfl (lv_at hl 1 rfl) ?_
        obtain ⟨g6, h⟩ := h
        refine A_X10_4 [] [] hx hb hK hh (v := (o.2.2 4) ((o.2.2 9) ((1000 * (o.2.1 41)) + (o.2.1 42)).toNatClampNeg).toNatClampNeg) g6 rfl dX10_changes_130 ?_
        refine lv_aload_n hx hb dX10_changes_131 rfl (lv_at hl 3 rfl) ?_
        refine G_X10_22 [] [] hx hb hT hown hK hh dX10_changes_132 ?_
        refine lv_iload_n hx hb dX10_changes_135 rfl (lv_at hl 1 rfl) ?_
        obtain ⟨g7, h⟩ := h
        refine A_X10_5 [] [] hx hb hK hh (v := (o.2.2 5) ((o.2.2 9) ((1000 * (o.2.1 41)) + (o.2.1 42)).toNatClampNeg).toNatClampNeg) g7 rfl dX10_changes_136 ?_
        refine lv_aload_n hx hb dX10_changes_137 rfl (lv_at hl 3 rfl) ?_
        refine G_X10_292 [] [] hx hb hT hown hK hh (v := o.2.1 44) rfl dX10_changes_138 ?_
        refine kI hh.none hA (rnS hx hb hml hown hT hK hh.none (c_X10_smallerNumber l D E    ((o.2.2 10) ((1000 * (o.2.1 41)) + (o.2.1 42)).toNatClampNeg) ((o.2.2 4) ((o.2.2 9) ((1000 * (o.2.1 41)) + (o.2.1 42)).toNatClampNeg).toNatClampNeg) ((o.2.2 5) ((o.2.2 9) ((1000 * (o.2.1 41)) + (o.2.1 42)).toNatClampNeg).toNatClampNeg) (o.2.1 44) h _) mf_X10_smallerNumber kml_X10_304 ⟨rfl, rfl, Nat.le_of_ble_eq_true rfl, Nat.le_of_ble_eq_true rfl⟩ ⟨Nat.le_of_ble_eq_true rfl, Nat.le_of_ble_eq_true rfl⟩ hl.1 rfl dX10_changes_141 (Nat.le_of_ble_eq_true rfl) rfl) (fun r8 u H locs h hh => ?_)
        have hh : Wh D A s.heap ((List.flatten [bX10 a E o])) _ _ := hh.unone
        refine lv_istore (lv' := [(4, .int (r8)), (3, .int ((o.2.2 10) ((1000 * (o.2.1 41)) + (o.2.1 42)).toNatClampNeg)), (2, .int ((o.2.2 9) ((1000 * (o.2.1 41)) + (o.2.1 42)).toNatClampNeg)), (1, .int ((1000 * (o.2.1 41)) + (o.2.1 42))), (0, .ref (a 0))]) hx hb dX10_changes_144 hl (by decide) rfl (fun ls hl => ?_)
        refine lv_iload hx hb dX10_changes_146 (lv_at hl 0 rfl) ?_
        refine lv_iload_n hx hb dX10_changes_148 rfl (lv_at hl 1 rfl) ?_
        refine jn_elim h (fun J162 hJ162 h => ?_)
        have kJ162 : ∀ (o_162 : Ob) (H : Heap) (locs : List Loc) (ls : Array Slot), J162 o_162 → Wh D A s.heap ((List.flatten [bX10 a E o_162])) H locs → lv_has ls 5 [(3, .int ((o.2.2 10) ((1000 * (o.2.1 41)) + (o.2.1 42)).toNatClampNeg)), (4, .int (r8))] → W p l e ({ frames := 4, cells := 0, slots := 0, locals := 97 } : Room) s m args below meth c H locs 0 0 Q (F0 m 162 ls []) := by
          intro o_162 H locs ls h hh hl
          rw [hJ162] at h
          refine lv_iload hx hb dX10_changes_162 (lv_at hl 1 rfl) ?_
          refine lv_iload_n hx hb dX10_changes_164 rfl (lv_at hl 0 rfl) ?_
          refine lv_icmp_eq (tgt := 172) hx hb dX10_changes_165 (by decide) (fun c12 => ?_) (fun c12 => ?_)
          · have h := h.1 c12
            refine lv_iconst (v := 0) hx hb dX10_changes_172 (by decide) ?_
            exact hret _ _ _ _ _ o_162 dX10_changes_173 rfl h hh
          · have h := h.2 c12
            refine lv_iconst (v := 1) hx hb dX10_changes_168 (by decide) ?_
            refine lv_goto (tgt := 173) hx hb dX10_changes_169 (by decide) ?_
            exact hret _ _ _ _ _ o_162 dX10_changes_173 rfl h hh
        refine lv_icmp_eq (tgt := 162) hx hb dX10_changes_149 (by decide) (fun c9 => ?_) (fun c9 => ?_)
        · have h := h.1 c9
          exact kJ162 o _ _ _ h hh (lv_sub hl [1, 0] rfl)
        · have h := h.2 c9
          refine lv_aload_n hx hb dX10_changes_152 rfl (lv_at hl 4 rfl) ?_
          refine lv_aload_n hx hb dX10_changes_153 rfl (lv_at hl 4 rfl) ?_
          refine G_X10_286 [] [] hx hb hT hown hK hh (v := o.2.1 42) rfl dX10_changes_154 ?_
          refine lv_iload hx hb dX10_changes_157 (lv_at hl 0 rfl) ?_
          refine kV hh.ap0 hA (rnV hx hb hml hown hT hK hh.ap0 (c_X10_tryWith l D E a  o (o.2.1 42) r8 h _) mf_X10_tryWith kml_X10_308 ⟨rfl, rfl, Nat.le_of_ble_eq_true rfl, Nat.le_of_ble_eq_true rfl⟩ ⟨Nat.le_of_ble_eq_true rfl, Nat.le_of_ble_eq_true rfl⟩ 10 0 rfl rfl hl.1 rfl dX10_changes_159 (Nat.le_of_ble_eq_true rfl) rfl) (fun o_11 H locs h hh => ?_)
          have hh : Wh D A s.heap ((List.flatten [bX10 a E o_11])) _ _ := hh.un0
          exact kJ162 o_11 _ _ _ h hh (lv_sub hl [1, 0] rfl)
      · by_cases c17 : ((o.2.2 1) ((o.2.2 9) ((1000 * (o.2.1 41)) + (o.2.1 42)).toNatClampNeg).toNatClampNeg) = 1
        · have h := h.2.1 c17
          refine lv_lookup (off := 84) (tgt := 174) hx hb dX10_changes_90 (by decide) (by rw [c17]; decide) (by decide) ?_
          refine lv_aload_n hx hb dX10_changes_174 rfl (lv_at hl 3 rfl) ?_
          refine lv_aload_n hx hb dX10_changes_175 rfl (lv_at hl 3 rfl) ?_
          refine G_X10_286 [] [] hx hb hT hown hK hh (v := o.2.1 42) rfl dX10_changes_176 ?_
          refine lv_iload_n hx hb dX10_changes_179 rfl (lv_at hl 0 rfl) ?_
          refine kI hh.ap0 hA (rnV hx hb hml hown hT hK hh.ap0 (c_X10_listChange l D E a  o (o.2.1 42) ((o.2.2 10) ((1000 * (o.2.1 41)) + (o.2.1 42)).toNatClampNeg) h _) mf_X10_listChange kml_X10_311 ⟨rfl, rfl, Nat.le_of_ble_eq_true rfl, Nat.le_of_ble_eq_true rfl⟩ ⟨Nat.le_of_ble_eq_true rfl, Nat.le_of_ble_eq_true rfl⟩ 10 0 rfl rfl hl.1 rfl dX10_changes_180 (Nat.le_of_ble_eq_true rfl) rfl) (fun r14 o_15 H locs h hh => ?_)
          have hh : Wh D A s.heap ((List.flatten [bX10 a E o_15])) _ _ := hh.un0
          obtain ⟨g16, h⟩ := h
          exact hret _ _ _ _ _ o_15 dX10_changes_183 (bool_nar g16) h hh
        · by_cases c21 : ((o.2.2 1) ((o.2.2 9) ((1000 * (o.2.1 41)) + (o.2.1 42)).toNatClampNeg).toNatClampNeg) = 6
          · have h := h.2.2.1 c21
            refine lv_lookup (off := 94) (tgt := 184) hx hb dX10_changes_90 (by decide) (by rw [c21]; decide) (by decide) ?_
            refine lv_aload_n hx hb dX10_changes_184 rfl (lv_at hl 3 rfl) ?_
            refine lv_aload_n hx hb dX10_changes_185 rfl (lv_at hl 3 rfl) ?_
            refine G_X10_286 [] [] hx hb hT hown hK hh (v := o.2.1 42) rfl dX10_changes_186 ?_
            refine lv_iload_n hx hb dX10_changes_189 rfl (lv_at hl 0 rfl) ?_
            refine kI hh.ap0 hA (rnV hx hb hml hown hT hK hh.ap0 (c_X10_shuffleChange l D E a  o (o.2.1 42) ((o.2.2 10) ((1000 * (o.2.1 41)) + (o.2.1 42)).toNatClampNeg) h _) mf_X10_shuffleChange kml_X10_315 ⟨rfl, rfl, Nat.le_of_ble_eq_true rfl, Nat.le_of_ble_eq_true rfl⟩ ⟨Nat.le_of_ble_eq_true rfl, Nat.le_of_ble_eq_true rfl⟩ 10 0 rfl rfl hl.1 rfl dX10_changes_190 (Nat.le_of_ble_eq_true rfl) rfl) (fun r18 o_19 H locs h hh => ?_)
            have hh : Wh D A s.heap ((List.flatten [bX10 a E o_19])) _ _ := hh.un0
            obtain ⟨g20, h⟩ := h
            exact hret _ _ _ _ _ o_19 dX10_changes_193 (bool_nar g20) h hh
          · have h := h.2.2.2 ⟨c13, c17, c21⟩
            refine q_lkD (tgt := 194) hx hb dX10_changes_90 (by decide) ⟨q_ne c13 (by decide), q_ne c17 (by decide), q_ne c21 (by decide), trivial⟩ (by decide) ?_
            refine lv_iconst (v := 0) hx hb dX10_changes_194 (by decide) ?_
            exact hret _ _ _ _ _ o dX10_changes_195 rfl h hh
    · have h := h.2 c4
      refine lv_iload_n hx hb dX10_changes_41 rfl (lv_at hl 0 rfl) ?_
      refine lv_iconst (v := 0) hx hb dX10_changes_42 (by decide) ?_
      refine lv_iload_n hx hb dX10_changes_43 rfl (lv_at hl 0 rfl) ?_
      refine lv_aload_n hx hb dX10_changes_44 rfl (lv_at hl 3 rfl) ?_
      refine G_X10_292 [] [] hx hb hT hown hK hh (v := o.2.1 44) rfl dX10_changes_45 ?_
      refine kI hh.none hA (rnS hx hb hml hown hT hK hh.none (c_X10_smallerNumber l D E    ((o.2.2 10) ((1000 * (o.2.1 41)) + (o.2.1 42)).toNatClampNeg) (0 : Int32) ((o.2.2 10) ((1000 * (o.2.1 41)) + (o.2.1 42)).toNatClampNeg) (o.2.1 44) h _) mf_X10_smallerNumber kml_X10_304 ⟨rfl, rfl, Nat.le_of_ble_eq_true rfl, Nat.le_of_ble_eq_true rfl⟩ ⟨Nat.le_of_ble_eq_true rfl, Nat.le_of_ble_eq_true rfl⟩ hl.1 rfl dX10_changes_48 (Nat.le_of_ble_eq_true rfl) rfl) (fun r22 u H locs h hh => ?_)
      have hh : Wh D A s.heap ((List.flatten [bX10 a E o])) _ _ := hh.unone
      refine lv_istore (lv' := [(4, .int (r22)), (3, .int ((o.2.2 10) ((1000 * (o.2.1 41)) + (o.2.1 42)).toNatClampNeg)), (2, .int ((o.2.2 9) ((1000 * (o.2.1 41)) + (o.2.1 42)).toNatClampNeg)), (1, .int ((1000 * (o.2.1 41)) + (o.2.1 42))), (0, .ref (a 0))]) hx hb dX10_changes_51 hl (by decide) rfl (fun ls hl => ?_)
      refine lv_aload_n hx hb dX10_changes_53 rfl (lv_at hl 4 rfl) ?_
      refine G_X10_7 [] [] hx hb hT hown hK hh dX10_changes_54 ?_
      refine lv_iload_n hx hb dX10_changes_57 rfl (lv_at hl 2 rfl) ?_
      obtain ⟨g23, h⟩ := h
      refine A_X10_1 [] [] hx hb hK hh (v := (o.2.2 1) ((o.2.2 9) ((1000 * (o.2.1 41)) + (o.2.1 42)).toNatClampNeg).toNatClampNeg) g23 rfl dX10_changes_58 ?_
      refine lv_bipush (v := 7) hx hb dX10_changes_59 (by decide) ?_
      refine lv_icmp_ne (tgt := 70) hx hb dX10_changes_61 (by decide) (fun c24 => ?_) (fun c24 => ?_)
      · have h := h.1 c24
        refine lv_iconst (v := 0) hx hb dX10_changes_70 (by decide) ?_
        exact hret _ _ _ _ _ o dX10_changes_71 rfl h hh
      · have h := h.2 c24
        refine lv_iload hx hb dX10_changes_64 (lv_at hl 0 rfl) ?_
        refine lv_iload_n hx hb dX10_changes_66 rfl (lv_at hl 1 rfl) ?_
        refine lv_icmp_ne (tgt := 72) hx hb dX10_changes_67 (by decide) (fun c25 => ?_) (fun c25 => ?_)
        · have h := h.1 c25
          refine lv_aload_n hx hb dX10_changes_72 rfl (lv_at hl 4 rfl) ?_
          refine lv_aload_n hx hb dX10_changes_73 rfl (lv_at hl 4 rfl) ?_
          refine G_X10_286 [] [] hx hb hT hown hK hh (v := o.2.1 42) rfl dX10_changes_74 ?_
          refine lv_iload hx hb dX10_changes_77 (lv_at hl 0 rfl) ?_
          refine kV hh.ap0 hA (rnV hx hb hml hown hT hK hh.ap0 (c_X10_tryWith l D E a  o (o.2.1 42) r22 h _) mf_X10_tryWith kml_X10_308 ⟨rfl, rfl, Nat.le_of_ble_eq_true rfl, Nat.le_of_ble_eq_true rfl⟩ ⟨Nat.le_of_ble_eq_true rfl, Nat.le_of_ble_eq_true rfl⟩ 10 0 rfl rfl hl.1 rfl dX10_changes_79 (Nat.le_of_ble_eq_true rfl) rfl) (fun o_27 H locs h hh => ?_)
          have hh : Wh D A s.heap ((List.flatten [bX10 a E o_27])) _ _ := hh.un0
          refine lv_iconst (v := 1) hx hb dX10_changes_82 (by decide) ?_
          exact hret _ _ _ _ _ o_27 dX10_changes_83 rfl h hh
        · have h := h.2 c25
          refine lv_iconst (v := 0) hx hb dX10_changes_70 (by decide) ?_
          exact hret _ _ _ _ _ o dX10_changes_71 rfl h hh
  · have h := h.2 c2
    refine lv_iconst (v := 0) hx hb dX10_changes_25 (by decide) ?_
    exact hret _ _ _ _ _ o dX10_changes_26 rfl h hh

def w_X10_isBelow (x1 : Int32) (o : Ob) (Post : Int32 → Ob → Prop) : Prop := vp_in ((1000 * (o.2.1 41)) + x1) 5000 ∧ (((((o.2.2 9) ((1000 * (o.2.1 41)) + x1).toNatClampNeg) < 0) → Post 0 o) ∧ (¬ (((o.2.2 9) ((1000 * (o.2.1 41)) + x1).toNatClampNeg) < 0) → vp_in ((o.2.2 9) ((1000 * (o.2.1 41)) + x1).toNatClampNeg) 30 ∧ (((¬ ((o.2.2 1) ((o.2.2 9) ((1000 * (o.2.1 41)) + x1).toNatClampNeg).toNatClampNeg) = 7) → Post 0 o) ∧ ((((o.2.2 1) ((o.2.2 9) ((1000 * (o.2.1 41)) + x1).toNatClampNeg).toNatClampNeg) = 7) → Post 1 o))))
set_option maxRecDepth 100000 in
set_option maxHeartbeats 4000000 in
theorem c_X10_isBelow (l : Launch) (D : va_G) (E : Nat → ClassId) (a : Nat → Nat)  (o : Ob) (x1 : Int32) {Post : Int32 → Ob → Prop} (h : w_X10_isBelow x1 o Post) : CtI l yX10_isBelow cX10_isBelow 3 .boolean ({ frames := 0, cells := 0, slots := 0, locals := 0 } : Room) D E [.ref (a 0), .int (x1)] (List.flatten [bX10 a E o]) (fun u : Ob => List.flatten [bX10 a E u]) Post 0 0 := by
  refine enI (by decide +kernel) (Nat.le_of_ble_eq_true rfl) ?_
  intro p e s m args below meth c Q A ls hx hb hml hown hT hK hA hret hh hl
  have hl : lv_has ls 3 [(0, .ref (a 0)), (1, .int (x1))] := hl
  unfold w_X10_isBelow at h
  refine lv_aload_n hx hb dX10_isBelow_0 rfl (lv_at hl 0 rfl) ?_
  refine G_X10_35 [] [] hx hb hT hown hK hh dX10_isBelow_1 ?_
  refine lv_sipush (v := 1000) hx hb dX10_isBelow_4 (by decide) ?_
  refine lv_aload_n hx hb dX10_isBelow_7 rfl (lv_at hl 0 rfl) ?_
  refine G_X10_283 [] [] hx hb hT hown hK hh (v := o.2.1 41) rfl dX10_isBelow_8 ?_
  refine lv_imul hx hb dX10_isBelow_11 ?_
  refine lv_iload_n hx hb dX10_isBelow_12 rfl (lv_at hl 1 rfl) ?_
  refine lv_iadd hx hb dX10_isBelow_13 ?_
  obtain ⟨g1, h⟩ := h
  refine A_X10_9 [] [] hx hb hK hh (v := (o.2.2 9) ((1000 * (o.2.1 41)) + x1).toNatClampNeg) g1 rfl dX10_isBelow_14 ?_
  refine lv_istore_n (lv' := [(2, .int ((o.2.2 9) ((1000 * (o.2.1 41)) + x1).toNatClampNeg)), (0, .ref (a 0)), (1, .int (x1))]) hx hb dX10_isBelow_15 rfl hl (by decide) rfl (fun ls hl => ?_)
  refine lv_iload_n hx hb dX10_isBelow_16 rfl (lv_at hl 0 rfl) ?_
  refine lv_if_lt (tgt := 35) hx hb dX10_isBelow_17 (by decide) (fun c2 => ?_) (fun c2 => ?_)
  · have h := h.1 c2
    refine lv_iconst (v := 0) hx hb dX10_isBelow_35 (by decide) ?_
    exact hret _ _ _ _ _ o dX10_isBelow_36 rfl h hh
  · have h := h.2 c2
    refine lv_aload_n hx hb dX10_isBelow_20 rfl (lv_at hl 1 rfl) ?_
    refine G_X10_7 [] [] hx hb hT hown hK hh dX10_isBelow_21 ?_
    refine lv_iload_n hx hb dX10_isBelow_24 rfl (lv_at hl 0 rfl) ?_
    obtain ⟨g3, h⟩ := h
    refine A_X10_1 [] [] hx hb hK hh (v := (o.2.2 1) ((o.2.2 9) ((1000 * (o.2.1 41)) + x1).toNatClampNeg).toNatClampNeg) g3 rfl dX10_isBelow_25 ?_
    refine lv_bipush (v := 7) hx hb dX10_isBelow_26 (by decide) ?_
    refine lv_icmp_ne (tgt := 35) hx hb dX10_isBelow_28 (by decide) (fun c4 => ?_) (fun c4 => ?_)
    · have h := h.1 c4
      refine lv_iconst (v := 0) hx hb dX10_isBelow_35 (by decide) ?_
      exact hret _ _ _ _ _ o dX10_isBelow_36 rfl h hh
    · have h := h.2 c4
      refine lv_iconst (v := 1) hx hb dX10_isBelow_31 (by decide) ?_
      refine lv_goto (tgt := 36) hx hb dX10_isBelow_32 (by decide) ?_
      exact hret _ _ _ _ _ o dX10_isBelow_36 rfl h hh

def w_X10_nextSite_L59 (f1_59 : Int32) (K107_59 : Ob → Prop) (Post : Ob → Prop) : Nat → Int32 → Ob → Prop
  | 0, _, _ => False
  | n59 + 1, p3_59, o_59 => ((p3_59 < 0) → K107_59 o_59) ∧ (¬ (p3_59 < 0) → ((¬ (o_59.2.1 43) = 0) → K107_59 o_59) ∧ (((o_59.2.1 43) = 0) → w_X10_isBelow  p3_59 o_59 (fun (r7 : Int32) (o_8 : Ob) => jn (fun J101 : Ob → Prop => ((r7 = 0) → J101 o_8) ∧ (¬ (r7 = 0) → w_X10_endOf  (o_8.2.1 41) p3_59 o_8 (fun (r10 : Int32) (o_11 : Ob) => ((¬ r10 = f1_59) → J101 o_11) ∧ ((r10 = f1_59) → J101 ((o_11.1, (upd (upd o_11.2.1 42 p3_59) 43 ((1 : Int32))), o_11.2.2)))))) (fun (o_101 : Ob) => w_X10_nextSite_L59 f1_59 K107_59 Post n59 (p3_59 + (-1)) o_101))))
def w_X10_nextSite  (o : Ob) (Post : Ob → Prop) : Prop := jn (fun J33 : Int32 → Ob → Prop => (((o.2.1 43) = 0) → J33 ((o.2.1 42) + 1) ((o.1, (upd o.2.1 44 ((0 : Int32))), o.2.2))) ∧ (¬ ((o.2.1 43) = 0) → w_X10_endOf  (o.2.1 41) (o.2.1 42) ((o.1, (upd o.2.1 44 ((0 : Int32))), o.2.2)) (fun (r2 : Int32) (o_3 : Ob) => J33 r2 o_3))) (fun (z_33 : Int32) (o_33 : Ob) => jn (fun J49 : Int32 → Ob → Prop => (((o_33.2.1 43) = 0) → J49 z_33 o_33) ∧ (¬ ((o_33.2.1 43) = 0) → J49 (o_33.2.1 42) o_33)) (fun (z_49 : Int32) (o_49 : Ob) => ∃ n59, w_X10_nextSite_L59 z_33 (fun (o_k107 : Ob) => jn (fun J123 : Int32 → Ob → Prop => (((o_k107.2.1 43) = 0) → J123 z_33 o_k107) ∧ (¬ ((o_k107.2.1 43) = 0) → J123 (o_k107.2.1 42) o_k107)) (fun (z_123 : Int32) (o_123 : Ob) => Post ((o_123.1, (upd o_123.2.1 42 z_123), o_123.2.2)))) Post n59 (z_49 - 1) ((o_49.1, (upd o_49.2.1 43 ((0 : Int32))), o_49.2.2))))
set_option maxRecDepth 100000 in
set_option maxHeartbeats 4000000 in
theorem c_X10_nextSite (l : Launch) (D : va_G) (E : Nat → ClassId) (a : Nat → Nat)  (o : Ob)  {Post : Ob → Prop} (h : w_X10_nextSite  o Post) : CtV l yX10_nextSite cX10_nextSite 4 ({ frames := 2, cells := 0, slots := 0, locals := 46 } : Room) D E [.ref (a 0)] (List.flatten [bX10 a E o]) (fun u : Ob => List.flatten [bX10 a E u]) Post 0 0 := by
  refine enV (by decide +kernel) (Nat.le_of_ble_eq_true rfl) ?_
  intro p e s m args below meth c Q A ls hx hb hml hown hT hK hA hin0 hret hh hl
  have hl : lv_has ls 4 [(0, .ref (a 0))] := hl
  unfold w_X10_nextSite at h
  refine lv_aload_n hx hb dX10_nextSite_0 rfl (lv_at hl 0 rfl) ?_
  refine lv_iconst (v := 0) hx hb dX10_nextSite_1 (by decide) ?_
  refine P_X10_292 [] [] hx hb hT hown hK hh dX10_nextSite_2 (fun H locs (hh : Wh D A s.heap ((List.flatten [bX10 a E ((o.1, (upd o.2.1 44 ((0 : Int32))), o.2.2))])) H locs) => ?_)
  refine lv_aload_n hx hb dX10_nextSite_5 rfl (lv_at hl 0 rfl) ?_
  refine G_X10_289 [] [] hx hb hT hown hK hh (v := o.2.1 43) rfl dX10_nextSite_6 ?_
  refine jn_elim h (fun J33 hJ33 h => ?_)
  have kJ33 : ∀ (z_33 : Int32) (o_33 : Ob) (H : Heap) (locs : List Loc) (ls : Array Slot), J33 z_33 o_33 → Wh D A s.heap ((List.flatten [bX10 a E o_33])) H locs → lv_has ls 4 [(0, .ref (a 0))] → W p l e ({ frames := 2, cells := 0, slots := 0, locals := 46 } : Room) s m args below meth c H locs 0 0 Q (F0 m 33 ls [.int (z_33)]) := by
    intro z_33 o_33 H locs ls h hh hl
    rw [hJ33] at h
    refine lv_istore_n (lv' := [(1, .int (z_33)), (0, .ref (a 0))]) hx hb dX10_nextSite_33 rfl hl (by decide) rfl (fun ls hl => ?_)
    refine lv_aload_n hx hb dX10_nextSite_34 rfl (lv_at hl 1 rfl) ?_
    refine G_X10_289 [] [] hx hb hT hown hK hh (v := o_33.2.1 43) rfl dX10_nextSite_35 ?_
    refine jn_elim h (fun J49 hJ49 h => ?_)
    have kJ49 : ∀ (z_49 : Int32) (o_49 : Ob) (H : Heap) (locs : List Loc) (ls : Array Slot), J49 z_49 o_49 → Wh D A s.heap ((List.flatten [bX10 a E o_49])) H locs → lv_has ls 4 [(0, .ref (a 0)), (1, .int (z_33))] → W p l e ({ frames := 2, cells := 0, slots := 0, locals := 46 } : Room) s m args below meth c H locs 0 0 Q (F0 m 49 ls [.int (z_49)]) := by
      intro z_49 o_49 H locs ls h hh hl
      rw [hJ49] at h
      refine lv_istore_n (lv' := [(2, .int (z_49)), (0, .ref (a 0)), (1, .int (z_33))]) hx hb dX10_nextSite_49 rfl hl (by decide) rfl (fun ls hl => ?_)
      refine lv_aload_n hx hb dX10_nextSite_50 rfl (lv_at hl 1 rfl) ?_
      refine lv_iconst (v := 0) hx hb dX10_nextSite_51 (by decide) ?_
      refine P_X10_289 [] [] hx hb hT hown hK hh (by decide) dX10_nextSite_52 (fun H locs (hh : Wh D A s.heap ((List.flatten [bX10 a E ((o_49.1, (upd o_49.2.1 43 ((0 : Int32))), o_49.2.2))])) H locs) => ?_)
      refine lv_iload_n hx hb dX10_nextSite_55 rfl (lv_at hl 0 rfl) ?_
      refine lv_iconst (v := 1) hx hb dX10_nextSite_56 (by decide) ?_
      refine lv_isub hx hb dX10_nextSite_57 ?_
      refine lv_istore_n (lv' := [(3, .int (z_49 - 1)), (2, .int (z_49)), (0, .ref (a 0)), (1, .int (z_33))]) hx hb dX10_nextSite_58 rfl hl (by decide) rfl (fun ls hl => ?_)
      have hw59 : ∀ (K107_59 : Ob → Prop) (hK107_59 : ∀ (o_k107 : Ob) (H : Heap) (locs : List Loc) (ls : Array Slot), K107_59 o_k107 → Wh D A s.heap ((List.flatten [bX10 a E o_k107])) H locs → lv_has ls 4 [(0, .ref (a 0)), (1, .int (z_33))] → W p l e ({ frames := 2, cells := 0, slots := 0, locals := 46 } : Room) s m args below meth c H locs 0 0 Q (F0 m 107 ls [])) (n : Nat) (p3_59 : Int32) (o_59 : Ob) (H : Heap) (locs : List Loc) (ls : Array Slot), w_X10_nextSite_L59 z_33 K107_59 Post n p3_59 o_59 → Wh D A s.heap ((List.flatten [bX10 a E o_59])) H locs → lv_has ls 4 [(0, .ref (a 0)), (1, .int (z_33)), (3, .int (p3_59))] → W p l e ({ frames := 2, cells := 0, slots := 0, locals := 46 } : Room) s m args below meth c H locs 0 0 Q (F0 m 59 ls []) := by
        intro K107_59 hK107_59 n
        induction n with
        | zero => intro p3_59 o_59 H locs ls h hh hl; exact False.elim h
        | succ n ih =>
          intro p3_59 o_59 H locs ls h hh hl
          refine lv_iload_n hx hb dX10_nextSite_59 rfl (lv_at hl 2 rfl) ?_
          refine lv_if_lt (tgt := 107) hx hb dX10_nextSite_60 (by decide) (fun c5 => ?_) (fun c5 => ?_)
          · have h := h.1 c5
            exact hK107_59 o_59 _ _ _ h hh (lv_sub hl [0, 1] rfl)
          · have h := h.2 c5
            refine lv_aload_n hx hb dX10_nextSite_63 rfl (lv_at hl 0 rfl) ?_
            refine G_X10_289 [] [] hx hb hT hown hK hh (v := o_59.2.1 43) rfl dX10_nextSite_64 ?_
            refine lv_if_ne (tgt := 107) hx hb dX10_nextSite_67 (by decide) (fun c6 => ?_) (fun c6 => ?_)
            · have h := h.1 c6
              exact hK107_59 o_59 _ _ _ h hh (lv_sub hl [0, 1] rfl)
            · have h := h.2 c6
              refine lv_aload_n hx hb dX10_nextSite_70 rfl (lv_at hl 0 rfl) ?_
              refine lv_iload_n hx hb dX10_nextSite_71 rfl (lv_at hl 2 rfl) ?_
              refine kI hh.ap0 hA (rnV hx hb hml hown hT hK hh.ap0 (c_X10_isBelow l D E a  o_59 p3_59 h _) mf_X10_isBelow kml_X10_318 ⟨rfl, rfl, Nat.le_of_ble_eq_true rfl, Nat.le_of_ble_eq_true rfl⟩ ⟨Nat.le_of_ble_eq_true rfl, Nat.le_of_ble_eq_true rfl⟩ 10 0 rfl rfl hl.1 rfl dX10_nextSite_72 (Nat.le_of_ble_eq_true rfl) rfl) (fun r7 o_8 H locs h hh => ?_)
              have hh : Wh D A s.heap ((List.flatten [bX10 a E o_8])) _ _ := hh.un0
              refine jn_elim h (fun J101 hJ101 h => ?_)
              have kJ101 : ∀ (o_101 : Ob) (H : Heap) (locs : List Loc) (ls : Array Slot), J101 o_101 → Wh D A s.heap ((List.flatten [bX10 a E o_101])) H locs → lv_has ls 4 [(0, .ref (a 0)), (1, .int (z_33)), (3, .int (p3_59))] → W p l e ({ frames := 2, cells := 0, slots := 0, locals := 46 } : Room) s m args below meth c H locs 0 0 Q (F0 m 101 ls []) := by
                intro o_101 H locs ls h hh hl
                rw [hJ101] at h
                refine lv_iinc (v := p3_59 + (-1)) (lv' := [(3, .int (p3_59 + (-1))), (0, .ref (a 0)), (1, .int (z_33))]) hx hb dX10_nextSite_101 hl (k := 2) rfl (by rfl) (by decide) rfl (fun ls hl => ?_)
                refine lv_goto (tgt := 59) hx hb dX10_nextSite_104 (by decide) ?_
                exact ih (p3_59 + (-1)) o_101 _ _ _ h hh (lv_sub hl [1, 2, 0] rfl)
              refine lv_if_eq (tgt := 101) hx hb dX10_nextSite_75 (by decide) (fun c9 => ?_) (fun c9 => ?_)
              · have h := h.1 c9
                exact kJ101 o_8 _ _ _ h hh (lv_sub hl [0, 1, 2] rfl)
              · have h := h.2 c9
                refine lv_aload_n hx hb dX10_nextSite_78 rfl (lv_at hl 0 rfl) ?_
                refine lv_aload_n hx hb dX10_nextSite_79 rfl (lv_at hl 0 rfl) ?_
                refine G_X10_283 [] [] hx hb hT hown hK hh (v := o_8.2.1 41) rfl dX10_nextSite_80 ?_
                refine lv_iload_n hx hb dX10_nextSite_83 rfl (lv_at hl 2 rfl) ?_
                refine kI hh.ap0 hA (rnV hx hb hml hown hT hK hh.ap0 (c_X10_endOf l D E a  o_8 (o_8.2.1 41) p3_59 h _) mf_X10_endOf kml_X10_298 ⟨rfl, rfl, Nat.le_of_ble_eq_true rfl, Nat.le_of_ble_eq_true rfl⟩ ⟨Nat.le_of_ble_eq_true rfl, Nat.le_of_ble_eq_true rfl⟩ 10 0 rfl rfl hl.1 rfl dX10_nextSite_84 (Nat.le_of_ble_eq_true rfl) rfl) (fun r10 o_11 H locs h hh => ?_)
                have hh : Wh D A s.heap ((List.flatten [bX10 a E o_11])) _ _ := hh.un0
                refine lv_iload_n hx hb dX10_nextSite_87 rfl (lv_at hl 1 rfl) ?_
                refine lv_icmp_ne (tgt := 101) hx hb dX10_nextSite_88 (by decide) (fun c12 => ?_) (fun c12 => ?_)
                · have h := h.1 c12
                  exact kJ101 o_11 _ _ _ h hh (lv_sub hl [0, 1, 2] rfl)
                · have h := h.2 c12
                  refine lv_aload_n hx hb dX10_nextSite_91 rfl (lv_at hl 0 rfl) ?_
                  refine lv_iload_n hx hb dX10_nextSite_92 rfl (lv_at hl 2 rfl) ?_
                  refine P_X10_286 [] [] hx hb hT hown hK hh dX10_nextSite_93 (fun H locs (hh : Wh D A s.heap ((List.flatten [bX10 a E ((o_11.1, (upd o_11.2.1 42 p3_59), o_11.2.2))])) H locs) => ?_)
                  refine lv_aload_n hx hb dX10_nextSite_96 rfl (lv_at hl 0 rfl) ?_
                  refine lv_iconst (v := 1) hx hb dX10_nextSite_97 (by decide) ?_
                  refine P_X10_289 [] [] hx hb hT hown hK hh (by decide) dX10_nextSite_98 (fun H locs (hh : Wh D A s.heap ((List.flatten [bX10 a E ((o_11.1, (upd (upd o_11.2.1 42 p3_59) 43 ((1 : Int32))), o_11.2.2))])) H locs) => ?_)
                  exact kJ101 ((o_11.1, (upd (upd o_11.2.1 42 p3_59) 43 ((1 : Int32))), o_11.2.2)) _ _ _ h hh (lv_sub hl [0, 1, 2] rfl)
      obtain ⟨n, h⟩ := h
      refine hw59 _ (fun o_k107 H locs ls h hh hl => ?_) n (z_49 - 1) ((o_49.1, (upd o_49.2.1 43 ((0 : Int32))), o_49.2.2)) _ _ _ h hh (lv_sub hl [2, 3, 0] rfl)
      refine lv_aload_n hx hb dX10_nextSite_107 rfl (lv_at hl 0 rfl) ?_
      refine lv_aload_n hx hb dX10_nextSite_108 rfl (lv_at hl 0 rfl) ?_
      refine G_X10_289 [] [] hx hb hT hown hK hh (v := o_k107.2.1 43) rfl dX10_nextSite_109 ?_
      refine jn_elim h (fun J123 hJ123 h => ?_)
      have kJ123 : ∀ (z_123 : Int32) (o_123 : Ob) (H : Heap) (locs : List Loc) (ls : Array Slot), J123 z_123 o_123 → Wh D A s.heap ((List.flatten [bX10 a E o_123])) H locs → lv_has ls 4 [] → W p l e ({ frames := 2, cells := 0, slots := 0, locals := 46 } : Room) s m args below meth c H locs 0 0 Q (F0 m 123 ls [.int (z_123), .ref (a 0)]) := by
        intro z_123 o_123 H locs ls h hh hl
        rw [hJ123] at h
        refine P_X10_286 [] [] hx hb hT hown hK hh dX10_nextSite_123 (fun H locs (hh : Wh D A s.heap ((List.flatten [bX10 a E ((o_123.1, (upd o_123.2.1 42 z_123), o_123.2.2))])) H locs) => ?_)
        exact hret _ _ _ _ (o_123.1, (upd o_123.2.1 42 z_123), o_123.2.2) dX10_nextSite_126 h hh
      refine lv_if_eq (tgt := 122) hx hb dX10_nextSite_112 (by decide) (fun c13 => ?_) (fun c13 => ?_)
      · have h := h.1 c13
        refine lv_iload_n hx hb dX10_nextSite_122 rfl (lv_at hl 1 rfl) ?_
        exact kJ123 z_33 o_k107 _ _ _ h hh (lv_sub hl [] rfl)
      · have h := h.2 c13
        refine lv_aload_n hx hb dX10_nextSite_115 rfl (lv_at hl 0 rfl) ?_
        refine G_X10_286 [] [] hx hb hT hown hK hh (v := o_k107.2.1 42) rfl dX10_nextSite_116 ?_
        refine lv_goto (tgt := 123) hx hb dX10_nextSite_119 (by decide) ?_
        exact kJ123 (o_k107.2.1 42) o_k107 _ _ _ h hh (lv_sub hl [] rfl)
    refine lv_if_eq (tgt := 48) hx hb dX10_nextSite_38 (by decide) (fun c4 => ?_) (fun c4 => ?_)
    · have h := h.1 c4
      refine lv_iload_n hx hb dX10_nextSite_48 rfl (lv_at hl 0 rfl) ?_
      exact kJ49 z_33 o_33 _ _ _ h hh (lv_sub hl [1, 0] rfl)
    · have h := h.2 c4
      refine lv_aload_n hx hb dX10_nextSite_41 rfl (lv_at hl 1 rfl) ?_
      refine G_X10_286 [] [] hx hb hT hown hK hh (v := o_33.2.1 42) rfl dX10_nextSite_42 ?_
      refine lv_goto (tgt := 49) hx hb dX10_nextSite_45 (by decide) ?_
      exact kJ49 (o_33.2.1 42) o_33 _ _ _ h hh (lv_sub hl [1, 0] rfl)
  refine lv_if_eq (tgt := 27) hx hb dX10_nextSite_9 (by decide) (fun c1 => ?_) (fun c1 => ?_)
  · have h := h.1 c1
    refine lv_aload_n hx hb dX10_nextSite_27 rfl (lv_at hl 0 rfl) ?_
    refine G_X10_286 [] [] hx hb hT hown hK hh (v := o.2.1 42) rfl dX10_nextSite_28 ?_
    refine lv_iconst (v := 1) hx hb dX10_nextSite_31 (by decide) ?_
    refine lv_iadd hx hb dX10_nextSite_32 ?_
    exact kJ33 ((o.2.1 42) + 1) ((o.1, (upd o.2.1 44 ((0 : Int32))), o.2.2)) _ _ _ h hh (lv_sub hl [0] rfl)
  · have h := h.2 c1
    refine lv_aload_n hx hb dX10_nextSite_12 rfl (lv_at hl 0 rfl) ?_
    refine lv_aload_n hx hb dX10_nextSite_13 rfl (lv_at hl 0 rfl) ?_
    refine G_X10_283 [] [] hx hb hT hown hK hh (v := o.2.1 41) rfl dX10_nextSite_14 ?_
    refine lv_aload_n hx hb dX10_nextSite_17 rfl (lv_at hl 0 rfl) ?_
    refine G_X10_286 [] [] hx hb hT hown hK hh (v := o.2.1 42) rfl dX10_nextSite_18 ?_
    refine kI hh.ap0 hA (rnV hx hb hml hown hT hK hh.ap0 (c_X10_endOf l D E a  ((o.1, (upd o.2.1 44 ((0 : Int32))), o.2.2)) (o.2.1 41) (o.2.1 42) h _) mf_X10_endOf kml_X10_298 ⟨rfl, rfl, Nat.le_of_ble_eq_true rfl, Nat.le_of_ble_eq_true rfl⟩ ⟨Nat.le_of_ble_eq_true rfl, Nat.le_of_ble_eq_true rfl⟩ 10 0 rfl rfl hl.1 rfl dX10_nextSite_21 (Nat.le_of_ble_eq_true rfl) rfl) (fun r2 o_3 H locs h hh => ?_)
    have hh : Wh D A s.heap ((List.flatten [bX10 a E o_3])) _ _ := hh.un0
    refine lv_goto (tgt := 33) hx hb dX10_nextSite_24 (by decide) ?_
    exact kJ33 r2 o_3 _ _ _ h hh (lv_sub hl [0] rfl)
