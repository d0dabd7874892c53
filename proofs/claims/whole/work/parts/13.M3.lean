def w_X10_putRight_L7   (Post : Int32 → Ob → Prop) : Nat → Int32 → Ob → Prop
  | 0, _, _ => False
  | n7 + 1, p1_7, o_7 => ((p1_7 < 0) → Post 1 o_7) ∧ (¬ (p1_7 < 0) → vp_in ((1000 * (o_7.2.1 41)) + p1_7) 5000 ∧ (jn (fun J73 : Int32 → Ob → Prop => jn (fun J72 : Ob → Prop => ((((o_7.2.2 9) ((1000 * (o_7.2.1 41)) + p1_7).toNatClampNeg) < 0) → J72 o_7) ∧ (¬ (((o_7.2.2 9) ((1000 * (o_7.2.1 41)) + p1_7).toNatClampNeg) < 0) → vp_in ((o_7.2.2 9) ((1000 * (o_7.2.1 41)) + p1_7).toNatClampNeg) 30 ∧ (jn (fun J52 : Ob → Prop => ((((o_7.2.2 1) ((o_7.2.2 9) ((1000 * (o_7.2.1 41)) + p1_7).toNatClampNeg).toNatClampNeg) = 7) → J52 o_7) ∧ (¬ (((o_7.2.2 1) ((o_7.2.2 9) ((1000 * (o_7.2.1 41)) + p1_7).toNatClampNeg).toNatClampNeg) = 7) → vp_in ((o_7.2.2 9) ((1000 * (o_7.2.1 41)) + p1_7).toNatClampNeg) 30 ∧ (((¬ ((o_7.2.2 1) ((o_7.2.2 9) ((1000 * (o_7.2.1 41)) + p1_7).toNatClampNeg).toNatClampNeg) = 5) → J72 o_7) ∧ ((((o_7.2.2 1) ((o_7.2.2 9) ((1000 * (o_7.2.1 41)) + p1_7).toNatClampNeg).toNatClampNeg) = 5) → J52 o_7)))) (fun (o_52 : Ob) => w_X10_endOf  (o_52.2.1 41) p1_7 o_52 (fun (r8 : Int32) (o_9 : Ob) => ((r8 ≤ (o_9.2.1 42)) → J72 o_9) ∧ (¬ (r8 ≤ (o_9.2.1 42)) → J73 1 o_9)))))) (fun (o_72 : Ob) => J73 0 o_72)) (fun (z_73 : Int32) (o_73 : Ob) => jn (fun J202 : Ob → Prop => ((z_73 = 0) → J202 o_73) ∧ (¬ (z_73 = 0) → vp_in ((o_7.2.2 9) ((1000 * (o_7.2.1 41)) + p1_7).toNatClampNeg) 30 ∧ (jn (fun J105 : Ob → Prop => ((¬ ((o_73.2.2 1) ((o_7.2.2 9) ((1000 * (o_7.2.1 41)) + p1_7).toNatClampNeg).toNatClampNeg) = 5) → J105 o_73) ∧ ((((o_73.2.2 1) ((o_7.2.2 9) ((1000 * (o_7.2.1 41)) + p1_7).toNatClampNeg).toNatClampNeg) = 5) → ((¬ (o_73.2.1 34) = 0) → J105 o_73) ∧ (((o_73.2.1 34) = 0) → Post ((-6)) o_73))) (fun (o_105 : Ob) => w_X10_endOf  (3 : Int32) p1_7 o_105 (fun (r15 : Int32) (o_16 : Ob) => w_X10_reckon  (3 : Int32) (p1_7 + 1) r15 o_16 (fun (o_18 : Ob) => vp_in ((o_7.2.2 9) ((1000 * (o_7.2.1 41)) + p1_7).toNatClampNeg) 30 ∧ (((¬ ((o_18.2.2 1) ((o_7.2.2 9) ((1000 * (o_7.2.1 41)) + p1_7).toNatClampNeg).toNatClampNeg) = 7) → vp_in ((o_7.2.2 9) ((1000 * (o_7.2.1 41)) + p1_7).toNatClampNeg) 30 ∧ (w_X10_result  ((o_18.2.2 3) ((o_7.2.2 9) ((1000 * (o_7.2.1 41)) + p1_7).toNatClampNeg).toNatClampNeg) ((o_18.1, (upd o_18.2.1 34 (((o_18.2.1 34) - 1))), o_18.2.2)) (fun (r22 : Int32) (o_23 : Ob) => ((r22 = 1) → J202 o_23) ∧ (¬ (r22 = 1) → Post 0 o_23)))) ∧ ((((o_18.2.2 1) ((o_7.2.2 9) ((1000 * (o_7.2.1 41)) + p1_7).toNatClampNeg).toNatClampNeg) = 7) → vp_in (3000 + p1_7) 5000 ∧ (w_X10_sumOfLeaves   o_18 (fun (r26 : Int32) (o_27 : Ob) => jn (fun J158 : Int32 → Ob → Prop => ((0 ≤ r26) → w_X10_sumOfLeaves   o_27 (fun (r29 : Int32) (o_30 : Ob) => J158 r29 o_30)) ∧ (¬ (0 ≤ r26) → J158 0 o_27)) (fun (z_158 : Int32) (o_158 : Ob) => jn (fun J172 : Int32 → Ob → Prop => ((((o_18.2.2 10) (3000 + p1_7).toNatClampNeg) ≤ z_158) → vp_in (3000 + p1_7) 5000 ∧ (J172 ((o_158.2.2 10) (3000 + p1_7).toNatClampNeg) o_158)) ∧ (¬ (((o_18.2.2 10) (3000 + p1_7).toNatClampNeg) ≤ z_158) → J172 0 o_158)) (fun (z_172 : Int32) (o_172 : Ob) => vp_in (3000 + p1_7) 5000 ∧ (J202 ((o_172.1, o_172.2.1, (sa o_172.2.2 10 (upd (o_172.2.2 10) (3000 + p1_7).toNatClampNeg z_172))))))))))))))))) (fun (o_202 : Ob) => w_X10_putRight_L7   Post n7 (p1_7 + (-1)) o_202))))
def w_X10_putRight  (o : Ob) (Post : Int32 → Ob → Prop) : Prop := ∃ n7, w_X10_putRight_L7   Post n7 ((o.2.1 42) - 1) o
set_option maxRecDepth 100000 in
set_option maxHeartbeats 4000000 in
theorem c_X10_putRight (l : Launch) (D : va_G) (E : Nat → ClassId) (a : Nat → Nat)  (o : Ob)  {Post : Int32 → Ob → Prop} (h : w_X10_putRight  o Post) : CtI l yX10_putRight cX10_putRight 5 .int ({ frames := 6, cells := 0, slots := 0, locals := 148 } : Room) D E [.ref (a 0)] (List.flatten [bX10 a E o]) (fun u : Ob => List.flatten [bX10 a E u]) Post 0 0 := by
  refine enI (by decide +kernel) (Nat.le_of_ble_eq_true rfl) ?_
  intro p e s m args below meth c Q A ls hx hb hml hown hT hK hA hret hh hl
  have hl : lv_has ls 5 [(0, .ref (a 0))] := hl
  unfold w_X10_putRight at h
  refine lv_aload_n hx hb dX10_putRight_0 rfl (lv_at hl 0 rfl) ?_
  refine G_X10_286 [] [] hx hb hT hown hK hh (v := o.2.1 42) rfl dX10_putRight_1 ?_
  refine lv_iconst (v := 1) hx hb dX10_putRight_4 (by decide) ?_
  refine lv_isub hx hb dX10_putRight_5 ?_
  refine lv_istore_n (lv' := [(1, .int ((o.2.1 42) - 1)), (0, .ref (a 0))]) hx hb dX10_putRight_6 rfl hl (by decide) rfl (fun ls hl => ?_)
  have hw7 : ∀   (n : Nat) (p1_7 : Int32) (o_7 : Ob) (H : Heap) (locs : List Loc) (ls : Array Slot), w_X10_putRight_L7   Post n p1_7 o_7 → Wh D A s.heap ((List.flatten [bX10 a E o_7])) H locs → lv_has ls 5 [(0, .ref (a 0)), (1, .int (p1_7))] → W p l e ({ frames := 6, cells := 0, slots := 0, locals := 148 } : Room) s m args below meth c H locs 0 0 Q (F0 m 7 ls []) := by
    intro   n
    induction n with
    | zero => intro p1_7 o_7 H locs ls h hh hl; exact False.elim h
    | succ n ih =>
      intro p1_7 o_7 H locs ls h hh hl
      refine lv_iload_n hx hb dX10_putRight_7 rfl (lv_at hl 1 rfl) ?_
      refine lv_if_lt (tgt := 208) hx hb dX10_putRight_8 (by decide) (fun c1 => ?_) (fun c1 => ?_)
      · have h := h.1 c1
        refine lv_iconst (v := 1) hx hb dX10_putRight_208 (by decide) ?_
        exact hret _ _ _ _ _ o_7 dX10_putRight_209 rfl h hh
      · have h := h.2 c1
        refine lv_aload_n hx hb dX10_putRight_11 rfl (lv_at hl 0 rfl) ?_
        refine G_X10_35 [] [] hx hb hT hown hK hh dX10_putRight_12 ?_
        refine lv_sipush (v := 1000) hx hb dX10_putRight_15 (by decide) ?_
        refine lv_aload_n hx hb dX10_putRight_18 rfl (lv_at hl 0 rfl) ?_
        refine G_X10_283 [] [] hx hb hT hown hK hh (v := o_7.2.1 41) rfl dX10_putRight_19 ?_
        refine lv_imul hx hb dX10_putRight_22 ?_
        refine lv_iload_n hx hb dX10_putRight_23 rfl (lv_at hl 1 rfl) ?_
        refine lv_iadd hx hb dX10_putRight_24 ?_
        obtain ⟨g2, h⟩ := h
        refine A_X10_9 [] [] hx hb hK hh (v := (o_7.2.2 9) ((1000 * (o_7.2.1 41)) + p1_7).toNatClampNeg) g2 rfl dX10_putRight_25 ?_
        refine lv_istore_n (lv' := [(2, .int ((o_7.2.2 9) ((1000 * (o_7.2.1 41)) + p1_7).toNatClampNeg)), (0, .ref (a 0)), (1, .int (p1_7))]) hx hb dX10_putRight_26 rfl hl (by decide) rfl (fun ls hl => ?_)
        refine lv_iload_n hx hb dX10_putRight_27 rfl (lv_at hl 0 rfl) ?_
        refine jn_elim h (fun J73 hJ73 h => ?_)
        have kJ73 : ∀ (z_73 : Int32) (o_73 : Ob) (H : Heap) (locs : List Loc) (ls : Array Slot), J73 z_73 o_73 → Wh D A s.heap ((List.flatten [bX10 a E o_73])) H locs → lv_has ls 5 [(0, .ref (a 0)), (1, .int (p1_7)), (2, .int ((o_7.2.2 9) ((1000 * (o_7.2.1 41)) + p1_7).toNatClampNeg))] → W p l e ({ frames := 6, cells := 0, slots := 0, locals := 148 } : Room) s m args below meth c H locs 0 0 Q (F0 m 73 ls [.int (z_73)]) := by
          intro z_73 o_73 H locs ls h hh hl
          rw [hJ73] at h
          refine lv_istore_n (lv' := [(3, .int (z_73)), (0, .ref (a 0)), (1, .int (p1_7)), (2, .int ((o_7.2.2 9) ((1000 * (o_7.2.1 41)) + p1_7).toNatClampNeg))]) hx hb dX10_putRight_73 rfl hl (by decide) rfl (fun ls hl => ?_)
          refine lv_iload_n hx hb dX10_putRight_74 rfl (lv_at hl 0 rfl) ?_
          refine jn_elim h (fun J202 hJ202 h => ?_)
          have kJ202 : ∀ (o_202 : Ob) (H : Heap) (locs : List Loc) (ls : Array Slot), J202 o_202 → Wh D A s.heap ((List.flatten [bX10 a E o_202])) H locs → lv_has ls 5 [(0, .ref (a 0)), (1, .int (p1_7))] → W p l e ({ frames := 6, cells := 0, slots := 0, locals := 148 } : Room) s m args below meth c H locs 0 0 Q (F0 m 202 ls []) := by
            intro o_202 H locs ls h hh hl
            rw [hJ202] at h
            refine lv_iinc (v := p1_7 + (-1)) (lv' := [(1, .int (p1_7 + (-1))), (0, .ref (a 0))]) hx hb dX10_putRight_202 hl (k := 1) rfl (by rfl) (by decide) rfl (fun ls hl => ?_)
            refine lv_goto (tgt := 7) hx hb dX10_putRight_205 (by decide) ?_
            exact ih (p1_7 + (-1)) o_202 _ _ _ h hh (lv_sub hl [1, 0] rfl)
          refine lv_if_eq (tgt := 202) hx hb dX10_putRight_75 (by decide) (fun c11 => ?_) (fun c11 => ?_)
          · have h := h.1 c11
            exact kJ202 o_73 _ _ _ h hh (lv_sub hl [1, 2] rfl)
          · have h := h.2 c11
            refine lv_sipush (v := 3000) hx hb dX10_putRight_78 (by decide) ?_
            refine lv_iload_n hx hb dX10_putRight_81 rfl (lv_at hl 2 rfl) ?_
            refine lv_iadd hx hb dX10_putRight_82 ?_
            refine lv_istore (lv' := [(4, .int (3000 + p1_7)), (3, .int (z_73)), (0, .ref (a 0)), (1, .int (p1_7)), (2, .int ((o_7.2.2 9) ((1000 * (o_7.2.1 41)) + p1_7).toNatClampNeg))]) hx hb dX10_putRight_83 hl (by decide) rfl (fun ls hl => ?_)
            refine lv_aload_n hx hb dX10_putRight_85 rfl (lv_at hl 2 rfl) ?_
            refine G_X10_7 [] [] hx hb hT hown hK hh dX10_putRight_86 ?_
            refine lv_iload_n hx hb dX10_putRight_89 rfl (lv_at hl 4 rfl) ?_
            obtain ⟨g12, h⟩ := h
            refine A_X10_1 [] [] hx hb hK hh (v := (o_73.2.2 1) ((o_7.2.2 9) ((1000 * (o_7.2.1 41)) + p1_7).toNatClampNeg).toNatClampNeg) g12 rfl dX10_putRight_90 ?_
            refine lv_iconst (v := 5) hx hb dX10_putRight_91 (by decide) ?_
            refine jn_elim h (fun J105 hJ105 h => ?_)
            have kJ105 : ∀ (o_105 : Ob) (H : Heap) (locs : List Loc) (ls : Array Slot), J105 o_105 → Wh D A s.heap ((List.flatten [bX10 a E o_105])) H locs → lv_has ls 5 [(0, .ref (a 0)), (1, .int (p1_7)), (2, .int ((o_7.2.2 9) ((1000 * (o_7.2.1 41)) + p1_7).toNatClampNeg)), (4, .int (3000 + p1_7))] → W p l e ({ frames := 6, cells := 0, slots := 0, locals := 148 } : Room) s m args below meth c H locs 0 0 Q (F0 m 105 ls []) := by
              intro o_105 H locs ls h hh hl
              rw [hJ105] at h
              refine lv_aload_n hx hb dX10_putRight_105 rfl (lv_at hl 0 rfl) ?_
              refine lv_iconst (v := 3) hx hb dX10_putRight_106 (by decide) ?_
              refine lv_iload_n hx hb dX10_putRight_107 rfl (lv_at hl 1 rfl) ?_
              refine lv_iconst (v := 1) hx hb dX10_putRight_108 (by decide) ?_
              refine lv_iadd hx hb dX10_putRight_109 ?_
              refine lv_aload_n hx hb dX10_putRight_110 rfl (lv_at hl 0 rfl) ?_
              refine lv_iconst (v := 3) hx hb dX10_putRight_111 (by decide) ?_
              refine lv_iload_n hx hb dX10_putRight_112 rfl (lv_at hl 1 rfl) ?_
              refine kI hh.ap0 hA (rnV hx hb hml hown hT hK hh.ap0 (c_X10_endOf l D E a  o_105 (3 : Int32) p1_7 h _) mf_X10_endOf kml_X10_298 ⟨rfl, rfl, Nat.le_of_ble_eq_true rfl, Nat.le_of_ble_eq_true rfl⟩ ⟨Nat.le_of_ble_eq_true rfl, Nat.le_of_ble_eq_true rfl⟩ 10 0 rfl rfl hl.1 rfl dX10_putRight_113 (Nat.le_of_ble_eq_true rfl) rfl) (fun r15 o_16 H locs h hh => ?_)
              have hh : Wh D A s.heap ((List.flatten [bX10 a E o_16])) _ _ := hh.un0
              refine kV hh.ap0 hA (rnV hx hb hml hown hT hK hh.ap0 (c_X10_reckon l D E a  o_16 (3 : Int32) (p1_7 + 1) r15 h _) mf_X10_reckon kml_X10_252 ⟨rfl, rfl, Nat.le_of_ble_eq_true rfl, Nat.le_of_ble_eq_true rfl⟩ ⟨Nat.le_of_ble_eq_true rfl, Nat.le_of_ble_eq_true rfl⟩ 10 0 rfl rfl hl.1 rfl dX10_putRight_116 (Nat.le_of_ble_eq_true rfl) rfl) (fun o_18 H locs h hh => ?_)
              have hh : Wh D A s.heap ((List.flatten [bX10 a E o_18])) _ _ := hh.un0
              refine lv_aload_n hx hb dX10_putRight_119 rfl (lv_at hl 0 rfl) ?_
              refine G_X10_7 [] [] hx hb hT hown hK hh dX10_putRight_120 ?_
              refine lv_iload_n hx hb dX10_putRight_123 rfl (lv_at hl 2 rfl) ?_
              obtain ⟨g19, h⟩ := h
              refine A_X10_1 [] [] hx hb hK hh (v := (o_18.2.2 1) ((o_7.2.2 9) ((1000 * (o_7.2.1 41)) + p1_7).toNatClampNeg).toNatClampNeg) g19 rfl dX10_putRight_124 ?_
              refine lv_bipush (v := 7) hx hb dX10_putRight_125 (by decide) ?_
              refine lv_icmp_ne (tgt := 176) hx hb dX10_putRight_127 (by decide) (fun c20 => ?_) (fun c20 => ?_)
              · have h := h.1 c20
                refine lv_aload_n hx hb dX10_putRight_176 rfl (lv_at hl 0 rfl) ?_
                refine lv_dup hx hb dX10_putRight_177 rfl ?_
                refine G_X10_110 [] [] hx hb hT hown hK hh (v := o_18.2.1 34) rfl dX10_putRight_178 ?_
                refine lv_iconst (v := 1) hx hb dX10_putRight_181 (by decide) ?_
                refine lv_isub hx hb dX10_putRight_182 ?_
                refine P_X10_110 [] [] hx hb hT hown hK hh dX10_putRight_183 (fun H locs (hh : Wh D A s.heap ((List.flatten [bX10 a E ((o_18.1, (upd o_18.2.1 34 (((o_18.2.1 34) - 1))), o_18.2.2))])) H locs) => ?_)
                refine lv_aload_n hx hb dX10_putRight_186 rfl (lv_at hl 0 rfl) ?_
                refine lv_aload_n hx hb dX10_putRight_187 rfl (lv_at hl 0 rfl) ?_
                refine G_X10_16 [] [] hx hb hT hown hK hh dX10_putRight_188 ?_
                refine lv_iload_n hx hb dX10_putRight_191 rfl (lv_at hl 2 rfl) ?_
                obtain ⟨g21, h⟩ := h
                refine A_X10_3 [] [] hx hb hK hh (v := (o_18.2.2 3) ((o_7.2.2 9) ((1000 * (o_7.2.1 41)) + p1_7).toNatClampNeg).toNatClampNeg) g21 rfl dX10_putRight_192 ?_
                refine kI hh.ap0 hA (rnV hx hb hml hown hT hK hh.ap0 (c_X10_result l D E a  ((o_18.1, (upd o_18.2.1 34 (((o_18.2.1 34) - 1))), o_18.2.2)) ((o_18.2.2 3) ((o_7.2.2 9) ((1000 * (o_7.2.1 41)) + p1_7).toNatClampNeg).toNatClampNeg) h _) mf_X10_result kml_X10_258 ⟨rfl, rfl, Nat.le_of_ble_eq_true rfl, Nat.le_of_ble_eq_true rfl⟩ ⟨Nat.le_of_ble_eq_true rfl, Nat.le_of_ble_eq_true rfl⟩ 10 0 rfl rfl hl.1 rfl dX10_putRight_193 (Nat.le_of_ble_eq_true rfl) rfl) (fun r22 o_23 H locs h hh => ?_)
                have hh : Wh D A s.heap ((List.flatten [bX10 a E o_23])) _ _ := hh.un0
                refine lv_iconst (v := 1) hx hb dX10_putRight_196 (by decide) ?_
                refine lv_icmp_eq (tgt := 202) hx hb dX10_putRight_197 (by decide) (fun c24 => ?_) (fun c24 => ?_)
                · have h := h.1 c24
                  exact kJ202 o_23 _ _ _ h hh (lv_sub hl [0, 1] rfl)
                · have h := h.2 c24
                  refine lv_iconst (v := 0) hx hb dX10_putRight_200 (by decide) ?_
                  exact hret _ _ _ _ _ o_23 dX10_putRight_201 rfl h hh
              · have h := h.2 c20
                refine lv_aload_n hx hb dX10_putRight_130 rfl (lv_at hl 0 rfl) ?_
                refine G_X10_38 [] [] hx hb hT hown hK hh dX10_putRight_131 ?_
                refine lv_iload hx hb dX10_putRight_134 (lv_at hl 3 rfl) ?_
                refine lv_aload_n hx hb dX10_putRight_136 rfl (lv_at hl 0 rfl) ?_
                refine G_X10_38 [] [] hx hb hT hown hK hh dX10_putRight_137 ?_
                refine lv_iload hx hb dX10_putRight_140 (lv_at hl 3 rfl) ?_
                obtain ⟨g25, h⟩ := h
                refine A_X10_10 [] [] hx hb hK hh (v := (o_18.2.2 10) (3000 + p1_7).toNatClampNeg) g25 rfl dX10_putRight_142 ?_
                refine lv_aload_n hx hb dX10_putRight_143 rfl (lv_at hl 0 rfl) ?_
                refine kI hh.ap0 hA (rnV hx hb hml hown hT hK hh.ap0 (c_X10_sumOfLeaves l D E a  o_18  h _) mf_X10_sumOfLeaves kml_X10_174 ⟨rfl, rfl, Nat.le_of_ble_eq_true rfl, Nat.le_of_ble_eq_true rfl⟩ ⟨Nat.le_of_ble_eq_true rfl, Nat.le_of_ble_eq_true rfl⟩ 10 0 rfl rfl hl.1 rfl dX10_putRight_144 (Nat.le_of_ble_eq_true rfl) rfl) (fun r26 o_27 H locs h hh => ?_)
                have hh : Wh D A s.heap ((List.flatten [bX10 a E o_27])) _ _ := hh.un0
                refine jn_elim h (fun J158 hJ158 h => ?_)
                have kJ158 : ∀ (z_158 : Int32) (o_158 : Ob) (H : Heap) (locs : List Loc) (ls : Array Slot), J158 z_158 o_158 → Wh D A s.heap ((List.flatten [bX10 a E o_158])) H locs → lv_has ls 5 [(0, .ref (a 0)), (1, .int (p1_7)), (4, .int (3000 + p1_7))] → W p l e ({ frames := 6, cells := 0, slots := 0, locals := 148 } : Room) s m args below meth c H locs 0 0 Q (F0 m 158 ls [.int (z_158), .int ((o_18.2.2 10) (3000 + p1_7).toNatClampNeg), .int (3000 + p1_7), .ref (a 11)]) := by
                  intro z_158 o_158 H locs ls h hh hl
                  rw [hJ158] at h
                  refine jn_elim h (fun J172 hJ172 h => ?_)
                  have kJ172 : ∀ (z_172 : Int32) (o_172 : Ob) (H : Heap) (locs : List Loc) (ls : Array Slot), J172 z_172 o_172 → Wh D A s.heap ((List.flatten [bX10 a E o_172])) H locs → lv_has ls 5 [(0, .ref (a 0)), (1, .int (p1_7))] → W p l e ({ frames := 6, cells := 0, slots := 0, locals := 148 } : Room) s m args below meth c H locs 0 0 Q (F0 m 172 ls [.int (z_172), .int (3000 + p1_7), .ref (a 11)]) := by
                    intro z_172 o_172 H locs ls h hh hl
                    rw [hJ172] at h
                    obtain ⟨g33, h⟩ := h
                    refine S_X10_10 [] [] hx hb hK hh g33 dX10_putRight_172 (fun H locs (hh : Wh D A s.heap ((List.flatten [bX10 a E ((o_172.1, o_172.2.1, (sa o_172.2.2 10 (upd (o_172.2.2 10) (3000 + p1_7).toNatClampNeg z_172))))])) H locs) => ?_)
                    refine lv_goto (tgt := 202) hx hb dX10_putRight_173 (by decide) ?_
                    exact kJ202 ((o_172.1, o_172.2.1, (sa o_172.2.2 10 (upd (o_172.2.2 10) (3000 + p1_7).toNatClampNeg z_172)))) _ _ _ h hh (lv_sub hl [0, 1] rfl)
                  refine lv_icmp_le (tgt := 165) hx hb dX10_putRight_158 (by decide) (fun c31 => ?_) (fun c31 => ?_)
                  · have h := h.1 c31
                    refine lv_aload_n hx hb dX10_putRight_165 rfl (lv_at hl 0 rfl) ?_
                    refine G_X10_38 [] [] hx hb hT hown hK hh dX10_putRight_166 ?_
                    refine lv_iload hx hb dX10_putRight_169 (lv_at hl 2 rfl) ?_
                    obtain ⟨g32, h⟩ := h
                    refine A_X10_10 [] [] hx hb hK hh (v := (o_158.2.2 10) (3000 + p1_7).toNatClampNeg) g32 rfl dX10_putRight_171 ?_
                    exact kJ172 ((o_158.2.2 10) (3000 + p1_7).toNatClampNeg) o_158 _ _ _ h hh (lv_sub hl [0, 1] rfl)
                  · have h := h.2 c31
                    refine lv_iconst (v := 0) hx hb dX10_putRight_161 (by decide) ?_
                    refine lv_goto (tgt := 172) hx hb dX10_putRight_162 (by decide) ?_
                    exact kJ172 0 o_158 _ _ _ h hh (lv_sub hl [0, 1] rfl)
                refine lv_if_ge (tgt := 154) hx hb dX10_putRight_147 (by decide) (fun c28 => ?_) (fun c28 => ?_)
                · have h := h.1 c28
                  refine lv_aload_n hx hb dX10_putRight_154 rfl (lv_at hl 0 rfl) ?_
                  refine kI hh.ap0 hA (rnV hx hb hml hown hT hK hh.ap0 (c_X10_sumOfLeaves l D E a  o_27  h _) mf_X10_sumOfLeaves kml_X10_174 ⟨rfl, rfl, Nat.le_of_ble_eq_true rfl, Nat.le_of_ble_eq_true rfl⟩ ⟨Nat.le_of_ble_eq_true rfl, Nat.le_of_ble_eq_true rfl⟩ 10 0 rfl rfl hl.1 rfl dX10_putRight_155 (Nat.le_of_ble_eq_true rfl) rfl) (fun r29 o_30 H locs h hh => ?_)
                  have hh : Wh D A s.heap ((List.flatten [bX10 a E o_30])) _ _ := hh.un0
                  exact kJ158 r29 o_30 _ _ _ h hh (lv_sub hl [0, 1, 3] rfl)
                · have h := h.2 c28
                  refine lv_iconst (v := 0) hx hb dX10_putRight_150 (by decide) ?_
                  refine lv_goto (tgt := 158) hx hb dX10_putRight_151 (by decide) ?_
                  exact kJ158 0 o_27 _ _ _ h hh (lv_sub hl [0, 1, 3] rfl)
            refine lv_icmp_ne (tgt := 105) hx hb dX10_putRight_92 (by decide) (fun c13 => ?_) (fun c13 => ?_)
            · have h := h.1 c13
              exact kJ105 o_73 _ _ _ h hh (lv_sub hl [2, 3, 4, 0] rfl)
            · have h := h.2 c13
              refine lv_aload_n hx hb dX10_putRight_95 rfl (lv_at hl 2 rfl) ?_
              refine G_X10_110 [] [] hx hb hT hown hK hh (v := o_73.2.1 34) rfl dX10_putRight_96 ?_
              refine lv_if_ne (tgt := 105) hx hb dX10_putRight_99 (by decide) (fun c14 => ?_) (fun c14 => ?_)
              · have h := h.1 c14
                exact kJ105 o_73 _ _ _ h hh (lv_sub hl [2, 3, 4, 0] rfl)
              · have h := h.2 c14
                refine lv_bipush (v := (-6)) hx hb dX10_putRight_102 (by decide) ?_
                exact hret _ _ _ _ _ o_73 dX10_putRight_104 rfl h hh
        refine jn_elim h (fun J72 hJ72 h => ?_)
        have kJ72 : ∀ (o_72 : Ob) (H : Heap) (locs : List Loc) (ls : Array Slot), J72 o_72 → Wh D A s.heap ((List.flatten [bX10 a E o_72])) H locs → lv_has ls 5 [(0, .ref (a 0)), (1, .int (p1_7)), (2, .int ((o_7.2.2 9) ((1000 * (o_7.2.1 41)) + p1_7).toNatClampNeg))] → W p l e ({ frames := 6, cells := 0, slots := 0, locals := 148 } : Room) s m args below meth c H locs 0 0 Q (F0 m 72 ls []) := by
          intro o_72 H locs ls h hh hl
          rw [hJ72] at h
          refine lv_iconst (v := 0) hx hb dX10_putRight_72 (by decide) ?_
          exact kJ73 0 o_72 _ _ _ h hh (lv_sub hl [0, 1, 2] rfl)
        refine lv_if_lt (tgt := 72) hx hb dX10_putRight_28 (by decide) (fun c3 => ?_) (fun c3 => ?_)
        · have h := h.1 c3
          exact kJ72 o_7 _ _ _ h hh (lv_sub hl [1, 2, 0] rfl)
        · have h := h.2 c3
          refine lv_aload_n hx hb dX10_putRight_31 rfl (lv_at hl 1 rfl) ?_
          refine G_X10_7 [] [] hx hb hT hown hK hh dX10_putRight_32 ?_
          refine lv_iload_n hx hb dX10_putRight_35 rfl (lv_at hl 0 rfl) ?_
          obtain ⟨g4, h⟩ := h
          refine A_X10_1 [] [] hx hb hK hh (v := (o_7.2.2 1) ((o_7.2.2 9) ((1000 * (o_7.2.1 41)) + p1_7).toNatClampNeg).toNatClampNeg) g4 rfl dX10_putRight_36 ?_
          refine lv_bipush (v := 7) hx hb dX10_putRight_37 (by decide) ?_
          refine jn_elim h (fun J52 hJ52 h => ?_)
          have kJ52 : ∀ (o_52 : Ob) (H : Heap) (locs : List Loc) (ls : Array Slot), J52 o_52 → Wh D A s.heap ((List.flatten [bX10 a E o_52])) H locs → lv_has ls 5 [(0, .ref (a 0)), (1, .int (p1_7)), (2, .int ((o_7.2.2 9) ((1000 * (o_7.2.1 41)) + p1_7).toNatClampNeg))] → W p l e ({ frames := 6, cells := 0, slots := 0, locals := 148 } : Room) s m args below meth c H locs 0 0 Q (F0 m 52 ls []) := by
            intro o_52 H locs ls h hh hl
            rw [hJ52] at h
            refine lv_aload_n hx hb dX10_putRight_52 rfl (lv_at hl 0 rfl) ?_
            refine lv_aload_n hx hb dX10_putRight_53 rfl (lv_at hl 0 rfl) ?_
            refine G_X10_283 [] [] hx hb hT hown hK hh (v := o_52.2.1 41) rfl dX10_putRight_54 ?_
            refine lv_iload_n hx hb dX10_putRight_57 rfl (lv_at hl 1 rfl) ?_
            refine kI hh.ap0 hA (rnV hx hb hml hown hT hK hh.ap0 (c_X10_endOf l D E a  o_52 (o_52.2.1 41) p1_7 h _) mf_X10_endOf kml_X10_298 ⟨rfl, rfl, Nat.le_of_ble_eq_true rfl, Nat.le_of_ble_eq_true rfl⟩ ⟨Nat.le_of_ble_eq_true rfl, Nat.le_of_ble_eq_true rfl⟩ 10 0 rfl rfl hl.1 rfl dX10_putRight_58 (Nat.le_of_ble_eq_true rfl) rfl) (fun r8 o_9 H locs h hh => ?_)
            have hh : Wh D A s.heap ((List.flatten [bX10 a E o_9])) _ _ := hh.un0
            refine lv_aload_n hx hb dX10_putRight_61 rfl (lv_at hl 0 rfl) ?_
            refine G_X10_286 [] [] hx hb hT hown hK hh (v := o_9.2.1 42) rfl dX10_putRight_62 ?_
            refine lv_icmp_le (tgt := 72) hx hb dX10_putRight_65 (by decide) (fun c10 => ?_) (fun c10 => ?_)
            · have h := h.1 c10
              exact kJ72 o_9 _ _ _ h hh (lv_sub hl [0, 1, 2] rfl)
            · have h := h.2 c10
              refine lv_iconst (v := 1) hx hb dX10_putRight_68 (by decide) ?_
              refine lv_goto (tgt := 73) hx hb dX10_putRight_69 (by decide) ?_
              exact kJ73 1 o_9 _ _ _ h hh (lv_sub hl [0, 1, 2] rfl)
          refine lv_icmp_eq (tgt := 52) hx hb dX10_putRight_39 (by decide) (fun c5 => ?_) (fun c5 => ?_)
          · have h := h.1 c5
            exact kJ52 o_7 _ _ _ h hh (lv_sub hl [1, 2, 0] rfl)
          · have h := h.2 c5
            refine lv_aload_n hx hb dX10_putRight_42 rfl (lv_at hl 1 rfl) ?_
            refine G_X10_7 [] [] hx hb hT hown hK hh dX10_putRight_43 ?_
            refine lv_iload_n hx hb dX10_putRight_46 rfl (lv_at hl 0 rfl) ?_
            obtain ⟨g6, h⟩ := h
            refine A_X10_1 [] [] hx hb hK hh (v := (o_7.2.2 1) ((o_7.2.2 9) ((1000 * (o_7.2.1 41)) + p1_7).toNatClampNeg).toNatClampNeg) g6 rfl dX10_putRight_47 ?_
            refine lv_iconst (v := 5) hx hb dX10_putRight_48 (by decide) ?_
            refine lv_icmp_ne (tgt := 72) hx hb dX10_putRight_49 (by decide) (fun c7 => ?_) (fun c7 => ?_)
            · have h := h.1 c7
              exact kJ72 o_7 _ _ _ h hh (lv_sub hl [1, 2, 0] rfl)
            · have h := h.2 c7
              exact kJ52 o_7 _ _ _ h hh (lv_sub hl [1, 2, 0] rfl)
  obtain ⟨n, h⟩ := h
  refine hw7   n ((o.2.1 42) - 1) o _ _ _ h hh (lv_sub hl [1, 0] rfl)

def w_X10_nextChange_L0   (Post : Int32 → Ob → Prop) : Nat → Ob → Prop
  | 0, _ => False
  | n0 + 1, o_0 => vp_in (o_0.2.1 41) 5 ∧ (((((o_0.2.2 8) (o_0.2.1 41).toNatClampNeg) ≤ (o_0.2.1 42)) → Post 0 o_0) ∧ (¬ (((o_0.2.2 8) (o_0.2.1 41).toNatClampNeg) ≤ (o_0.2.1 42)) → w_X10_changes   o_0 (fun (r3 : Int32) (o_4 : Ob) => ((r3 = 0) → w_X10_nextSite   o_4 (fun (o_7 : Ob) => w_X10_nextChange_L0   Post n0 o_7)) ∧ (¬ (r3 = 0) → w_X10_putRight   o_4 (fun (r8 : Int32) (o_9 : Ob) => ((r8 = 0) → w_X10_nextChange_L0   Post n0 ((o_9.1, (upd o_9.2.1 44 (((o_9.2.1 44) + 1))), o_9.2.2))) ∧ (¬ (r8 = 0) → Post r8 ((o_9.1, (upd o_9.2.1 44 (((o_9.2.1 44) + 1))), o_9.2.2))))))))
def w_X10_nextChange  (o : Ob) (Post : Int32 → Ob → Prop) : Prop := ∃ n0, w_X10_nextChange_L0   Post n0 o
set_option maxRecDepth 100000 in
set_option maxHeartbeats 4000000 in
theorem c_X10_nextChange (l : Launch) (D : va_G) (E : Nat → ClassId) (a : Nat → Nat)  (o : Ob)  {Post : Int32 → Ob → Prop} (h : w_X10_nextChange  o Post) : CtI l yX10_nextChange cX10_nextChange 2 .int ({ frames := 7, cells := 0, slots := 0, locals := 172 } : Room) D E [.ref (a 0)] (List.flatten [bX10 a E o]) (fun u : Ob => List.flatten [bX10 a E u]) Post 0 0 := by
  refine enI (by decide +kernel) (Nat.le_of_ble_eq_true rfl) ?_
  intro p e s m args below meth c Q A ls hx hb hml hown hT hK hA hret hh hl
  have hl : lv_has ls 2 [(0, .ref (a 0))] := hl
  unfold w_X10_nextChange at h
  have hw0 : ∀   (n : Nat) (o_0 : Ob) (H : Heap) (locs : List Loc) (ls : Array Slot), w_X10_nextChange_L0   Post n o_0 → Wh D A s.heap ((List.flatten [bX10 a E o_0])) H locs → lv_has ls 2 [(0, .ref (a 0))] → W p l e ({ frames := 7, cells := 0, slots := 0, locals := 172 } : Room) s m args below meth c H locs 0 0 Q (F0 m 0 ls []) := by
    intro   n
    induction n with
    | zero => intro o_0 H locs ls h hh hl; exact False.elim h
    | succ n ih =>
      intro o_0 H locs ls h hh hl
      refine lv_aload_n hx hb dX10_nextChange_0 rfl (lv_at hl 0 rfl) ?_
      refine G_X10_286 [] [] hx hb hT hown hK hh (v := o_0.2.1 42) rfl dX10_nextChange_1 ?_
      refine lv_aload_n hx hb dX10_nextChange_4 rfl (lv_at hl 0 rfl) ?_
      refine G_X10_32 [] [] hx hb hT hown hK hh dX10_nextChange_5 ?_
      refine lv_aload_n hx hb dX10_nextChange_8 rfl (lv_at hl 0 rfl) ?_
      refine G_X10_283 [] [] hx hb hT hown hK hh (v := o_0.2.1 41) rfl dX10_nextChange_9 ?_
      obtain ⟨g1, h⟩ := h
      refine A_X10_8 [] [] hx hb hK hh (v := (o_0.2.2 8) (o_0.2.1 41).toNatClampNeg) g1 rfl dX10_nextChange_12 ?_
      refine lv_icmp_ge (tgt := 54) hx hb dX10_nextChange_13 (by decide) (fun c2 => ?_) (fun c2 => ?_)
      · have h := h.1 c2
        refine lv_iconst (v := 0) hx hb dX10_nextChange_54 (by decide) ?_
        exact hret _ _ _ _ _ o_0 dX10_nextChange_55 rfl h hh
      · have h := h.2 c2
        refine lv_aload_n hx hb dX10_nextChange_16 rfl (lv_at hl 0 rfl) ?_
        refine kI hh.ap0 hA (rnV hx hb hml hown hT hK hh.ap0 (c_X10_changes l D E a  o_0  h _) mf_X10_changes kml_X10_321 ⟨rfl, rfl, Nat.le_of_ble_eq_true rfl, Nat.le_of_ble_eq_true rfl⟩ ⟨Nat.le_of_ble_eq_true rfl, Nat.le_of_ble_eq_true rfl⟩ 10 0 rfl rfl hl.1 rfl dX10_nextChange_17 (Nat.le_of_ble_eq_true rfl) rfl) (fun r3 o_4 H locs h hh => ?_)
        have hh : Wh D A s.heap ((List.flatten [bX10 a E o_4])) _ _ := hh.un0
        refine lv_if_eq (tgt := 47) hx hb dX10_nextChange_20 (by decide) (fun c5 => ?_) (fun c5 => ?_)
        · have h := h.1 c5
          refine lv_aload_n hx hb dX10_nextChange_47 rfl (lv_at hl 0 rfl) ?_
          refine kV hh.ap0 hA (rnV hx hb hml hown hT hK hh.ap0 (c_X10_nextSite l D E a  o_4  h _) mf_X10_nextSite kml_X10_328 ⟨rfl, rfl, Nat.le_of_ble_eq_true rfl, Nat.le_of_ble_eq_true rfl⟩ ⟨Nat.le_of_ble_eq_true rfl, Nat.le_of_ble_eq_true rfl⟩ 10 0 rfl rfl hl.1 rfl dX10_nextChange_48 (Nat.le_of_ble_eq_true rfl) rfl) (fun o_7 H locs h hh => ?_)
          have hh : Wh D A s.heap ((List.flatten [bX10 a E o_7])) _ _ := hh.un0
          refine lv_goto (tgt := 0) hx hb dX10_nextChange_51 (by decide) ?_
          exact ih o_7 _ _ _ h hh (lv_sub hl [0] rfl)
        · have h := h.2 c5
          refine lv_aload_n hx hb dX10_nextChange_23 rfl (lv_at hl 0 rfl) ?_
          refine kI hh.ap0 hA (rnV hx hb hml hown hT hK hh.ap0 (c_X10_putRight l D E a  o_4  h _) mf_X10_putRight kml_X10_325 ⟨rfl, rfl, Nat.le_of_ble_eq_true rfl, Nat.le_of_ble_eq_true rfl⟩ ⟨Nat.le_of_ble_eq_true rfl, Nat.le_of_ble_eq_true rfl⟩ 10 0 rfl rfl hl.1 rfl dX10_nextChange_24 (Nat.le_of_ble_eq_true rfl) rfl) (fun r8 o_9 H locs h hh => ?_)
          have hh : Wh D A s.heap ((List.flatten [bX10 a E o_9])) _ _ := hh.un0
          refine lv_istore_n (lv' := [(1, .int (r8)), (0, .ref (a 0))]) hx hb dX10_nextChange_27 rfl hl (by decide) rfl (fun ls hl => ?_)
          refine lv_aload_n hx hb dX10_nextChange_28 rfl (lv_at hl 1 rfl) ?_
          refine lv_dup hx hb dX10_nextChange_29 rfl ?_
          refine G_X10_292 [] [] hx hb hT hown hK hh (v := o_9.2.1 44) rfl dX10_nextChange_30 ?_
          refine lv_iconst (v := 1) hx hb dX10_nextChange_33 (by decide) ?_
          refine lv_iadd hx hb dX10_nextChange_34 ?_
          refine P_X10_292 [] [] hx hb hT hown hK hh dX10_nextChange_35 (fun H locs (hh : Wh D A s.heap ((List.flatten [bX10 a E ((o_9.1, (upd o_9.2.1 44 (((o_9.2.1 44) + 1))), o_9.2.2))])) H locs) => ?_)
          refine lv_iload_n hx hb dX10_nextChange_38 rfl (lv_at hl 0 rfl) ?_
          refine lv_if_eq (tgt := 44) hx hb dX10_nextChange_39 (by decide) (fun c10 => ?_) (fun c10 => ?_)
          · have h := h.1 c10
            refine lv_goto (tgt := 0) hx hb dX10_nextChange_44 (by decide) ?_
            exact ih ((o_9.1, (upd o_9.2.1 44 (((o_9.2.1 44) + 1))), o_9.2.2)) _ _ _ h hh (lv_sub hl [1] rfl)
          · have h := h.2 c10
            refine lv_iload_n hx hb dX10_nextChange_42 rfl (lv_at hl 0 rfl) ?_
            exact hret _ _ _ _ _ (o_9.1, (upd o_9.2.1 44 (((o_9.2.1 44) + 1))), o_9.2.2) dX10_nextChange_43 rfl h hh
  obtain ⟨n, h⟩ := h
  refine hw0   n o _ _ _ h hh (lv_sub hl [0] rfl)

def w_X10_smaller_L32 (f1_32 : Int32) (K47_32 : Int32 → Ob → Prop) (K65_32 : Ob → Prop) (Post : Int32 → Ob → Prop) : Nat → Int32 → Ob → Prop
  | 0, _, _ => False
  | n32 + 1, p2_32, o_32 => ((f1_32 < p2_32) → K65_32 o_32) ∧ (¬ (f1_32 < p2_32) → w_X10_nextChange   o_32 (fun (r7 : Int32) (o_8 : Ob) => ((r7 = 1) → w_X10_smaller_L32 f1_32 K47_32 K65_32 Post n32 (p2_32 + 1) o_8) ∧ (¬ (r7 = 1) → K47_32 r7 o_8)))
def w_X10_smaller (x1 : Int32) (o : Ob) (Post : Int32 → Ob → Prop) : Prop := w_X10_in  x1 (0 : Int32) (20 : Int32)  (fun (r1 : Int32) => ((¬ r1 = 0) → ((0 ≤ ((o.2.2 8) (0 : Int32).toNatClampNeg)) → w_X10_beginChanges  (0 : Int32) o (fun (o_5 : Ob) => ∃ n32, w_X10_smaller_L32 x1 (fun (k3_47 : Int32) (o_k47 : Ob) => ((¬ k3_47 = 0) → Post ((-6)) o_k47) ∧ ((k3_47 = 0) → Post ((-9)) o_k47)) (fun (o_k65 : Ob) => w_X10_shows  (3 : Int32) o_k65 (fun (r11 : Int32) (o_12 : Ob) => Post r11 o_12)) Post n32 0 o_5)) ∧ (¬ (0 ≤ ((o.2.2 8) (0 : Int32).toNatClampNeg)) → Post ((-9)) o)) ∧ ((r1 = 0) → Post ((-2)) o))
set_option maxRecDepth 100000 in
set_option maxHeartbeats 4000000 in
theorem c_X10_smaller (l : Launch) (D : va_G) (E : Nat → ClassId) (a : Nat → Nat)  (o : Ob) (x1 : Int32) {Post : Int32 → Ob → Prop} (h : w_X10_smaller x1 o Post) : CtI l yX10_smaller cX10_smaller 4 .int ({ frames := 8, cells := 0, slots := 0, locals := 193 } : Room) D E [.ref (a 0), .int (x1)] (List.flatten [bX10 a E o]) (fun u : Ob => List.flatten [bX10 a E u]) Post 0 0 := by
  refine enI (by decide +kernel) (Nat.le_of_ble_eq_true rfl) ?_
  intro p e s m args below meth c Q A ls hx hb hml hown hT hK hA hret hh hl
  have hl : lv_has ls 4 [(0, .ref (a 0)), (1, .int (x1))] := hl
  unfold w_X10_smaller at h
  refine lv_iload_n hx hb dX10_smaller_0 rfl (lv_at hl 1 rfl) ?_
  refine lv_iconst (v := 0) hx hb dX10_smaller_1 (by decide) ?_
  refine lv_bipush (v := 20) hx hb dX10_smaller_2 (by decide) ?_
  refine kI hh.none hA (rnS hx hb hml hown hT hK hh.none (c_X10_in l D E    x1 (0 : Int32) (20 : Int32) h _) mf_X10_in kml_X10_126 ⟨rfl, rfl, Nat.le_of_ble_eq_true rfl, Nat.le_of_ble_eq_true rfl⟩ ⟨Nat.le_of_ble_eq_true rfl, Nat.le_of_ble_eq_true rfl⟩ hl.1 rfl dX10_smaller_4 (Nat.le_of_ble_eq_true rfl) rfl) (fun r1 u H locs h hh => ?_)
  have hh : Wh D A s.heap ((List.flatten [bX10 a E o])) _ _ := hh.unone
  refine lv_if_ne (tgt := 13) hx hb dX10_smaller_7 (by decide) (fun c2 => ?_) (fun c2 => ?_)
  · have h := h.1 c2
    refine lv_aload_n hx hb dX10_smaller_13 rfl (lv_at hl 0 rfl) ?_
    refine G_X10_32 [] [] hx hb hT hown hK hh dX10_smaller_14 ?_
    refine lv_iconst (v := 0) hx hb dX10_smaller_17 (by decide) ?_
    refine A_X10_8 [] [] hx hb hK hh (v := (o.2.2 8) (0 : Int32).toNatClampNeg) (by unfold vp_in; decide) rfl dX10_smaller_18 ?_
    refine lv_if_ge (tgt := 25) hx hb dX10_smaller_19 (by decide) (fun c3 => ?_) (fun c3 => ?_)
    · have h := h.1 c3
      refine lv_aload_n hx hb dX10_smaller_25 rfl (lv_at hl 0 rfl) ?_
      refine lv_iconst (v := 0) hx hb dX10_smaller_26 (by decide) ?_
      refine kV hh.ap0 hA (rnV hx hb hml hown hT hK hh.ap0 (c_X10_beginChanges l D E a  o (0 : Int32) h _) mf_X10_beginChanges kml_X10_331 ⟨rfl, rfl, Nat.le_of_ble_eq_true rfl, Nat.le_of_ble_eq_true rfl⟩ ⟨Nat.le_of_ble_eq_true rfl, Nat.le_of_ble_eq_true rfl⟩ 10 0 rfl rfl hl.1 rfl dX10_smaller_27 (Nat.le_of_ble_eq_true rfl) rfl) (fun o_5 H locs h hh => ?_)
      have hh : Wh D A s.heap ((List.flatten [bX10 a E o_5])) _ _ := hh.un0
      refine lv_iconst (v := 0) hx hb dX10_smaller_30 (by decide) ?_
      refine lv_istore_n (lv' := [(2, .int (0)), (0, .ref (a 0)), (1, .int (x1))]) hx hb dX10_smaller_31 rfl hl (by decide) rfl (fun ls hl => ?_)
      have hw32 : ∀ (K47_32 : Int32 → Ob → Prop) (K65_32 : Ob → Prop) (hK47_32 : ∀ (k3_47 : Int32) (o_k47 : Ob) (H : Heap) (locs : List Loc) (ls : Array Slot), K47_32 k3_47 o_k47 → Wh D A s.heap ((List.flatten [bX10 a E o_k47])) H locs → lv_has ls 4 [(3, .int (k3_47))] → W p l e ({ frames := 8, cells := 0, slots := 0, locals := 193 } : Room) s m args below meth c H locs 0 0 Q (F0 m 47 ls [])) (hK65_32 : ∀ (o_k65 : Ob) (H : Heap) (locs : List Loc) (ls : Array Slot), K65_32 o_k65 → Wh D A s.heap ((List.flatten [bX10 a E o_k65])) H locs → lv_has ls 4 [(0, .ref (a 0))] → W p l e ({ frames := 8, cells := 0, slots := 0, locals := 193 } : Room) s m args below meth c H locs 0 0 Q (F0 m 65 ls [])) (n : Nat) (p2_32 : Int32) (o_32 : Ob) (H : Heap) (locs : List Loc) (ls : Array Slot), w_X10_smaller_L32 x1 K47_32 K65_32 Post n p2_32 o_32 → Wh D A s.heap ((List.flatten [bX10 a E o_32])) H locs → lv_has ls 4 [(0, .ref (a 0)), (1, .int (x1)), (2, .int (p2_32))] → W p l e ({ frames := 8, cells := 0, slots := 0, locals := 193 } : Room) s m args below meth c H locs 0 0 Q (F0 m 32 ls []) := by
        intro K47_32 K65_32 hK47_32 hK65_32 n
        induction n with
        | zero => intro p2_32 o_32 H locs ls h hh hl; exact False.elim h
        | succ n ih =>
          intro p2_32 o_32 H locs ls h hh hl
          refine lv_iload_n hx hb dX10_smaller_32 rfl (lv_at hl 2 rfl) ?_
          refine lv_iload_n hx hb dX10_smaller_33 rfl (lv_at hl 1 rfl) ?_
          refine lv_icmp_gt (tgt := 65) hx hb dX10_smaller_34 (by decide) (fun c6 => ?_) (fun c6 => ?_)
          · have h := h.1 c6
            exact hK65_32 o_32 _ _ _ h hh (lv_sub hl [0] rfl)
          · have h := h.2 c6
            refine lv_aload_n hx hb dX10_smaller_37 rfl (lv_at hl 0 rfl) ?_
            refine kI hh.ap0 hA (rnV hx hb hml hown hT hK hh.ap0 (c_X10_nextChange l D E a  o_32  h _) mf_X10_nextChange kml_X10_334 ⟨rfl, rfl, Nat.le_of_ble_eq_true rfl, Nat.le_of_ble_eq_true rfl⟩ ⟨Nat.le_of_ble_eq_true rfl, Nat.le_of_ble_eq_true rfl⟩ 10 0 rfl rfl hl.1 rfl dX10_smaller_38 (Nat.le_of_ble_eq_true rfl) rfl) (fun r7 o_8 H locs h hh => ?_)
            have hh : Wh D A s.heap ((List.flatten [bX10 a E o_8])) _ _ := hh.un0
            refine lv_istore_n (lv' := [(3, .int (r7)), (0, .ref (a 0)), (1, .int (x1)), (2, .int (p2_32))]) hx hb dX10_smaller_41 rfl hl (by decide) rfl (fun ls hl => ?_)
            refine lv_iload_n hx hb dX10_smaller_42 rfl (lv_at hl 0 rfl) ?_
            refine lv_iconst (v := 1) hx hb dX10_smaller_43 (by decide) ?_
            refine lv_icmp_eq (tgt := 59) hx hb dX10_smaller_44 (by decide) (fun c9 => ?_) (fun c9 => ?_)
            · have h := h.1 c9
              refine lv_iinc (v := p2_32 + 1) (lv' := [(2, .int (p2_32 + 1)), (3, .int (r7)), (0, .ref (a 0)), (1, .int (x1))]) hx hb dX10_smaller_59 hl (k := 3) rfl (by rfl) (by decide) rfl (fun ls hl => ?_)
              refine lv_goto (tgt := 32) hx hb dX10_smaller_62 (by decide) ?_
              exact ih (p2_32 + 1) o_8 _ _ _ h hh (lv_sub hl [2, 3, 0] rfl)
            · have h := h.2 c9
              exact hK47_32 r7 o_8 _ _ _ h hh (lv_sub hl [0] rfl)
      obtain ⟨n, h⟩ := h
      refine hw32 _ _ (fun k3_47 o_k47 H locs ls h hh hl => ?_) (fun o_k65 H locs ls h hh hl => ?_) n 0 o_5 _ _ _ h hh (lv_sub hl [1, 2, 0] rfl)
      · refine lv_iload_n hx hb dX10_smaller_47 rfl (lv_at hl 0 rfl) ?_
        refine lv_if_ne (tgt := 56) hx hb dX10_smaller_48 (by decide) (fun c10 => ?_) (fun c10 => ?_)
        · have h := h.1 c10
          refine lv_bipush (v := (-6)) hx hb dX10_smaller_56 (by decide) ?_
          exact hret _ _ _ _ _ o_k47 dX10_smaller_58 rfl h hh
        · have h := h.2 c10
          refine lv_bipush (v := (-9)) hx hb dX10_smaller_51 (by decide) ?_
          refine lv_goto (tgt := 58) hx hb dX10_smaller_53 (by decide) ?_
          exact hret _ _ _ _ _ o_k47 dX10_smaller_58 rfl h hh
      · refine lv_aload_n hx hb dX10_smaller_65 rfl (lv_at hl 0 rfl) ?_
        refine lv_iconst (v := 3) hx hb dX10_smaller_66 (by decide) ?_
        refine kI hh.ap0 hA (rnV hx hb hml hown hT hK hh.ap0 (c_X10_shows l D E a  o_k65 (3 : Int32) h _) mf_X10_shows kml_X10_280 ⟨rfl, rfl, Nat.le_of_ble_eq_true rfl, Nat.le_of_ble_eq_true rfl⟩ ⟨Nat.le_of_ble_eq_true rfl, Nat.le_of_ble_eq_true rfl⟩ 10 0 rfl rfl hl.1 rfl dX10_smaller_67 (Nat.le_of_ble_eq_true rfl) rfl) (fun r11 o_12 H locs h hh => ?_)
        have hh : Wh D A s.heap ((List.flatten [bX10 a E o_12])) _ _ := hh.un0
        exact hret _ _ _ _ _ o_12 dX10_smaller_70 rfl h hh
    · have h := h.2 c3
      refine lv_bipush (v := (-9)) hx hb dX10_smaller_22 (by decide) ?_
      exact hret _ _ _ _ _ o dX10_smaller_24 rfl h hh
  · have h := h.2 c2
    refine lv_bipush (v := (-2)) hx hb dX10_smaller_10 (by decide) ?_
    exact hret _ _ _ _ _ o dX10_smaller_12 rfl h hh

def w_X10_reckonShown  (o : Ob) (Post : Ob → Prop) : Prop := w_X10_reckon  (0 : Int32) (0 : Int32) ((o.2.2 8) (0 : Int32).toNatClampNeg) o (fun (o_2 : Ob) => Post o_2)
set_option maxRecDepth 100000 in
set_option maxHeartbeats 4000000 in
theorem c_X10_reckonShown (l : Launch) (D : va_G) (E : Nat → ClassId) (a : Nat → Nat)  (o : Ob)  {Post : Ob → Prop} (h : w_X10_reckonShown  o Post) : CtV l yX10_reckonShown cX10_reckonShown 1 ({ frames := 4, cells := 0, slots := 0, locals := 94 } : Room) D E [.ref (a 0)] (List.flatten [bX10 a E o]) (fun u : Ob => List.flatten [bX10 a E u]) Post 0 0 := by
  refine enV (by decide +kernel) (Nat.le_of_ble_eq_true rfl) ?_
  intro p e s m args below meth c Q A ls hx hb hml hown hT hK hA hin0 hret hh hl
  have hl : lv_has ls 1 [(0, .ref (a 0))] := hl
  unfold w_X10_reckonShown at h
  refine lv_aload_n hx hb dX10_reckonShown_0 rfl (lv_at hl 0 rfl) ?_
  refine lv_iconst (v := 0) hx hb dX10_reckonShown_1 (by decide) ?_
  refine lv_iconst (v := 0) hx hb dX10_reckonShown_2 (by decide) ?_
  refine lv_aload_n hx hb dX10_reckonShown_3 rfl (lv_at hl 0 rfl) ?_
  refine G_X10_32 [] [] hx hb hT hown hK hh dX10_reckonShown_4 ?_
  refine lv_iconst (v := 0) hx hb dX10_reckonShown_7 (by decide) ?_
  refine A_X10_8 [] [] hx hb hK hh (v := (o.2.2 8) (0 : Int32).toNatClampNeg) (by unfold vp_in; decide) rfl dX10_reckonShown_8 ?_
  refine kV hh.ap0 hA (rnV hx hb hml hown hT hK hh.ap0 (c_X10_reckon l D E a  o (0 : Int32) (0 : Int32) ((o.2.2 8) (0 : Int32).toNatClampNeg) h _) mf_X10_reckon kml_X10_252 ⟨rfl, rfl, Nat.le_of_ble_eq_true rfl, Nat.le_of_ble_eq_true rfl⟩ ⟨Nat.le_of_ble_eq_true rfl, Nat.le_of_ble_eq_true rfl⟩ 10 0 rfl rfl hl.1 rfl dX10_reckonShown_9 (Nat.le_of_ble_eq_true rfl) rfl) (fun o_2 H locs h hh => ?_)
  have hh : Wh D A s.heap ((List.flatten [bX10 a E o_2])) _ _ := hh.un0
  exact hret _ _ _ _ o_2 dX10_reckonShown_12 h hh

def w_X10_sign (x1 : Int32) (o : Ob) (Post : Int64 → Ob → Prop) : Prop := ((0 ≤ ((o.2.2 8) (0 : Int32).toNatClampNeg)) → w_X10_reckonShown   o (fun (o_3 : Ob) => w_X10_in  x1 (0 : Int32) ((2 * (o_3.2.1 11)) - 1)  (fun (r4 : Int32) => ((¬ r4 = 0) → ((¬ (x1 - x1 / 2 * 2) = 0) → vp_in (x1 / 2) 1600 ∧ (Post (((o_3.2.2 13) (x1 / 2).toNatClampNeg).toInt64) o_3)) ∧ (((x1 - x1 / 2 * 2) = 0) → vp_in (x1 / 2) 1600 ∧ (Post (((o_3.2.2 12) (x1 / 2).toNatClampNeg).toInt64) o_3))) ∧ ((r4 = 0) → w_X10_lost    (fun (r9 : Int64) => Post r9 o_3))))) ∧ (¬ (0 ≤ ((o.2.2 8) (0 : Int32).toNatClampNeg)) → w_X10_lost    (fun (r10 : Int64) => Post r10 o))
set_option maxRecDepth 100000 in
set_option maxHeartbeats 4000000 in
theorem c_X10_sign (l : Launch) (D : va_G) (E : Nat → ClassId) (a : Nat → Nat)  (o : Ob) (x1 : Int32) {Post : Int64 → Ob → Prop} (h : w_X10_sign x1 o Post) : CtL l yX10_sign cX10_sign 2 ({ frames := 5, cells := 0, slots := 0, locals := 114 } : Room) D E [.ref (a 0), .int (x1)] (List.flatten [bX10 a E o]) (fun u : Ob => List.flatten [bX10 a E u]) Post 0 0 := by
  refine enL (by decide +kernel) (Nat.le_of_ble_eq_true rfl) ?_
  intro p e s m args below meth c Q A ls hx hb hml hown hT hK hA hret hh hl
  have hl : lv_has ls 2 [(0, .ref (a 0)), (1, .int (x1))] := hl
  unfold w_X10_sign at h
  refine lv_aload_n hx hb dX10_sign_0 rfl (lv_at hl 0 rfl) ?_
  refine G_X10_32 [] [] hx hb hT hown hK hh dX10_sign_1 ?_
  refine lv_iconst (v := 0) hx hb dX10_sign_4 (by decide) ?_
  refine A_X10_8 [] [] hx hb hK hh (v := (o.2.2 8) (0 : Int32).toNatClampNeg) (by unfold vp_in; decide) rfl dX10_sign_5 ?_
  refine lv_if_ge (tgt := 13) hx hb dX10_sign_6 (by decide) (fun c1 => ?_) (fun c1 => ?_)
  · have h := h.1 c1
    refine lv_aload_n hx hb dX10_sign_13 rfl (lv_at hl 0 rfl) ?_
    refine kV hh.ap0 hA (rnV hx hb hml hown hT hK hh.ap0 (c_X10_reckonShown l D E a  o  h _) mf_X10_reckonShown kml_X10_341 ⟨rfl, rfl, Nat.le_of_ble_eq_true rfl, Nat.le_of_ble_eq_true rfl⟩ ⟨Nat.le_of_ble_eq_true rfl, Nat.le_of_ble_eq_true rfl⟩ 10 0 rfl rfl hl.1 rfl dX10_sign_14 (Nat.le_of_ble_eq_true rfl) rfl) (fun o_3 H locs h hh => ?_)
    have hh : Wh D A s.heap ((List.flatten [bX10 a E o_3])) _ _ := hh.un0
    refine lv_iload_n hx hb dX10_sign_17 rfl (lv_at hl 1 rfl) ?_
    refine lv_iconst (v := 0) hx hb dX10_sign_18 (by decide) ?_
    refine lv_iconst (v := 2) hx hb dX10_sign_19 (by decide) ?_
    refine lv_aload_n hx hb dX10_sign_20 rfl (lv_at hl 0 rfl) ?_
    refine G_X10_150 [] [] hx hb hT hown hK hh (v := o_3.2.1 11) rfl dX10_sign_21 ?_
    refine lv_imul hx hb dX10_sign_24 ?_
    refine lv_iconst (v := 1) hx hb dX10_sign_25 (by decide) ?_
    refine lv_isub hx hb dX10_sign_26 ?_
    refine kI hh.none hA (rnS hx hb hml hown hT hK hh.none (c_X10_in l D E    x1 (0 : Int32) ((2 * (o_3.2.1 11)) - 1) h _) mf_X10_in kml_X10_126 ⟨rfl, rfl, Nat.le_of_ble_eq_true rfl, Nat.le_of_ble_eq_true rfl⟩ ⟨Nat.le_of_ble_eq_true rfl, Nat.le_of_ble_eq_true rfl⟩ hl.1 rfl dX10_sign_27 (Nat.le_of_ble_eq_true rfl) rfl) (fun r4 u H locs h hh => ?_)
    have hh : Wh D A s.heap ((List.flatten [bX10 a E o_3])) _ _ := hh.unone
    refine lv_if_ne (tgt := 37) hx hb dX10_sign_30 (by decide) (fun c5 => ?_) (fun c5 => ?_)
    · have h := h.1 c5
      refine lv_iload_n hx hb dX10_sign_37 rfl (lv_at hl 1 rfl) ?_
      refine lv_iconst (v := 2) hx hb dX10_sign_38 (by decide) ?_
      refine lv_irem hx hb dX10_sign_39 (by decide) ?_
      refine lv_if_ne (tgt := 55) hx hb dX10_sign_40 (by decide) (fun c6 => ?_) (fun c6 => ?_)
      · have h := h.1 c6
        refine lv_aload_n hx hb dX10_sign_55 rfl (lv_at hl 0 rfl) ?_
        refine G_X10_44 [] [] hx hb hT hown hK hh dX10_sign_56 ?_
        refine lv_iload_n hx hb dX10_sign_59 rfl (lv_at hl 1 rfl) ?_
        refine lv_iconst (v := 2) hx hb dX10_sign_60 (by decide) ?_
        refine lv_idiv hx hb dX10_sign_61 (by decide) ?_
        obtain ⟨g7, h⟩ := h
        refine A_X10_13 [] [] hx hb hK hh (v := (o_3.2.2 13) (x1 / 2).toNatClampNeg) g7 rfl dX10_sign_62 ?_
        refine lv_i2l (v := ((o_3.2.2 13) (x1 / 2).toNatClampNeg).toInt64) hx hb dX10_sign_63 rfl ?_
        exact hret _ _ _ _ _ o_3 dX10_sign_64 h hh
      · have h := h.2 c6
        refine lv_aload_n hx hb dX10_sign_43 rfl (lv_at hl 0 rfl) ?_
        refine G_X10_41 [] [] hx hb hT hown hK hh dX10_sign_44 ?_
        refine lv_iload_n hx hb dX10_sign_47 rfl (lv_at hl 1 rfl) ?_
        refine lv_iconst (v := 2) hx hb dX10_sign_48 (by decide) ?_
        refine lv_idiv hx hb dX10_sign_49 (by decide) ?_
        obtain ⟨g8, h⟩ := h
        refine A_X10_12 [] [] hx hb hK hh (v := (o_3.2.2 12) (x1 / 2).toNatClampNeg) g8 rfl dX10_sign_50 ?_
        refine lv_i2l (v := ((o_3.2.2 12) (x1 / 2).toNatClampNeg).toInt64) hx hb dX10_sign_51 rfl ?_
        refine lv_goto (tgt := 64) hx hb dX10_sign_52 (by decide) ?_
        exact hret _ _ _ _ _ o_3 dX10_sign_64 h hh
    · have h := h.2 c5
      refine kL hh.none hA (rnS hx hb hml hown hT hK hh.none (c_X10_lost l D E     h _) mf_X10_lost kml_X10_337 ⟨rfl, rfl, Nat.le_of_ble_eq_true rfl, Nat.le_of_ble_eq_true rfl⟩ ⟨Nat.le_of_ble_eq_true rfl, Nat.le_of_ble_eq_true rfl⟩ hl.1 rfl dX10_sign_33 (Nat.le_of_ble_eq_true rfl) rfl) (fun r9 u H locs h hh => ?_)
      have hh : Wh D A s.heap ((List.flatten [bX10 a E o_3])) _ _ := hh.unone
      exact hret _ _ _ _ _ o_3 dX10_sign_36 h hh
  · have h := h.2 c1
    refine kL hh.none hA (rnS hx hb hml hown hT hK hh.none (c_X10_lost l D E     h _) mf_X10_lost kml_X10_337 ⟨rfl, rfl, Nat.le_of_ble_eq_true rfl, Nat.le_of_ble_eq_true rfl⟩ ⟨Nat.le_of_ble_eq_true rfl, Nat.le_of_ble_eq_true rfl⟩ hl.1 rfl dX10_sign_9 (Nat.le_of_ble_eq_true rfl) rfl) (fun r10 u H locs h hh => ?_)
    have hh : Wh D A s.heap ((List.flatten [bX10 a E o])) _ _ := hh.unone
    exact hret _ _ _ _ _ o dX10_sign_12 h hh

def w_X10_holds (x1 : Int32) (o : Ob) (Post : Int32 → Ob → Prop) : Prop := w_X10_noCheck  x1 o (fun (r1 : Int32) (o_2 : Ob) => ((r1 = 0) → ((0 ≤ ((o_2.2.2 8) (0 : Int32).toNatClampNeg)) → w_X10_reckonShown   o_2 (fun (o_6 : Ob) => w_X10_result  x1 o_6 (fun (r7 : Int32) (o_8 : Ob) => Post r7 o_8))) ∧ (¬ (0 ≤ ((o_2.2.2 8) (0 : Int32).toNatClampNeg)) → Post ((-3)) o_2)) ∧ (¬ (r1 = 0) → Post ((-1)) o_2))
set_option maxRecDepth 100000 in
set_option maxHeartbeats 4000000 in
theorem c_X10_holds (l : Launch) (D : va_G) (E : Nat → ClassId) (a : Nat → Nat)  (o : Ob) (x1 : Int32) {Post : Int32 → Ob → Prop} (h : w_X10_holds x1 o Post) : CtI l yX10_holds cX10_holds 2 .int ({ frames := 6, cells := 0, slots := 0, locals := 148 } : Room) D E [.ref (a 0), .int (x1)] (List.flatten [bX10 a E o]) (fun u : Ob => List.flatten [bX10 a E u]) Post 0 0 := by
  refine enI (by decide +kernel) (Nat.le_of_ble_eq_true rfl) ?_
  intro p e s m args below meth c Q A ls hx hb hml hown hT hK hA hret hh hl
  have hl : lv_has ls 2 [(0, .ref (a 0)), (1, .int (x1))] := hl
  unfold w_X10_holds at h
  refine lv_aload_n hx hb dX10_holds_0 rfl (lv_at hl 0 rfl) ?_
  refine lv_iload_n hx hb dX10_holds_1 rfl (lv_at hl 1 rfl) ?_
  refine kI hh.ap0 hA (rnV hx hb hml hown hT hK hh.ap0 (c_X10_noCheck l D E a  o x1 h _) mf_X10_noCheck kml_X10_140 ⟨rfl, rfl, Nat.le_of_ble_eq_true rfl, Nat.le_of_ble_eq_true rfl⟩ ⟨Nat.le_of_ble_eq_true rfl, Nat.le_of_ble_eq_true rfl⟩ 10 0 rfl rfl hl.1 rfl dX10_holds_2 (Nat.le_of_ble_eq_true rfl) rfl) (fun r1 o_2 H locs h hh => ?_)
  have hh : Wh D A s.heap ((List.flatten [bX10 a E o_2])) _ _ := hh.un0
  refine lv_if_eq (tgt := 10) hx hb dX10_holds_5 (by decide) (fun c3 => ?_) (fun c3 => ?_)
  · have h := h.1 c3
    refine lv_aload_n hx hb dX10_holds_10 rfl (lv_at hl 0 rfl) ?_
    refine G_X10_32 [] [] hx hb hT hown hK hh dX10_holds_11 ?_
    refine lv_iconst (v := 0) hx hb dX10_holds_14 (by decide) ?_
    refine A_X10_8 [] [] hx hb hK hh (v := (o_2.2.2 8) (0 : Int32).toNatClampNeg) (by unfold vp_in; decide) rfl dX10_holds_15 ?_
    refine lv_if_ge (tgt := 22) hx hb dX10_holds_16 (by decide) (fun c4 => ?_) (fun c4 => ?_)
    · have h := h.1 c4
      refine lv_aload_n hx hb dX10_holds_22 rfl (lv_at hl 0 rfl) ?_
      refine kV hh.ap0 hA (rnV hx hb hml hown hT hK hh.ap0 (c_X10_reckonShown l D E a  o_2  h _) mf_X10_reckonShown kml_X10_341 ⟨rfl, rfl, Nat.le_of_ble_eq_true rfl, Nat.le_of_ble_eq_true rfl⟩ ⟨Nat.le_of_ble_eq_true rfl, Nat.le_of_ble_eq_true rfl⟩ 10 0 rfl rfl hl.1 rfl dX10_holds_23 (Nat.le_of_ble_eq_true rfl) rfl) (fun o_6 H locs h hh => ?_)
      have hh : Wh D A s.heap ((List.flatten [bX10 a E o_6])) _ _ := hh.un0
      refine lv_aload_n hx hb dX10_holds_26 rfl (lv_at hl 0 rfl) ?_
      refine lv_iload_n hx hb dX10_holds_27 rfl (lv_at hl 1 rfl) ?_
      refine kI hh.ap0 hA (rnV hx hb hml hown hT hK hh.ap0 (c_X10_result l D E a  o_6 x1 h _) mf_X10_result kml_X10_258 ⟨rfl, rfl, Nat.le_of_ble_eq_true rfl, Nat.le_of_ble_eq_true rfl⟩ ⟨Nat.le_of_ble_eq_true rfl, Nat.le_of_ble_eq_true rfl⟩ 10 0 rfl rfl hl.1 rfl dX10_holds_28 (Nat.le_of_ble_eq_true rfl) rfl) (fun r7 o_8 H locs h hh => ?_)
      have hh : Wh D A s.heap ((List.flatten [bX10 a E o_8])) _ _ := hh.un0
      exact hret _ _ _ _ _ o_8 dX10_holds_31 rfl h hh
    · have h := h.2 c4
      refine lv_bipush (v := (-3)) hx hb dX10_holds_19 (by decide) ?_
      exact hret _ _ _ _ _ o_2 dX10_holds_21 rfl h hh
  · have h := h.2 c3
    refine lv_iconst (v := (-1)) hx hb dX10_holds_8 (by decide) ?_
    exact hret _ _ _ _ _ o_2 dX10_holds_9 rfl h hh

def w_X10_script (x1 : Int32) (x2 : Int32) (x3 : Int32) (x4 : Int32) (o : Ob) (Post : Int64 → Ob → Prop) : Prop := jn (fun J37 : Ob → Prop => ((((o.2.2 8) (0 : Int32).toNatClampNeg) < 0) → J37 o) ∧ (¬ (((o.2.2 8) (0 : Int32).toNatClampNeg) < 0) → w_X10_in  x1 (0 : Int32) (2 : Int32)  (fun (r2 : Int32) => ((r2 = 0) → J37 o) ∧ (¬ (r2 = 0) → w_X10_in  x2 (0 : Int32) (3 : Int32)  (fun (r4 : Int32) => ((r4 = 0) → J37 o) ∧ (¬ (r4 = 0) → w_X10_in  x4 (0 : Int32) (3 : Int32)  (fun (r6 : Int32) => ((¬ r6 = 0) → w_X10_reckonShown   o (fun (o_9 : Ob) => w_X10_in  x3 (0 : Int32) (((o_9.2.1 14) / 2) - 1)  (fun (r10 : Int32) => ((¬ r10 = 0) → w_X10_runs  x1 x2 (x3 + 1) o_9 (fun (r12 : Int32) (o_13 : Ob) => ((¬ x4 = 2) → ((¬ x4 = 0) → ((¬ x4 = 1) → Post ((o_13.2.1 32).toInt64) o_13) ∧ ((x4 = 1) → Post ((o_13.2.1 30).toInt64) o_13)) ∧ ((x4 = 0) → Post ((o_13.2.1 29).toInt64) o_13)) ∧ ((x4 = 2) → (((o_13.2.1 28) = 0) → Post ((o_13.2.1 31).toInt64) o_13) ∧ (¬ ((o_13.2.1 28) = 0) → w_X10_lost    (fun (r18 : Int64) => Post r18 o_13))))) ∧ ((r10 = 0) → w_X10_lost    (fun (r19 : Int64) => Post r19 o_9))))) ∧ ((r6 = 0) → J37 o)))))))) (fun (o_37 : Ob) => w_X10_lost    (fun (r20 : Int64) => Post r20 o_37))
set_option maxRecDepth 100000 in
set_option maxHeartbeats 4000000 in
theorem c_X10_script (l : Launch) (D : va_G) (E : Nat → ClassId) (a : Nat → Nat)  (o : Ob) (x1 : Int32) (x2 : Int32) (x3 : Int32) (x4 : Int32) {Post : Int64 → Ob → Prop} (h : w_X10_script x1 x2 x3 x4 o Post) : CtL l yX10_script cX10_script 5 ({ frames := 5, cells := 0, slots := 0, locals := 114 } : Room) D E [.ref (a 0), .int (x1), .int (x2), .int (x3), .int (x4)] (List.flatten [bX10 a E o]) (fun u : Ob => List.flatten [bX10 a E u]) Post 0 0 := by
  refine enL (by decide +kernel) (Nat.le_of_ble_eq_true rfl) ?_
  intro p e s m args below meth c Q A ls hx hb hml hown hT hK hA hret hh hl
  have hl : lv_has ls 5 [(0, .ref (a 0)), (1, .int (x1)), (2, .int (x2)), (3, .int (x3)), (4, .int (x4))] := hl
  unfold w_X10_script at h
  refine lv_aload_n hx hb dX10_script_0 rfl (lv_at hl 0 rfl) ?_
  refine G_X10_32 [] [] hx hb hT hown hK hh dX10_script_1 ?_
  refine lv_iconst (v := 0) hx hb dX10_script_4 (by decide) ?_
  refine A_X10_8 [] [] hx hb hK hh (v := (o.2.2 8) (0 : Int32).toNatClampNeg) (by unfold vp_in; decide) rfl dX10_script_5 ?_
  refine jn_elim h (fun J37 hJ37 h => ?_)
  have kJ37 : ∀ (o_37 : Ob) (H : Heap) (locs : List Loc) (ls : Array Slot), J37 o_37 → Wh D A s.heap ((List.flatten [bX10 a E o_37])) H locs → lv_has ls 5 [] → W p l e ({ frames := 5, cells := 0, slots := 0, locals := 114 } : Room) s m args below meth c H locs 0 0 Q (F0 m 37 ls []) := by
    intro o_37 H locs ls h hh hl
    rw [hJ37] at h
    refine kL hh.none hA (rnS hx hb hml hown hT hK hh.none (c_X10_lost l D E     h _) mf_X10_lost kml_X10_337 ⟨rfl, rfl, Nat.le_of_ble_eq_true rfl, Nat.le_of_ble_eq_true rfl⟩ ⟨Nat.le_of_ble_eq_true rfl, Nat.le_of_ble_eq_true rfl⟩ hl.1 rfl dX10_script_37 (Nat.le_of_ble_eq_true rfl) rfl) (fun r20 u H locs h hh => ?_)
    have hh : Wh D A s.heap ((List.flatten [bX10 a E o_37])) _ _ := hh.unone
    exact hret _ _ _ _ _ o_37 dX10_script_40 h hh
  refine lv_if_lt (tgt := 37) hx hb dX10_script_6 (by decide) (fun c1 => ?_) (fun c1 => ?_)
  · have h := h.1 c1
    exact kJ37 o _ _ _ h hh (lv_sub hl [] rfl)
  · have h := h.2 c1
    refine lv_iload_n hx hb dX10_script_9 rfl (lv_at hl 1 rfl) ?_
    refine lv_iconst (v := 0) hx hb dX10_script_10 (by decide) ?_
    refine lv_iconst (v := 2) hx hb dX10_script_11 (by decide) ?_
    refine kI hh.none hA (rnS hx hb hml hown hT hK hh.none (c_X10_in l D E    x1 (0 : Int32) (2 : Int32) h _) mf_X10_in kml_X10_126 ⟨rfl, rfl, Nat.le_of_ble_eq_true rfl, Nat.le_of_ble_eq_true rfl⟩ ⟨Nat.le_of_ble_eq_true rfl, Nat.le_of_ble_eq_true rfl⟩ hl.1 rfl dX10_script_12 (Nat.le_of_ble_eq_true rfl) rfl) (fun r2 u H locs h hh => ?_)
    have hh : Wh D A s.heap ((List.flatten [bX10 a E o])) _ _ := hh.unone
    refine lv_if_eq (tgt := 37) hx hb dX10_script_15 (by decide) (fun c3 => ?_) (fun c3 => ?_)
    · have h := h.1 c3
      exact kJ37 o _ _ _ h hh (lv_sub hl [] rfl)
    · have h := h.2 c3
      refine lv_iload_n hx hb dX10_script_18 rfl (lv_at hl 2 rfl) ?_
      refine lv_iconst (v := 0) hx hb dX10_script_19 (by decide) ?_
      refine lv_iconst (v := 3) hx hb dX10_script_20 (by decide) ?_
      refine kI hh.none hA (rnS hx hb hml hown hT hK hh.none (c_X10_in l D E    x2 (0 : Int32) (3 : Int32) h _) mf_X10_in kml_X10_126 ⟨rfl, rfl, Nat.le_of_ble_eq_true rfl, Nat.le_of_ble_eq_true rfl⟩ ⟨Nat.le_of_ble_eq_true rfl, Nat.le_of_ble_eq_true rfl⟩ hl.1 rfl dX10_script_21 (Nat.le_of_ble_eq_true rfl) rfl) (fun r4 u H locs h hh => ?_)
      have hh : Wh D A s.heap ((List.flatten [bX10 a E o])) _ _ := hh.unone
      refine lv_if_eq (tgt := 37) hx hb dX10_script_24 (by decide) (fun c5 => ?_) (fun c5 => ?_)
      · have h := h.1 c5
        exact kJ37 o _ _ _ h hh (lv_sub hl [] rfl)
      · have h := h.2 c5
        refine lv_iload hx hb dX10_script_27 (lv_at hl 4 rfl) ?_
        refine lv_iconst (v := 0) hx hb dX10_script_29 (by decide) ?_
        refine lv_iconst (v := 3) hx hb dX10_script_30 (by decide) ?_
        refine kI hh.none hA (rnS hx hb hml hown hT hK hh.none (c_X10_in l D E    x4 (0 : Int32) (3 : Int32) h _) mf_X10_in kml_X10_126 ⟨rfl, rfl, Nat.le_of_ble_eq_true rfl, Nat.le_of_ble_eq_true rfl⟩ ⟨Nat.le_of_ble_eq_true rfl, Nat.le_of_ble_eq_true rfl⟩ hl.1 rfl dX10_script_31 (Nat.le_of_ble_eq_true rfl) rfl) (fun r6 u H locs h hh => ?_)
        have hh : Wh D A s.heap ((List.flatten [bX10 a E o])) _ _ := hh.unone
        refine lv_if_ne (tgt := 41) hx hb dX10_script_34 (by decide) (fun c7 => ?_) (fun c7 => ?_)
        · have h := h.1 c7
          refine lv_aload_n hx hb dX10_script_41 rfl (lv_at hl 0 rfl) ?_
          refine kV hh.ap0 hA (rnV hx hb hml hown hT hK hh.ap0 (c_X10_reckonShown l D E a  o  h _) mf_X10_reckonShown kml_X10_341 ⟨rfl, rfl, Nat.le_of_ble_eq_true rfl, Nat.le_of_ble_eq_true rfl⟩ ⟨Nat.le_of_ble_eq_true rfl, Nat.le_of_ble_eq_true rfl⟩ 10 0 rfl rfl hl.1 rfl dX10_script_42 (Nat.le_of_ble_eq_true rfl) rfl) (fun o_9 H locs h hh => ?_)
          have hh : Wh D A s.heap ((List.flatten [bX10 a E o_9])) _ _ := hh.un0
          refine lv_iload_n hx hb dX10_script_45 rfl (lv_at hl 3 rfl) ?_
          refine lv_iconst (v := 0) hx hb dX10_script_46 (by decide) ?_
          refine lv_aload_n hx hb dX10_script_47 rfl (lv_at hl 0 rfl) ?_
          refine G_X10_147 [] [] hx hb hT hown hK hh (v := o_9.2.1 14) rfl dX10_script_48 ?_
          refine lv_iconst (v := 2) hx hb dX10_script_51 (by decide) ?_
          refine lv_idiv hx hb dX10_script_52 (by decide) ?_
          refine lv_iconst (v := 1) hx hb dX10_script_53 (by decide) ?_
          refine lv_isub hx hb dX10_script_54 ?_
          refine kI hh.none hA (rnS hx hb hml hown hT hK hh.none (c_X10_in l D E    x3 (0 : Int32) (((o_9.2.1 14) / 2) - 1) h _) mf_X10_in kml_X10_126 ⟨rfl, rfl, Nat.le_of_ble_eq_true rfl, Nat.le_of_ble_eq_true rfl⟩ ⟨Nat.le_of_ble_eq_true rfl, Nat.le_of_ble_eq_true rfl⟩ hl.1 rfl dX10_script_55 (Nat.le_of_ble_eq_true rfl) rfl) (fun r10 u H locs h hh => ?_)
          have hh : Wh D A s.heap ((List.flatten [bX10 a E o_9])) _ _ := hh.unone
          refine lv_if_ne (tgt := 65) hx hb dX10_script_58 (by decide) (fun c11 => ?_) (fun c11 => ?_)
          · have h := h.1 c11
            refine lv_aload_n hx hb dX10_script_65 rfl (lv_at hl 0 rfl) ?_
            refine lv_iload_n hx hb dX10_script_66 rfl (lv_at hl 1 rfl) ?_
            refine lv_iload_n hx hb dX10_script_67 rfl (lv_at hl 2 rfl) ?_
            refine lv_iload_n hx hb dX10_script_68 rfl (lv_at hl 3 rfl) ?_
            refine lv_iconst (v := 1) hx hb dX10_script_69 (by decide) ?_
            refine lv_iadd hx hb dX10_script_70 ?_
            refine kI hh.ap0 hA (rnV hx hb hml hown hT hK hh.ap0 (c_X10_runs l D E a  o_9 x1 x2 (x3 + 1) h _) mf_X10_runs kml_X10_211 ⟨rfl, rfl, Nat.le_of_ble_eq_true rfl, Nat.le_of_ble_eq_true rfl⟩ ⟨Nat.le_of_ble_eq_true rfl, Nat.le_of_ble_eq_true rfl⟩ 10 0 rfl rfl hl.1 rfl dX10_script_71 (Nat.le_of_ble_eq_true rfl) rfl) (fun r12 o_13 H locs h hh => ?_)
            have hh : Wh D A s.heap ((List.flatten [bX10 a E o_13])) _ _ := hh.un0
            refine lv_pop hx hb dX10_script_74 rfl ?_
            refine lv_iload hx hb dX10_script_75 (lv_at hl 4 rfl) ?_
            refine lv_iconst (v := 2) hx hb dX10_script_77 (by decide) ?_
            refine lv_icmp_ne (tgt := 100) hx hb dX10_script_78 (by decide) (fun c14 => ?_) (fun c14 => ?_)
            · have h := h.1 c14
              refine lv_iload hx hb dX10_script_100 (lv_at hl 4 rfl) ?_
              refine lv_if_ne (tgt := 113) hx hb dX10_script_102 (by decide) (fun c15 => ?_) (fun c15 => ?_)
              · have h := h.1 c15
                refine lv_iload hx hb dX10_script_113 (lv_at hl 4 rfl) ?_
                refine lv_iconst (v := 1) hx hb dX10_script_115 (by decide) ?_
                refine lv_icmp_ne (tgt := 127) hx hb dX10_script_116 (by decide) (fun c16 => ?_) (fun c16 => ?_)
                · have h := h.1 c16
                  refine lv_aload_n hx hb dX10_script_127 rfl (lv_at hl 0 rfl) ?_
                  refine G_X10_205 [] [] hx hb hT hown hK hh (v := o_13.2.1 32) rfl dX10_script_128 ?_
                  refine lv_i2l (v := (o_13.2.1 32).toInt64) hx hb dX10_script_131 rfl ?_
                  exact hret _ _ _ _ _ o_13 dX10_script_132 h hh
                · have h := h.2 c16
                  refine lv_aload_n hx hb dX10_script_119 rfl (lv_at hl 0 rfl) ?_
                  refine G_X10_198 [] [] hx hb hT hown hK hh (v := o_13.2.1 30) rfl dX10_script_120 ?_
                  refine lv_i2l (v := (o_13.2.1 30).toInt64) hx hb dX10_script_123 rfl ?_
                  refine lv_goto (tgt := 132) hx hb dX10_script_124 (by decide) ?_
                  exact hret _ _ _ _ _ o_13 dX10_script_132 h hh
              · have h := h.2 c15
                refine lv_aload_n hx hb dX10_script_105 rfl (lv_at hl 0 rfl) ?_
                refine G_X10_195 [] [] hx hb hT hown hK hh (v := o_13.2.1 29) rfl dX10_script_106 ?_
                refine lv_i2l (v := (o_13.2.1 29).toInt64) hx hb dX10_script_109 rfl ?_
                refine lv_goto (tgt := 132) hx hb dX10_script_110 (by decide) ?_
                exact hret _ _ _ _ _ o_13 dX10_script_132 h hh
            · have h := h.2 c14
              refine lv_aload_n hx hb dX10_script_81 rfl (lv_at hl 0 rfl) ?_
              refine G_X10_185 [] [] hx hb hT hown hK hh (v := o_13.2.1 28) rfl dX10_script_82 ?_
              refine lv_if_eq (tgt := 94) hx hb dX10_script_85 (by decide) (fun c17 => ?_) (fun c17 => ?_)
              · have h := h.1 c17
                refine lv_aload_n hx hb dX10_script_94 rfl (lv_at hl 0 rfl) ?_
                refine G_X10_208 [] [] hx hb hT hown hK hh (v := o_13.2.1 31) rfl dX10_script_95 ?_
                refine lv_i2l (v := (o_13.2.1 31).toInt64) hx hb dX10_script_98 rfl ?_
                exact hret _ _ _ _ _ o_13 dX10_script_99 h hh
              · have h := h.2 c17
                refine kL hh.none hA (rnS hx hb hml hown hT hK hh.none (c_X10_lost l D E     h _) mf_X10_lost kml_X10_337 ⟨rfl, rfl, Nat.le_of_ble_eq_true rfl, Nat.le_of_ble_eq_true rfl⟩ ⟨Nat.le_of_ble_eq_true rfl, Nat.le_of_ble_eq_true rfl⟩ hl.1 rfl dX10_script_88 (Nat.le_of_ble_eq_true rfl) rfl) (fun r18 u H locs h hh => ?_)
                have hh : Wh D A s.heap ((List.flatten [bX10 a E o_13])) _ _ := hh.unone
                refine lv_goto (tgt := 99) hx hb dX10_script_91 (by decide) ?_
                exact hret _ _ _ _ _ o_13 dX10_script_99 h hh
          · have h := h.2 c11
            refine kL hh.none hA (rnS hx hb hml hown hT hK hh.none (c_X10_lost l D E     h _) mf_X10_lost kml_X10_337 ⟨rfl, rfl, Nat.le_of_ble_eq_true rfl, Nat.le_of_ble_eq_true rfl⟩ ⟨Nat.le_of_ble_eq_true rfl, Nat.le_of_ble_eq_true rfl⟩ hl.1 rfl dX10_script_61 (Nat.le_of_ble_eq_true rfl) rfl) (fun r19 u H locs h hh => ?_)
            have hh : Wh D A s.heap ((List.flatten [bX10 a E o_9])) _ _ := hh.unone
            exact hret _ _ _ _ _ o_9 dX10_script_64 h hh
        · have h := h.2 c7
          exact kJ37 o _ _ _ h hh (lv_sub hl [] rfl)

def w_X10_draw_L28 (f3_28 : Int32) (f4_28 : Int32) (K56_28 : Ob → Prop) (Post : Int32 → Ob → Prop) : Nat → Int32 → Ob → Prop
  | 0, _, _ => False
  | n28 + 1, p5_28, o_28 => ((f3_28 ≤ p5_28) → K56_28 o_28) ∧ (¬ (f3_28 ≤ p5_28) → w_X10_draw_L28 f3_28 f4_28 K56_28 Post n28 (p5_28 + 1) (((sl o_28.1 33 ((((o_28.1 33) * 6364136223846793005) + 1442695040888963407))), o_28.2.1, o_28.2.2)))
def w_X10_draw (x1 : Int64) (x3 : Int32) (x4 : Int32) (o : Ob) (Post : Int32 → Ob → Prop) : Prop := ((x4 < 1) → Post ((-2)) o) ∧ (¬ (x4 < 1) → w_X10_in  x3 (0 : Int32) (1000 : Int32)  (fun (r2 : Int32) => ((¬ r2 = 0) → ∃ n28, w_X10_draw_L28 x3 x4 (fun (o_k56 : Ob) => w_X10_number  x4 o_k56 (fun (r5 : Int32) (o_6 : Ob) => Post r5 o_6)) Post n28 0 (((sl o.1 33 x1), o.2.1, o.2.2))) ∧ ((r2 = 0) → Post ((-2)) o)))
set_option maxRecDepth 100000 in
set_option maxHeartbeats 4000000 in
theorem c_X10_draw (l : Launch) (D : va_G) (E : Nat → ClassId) (a : Nat → Nat)  (o : Ob) (x1 : Int64) (x3 : Int32) (x4 : Int32) {Post : Int32 → Ob → Prop} (h : w_X10_draw x1 x3 x4 o Post) : CtI l yX10_draw cX10_draw 6 .int ({ frames := 1, cells := 0, slots := 0, locals := 22 } : Room) D E [.ref (a 0), .long (x1), .int (x3), .int (x4)] (List.flatten [bX10 a E o]) (fun u : Ob => List.flatten [bX10 a E u]) Post 0 0 := by
  refine enI (by decide +kernel) (Nat.le_of_ble_eq_true rfl) ?_
  intro p e s m args below meth c Q A ls hx hb hml hown hT hK hA hret hh hl
  have hl : lv_has ls 6 [(0, .ref (a 0)), (1, .long (x1)), (3, .int (x3)), (4, .int (x4))] := hl
  unfold w_X10_draw at h
  refine lv_iload hx hb dX10_draw_0 (lv_at hl 3 rfl) ?_
  refine lv_iconst (v := 1) hx hb dX10_draw_2 (by decide) ?_
  refine lv_icmp_lt (tgt := 17) hx hb dX10_draw_3 (by decide) (fun c1 => ?_) (fun c1 => ?_)
  · have h := h.1 c1
    refine lv_bipush (v := (-2)) hx hb dX10_draw_17 (by decide) ?_
    exact hret _ _ _ _ _ o dX10_draw_19 rfl h hh
  · have h := h.2 c1
    refine lv_iload_n hx hb dX10_draw_6 rfl (lv_at hl 2 rfl) ?_
    refine lv_iconst (v := 0) hx hb dX10_draw_7 (by decide) ?_
    refine lv_sipush (v := 1000) hx hb dX10_draw_8 (by decide) ?_
    refine kI hh.none hA (rnS hx hb hml hown hT hK hh.none (c_X10_in l D E    x3 (0 : Int32) (1000 : Int32) h _) mf_X10_in kml_X10_126 ⟨rfl, rfl, Nat.le_of_ble_eq_true rfl, Nat.le_of_ble_eq_true rfl⟩ ⟨Nat.le_of_ble_eq_true rfl, Nat.le_of_ble_eq_true rfl⟩ hl.1 rfl dX10_draw_11 (Nat.le_of_ble_eq_true rfl) rfl) (fun r2 u H locs h hh => ?_)
    have hh : Wh D A s.heap ((List.flatten [bX10 a E o])) _ _ := hh.unone
    refine lv_if_ne (tgt := 20) hx hb dX10_draw_14 (by decide) (fun c3 => ?_) (fun c3 => ?_)
    · have h := h.1 c3
      refine lv_aload_n hx hb dX10_draw_20 rfl (lv_at hl 0 rfl) ?_
      refine lv_lload_n hx hb dX10_draw_21 rfl (lv_at hl 1 rfl) ?_
      refine P_X10_232 [] [] hx hb hT hown hK hh dX10_draw_22 (fun H locs (hh : Wh D A s.heap ((List.flatten [bX10 a E (((sl o.1 33 x1), o.2.1, o.2.2))])) H locs) => ?_)
      refine lv_iconst (v := 0) hx hb dX10_draw_25 (by decide) ?_
      refine lv_istore (lv' := [(5, .int (0)), (0, .ref (a 0)), (1, .long (x1)), (3, .int (x3)), (4, .int (x4))]) hx hb dX10_draw_26 hl (by decide) rfl (fun ls hl => ?_)
      have hw28 : ∀ (K56_28 : Ob → Prop) (hK56_28 : ∀ (o_k56 : Ob) (H : Heap) (locs : List Loc) (ls : Array Slot), K56_28 o_k56 → Wh D A s.heap ((List.flatten [bX10 a E o_k56])) H locs → lv_has ls 6 [(0, .ref (a 0)), (4, .int (x4))] → W p l e ({ frames := 1, cells := 0, slots := 0, locals := 22 } : Room) s m args below meth c H locs 0 0 Q (F0 m 56 ls [])) (n : Nat) (p5_28 : Int32) (o_28 : Ob) (H : Heap) (locs : List Loc) (ls : Array Slot), w_X10_draw_L28 x3 x4 K56_28 Post n p5_28 o_28 → Wh D A s.heap ((List.flatten [bX10 a E o_28])) H locs → lv_has ls 6 [(0, .ref (a 0)), (3, .int (x3)), (4, .int (x4)), (5, .int (p5_28))] → W p l e ({ frames := 1, cells := 0, slots := 0, locals := 22 } : Room) s m args below meth c H locs 0 0 Q (F0 m 28 ls []) := by
        intro K56_28 hK56_28 n
        induction n with
        | zero => intro p5_28 o_28 H locs ls h hh hl; exact False.elim h
        | succ n ih =>
          intro p5_28 o_28 H locs ls h hh hl
          refine lv_iload hx hb dX10_draw_28 (lv_at hl 3 rfl) ?_
          refine lv_iload_n hx hb dX10_draw_30 rfl (lv_at hl 1 rfl) ?_
          refine lv_icmp_ge (tgt := 56) hx hb dX10_draw_31 (by decide) (fun c4 => ?_) (fun c4 => ?_)
          · have h := h.1 c4
            exact hK56_28 o_28 _ _ _ h hh (lv_sub hl [0, 2] rfl)
          · have h := h.2 c4
            refine lv_aload_n hx hb dX10_draw_34 rfl (lv_at hl 0 rfl) ?_
            refine lv_aload_n hx hb dX10_draw_35 rfl (lv_at hl 0 rfl) ?_
            refine G_X10_232 [] [] hx hb hT hown hK hh (v := o_28.1 33) rfl dX10_draw_36 ?_
            refine lv_ldc2 (v := 6364136223846793005) hx hb hown (hT _ kcL_X10_236) dX10_draw_39 ?_
            refine lv_lmul hx hb dX10_draw_42 ?_
            refine lv_ldc2 (v := 1442695040888963407) hx hb hown (hT _ kcL_X10_238) dX10_draw_43 ?_
            refine lv_ladd hx hb dX10_draw_46 ?_
            refine P_X10_232 [] [] hx hb hT hown hK hh dX10_draw_47 (fun H locs (hh : Wh D A s.heap ((List.flatten [bX10 a E (((sl o_28.1 33 ((((o_28.1 33) * 6364136223846793005) + 1442695040888963407))), o_28.2.1, o_28.2.2))])) H locs) => ?_)
            refine lv_iinc (v := p5_28 + 1) (lv' := [(5, .int (p5_28 + 1)), (0, .ref (a 0)), (3, .int (x3)), (4, .int (x4))]) hx hb dX10_draw_50 hl (k := 3) rfl (by rfl) (by decide) rfl (fun ls hl => ?_)
            refine lv_goto (tgt := 28) hx hb dX10_draw_53 (by decide) ?_
            exact ih (p5_28 + 1) (((sl o_28.1 33 ((((o_28.1 33) * 6364136223846793005) + 1442695040888963407))), o_28.2.1, o_28.2.2)) _ _ _ h hh (lv_sub hl [1, 2, 3, 0] rfl)
      obtain ⟨n, h⟩ := h
      refine hw28 _ (fun o_k56 H locs ls h hh hl => ?_) n 0 (((sl o.1 33 x1), o.2.1, o.2.2)) _ _ _ h hh (lv_sub hl [1, 3, 4, 0] rfl)
      refine lv_aload_n hx hb dX10_draw_56 rfl (lv_at hl 0 rfl) ?_
      refine lv_iload hx hb dX10_draw_57 (lv_at hl 1 rfl) ?_
      refine kI hh.ap0 hA (rnV hx hb hml hown hT hK hh.ap0 (c_X10_number l D E a  o_k56 x4 h _) mf_X10_number kml_X10_246 ⟨rfl, rfl, Nat.le_of_ble_eq_true rfl, Nat.le_of_ble_eq_true rfl⟩ ⟨Nat.le_of_ble_eq_true rfl, Nat.le_of_ble_eq_true rfl⟩ 10 0 rfl rfl hl.1 rfl dX10_draw_59 (Nat.le_of_ble_eq_true rfl) rfl) (fun r5 o_6 H locs h hh => ?_)
      have hh : Wh D A s.heap ((List.flatten [bX10 a E o_6])) _ _ := hh.un0
      exact hret _ _ _ _ _ o_6 dX10_draw_62 rfl h hh
    · have h := h.2 c3
      refine lv_bipush (v := (-2)) hx hb dX10_draw_17 (by decide) ?_
      exact hret _ _ _ _ _ o dX10_draw_19 rfl h hh

def w_X10_property (x1 : Int32) (x2 : Int32) (o : Ob) (Post : Int32 → Ob → Prop) : Prop := w_X10_noMaker  x1 o (fun (r1 : Int32) (o_2 : Ob) => ((¬ r1 = 0) → Post ((-1)) o_2) ∧ ((r1 = 0) → w_X10_noCheck  x2 o_2 (fun (r4 : Int32) (o_5 : Ob) => ((r4 = 0) → ((¬ (o_5.2.1 45) = 20) → vp_in (o_5.2.1 45) 20 ∧ (vp_in (o_5.2.1 45) 20 ∧ (vp_in (o_5.2.1 45) 20 ∧ (Post ((((o_5.2.1 45) + 1)) - 1) ((o_5.1, (upd o_5.2.1 45 (((o_5.2.1 45) + 1))), (sa (sa (sa o_5.2.2 46 (upd (o_5.2.2 46) (o_5.2.1 45).toNatClampNeg x1)) 47 (upd (o_5.2.2 47) (o_5.2.1 45).toNatClampNeg x2)) 48 (upd (o_5.2.2 48) (o_5.2.1 45).toNatClampNeg (0 : Int32))))))))) ∧ (((o_5.2.1 45) = 20) → Post ((-4)) o_5)) ∧ (¬ (r4 = 0) → Post ((-1)) o_5))))
set_option maxRecDepth 100000 in
set_option maxHeartbeats 4000000 in
theorem c_X10_property (l : Launch) (D : va_G) (E : Nat → ClassId) (a : Nat → Nat)  (o : Ob) (x1 : Int32) (x2 : Int32) {Post : Int32 → Ob → Prop} (h : w_X10_property x1 x2 o Post) : CtI l yX10_property cX10_property 3 .int ({ frames := 2, cells := 0, slots := 0, locals := 43 } : Room) D E [.ref (a 0), .int (x1), .int (x2)] (List.flatten [bX10 a E o]) (fun u : Ob => List.flatten [bX10 a E u]) Post 0 0 := by
  refine enI (by decide +kernel) (Nat.le_of_ble_eq_true rfl) ?_
  intro p e s m args below meth c Q A ls hx hb hml hown hT hK hA hret hh hl
  have hl : lv_has ls 3 [(0, .ref (a 0)), (1, .int (x1)), (2, .int (x2))] := hl
  unfold w_X10_property at h
  refine lv_aload_n hx hb dX10_property_0 rfl (lv_at hl 0 rfl) ?_
  refine lv_iload_n hx hb dX10_property_1 rfl (lv_at hl 1 rfl) ?_
  refine kI hh.ap0 hA (rnV hx hb hml hown hT hK hh.ap0 (c_X10_noMaker l D E a  o x1 h _) mf_X10_noMaker kml_X10_136 ⟨rfl, rfl, Nat.le_of_ble_eq_true rfl, Nat.le_of_ble_eq_true rfl⟩ ⟨Nat.le_of_ble_eq_true rfl, Nat.le_of_ble_eq_true rfl⟩ 10 0 rfl rfl hl.1 rfl dX10_property_2 (Nat.le_of_ble_eq_true rfl) rfl) (fun r1 o_2 H locs h hh => ?_)
  have hh : Wh D A s.heap ((List.flatten [bX10 a E o_2])) _ _ := hh.un0
  refine lv_if_ne (tgt := 16) hx hb dX10_property_5 (by decide) (fun c3 => ?_) (fun c3 => ?_)
  · have h := h.1 c3
    refine lv_iconst (v := (-1)) hx hb dX10_property_16 (by decide) ?_
    exact hret _ _ _ _ _ o_2 dX10_property_17 rfl h hh
  · have h := h.2 c3
    refine lv_aload_n hx hb dX10_property_8 rfl (lv_at hl 0 rfl) ?_
    refine lv_iload_n hx hb dX10_property_9 rfl (lv_at hl 2 rfl) ?_
    refine kI hh.ap0 hA (rnV hx hb hml hown hT hK hh.ap0 (c_X10_noCheck l D E a  o_2 x2 h _) mf_X10_noCheck kml_X10_140 ⟨rfl, rfl, Nat.le_of_ble_eq_true rfl, Nat.le_of_ble_eq_true rfl⟩ ⟨Nat.le_of_ble_eq_true rfl, Nat.le_of_ble_eq_true rfl⟩ 10 0 rfl rfl hl.1 rfl dX10_property_10 (Nat.le_of_ble_eq_true rfl) rfl) (fun r4 o_5 H locs h hh => ?_)
    have hh : Wh D A s.heap ((List.flatten [bX10 a E o_5])) _ _ := hh.un0
    refine lv_if_eq (tgt := 18) hx hb dX10_property_13 (by decide) (fun c6 => ?_) (fun c6 => ?_)
    · have h := h.1 c6
      refine lv_aload_n hx hb dX10_property_18 rfl (lv_at hl 0 rfl) ?_
      refine G_X10_344 [] [] hx hb hT hown hK hh (v := o_5.2.1 45) rfl dX10_property_19 ?_
      refine lv_bipush (v := 20) hx hb dX10_property_22 (by decide) ?_
      refine lv_icmp_ne (tgt := 30) hx hb dX10_property_24 (by decide) (fun c7 => ?_) (fun c7 => ?_)
      · have h := h.1 c7
        refine lv_aload_n hx hb dX10_property_30 rfl (lv_at hl 0 rfl) ?_
        refine G_X10_95 [] [] hx hb hT hown hK hh dX10_property_31 ?_
        refine lv_aload_n hx hb dX10_property_34 rfl (lv_at hl 0 rfl) ?_
        refine G_X10_344 [] [] hx hb hT hown hK hh (v := o_5.2.1 45) rfl dX10_property_35 ?_
        refine lv_iload_n hx hb dX10_property_38 rfl (lv_at hl 1 rfl) ?_
        obtain ⟨g8, h⟩ := h
        refine S_X10_46 [] [] hx hb hK hh g8 dX10_property_39 (fun H locs (hh : Wh D A s.heap ((List.flatten [bX10 a E ((o_5.1, o_5.2.1, (sa o_5.2.2 46 (upd (o_5.2.2 46) (o_5.2.1 45).toNatClampNeg x1))))])) H locs) => ?_)
        refine lv_aload_n hx hb dX10_property_40 rfl (lv_at hl 0 rfl) ?_
        refine G_X10_98 [] [] hx hb hT hown hK hh dX10_property_41 ?_
        refine lv_aload_n hx hb dX10_property_44 rfl (lv_at hl 0 rfl) ?_
        refine G_X10_344 [] [] hx hb hT hown hK hh (v := o_5.2.1 45) rfl dX10_property_45 ?_
        refine lv_iload_n hx hb dX10_property_48 rfl (lv_at hl 2 rfl) ?_
        obtain ⟨g9, h⟩ := h
        refine S_X10_47 [] [] hx hb hK hh g9 dX10_property_49 (fun H locs (hh : Wh D A s.heap ((List.flatten [bX10 a E ((o_5.1, o_5.2.1, (sa (sa o_5.2.2 46 (upd (o_5.2.2 46) (o_5.2.1 45).toNatClampNeg x1)) 47 (upd (o_5.2.2 47) (o_5.2.1 45).toNatClampNeg x2))))])) H locs) => ?_)
        refine lv_aload_n hx hb dX10_property_50 rfl (lv_at hl 0 rfl) ?_
        refine G_X10_101 [] [] hx hb hT hown hK hh dX10_property_51 ?_
        refine lv_aload_n hx hb dX10_property_54 rfl (lv_at hl 0 rfl) ?_
        refine G_X10_344 [] [] hx hb hT hown hK hh (v := o_5.2.1 45) rfl dX10_property_55 ?_
        refine lv_iconst (v := 0) hx hb dX10_property_58 (by decide) ?_
        obtain ⟨g10, h⟩ := h
        refine S_X10_48 [] [] hx hb hK hh g10 dX10_property_59 (fun H locs (hh : Wh D A s.heap ((List.flatten [bX10 a E ((o_5.1, o_5.2.1, (sa (sa (sa o_5.2.2 46 (upd (o_5.2.2 46) (o_5.2.1 45).toNatClampNeg x1)) 47 (upd (o_5.2.2 47) (o_5.2.1 45).toNatClampNeg x2)) 48 (upd (o_5.2.2 48) (o_5.2.1 45).toNatClampNeg (0 : Int32)))))])) H locs) => ?_)
        refine lv_aload_n hx hb dX10_property_60 rfl (lv_at hl 0 rfl) ?_
        refine lv_dup hx hb dX10_property_61 rfl ?_
        refine G_X10_344 [] [] hx hb hT hown hK hh (v := o_5.2.1 45) rfl dX10_property_62 ?_
        refine lv_iconst (v := 1) hx hb dX10_property_65 (by decide) ?_
        refine lv_iadd hx hb dX10_property_66 ?_
        refine P_X10_344 [] [] hx hb hT hown hK hh dX10_property_67 (fun H locs (hh : Wh D A s.heap ((List.flatten [bX10 a E ((o_5.1, (upd o_5.2.1 45 (((o_5.2.1 45) + 1))), (sa (sa (sa o_5.2.2 46 (upd (o_5.2.2 46) (o_5.2.1 45).toNatClampNeg x1)) 47 (upd (o_5.2.2 47) (o_5.2.1 45).toNatClampNeg x2)) 48 (upd (o_5.2.2 48) (o_5.2.1 45).toNatClampNeg (0 : Int32)))))])) H locs) => ?_)
        refine lv_aload_n hx hb dX10_property_70 rfl (lv_at hl 0 rfl) ?_
        refine G_X10_344 [] [] hx hb hT hown hK hh (v := ((o_5.2.1 45) + 1)) rfl dX10_property_71 ?_
        refine lv_iconst (v := 1) hx hb dX10_property_74 (by decide) ?_
        refine lv_isub hx hb dX10_property_75 ?_
        exact hret _ _ _ _ _ (o_5.1, (upd o_5.2.1 45 (((o_5.2.1 45) + 1))), (sa (sa (sa o_5.2.2 46 (upd (o_5.2.2 46) (o_5.2.1 45).toNatClampNeg x1)) 47 (upd (o_5.2.2 47) (o_5.2.1 45).toNatClampNeg x2)) 48 (upd (o_5.2.2 48) (o_5.2.1 45).toNatClampNeg (0 : Int32)))) dX10_property_76 rfl h hh
      · have h := h.2 c7
        refine lv_bipush (v := (-4)) hx hb dX10_property_27 (by decide) ?_
        exact hret _ _ _ _ _ o_5 dX10_property_29 rfl h hh
    · have h := h.2 c6
      refine lv_iconst (v := (-1)) hx hb dX10_property_16 (by decide) ?_
      exact hret _ _ _ _ _ o_5 dX10_property_17 rfl h hh

def w_X10_label (x1 : Int32) (x2 : Int32) (o : Ob) (Post : Int32 → Ob → Prop) : Prop := w_X10_in  x1 (0 : Int32) ((o.2.1 45) - 1)  (fun (r1 : Int32) => ((r1 = 0) → Post ((-1)) o) ∧ (¬ (r1 = 0) → w_X10_noCheck  x2 o (fun (r3 : Int32) (o_4 : Ob) => ((r3 = 0) → vp_in x1 20 ∧ (((¬ ((o_4.2.2 48) x1.toNatClampNeg) = 3) → vp_in x1 20 ∧ (vp_in ((3 * x1) + ((o_4.2.2 48) x1.toNatClampNeg)) 60 ∧ (vp_in x1 20 ∧ (vp_in x1 20 ∧ (vp_in x1 20 ∧ (Post ((upd (o_4.2.2 48) x1.toNatClampNeg (((o_4.2.2 48) x1.toNatClampNeg) + 1)) x1.toNatClampNeg) ((o_4.1, o_4.2.1, (sa (sa o_4.2.2 49 (upd (o_4.2.2 49) ((3 * x1) + ((o_4.2.2 48) x1.toNatClampNeg)).toNatClampNeg x2)) 48 (upd (o_4.2.2 48) x1.toNatClampNeg (((o_4.2.2 48) x1.toNatClampNeg) + 1))))))))))) ∧ ((((o_4.2.2 48) x1.toNatClampNeg) = 3) → Post ((-4)) o_4))) ∧ (¬ (r3 = 0) → Post ((-1)) o_4))))
set_option maxRecDepth 100000 in
set_option maxHeartbeats 4000000 in
theorem c_X10_label (l : Launch) (D : va_G) (E : Nat → ClassId) (a : Nat → Nat)  (o : Ob) (x1 : Int32) (x2 : Int32) {Post : Int32 → Ob → Prop} (h : w_X10_label x1 x2 o Post) : CtI l yX10_label cX10_label 3 .int ({ frames := 2, cells := 0, slots := 0, locals := 43 } : Room) D E [.ref (a 0), .int (x1), .int (x2)] (List.flatten [bX10 a E o]) (fun u : Ob => List.flatten [bX10 a E u]) Post 0 0 := by
  refine enI (by decide +kernel) (Nat.le_of_ble_eq_true rfl) ?_
  intro p e s m args below meth c Q A ls hx hb hml hown hT hK hA hret hh hl
  have hl : lv_has ls 3 [(0, .ref (a 0)), (1, .int (x1)), (2, .int (x2))] := hl
  unfold w_X10_label at h
  refine lv_iload_n hx hb dX10_label_0 rfl (lv_at hl 1 rfl) ?_
  refine lv_iconst (v := 0) hx hb dX10_label_1 (by decide) ?_
  refine lv_aload_n hx hb dX10_label_2 rfl (lv_at hl 0 rfl) ?_
  refine G_X10_344 [] [] hx hb hT hown hK hh (v := o.2.1 45) rfl dX10_label_3 ?_
  refine lv_iconst (v := 1) hx hb dX10_label_6 (by decide) ?_
  refine lv_isub hx hb dX10_label_7 ?_
  refine kI hh.none hA (rnS hx hb hml hown hT hK hh.none (c_X10_in l D E    x1 (0 : Int32) ((o.2.1 45) - 1) h _) mf_X10_in kml_X10_126 ⟨rfl, rfl, Nat.le_of_ble_eq_true rfl, Nat.le_of_ble_eq_true rfl⟩ ⟨Nat.le_of_ble_eq_true rfl, Nat.le_of_ble_eq_true rfl⟩ hl.1 rfl dX10_label_8 (Nat.le_of_ble_eq_true rfl) rfl) (fun r1 u H locs h hh => ?_)
  have hh : Wh D A s.heap ((List.flatten [bX10 a E o])) _ _ := hh.unone
  refine lv_if_eq (tgt := 22) hx hb dX10_label_11 (by decide) (fun c2 => ?_) (fun c2 => ?_)
  · have h := h.1 c2
    refine lv_iconst (v := (-1)) hx hb dX10_label_22 (by decide) ?_
    exact hret _ _ _ _ _ o dX10_label_23 rfl h hh
  · have h := h.2 c2
    refine lv_aload_n hx hb dX10_label_14 rfl (lv_at hl 0 rfl) ?_
    refine lv_iload_n hx hb dX10_label_15 rfl (lv_at hl 2 rfl) ?_
    refine kI hh.ap0 hA (rnV hx hb hml hown hT hK hh.ap0 (c_X10_noCheck l D E a  o x2 h _) mf_X10_noCheck kml_X10_140 ⟨rfl, rfl, Nat.le_of_ble_eq_true rfl, Nat.le_of_ble_eq_true rfl⟩ ⟨Nat.le_of_ble_eq_true rfl, Nat.le_of_ble_eq_true rfl⟩ 10 0 rfl rfl hl.1 rfl dX10_label_16 (Nat.le_of_ble_eq_true rfl) rfl) (fun r3 o_4 H locs h hh => ?_)
    have hh : Wh D A s.heap ((List.flatten [bX10 a E o_4])) _ _ := hh.un0
    refine lv_if_eq (tgt := 24) hx hb dX10_label_19 (by decide) (fun c5 => ?_) (fun c5 => ?_)
    · have h := h.1 c5
      refine lv_aload_n hx hb dX10_label_24 rfl (lv_at hl 0 rfl) ?_
      refine G_X10_101 [] [] hx hb hT hown hK hh dX10_label_25 ?_
      refine lv_iload_n hx hb dX10_label_28 rfl (lv_at hl 1 rfl) ?_
      obtain ⟨g6, h⟩ := h
      refine A_X10_48 [] [] hx hb hK hh (v := (o_4.2.2 48) x1.toNatClampNeg) g6 rfl dX10_label_29 ?_
      refine lv_iconst (v := 3) hx hb dX10_label_30 (by decide) ?_
      refine lv_icmp_ne (tgt := 37) hx hb dX10_label_31 (by decide) (fun c7 => ?_) (fun c7 => ?_)
      · have h := h.1 c7
        refine lv_aload_n hx hb dX10_label_37 rfl (lv_at hl 0 rfl) ?_
        refine G_X10_104 [] [] hx hb hT hown hK hh dX10_label_38 ?_
        refine lv_iconst (v := 3) hx hb dX10_label_41 (by decide) ?_
        refine lv_iload_n hx hb dX10_label_42 rfl (lv_at hl 1 rfl) ?_
        refine lv_imul hx hb dX10_label_43 ?_
        refine lv_aload_n hx hb dX10_label_44 rfl (lv_at hl 0 rfl) ?_
        refine G_X10_101 [] [] hx hb hT hown hK hh dX10_label_45 ?_
        refine lv_iload_n hx hb dX10_label_48 rfl (lv_at hl 1 rfl) ?_
        obtain ⟨g8, h⟩ := h
        refine A_X10_48 [] [] hx hb hK hh (v := (o_4.2.2 48) x1.toNatClampNeg) g8 rfl dX10_label_49 ?_
        refine lv_iadd hx hb dX10_label_50 ?_
        refine lv_iload_n hx hb dX10_label_51 rfl (lv_at hl 2 rfl) ?_
        obtain ⟨g9, h⟩ := h
        refine S_X10_49 [] [] hx hb hK hh g9 dX10_label_52 (fun H locs (hh : Wh D A s.heap ((List.flatten [bX10 a E ((o_4.1, o_4.2.1, (sa o_4.2.2 49 (upd (o_4.2.2 49) ((3 * x1) + ((o_4.2.2 48) x1.toNatClampNeg)).toNatClampNeg x2))))])) H locs) => ?_)
        refine lv_aload_n hx hb dX10_label_53 rfl (lv_at hl 0 rfl) ?_
        refine G_X10_101 [] [] hx hb hT hown hK hh dX10_label_54 ?_
        refine lv_iload_n hx hb dX10_label_57 rfl (lv_at hl 1 rfl) ?_
        refine lv_dup2_11 hx hb dX10_label_58 rfl rfl ?_
        obtain ⟨g10, h⟩ := h
        refine A_X10_48 [] [] hx hb hK hh (v := (o_4.2.2 48) x1.toNatClampNeg) g10 rfl dX10_label_59 ?_
        refine lv_iconst (v := 1) hx hb dX10_label_60 (by decide) ?_
        refine lv_iadd hx hb dX10_label_61 ?_
        obtain ⟨g11, h⟩ := h
        refine S_X10_48 [] [] hx hb hK hh g11 dX10_label_62 (fun H locs (hh : Wh D A s.heap ((List.flatten [bX10 a E ((o_4.1, o_4.2.1, (sa (sa o_4.2.2 49 (upd (o_4.2.2 49) ((3 * x1) + ((o_4.2.2 48) x1.toNatClampNeg)).toNatClampNeg x2)) 48 (upd (o_4.2.2 48) x1.toNatClampNeg (((o_4.2.2 48) x1.toNatClampNeg) + 1)))))])) H locs) => ?_)
        refine lv_aload_n hx hb dX10_label_63 rfl (lv_at hl 0 rfl) ?_
        refine G_X10_101 [] [] hx hb hT hown hK hh dX10_label_64 ?_
        refine lv_iload_n hx hb dX10_label_67 rfl (lv_at hl 1 rfl) ?_
        obtain ⟨g12, h⟩ := h
        refine A_X10_48 [] [] hx hb hK hh (v := (upd (o_4.2.2 48) x1.toNatClampNeg (((o_4.2.2 48) x1.toNatClampNeg) + 1)) x1.toNatClampNeg) g12 rfl dX10_label_68 ?_
        exact hret _ _ _ _ _ (o_4.1, o_4.2.1, (sa (sa o_4.2.2 49 (upd (o_4.2.2 49) ((3 * x1) + ((o_4.2.2 48) x1.toNatClampNeg)).toNatClampNeg x2)) 48 (upd (o_4.2.2 48) x1.toNatClampNeg (((o_4.2.2 48) x1.toNatClampNeg) + 1)))) dX10_label_69 rfl h hh
      · have h := h.2 c7
        refine lv_bipush (v := (-4)) hx hb dX10_label_34 (by decide) ?_
        exact hret _ _ _ _ _ o_4 dX10_label_36 rfl h hh
    · have h := h.2 c5
      refine lv_iconst (v := (-1)) hx hb dX10_label_22 (by decide) ?_
      exact hret _ _ _ _ _ o_4 dX10_label_23 rfl h hh

def w_X10_shrink_L5 (f1_5 : Int32)  (Post : Ob → Prop) : Nat → Ob → Prop
  | 0, _ => False
  | n5 + 1, o_5 => w_X10_nextChange   o_5 (fun (r3 : Int32) (o_4 : Ob) => ((¬ r3 = 1) → Post o_4) ∧ ((r3 = 1) → ((¬ (o_4.2.1 34) = 0) → w_X10_reckon  (3 : Int32) (0 : Int32) ((o_4.2.2 8) (3 : Int32).toNatClampNeg) ((o_4.1, (upd o_4.2.1 34 (((o_4.2.1 34) - 1))), o_4.2.2)) (fun (o_8 : Ob) => w_X10_result  f1_5 o_8 (fun (r9 : Int32) (o_10 : Ob) => jn (fun J93 : Ob → Prop => ((r9 = 1) → J93 o_10) ∧ (¬ (r9 = 1) → w_X10_copyRow  (3 : Int32) (2 : Int32) o_10 (fun (o_13 : Ob) => jn (fun J85 : Int32 → Ob → Prop => ((0 ≤ r9) → J85 0 ((o_13.1, (upd o_13.2.1 54 (((o_13.2.1 54) + 1))), o_13.2.2))) ∧ (¬ (0 ≤ r9) → J85 (((-10)) - r9) ((o_13.1, (upd o_13.2.1 54 (((o_13.2.1 54) + 1))), o_13.2.2)))) (fun (z_85 : Int32) (o_85 : Ob) => w_X10_beginChanges  (2 : Int32) ((o_85.1, (upd o_85.2.1 55 z_85), o_85.2.2)) (fun (o_16 : Ob) => J93 o_16))))) (fun (o_93 : Ob) => w_X10_shrink_L5 f1_5  Post n5 o_93)))) ∧ (((o_4.2.1 34) = 0) → Post o_4)))
def w_X10_shrink (x1 : Int32) (o : Ob) (Post : Ob → Prop) : Prop := w_X10_beginChanges  (2 : Int32) o (fun (o_2 : Ob) => ∃ n5, w_X10_shrink_L5 x1  Post n5 o_2)
set_option maxRecDepth 100000 in
set_option maxHeartbeats 4000000 in
theorem c_X10_shrink (l : Launch) (D : va_G) (E : Nat → ClassId) (a : Nat → Nat)  (o : Ob) (x1 : Int32) {Post : Ob → Prop} (h : w_X10_shrink x1 o Post) : CtV l yX10_shrink cX10_shrink 4 ({ frames := 8, cells := 0, slots := 0, locals := 193 } : Room) D E [.ref (a 0), .int (x1)] (List.flatten [bX10 a E o]) (fun u : Ob => List.flatten [bX10 a E u]) Post 0 0 := by
  refine enV (by decide +kernel) (Nat.le_of_ble_eq_true rfl) ?_
  intro p e s m args below meth c Q A ls hx hb hml hown hT hK hA hin0 hret hh hl
  have hl : lv_has ls 4 [(0, .ref (a 0)), (1, .int (x1))] := hl
  unfold w_X10_shrink at h
  refine lv_aload_n hx hb dX10_shrink_0 rfl (lv_at hl 0 rfl) ?_
  refine lv_iconst (v := 2) hx hb dX10_shrink_1 (by decide) ?_
  refine kV hh.ap0 hA (rnV hx hb hml hown hT hK hh.ap0 (c_X10_beginChanges l D E a  o (2 : Int32) h _) mf_X10_beginChanges kml_X10_331 ⟨rfl, rfl, Nat.le_of_ble_eq_true rfl, Nat.le_of_ble_eq_true rfl⟩ ⟨Nat.le_of_ble_eq_true rfl, Nat.le_of_ble_eq_true rfl⟩ 10 0 rfl rfl hl.1 rfl dX10_shrink_2 (Nat.le_of_ble_eq_true rfl) rfl) (fun o_2 H locs h hh => ?_)
  have hh : Wh D A s.heap ((List.flatten [bX10 a E o_2])) _ _ := hh.un0
  have hw5 : ∀   (n : Nat) (o_5 : Ob) (H : Heap) (locs : List Loc) (ls : Array Slot), w_X10_shrink_L5 x1  Post n o_5 → Wh D A s.heap ((List.flatten [bX10 a E o_5])) H locs → lv_has ls 4 [(0, .ref (a 0)), (1, .int (x1))] → W p l e ({ frames := 8, cells := 0, slots := 0, locals := 193 } : Room) s m args below meth c H locs 0 0 Q (F0 m 5 ls []) := by
    intro   n
    induction n with
    | zero => intro o_5 H locs ls h hh hl; exact False.elim h
    | succ n ih =>
      intro o_5 H locs ls h hh hl
      refine lv_aload_n hx hb dX10_shrink_5 rfl (lv_at hl 0 rfl) ?_
      refine kI hh.ap0 hA (rnV hx hb hml hown hT hK hh.ap0 (c_X10_nextChange l D E a  o_5  h _) mf_X10_nextChange kml_X10_334 ⟨rfl, rfl, Nat.le_of_ble_eq_true rfl, Nat.le_of_ble_eq_true rfl⟩ ⟨Nat.le_of_ble_eq_true rfl, Nat.le_of_ble_eq_true rfl⟩ 10 0 rfl rfl hl.1 rfl dX10_shrink_6 (Nat.le_of_ble_eq_true rfl) rfl) (fun r3 o_4 H locs h hh => ?_)
      have hh : Wh D A s.heap ((List.flatten [bX10 a E o_4])) _ _ := hh.un0
      refine lv_istore_n (lv' := [(2, .int (r3)), (0, .ref (a 0)), (1, .int (x1))]) hx hb dX10_shrink_9 rfl hl (by decide) rfl (fun ls hl => ?_)
      refine lv_iload_n hx hb dX10_shrink_10 rfl (lv_at hl 0 rfl) ?_
      refine lv_iconst (v := 1) hx hb dX10_shrink_11 (by decide) ?_
      refine lv_icmp_ne (tgt := 22) hx hb dX10_shrink_12 (by decide) (fun c5 => ?_) (fun c5 => ?_)
      · have h := h.1 c5
        exact hret _ _ _ _ o_4 dX10_shrink_22 h hh
      · have h := h.2 c5
        refine lv_aload_n hx hb dX10_shrink_15 rfl (lv_at hl 1 rfl) ?_
        refine G_X10_110 [] [] hx hb hT hown hK hh (v := o_4.2.1 34) rfl dX10_shrink_16 ?_
        refine lv_if_ne (tgt := 23) hx hb dX10_shrink_19 (by decide) (fun c6 => ?_) (fun c6 => ?_)
        · have h := h.1 c6
          refine lv_aload_n hx hb dX10_shrink_23 rfl (lv_at hl 1 rfl) ?_
          refine lv_dup hx hb dX10_shrink_24 rfl ?_
          refine G_X10_110 [] [] hx hb hT hown hK hh (v := o_4.2.1 34) rfl dX10_shrink_25 ?_
          refine lv_iconst (v := 1) hx hb dX10_shrink_28 (by decide) ?_
          refine lv_isub hx hb dX10_shrink_29 ?_
          refine P_X10_110 [] [] hx hb hT hown hK hh dX10_shrink_30 (fun H locs (hh : Wh D A s.heap ((List.flatten [bX10 a E ((o_4.1, (upd o_4.2.1 34 (((o_4.2.1 34) - 1))), o_4.2.2))])) H locs) => ?_)
          refine lv_aload_n hx hb dX10_shrink_33 rfl (lv_at hl 1 rfl) ?_
          refine lv_iconst (v := 3) hx hb dX10_shrink_34 (by decide) ?_
          refine lv_iconst (v := 0) hx hb dX10_shrink_35 (by decide) ?_
          refine lv_aload_n hx hb dX10_shrink_36 rfl (lv_at hl 1 rfl) ?_
          refine G_X10_32 [] [] hx hb hT hown hK hh dX10_shrink_37 ?_
          refine lv_iconst (v := 3) hx hb dX10_shrink_40 (by decide) ?_
          refine A_X10_8 [] [] hx hb hK hh (v := (o_4.2.2 8) (3 : Int32).toNatClampNeg) (by unfold vp_in; decide) rfl dX10_shrink_41 ?_
          refine kV hh.ap0 hA (rnV hx hb hml hown hT hK hh.ap0 (c_X10_reckon l D E a  ((o_4.1, (upd o_4.2.1 34 (((o_4.2.1 34) - 1))), o_4.2.2)) (3 : Int32) (0 : Int32) ((o_4.2.2 8) (3 : Int32).toNatClampNeg) h _) mf_X10_reckon kml_X10_252 ⟨rfl, rfl, Nat.le_of_ble_eq_true rfl, Nat.le_of_ble_eq_true rfl⟩ ⟨Nat.le_of_ble_eq_true rfl, Nat.le_of_ble_eq_true rfl⟩ 10 0 rfl rfl hl.1 rfl dX10_shrink_42 (Nat.le_of_ble_eq_true rfl) rfl) (fun o_8 H locs h hh => ?_)
          have hh : Wh D A s.heap ((List.flatten [bX10 a E o_8])) _ _ := hh.un0
          refine lv_aload_n hx hb dX10_shrink_45 rfl (lv_at hl 1 rfl) ?_
          refine lv_iload_n hx hb dX10_shrink_46 rfl (lv_at hl 2 rfl) ?_
          refine kI hh.ap0 hA (rnV hx hb hml hown hT hK hh.ap0 (c_X10_result l D E a  o_8 x1 h _) mf_X10_result kml_X10_258 ⟨rfl, rfl, Nat.le_of_ble_eq_true rfl, Nat.le_of_ble_eq_true rfl⟩ ⟨Nat.le_of_ble_eq_true rfl, Nat.le_of_ble_eq_true rfl⟩ 10 0 rfl rfl hl.1 rfl dX10_shrink_47 (Nat.le_of_ble_eq_true rfl) rfl) (fun r9 o_10 H locs h hh => ?_)
          have hh : Wh D A s.heap ((List.flatten [bX10 a E o_10])) _ _ := hh.un0
          refine lv_istore_n (lv' := [(3, .int (r9)), (2, .int (r3)), (0, .ref (a 0)), (1, .int (x1))]) hx hb dX10_shrink_50 rfl hl (by decide) rfl (fun ls hl => ?_)
          refine lv_iload_n hx hb dX10_shrink_51 rfl (lv_at hl 0 rfl) ?_
          refine lv_iconst (v := 1) hx hb dX10_shrink_52 (by decide) ?_
          refine jn_elim h (fun J93 hJ93 h => ?_)
          have kJ93 : ∀ (o_93 : Ob) (H : Heap) (locs : List Loc) (ls : Array Slot), J93 o_93 → Wh D A s.heap ((List.flatten [bX10 a E o_93])) H locs → lv_has ls 4 [(0, .ref (a 0)), (1, .int (x1))] → W p l e ({ frames := 8, cells := 0, slots := 0, locals := 193 } : Room) s m args below meth c H locs 0 0 Q (F0 m 93 ls []) := by
            intro o_93 H locs ls h hh hl
            rw [hJ93] at h
            refine lv_goto (tgt := 5) hx hb dX10_shrink_93 (by decide) ?_
            exact ih o_93 _ _ _ h hh (lv_sub hl [0, 1] rfl)
          refine lv_icmp_eq (tgt := 93) hx hb dX10_shrink_53 (by decide) (fun c11 => ?_) (fun c11 => ?_)
          · have h := h.1 c11
            exact kJ93 o_10 _ _ _ h hh (lv_sub hl [2, 3] rfl)
          · have h := h.2 c11
            refine lv_aload_n hx hb dX10_shrink_56 rfl (lv_at hl 2 rfl) ?_
            refine lv_iconst (v := 3) hx hb dX10_shrink_57 (by decide) ?_
            refine lv_iconst (v := 2) hx hb dX10_shrink_58 (by decide) ?_
            refine kV hh.ap0 hA (rnV hx hb hml hown hT hK hh.ap0 (c_X10_copyRow l D E a  o_10 (3 : Int32) (2 : Int32) h _) mf_X10_copyRow kml_X10_273 ⟨rfl, rfl, Nat.le_of_ble_eq_true rfl, Nat.le_of_ble_eq_true rfl⟩ ⟨Nat.le_of_ble_eq_true rfl, Nat.le_of_ble_eq_true rfl⟩ 10 0 rfl rfl hl.1 rfl dX10_shrink_59 (Nat.le_of_ble_eq_true rfl) rfl) (fun o_13 H locs h hh => ?_)
            have hh : Wh D A s.heap ((List.flatten [bX10 a E o_13])) _ _ := hh.un0
            refine lv_aload_n hx hb dX10_shrink_62 rfl (lv_at hl 2 rfl) ?_
            refine lv_dup hx hb dX10_shrink_63 rfl ?_
            refine G_X10_347 [] [] hx hb hT hown hK hh (v := o_13.2.1 54) rfl dX10_shrink_64 ?_
            refine lv_iconst (v := 1) hx hb dX10_shrink_67 (by decide) ?_
            refine lv_iadd hx hb dX10_shrink_68 ?_
            refine P_X10_347 [] [] hx hb hT hown hK hh dX10_shrink_69 (fun H locs (hh : Wh D A s.heap ((List.flatten [bX10 a E ((o_13.1, (upd o_13.2.1 54 (((o_13.2.1 54) + 1))), o_13.2.2))])) H locs) => ?_)
            refine lv_aload_n hx hb dX10_shrink_72 rfl (lv_at hl 2 rfl) ?_
            refine lv_iload_n hx hb dX10_shrink_73 rfl (lv_at hl 0 rfl) ?_
            refine jn_elim h (fun J85 hJ85 h => ?_)
            have kJ85 : ∀ (z_85 : Int32) (o_85 : Ob) (H : Heap) (locs : List Loc) (ls : Array Slot), J85 z_85 o_85 → Wh D A s.heap ((List.flatten [bX10 a E o_85])) H locs → lv_has ls 4 [(0, .ref (a 0)), (1, .int (x1))] → W p l e ({ frames := 8, cells := 0, slots := 0, locals := 193 } : Room) s m args below meth c H locs 0 0 Q (F0 m 85 ls [.int (z_85), .ref (a 0)]) := by
              intro z_85 o_85 H locs ls h hh hl
              rw [hJ85] at h
              refine P_X10_350 [] [] hx hb hT hown hK hh dX10_shrink_85 (fun H locs (hh : Wh D A s.heap ((List.flatten [bX10 a E ((o_85.1, (upd o_85.2.1 55 z_85), o_85.2.2))])) H locs) => ?_)
              refine lv_aload_n hx hb dX10_shrink_88 rfl (lv_at hl 0 rfl) ?_
              refine lv_iconst (v := 2) hx hb dX10_shrink_89 (by decide) ?_
              refine kV hh.ap0 hA (rnV hx hb hml hown hT hK hh.ap0 (c_X10_beginChanges l D E a  ((o_85.1, (upd o_85.2.1 55 z_85), o_85.2.2)) (2 : Int32) h _) mf_X10_beginChanges kml_X10_331 ⟨rfl, rfl, Nat.le_of_ble_eq_true rfl, Nat.le_of_ble_eq_true rfl⟩ ⟨Nat.le_of_ble_eq_true rfl, Nat.le_of_ble_eq_true rfl⟩ 10 0 rfl rfl hl.1 rfl dX10_shrink_90 (Nat.le_of_ble_eq_true rfl) rfl) (fun o_16 H locs h hh => ?_)
              have hh : Wh D A s.heap ((List.flatten [bX10 a E o_16])) _ _ := hh.un0
              exact kJ93 o_16 _ _ _ h hh (lv_sub hl [0, 1] rfl)
            refine lv_if_ge (tgt := 84) hx hb dX10_shrink_74 (by decide) (fun c14 => ?_) (fun c14 => ?_)
            · have h := h.1 c14
              refine lv_iconst (v := 0) hx hb dX10_shrink_84 (by decide) ?_
              exact kJ85 0 ((o_13.1, (upd o_13.2.1 54 (((o_13.2.1 54) + 1))), o_13.2.2)) _ _ _ h hh (lv_sub hl [2, 3] rfl)
            · have h := h.2 c14
              refine lv_bipush (v := (-10)) hx hb dX10_shrink_77 (by decide) ?_
              refine lv_iload_n hx hb dX10_shrink_79 rfl (lv_at hl 0 rfl) ?_
              refine lv_isub hx hb dX10_shrink_80 ?_
              refine lv_goto (tgt := 85) hx hb dX10_shrink_81 (by decide) ?_
              exact kJ85 (((-10)) - r9) ((o_13.1, (upd o_13.2.1 54 (((o_13.2.1 54) + 1))), o_13.2.2)) _ _ _ h hh (lv_sub hl [2, 3] rfl)
        · have h := h.2 c6
          exact hret _ _ _ _ o_4 dX10_shrink_22 h hh
  obtain ⟨n, h⟩ := h
  refine hw5   n o_2 _ _ _ h hh (lv_sub hl [0, 1] rfl)

def w_X10_run_L83 (f1_83 : Int32) (f2_83 : Int64) (f4_83 : Int32) (f5_83 : Int32) (f6_83 : Int32) (K103_83 : Ob → Prop) (Post : Int32 → Ob → Prop) : Nat → Int32 → Ob → Prop
  | 0, _, _ => False
  | n83 + 1, p7_83, o_83 => ((3 ≤ p7_83) → K103_83 o_83) ∧ (¬ (3 ≤ p7_83) → vp_in p7_83 3 ∧ (w_X10_run_L83 f1_83 f2_83 f4_83 f5_83 f6_83 K103_83 Post n83 (p7_83 + 1) ((o_83.1, o_83.2.1, (sa o_83.2.2 56 (upd (o_83.2.2 56) p7_83.toNatClampNeg (0 : Int32)))))))
def w_X10_run_L194 (f1_194 : Int32) (f2_194 : Int64) (f4_194 : Int32) (f5_194 : Int32) (f6_194 : Int32) (f7_194 : Int32) (K245_194 : Ob → Prop) (Post : Int32 → Ob → Prop) : Nat → Int32 → Ob → Prop
  | 0, _, _ => False
  | n194 + 1, p9_194, o_194 => vp_in f1_194 20 ∧ (((((o_194.2.2 48) f1_194.toNatClampNeg) ≤ p9_194) → K245_194 o_194) ∧ (¬ (((o_194.2.2 48) f1_194.toNatClampNeg) ≤ p9_194) → vp_in p9_194 3 ∧ (vp_in ((3 * f1_194) + p9_194) 60 ∧ (w_X10_result  ((o_194.2.2 49) ((3 * f1_194) + p9_194).toNatClampNeg) o_194 (fun (r22 : Int32) (o_23 : Ob) => jn (fun J237 : Int32 → Ob → Prop => ((¬ r22 = 1) → J237 0 o_23) ∧ ((r22 = 1) → J237 1 o_23)) (fun (z_237 : Int32) (o_237 : Ob) => vp_in p9_194 3 ∧ (w_X10_run_L194 f1_194 f2_194 f4_194 f5_194 f6_194 f7_194 K245_194 Post n194 (p9_194 + 1) ((o_237.1, o_237.2.1, (sa o_237.2.2 56 (upd (o_237.2.2 56) p9_194.toNatClampNeg (((o_194.2.2 56) p9_194.toNatClampNeg) + z_237))))))))))))
def w_X10_run_L106 (f1_106 : Int32) (f2_106 : Int64) (f4_106 : Int32) (f5_106 : Int32) (f6_106 : Int32) (K148_106 : Int32 → Ob → Prop) (K252_106 : Ob → Prop) (Post : Int32 → Ob → Prop) : Nat → Int32 → Ob → Prop
  | 0, _, _ => False
  | n106 + 1, p7_106, o_106 => ((f4_106 ≤ p7_106) → Post (o_106.2.1 50) o_106) ∧ (¬ (f4_106 ≤ p7_106) → ((¬ (o_106.2.1 50) = 0) → Post (o_106.2.1 50) o_106) ∧ (((o_106.2.1 50) = 0) → vp_in f1_106 20 ∧ (w_X10_makes  ((o_106.2.2 46) f1_106.toNatClampNeg) (f2_106 + (p7_106.toInt64 * ((-7046029254386353131)))) f5_106 o_106 (fun (r13 : Int32) (o_14 : Ob) => ((0 ≤ r13) → w_X10_reckon  (4 : Int32) (0 : Int32) ((o_14.2.2 8) (4 : Int32).toNatClampNeg) ((o_14.1, (upd o_14.2.1 51 (((o_14.2.1 51) + 1))), o_14.2.2)) (fun (o_17 : Ob) => ∃ n194, w_X10_run_L194 f1_106 f2_106 f4_106 f5_106 f6_106 p7_106 (fun (o_k245 : Ob) => ((¬ (o_k245.2.1 34) = 0) → w_X10_result  f6_106 ((o_k245.1, (upd o_k245.2.1 34 (((o_k245.2.1 34) - 1))), o_k245.2.2)) (fun (r27 : Int32) (o_28 : Ob) => jn (fun J335 : Ob → Prop => ((r27 = 1) → J335 o_28) ∧ (¬ (r27 = 1) → jn (fun J314 : Int32 → Ob → Prop => ((0 ≤ r27) → J314 0 ((o_28.1, (upd (upd (upd o_28.2.1 50 ((1 : Int32))) 52 ((1 : Int32))) 53 p7_106), o_28.2.2))) ∧ (¬ (0 ≤ r27) → J314 (((-10)) - r27) ((o_28.1, (upd (upd (upd o_28.2.1 50 ((1 : Int32))) 52 ((1 : Int32))) 53 p7_106), o_28.2.2)))) (fun (z_314 : Int32) (o_314 : Ob) => w_X10_copyRow  (4 : Int32) (1 : Int32) ((o_314.1, (upd o_314.2.1 55 z_314), o_314.2.2)) (fun (o_32 : Ob) => w_X10_copyRow  (4 : Int32) (2 : Int32) o_32 (fun (o_34 : Ob) => w_X10_shrink  f6_106 o_34 (fun (o_36 : Ob) => J335 o_36)))))) (fun (o_335 : Ob) => w_X10_run_L106 f1_106 f2_106 f4_106 f5_106 f6_106 K148_106 K252_106 Post n106 (p7_106 + 1) o_335))) ∧ (((o_k245.2.1 34) = 0) → K252_106 o_k245)) Post n194 0 o_17)) ∧ (¬ (0 ≤ r13) → K148_106 r13 o_14)))))
def w_X10_run (x1 : Int32) (x2 : Int64) (x4 : Int32) (x5 : Int32) (o : Ob) (Post : Int32 → Ob → Prop) : Prop := w_X10_in  x1 (0 : Int32) ((o.2.1 45) - 1)  (fun (r1 : Int32) => ((¬ r1 = 0) → w_X10_in  x4 (1 : Int32) (50 : Int32)  (fun (r3 : Int32) => ((r3 = 0) → Post ((-2)) o) ∧ (¬ (r3 = 0) → w_X10_in  x5 (0 : Int32) (24 : Int32)  (fun (r5 : Int32) => ((¬ r5 = 0) → vp_in x1 20 ∧ (∃ n83, w_X10_run_L83 x1 x2 x4 x5 ((o.2.2 47) x1.toNatClampNeg) (fun (o_k103 : Ob) => ∃ n106, w_X10_run_L106 x1 x2 x4 x5 ((o.2.2 47) x1.toNatClampNeg) (fun (k8_148 : Int32) (o_k148 : Ob) => jn (fun J161 : Int32 → Ob → Prop => ((¬ k8_148 = ((-5))) → J161 3 o_k148) ∧ ((k8_148 = ((-5))) → J161 2 o_k148)) (fun (z_161 : Int32) (o_161 : Ob) => Post z_161 ((o_161.1, (upd o_161.2.1 50 z_161), o_161.2.2)))) (fun (o_k252 : Ob) => Post 3 ((o_k252.1, (upd o_k252.2.1 50 ((3 : Int32))), o_k252.2.2))) Post n106 0 o_k103) Post n83 0 ((o.1, (upd (upd (upd (upd (upd (upd o.2.1 51 ((0 : Int32))) 52 ((0 : Int32))) 53 (((-9) : Int32))) 54 ((0 : Int32))) 55 ((0 : Int32))) 50 ((0 : Int32))), o.2.2)))) ∧ ((r5 = 0) → Post ((-2)) o))))) ∧ ((r1 = 0) → Post ((-1)) o))
set_option maxRecDepth 100000 in
set_option maxHeartbeats 4000000 in
theorem c_X10_run (l : Launch) (D : va_G) (E : Nat → ClassId) (a : Nat → Nat)  (o : Ob) (x1 : Int32) (x2 : Int64) (x4 : Int32) (x5 : Int32) {Post : Int32 → Ob → Prop} (h : w_X10_run x1 x2 x4 x5 o Post) : CtI l yX10_run cX10_run 10 .int ({ frames := 9, cells := 0, slots := 0, locals := 216 } : Room) D E [.ref (a 0), .int (x1), .long (x2), .int (x4), .int (x5)] (List.flatten [bX10 a E o]) (fun u : Ob => List.flatten [bX10 a E u]) Post 0 0 := by
  refine enI (by decide +kernel) (Nat.le_of_ble_eq_true rfl) ?_
  intro p e s m args below meth c Q A ls hx hb hml hown hT hK hA hret hh hl
  have hl : lv_has ls 10 [(0, .ref (a 0)), (1, .int (x1)), (2, .long (x2)), (4, .int (x4)), (5, .int (x5))] := hl
  unfold w_X10_run at h
  refine lv_iload_n hx hb dX10_run_0 rfl (lv_at hl 1 rfl) ?_
  refine lv_iconst (v := 0) hx hb dX10_run_1 (by decide) ?_
  refine lv_aload_n hx hb dX10_run_2 rfl (lv_at hl 0 rfl) ?_
  refine G_X10_344 [] [] hx hb hT hown hK hh (v := o.2.1 45) rfl dX10_run_3 ?_
  refine lv_iconst (v := 1) hx hb dX10_run_6 (by decide) ?_
  refine lv_isub hx hb dX10_run_7 ?_
  refine kI hh.none hA (rnS hx hb hml hown hT hK hh.none (c_X10_in l D E    x1 (0 : Int32) ((o.2.1 45) - 1) h _) mf_X10_in kml_X10_126 ⟨rfl, rfl, Nat.le_of_ble_eq_true rfl, Nat.le_of_ble_eq_true rfl⟩ ⟨Nat.le_of_ble_eq_true rfl, Nat.le_of_ble_eq_true rfl⟩ hl.1 rfl dX10_run_8 (Nat.le_of_ble_eq_true rfl) rfl) (fun r1 u H locs h hh => ?_)
  have hh : Wh D A s.heap ((List.flatten [bX10 a E o])) _ _ := hh.unone
  refine lv_if_ne (tgt := 16) hx hb dX10_run_11 (by decide) (fun c2 => ?_) (fun c2 => ?_)
  · have h := h.1 c2
    refine lv_iload hx hb dX10_run_16 (lv_at hl 3 rfl) ?_
    refine lv_iconst (v := 1) hx hb dX10_run_18 (by decide) ?_
    refine lv_bipush (v := 50) hx hb dX10_run_19 (by decide) ?_
    refine kI hh.none hA (rnS hx hb hml hown hT hK hh.none (c_X10_in l D E    x4 (1 : Int32) (50 : Int32) h _) mf_X10_in kml_X10_126 ⟨rfl, rfl, Nat.le_of_ble_eq_true rfl, Nat.le_of_ble_eq_true rfl⟩ ⟨Nat.le_of_ble_eq_true rfl, Nat.le_of_ble_eq_true rfl⟩ hl.1 rfl dX10_run_21 (Nat.le_of_ble_eq_true rfl) rfl) (fun r3 u H locs h hh => ?_)
    have hh : Wh D A s.heap ((List.flatten [bX10 a E o])) _ _ := hh.unone
    refine lv_if_eq (tgt := 38) hx hb dX10_run_24 (by decide) (fun c4 => ?_) (fun c4 => ?_)
    · have h := h.1 c4
      refine lv_bipush (v := (-2)) hx hb dX10_run_38 (by decide) ?_
      exact hret _ _ _ _ _ o dX10_run_40 rfl h hh
    · have h := h.2 c4
      refine lv_iload hx hb dX10_run_27 (lv_at hl 4 rfl) ?_
      refine lv_iconst (v := 0) hx hb dX10_run_29 (by decide) ?_
      refine lv_bipush (v := 24) hx hb dX10_run_30 (by decide) ?_
      refine kI hh.none hA (rnS hx hb hml hown hT hK hh.none (c_X10_in l D E    x5 (0 : Int32) (24 : Int32) h _) mf_X10_in kml_X10_126 ⟨rfl, rfl, Nat.le_of_ble_eq_true rfl, Nat.le_of_ble_eq_true rfl⟩ ⟨Nat.le_of_ble_eq_true rfl, Nat.le_of_ble_eq_true rfl⟩ hl.1 rfl dX10_run_32 (Nat.le_of_ble_eq_true rfl) rfl) (fun r5 u H locs h hh => ?_)
      have hh : Wh D A s.heap ((List.flatten [bX10 a E o])) _ _ := hh.unone
      refine lv_if_ne (tgt := 41) hx hb dX10_run_35 (by decide) (fun c6 => ?_) (fun c6 => ?_)
      · have h := h.1 c6
        refine lv_aload_n hx hb dX10_run_41 rfl (lv_at hl 0 rfl) ?_
        refine G_X10_98 [] [] hx hb hT hown hK hh dX10_run_42 ?_
        refine lv_iload_n hx hb dX10_run_45 rfl (lv_at hl 1 rfl) ?_
        obtain ⟨g7, h⟩ := h
        refine A_X10_47 [] [] hx hb hK hh (v := (o.2.2 47) x1.toNatClampNeg) g7 rfl dX10_run_46 ?_
        refine lv_istore (lv' := [(6, .int ((o.2.2 47) x1.toNatClampNeg)), (0, .ref (a 0)), (1, .int (x1)), (2, .long (x2)), (4, .int (x4)), (5, .int (x5))]) hx hb dX10_run_47 hl (by decide) rfl (fun ls hl => ?_)
        refine lv_aload_n hx hb dX10_run_49 rfl (lv_at hl 1 rfl) ?_
        refine lv_iconst (v := 0) hx hb dX10_run_50 (by decide) ?_
        refine P_X10_353 [] [] hx hb hT hown hK hh dX10_run_51 (fun H locs (hh : Wh D A s.heap ((List.flatten [bX10 a E ((o.1, (upd o.2.1 51 ((0 : Int32))), o.2.2))])) H locs) => ?_)
        refine lv_aload_n hx hb dX10_run_54 rfl (lv_at hl 1 rfl) ?_
        refine lv_iconst (v := 0) hx hb dX10_run_55 (by decide) ?_
        refine P_X10_117 [] [] hx hb hT hown hK hh (by decide) dX10_run_56 (fun H locs (hh : Wh D A s.heap ((List.flatten [bX10 a E ((o.1, (upd (upd o.2.1 51 ((0 : Int32))) 52 ((0 : Int32))), o.2.2))])) H locs) => ?_)
        refine lv_aload_n hx hb dX10_run_59 rfl (lv_at hl 1 rfl) ?_
        refine lv_bipush (v := (-9)) hx hb dX10_run_60 (by decide) ?_
        refine P_X10_356 [] [] hx hb hT hown hK hh dX10_run_62 (fun H locs (hh : Wh D A s.heap ((List.flatten [bX10 a E ((o.1, (upd (upd (upd o.2.1 51 ((0 : Int32))) 52 ((0 : Int32))) 53 (((-9) : Int32))), o.2.2))])) H locs) => ?_)
        refine lv_aload_n hx hb dX10_run_65 rfl (lv_at hl 1 rfl) ?_
        refine lv_iconst (v := 0) hx hb dX10_run_66 (by decide) ?_
        refine P_X10_347 [] [] hx hb hT hown hK hh dX10_run_67 (fun H locs (hh : Wh D A s.heap ((List.flatten [bX10 a E ((o.1, (upd (upd (upd (upd o.2.1 51 ((0 : Int32))) 52 ((0 : Int32))) 53 (((-9) : Int32))) 54 ((0 : Int32))), o.2.2))])) H locs) => ?_)
        refine lv_aload_n hx hb dX10_run_70 rfl (lv_at hl 1 rfl) ?_
        refine lv_iconst (v := 0) hx hb dX10_run_71 (by decide) ?_
        refine P_X10_350 [] [] hx hb hT hown hK hh dX10_run_72 (fun H locs (hh : Wh D A s.heap ((List.flatten [bX10 a E ((o.1, (upd (upd (upd (upd (upd o.2.1 51 ((0 : Int32))) 52 ((0 : Int32))) 53 (((-9) : Int32))) 54 ((0 : Int32))) 55 ((0 : Int32))), o.2.2))])) H locs) => ?_)
        refine lv_aload_n hx hb dX10_run_75 rfl (lv_at hl 1 rfl) ?_
        refine lv_iconst (v := 0) hx hb dX10_run_76 (by decide) ?_
        refine P_X10_114 [] [] hx hb hT hown hK hh dX10_run_77 (fun H locs (hh : Wh D A s.heap ((List.flatten [bX10 a E ((o.1, (upd (upd (upd (upd (upd (upd o.2.1 51 ((0 : Int32))) 52 ((0 : Int32))) 53 (((-9) : Int32))) 54 ((0 : Int32))) 55 ((0 : Int32))) 50 ((0 : Int32))), o.2.2))])) H locs) => ?_)
        refine lv_iconst (v := 0) hx hb dX10_run_80 (by decide) ?_
        refine lv_istore (lv' := [(7, .int (0)), (6, .int ((o.2.2 47) x1.toNatClampNeg)), (0, .ref (a 0)), (1, .int (x1)), (2, .long (x2)), (4, .int (x4)), (5, .int (x5))]) hx hb dX10_run_81 hl (by decide) rfl (fun ls hl => ?_)
        have hw83 : ∀ (K103_83 : Ob → Prop) (hK103_83 : ∀ (o_k103 : Ob) (H : Heap) (locs : List Loc) (ls : Array Slot), K103_83 o_k103 → Wh D A s.heap ((List.flatten [bX10 a E o_k103])) H locs → lv_has ls 10 [(0, .ref (a 0)), (1, .int (x1)), (2, .long (x2)), (4, .int (x4)), (5, .int (x5)), (6, .int ((o.2.2 47) x1.toNatClampNeg))] → W p l e ({ frames := 9, cells := 0, slots := 0, locals := 216 } : Room) s m args below meth c H locs 0 0 Q (F0 m 103 ls [])) (n : Nat) (p7_83 : Int32) (o_83 : Ob) (H : Heap) (locs : List Loc) (ls : Array Slot), w_X10_run_L83 x1 x2 x4 x5 ((o.2.2 47) x1.toNatClampNeg) K103_83 Post n p7_83 o_83 → Wh D A s.heap ((List.flatten [bX10 a E o_83])) H locs → lv_has ls 10 [(0, .ref (a 0)), (1, .int (x1)), (2, .long (x2)), (4, .int (x4)), (5, .int (x5)), (6, .int ((o.2.2 47) x1.toNatClampNeg)), (7, .int (p7_83))] → W p l e ({ frames := 9, cells := 0, slots := 0, locals := 216 } : Room) s m args below meth c H locs 0 0 Q (F0 m 83 ls []) := by
          intro K103_83 hK103_83 n
          induction n with
          | zero => intro p7_83 o_83 H locs ls h hh hl; exact False.elim h
          | succ n ih =>
            intro p7_83 o_83 H locs ls h hh hl
            refine lv_iload hx hb dX10_run_83 (lv_at hl 6 rfl) ?_
            refine lv_iconst (v := 3) hx hb dX10_run_85 (by decide) ?_
            refine lv_icmp_ge (tgt := 103) hx hb dX10_run_86 (by decide) (fun c8 => ?_) (fun c8 => ?_)
            · have h := h.1 c8
              exact hK103_83 o_83 _ _ _ h hh (lv_sub hl [0, 1, 2, 3, 4, 5] rfl)
            · have h := h.2 c8
              refine lv_aload_n hx hb dX10_run_89 rfl (lv_at hl 0 rfl) ?_
              refine G_X10_107 [] [] hx hb hT hown hK hh dX10_run_90 ?_
              refine lv_iload hx hb dX10_run_93 (lv_at hl 6 rfl) ?_
              refine lv_iconst (v := 0) hx hb dX10_run_95 (by decide) ?_
              obtain ⟨g9, h⟩ := h
              refine S_X10_56 [] [] hx hb hK hh g9 dX10_run_96 (fun H locs (hh : Wh D A s.heap ((List.flatten [bX10 a E ((o_83.1, o_83.2.1, (sa o_83.2.2 56 (upd (o_83.2.2 56) p7_83.toNatClampNeg (0 : Int32)))))])) H locs) => ?_)
              refine lv_iinc (v := p7_83 + 1) (lv' := [(7, .int (p7_83 + 1)), (0, .ref (a 0)), (1, .int (x1)), (2, .long (x2)), (4, .int (x4)), (5, .int (x5)), (6, .int (((o.2.2 47) x1.toNatClampNeg)))]) hx hb dX10_run_97 hl (k := 6) rfl (by rfl) (by decide) rfl (fun ls hl => ?_)
              refine lv_goto (tgt := 83) hx hb dX10_run_100 (by decide) ?_
              exact ih (p7_83 + 1) ((o_83.1, o_83.2.1, (sa o_83.2.2 56 (upd (o_83.2.2 56) p7_83.toNatClampNeg (0 : Int32))))) _ _ _ h hh (lv_sub hl [1, 2, 3, 4, 5, 6, 0] rfl)
        obtain ⟨n, h⟩ := h
        refine hw83 _ (fun o_k103 H locs ls h hh hl => ?_) n 0 ((o.1, (upd (upd (upd (upd (upd (upd o.2.1 51 ((0 : Int32))) 52 ((0 : Int32))) 53 (((-9) : Int32))) 54 ((0 : Int32))) 55 ((0 : Int32))) 50 ((0 : Int32))), o.2.2)) _ _ _ h hh (lv_sub hl [2, 3, 4, 5, 6, 1, 0] rfl)
        refine lv_iconst (v := 0) hx hb dX10_run_103 (by decide) ?_
        refine lv_istore (lv' := [(7, .int (0)), (0, .ref (a 0)), (1, .int (x1)), (2, .long (x2)), (4, .int (x4)), (5, .int (x5)), (6, .int ((o.2.2 47) x1.toNatClampNeg))]) hx hb dX10_run_104 hl (by decide) rfl (fun ls hl => ?_)
        have hw106 : ∀ (K148_106 : Int32 → Ob → Prop) (K252_106 : Ob → Prop) (hK148_106 : ∀ (k8_148 : Int32) (o_k148 : Ob) (H : Heap) (locs : List Loc) (ls : Array Slot), K148_106 k8_148 o_k148 → Wh D A s.heap ((List.flatten [bX10 a E o_k148])) H locs → lv_has ls 10 [(0, .ref (a 0)), (8, .int (k8_148))] → W p l e ({ frames := 9, cells := 0, slots := 0, locals := 216 } : Room) s m args below meth c H locs 0 0 Q (F0 m 148 ls [])) (hK252_106 : ∀ (o_k252 : Ob) (H : Heap) (locs : List Loc) (ls : Array Slot), K252_106 o_k252 → Wh D A s.heap ((List.flatten [bX10 a E o_k252])) H locs → lv_has ls 10 [(0, .ref (a 0))] → W p l e ({ frames := 9, cells := 0, slots := 0, locals := 216 } : Room) s m args below meth c H locs 0 0 Q (F0 m 252 ls [])) (n : Nat) (p7_106 : Int32) (o_106 : Ob) (H : Heap) (locs : List Loc) (ls : Array Slot), w_X10_run_L106 x1 x2 x4 x5 ((o.2.2 47) x1.toNatClampNeg) K148_106 K252_106 Post n p7_106 o_106 → Wh D A s.heap ((List.flatten [bX10 a E o_106])) H locs → lv_has ls 10 [(0, .ref (a 0)), (1, .int (x1)), (2, .long (x2)), (4, .int (x4)), (5, .int (x5)), (6, .int ((o.2.2 47) x1.toNatClampNeg)), (7, .int (p7_106))] → W p l e ({ frames := 9, cells := 0, slots := 0, locals := 216 } : Room) s m args below meth c H locs 0 0 Q (F0 m 106 ls []) := by
          intro K148_106 K252_106 hK148_106 hK252_106 n
          induction n with
          | zero => intro p7_106 o_106 H locs ls h hh hl; exact False.elim h
          | succ n ih =>
            intro p7_106 o_106 H locs ls h hh hl
            refine lv_iload hx hb dX10_run_106 (lv_at hl 6 rfl) ?_
            refine lv_iload hx hb dX10_run_108 (lv_at hl 3 rfl) ?_
            refine lv_icmp_ge (tgt := 341) hx hb dX10_run_110 (by decide) (fun c10 => ?_) (fun c10 => ?_)
            · have h := h.1 c10
              refine lv_aload_n hx hb dX10_run_341 rfl (lv_at hl 0 rfl) ?_
              refine G_X10_114 [] [] hx hb hT hown hK hh (v := o_106.2.1 50) rfl dX10_run_342 ?_
              exact hret _ _ _ _ _ o_106 dX10_run_345 rfl h hh
            · have h := h.2 c10
              refine lv_aload_n hx hb dX10_run_113 rfl (lv_at hl 0 rfl) ?_
              refine G_X10_114 [] [] hx hb hT hown hK hh (v := o_106.2.1 50) rfl dX10_run_114 ?_
              refine lv_if_ne (tgt := 341) hx hb dX10_run_117 (by decide) (fun c11 => ?_) (fun c11 => ?_)
              · have h := h.1 c11
                refine lv_aload_n hx hb dX10_run_341 rfl (lv_at hl 0 rfl) ?_
                refine G_X10_114 [] [] hx hb hT hown hK hh (v := o_106.2.1 50) rfl dX10_run_342 ?_
                exact hret _ _ _ _ _ o_106 dX10_run_345 rfl h hh
              · have h := h.2 c11
                refine lv_aload_n hx hb dX10_run_120 rfl (lv_at hl 0 rfl) ?_
                refine lv_aload_n hx hb dX10_run_121 rfl (lv_at hl 0 rfl) ?_
                refine G_X10_95 [] [] hx hb hT hown hK hh dX10_run_122 ?_
                refine lv_iload_n hx hb dX10_run_125 rfl (lv_at hl 1 rfl) ?_
                obtain ⟨g12, h⟩ := h
                refine A_X10_46 [] [] hx hb hK hh (v := (o_106.2.2 46) x1.toNatClampNeg) g12 rfl dX10_run_126 ?_
                refine lv_lload_n hx hb dX10_run_127 rfl (lv_at hl 2 rfl) ?_
                refine lv_iload hx hb dX10_run_128 (lv_at hl 6 rfl) ?_
                refine lv_i2l (v := p7_106.toInt64) hx hb dX10_run_130 rfl ?_
                refine lv_ldc2 (v := (-7046029254386353131)) hx hb hown (hT _ kcL_X10_359) dX10_run_131 ?_
                refine lv_lmul hx hb dX10_run_134 ?_
                refine lv_ladd hx hb dX10_run_135 ?_
                refine lv_iload hx hb dX10_run_136 (lv_at hl 4 rfl) ?_
                refine kI hh.ap0 hA (rnV hx hb hml hown hT hK hh.ap0 (c_X10_makes l D E a  o_106 ((o_106.2.2 46) x1.toNatClampNeg) (x2 + (p7_106.toInt64 * ((-7046029254386353131)))) x5 h _) mf_X10_makes kml_X10_276 ⟨rfl, rfl, Nat.le_of_ble_eq_true rfl, Nat.le_of_ble_eq_true rfl⟩ ⟨Nat.le_of_ble_eq_true rfl, Nat.le_of_ble_eq_true rfl⟩ 10 0 rfl rfl hl.1 rfl dX10_run_138 (Nat.le_of_ble_eq_true rfl) rfl) (fun r13 o_14 H locs h hh => ?_)
                have hh : Wh D A s.heap ((List.flatten [bX10 a E o_14])) _ _ := hh.un0
                refine lv_istore (lv' := [(8, .int (r13)), (0, .ref (a 0)), (1, .int (x1)), (2, .long (x2)), (4, .int (x4)), (5, .int (x5)), (6, .int (((o.2.2 47) x1.toNatClampNeg))), (7, .int (p7_106))]) hx hb dX10_run_141 hl (by decide) rfl (fun ls hl => ?_)
                refine lv_iload hx hb dX10_run_143 (lv_at hl 0 rfl) ?_
                refine lv_if_ge (tgt := 169) hx hb dX10_run_145 (by decide) (fun c15 => ?_) (fun c15 => ?_)
                · have h := h.1 c15
                  refine lv_aload_n hx hb dX10_run_169 rfl (lv_at hl 1 rfl) ?_
                  refine lv_dup hx hb dX10_run_170 rfl ?_
                  refine G_X10_353 [] [] hx hb hT hown hK hh (v := o_14.2.1 51) rfl dX10_run_171 ?_
                  refine lv_iconst (v := 1) hx hb dX10_run_174 (by decide) ?_
                  refine lv_iadd hx hb dX10_run_175 ?_
                  refine P_X10_353 [] [] hx hb hT hown hK hh dX10_run_176 (fun H locs (hh : Wh D A s.heap ((List.flatten [bX10 a E ((o_14.1, (upd o_14.2.1 51 (((o_14.2.1 51) + 1))), o_14.2.2))])) H locs) => ?_)
                  refine lv_aload_n hx hb dX10_run_179 rfl (lv_at hl 1 rfl) ?_
                  refine lv_iconst (v := 4) hx hb dX10_run_180 (by decide) ?_
                  refine lv_iconst (v := 0) hx hb dX10_run_181 (by decide) ?_
                  refine lv_aload_n hx hb dX10_run_182 rfl (lv_at hl 1 rfl) ?_
                  refine G_X10_32 [] [] hx hb hT hown hK hh dX10_run_183 ?_
                  refine lv_iconst (v := 4) hx hb dX10_run_186 (by decide) ?_
                  refine A_X10_8 [] [] hx hb hK hh (v := (o_14.2.2 8) (4 : Int32).toNatClampNeg) (by unfold vp_in; decide) rfl dX10_run_187 ?_
                  refine kV hh.ap0 hA (rnV hx hb hml hown hT hK hh.ap0 (c_X10_reckon l D E a  ((o_14.1, (upd o_14.2.1 51 (((o_14.2.1 51) + 1))), o_14.2.2)) (4 : Int32) (0 : Int32) ((o_14.2.2 8) (4 : Int32).toNatClampNeg) h _) mf_X10_reckon kml_X10_252 ⟨rfl, rfl, Nat.le_of_ble_eq_true rfl, Nat.le_of_ble_eq_true rfl⟩ ⟨Nat.le_of_ble_eq_true rfl, Nat.le_of_ble_eq_true rfl⟩ 10 0 rfl rfl hl.1 rfl dX10_run_188 (Nat.le_of_ble_eq_true rfl) rfl) (fun o_17 H locs h hh => ?_)
                  have hh : Wh D A s.heap ((List.flatten [bX10 a E o_17])) _ _ := hh.un0
                  refine lv_iconst (v := 0) hx hb dX10_run_191 (by decide) ?_
                  refine lv_istore (lv' := [(9, .int (0)), (8, .int (r13)), (0, .ref (a 0)), (1, .int (x1)), (2, .long (x2)), (4, .int (x4)), (5, .int (x5)), (6, .int (((o.2.2 47) x1.toNatClampNeg))), (7, .int (p7_106))]) hx hb dX10_run_192 hl (by decide) rfl (fun ls hl => ?_)
                  have hw194 : ∀ (K245_194 : Ob → Prop) (hK245_194 : ∀ (o_k245 : Ob) (H : Heap) (locs : List Loc) (ls : Array Slot), K245_194 o_k245 → Wh D A s.heap ((List.flatten [bX10 a E o_k245])) H locs → lv_has ls 10 [(0, .ref (a 0)), (1, .int (x1)), (2, .long (x2)), (4, .int (x4)), (5, .int (x5)), (6, .int (((o.2.2 47) x1.toNatClampNeg))), (7, .int (p7_106))] → W p l e ({ frames := 9, cells := 0, slots := 0, locals := 216 } : Room) s m args below meth c H locs 0 0 Q (F0 m 245 ls [])) (n : Nat) (p9_194 : Int32) (o_194 : Ob) (H : Heap) (locs : List Loc) (ls : Array Slot), w_X10_run_L194 x1 x2 x4 x5 ((o.2.2 47) x1.toNatClampNeg) p7_106 K245_194 Post n p9_194 o_194 → Wh D A s.heap ((List.flatten [bX10 a E o_194])) H locs → lv_has ls 10 [(0, .ref (a 0)), (1, .int (x1)), (2, .long (x2)), (4, .int (x4)), (5, .int (x5)), (6, .int (((o.2.2 47) x1.toNatClampNeg))), (7, .int (p7_106)), (9, .int (p9_194))] → W p l e ({ frames := 9, cells := 0, slots := 0, locals := 216 } : Room) s m args below meth c H locs 0 0 Q (F0 m 194 ls []) := by
                    intro K245_194 hK245_194 n
                    induction n with
                    | zero => intro p9_194 o_194 H locs ls h hh hl; exact False.elim h
                    | succ n ih =>
                      intro p9_194 o_194 H locs ls h hh hl
                      refine lv_iload hx hb dX10_run_194 (lv_at hl 7 rfl) ?_
                      refine lv_aload_n hx hb dX10_run_196 rfl (lv_at hl 0 rfl) ?_
                      refine G_X10_101 [] [] hx hb hT hown hK hh dX10_run_197 ?_
                      refine lv_iload_n hx hb dX10_run_200 rfl (lv_at hl 1 rfl) ?_
                      obtain ⟨g18, h⟩ := h
                      refine A_X10_48 [] [] hx hb hK hh (v := (o_194.2.2 48) x1.toNatClampNeg) g18 rfl dX10_run_201 ?_
                      refine lv_icmp_ge (tgt := 245) hx hb dX10_run_202 (by decide) (fun c19 => ?_) (fun c19 => ?_)
                      · have h := h.1 c19
                        exact hK245_194 o_194 _ _ _ h hh (lv_sub hl [0, 1, 2, 3, 4, 5, 6] rfl)
                      · have h := h.2 c19
                        refine lv_aload_n hx hb dX10_run_205 rfl (lv_at hl 0 rfl) ?_
                        refine G_X10_107 [] [] hx hb hT hown hK hh dX10_run_206 ?_
                        refine lv_iload hx hb dX10_run_209 (lv_at hl 7 rfl) ?_
                        refine lv_dup2_11 hx hb dX10_run_211 rfl rfl ?_
                        obtain ⟨g20, h⟩ := h
                        refine A_X10_56 [] [] hx hb hK hh (v := (o_194.2.2 56) p9_194.toNatClampNeg) g20 rfl dX10_run_212 ?_
                        refine lv_aload_n hx hb dX10_run_213 rfl (lv_at hl 0 rfl) ?_
                        refine lv_aload_n hx hb dX10_run_214 rfl (lv_at hl 0 rfl) ?_
                        refine G_X10_104 [] [] hx hb hT hown hK hh dX10_run_215 ?_
                        refine lv_iconst (v := 3) hx hb dX10_run_218 (by decide) ?_
                        refine lv_iload_n hx hb dX10_run_219 rfl (lv_at hl 1 rfl) ?_
                        refine lv_imul hx hb dX10_run_220 ?_
                        refine lv_iload hx hb dX10_run_221 (lv_at hl 7 rfl) ?_
                        refine lv_iadd hx hb dX10_run_223 ?_
                        obtain ⟨g21, h⟩ := h
                        refine A_X10_49 [] [] hx hb hK hh (v := (o_194.2.2 49) ((3 * x1) + p9_194).toNatClampNeg) g21 rfl dX10_run_224 ?_
                        refine kI hh.ap0 hA (rnV hx hb hml hown hT hK hh.ap0 (c_X10_result l D E a  o_194 ((o_194.2.2 49) ((3 * x1) + p9_194).toNatClampNeg) h _) mf_X10_result kml_X10_258 ⟨rfl, rfl, Nat.le_of_ble_eq_true rfl, Nat.le_of_ble_eq_true rfl⟩ ⟨Nat.le_of_ble_eq_true rfl, Nat.le_of_ble_eq_true rfl⟩ 10 0 rfl rfl hl.1 rfl dX10_run_225 (Nat.le_of_ble_eq_true rfl) rfl) (fun r22 o_23 H locs h hh => ?_)
                        have hh : Wh D A s.heap ((List.flatten [bX10 a E o_23])) _ _ := hh.un0
                        refine lv_iconst (v := 1) hx hb dX10_run_228 (by decide) ?_
                        refine jn_elim h (fun J237 hJ237 h => ?_)
                        have kJ237 : ∀ (z_237 : Int32) (o_237 : Ob) (H : Heap) (locs : List Loc) (ls : Array Slot), J237 z_237 o_237 → Wh D A s.heap ((List.flatten [bX10 a E o_237])) H locs → lv_has ls 10 [(0, .ref (a 0)), (1, .int (x1)), (2, .long (x2)), (4, .int (x4)), (5, .int (x5)), (6, .int (((o.2.2 47) x1.toNatClampNeg))), (7, .int (p7_106)), (9, .int (p9_194))] → W p l e ({ frames := 9, cells := 0, slots := 0, locals := 216 } : Room) s m args below meth c H locs 0 0 Q (F0 m 237 ls [.int (z_237), .int ((o_194.2.2 56) p9_194.toNatClampNeg), .int (p9_194), .ref (a 57)]) := by
                          intro z_237 o_237 H locs ls h hh hl
                          rw [hJ237] at h
                          refine lv_iadd hx hb dX10_run_237 ?_
                          obtain ⟨g25, h⟩ := h
                          refine S_X10_56 [] [] hx hb hK hh g25 dX10_run_238 (fun H locs (hh : Wh D A s.heap ((List.flatten [bX10 a E ((o_237.1, o_237.2.1, (sa o_237.2.2 56 (upd (o_237.2.2 56) p9_194.toNatClampNeg (((o_194.2.2 56) p9_194.toNatClampNeg) + z_237)))))])) H locs) => ?_)
                          refine lv_iinc (v := p9_194 + 1) (lv' := [(9, .int (p9_194 + 1)), (0, .ref (a 0)), (1, .int (x1)), (2, .long (x2)), (4, .int (x4)), (5, .int (x5)), (6, .int (((o.2.2 47) x1.toNatClampNeg))), (7, .int (p7_106))]) hx hb dX10_run_239 hl (k := 7) rfl (by rfl) (by decide) rfl (fun ls hl => ?_)
                          refine lv_goto (tgt := 194) hx hb dX10_run_242 (by decide) ?_
                          exact ih (p9_194 + 1) ((o_237.1, o_237.2.1, (sa o_237.2.2 56 (upd (o_237.2.2 56) p9_194.toNatClampNeg (((o_194.2.2 56) p9_194.toNatClampNeg) + z_237))))) _ _ _ h hh (lv_sub hl [1, 2, 3, 4, 5, 6, 7, 0] rfl)
                        refine lv_icmp_ne (tgt := 236) hx hb dX10_run_229 (by decide) (fun c24 => ?_) (fun c24 => ?_)
                        · have h := h.1 c24
                          refine lv_iconst (v := 0) hx hb dX10_run_236 (by decide) ?_
                          exact kJ237 0 o_23 _ _ _ h hh (lv_sub hl [0, 1, 2, 3, 4, 5, 6, 7] rfl)
                        · have h := h.2 c24
                          refine lv_iconst (v := 1) hx hb dX10_run_232 (by decide) ?_
                          refine lv_goto (tgt := 237) hx hb dX10_run_233 (by decide) ?_
                          exact kJ237 1 o_23 _ _ _ h hh (lv_sub hl [0, 1, 2, 3, 4, 5, 6, 7] rfl)
                  obtain ⟨n, h⟩ := h
                  refine hw194 _ (fun o_k245 H locs ls h hh hl => ?_) n 0 o_17 _ _ _ h hh (lv_sub hl [2, 3, 4, 5, 6, 7, 8, 0] rfl)
                  refine lv_aload_n hx hb dX10_run_245 rfl (lv_at hl 0 rfl) ?_
                  refine G_X10_110 [] [] hx hb hT hown hK hh (v := o_k245.2.1 34) rfl dX10_run_246 ?_
                  refine lv_if_ne (tgt := 259) hx hb dX10_run_249 (by decide) (fun c26 => ?_) (fun c26 => ?_)
                  · have h := h.1 c26
                    refine lv_aload_n hx hb dX10_run_259 rfl (lv_at hl 0 rfl) ?_
                    refine lv_dup hx hb dX10_run_260 rfl ?_
                    refine G_X10_110 [] [] hx hb hT hown hK hh (v := o_k245.2.1 34) rfl dX10_run_261 ?_
                    refine lv_iconst (v := 1) hx hb dX10_run_264 (by decide) ?_
                    refine lv_isub hx hb dX10_run_265 ?_
                    refine P_X10_110 [] [] hx hb hT hown hK hh dX10_run_266 (fun H locs (hh : Wh D A s.heap ((List.flatten [bX10 a E ((o_k245.1, (upd o_k245.2.1 34 (((o_k245.2.1 34) - 1))), o_k245.2.2))])) H locs) => ?_)
                    refine lv_aload_n hx hb dX10_run_269 rfl (lv_at hl 0 rfl) ?_
                    refine lv_iload hx hb dX10_run_270 (lv_at hl 5 rfl) ?_
                    refine kI hh.ap0 hA (rnV hx hb hml hown hT hK hh.ap0 (c_X10_result l D E a  ((o_k245.1, (upd o_k245.2.1 34 (((o_k245.2.1 34) - 1))), o_k245.2.2)) ((o.2.2 47) x1.toNatClampNeg) h _) mf_X10_result kml_X10_258 ⟨rfl, rfl, Nat.le_of_ble_eq_true rfl, Nat.le_of_ble_eq_true rfl⟩ ⟨Nat.le_of_ble_eq_true rfl, Nat.le_of_ble_eq_true rfl⟩ 10 0 rfl rfl hl.1 rfl dX10_run_272 (Nat.le_of_ble_eq_true rfl) rfl) (fun r27 o_28 H locs h hh => ?_)
                    have hh : Wh D A s.heap ((List.flatten [bX10 a E o_28])) _ _ := hh.un0
                    refine lv_istore (lv' := [(9, .int (r27)), (0, .ref (a 0)), (1, .int (x1)), (2, .long (x2)), (4, .int (x4)), (5, .int (x5)), (6, .int (((o.2.2 47) x1.toNatClampNeg))), (7, .int (p7_106))]) hx hb dX10_run_275 hl (by decide) rfl (fun ls hl => ?_)
                    refine lv_iload hx hb dX10_run_277 (lv_at hl 0 rfl) ?_
                    refine lv_iconst (v := 1) hx hb dX10_run_279 (by decide) ?_
                    refine jn_elim h (fun J335 hJ335 h => ?_)
                    have kJ335 : ∀ (o_335 : Ob) (H : Heap) (locs : List Loc) (ls : Array Slot), J335 o_335 → Wh D A s.heap ((List.flatten [bX10 a E o_335])) H locs → lv_has ls 10 [(0, .ref (a 0)), (1, .int (x1)), (2, .long (x2)), (4, .int (x4)), (5, .int (x5)), (6, .int (((o.2.2 47) x1.toNatClampNeg))), (7, .int (p7_106))] → W p l e ({ frames := 9, cells := 0, slots := 0, locals := 216 } : Room) s m args below meth c H locs 0 0 Q (F0 m 335 ls []) := by
                      intro o_335 H locs ls h hh hl
                      rw [hJ335] at h
                      refine lv_iinc (v := p7_106 + 1) (lv' := [(7, .int (p7_106 + 1)), (0, .ref (a 0)), (1, .int (x1)), (2, .long (x2)), (4, .int (x4)), (5, .int (x5)), (6, .int (((o.2.2 47) x1.toNatClampNeg)))]) hx hb dX10_run_335 hl (k := 6) rfl (by rfl) (by decide) rfl (fun ls hl => ?_)
                      refine lv_goto (tgt := 106) hx hb dX10_run_338 (by decide) ?_
                      exact ih (p7_106 + 1) o_335 _ _ _ h hh (lv_sub hl [1, 2, 3, 4, 5, 6, 0] rfl)
                    refine lv_icmp_eq (tgt := 335) hx hb dX10_run_280 (by decide) (fun c29 => ?_) (fun c29 => ?_)
                    · have h := h.1 c29
                      exact kJ335 o_28 _ _ _ h hh (lv_sub hl [1, 2, 3, 4, 5, 6, 7] rfl)
                    · have h := h.2 c29
                      refine lv_aload_n hx hb dX10_run_283 rfl (lv_at hl 1 rfl) ?_
                      refine lv_iconst (v := 1) hx hb dX10_run_284 (by decide) ?_
                      refine P_X10_114 [] [] hx hb hT hown hK hh dX10_run_285 (fun H locs (hh : Wh D A s.heap ((List.flatten [bX10 a E ((o_28.1, (upd o_28.2.1 50 ((1 : Int32))), o_28.2.2))])) H locs) => ?_)
                      refine lv_aload_n hx hb dX10_run_288 rfl (lv_at hl 1 rfl) ?_
                      refine lv_iconst (v := 1) hx hb dX10_run_289 (by decide) ?_
                      refine P_X10_117 [] [] hx hb hT hown hK hh (by decide) dX10_run_290 (fun H locs (hh : Wh D A s.heap ((List.flatten [bX10 a E ((o_28.1, (upd (upd o_28.2.1 50 ((1 : Int32))) 52 ((1 : Int32))), o_28.2.2))])) H locs) => ?_)
                      refine lv_aload_n hx hb dX10_run_293 rfl (lv_at hl 1 rfl) ?_
                      refine lv_iload hx hb dX10_run_294 (lv_at hl 7 rfl) ?_
                      refine P_X10_356 [] [] hx hb hT hown hK hh dX10_run_296 (fun H locs (hh : Wh D A s.heap ((List.flatten [bX10 a E ((o_28.1, (upd (upd (upd o_28.2.1 50 ((1 : Int32))) 52 ((1 : Int32))) 53 p7_106), o_28.2.2))])) H locs) => ?_)
                      refine lv_aload_n hx hb dX10_run_299 rfl (lv_at hl 1 rfl) ?_
                      refine lv_iload hx hb dX10_run_300 (lv_at hl 0 rfl) ?_
                      refine jn_elim h (fun J314 hJ314 h => ?_)
                      have kJ314 : ∀ (z_314 : Int32) (o_314 : Ob) (H : Heap) (locs : List Loc) (ls : Array Slot), J314 z_314 o_314 → Wh D A s.heap ((List.flatten [bX10 a E o_314])) H locs → lv_has ls 10 [(0, .ref (a 0)), (1, .int (x1)), (2, .long (x2)), (4, .int (x4)), (5, .int (x5)), (6, .int (((o.2.2 47) x1.toNatClampNeg))), (7, .int (p7_106))] → W p l e ({ frames := 9, cells := 0, slots := 0, locals := 216 } : Room) s m args below meth c H locs 0 0 Q (F0 m 314 ls [.int (z_314), .ref (a 0)]) := by
                        intro z_314 o_314 H locs ls h hh hl
                        rw [hJ314] at h
                        refine P_X10_350 [] [] hx hb hT hown hK hh dX10_run_314 (fun H locs (hh : Wh D A s.heap ((List.flatten [bX10 a E ((o_314.1, (upd o_314.2.1 55 z_314), o_314.2.2))])) H locs) => ?_)
                        refine lv_aload_n hx hb dX10_run_317 rfl (lv_at hl 0 rfl) ?_
                        refine lv_iconst (v := 4) hx hb dX10_run_318 (by decide) ?_
                        refine lv_iconst (v := 1) hx hb dX10_run_319 (by decide) ?_
                        refine kV hh.ap0 hA (rnV hx hb hml hown hT hK hh.ap0 (c_X10_copyRow l D E a  ((o_314.1, (upd o_314.2.1 55 z_314), o_314.2.2)) (4 : Int32) (1 : Int32) h _) mf_X10_copyRow kml_X10_273 ⟨rfl, rfl, Nat.le_of_ble_eq_true rfl, Nat.le_of_ble_eq_true rfl⟩ ⟨Nat.le_of_ble_eq_true rfl, Nat.le_of_ble_eq_true rfl⟩ 10 0 rfl rfl hl.1 rfl dX10_run_320 (Nat.le_of_ble_eq_true rfl) rfl) (fun o_32 H locs h hh => ?_)
                        have hh : Wh D A s.heap ((List.flatten [bX10 a E o_32])) _ _ := hh.un0
                        refine lv_aload_n hx hb dX10_run_323 rfl (lv_at hl 0 rfl) ?_
                        refine lv_iconst (v := 4) hx hb dX10_run_324 (by decide) ?_
                        refine lv_iconst (v := 2) hx hb dX10_run_325 (by decide) ?_
                        refine kV hh.ap0 hA (rnV hx hb hml hown hT hK hh.ap0 (c_X10_copyRow l D E a  o_32 (4 : Int32) (2 : Int32) h _) mf_X10_copyRow kml_X10_273 ⟨rfl, rfl, Nat.le_of_ble_eq_true rfl, Nat.le_of_ble_eq_true rfl⟩ ⟨Nat.le_of_ble_eq_true rfl, Nat.le_of_ble_eq_true rfl⟩ 10 0 rfl rfl hl.1 rfl dX10_run_326 (Nat.le_of_ble_eq_true rfl) rfl) (fun o_34 H locs h hh => ?_)
                        have hh : Wh D A s.heap ((List.flatten [bX10 a E o_34])) _ _ := hh.un0
                        refine lv_aload_n hx hb dX10_run_329 rfl (lv_at hl 0 rfl) ?_
                        refine lv_iload hx hb dX10_run_330 (lv_at hl 5 rfl) ?_
                        refine kV hh.ap0 hA (rnV hx hb hml hown hT hK hh.ap0 (c_X10_shrink l D E a  o_34 ((o.2.2 47) x1.toNatClampNeg) h _) mf_X10_shrink kml_X10_361 ⟨rfl, rfl, Nat.le_of_ble_eq_true rfl, Nat.le_of_ble_eq_true rfl⟩ ⟨Nat.le_of_ble_eq_true rfl, Nat.le_of_ble_eq_true rfl⟩ 10 0 rfl rfl hl.1 rfl dX10_run_332 (Nat.le_of_ble_eq_true rfl) rfl) (fun o_36 H locs h hh => ?_)
                        have hh : Wh D A s.heap ((List.flatten [bX10 a E o_36])) _ _ := hh.un0
                        exact kJ335 o_36 _ _ _ h hh (lv_sub hl [0, 1, 2, 3, 4, 5, 6] rfl)
                      refine lv_if_ge (tgt := 313) hx hb dX10_run_302 (by decide) (fun c30 => ?_) (fun c30 => ?_)
                      · have h := h.1 c30
                        refine lv_iconst (v := 0) hx hb dX10_run_313 (by decide) ?_
                        exact kJ314 0 ((o_28.1, (upd (upd (upd o_28.2.1 50 ((1 : Int32))) 52 ((1 : Int32))) 53 p7_106), o_28.2.2)) _ _ _ h hh (lv_sub hl [1, 2, 3, 4, 5, 6, 7] rfl)
                      · have h := h.2 c30
                        refine lv_bipush (v := (-10)) hx hb dX10_run_305 (by decide) ?_
                        refine lv_iload hx hb dX10_run_307 (lv_at hl 0 rfl) ?_
                        refine lv_isub hx hb dX10_run_309 ?_
                        refine lv_goto (tgt := 314) hx hb dX10_run_310 (by decide) ?_
                        exact kJ314 (((-10)) - r27) ((o_28.1, (upd (upd (upd o_28.2.1 50 ((1 : Int32))) 52 ((1 : Int32))) 53 p7_106), o_28.2.2)) _ _ _ h hh (lv_sub hl [1, 2, 3, 4, 5, 6, 7] rfl)
                  · have h := h.2 c26
                    exact hK252_106 o_k245 _ _ _ h hh (lv_sub hl [0] rfl)
                · have h := h.2 c15
                  exact hK148_106 r13 o_14 _ _ _ h hh (lv_sub hl [1, 0] rfl)
        obtain ⟨n, h⟩ := h
        refine hw106 _ _ (fun k8_148 o_k148 H locs ls h hh hl => ?_) (fun o_k252 H locs ls h hh hl => ?_) n 0 o_k103 _ _ _ h hh (lv_sub hl [1, 2, 3, 4, 5, 6, 0] rfl)
        · refine lv_aload_n hx hb dX10_run_148 rfl (lv_at hl 0 rfl) ?_
          refine lv_iload hx hb dX10_run_149 (lv_at hl 1 rfl) ?_
          refine lv_bipush (v := (-5)) hx hb dX10_run_151 (by decide) ?_
          refine jn_elim h (fun J161 hJ161 h => ?_)
          have kJ161 : ∀ (z_161 : Int32) (o_161 : Ob) (H : Heap) (locs : List Loc) (ls : Array Slot), J161 z_161 o_161 → Wh D A s.heap ((List.flatten [bX10 a E o_161])) H locs → lv_has ls 10 [(0, .ref (a 0))] → W p l e ({ frames := 9, cells := 0, slots := 0, locals := 216 } : Room) s m args below meth c H locs 0 0 Q (F0 m 161 ls [.int (z_161), .ref (a 0)]) := by
            intro z_161 o_161 H locs ls h hh hl
            rw [hJ161] at h
            refine P_X10_114 [] [] hx hb hT hown hK hh dX10_run_161 (fun H locs (hh : Wh D A s.heap ((List.flatten [bX10 a E ((o_161.1, (upd o_161.2.1 50 z_161), o_161.2.2))])) H locs) => ?_)
            refine lv_aload_n hx hb dX10_run_164 rfl (lv_at hl 0 rfl) ?_
            refine G_X10_114 [] [] hx hb hT hown hK hh (v := z_161) rfl dX10_run_165 ?_
            exact hret _ _ _ _ _ (o_161.1, (upd o_161.2.1 50 z_161), o_161.2.2) dX10_run_168 rfl h hh
          refine lv_icmp_ne (tgt := 160) hx hb dX10_run_153 (by decide) (fun c37 => ?_) (fun c37 => ?_)
          · have h := h.1 c37
            refine lv_iconst (v := 3) hx hb dX10_run_160 (by decide) ?_
            exact kJ161 3 o_k148 _ _ _ h hh (lv_sub hl [0] rfl)
          · have h := h.2 c37
            refine lv_iconst (v := 2) hx hb dX10_run_156 (by decide) ?_
            refine lv_goto (tgt := 161) hx hb dX10_run_157 (by decide) ?_
            exact kJ161 2 o_k148 _ _ _ h hh (lv_sub hl [0] rfl)
        · refine lv_aload_n hx hb dX10_run_252 rfl (lv_at hl 0 rfl) ?_
          refine lv_iconst (v := 3) hx hb dX10_run_253 (by decide) ?_
          refine P_X10_114 [] [] hx hb hT hown hK hh dX10_run_254 (fun H locs (hh : Wh D A s.heap ((List.flatten [bX10 a E ((o_k252.1, (upd o_k252.2.1 50 ((3 : Int32))), o_k252.2.2))])) H locs) => ?_)
          refine lv_iconst (v := 3) hx hb dX10_run_257 (by decide) ?_
          exact hret _ _ _ _ _ (o_k252.1, (upd o_k252.2.1 50 ((3 : Int32))), o_k252.2.2) dX10_run_258 rfl h hh
      · have h := h.2 c6
        refine lv_bipush (v := (-2)) hx hb dX10_run_38 (by decide) ?_
        exact hret _ _ _ _ _ o dX10_run_40 rfl h hh
  · have h := h.2 c2
    refine lv_iconst (v := (-1)) hx hb dX10_run_14 (by decide) ?_
    exact hret _ _ _ _ _ o dX10_run_15 rfl h hh

def w_X10_ran (x1 : Int32) (o : Ob) (Post : Int32 → Ob → Prop) : Prop := w_X10_in  x1 (0 : Int32) (7 : Int32)  (fun (r1 : Int32) => ((¬ r1 = 0) → ((0 ≤ (o.2.1 50)) → ((x1 = 0) → Post (o.2.1 50) o) ∧ ((x1 = 1) → Post (o.2.1 51) o) ∧ ((x1 = 2) → Post (o.2.1 53) o) ∧ ((x1 = 3) → Post (o.2.1 54) o) ∧ ((x1 = 4) → Post (o.2.1 55) o) ∧ ((¬ x1 = 0 ∧ ¬ x1 = 1 ∧ ¬ x1 = 2 ∧ ¬ x1 = 3 ∧ ¬ x1 = 4) → vp_in (x1 - 5) 3 ∧ (Post ((o.2.2 56) (x1 - 5).toNatClampNeg) o))) ∧ (¬ (0 ≤ (o.2.1 50)) → Post ((-9)) o)) ∧ ((r1 = 0) → Post ((-2)) o))
set_option maxRecDepth 100000 in
set_option maxHeartbeats 4000000 in
theorem c_X10_ran (l : Launch) (D : va_G) (E : Nat → ClassId) (a : Nat → Nat)  (o : Ob) (x1 : Int32) {Post : Int32 → Ob → Prop} (h : w_X10_ran x1 o Post) : CtI l yX10_ran cX10_ran 2 .int ({ frames := 1, cells := 0, slots := 0, locals := 22 } : Room) D E [.ref (a 0), .int (x1)] (List.flatten [bX10 a E o]) (fun u : Ob => List.flatten [bX10 a E u]) Post 0 0 := by
  refine enI (by decide +kernel) (Nat.le_of_ble_eq_true rfl) ?_
  intro p e s m args below meth c Q A ls hx hb hml hown hT hK hA hret hh hl
  have hl : lv_has ls 2 [(0, .ref (a 0)), (1, .int (x1))] := hl
  unfold w_X10_ran at h
  refine lv_iload_n hx hb dX10_ran_0 rfl (lv_at hl 1 rfl) ?_
  refine lv_iconst (v := 0) hx hb dX10_ran_1 (by decide) ?_
  refine lv_bipush (v := 7) hx hb dX10_ran_2 (by decide) ?_
  refine kI hh.none hA (rnS hx hb hml hown hT hK hh.none (c_X10_in l D E    x1 (0 : Int32) (7 : Int32) h _) mf_X10_in kml_X10_126 ⟨rfl, rfl, Nat.le_of_ble_eq_true rfl, Nat.le_of_ble_eq_true rfl⟩ ⟨Nat.le_of_ble_eq_true rfl, Nat.le_of_ble_eq_true rfl⟩ hl.1 rfl dX10_ran_4 (Nat.le_of_ble_eq_true rfl) rfl) (fun r1 u H locs h hh => ?_)
  have hh : Wh D A s.heap ((List.flatten [bX10 a E o])) _ _ := hh.unone
  refine lv_if_ne (tgt := 13) hx hb dX10_ran_7 (by decide) (fun c2 => ?_) (fun c2 => ?_)
  · have h := h.1 c2
    refine lv_aload_n hx hb dX10_ran_13 rfl (lv_at hl 0 rfl) ?_
    refine G_X10_114 [] [] hx hb hT hown hK hh (v := o.2.1 50) rfl dX10_ran_14 ?_
    refine lv_if_ge (tgt := 23) hx hb dX10_ran_17 (by decide) (fun c3 => ?_) (fun c3 => ?_)
    · have h := h.1 c3
      refine lv_iload_n hx hb dX10_ran_23 rfl (lv_at hl 1 rfl) ?_
      by_cases c4 : x1 = 0
      · have h := h.1 c4
        refine lv_tableIn (off := 36) (tgt := 60) hx hb dX10_ran_24 (by rw [c4]; decide) (by rw [c4]; decide) (by rw [c4]; rfl) (by decide) ?_
        refine lv_aload_n hx hb dX10_ran_60 rfl (lv_at hl 0 rfl) ?_
        refine G_X10_114 [] [] hx hb hT hown hK hh (v := o.2.1 50) rfl dX10_ran_61 ?_
        exact hret _ _ _ _ _ o dX10_ran_64 rfl h hh
      · by_cases c5 : x1 = 1
        · have h := h.2.1 c5
          refine lv_tableIn (off := 41) (tgt := 65) hx hb dX10_ran_24 (by rw [c5]; decide) (by rw [c5]; decide) (by rw [c5]; rfl) (by decide) ?_
          refine lv_aload_n hx hb dX10_ran_65 rfl (lv_at hl 0 rfl) ?_
          refine G_X10_353 [] [] hx hb hT hown hK hh (v := o.2.1 51) rfl dX10_ran_66 ?_
          exact hret _ _ _ _ _ o dX10_ran_69 rfl h hh
        · by_cases c6 : x1 = 2
          · have h := h.2.2.1 c6
            refine lv_tableIn (off := 46) (tgt := 70) hx hb dX10_ran_24 (by rw [c6]; decide) (by rw [c6]; decide) (by rw [c6]; rfl) (by decide) ?_
            refine lv_aload_n hx hb dX10_ran_70 rfl (lv_at hl 0 rfl) ?_
            refine G_X10_356 [] [] hx hb hT hown hK hh (v := o.2.1 53) rfl dX10_ran_71 ?_
            exact hret _ _ _ _ _ o dX10_ran_74 rfl h hh
          · by_cases c7 : x1 = 3
            · have h := h.2.2.2.1 c7
              refine lv_tableIn (off := 51) (tgt := 75) hx hb dX10_ran_24 (by rw [c7]; decide) (by rw [c7]; decide) (by rw [c7]; rfl) (by decide) ?_
              refine lv_aload_n hx hb dX10_ran_75 rfl (lv_at hl 0 rfl) ?_
              refine G_X10_347 [] [] hx hb hT hown hK hh (v := o.2.1 54) rfl dX10_ran_76 ?_
              exact hret _ _ _ _ _ o dX10_ran_79 rfl h hh
            · by_cases c8 : x1 = 4
              · have h := h.2.2.2.2.1 c8
                refine lv_tableIn (off := 56) (tgt := 80) hx hb dX10_ran_24 (by rw [c8]; decide) (by rw [c8]; decide) (by rw [c8]; rfl) (by decide) ?_
                refine lv_aload_n hx hb dX10_ran_80 rfl (lv_at hl 0 rfl) ?_
                refine G_X10_350 [] [] hx hb hT hown hK hh (v := o.2.1 55) rfl dX10_ran_81 ?_
                exact hret _ _ _ _ _ o dX10_ran_84 rfl h hh
              · have h := h.2.2.2.2.2 ⟨c4, c5, c6, c7, c8⟩
                refine q_swD (tgt := 85) hx hb dX10_ran_24 (fun i h1 h2 he => (show i = 0 ∨ i = 1 ∨ i = 2 ∨ i = 3 ∨ i = 4 by omega).elim (fun z => absurd (q_oi he z (by decide)) c4) (fun z => z.elim (fun z => absurd (q_oi he z (by decide)) c5) (fun z => z.elim (fun z => absurd (q_oi he z (by decide)) c6) (fun z => z.elim (fun z => absurd (q_oi he z (by decide)) c7) (fun z => absurd (q_oi he z (by decide)) c8))))) (by decide) ?_
                refine lv_aload_n hx hb dX10_ran_85 rfl (lv_at hl 0 rfl) ?_
                refine G_X10_107 [] [] hx hb hT hown hK hh dX10_ran_86 ?_
                refine lv_iload_n hx hb dX10_ran_89 rfl (lv_at hl 1 rfl) ?_
                refine lv_iconst (v := 5) hx hb dX10_ran_90 (by decide) ?_
                refine lv_isub hx hb dX10_ran_91 ?_
                obtain ⟨g9, h⟩ := h
                refine A_X10_56 [] [] hx hb hK hh (v := (o.2.2 56) (x1 - 5).toNatClampNeg) g9 rfl dX10_ran_92 ?_
                exact hret _ _ _ _ _ o dX10_ran_93 rfl h hh
    · have h := h.2 c3
      refine lv_bipush (v := (-9)) hx hb dX10_ran_20 (by decide) ?_
      exact hret _ _ _ _ _ o dX10_ran_22 rfl h hh
  · have h := h.2 c2
    refine lv_bipush (v := (-2)) hx hb dX10_ran_10 (by decide) ?_
    exact hret _ _ _ _ _ o dX10_ran_12 rfl h hh

def w_X10_show (x1 : Int32) (o : Ob) (Post : Int32 → Ob → Prop) : Prop := (((o.2.1 52) = 0) → Post ((-3)) o) ∧ (¬ ((o.2.1 52) = 0) → jn (fun J17 : Int32 → Ob → Prop => ((x1 = 0) → J17 2 o) ∧ (¬ (x1 = 0) → J17 1 o)) (fun (z_17 : Int32) (o_17 : Ob) => w_X10_shows  z_17 o_17 (fun (r3 : Int32) (o_4 : Ob) => Post r3 o_4)))
set_option maxRecDepth 100000 in
set_option maxHeartbeats 4000000 in
theorem c_X10_show (l : Launch) (D : va_G) (E : Nat → ClassId) (a : Nat → Nat)  (o : Ob) (x1 : Int32) {Post : Int32 → Ob → Prop} (h : w_X10_show x1 o Post) : CtI l yX10_show cX10_show 2 .int ({ frames := 5, cells := 0, slots := 0, locals := 115 } : Room) D E [.ref (a 0), .int (x1)] (List.flatten [bX10 a E o]) (fun u : Ob => List.flatten [bX10 a E u]) Post 0 0 := by
  refine enI (by decide +kernel) (Nat.le_of_ble_eq_true rfl) ?_
  intro p e s m args below meth c Q A ls hx hb hml hown hT hK hA hret hh hl
  have hl : lv_has ls 2 [(0, .ref (a 0)), (1, .int (x1))] := hl
  unfold w_X10_show at h
  refine lv_aload_n hx hb dX10_show_0 rfl (lv_at hl 0 rfl) ?_
  refine G_X10_117 [] [] hx hb hT hown hK hh (v := o.2.1 52) rfl dX10_show_1 ?_
  refine lv_if_eq (tgt := 23) hx hb dX10_show_4 (by decide) (fun c1 => ?_) (fun c1 => ?_)
  · have h := h.1 c1
    refine lv_bipush (v := (-3)) hx hb dX10_show_23 (by decide) ?_
    exact hret _ _ _ _ _ o dX10_show_25 rfl h hh
  · have h := h.2 c1
    refine lv_aload_n hx hb dX10_show_7 rfl (lv_at hl 0 rfl) ?_
    refine lv_iload_n hx hb dX10_show_8 rfl (lv_at hl 1 rfl) ?_
    refine jn_elim h (fun J17 hJ17 h => ?_)
    have kJ17 : ∀ (z_17 : Int32) (o_17 : Ob) (H : Heap) (locs : List Loc) (ls : Array Slot), J17 z_17 o_17 → Wh D A s.heap ((List.flatten [bX10 a E o_17])) H locs → lv_has ls 2 [] → W p l e ({ frames := 5, cells := 0, slots := 0, locals := 115 } : Room) s m args below meth c H locs 0 0 Q (F0 m 17 ls [.int (z_17), .ref (a 0)]) := by
      intro z_17 o_17 H locs ls h hh hl
      rw [hJ17] at h
      refine kI hh.ap0 hA (rnV hx hb hml hown hT hK hh.ap0 (c_X10_shows l D E a  o_17 z_17 h _) mf_X10_shows kml_X10_280 ⟨rfl, rfl, Nat.le_of_ble_eq_true rfl, Nat.le_of_ble_eq_true rfl⟩ ⟨Nat.le_of_ble_eq_true rfl, Nat.le_of_ble_eq_true rfl⟩ 10 0 rfl rfl hl.1 rfl dX10_show_17 (Nat.le_of_ble_eq_true rfl) rfl) (fun r3 o_4 H locs h hh => ?_)
      have hh : Wh D A s.heap ((List.flatten [bX10 a E o_4])) _ _ := hh.un0
      refine lv_goto (tgt := 25) hx hb dX10_show_20 (by decide) ?_
      exact hret _ _ _ _ _ o_4 dX10_show_25 rfl h hh
    refine lv_if_eq (tgt := 16) hx hb dX10_show_9 (by decide) (fun c2 => ?_) (fun c2 => ?_)
    · have h := h.1 c2
      refine lv_iconst (v := 2) hx hb dX10_show_16 (by decide) ?_
      exact kJ17 2 o _ _ _ h hh (lv_sub hl [] rfl)
    · have h := h.2 c2
      refine lv_iconst (v := 1) hx hb dX10_show_12 (by decide) ?_
      refine lv_goto (tgt := 17) hx hb dX10_show_13 (by decide) ?_
      exact kJ17 1 o _ _ _ h hh (lv_sub hl [] rfl)

def w_X10_effort  (o : Ob) (Post : Int32 → Ob → Prop) : Prop := Post (o.2.1 34) o
set_option maxRecDepth 100000 in
set_option maxHeartbeats 4000000 in
theorem c_X10_effort (l : Launch) (D : va_G) (E : Nat → ClassId) (a : Nat → Nat)  (o : Ob)  {Post : Int32 → Ob → Prop} (h : w_X10_effort  o Post) : CtI l yX10_effort cX10_effort 1 .int ({ frames := 0, cells := 0, slots := 0, locals := 0 } : Room) D E [.ref (a 0)] (List.flatten [bX10 a E o]) (fun u : Ob => List.flatten [bX10 a E u]) Post 0 0 := by
  refine enI (by decide +kernel) (Nat.le_of_ble_eq_true rfl) ?_
  intro p e s m args below meth c Q A ls hx hb hml hown hT hK hA hret hh hl
  have hl : lv_has ls 1 [(0, .ref (a 0))] := hl
  unfold w_X10_effort at h
  refine lv_aload_n hx hb dX10_effort_0 rfl (lv_at hl 0 rfl) ?_
  refine G_X10_110 [] [] hx hb hT hown hK hh (v := o.2.1 34) rfl dX10_effort_1 ?_
  exact hret _ _ _ _ _ o dX10_effort_4 rfl h hh

def w_X10_told (x1 : Int32) (o : Ob) (Post : Int32 → Ob → Prop) : Prop := ((x1 = 0) → Post (o.2.1 0) o) ∧ ((x1 = 1) → Post (o.2.1 21) o) ∧ ((x1 = 2) → Post (o.2.1 45) o) ∧ ((x1 = 3) → ((0 ≤ ((o.2.2 8) (0 : Int32).toNatClampNeg)) → w_X10_reckonShown   o (fun (o_6 : Ob) => Post (o_6.2.1 14) o_6)) ∧ (¬ (0 ≤ ((o.2.2 8) (0 : Int32).toNatClampNeg)) → Post ((-9)) o)) ∧ ((¬ x1 = 0 ∧ ¬ x1 = 1 ∧ ¬ x1 = 2 ∧ ¬ x1 = 3) → Post ((-2)) o)
set_option maxRecDepth 100000 in
set_option maxHeartbeats 4000000 in
theorem c_X10_told (l : Launch) (D : va_G) (E : Nat → ClassId) (a : Nat → Nat)  (o : Ob) (x1 : Int32) {Post : Int32 → Ob → Prop} (h : w_X10_told x1 o Post) : CtI l yX10_told cX10_told 2 .int ({ frames := 5, cells := 0, slots := 0, locals := 114 } : Room) D E [.ref (a 0), .int (x1)] (List.flatten [bX10 a E o]) (fun u : Ob => List.flatten [bX10 a E u]) Post 0 0 := by
  refine enI (by decide +kernel) (Nat.le_of_ble_eq_true rfl) ?_
  intro p e s m args below meth c Q A ls hx hb hml hown hT hK hA hret hh hl
  have hl : lv_has ls 2 [(0, .ref (a 0)), (1, .int (x1))] := hl
  unfold w_X10_told at h
  refine lv_iload_n hx hb dX10_told_0 rfl (lv_at hl 1 rfl) ?_
  by_cases c1 : x1 = 0
  · have h := h.1 c1
    refine lv_tableIn (off := 31) (tgt := 32) hx hb dX10_told_1 (by rw [c1]; decide) (by rw [c1]; decide) (by rw [c1]; rfl) (by decide) ?_
    refine lv_aload_n hx hb dX10_told_32 rfl (lv_at hl 0 rfl) ?_
    refine G_X10_123 [] [] hx hb hT hown hK hh (v := o.2.1 0) rfl dX10_told_33 ?_
    exact hret _ _ _ _ _ o dX10_told_36 rfl h hh
  · by_cases c2 : x1 = 1
    · have h := h.2.1 c2
      refine lv_tableIn (off := 36) (tgt := 37) hx hb dX10_told_1 (by rw [c2]; decide) (by rw [c2]; decide) (by rw [c2]; rfl) (by decide) ?_
      refine lv_aload_n hx hb dX10_told_37 rfl (lv_at hl 0 rfl) ?_
      refine G_X10_178 [] [] hx hb hT hown hK hh (v := o.2.1 21) rfl dX10_told_38 ?_
      exact hret _ _ _ _ _ o dX10_told_41 rfl h hh
    · by_cases c3 : x1 = 2
      · have h := h.2.2.1 c3
        refine lv_tableIn (off := 41) (tgt := 42) hx hb dX10_told_1 (by rw [c3]; decide) (by rw [c3]; decide) (by rw [c3]; rfl) (by decide) ?_
        refine lv_aload_n hx hb dX10_told_42 rfl (lv_at hl 0 rfl) ?_
        refine G_X10_344 [] [] hx hb hT hown hK hh (v := o.2.1 45) rfl dX10_told_43 ?_
        exact hret _ _ _ _ _ o dX10_told_46 rfl h hh
      · by_cases c7 : x1 = 3
        · have h := h.2.2.2.1 c7
          refine lv_tableIn (off := 46) (tgt := 47) hx hb dX10_told_1 (by rw [c7]; decide) (by rw [c7]; decide) (by rw [c7]; rfl) (by decide) ?_
          refine lv_aload_n hx hb dX10_told_47 rfl (lv_at hl 0 rfl) ?_
          refine G_X10_32 [] [] hx hb hT hown hK hh dX10_told_48 ?_
          refine lv_iconst (v := 0) hx hb dX10_told_51 (by decide) ?_
          refine A_X10_8 [] [] hx hb hK hh (v := (o.2.2 8) (0 : Int32).toNatClampNeg) (by unfold vp_in; decide) rfl dX10_told_52 ?_
          refine lv_if_ge (tgt := 59) hx hb dX10_told_53 (by decide) (fun c4 => ?_) (fun c4 => ?_)
          · have h := h.1 c4
            refine lv_aload_n hx hb dX10_told_59 rfl (lv_at hl 0 rfl) ?_
            refine kV hh.ap0 hA (rnV hx hb hml hown hT hK hh.ap0 (c_X10_reckonShown l D E a  o  h _) mf_X10_reckonShown kml_X10_341 ⟨rfl, rfl, Nat.le_of_ble_eq_true rfl, Nat.le_of_ble_eq_true rfl⟩ ⟨Nat.le_of_ble_eq_true rfl, Nat.le_of_ble_eq_true rfl⟩ 10 0 rfl rfl hl.1 rfl dX10_told_60 (Nat.le_of_ble_eq_true rfl) rfl) (fun o_6 H locs h hh => ?_)
            have hh : Wh D A s.heap ((List.flatten [bX10 a E o_6])) _ _ := hh.un0
            refine lv_aload_n hx hb dX10_told_63 rfl (lv_at hl 0 rfl) ?_
            refine G_X10_147 [] [] hx hb hT hown hK hh (v := o_6.2.1 14) rfl dX10_told_64 ?_
            exact hret _ _ _ _ _ o_6 dX10_told_67 rfl h hh
          · have h := h.2 c4
            refine lv_bipush (v := (-9)) hx hb dX10_told_56 (by decide) ?_
            exact hret _ _ _ _ _ o dX10_told_58 rfl h hh
        · have h := h.2.2.2.2 ⟨c1, c2, c3, c7⟩
          refine q_swD (tgt := 68) hx hb dX10_told_1 (fun i h1 h2 he => (show i = 0 ∨ i = 1 ∨ i = 2 ∨ i = 3 by omega).elim (fun z => absurd (q_oi he z (by decide)) c1) (fun z => z.elim (fun z => absurd (q_oi he z (by decide)) c2) (fun z => z.elim (fun z => absurd (q_oi he z (by decide)) c3) (fun z => absurd (q_oi he z (by decide)) c7)))) (by decide) ?_
          refine lv_bipush (v := (-2)) hx hb dX10_told_68 (by decide) ?_
          exact hret _ _ _ _ _ o dX10_told_70 rfl h hh
