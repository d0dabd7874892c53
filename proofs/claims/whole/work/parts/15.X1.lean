def w_X8_dropParts_L35 (f1_35 : Int32) (f2_35 : Int32) (f3_35 : Int32) (K195_35 : Ob → Prop) (Post : Ob → Prop) : Nat → Int32 → Ob → Prop
  | 0, _, _ => False
  | n35 + 1, p4_35, o_35 => (((o_35.2.1 6) ≤ p4_35) → K195_35 o_35) ∧ (¬ ((o_35.2.1 6) ≤ p4_35) → jn (fun J189 : Ob → Prop => jn (fun J56 : Ob → Prop => ((p4_35 < f1_35) → J56 o_35) ∧ (¬ (p4_35 < f1_35) → ((p4_35 < f2_35) → J189 o_35) ∧ (¬ (p4_35 < f2_35) → J56 o_35))) (fun (o_56 : Ob) => jn (fun J71 : Int32 → Ob → Prop => ((f1_35 ≤ p4_35) → J71 (p4_35 - f3_35) o_56) ∧ (¬ (f1_35 ≤ p4_35) → J71 p4_35 o_56)) (fun (z_71 : Int32) (o_71 : Ob) => vp_in p4_35 744 ∧ (vp_in z_71 744 ∧ (vp_in p4_35 744 ∧ (vp_in z_71 744 ∧ (vp_in p4_35 744 ∧ (vp_in z_71 744 ∧ (vp_in p4_35 744 ∧ (jn (fun J151 : Int32 → Ob → Prop => ((((o_71.2.2 3) p4_35.toNatClampNeg) < f2_35) → vp_in p4_35 744 ∧ (J151 ((o_71.2.2 3) p4_35.toNatClampNeg) ((o_71.1, o_71.2.1, (sa (sa (sa o_71.2.2 0 (upd (o_71.2.2 0) z_71.toNatClampNeg ((o_71.2.2 0) p4_35.toNatClampNeg))) 1 (upd (o_71.2.2 1) z_71.toNatClampNeg ((o_71.2.2 1) p4_35.toNatClampNeg))) 2 (upd (o_71.2.2 2) z_71.toNatClampNeg ((o_71.2.2 2) p4_35.toNatClampNeg))))))) ∧ (¬ (((o_71.2.2 3) p4_35.toNatClampNeg) < f2_35) → vp_in p4_35 744 ∧ (J151 (((o_71.2.2 3) p4_35.toNatClampNeg) - f3_35) ((o_71.1, o_71.2.1, (sa (sa (sa o_71.2.2 0 (upd (o_71.2.2 0) z_71.toNatClampNeg ((o_71.2.2 0) p4_35.toNatClampNeg))) 1 (upd (o_71.2.2 1) z_71.toNatClampNeg ((o_71.2.2 1) p4_35.toNatClampNeg))) 2 (upd (o_71.2.2 2) z_71.toNatClampNeg ((o_71.2.2 2) p4_35.toNatClampNeg)))))))) (fun (z_151 : Int32) (o_151 : Ob) => vp_in z_71 744 ∧ (vp_in p4_35 744 ∧ (jn (fun J188 : Int32 → Ob → Prop => ((((o_151.2.2 4) p4_35.toNatClampNeg) < f2_35) → vp_in p4_35 744 ∧ (J188 ((o_151.2.2 4) p4_35.toNatClampNeg) ((o_151.1, o_151.2.1, (sa o_151.2.2 3 (upd (o_151.2.2 3) z_71.toNatClampNeg z_151)))))) ∧ (¬ (((o_151.2.2 4) p4_35.toNatClampNeg) < f2_35) → vp_in p4_35 744 ∧ (J188 (((o_151.2.2 4) p4_35.toNatClampNeg) - f3_35) ((o_151.1, o_151.2.1, (sa o_151.2.2 3 (upd (o_151.2.2 3) z_71.toNatClampNeg z_151))))))) (fun (z_188 : Int32) (o_188 : Ob) => vp_in z_71 744 ∧ (J189 ((o_188.1, o_188.2.1, (sa o_188.2.2 4 (upd (o_188.2.2 4) z_71.toNatClampNeg z_188))))))))))))))))))) (fun (o_189 : Ob) => w_X8_dropParts_L35 f1_35 f2_35 f3_35 K195_35 Post n35 (p4_35 + 1) o_189))
def w_X8_dropParts (x1 : Int32) (x2 : Int32) (o : Ob) (Post : Ob → Prop) : Prop := ((x1 < 0) → Post o) ∧ (¬ (x1 < 0) → ((x2 ≤ x1) → Post o) ∧ (¬ (x2 ≤ x1) → (((o.2.1 6) < x2) → Post o) ∧ (¬ ((o.2.1 6) < x2) → (((o.2.1 6) ≤ 744) → ∃ n35, w_X8_dropParts_L35 x1 x2 (x2 - x1) (fun (o_k195 : Ob) => Post ((o_k195.1, (upd o_k195.2.1 6 (((o_k195.2.1 6) - (x2 - x1)))), o_k195.2.2))) Post n35 0 o) ∧ (¬ ((o.2.1 6) ≤ 744) → Post o))))
set_option maxRecDepth 100000 in
set_option maxHeartbeats 4000000 in
theorem c_X8_dropParts (l : Launch) (D : va_G) (E : Nat → ClassId) (a : Nat → Nat)  (o : Ob) (x1 : Int32) (x2 : Int32) {Post : Ob → Prop} (h : w_X8_dropParts x1 x2 o Post) : CtV l yX8_dropParts cX8_dropParts 6 ({ frames := 0, cells := 0, slots := 0, locals := 0 } : Room) D E [.ref (a 0), .int (x1), .int (x2)] (List.flatten [bX8 a E o]) (fun u : Ob => List.flatten [bX8 a E u]) Post 0 0 := by
  refine enV (by decide +kernel) (Nat.le_of_ble_eq_true rfl) ?_
  intro p e s m args below meth c Q A ls hx hb hml hown hT hK hA hin0 hret hh hl
  have hl : lv_has ls 6 [(0, .ref (a 0)), (1, .int (x1)), (2, .int (x2))] := hl
  unfold w_X8_dropParts at h
  refine lv_iload_n hx hb dX8_dropParts_0 rfl (lv_at hl 1 rfl) ?_
  refine lv_if_lt (tgt := 27) hx hb dX8_dropParts_1 (by decide) (fun c1 => ?_) (fun c1 => ?_)
  · have h := h.1 c1
    exact hret _ _ _ _ o dX8_dropParts_27 h hh
  · have h := h.2 c1
    refine lv_iload_n hx hb dX8_dropParts_4 rfl (lv_at hl 2 rfl) ?_
    refine lv_iload_n hx hb dX8_dropParts_5 rfl (lv_at hl 1 rfl) ?_
    refine lv_icmp_le (tgt := 27) hx hb dX8_dropParts_6 (by decide) (fun c2 => ?_) (fun c2 => ?_)
    · have h := h.1 c2
      exact hret _ _ _ _ o dX8_dropParts_27 h hh
    · have h := h.2 c2
      refine lv_iload_n hx hb dX8_dropParts_9 rfl (lv_at hl 2 rfl) ?_
      refine lv_aload_n hx hb dX8_dropParts_10 rfl (lv_at hl 0 rfl) ?_
      refine G_X8_30 [] [] hx hb hT hown hK hh (v := o.2.1 6) rfl dX8_dropParts_11 ?_
      refine lv_icmp_gt (tgt := 27) hx hb dX8_dropParts_14 (by decide) (fun c3 => ?_) (fun c3 => ?_)
      · have h := h.1 c3
        exact hret _ _ _ _ o dX8_dropParts_27 h hh
      · have h := h.2 c3
        refine lv_aload_n hx hb dX8_dropParts_17 rfl (lv_at hl 0 rfl) ?_
        refine G_X8_30 [] [] hx hb hT hown hK hh (v := o.2.1 6) rfl dX8_dropParts_18 ?_
        refine lv_sipush (v := 744) hx hb dX8_dropParts_21 (by decide) ?_
        refine lv_icmp_le (tgt := 28) hx hb dX8_dropParts_24 (by decide) (fun c4 => ?_) (fun c4 => ?_)
        · have h := h.1 c4
          refine lv_iload_n hx hb dX8_dropParts_28 rfl (lv_at hl 2 rfl) ?_
          refine lv_iload_n hx hb dX8_dropParts_29 rfl (lv_at hl 1 rfl) ?_
          refine lv_isub hx hb dX8_dropParts_30 ?_
          refine lv_istore_n (lv' := [(3, .int (x2 - x1)), (0, .ref (a 0)), (1, .int (x1)), (2, .int (x2))]) hx hb dX8_dropParts_31 rfl hl (by decide) rfl (fun ls hl => ?_)
          refine lv_iconst (v := 0) hx hb dX8_dropParts_32 (by decide) ?_
          refine lv_istore (lv' := [(4, .int (0)), (3, .int (x2 - x1)), (0, .ref (a 0)), (1, .int (x1)), (2, .int (x2))]) hx hb dX8_dropParts_33 hl (by decide) rfl (fun ls hl => ?_)
          have hw35 : ∀ (K195_35 : Ob → Prop) (hK195_35 : ∀ (o_k195 : Ob) (H : Heap) (locs : List Loc) (ls : Array Slot), K195_35 o_k195 → Wh D A s.heap ((List.flatten [bX8 a E o_k195])) H locs → lv_has ls 6 [(0, .ref (a 0)), (3, .int (x2 - x1))] → W p l e ({ frames := 0, cells := 0, slots := 0, locals := 0 } : Room) s m args below meth c H locs 0 0 Q (F0 m 195 ls [])) (n : Nat) (p4_35 : Int32) (o_35 : Ob) (H : Heap) (locs : List Loc) (ls : Array Slot), w_X8_dropParts_L35 x1 x2 (x2 - x1) K195_35 Post n p4_35 o_35 → Wh D A s.heap ((List.flatten [bX8 a E o_35])) H locs → lv_has ls 6 [(0, .ref (a 0)), (1, .int (x1)), (2, .int (x2)), (3, .int (x2 - x1)), (4, .int (p4_35))] → W p l e ({ frames := 0, cells := 0, slots := 0, locals := 0 } : Room) s m args below meth c H locs 0 0 Q (F0 m 35 ls []) := by
            intro K195_35 hK195_35 n
            induction n with
            | zero => intro p4_35 o_35 H locs ls h hh hl; exact False.elim h
            | succ n ih =>
              intro p4_35 o_35 H locs ls h hh hl
              refine lv_iload hx hb dX8_dropParts_35 (lv_at hl 4 rfl) ?_
              refine lv_aload_n hx hb dX8_dropParts_37 rfl (lv_at hl 0 rfl) ?_
              refine G_X8_30 [] [] hx hb hT hown hK hh (v := o_35.2.1 6) rfl dX8_dropParts_38 ?_
              refine lv_icmp_ge (tgt := 195) hx hb dX8_dropParts_41 (by decide) (fun c5 => ?_) (fun c5 => ?_)
              · have h := h.1 c5
                exact hK195_35 o_35 _ _ _ h hh (lv_sub hl [0, 3] rfl)
              · have h := h.2 c5
                refine lv_iload hx hb dX8_dropParts_44 (lv_at hl 4 rfl) ?_
                refine lv_iload_n hx hb dX8_dropParts_46 rfl (lv_at hl 1 rfl) ?_
                refine jn_elim h (fun J189 hJ189 h => ?_)
                have kJ189 : ∀ (o_189 : Ob) (H : Heap) (locs : List Loc) (ls : Array Slot), J189 o_189 → Wh D A s.heap ((List.flatten [bX8 a E o_189])) H locs → lv_has ls 6 [(0, .ref (a 0)), (1, .int (x1)), (2, .int (x2)), (3, .int ((x2 - x1))), (4, .int (p4_35))] → W p l e ({ frames := 0, cells := 0, slots := 0, locals := 0 } : Room) s m args below meth c H locs 0 0 Q (F0 m 189 ls []) := by
                  intro o_189 H locs ls h hh hl
                  rw [hJ189] at h
                  refine lv_iinc (v := p4_35 + 1) (lv' := [(4, .int (p4_35 + 1)), (0, .ref (a 0)), (1, .int (x1)), (2, .int (x2)), (3, .int ((x2 - x1)))]) hx hb dX8_dropParts_189 hl (k := 4) rfl (by rfl) (by decide) rfl (fun ls hl => ?_)
                  refine lv_goto (tgt := 35) hx hb dX8_dropParts_192 (by decide) ?_
                  exact ih (p4_35 + 1) o_189 _ _ _ h hh (lv_sub hl [1, 2, 3, 4, 0] rfl)
                refine jn_elim h (fun J56 hJ56 h => ?_)
                have kJ56 : ∀ (o_56 : Ob) (H : Heap) (locs : List Loc) (ls : Array Slot), J56 o_56 → Wh D A s.heap ((List.flatten [bX8 a E o_56])) H locs → lv_has ls 6 [(0, .ref (a 0)), (1, .int (x1)), (2, .int (x2)), (3, .int ((x2 - x1))), (4, .int (p4_35))] → W p l e ({ frames := 0, cells := 0, slots := 0, locals := 0 } : Room) s m args below meth c H locs 0 0 Q (F0 m 56 ls []) := by
                  intro o_56 H locs ls h hh hl
                  rw [hJ56] at h
                  refine lv_iload hx hb dX8_dropParts_56 (lv_at hl 4 rfl) ?_
                  refine lv_iload_n hx hb dX8_dropParts_58 rfl (lv_at hl 1 rfl) ?_
                  refine jn_elim h (fun J71 hJ71 h => ?_)
                  have kJ71 : ∀ (z_71 : Int32) (o_71 : Ob) (H : Heap) (locs : List Loc) (ls : Array Slot), J71 z_71 o_71 → Wh D A s.heap ((List.flatten [bX8 a E o_71])) H locs → lv_has ls 6 [(0, .ref (a 0)), (1, .int (x1)), (2, .int (x2)), (3, .int ((x2 - x1))), (4, .int (p4_35))] → W p l e ({ frames := 0, cells := 0, slots := 0, locals := 0 } : Room) s m args below meth c H locs 0 0 Q (F0 m 71 ls [.int (z_71)]) := by
                    intro z_71 o_71 H locs ls h hh hl
                    rw [hJ71] at h
                    refine lv_istore (lv' := [(5, .int (z_71)), (0, .ref (a 0)), (1, .int (x1)), (2, .int (x2)), (3, .int ((x2 - x1))), (4, .int (p4_35))]) hx hb dX8_dropParts_71 hl (by decide) rfl (fun ls hl => ?_)
                    refine lv_aload_n hx hb dX8_dropParts_73 rfl (lv_at hl 1 rfl) ?_
                    refine G_X8_9 [] [] hx hb hT hown hK hh dX8_dropParts_74 ?_
                    refine lv_iload hx hb dX8_dropParts_77 (lv_at hl 0 rfl) ?_
                    refine lv_aload_n hx hb dX8_dropParts_79 rfl (lv_at hl 1 rfl) ?_
                    refine G_X8_9 [] [] hx hb hT hown hK hh dX8_dropParts_80 ?_
                    refine lv_iload hx hb dX8_dropParts_83 (lv_at hl 5 rfl) ?_
                    obtain ⟨g9, h⟩ := h
                    refine A_X8_0 [] [] hx hb hK hh (v := (o_71.2.2 0) p4_35.toNatClampNeg) g9 rfl dX8_dropParts_85 ?_
                    obtain ⟨g10, h⟩ := h
                    refine S_X8_0 [] [] hx hb hK hh g10 dX8_dropParts_86 (fun H locs (hh : Wh D A s.heap ((List.flatten [bX8 a E ((o_71.1, o_71.2.1, (sa o_71.2.2 0 (upd (o_71.2.2 0) z_71.toNatClampNeg ((o_71.2.2 0) p4_35.toNatClampNeg)))))])) H locs) => ?_)
                    refine lv_aload_n hx hb dX8_dropParts_87 rfl (lv_at hl 1 rfl) ?_
                    refine G_X8_15 [] [] hx hb hT hown hK hh dX8_dropParts_88 ?_
                    refine lv_iload hx hb dX8_dropParts_91 (lv_at hl 0 rfl) ?_
                    refine lv_aload_n hx hb dX8_dropParts_93 rfl (lv_at hl 1 rfl) ?_
                    refine G_X8_15 [] [] hx hb hT hown hK hh dX8_dropParts_94 ?_
                    refine lv_iload hx hb dX8_dropParts_97 (lv_at hl 5 rfl) ?_
                    obtain ⟨g11, h⟩ := h
                    refine A_X8_1 [] [] hx hb hK hh (v := (o_71.2.2 1) p4_35.toNatClampNeg) g11 rfl dX8_dropParts_99 ?_
                    obtain ⟨g12, h⟩ := h
                    refine S_X8_1 [] [] hx hb hK hh g12 dX8_dropParts_100 (fun H locs (hh : Wh D A s.heap ((List.flatten [bX8 a E ((o_71.1, o_71.2.1, (sa (sa o_71.2.2 0 (upd (o_71.2.2 0) z_71.toNatClampNeg ((o_71.2.2 0) p4_35.toNatClampNeg))) 1 (upd (o_71.2.2 1) z_71.toNatClampNeg ((o_71.2.2 1) p4_35.toNatClampNeg)))))])) H locs) => ?_)
                    refine lv_aload_n hx hb dX8_dropParts_101 rfl (lv_at hl 1 rfl) ?_
                    refine G_X8_18 [] [] hx hb hT hown hK hh dX8_dropParts_102 ?_
                    refine lv_iload hx hb dX8_dropParts_105 (lv_at hl 0 rfl) ?_
                    refine lv_aload_n hx hb dX8_dropParts_107 rfl (lv_at hl 1 rfl) ?_
                    refine G_X8_18 [] [] hx hb hT hown hK hh dX8_dropParts_108 ?_
                    refine lv_iload hx hb dX8_dropParts_111 (lv_at hl 5 rfl) ?_
                    obtain ⟨g13, h⟩ := h
                    refine A_X8_2 [] [] hx hb hK hh (v := (o_71.2.2 2) p4_35.toNatClampNeg) g13 rfl dX8_dropParts_113 ?_
                    obtain ⟨g14, h⟩ := h
                    refine S_X8_2 [] [] hx hb hK hh g14 dX8_dropParts_114 (fun H locs (hh : Wh D A s.heap ((List.flatten [bX8 a E ((o_71.1, o_71.2.1, (sa (sa (sa o_71.2.2 0 (upd (o_71.2.2 0) z_71.toNatClampNeg ((o_71.2.2 0) p4_35.toNatClampNeg))) 1 (upd (o_71.2.2 1) z_71.toNatClampNeg ((o_71.2.2 1) p4_35.toNatClampNeg))) 2 (upd (o_71.2.2 2) z_71.toNatClampNeg ((o_71.2.2 2) p4_35.toNatClampNeg)))))])) H locs) => ?_)
                    refine lv_aload_n hx hb dX8_dropParts_115 rfl (lv_at hl 1 rfl) ?_
                    refine G_X8_21 [] [] hx hb hT hown hK hh dX8_dropParts_116 ?_
                    refine lv_iload hx hb dX8_dropParts_119 (lv_at hl 0 rfl) ?_
                    refine lv_aload_n hx hb dX8_dropParts_121 rfl (lv_at hl 1 rfl) ?_
                    refine G_X8_21 [] [] hx hb hT hown hK hh dX8_dropParts_122 ?_
                    refine lv_iload hx hb dX8_dropParts_125 (lv_at hl 5 rfl) ?_
                    obtain ⟨g15, h⟩ := h
                    refine A_X8_3 [] [] hx hb hK hh (v := (o_71.2.2 3) p4_35.toNatClampNeg) g15 rfl dX8_dropParts_127 ?_
                    refine lv_iload_n hx hb dX8_dropParts_128 rfl (lv_at hl 3 rfl) ?_
                    refine jn_elim h (fun J151 hJ151 h => ?_)
                    have kJ151 : ∀ (z_151 : Int32) (o_151 : Ob) (H : Heap) (locs : List Loc) (ls : Array Slot), J151 z_151 o_151 → Wh D A s.heap ((List.flatten [bX8 a E o_151])) H locs → lv_has ls 6 [(0, .ref (a 0)), (1, .int (x1)), (2, .int (x2)), (3, .int ((x2 - x1))), (4, .int (p4_35)), (5, .int (z_71))] → W p l e ({ frames := 0, cells := 0, slots := 0, locals := 0 } : Room) s m args below meth c H locs 0 0 Q (F0 m 151 ls [.int (z_151), .int (z_71), .ref (a 4)]) := by
                      intro z_151 o_151 H locs ls h hh hl
                      rw [hJ151] at h
                      obtain ⟨g19, h⟩ := h
                      refine S_X8_3 [] [] hx hb hK hh g19 dX8_dropParts_151 (fun H locs (hh : Wh D A s.heap ((List.flatten [bX8 a E ((o_151.1, o_151.2.1, (sa o_151.2.2 3 (upd (o_151.2.2 3) z_71.toNatClampNeg z_151))))])) H locs) => ?_)
                      refine lv_aload_n hx hb dX8_dropParts_152 rfl (lv_at hl 0 rfl) ?_
                      refine G_X8_24 [] [] hx hb hT hown hK hh dX8_dropParts_153 ?_
                      refine lv_iload hx hb dX8_dropParts_156 (lv_at hl 5 rfl) ?_
                      refine lv_aload_n hx hb dX8_dropParts_158 rfl (lv_at hl 0 rfl) ?_
                      refine G_X8_24 [] [] hx hb hT hown hK hh dX8_dropParts_159 ?_
                      refine lv_iload hx hb dX8_dropParts_162 (lv_at hl 4 rfl) ?_
                      obtain ⟨g20, h⟩ := h
                      refine A_X8_4 [] [] hx hb hK hh (v := (o_151.2.2 4) p4_35.toNatClampNeg) g20 rfl dX8_dropParts_164 ?_
                      refine lv_iload_n hx hb dX8_dropParts_165 rfl (lv_at hl 2 rfl) ?_
                      refine jn_elim h (fun J188 hJ188 h => ?_)
                      have kJ188 : ∀ (z_188 : Int32) (o_188 : Ob) (H : Heap) (locs : List Loc) (ls : Array Slot), J188 z_188 o_188 → Wh D A s.heap ((List.flatten [bX8 a E o_188])) H locs → lv_has ls 6 [(0, .ref (a 0)), (1, .int (x1)), (2, .int (x2)), (3, .int ((x2 - x1))), (4, .int (p4_35))] → W p l e ({ frames := 0, cells := 0, slots := 0, locals := 0 } : Room) s m args below meth c H locs 0 0 Q (F0 m 188 ls [.int (z_188), .int (z_71), .ref (a 5)]) := by
                        intro z_188 o_188 H locs ls h hh hl
                        rw [hJ188] at h
                        obtain ⟨g24, h⟩ := h
                        refine S_X8_4 [] [] hx hb hK hh g24 dX8_dropParts_188 (fun H locs (hh : Wh D A s.heap ((List.flatten [bX8 a E ((o_188.1, o_188.2.1, (sa o_188.2.2 4 (upd (o_188.2.2 4) z_71.toNatClampNeg z_188))))])) H locs) => ?_)
                        exact kJ189 ((o_188.1, o_188.2.1, (sa o_188.2.2 4 (upd (o_188.2.2 4) z_71.toNatClampNeg z_188)))) _ _ _ h hh (lv_sub hl [0, 1, 2, 3, 4] rfl)
                      refine lv_icmp_lt (tgt := 181) hx hb dX8_dropParts_166 (by decide) (fun c21 => ?_) (fun c21 => ?_)
                      · have h := h.1 c21
                        refine lv_aload_n hx hb dX8_dropParts_181 rfl (lv_at hl 0 rfl) ?_
                        refine G_X8_24 [] [] hx hb hT hown hK hh dX8_dropParts_182 ?_
                        refine lv_iload hx hb dX8_dropParts_185 (lv_at hl 4 rfl) ?_
                        obtain ⟨g22, h⟩ := h
                        refine A_X8_4 [] [] hx hb hK hh (v := (o_151.2.2 4) p4_35.toNatClampNeg) g22 rfl dX8_dropParts_187 ?_
                        exact kJ188 ((o_151.2.2 4) p4_35.toNatClampNeg) ((o_151.1, o_151.2.1, (sa o_151.2.2 3 (upd (o_151.2.2 3) z_71.toNatClampNeg z_151)))) _ _ _ h hh (lv_sub hl [0, 1, 2, 3, 4] rfl)
                      · have h := h.2 c21
                        refine lv_aload_n hx hb dX8_dropParts_169 rfl (lv_at hl 0 rfl) ?_
                        refine G_X8_24 [] [] hx hb hT hown hK hh dX8_dropParts_170 ?_
                        refine lv_iload hx hb dX8_dropParts_173 (lv_at hl 4 rfl) ?_
                        obtain ⟨g23, h⟩ := h
                        refine A_X8_4 [] [] hx hb hK hh (v := (o_151.2.2 4) p4_35.toNatClampNeg) g23 rfl dX8_dropParts_175 ?_
                        refine lv_iload_n hx hb dX8_dropParts_176 rfl (lv_at hl 3 rfl) ?_
                        refine lv_isub hx hb dX8_dropParts_177 ?_
                        refine lv_goto (tgt := 188) hx hb dX8_dropParts_178 (by decide) ?_
                        exact kJ188 (((o_151.2.2 4) p4_35.toNatClampNeg) - (x2 - x1)) ((o_151.1, o_151.2.1, (sa o_151.2.2 3 (upd (o_151.2.2 3) z_71.toNatClampNeg z_151)))) _ _ _ h hh (lv_sub hl [0, 1, 2, 3, 4] rfl)
                    refine lv_icmp_lt (tgt := 144) hx hb dX8_dropParts_129 (by decide) (fun c16 => ?_) (fun c16 => ?_)
                    · have h := h.1 c16
                      refine lv_aload_n hx hb dX8_dropParts_144 rfl (lv_at hl 1 rfl) ?_
                      refine G_X8_21 [] [] hx hb hT hown hK hh dX8_dropParts_145 ?_
                      refine lv_iload hx hb dX8_dropParts_148 (lv_at hl 5 rfl) ?_
                      obtain ⟨g17, h⟩ := h
                      refine A_X8_3 [] [] hx hb hK hh (v := (o_71.2.2 3) p4_35.toNatClampNeg) g17 rfl dX8_dropParts_150 ?_
                      exact kJ151 ((o_71.2.2 3) p4_35.toNatClampNeg) ((o_71.1, o_71.2.1, (sa (sa (sa o_71.2.2 0 (upd (o_71.2.2 0) z_71.toNatClampNeg ((o_71.2.2 0) p4_35.toNatClampNeg))) 1 (upd (o_71.2.2 1) z_71.toNatClampNeg ((o_71.2.2 1) p4_35.toNatClampNeg))) 2 (upd (o_71.2.2 2) z_71.toNatClampNeg ((o_71.2.2 2) p4_35.toNatClampNeg))))) _ _ _ h hh (lv_sub hl [1, 2, 3, 4, 5, 0] rfl)
                    · have h := h.2 c16
                      refine lv_aload_n hx hb dX8_dropParts_132 rfl (lv_at hl 1 rfl) ?_
                      refine G_X8_21 [] [] hx hb hT hown hK hh dX8_dropParts_133 ?_
                      refine lv_iload hx hb dX8_dropParts_136 (lv_at hl 5 rfl) ?_
                      obtain ⟨g18, h⟩ := h
                      refine A_X8_3 [] [] hx hb hK hh (v := (o_71.2.2 3) p4_35.toNatClampNeg) g18 rfl dX8_dropParts_138 ?_
                      refine lv_iload_n hx hb dX8_dropParts_139 rfl (lv_at hl 4 rfl) ?_
                      refine lv_isub hx hb dX8_dropParts_140 ?_
                      refine lv_goto (tgt := 151) hx hb dX8_dropParts_141 (by decide) ?_
                      exact kJ151 (((o_71.2.2 3) p4_35.toNatClampNeg) - (x2 - x1)) ((o_71.1, o_71.2.1, (sa (sa (sa o_71.2.2 0 (upd (o_71.2.2 0) z_71.toNatClampNeg ((o_71.2.2 0) p4_35.toNatClampNeg))) 1 (upd (o_71.2.2 1) z_71.toNatClampNeg ((o_71.2.2 1) p4_35.toNatClampNeg))) 2 (upd (o_71.2.2 2) z_71.toNatClampNeg ((o_71.2.2 2) p4_35.toNatClampNeg))))) _ _ _ h hh (lv_sub hl [1, 2, 3, 4, 5, 0] rfl)
                  refine lv_icmp_ge (tgt := 67) hx hb dX8_dropParts_59 (by decide) (fun c8 => ?_) (fun c8 => ?_)
                  · have h := h.1 c8
                    refine lv_iload hx hb dX8_dropParts_67 (lv_at hl 4 rfl) ?_
                    refine lv_iload_n hx hb dX8_dropParts_69 rfl (lv_at hl 3 rfl) ?_
                    refine lv_isub hx hb dX8_dropParts_70 ?_
                    exact kJ71 (p4_35 - (x2 - x1)) o_56 _ _ _ h hh (lv_sub hl [0, 1, 2, 3, 4] rfl)
                  · have h := h.2 c8
                    refine lv_iload hx hb dX8_dropParts_62 (lv_at hl 4 rfl) ?_
                    refine lv_goto (tgt := 71) hx hb dX8_dropParts_64 (by decide) ?_
                    exact kJ71 p4_35 o_56 _ _ _ h hh (lv_sub hl [0, 1, 2, 3, 4] rfl)
                refine lv_icmp_lt (tgt := 56) hx hb dX8_dropParts_47 (by decide) (fun c6 => ?_) (fun c6 => ?_)
                · have h := h.1 c6
                  exact kJ56 o_35 _ _ _ h hh (lv_sub hl [0, 1, 2, 3, 4] rfl)
                · have h := h.2 c6
                  refine lv_iload hx hb dX8_dropParts_50 (lv_at hl 4 rfl) ?_
                  refine lv_iload_n hx hb dX8_dropParts_52 rfl (lv_at hl 2 rfl) ?_
                  refine lv_icmp_lt (tgt := 189) hx hb dX8_dropParts_53 (by decide) (fun c7 => ?_) (fun c7 => ?_)
                  · have h := h.1 c7
                    exact kJ189 o_35 _ _ _ h hh (lv_sub hl [0, 1, 2, 3, 4] rfl)
                  · have h := h.2 c7
                    exact kJ56 o_35 _ _ _ h hh (lv_sub hl [0, 1, 2, 3, 4] rfl)
          obtain ⟨n, h⟩ := h
          refine hw35 _ (fun o_k195 H locs ls h hh hl => ?_) n 0 o _ _ _ h hh (lv_sub hl [2, 3, 4, 1, 0] rfl)
          refine lv_aload_n hx hb dX8_dropParts_195 rfl (lv_at hl 0 rfl) ?_
          refine lv_dup hx hb dX8_dropParts_196 rfl ?_
          refine G_X8_30 [] [] hx hb hT hown hK hh (v := o_k195.2.1 6) rfl dX8_dropParts_197 ?_
          refine lv_iload_n hx hb dX8_dropParts_200 rfl (lv_at hl 1 rfl) ?_
          refine lv_isub hx hb dX8_dropParts_201 ?_
          refine P_X8_30 [] [] hx hb hT hown hK hh dX8_dropParts_202 (fun H locs (hh : Wh D A s.heap ((List.flatten [bX8 a E ((o_k195.1, (upd o_k195.2.1 6 (((o_k195.2.1 6) - (x2 - x1)))), o_k195.2.2))])) H locs) => ?_)
          exact hret _ _ _ _ (o_k195.1, (upd o_k195.2.1 6 (((o_k195.2.1 6) - (x2 - x1)))), o_k195.2.2) dX8_dropParts_205 h hh
        · have h := h.2 c4
          exact hret _ _ _ _ o dX8_dropParts_27 h hh

def w_X8_dropFromRow_L8 (f1_8 : Int32) (f2_8 : Int32) (f3_8 : Int32) (K28_8 : Int32 → Ob → Prop) (Post : Ob → Prop) : Nat → Int32 → Int32 → Ob → Prop
  | 0, _, _, _ => False
  | n8 + 1, p4_8, p5_8, o_8 => ((f2_8 ≤ p5_8) → K28_8 p4_8 o_8) ∧ (¬ (f2_8 ≤ p5_8) → w_X8_end  p4_8 o_8 (fun (r2 : Int32) (o_3 : Ob) => w_X8_dropFromRow_L8 f1_8 f2_8 f3_8 K28_8 Post n8 r2 (p5_8 + 1) o_3))
def w_X8_dropFromRow_L35 (f1_35 : Int32) (f3_35 : Int32) (f4_35 : Int32) (K55_35 : Int32 → Ob → Prop) (Post : Ob → Prop) : Nat → Int32 → Int32 → Ob → Prop
  | 0, _, _, _ => False
  | n35 + 1, p5_35, p6_35, o_35 => ((f3_35 ≤ p6_35) → K55_35 p5_35 o_35) ∧ (¬ (f3_35 ≤ p6_35) → w_X8_end  p5_35 o_35 (fun (r5 : Int32) (o_6 : Ob) => w_X8_dropFromRow_L35 f1_35 f3_35 f4_35 K55_35 Post n35 r5 (p6_35 + 1) o_6))
def w_X8_dropFromRow (x1 : Int32) (x2 : Int32) (x3 : Int32) (o : Ob) (Post : Ob → Prop) : Prop := ∃ n8, w_X8_dropFromRow_L8 x1 x2 x3 (fun (k4_28 : Int32) (o_k28 : Ob) => ∃ n35, w_X8_dropFromRow_L35 x1 x3 k4_28 (fun (k5_55 : Int32) (o_k55 : Ob) => w_X8_value  x1 o_k55 (fun (r7 : Int32) (o_8 : Ob) => w_X8_setValue  x1 (r7 - x3) o_8 (fun (o_10 : Ob) => w_X8_dropParts  k4_28 k5_55 o_10 (fun (o_12 : Ob) => Post o_12)))) Post n35 k4_28 0 o_k28) Post n8 (x1 + 1) 0 o
set_option maxRecDepth 100000 in
set_option maxHeartbeats 4000000 in
theorem c_X8_dropFromRow (l : Launch) (D : va_G) (E : Nat → ClassId) (a : Nat → Nat)  (o : Ob) (x1 : Int32) (x2 : Int32) (x3 : Int32) {Post : Ob → Prop} (h : w_X8_dropFromRow x1 x2 x3 o Post) : CtV l yX8_dropFromRow cX8_dropFromRow 7 ({ frames := 2, cells := 0, slots := 0, locals := 43 } : Room) D E [.ref (a 0), .int (x1), .int (x2), .int (x3)] (List.flatten [bX8 a E o]) (fun u : Ob => List.flatten [bX8 a E u]) Post 0 0 := by
  refine enV (by decide +kernel) (Nat.le_of_ble_eq_true rfl) ?_
  intro p e s m args below meth c Q A ls hx hb hml hown hT hK hA hin0 hret hh hl
  have hl : lv_has ls 7 [(0, .ref (a 0)), (1, .int (x1)), (2, .int (x2)), (3, .int (x3))] := hl
  unfold w_X8_dropFromRow at h
  refine lv_iload_n hx hb dX8_dropFromRow_0 rfl (lv_at hl 1 rfl) ?_
  refine lv_iconst (v := 1) hx hb dX8_dropFromRow_1 (by decide) ?_
  refine lv_iadd hx hb dX8_dropFromRow_2 ?_
  refine lv_istore (lv' := [(4, .int (x1 + 1)), (0, .ref (a 0)), (1, .int (x1)), (2, .int (x2)), (3, .int (x3))]) hx hb dX8_dropFromRow_3 hl (by decide) rfl (fun ls hl => ?_)
  refine lv_iconst (v := 0) hx hb dX8_dropFromRow_5 (by decide) ?_
  refine lv_istore (lv' := [(5, .int (0)), (4, .int (x1 + 1)), (0, .ref (a 0)), (1, .int (x1)), (2, .int (x2)), (3, .int (x3))]) hx hb dX8_dropFromRow_6 hl (by decide) rfl (fun ls hl => ?_)
  have hw8 : ∀ (K28_8 : Int32 → Ob → Prop) (hK28_8 : ∀ (k4_28 : Int32) (o_k28 : Ob) (H : Heap) (locs : List Loc) (ls : Array Slot), K28_8 k4_28 o_k28 → Wh D A s.heap ((List.flatten [bX8 a E o_k28])) H locs → lv_has ls 7 [(0, .ref (a 0)), (1, .int (x1)), (3, .int (x3)), (4, .int (k4_28))] → W p l e ({ frames := 2, cells := 0, slots := 0, locals := 43 } : Room) s m args below meth c H locs 0 0 Q (F0 m 28 ls [])) (n : Nat) (p4_8 : Int32) (p5_8 : Int32) (o_8 : Ob) (H : Heap) (locs : List Loc) (ls : Array Slot), w_X8_dropFromRow_L8 x1 x2 x3 K28_8 Post n p4_8 p5_8 o_8 → Wh D A s.heap ((List.flatten [bX8 a E o_8])) H locs → lv_has ls 7 [(0, .ref (a 0)), (1, .int (x1)), (2, .int (x2)), (3, .int (x3)), (4, .int (p4_8)), (5, .int (p5_8))] → W p l e ({ frames := 2, cells := 0, slots := 0, locals := 43 } : Room) s m args below meth c H locs 0 0 Q (F0 m 8 ls []) := by
    intro K28_8 hK28_8 n
    induction n with
    | zero => intro p4_8 p5_8 o_8 H locs ls h hh hl; exact False.elim h
    | succ n ih =>
      intro p4_8 p5_8 o_8 H locs ls h hh hl
      refine lv_iload hx hb dX8_dropFromRow_8 (lv_at hl 5 rfl) ?_
      refine lv_iload_n hx hb dX8_dropFromRow_10 rfl (lv_at hl 2 rfl) ?_
      refine lv_icmp_ge (tgt := 28) hx hb dX8_dropFromRow_11 (by decide) (fun c1 => ?_) (fun c1 => ?_)
      · have h := h.1 c1
        exact hK28_8 p4_8 o_8 _ _ _ h hh (lv_sub hl [0, 1, 3, 4] rfl)
      · have h := h.2 c1
        refine lv_aload_n hx hb dX8_dropFromRow_14 rfl (lv_at hl 0 rfl) ?_
        refine lv_iload hx hb dX8_dropFromRow_15 (lv_at hl 4 rfl) ?_
        refine kI hh.ap0 hA (rnV hx hb hml hown hT hK hh.ap0 (c_X8_end l D E a  o_8 p4_8 h _) mf_X8_end kml_X8_61 ⟨rfl, rfl, Nat.le_of_ble_eq_true rfl, Nat.le_of_ble_eq_true rfl⟩ ⟨Nat.le_of_ble_eq_true rfl, Nat.le_of_ble_eq_true rfl⟩ 8 0 rfl rfl hl.1 rfl dX8_dropFromRow_17 (Nat.le_of_ble_eq_true rfl) rfl) (fun r2 o_3 H locs h hh => ?_)
        have hh : Wh D A s.heap ((List.flatten [bX8 a E o_3])) _ _ := hh.un0
        refine lv_istore (lv' := [(4, .int (r2)), (0, .ref (a 0)), (1, .int (x1)), (2, .int (x2)), (3, .int (x3)), (5, .int (p5_8))]) hx hb dX8_dropFromRow_20 hl (by decide) rfl (fun ls hl => ?_)
        refine lv_iinc (v := p5_8 + 1) (lv' := [(5, .int (p5_8 + 1)), (4, .int (r2)), (0, .ref (a 0)), (1, .int (x1)), (2, .int (x2)), (3, .int (x3))]) hx hb dX8_dropFromRow_22 hl (k := 5) rfl (by rfl) (by decide) rfl (fun ls hl => ?_)
        refine lv_goto (tgt := 8) hx hb dX8_dropFromRow_25 (by decide) ?_
        exact ih r2 (p5_8 + 1) o_3 _ _ _ h hh (lv_sub hl [2, 3, 4, 5, 1, 0] rfl)
  obtain ⟨n, h⟩ := h
  refine hw8 _ (fun k4_28 o_k28 H locs ls h hh hl => ?_) n (x1 + 1) 0 o _ _ _ h hh (lv_sub hl [2, 3, 4, 5, 1, 0] rfl)
  refine lv_iload hx hb dX8_dropFromRow_28 (lv_at hl 3 rfl) ?_
  refine lv_istore (lv' := [(5, .int (k4_28)), (0, .ref (a 0)), (1, .int (x1)), (3, .int (x3)), (4, .int (k4_28))]) hx hb dX8_dropFromRow_30 hl (by decide) rfl (fun ls hl => ?_)
  refine lv_iconst (v := 0) hx hb dX8_dropFromRow_32 (by decide) ?_
  refine lv_istore (lv' := [(6, .int (0)), (5, .int (k4_28)), (0, .ref (a 0)), (1, .int (x1)), (3, .int (x3)), (4, .int (k4_28))]) hx hb dX8_dropFromRow_33 hl (by decide) rfl (fun ls hl => ?_)
  have hw35 : ∀ (K55_35 : Int32 → Ob → Prop) (hK55_35 : ∀ (k5_55 : Int32) (o_k55 : Ob) (H : Heap) (locs : List Loc) (ls : Array Slot), K55_35 k5_55 o_k55 → Wh D A s.heap ((List.flatten [bX8 a E o_k55])) H locs → lv_has ls 7 [(0, .ref (a 0)), (1, .int (x1)), (3, .int (x3)), (4, .int (k4_28)), (5, .int (k5_55))] → W p l e ({ frames := 2, cells := 0, slots := 0, locals := 43 } : Room) s m args below meth c H locs 0 0 Q (F0 m 55 ls [])) (n : Nat) (p5_35 : Int32) (p6_35 : Int32) (o_35 : Ob) (H : Heap) (locs : List Loc) (ls : Array Slot), w_X8_dropFromRow_L35 x1 x3 k4_28 K55_35 Post n p5_35 p6_35 o_35 → Wh D A s.heap ((List.flatten [bX8 a E o_35])) H locs → lv_has ls 7 [(0, .ref (a 0)), (1, .int (x1)), (3, .int (x3)), (4, .int (k4_28)), (5, .int (p5_35)), (6, .int (p6_35))] → W p l e ({ frames := 2, cells := 0, slots := 0, locals := 43 } : Room) s m args below meth c H locs 0 0 Q (F0 m 35 ls []) := by
    intro K55_35 hK55_35 n
    induction n with
    | zero => intro p5_35 p6_35 o_35 H locs ls h hh hl; exact False.elim h
    | succ n ih =>
      intro p5_35 p6_35 o_35 H locs ls h hh hl
      refine lv_iload hx hb dX8_dropFromRow_35 (lv_at hl 5 rfl) ?_
      refine lv_iload_n hx hb dX8_dropFromRow_37 rfl (lv_at hl 2 rfl) ?_
      refine lv_icmp_ge (tgt := 55) hx hb dX8_dropFromRow_38 (by decide) (fun c4 => ?_) (fun c4 => ?_)
      · have h := h.1 c4
        exact hK55_35 p5_35 o_35 _ _ _ h hh (lv_sub hl [0, 1, 2, 3, 4] rfl)
      · have h := h.2 c4
        refine lv_aload_n hx hb dX8_dropFromRow_41 rfl (lv_at hl 0 rfl) ?_
        refine lv_iload hx hb dX8_dropFromRow_42 (lv_at hl 4 rfl) ?_
        refine kI hh.ap0 hA (rnV hx hb hml hown hT hK hh.ap0 (c_X8_end l D E a  o_35 p5_35 h _) mf_X8_end kml_X8_61 ⟨rfl, rfl, Nat.le_of_ble_eq_true rfl, Nat.le_of_ble_eq_true rfl⟩ ⟨Nat.le_of_ble_eq_true rfl, Nat.le_of_ble_eq_true rfl⟩ 8 0 rfl rfl hl.1 rfl dX8_dropFromRow_44 (Nat.le_of_ble_eq_true rfl) rfl) (fun r5 o_6 H locs h hh => ?_)
        have hh : Wh D A s.heap ((List.flatten [bX8 a E o_6])) _ _ := hh.un0
        refine lv_istore (lv' := [(5, .int (r5)), (0, .ref (a 0)), (1, .int (x1)), (3, .int (x3)), (4, .int (k4_28)), (6, .int (p6_35))]) hx hb dX8_dropFromRow_47 hl (by decide) rfl (fun ls hl => ?_)
        refine lv_iinc (v := p6_35 + 1) (lv' := [(6, .int (p6_35 + 1)), (5, .int (r5)), (0, .ref (a 0)), (1, .int (x1)), (3, .int (x3)), (4, .int (k4_28))]) hx hb dX8_dropFromRow_49 hl (k := 5) rfl (by rfl) (by decide) rfl (fun ls hl => ?_)
        refine lv_goto (tgt := 35) hx hb dX8_dropFromRow_52 (by decide) ?_
        exact ih r5 (p6_35 + 1) o_6 _ _ _ h hh (lv_sub hl [2, 3, 4, 5, 1, 0] rfl)
  obtain ⟨n, h⟩ := h
  refine hw35 _ (fun k5_55 o_k55 H locs ls h hh hl => ?_) n k4_28 0 o_k28 _ _ _ h hh (lv_sub hl [2, 3, 4, 5, 1, 0] rfl)
  refine lv_aload_n hx hb dX8_dropFromRow_55 rfl (lv_at hl 0 rfl) ?_
  refine lv_iload_n hx hb dX8_dropFromRow_56 rfl (lv_at hl 1 rfl) ?_
  refine lv_aload_n hx hb dX8_dropFromRow_57 rfl (lv_at hl 0 rfl) ?_
  refine lv_iload_n hx hb dX8_dropFromRow_58 rfl (lv_at hl 1 rfl) ?_
  refine kI hh.ap0 hA (rnV hx hb hml hown hT hK hh.ap0 (c_X8_value l D E a  o_k55 x1 h _) mf_X8_value kml_X8_38 ⟨rfl, rfl, Nat.le_of_ble_eq_true rfl, Nat.le_of_ble_eq_true rfl⟩ ⟨Nat.le_of_ble_eq_true rfl, Nat.le_of_ble_eq_true rfl⟩ 8 0 rfl rfl hl.1 rfl dX8_dropFromRow_59 (Nat.le_of_ble_eq_true rfl) rfl) (fun r7 o_8 H locs h hh => ?_)
  have hh : Wh D A s.heap ((List.flatten [bX8 a E o_8])) _ _ := hh.un0
  refine lv_iload_n hx hb dX8_dropFromRow_62 rfl (lv_at hl 2 rfl) ?_
  refine lv_isub hx hb dX8_dropFromRow_63 ?_
  refine kV hh.ap0 hA (rnV hx hb hml hown hT hK hh.ap0 (c_X8_setValue l D E a  o_8 x1 (r7 - x3) h _) mf_X8_setValue kml_X8_42 ⟨rfl, rfl, Nat.le_of_ble_eq_true rfl, Nat.le_of_ble_eq_true rfl⟩ ⟨Nat.le_of_ble_eq_true rfl, Nat.le_of_ble_eq_true rfl⟩ 8 0 rfl rfl hl.1 rfl dX8_dropFromRow_64 (Nat.le_of_ble_eq_true rfl) rfl) (fun o_10 H locs h hh => ?_)
  have hh : Wh D A s.heap ((List.flatten [bX8 a E o_10])) _ _ := hh.un0
  refine lv_aload_n hx hb dX8_dropFromRow_67 rfl (lv_at hl 0 rfl) ?_
  refine lv_iload hx hb dX8_dropFromRow_68 (lv_at hl 3 rfl) ?_
  refine lv_iload hx hb dX8_dropFromRow_70 (lv_at hl 4 rfl) ?_
  refine kV hh.ap0 hA (rnV hx hb hml hown hT hK hh.ap0 (c_X8_dropParts l D E a  o_10 k4_28 k5_55 h _) mf_X8_dropParts kml_X8_64 ⟨rfl, rfl, Nat.le_of_ble_eq_true rfl, Nat.le_of_ble_eq_true rfl⟩ ⟨Nat.le_of_ble_eq_true rfl, Nat.le_of_ble_eq_true rfl⟩ 8 0 rfl rfl hl.1 rfl dX8_dropFromRow_72 (Nat.le_of_ble_eq_true rfl) rfl) (fun o_12 H locs h hh => ?_)
  have hh : Wh D A s.heap ((List.flatten [bX8 a E o_12])) _ _ := hh.un0
  exact hret _ _ _ _ o_12 dX8_dropFromRow_75 h hh

def w_X8_gather_L32 (f4_32 : Int32) (f5_32 : Int32) (K80_32 : Ob → Ob → Prop) (Post : Ob → Ob → Prop) : Nat → Int32 → Ob → Ob → Prop
  | 0, _, _, _ => False
  | n32 + 1, p6_32, o_32, lv_32 => ((f5_32 ≤ p6_32) → K80_32 o_32 lv_32) ∧ (¬ (f5_32 ≤ p6_32) → vp_in p6_32 744 ∧ (vp_in p6_32 744 ∧ (w_X8_isLeaf  ((o_32.2.2 0) p6_32.toNatClampNeg)  (fun (r7 : Int32) => jn (fun J74 : Ob → Ob → Prop => ((r7 = 0) → J74 ((o_32.1, o_32.2.1, (sa o_32.2.2 5 (upd (o_32.2.2 5) p6_32.toNatClampNeg (lv_32.2.1 1))))) lv_32) ∧ (¬ (r7 = 0) → vp_in p6_32 744 ∧ (w_X2_add  ((o_32.2.2 1) p6_32.toNatClampNeg) lv_32 (fun (lv_11 : Ob) => J74 ((o_32.1, o_32.2.1, (sa o_32.2.2 5 (upd (o_32.2.2 5) p6_32.toNatClampNeg (lv_32.2.1 1))))) lv_11)))) (fun (o_74 : Ob) (lv_74 : Ob) => w_X8_gather_L32 f4_32 f5_32 K80_32 Post n32 (p6_32 + 1) o_74 lv_74)))))
def w_X8_gather_L86 (f4_86 : Int32) (f5_86 : Int32)  (Post : Ob → Ob → Prop) : Nat → Int32 → Ob → Ob → Prop
  | 0, _, _, _ => False
  | n86 + 1, p6_86, o_86, lv_86 => ((p6_86 < f4_86) → Post o_86 lv_86) ∧ (¬ (p6_86 < f4_86) → vp_in p6_86 744 ∧ (jn (fun J163 : Ob → Ob → Prop => ((¬ ((o_86.2.2 0) p6_86.toNatClampNeg) = 4) → J163 o_86 lv_86) ∧ ((((o_86.2.2 0) p6_86.toNatClampNeg) = 4) → vp_in p6_86 744 ∧ (jn (fun J141 : Int32 → Ob → Ob → Prop => jn (fun J137 : Ob → Ob → Prop => ((((o_86.2.2 4) p6_86.toNatClampNeg) < f4_86) → J137 o_86 lv_86) ∧ (¬ (((o_86.2.2 4) p6_86.toNatClampNeg) < f4_86) → ((f5_86 ≤ ((o_86.2.2 4) p6_86.toNatClampNeg)) → J137 o_86 lv_86) ∧ (¬ (f5_86 ≤ ((o_86.2.2 4) p6_86.toNatClampNeg)) → vp_in ((o_86.2.2 4) p6_86.toNatClampNeg) 744 ∧ (J141 ((o_86.2.2 5) ((o_86.2.2 4) p6_86.toNatClampNeg).toNatClampNeg) o_86 lv_86)))) (fun (o_137 : Ob) (lv_137 : Ob) => J141 (lv_137.2.1 1) o_137 lv_137)) (fun (z_141 : Int32) (o_141 : Ob) (lv_141 : Ob) => vp_in p6_86 744 ∧ (vp_in p6_86 744 ∧ (w_X2_map  ((o_141.2.2 1) p6_86.toNatClampNeg) ((o_141.2.2 5) p6_86.toNatClampNeg) z_141 lv_141 (fun (lv_22 : Ob) => J163 o_141 lv_22))))))) (fun (o_163 : Ob) (lv_163 : Ob) => w_X8_gather_L86 f4_86 f5_86  Post n86 (p6_86 + (-1)) o_163 lv_163)))
def w_X8_gather (x1 : Int32) (x2 : Int32) (o : Ob) (lv : Ob) (Post : Ob → Ob → Prop) : Prop := w_J9_max_7cf53  (0 : Int32) x1  (fun (r1 : Int32) => w_J9_min_7cf53  x2 (o.2.1 6)  (fun (r2 : Int32) => w_J9_min_7cf53  r2 (744 : Int32)  (fun (r3 : Int32) => ∃ n32, w_X8_gather_L32 r1 r3 (fun (o_k80 : Ob) (lv_k80 : Ob) => ∃ n86, w_X8_gather_L86 r1 r3  Post n86 (r3 - 1) o_k80 lv_k80) Post n32 r1 o ((lv.1, (upd lv.2.1 1 ((0 : Int32))), lv.2.2)))))
set_option maxRecDepth 100000 in
set_option maxHeartbeats 4000000 in
theorem c_X8_gather (l : Launch) (D : va_G) (E : Nat → ClassId) (a : Nat → Nat) (a2 : Nat → Nat)  (o : Ob) (lv : Ob) (x1 : Int32) (x2 : Int32) {Post : Ob → Ob → Prop} (h : w_X8_gather x1 x2 o lv Post) : CtV l yX8_gather cX8_gather 9 ({ frames := 2, cells := 0, slots := 0, locals := 49 } : Room) D E [.ref (a 0), .int (x1), .int (x2), .ref (a2 0)] (List.flatten [bX8 a E o, bX2 a2 E lv]) (fun u : Ob × Ob => List.flatten [bX8 a E u.1, bX2 a2 E u.2]) (fun u : Ob × Ob => Post u.1 u.2) 0 0 := by
  refine enV (by decide +kernel) (Nat.le_of_ble_eq_true rfl) ?_
  intro p e s m args below meth c Q A ls hx hb hml hown hT hK hA hin0 hret hh hl
  have hl : lv_has ls 9 [(0, .ref (a 0)), (1, .int (x1)), (2, .int (x2)), (3, .ref (a2 0))] := hl
  unfold w_X8_gather at h
  refine lv_aload_n hx hb dX8_gather_0 rfl (lv_at hl 3 rfl) ?_
  refine lv_iconst (v := 0) hx hb dX8_gather_1 (by decide) ?_
  refine P_X8_67 [_] [] hx hb hT hown hK hh dX8_gather_2 (fun H locs (hh : Wh D A s.heap ((List.flatten [bX8 a E o, bX2 a2 E ((lv.1, (upd lv.2.1 1 ((0 : Int32))), lv.2.2))])) H locs) => ?_)
  refine lv_iconst (v := 0) hx hb dX8_gather_5 (by decide) ?_
  refine lv_iload_n hx hb dX8_gather_6 rfl (lv_at hl 1 rfl) ?_
  refine kI hh.none hA (rnS hx hb hml hown hT hK hh.none (c_J9_max_7cf53 l D E    (0 : Int32) x1 h _) mf_J9_max_7cf53 kml_X8_52 ⟨rfl, rfl, Nat.le_of_ble_eq_true rfl, Nat.le_of_ble_eq_true rfl⟩ ⟨Nat.le_of_ble_eq_true rfl, Nat.le_of_ble_eq_true rfl⟩ hl.1 rfl dX8_gather_7 (Nat.le_of_ble_eq_true rfl) rfl) (fun r1 u H locs h hh => ?_)
  have hh : Wh D A s.heap ((List.flatten [bX8 a E o, bX2 a2 E ((lv.1, (upd lv.2.1 1 ((0 : Int32))), lv.2.2))])) _ _ := hh.unone
  refine lv_istore (lv' := [(4, .int (r1)), (0, .ref (a 0)), (1, .int (x1)), (2, .int (x2)), (3, .ref (a2 0))]) hx hb dX8_gather_10 hl (by decide) rfl (fun ls hl => ?_)
  refine lv_iload_n hx hb dX8_gather_12 rfl (lv_at hl 3 rfl) ?_
  refine lv_aload_n hx hb dX8_gather_13 rfl (lv_at hl 1 rfl) ?_
  refine G_X8_30 [] [_] hx hb hT hown hK hh (v := o.2.1 6) rfl dX8_gather_14 ?_
  refine kI hh.none hA (rnS hx hb hml hown hT hK hh.none (c_J9_min_7cf53 l D E    x2 (o.2.1 6) h _) mf_J9_min_7cf53 kml_X8_46 ⟨rfl, rfl, Nat.le_of_ble_eq_true rfl, Nat.le_of_ble_eq_true rfl⟩ ⟨Nat.le_of_ble_eq_true rfl, Nat.le_of_ble_eq_true rfl⟩ hl.1 rfl dX8_gather_17 (Nat.le_of_ble_eq_true rfl) rfl) (fun r2 u H locs h hh => ?_)
  have hh : Wh D A s.heap ((List.flatten [bX8 a E o, bX2 a2 E ((lv.1, (upd lv.2.1 1 ((0 : Int32))), lv.2.2))])) _ _ := hh.unone
  refine lv_sipush (v := 744) hx hb dX8_gather_20 (by decide) ?_
  refine kI hh.none hA (rnS hx hb hml hown hT hK hh.none (c_J9_min_7cf53 l D E    r2 (744 : Int32) h _) mf_J9_min_7cf53 kml_X8_46 ⟨rfl, rfl, Nat.le_of_ble_eq_true rfl, Nat.le_of_ble_eq_true rfl⟩ ⟨Nat.le_of_ble_eq_true rfl, Nat.le_of_ble_eq_true rfl⟩ hl.1 rfl dX8_gather_23 (Nat.le_of_ble_eq_true rfl) rfl) (fun r3 u H locs h hh => ?_)
  have hh : Wh D A s.heap ((List.flatten [bX8 a E o, bX2 a2 E ((lv.1, (upd lv.2.1 1 ((0 : Int32))), lv.2.2))])) _ _ := hh.unone
  refine lv_istore (lv' := [(5, .int (r3)), (4, .int (r1)), (0, .ref (a 0)), (1, .int (x1)), (2, .int (x2)), (3, .ref (a2 0))]) hx hb dX8_gather_26 hl (by decide) rfl (fun ls hl => ?_)
  refine lv_iload hx hb dX8_gather_28 (lv_at hl 1 rfl) ?_
  refine lv_istore (lv' := [(6, .int (r1)), (5, .int (r3)), (4, .int (r1)), (0, .ref (a 0)), (1, .int (x1)), (2, .int (x2)), (3, .ref (a2 0))]) hx hb dX8_gather_30 hl (by decide) rfl (fun ls hl => ?_)
  have hw32 : ∀ (K80_32 : Ob → Ob → Prop) (hK80_32 : ∀ (o_k80 : Ob) (lv_k80 : Ob) (H : Heap) (locs : List Loc) (ls : Array Slot), K80_32 o_k80 lv_k80 → Wh D A s.heap ((List.flatten [bX8 a E o_k80, bX2 a2 E lv_k80])) H locs → lv_has ls 9 [(0, .ref (a 0)), (3, .ref (a2 0)), (4, .int (r1)), (5, .int (r3))] → W p l e ({ frames := 2, cells := 0, slots := 0, locals := 49 } : Room) s m args below meth c H locs 0 0 Q (F0 m 80 ls [])) (n : Nat) (p6_32 : Int32) (o_32 : Ob) (lv_32 : Ob) (H : Heap) (locs : List Loc) (ls : Array Slot), w_X8_gather_L32 r1 r3 K80_32 Post n p6_32 o_32 lv_32 → Wh D A s.heap ((List.flatten [bX8 a E o_32, bX2 a2 E lv_32])) H locs → lv_has ls 9 [(0, .ref (a 0)), (3, .ref (a2 0)), (4, .int (r1)), (5, .int (r3)), (6, .int (p6_32))] → W p l e ({ frames := 2, cells := 0, slots := 0, locals := 49 } : Room) s m args below meth c H locs 0 0 Q (F0 m 32 ls []) := by
    intro K80_32 hK80_32 n
    induction n with
    | zero => intro p6_32 o_32 lv_32 H locs ls h hh hl; exact False.elim h
    | succ n ih =>
      intro p6_32 o_32 lv_32 H locs ls h hh hl
      refine lv_iload hx hb dX8_gather_32 (lv_at hl 4 rfl) ?_
      refine lv_iload hx hb dX8_gather_34 (lv_at hl 3 rfl) ?_
      refine lv_icmp_ge (tgt := 80) hx hb dX8_gather_36 (by decide) (fun c4 => ?_) (fun c4 => ?_)
      · have h := h.1 c4
        exact hK80_32 o_32 lv_32 _ _ _ h hh (lv_sub hl [0, 1, 2, 3] rfl)
      · have h := h.2 c4
        refine lv_aload_n hx hb dX8_gather_39 rfl (lv_at hl 0 rfl) ?_
        refine G_X8_27 [] [_] hx hb hT hown hK hh dX8_gather_40 ?_
        refine lv_iload hx hb dX8_gather_43 (lv_at hl 4 rfl) ?_
        refine lv_aload_n hx hb dX8_gather_45 rfl (lv_at hl 1 rfl) ?_
        refine G_X8_67 [_] [] hx hb hT hown hK hh (v := lv_32.2.1 1) rfl dX8_gather_46 ?_
        obtain ⟨g5, h⟩ := h
        refine S_X8_5 [] [_] hx hb hK hh g5 dX8_gather_49 (fun H locs (hh : Wh D A s.heap ((List.flatten [bX8 a E ((o_32.1, o_32.2.1, (sa o_32.2.2 5 (upd (o_32.2.2 5) p6_32.toNatClampNeg (lv_32.2.1 1))))), bX2 a2 E lv_32])) H locs) => ?_)
        refine lv_aload_n hx hb dX8_gather_50 rfl (lv_at hl 0 rfl) ?_
        refine G_X8_9 [] [_] hx hb hT hown hK hh dX8_gather_51 ?_
        refine lv_iload hx hb dX8_gather_54 (lv_at hl 4 rfl) ?_
        obtain ⟨g6, h⟩ := h
        refine A_X8_0 [] [_] hx hb hK hh (v := (o_32.2.2 0) p6_32.toNatClampNeg) g6 rfl dX8_gather_56 ?_
        refine kI hh.none hA (rnS hx hb hml hown hT hK hh.none (c_X8_isLeaf l D E    ((o_32.2.2 0) p6_32.toNatClampNeg) h _) mf_X8_isLeaf kml_X8_72 ⟨rfl, rfl, Nat.le_of_ble_eq_true rfl, Nat.le_of_ble_eq_true rfl⟩ ⟨Nat.le_of_ble_eq_true rfl, Nat.le_of_ble_eq_true rfl⟩ hl.1 rfl dX8_gather_57 (Nat.le_of_ble_eq_true rfl) rfl) (fun r7 u H locs h hh => ?_)
        have hh : Wh D A s.heap ((List.flatten [bX8 a E ((o_32.1, o_32.2.1, (sa o_32.2.2 5 (upd (o_32.2.2 5) p6_32.toNatClampNeg (lv_32.2.1 1))))), bX2 a2 E lv_32])) _ _ := hh.unone
        refine jn_elim h (fun J74 hJ74 h => ?_)
        have kJ74 : ∀ (o_74 : Ob) (lv_74 : Ob) (H : Heap) (locs : List Loc) (ls : Array Slot), J74 o_74 lv_74 → Wh D A s.heap ((List.flatten [bX8 a E o_74, bX2 a2 E lv_74])) H locs → lv_has ls 9 [(0, .ref (a 0)), (3, .ref (a2 0)), (4, .int (r1)), (5, .int (r3)), (6, .int (p6_32))] → W p l e ({ frames := 2, cells := 0, slots := 0, locals := 49 } : Room) s m args below meth c H locs 0 0 Q (F0 m 74 ls []) := by
          intro o_74 lv_74 H locs ls h hh hl
          rw [hJ74] at h
          refine lv_iinc (v := p6_32 + 1) (lv' := [(6, .int (p6_32 + 1)), (0, .ref (a 0)), (3, .ref (a2 0)), (4, .int (r1)), (5, .int (r3))]) hx hb dX8_gather_74 hl (k := 4) rfl (by rfl) (by decide) rfl (fun ls hl => ?_)
          refine lv_goto (tgt := 32) hx hb dX8_gather_77 (by decide) ?_
          exact ih (p6_32 + 1) o_74 lv_74 _ _ _ h hh (lv_sub hl [1, 2, 3, 4, 0] rfl)
        refine lv_if_eq (tgt := 74) hx hb dX8_gather_60 (by decide) (fun c8 => ?_) (fun c8 => ?_)
        · have h := h.1 c8
          exact kJ74 ((o_32.1, o_32.2.1, (sa o_32.2.2 5 (upd (o_32.2.2 5) p6_32.toNatClampNeg (lv_32.2.1 1))))) lv_32 _ _ _ h hh (lv_sub hl [0, 1, 2, 3, 4] rfl)
        · have h := h.2 c8
          refine lv_aload_n hx hb dX8_gather_63 rfl (lv_at hl 1 rfl) ?_
          refine lv_aload_n hx hb dX8_gather_64 rfl (lv_at hl 0 rfl) ?_
          refine G_X8_15 [] [_] hx hb hT hown hK hh dX8_gather_65 ?_
          refine lv_iload hx hb dX8_gather_68 (lv_at hl 4 rfl) ?_
          obtain ⟨g9, h⟩ := h
          refine A_X8_1 [] [_] hx hb hK hh (v := (o_32.2.2 1) p6_32.toNatClampNeg) g9 rfl dX8_gather_70 ?_
          have hc := hh.cut [_] [_] [1, 0] 2 rfl (by decide) rfl
          refine kV hc hA (rnVN hx hb hml hown hT hK hc (c_X2_add l D E a2  lv_32 ((o_32.2.2 1) p6_32.toNatClampNeg) h _) mf_X2_add nml_X8_75 ⟨rfl, rfl, Nat.le_of_ble_eq_true rfl, Nat.le_of_ble_eq_true rfl⟩ ⟨Nat.le_of_ble_eq_true rfl, Nat.le_of_ble_eq_true rfl⟩ 2 0 rfl rfl hl.1 rfl dX8_gather_71 (Nat.le_of_ble_eq_true rfl) rfl) (fun lv_11 H locs h hh => ?_)
          have hh : Wh D A s.heap ((List.flatten [bX8 a E ((o_32.1, o_32.2.1, (sa o_32.2.2 5 (upd (o_32.2.2 5) p6_32.toNatClampNeg (lv_32.2.1 1))))), bX2 a2 E lv_11])) _ _ := Wh.back (cs := [_]) (rs := [_]) _ [1, 0] 2 rfl (by decide) rfl hh
          exact kJ74 ((o_32.1, o_32.2.1, (sa o_32.2.2 5 (upd (o_32.2.2 5) p6_32.toNatClampNeg (lv_32.2.1 1))))) lv_11 _ _ _ h hh (lv_sub hl [0, 1, 2, 3, 4] rfl)
  obtain ⟨n, h⟩ := h
  refine hw32 _ (fun o_k80 lv_k80 H locs ls h hh hl => ?_) n r1 o ((lv.1, (upd lv.2.1 1 ((0 : Int32))), lv.2.2)) _ _ _ h hh (lv_sub hl [3, 6, 2, 1, 0] rfl)
  refine lv_iload hx hb dX8_gather_80 (lv_at hl 3 rfl) ?_
  refine lv_iconst (v := 1) hx hb dX8_gather_82 (by decide) ?_
  refine lv_isub hx hb dX8_gather_83 ?_
  refine lv_istore (lv' := [(6, .int (r3 - 1)), (0, .ref (a 0)), (3, .ref (a2 0)), (4, .int (r1)), (5, .int (r3))]) hx hb dX8_gather_84 hl (by decide) rfl (fun ls hl => ?_)
  have hw86 : ∀   (n : Nat) (p6_86 : Int32) (o_86 : Ob) (lv_86 : Ob) (H : Heap) (locs : List Loc) (ls : Array Slot), w_X8_gather_L86 r1 r3  Post n p6_86 o_86 lv_86 → Wh D A s.heap ((List.flatten [bX8 a E o_86, bX2 a2 E lv_86])) H locs → lv_has ls 9 [(0, .ref (a 0)), (3, .ref (a2 0)), (4, .int (r1)), (5, .int (r3)), (6, .int (p6_86))] → W p l e ({ frames := 2, cells := 0, slots := 0, locals := 49 } : Room) s m args below meth c H locs 0 0 Q (F0 m 86 ls []) := by
    intro   n
    induction n with
    | zero => intro p6_86 o_86 lv_86 H locs ls h hh hl; exact False.elim h
    | succ n ih =>
      intro p6_86 o_86 lv_86 H locs ls h hh hl
      refine lv_iload hx hb dX8_gather_86 (lv_at hl 4 rfl) ?_
      refine lv_iload hx hb dX8_gather_88 (lv_at hl 2 rfl) ?_
      refine lv_icmp_lt (tgt := 169) hx hb dX8_gather_90 (by decide) (fun c12 => ?_) (fun c12 => ?_)
      · have h := h.1 c12
        exact hret _ _ _ _ (o_86, lv_86) dX8_gather_169 h hh
      · have h := h.2 c12
        refine lv_aload_n hx hb dX8_gather_93 rfl (lv_at hl 0 rfl) ?_
        refine G_X8_9 [] [_] hx hb hT hown hK hh dX8_gather_94 ?_
        refine lv_iload hx hb dX8_gather_97 (lv_at hl 4 rfl) ?_
        obtain ⟨g13, h⟩ := h
        refine A_X8_0 [] [_] hx hb hK hh (v := (o_86.2.2 0) p6_86.toNatClampNeg) g13 rfl dX8_gather_99 ?_
        refine lv_iconst (v := 4) hx hb dX8_gather_100 (by decide) ?_
        refine jn_elim h (fun J163 hJ163 h => ?_)
        have kJ163 : ∀ (o_163 : Ob) (lv_163 : Ob) (H : Heap) (locs : List Loc) (ls : Array Slot), J163 o_163 lv_163 → Wh D A s.heap ((List.flatten [bX8 a E o_163, bX2 a2 E lv_163])) H locs → lv_has ls 9 [(0, .ref (a 0)), (3, .ref (a2 0)), (4, .int (r1)), (5, .int (r3)), (6, .int (p6_86))] → W p l e ({ frames := 2, cells := 0, slots := 0, locals := 49 } : Room) s m args below meth c H locs 0 0 Q (F0 m 163 ls []) := by
          intro o_163 lv_163 H locs ls h hh hl
          rw [hJ163] at h
          refine lv_iinc (v := p6_86 + (-1)) (lv' := [(6, .int (p6_86 + (-1))), (0, .ref (a 0)), (3, .ref (a2 0)), (4, .int (r1)), (5, .int (r3))]) hx hb dX8_gather_163 hl (k := 4) rfl (by rfl) (by decide) rfl (fun ls hl => ?_)
          refine lv_goto (tgt := 86) hx hb dX8_gather_166 (by decide) ?_
          exact ih (p6_86 + (-1)) o_163 lv_163 _ _ _ h hh (lv_sub hl [1, 2, 3, 4, 0] rfl)
        refine lv_icmp_ne (tgt := 163) hx hb dX8_gather_101 (by decide) (fun c14 => ?_) (fun c14 => ?_)
        · have h := h.1 c14
          exact kJ163 o_86 lv_86 _ _ _ h hh (lv_sub hl [0, 1, 2, 3, 4] rfl)
        · have h := h.2 c14
          refine lv_aload_n hx hb dX8_gather_104 rfl (lv_at hl 0 rfl) ?_
          refine G_X8_24 [] [_] hx hb hT hown hK hh dX8_gather_105 ?_
          refine lv_iload hx hb dX8_gather_108 (lv_at hl 4 rfl) ?_
          obtain ⟨g15, h⟩ := h
          refine A_X8_4 [] [_] hx hb hK hh (v := (o_86.2.2 4) p6_86.toNatClampNeg) g15 rfl dX8_gather_110 ?_
          refine lv_istore (lv' := [(7, .int ((o_86.2.2 4) p6_86.toNatClampNeg)), (0, .ref (a 0)), (3, .ref (a2 0)), (4, .int (r1)), (5, .int (r3)), (6, .int (p6_86))]) hx hb dX8_gather_111 hl (by decide) rfl (fun ls hl => ?_)
          refine lv_iload hx hb dX8_gather_113 (lv_at hl 0 rfl) ?_
          refine lv_iload hx hb dX8_gather_115 (lv_at hl 3 rfl) ?_
          refine jn_elim h (fun J141 hJ141 h => ?_)
          have kJ141 : ∀ (z_141 : Int32) (o_141 : Ob) (lv_141 : Ob) (H : Heap) (locs : List Loc) (ls : Array Slot), J141 z_141 o_141 lv_141 → Wh D A s.heap ((List.flatten [bX8 a E o_141, bX2 a2 E lv_141])) H locs → lv_has ls 9 [(0, .ref (a 0)), (3, .ref (a2 0)), (4, .int (r1)), (5, .int (r3)), (6, .int (p6_86))] → W p l e ({ frames := 2, cells := 0, slots := 0, locals := 49 } : Room) s m args below meth c H locs 0 0 Q (F0 m 141 ls [.int (z_141)]) := by
            intro z_141 o_141 lv_141 H locs ls h hh hl
            rw [hJ141] at h
            refine lv_istore (lv' := [(8, .int (z_141)), (0, .ref (a 0)), (3, .ref (a2 0)), (4, .int (r1)), (5, .int (r3)), (6, .int (p6_86))]) hx hb dX8_gather_141 hl (by decide) rfl (fun ls hl => ?_)
            refine lv_aload_n hx hb dX8_gather_143 rfl (lv_at hl 2 rfl) ?_
            refine lv_aload_n hx hb dX8_gather_144 rfl (lv_at hl 1 rfl) ?_
            refine G_X8_15 [] [_] hx hb hT hown hK hh dX8_gather_145 ?_
            refine lv_iload hx hb dX8_gather_148 (lv_at hl 5 rfl) ?_
            obtain ⟨g19, h⟩ := h
            refine A_X8_1 [] [_] hx hb hK hh (v := (o_141.2.2 1) p6_86.toNatClampNeg) g19 rfl dX8_gather_150 ?_
            refine lv_aload_n hx hb dX8_gather_151 rfl (lv_at hl 1 rfl) ?_
            refine G_X8_27 [] [_] hx hb hT hown hK hh dX8_gather_152 ?_
            refine lv_iload hx hb dX8_gather_155 (lv_at hl 5 rfl) ?_
            obtain ⟨g20, h⟩ := h
            refine A_X8_5 [] [_] hx hb hK hh (v := (o_141.2.2 5) p6_86.toNatClampNeg) g20 rfl dX8_gather_157 ?_
            refine lv_iload hx hb dX8_gather_158 (lv_at hl 0 rfl) ?_
            have hc := hh.cut [_] [_] [1, 0] 2 rfl (by decide) rfl
            refine kV hc hA (rnVN hx hb hml hown hT hK hc (c_X2_map l D E a2  lv_141 ((o_141.2.2 1) p6_86.toNatClampNeg) ((o_141.2.2 5) p6_86.toNatClampNeg) z_141 h _) mf_X2_map nml_X8_79 ⟨rfl, rfl, Nat.le_of_ble_eq_true rfl, Nat.le_of_ble_eq_true rfl⟩ ⟨Nat.le_of_ble_eq_true rfl, Nat.le_of_ble_eq_true rfl⟩ 2 0 rfl rfl hl.1 rfl dX8_gather_160 (Nat.le_of_ble_eq_true rfl) rfl) (fun lv_22 H locs h hh => ?_)
            have hh : Wh D A s.heap ((List.flatten [bX8 a E o_141, bX2 a2 E lv_22])) _ _ := Wh.back (cs := [_]) (rs := [_]) _ [1, 0] 2 rfl (by decide) rfl hh
            exact kJ163 o_141 lv_22 _ _ _ h hh (lv_sub hl [1, 2, 3, 4, 5] rfl)
          refine jn_elim h (fun J137 hJ137 h => ?_)
          have kJ137 : ∀ (o_137 : Ob) (lv_137 : Ob) (H : Heap) (locs : List Loc) (ls : Array Slot), J137 o_137 lv_137 → Wh D A s.heap ((List.flatten [bX8 a E o_137, bX2 a2 E lv_137])) H locs → lv_has ls 9 [(0, .ref (a 0)), (3, .ref (a2 0)), (4, .int (r1)), (5, .int (r3)), (6, .int (p6_86))] → W p l e ({ frames := 2, cells := 0, slots := 0, locals := 49 } : Room) s m args below meth c H locs 0 0 Q (F0 m 137 ls []) := by
            intro o_137 lv_137 H locs ls h hh hl
            rw [hJ137] at h
            refine lv_aload_n hx hb dX8_gather_137 rfl (lv_at hl 1 rfl) ?_
            refine G_X8_67 [_] [] hx hb hT hown hK hh (v := lv_137.2.1 1) rfl dX8_gather_138 ?_
            exact kJ141 (lv_137.2.1 1) o_137 lv_137 _ _ _ h hh (lv_sub hl [0, 1, 2, 3, 4] rfl)
          refine lv_icmp_lt (tgt := 137) hx hb dX8_gather_117 (by decide) (fun c16 => ?_) (fun c16 => ?_)
          · have h := h.1 c16
            exact kJ137 o_86 lv_86 _ _ _ h hh (lv_sub hl [1, 2, 3, 4, 5] rfl)
          · have h := h.2 c16
            refine lv_iload hx hb dX8_gather_120 (lv_at hl 0 rfl) ?_
            refine lv_iload hx hb dX8_gather_122 (lv_at hl 4 rfl) ?_
            refine lv_icmp_ge (tgt := 137) hx hb dX8_gather_124 (by decide) (fun c17 => ?_) (fun c17 => ?_)
            · have h := h.1 c17
              exact kJ137 o_86 lv_86 _ _ _ h hh (lv_sub hl [1, 2, 3, 4, 5] rfl)
            · have h := h.2 c17
              refine lv_aload_n hx hb dX8_gather_127 rfl (lv_at hl 1 rfl) ?_
              refine G_X8_27 [] [_] hx hb hT hown hK hh dX8_gather_128 ?_
              refine lv_iload hx hb dX8_gather_131 (lv_at hl 0 rfl) ?_
              obtain ⟨g18, h⟩ := h
              refine A_X8_5 [] [_] hx hb hK hh (v := (o_86.2.2 5) ((o_86.2.2 4) p6_86.toNatClampNeg).toNatClampNeg) g18 rfl dX8_gather_133 ?_
              refine lv_goto (tgt := 141) hx hb dX8_gather_134 (by decide) ?_
              exact kJ141 ((o_86.2.2 5) ((o_86.2.2 4) p6_86.toNatClampNeg).toNatClampNeg) o_86 lv_86 _ _ _ h hh (lv_sub hl [1, 2, 3, 4, 5] rfl)
  obtain ⟨n, h⟩ := h
  refine hw86   n (r3 - 1) o_k80 lv_k80 _ _ _ h hh (lv_sub hl [1, 2, 3, 4, 0] rfl)

def w_X8_signs_L4   (Post : Int32 → Ob → Prop) : Nat → Int32 → Int32 → Ob → Prop
  | 0, _, _, _ => False
  | n4 + 1, p1_4, p2_4, o_4 => (((o_4.2.1 6) ≤ p2_4) → Post p1_4 o_4) ∧ (¬ ((o_4.2.1 6) ≤ p2_4) → ((744 ≤ p2_4) → Post p1_4 o_4) ∧ (¬ (744 ≤ p2_4) → vp_in p2_4 744 ∧ (w_X8_isLeaf  ((o_4.2.2 0) p2_4.toNatClampNeg)  (fun (r4 : Int32) => jn (fun J46 : Int32 → Ob → Prop => jn (fun J43 : Ob → Prop => ((¬ r4 = 0) → J43 o_4) ∧ ((r4 = 0) → vp_in p2_4 744 ∧ (w_X8_isRow  ((o_4.2.2 0) p2_4.toNatClampNeg)  (fun (r7 : Int32) => ((r7 = 0) → J46 p1_4 o_4) ∧ (¬ (r7 = 0) → J43 o_4))))) (fun (o_43 : Ob) => J46 (p1_4 + 2) o_43)) (fun (y1_46 : Int32) (o_46 : Ob) => w_X8_signs_L4   Post n4 y1_46 (p2_4 + 1) o_46)))))
def w_X8_signs  (o : Ob) (Post : Int32 → Ob → Prop) : Prop := ∃ n4, w_X8_signs_L4   Post n4 0 0 o
set_option maxRecDepth 100000 in
set_option maxHeartbeats 4000000 in
theorem c_X8_signs (l : Launch) (D : va_G) (E : Nat → ClassId) (a : Nat → Nat)  (o : Ob)  {Post : Int32 → Ob → Prop} (h : w_X8_signs  o Post) : CtI l yX8_signs cX8_signs 3 .int ({ frames := 1, cells := 0, slots := 0, locals := 20 } : Room) D E [.ref (a 0)] (List.flatten [bX8 a E o]) (fun u : Ob => List.flatten [bX8 a E u]) Post 0 0 := by
  refine enI (by decide +kernel) (Nat.le_of_ble_eq_true rfl) ?_
  intro p e s m args below meth c Q A ls hx hb hml hown hT hK hA hret hh hl
  have hl : lv_has ls 3 [(0, .ref (a 0))] := hl
  unfold w_X8_signs at h
  refine lv_iconst (v := 0) hx hb dX8_signs_0 (by decide) ?_
  refine lv_istore_n (lv' := [(1, .int (0)), (0, .ref (a 0))]) hx hb dX8_signs_1 rfl hl (by decide) rfl (fun ls hl => ?_)
  refine lv_iconst (v := 0) hx hb dX8_signs_2 (by decide) ?_
  refine lv_istore_n (lv' := [(2, .int (0)), (1, .int (0)), (0, .ref (a 0))]) hx hb dX8_signs_3 rfl hl (by decide) rfl (fun ls hl => ?_)
  have hw4 : ∀   (n : Nat) (p1_4 : Int32) (p2_4 : Int32) (o_4 : Ob) (H : Heap) (locs : List Loc) (ls : Array Slot), w_X8_signs_L4   Post n p1_4 p2_4 o_4 → Wh D A s.heap ((List.flatten [bX8 a E o_4])) H locs → lv_has ls 3 [(0, .ref (a 0)), (1, .int (p1_4)), (2, .int (p2_4))] → W p l e ({ frames := 1, cells := 0, slots := 0, locals := 20 } : Room) s m args below meth c H locs 0 0 Q (F0 m 4 ls []) := by
    intro   n
    induction n with
    | zero => intro p1_4 p2_4 o_4 H locs ls h hh hl; exact False.elim h
    | succ n ih =>
      intro p1_4 p2_4 o_4 H locs ls h hh hl
      refine lv_iload_n hx hb dX8_signs_4 rfl (lv_at hl 2 rfl) ?_
      refine lv_aload_n hx hb dX8_signs_5 rfl (lv_at hl 0 rfl) ?_
      refine G_X8_30 [] [] hx hb hT hown hK hh (v := o_4.2.1 6) rfl dX8_signs_6 ?_
      refine lv_icmp_ge (tgt := 52) hx hb dX8_signs_9 (by decide) (fun c1 => ?_) (fun c1 => ?_)
      · have h := h.1 c1
        refine lv_iload_n hx hb dX8_signs_52 rfl (lv_at hl 1 rfl) ?_
        exact hret _ _ _ _ _ o_4 dX8_signs_53 rfl h hh
      · have h := h.2 c1
        refine lv_iload_n hx hb dX8_signs_12 rfl (lv_at hl 2 rfl) ?_
        refine lv_sipush (v := 744) hx hb dX8_signs_13 (by decide) ?_
        refine lv_icmp_ge (tgt := 52) hx hb dX8_signs_16 (by decide) (fun c2 => ?_) (fun c2 => ?_)
        · have h := h.1 c2
          refine lv_iload_n hx hb dX8_signs_52 rfl (lv_at hl 1 rfl) ?_
          exact hret _ _ _ _ _ o_4 dX8_signs_53 rfl h hh
        · have h := h.2 c2
          refine lv_aload_n hx hb dX8_signs_19 rfl (lv_at hl 0 rfl) ?_
          refine G_X8_9 [] [] hx hb hT hown hK hh dX8_signs_20 ?_
          refine lv_iload_n hx hb dX8_signs_23 rfl (lv_at hl 2 rfl) ?_
          obtain ⟨g3, h⟩ := h
          refine A_X8_0 [] [] hx hb hK hh (v := (o_4.2.2 0) p2_4.toNatClampNeg) g3 rfl dX8_signs_24 ?_
          refine kI hh.none hA (rnS hx hb hml hown hT hK hh.none (c_X8_isLeaf l D E    ((o_4.2.2 0) p2_4.toNatClampNeg) h _) mf_X8_isLeaf kml_X8_72 ⟨rfl, rfl, Nat.le_of_ble_eq_true rfl, Nat.le_of_ble_eq_true rfl⟩ ⟨Nat.le_of_ble_eq_true rfl, Nat.le_of_ble_eq_true rfl⟩ hl.1 rfl dX8_signs_25 (Nat.le_of_ble_eq_true rfl) rfl) (fun r4 u H locs h hh => ?_)
          have hh : Wh D A s.heap ((List.flatten [bX8 a E o_4])) _ _ := hh.unone
          refine jn_elim h (fun J46 hJ46 h => ?_)
          have kJ46 : ∀ (y1_46 : Int32) (o_46 : Ob) (H : Heap) (locs : List Loc) (ls : Array Slot), J46 y1_46 o_46 → Wh D A s.heap ((List.flatten [bX8 a E o_46])) H locs → lv_has ls 3 [(0, .ref (a 0)), (1, .int (y1_46)), (2, .int (p2_4))] → W p l e ({ frames := 1, cells := 0, slots := 0, locals := 20 } : Room) s m args below meth c H locs 0 0 Q (F0 m 46 ls []) := by
            intro y1_46 o_46 H locs ls h hh hl
            rw [hJ46] at h
            refine lv_iinc (v := p2_4 + 1) (lv' := [(2, .int (p2_4 + 1)), (0, .ref (a 0)), (1, .int (y1_46))]) hx hb dX8_signs_46 hl (k := 2) rfl (by rfl) (by decide) rfl (fun ls hl => ?_)
            refine lv_goto (tgt := 4) hx hb dX8_signs_49 (by decide) ?_
            exact ih y1_46 (p2_4 + 1) o_46 _ _ _ h hh (lv_sub hl [1, 2, 0] rfl)
          refine jn_elim h (fun J43 hJ43 h => ?_)
          have kJ43 : ∀ (o_43 : Ob) (H : Heap) (locs : List Loc) (ls : Array Slot), J43 o_43 → Wh D A s.heap ((List.flatten [bX8 a E o_43])) H locs → lv_has ls 3 [(0, .ref (a 0)), (1, .int (p1_4)), (2, .int (p2_4))] → W p l e ({ frames := 1, cells := 0, slots := 0, locals := 20 } : Room) s m args below meth c H locs 0 0 Q (F0 m 43 ls []) := by
            intro o_43 H locs ls h hh hl
            rw [hJ43] at h
            refine lv_iinc (v := p1_4 + 2) (lv' := [(1, .int (p1_4 + 2)), (0, .ref (a 0)), (2, .int (p2_4))]) hx hb dX8_signs_43 hl (k := 1) rfl (by rfl) (by decide) rfl (fun ls hl => ?_)
            exact kJ46 (p1_4 + 2) o_43 _ _ _ h hh (lv_sub hl [1, 0, 2] rfl)
          refine lv_if_ne (tgt := 43) hx hb dX8_signs_28 (by decide) (fun c5 => ?_) (fun c5 => ?_)
          · have h := h.1 c5
            exact kJ43 o_4 _ _ _ h hh (lv_sub hl [0, 1, 2] rfl)
          · have h := h.2 c5
            refine lv_aload_n hx hb dX8_signs_31 rfl (lv_at hl 0 rfl) ?_
            refine G_X8_9 [] [] hx hb hT hown hK hh dX8_signs_32 ?_
            refine lv_iload_n hx hb dX8_signs_35 rfl (lv_at hl 2 rfl) ?_
            obtain ⟨g6, h⟩ := h
            refine A_X8_0 [] [] hx hb hK hh (v := (o_4.2.2 0) p2_4.toNatClampNeg) g6 rfl dX8_signs_36 ?_
            refine kI hh.none hA (rnS hx hb hml hown hT hK hh.none (c_X8_isRow l D E    ((o_4.2.2 0) p2_4.toNatClampNeg) h _) mf_X8_isRow kml_X8_83 ⟨rfl, rfl, Nat.le_of_ble_eq_true rfl, Nat.le_of_ble_eq_true rfl⟩ ⟨Nat.le_of_ble_eq_true rfl, Nat.le_of_ble_eq_true rfl⟩ hl.1 rfl dX8_signs_37 (Nat.le_of_ble_eq_true rfl) rfl) (fun r7 u H locs h hh => ?_)
            have hh : Wh D A s.heap ((List.flatten [bX8 a E o_4])) _ _ := hh.unone
            refine lv_if_eq (tgt := 46) hx hb dX8_signs_40 (by decide) (fun c8 => ?_) (fun c8 => ?_)
            · have h := h.1 c8
              exact kJ46 p1_4 o_4 _ _ _ h hh (lv_sub hl [0, 1, 2] rfl)
            · have h := h.2 c8
              exact kJ43 o_4 _ _ _ h hh (lv_sub hl [0, 1, 2] rfl)
  obtain ⟨n, h⟩ := h
  refine hw4   n 0 0 o _ _ _ h hh (lv_sub hl [2, 1, 0] rfl)

def w_X8_signAt_L8 (f1_8 : Int32) (K63_8 : Int32 → Ob → Ob → Prop) (K81_8 : Int32 → Int32 → Int32 → Ob → Ob → Prop) (Post : Int64 → Ob → Ob → Prop) : Nat → Int32 → Int32 → Int32 → Ob → Ob → Prop
  | 0, _, _, _, _, _ => False
  | n8 + 1, p3_8, p4_8, p5_8, o_8, lv_8 => (((o_8.2.1 6) ≤ p5_8) → Post ((-9223372036854775808)) o_8 lv_8) ∧ (¬ ((o_8.2.1 6) ≤ p5_8) → ((744 ≤ p5_8) → Post ((-9223372036854775808)) o_8 lv_8) ∧ (¬ (744 ≤ p5_8) → vp_in p5_8 744 ∧ (w_X8_isLeaf  ((o_8.2.2 0) p5_8.toNatClampNeg)  (fun (r4 : Int32) => jn (fun J123 : Int32 → Int32 → Ob → Ob → Prop => jn (fun J58 : Ob → Ob → Prop => ((¬ r4 = 0) → J58 o_8 lv_8) ∧ ((r4 = 0) → vp_in p5_8 744 ∧ (w_X8_isRow  ((o_8.2.2 0) p5_8.toNatClampNeg)  (fun (r7 : Int32) => ((¬ r7 = 0) → J58 o_8 lv_8) ∧ ((r7 = 0) → J123 p3_8 p4_8 o_8 lv_8))))) (fun (o_58 : Ob) (lv_58 : Ob) => ((¬ p3_8 = f1_8) → ((¬ (p3_8 + 1) = f1_8) → jn (fun J120 : Int32 → Ob → Ob → Prop => ((r4 = 0) → J120 0 o_58 lv_58) ∧ (¬ (r4 = 0) → J120 1 o_58 lv_58)) (fun (z_120 : Int32) (o_120 : Ob) (lv_120 : Ob) => J123 (p3_8 + 2) (p4_8 + z_120) o_120 lv_120)) ∧ (((p3_8 + 1) = f1_8) → K81_8 p4_8 p5_8 r4 o_58 lv_58)) ∧ ((p3_8 = f1_8) → K63_8 r4 o_58 lv_58))) (fun (y3_123 : Int32) (y4_123 : Int32) (o_123 : Ob) (lv_123 : Ob) => w_X8_signAt_L8 f1_8 K63_8 K81_8 Post n8 y3_123 y4_123 (p5_8 + 1) o_123 lv_123)))))
def w_X8_signAt (x1 : Int32) (o : Ob) (lv : Ob) (Post : Int64 → Ob → Ob → Prop) : Prop := ∃ n8, w_X8_signAt_L8 x1 (fun (k6_63 : Int32) (o_k63 : Ob) (lv_k63 : Ob) => ((k6_63 = 0) → Post 1 o_k63 lv_k63) ∧ (¬ (k6_63 = 0) → Post 0 o_k63 lv_k63)) (fun (k4_81 : Int32) (k5_81 : Int32) (k6_81 : Int32) (o_k81 : Ob) (lv_k81 : Ob) => ((k6_81 = 0) → vp_in k5_81 744 ∧ (Post (((o_k81.2.2 1) k5_81.toNatClampNeg).toInt64) o_k81 lv_k81)) ∧ (¬ (k6_81 = 0) → w_X2_get  k4_81 lv_k81 (fun (r15 : Int32) (lv_16 : Ob) => Post r15.toInt64 o_k81 lv_16))) Post n8 0 0 0 o lv
set_option maxRecDepth 100000 in
set_option maxHeartbeats 4000000 in
theorem c_X8_signAt (l : Launch) (D : va_G) (E : Nat → ClassId) (a : Nat → Nat) (a2 : Nat → Nat)  (o : Ob) (lv : Ob) (x1 : Int32) {Post : Int64 → Ob → Ob → Prop} (h : w_X8_signAt x1 o lv Post) : CtL l yX8_signAt cX8_signAt 7 ({ frames := 1, cells := 0, slots := 0, locals := 21 } : Room) D E [.ref (a 0), .int (x1), .ref (a2 0)] (List.flatten [bX8 a E o, bX2 a2 E lv]) (fun u : Ob × Ob => List.flatten [bX8 a E u.1, bX2 a2 E u.2]) (fun (r : Int64) (u : Ob × Ob) => Post r u.1 u.2) 0 0 := by
  refine enL (by decide +kernel) (Nat.le_of_ble_eq_true rfl) ?_
  intro p e s m args below meth c Q A ls hx hb hml hown hT hK hA hret hh hl
  have hl : lv_has ls 7 [(0, .ref (a 0)), (1, .int (x1)), (2, .ref (a2 0))] := hl
  unfold w_X8_signAt at h
  refine lv_iconst (v := 0) hx hb dX8_signAt_0 (by decide) ?_
  refine lv_istore_n (lv' := [(3, .int (0)), (0, .ref (a 0)), (1, .int (x1)), (2, .ref (a2 0))]) hx hb dX8_signAt_1 rfl hl (by decide) rfl (fun ls hl => ?_)
  refine lv_iconst (v := 0) hx hb dX8_signAt_2 (by decide) ?_
  refine lv_istore (lv' := [(4, .int (0)), (3, .int (0)), (0, .ref (a 0)), (1, .int (x1)), (2, .ref (a2 0))]) hx hb dX8_signAt_3 hl (by decide) rfl (fun ls hl => ?_)
  refine lv_iconst (v := 0) hx hb dX8_signAt_5 (by decide) ?_
  refine lv_istore (lv' := [(5, .int (0)), (4, .int (0)), (3, .int (0)), (0, .ref (a 0)), (1, .int (x1)), (2, .ref (a2 0))]) hx hb dX8_signAt_6 hl (by decide) rfl (fun ls hl => ?_)
  have hw8 : ∀ (K63_8 : Int32 → Ob → Ob → Prop) (K81_8 : Int32 → Int32 → Int32 → Ob → Ob → Prop) (hK63_8 : ∀ (k6_63 : Int32) (o_k63 : Ob) (lv_k63 : Ob) (H : Heap) (locs : List Loc) (ls : Array Slot), K63_8 k6_63 o_k63 lv_k63 → Wh D A s.heap ((List.flatten [bX8 a E o_k63, bX2 a2 E lv_k63])) H locs → lv_has ls 7 [(6, .int (k6_63))] → W p l e ({ frames := 1, cells := 0, slots := 0, locals := 21 } : Room) s m args below meth c H locs 0 0 Q (F0 m 63 ls [])) (hK81_8 : ∀ (k4_81 : Int32) (k5_81 : Int32) (k6_81 : Int32) (o_k81 : Ob) (lv_k81 : Ob) (H : Heap) (locs : List Loc) (ls : Array Slot), K81_8 k4_81 k5_81 k6_81 o_k81 lv_k81 → Wh D A s.heap ((List.flatten [bX8 a E o_k81, bX2 a2 E lv_k81])) H locs → lv_has ls 7 [(0, .ref (a 0)), (2, .ref (a2 0)), (4, .int (k4_81)), (5, .int (k5_81)), (6, .int (k6_81))] → W p l e ({ frames := 1, cells := 0, slots := 0, locals := 21 } : Room) s m args below meth c H locs 0 0 Q (F0 m 81 ls [])) (n : Nat) (p3_8 : Int32) (p4_8 : Int32) (p5_8 : Int32) (o_8 : Ob) (lv_8 : Ob) (H : Heap) (locs : List Loc) (ls : Array Slot), w_X8_signAt_L8 x1 K63_8 K81_8 Post n p3_8 p4_8 p5_8 o_8 lv_8 → Wh D A s.heap ((List.flatten [bX8 a E o_8, bX2 a2 E lv_8])) H locs → lv_has ls 7 [(0, .ref (a 0)), (1, .int (x1)), (2, .ref (a2 0)), (3, .int (p3_8)), (4, .int (p4_8)), (5, .int (p5_8))] → W p l e ({ frames := 1, cells := 0, slots := 0, locals := 21 } : Room) s m args below meth c H locs 0 0 Q (F0 m 8 ls []) := by
    intro K63_8 K81_8 hK63_8 hK81_8 n
    induction n with
    | zero => intro p3_8 p4_8 p5_8 o_8 lv_8 H locs ls h hh hl; exact False.elim h
    | succ n ih =>
      intro p3_8 p4_8 p5_8 o_8 lv_8 H locs ls h hh hl
      refine lv_iload hx hb dX8_signAt_8 (lv_at hl 5 rfl) ?_
      refine lv_aload_n hx hb dX8_signAt_10 rfl (lv_at hl 0 rfl) ?_
      refine G_X8_30 [] [_] hx hb hT hown hK hh (v := o_8.2.1 6) rfl dX8_signAt_11 ?_
      refine lv_icmp_ge (tgt := 129) hx hb dX8_signAt_14 (by decide) (fun c1 => ?_) (fun c1 => ?_)
      · have h := h.1 c1
        refine lv_ldc2 (v := (-9223372036854775808)) hx hb hown (hT _ kcL_X8_89) dX8_signAt_129 ?_
        exact hret _ _ _ _ _ (o_8, lv_8) dX8_signAt_132 h hh
      · have h := h.2 c1
        refine lv_iload hx hb dX8_signAt_17 (lv_at hl 5 rfl) ?_
        refine lv_sipush (v := 744) hx hb dX8_signAt_19 (by decide) ?_
        refine lv_icmp_ge (tgt := 129) hx hb dX8_signAt_22 (by decide) (fun c2 => ?_) (fun c2 => ?_)
        · have h := h.1 c2
          refine lv_ldc2 (v := (-9223372036854775808)) hx hb hown (hT _ kcL_X8_89) dX8_signAt_129 ?_
          exact hret _ _ _ _ _ (o_8, lv_8) dX8_signAt_132 h hh
        · have h := h.2 c2
          refine lv_aload_n hx hb dX8_signAt_25 rfl (lv_at hl 0 rfl) ?_
          refine G_X8_9 [] [_] hx hb hT hown hK hh dX8_signAt_26 ?_
          refine lv_iload hx hb dX8_signAt_29 (lv_at hl 5 rfl) ?_
          obtain ⟨g3, h⟩ := h
          refine A_X8_0 [] [_] hx hb hK hh (v := (o_8.2.2 0) p5_8.toNatClampNeg) g3 rfl dX8_signAt_31 ?_
          refine kI hh.none hA (rnS hx hb hml hown hT hK hh.none (c_X8_isLeaf l D E    ((o_8.2.2 0) p5_8.toNatClampNeg) h _) mf_X8_isLeaf kml_X8_72 ⟨rfl, rfl, Nat.le_of_ble_eq_true rfl, Nat.le_of_ble_eq_true rfl⟩ ⟨Nat.le_of_ble_eq_true rfl, Nat.le_of_ble_eq_true rfl⟩ hl.1 rfl dX8_signAt_32 (Nat.le_of_ble_eq_true rfl) rfl) (fun r4 u H locs h hh => ?_)
          have hh : Wh D A s.heap ((List.flatten [bX8 a E o_8, bX2 a2 E lv_8])) _ _ := hh.unone
          refine lv_istore (lv' := [(6, .int (r4)), (0, .ref (a 0)), (1, .int (x1)), (2, .ref (a2 0)), (3, .int (p3_8)), (4, .int (p4_8)), (5, .int (p5_8))]) hx hb dX8_signAt_35 hl (by decide) rfl (fun ls hl => ?_)
          refine lv_iload hx hb dX8_signAt_37 (lv_at hl 0 rfl) ?_
          refine jn_elim h (fun J123 hJ123 h => ?_)
          have kJ123 : ∀ (y3_123 : Int32) (y4_123 : Int32) (o_123 : Ob) (lv_123 : Ob) (H : Heap) (locs : List Loc) (ls : Array Slot), J123 y3_123 y4_123 o_123 lv_123 → Wh D A s.heap ((List.flatten [bX8 a E o_123, bX2 a2 E lv_123])) H locs → lv_has ls 7 [(0, .ref (a 0)), (1, .int (x1)), (2, .ref (a2 0)), (3, .int (y3_123)), (4, .int (y4_123)), (5, .int (p5_8))] → W p l e ({ frames := 1, cells := 0, slots := 0, locals := 21 } : Room) s m args below meth c H locs 0 0 Q (F0 m 123 ls []) := by
            intro y3_123 y4_123 o_123 lv_123 H locs ls h hh hl
            rw [hJ123] at h
            refine lv_iinc (v := p5_8 + 1) (lv' := [(5, .int (p5_8 + 1)), (0, .ref (a 0)), (1, .int (x1)), (2, .ref (a2 0)), (3, .int (y3_123)), (4, .int (y4_123))]) hx hb dX8_signAt_123 hl (k := 5) rfl (by rfl) (by decide) rfl (fun ls hl => ?_)
            refine lv_goto (tgt := 8) hx hb dX8_signAt_126 (by decide) ?_
            exact ih y3_123 y4_123 (p5_8 + 1) o_123 lv_123 _ _ _ h hh (lv_sub hl [1, 2, 3, 4, 5, 0] rfl)
          refine jn_elim h (fun J58 hJ58 h => ?_)
          have kJ58 : ∀ (o_58 : Ob) (lv_58 : Ob) (H : Heap) (locs : List Loc) (ls : Array Slot), J58 o_58 lv_58 → Wh D A s.heap ((List.flatten [bX8 a E o_58, bX2 a2 E lv_58])) H locs → lv_has ls 7 [(0, .ref (a 0)), (1, .int (x1)), (2, .ref (a2 0)), (3, .int (p3_8)), (4, .int (p4_8)), (5, .int (p5_8)), (6, .int (r4))] → W p l e ({ frames := 1, cells := 0, slots := 0, locals := 21 } : Room) s m args below meth c H locs 0 0 Q (F0 m 58 ls []) := by
            intro o_58 lv_58 H locs ls h hh hl
            rw [hJ58] at h
            refine lv_iload_n hx hb dX8_signAt_58 rfl (lv_at hl 3 rfl) ?_
            refine lv_iload_n hx hb dX8_signAt_59 rfl (lv_at hl 1 rfl) ?_
            refine lv_icmp_ne (tgt := 74) hx hb dX8_signAt_60 (by decide) (fun c9 => ?_) (fun c9 => ?_)
            · have h := h.1 c9
              refine lv_iload_n hx hb dX8_signAt_74 rfl (lv_at hl 3 rfl) ?_
              refine lv_iconst (v := 1) hx hb dX8_signAt_75 (by decide) ?_
              refine lv_iadd hx hb dX8_signAt_76 ?_
              refine lv_iload_n hx hb dX8_signAt_77 rfl (lv_at hl 1 rfl) ?_
              refine lv_icmp_ne (tgt := 105) hx hb dX8_signAt_78 (by decide) (fun c10 => ?_) (fun c10 => ?_)
              · have h := h.1 c10
                refine lv_iinc (v := p3_8 + 2) (lv' := [(3, .int (p3_8 + 2)), (0, .ref (a 0)), (1, .int (x1)), (2, .ref (a2 0)), (4, .int (p4_8)), (5, .int (p5_8)), (6, .int (r4))]) hx hb dX8_signAt_105 hl (k := 3) rfl (by rfl) (by decide) rfl (fun ls hl => ?_)
                refine lv_iload hx hb dX8_signAt_108 (lv_at hl 4 rfl) ?_
                refine lv_iload hx hb dX8_signAt_110 (lv_at hl 6 rfl) ?_
                refine jn_elim h (fun J120 hJ120 h => ?_)
                have kJ120 : ∀ (z_120 : Int32) (o_120 : Ob) (lv_120 : Ob) (H : Heap) (locs : List Loc) (ls : Array Slot), J120 z_120 o_120 lv_120 → Wh D A s.heap ((List.flatten [bX8 a E o_120, bX2 a2 E lv_120])) H locs → lv_has ls 7 [(0, .ref (a 0)), (1, .int (x1)), (2, .ref (a2 0)), (3, .int (p3_8 + 2)), (5, .int (p5_8))] → W p l e ({ frames := 1, cells := 0, slots := 0, locals := 21 } : Room) s m args below meth c H locs 0 0 Q (F0 m 120 ls [.int (z_120), .int (p4_8)]) := by
                  intro z_120 o_120 lv_120 H locs ls h hh hl
                  rw [hJ120] at h
                  refine lv_iadd hx hb dX8_signAt_120 ?_
                  refine lv_istore (lv' := [(4, .int (p4_8 + z_120)), (0, .ref (a 0)), (1, .int (x1)), (2, .ref (a2 0)), (3, .int (p3_8 + 2)), (5, .int (p5_8))]) hx hb dX8_signAt_121 hl (by decide) rfl (fun ls hl => ?_)
                  exact kJ123 (p3_8 + 2) (p4_8 + z_120) o_120 lv_120 _ _ _ h hh (lv_sub hl [1, 2, 3, 4, 0, 5] rfl)
                refine lv_if_eq (tgt := 119) hx hb dX8_signAt_112 (by decide) (fun c11 => ?_) (fun c11 => ?_)
                · have h := h.1 c11
                  refine lv_iconst (v := 0) hx hb dX8_signAt_119 (by decide) ?_
                  exact kJ120 0 o_58 lv_58 _ _ _ h hh (lv_sub hl [1, 2, 3, 0, 5] rfl)
                · have h := h.2 c11
                  refine lv_iconst (v := 1) hx hb dX8_signAt_115 (by decide) ?_
                  refine lv_goto (tgt := 120) hx hb dX8_signAt_116 (by decide) ?_
                  exact kJ120 1 o_58 lv_58 _ _ _ h hh (lv_sub hl [1, 2, 3, 0, 5] rfl)
              · have h := h.2 c10
                exact hK81_8 p4_8 p5_8 r4 o_58 lv_58 _ _ _ h hh (lv_sub hl [0, 2, 4, 5, 6] rfl)
            · have h := h.2 c9
              exact hK63_8 r4 o_58 lv_58 _ _ _ h hh (lv_sub hl [6] rfl)
          refine lv_if_ne (tgt := 58) hx hb dX8_signAt_39 (by decide) (fun c5 => ?_) (fun c5 => ?_)
          · have h := h.1 c5
            exact kJ58 o_8 lv_8 _ _ _ h hh (lv_sub hl [1, 2, 3, 4, 5, 6, 0] rfl)
          · have h := h.2 c5
            refine lv_aload_n hx hb dX8_signAt_42 rfl (lv_at hl 1 rfl) ?_
            refine G_X8_9 [] [_] hx hb hT hown hK hh dX8_signAt_43 ?_
            refine lv_iload hx hb dX8_signAt_46 (lv_at hl 6 rfl) ?_
            obtain ⟨g6, h⟩ := h
            refine A_X8_0 [] [_] hx hb hK hh (v := (o_8.2.2 0) p5_8.toNatClampNeg) g6 rfl dX8_signAt_48 ?_
            refine kI hh.none hA (rnS hx hb hml hown hT hK hh.none (c_X8_isRow l D E    ((o_8.2.2 0) p5_8.toNatClampNeg) h _) mf_X8_isRow kml_X8_83 ⟨rfl, rfl, Nat.le_of_ble_eq_true rfl, Nat.le_of_ble_eq_true rfl⟩ ⟨Nat.le_of_ble_eq_true rfl, Nat.le_of_ble_eq_true rfl⟩ hl.1 rfl dX8_signAt_49 (Nat.le_of_ble_eq_true rfl) rfl) (fun r7 u H locs h hh => ?_)
            have hh : Wh D A s.heap ((List.flatten [bX8 a E o_8, bX2 a2 E lv_8])) _ _ := hh.unone
            refine lv_if_ne (tgt := 58) hx hb dX8_signAt_52 (by decide) (fun c8 => ?_) (fun c8 => ?_)
            · have h := h.1 c8
              exact kJ58 o_8 lv_8 _ _ _ h hh (lv_sub hl [1, 2, 3, 4, 5, 6, 0] rfl)
            · have h := h.2 c8
              refine lv_goto (tgt := 123) hx hb dX8_signAt_55 (by decide) ?_
              exact kJ123 p3_8 p4_8 o_8 lv_8 _ _ _ h hh (lv_sub hl [1, 2, 3, 4, 5, 6] rfl)
  obtain ⟨n, h⟩ := h
  refine hw8 _ _ (fun k6_63 o_k63 lv_k63 H locs ls h hh hl => ?_) (fun k4_81 k5_81 k6_81 o_k81 lv_k81 H locs ls h hh hl => ?_) n 0 0 0 o lv _ _ _ h hh (lv_sub hl [3, 4, 5, 2, 1, 0] rfl)
  · refine lv_iload hx hb dX8_signAt_63 (lv_at hl 0 rfl) ?_
    refine lv_if_eq (tgt := 72) hx hb dX8_signAt_65 (by decide) (fun c12 => ?_) (fun c12 => ?_)
    · have h := h.1 c12
      refine lv_lconst (v := 1) hx hb dX8_signAt_72 (by decide) ?_
      exact hret _ _ _ _ _ (o_k63, lv_k63) dX8_signAt_73 h hh
    · have h := h.2 c12
      refine lv_lconst (v := 0) hx hb dX8_signAt_68 (by decide) ?_
      refine lv_goto (tgt := 73) hx hb dX8_signAt_69 (by decide) ?_
      exact hret _ _ _ _ _ (o_k63, lv_k63) dX8_signAt_73 h hh
  · refine lv_iload hx hb dX8_signAt_81 (lv_at hl 4 rfl) ?_
    refine lv_if_eq (tgt := 96) hx hb dX8_signAt_83 (by decide) (fun c13 => ?_) (fun c13 => ?_)
    · have h := h.1 c13
      refine lv_aload_n hx hb dX8_signAt_96 rfl (lv_at hl 0 rfl) ?_
      refine G_X8_15 [] [_] hx hb hT hown hK hh dX8_signAt_97 ?_
      refine lv_iload hx hb dX8_signAt_100 (lv_at hl 3 rfl) ?_
      obtain ⟨g14, h⟩ := h
      refine A_X8_1 [] [_] hx hb hK hh (v := (o_k81.2.2 1) k5_81.toNatClampNeg) g14 rfl dX8_signAt_102 ?_
      refine lv_i2l (v := ((o_k81.2.2 1) k5_81.toNatClampNeg).toInt64) hx hb dX8_signAt_103 rfl ?_
      exact hret _ _ _ _ _ (o_k81, lv_k81) dX8_signAt_104 h hh
    · have h := h.2 c13
      refine lv_aload_n hx hb dX8_signAt_86 rfl (lv_at hl 1 rfl) ?_
      refine lv_iload hx hb dX8_signAt_87 (lv_at hl 2 rfl) ?_
      have hc := hh.cut [_] [_] [1, 0] 2 rfl (by decide) rfl
      refine kI hc hA (rnVN hx hb hml hown hT hK hc (c_X2_get l D E a2  lv_k81 k4_81 h _) mf_X2_get nml_X8_86 ⟨rfl, rfl, Nat.le_of_ble_eq_true rfl, Nat.le_of_ble_eq_true rfl⟩ ⟨Nat.le_of_ble_eq_true rfl, Nat.le_of_ble_eq_true rfl⟩ 2 0 rfl rfl hl.1 rfl dX8_signAt_89 (Nat.le_of_ble_eq_true rfl) rfl) (fun r15 lv_16 H locs h hh => ?_)
      have hh : Wh D A s.heap ((List.flatten [bX8 a E o_k81, bX2 a2 E lv_16])) _ _ := Wh.back (cs := [_]) (rs := [_]) _ [1, 0] 2 rfl (by decide) rfl hh
      refine lv_i2l (v := r15.toInt64) hx hb dX8_signAt_92 rfl ?_
      refine lv_goto (tgt := 104) hx hb dX8_signAt_93 (by decide) ?_
      exact hret _ _ _ _ _ (o_k81, lv_16) dX8_signAt_104 h hh

def w_X1_knows (x1 : Int32) (j : Ob) (Post : Int32 → Ob → Prop) : Prop := ((x1 < 0) → Post 0 j) ∧ (¬ (x1 < 0) → (((j.2.1 1) ≤ x1) → Post 0 j) ∧ (¬ ((j.2.1 1) ≤ x1) → ((40 ≤ x1) → Post 0 j) ∧ (¬ (40 ≤ x1) → Post 1 j)))
set_option maxRecDepth 100000 in
set_option maxHeartbeats 4000000 in
theorem c_X1_knows (l : Launch) (D : va_G) (E : Nat → ClassId) (ad : Nat → Nat → Nat)  (j : Ob) (x1 : Int32) {Post : Int32 → Ob → Prop} (h : w_X1_knows x1 j Post) : CtI l yX1_knows cX1_knows 2 .boolean ({ frames := 0, cells := 0, slots := 0, locals := 0 } : Room) D E [.ref (ad 1 0), .int (x1)] (List.flatten [bX1 ad E j]) (fun u : Ob => List.flatten [bX1 ad E u]) Post 0 0 := by
  refine enI (by decide +kernel) (Nat.le_of_ble_eq_true rfl) ?_
  intro p e s m args below meth c Q A ls hx hb hml hown hT hK hA hret hh hl
  have hl : lv_has ls 2 [(0, .ref (ad 1 0)), (1, .int (x1))] := hl
  unfold w_X1_knows at h
  refine lv_iload_n hx hb dX1_knows_0 rfl (lv_at hl 1 rfl) ?_
  refine lv_if_lt (tgt := 22) hx hb dX1_knows_1 (by decide) (fun c1 => ?_) (fun c1 => ?_)
  · have h := h.1 c1
    refine lv_iconst (v := 0) hx hb dX1_knows_22 (by decide) ?_
    exact hret _ _ _ _ _ j dX1_knows_23 rfl h hh
  · have h := h.2 c1
    refine lv_iload_n hx hb dX1_knows_4 rfl (lv_at hl 1 rfl) ?_
    refine lv_aload_n hx hb dX1_knows_5 rfl (lv_at hl 0 rfl) ?_
    refine G_X1_17 [] [] hx hb hT hown hK hh (v := j.2.1 1) rfl dX1_knows_6 ?_
    refine lv_icmp_ge (tgt := 22) hx hb dX1_knows_9 (by decide) (fun c2 => ?_) (fun c2 => ?_)
    · have h := h.1 c2
      refine lv_iconst (v := 0) hx hb dX1_knows_22 (by decide) ?_
      exact hret _ _ _ _ _ j dX1_knows_23 rfl h hh
    · have h := h.2 c2
      refine lv_iload_n hx hb dX1_knows_12 rfl (lv_at hl 1 rfl) ?_
      refine lv_bipush (v := 40) hx hb dX1_knows_13 (by decide) ?_
      refine lv_icmp_ge (tgt := 22) hx hb dX1_knows_15 (by decide) (fun c3 => ?_) (fun c3 => ?_)
      · have h := h.1 c3
        refine lv_iconst (v := 0) hx hb dX1_knows_22 (by decide) ?_
        exact hret _ _ _ _ _ j dX1_knows_23 rfl h hh
      · have h := h.2 c3
        refine lv_iconst (v := 1) hx hb dX1_knows_18 (by decide) ?_
        refine lv_goto (tgt := 23) hx hb dX1_knows_19 (by decide) ?_
        exact hret _ _ _ _ _ j dX1_knows_23 rfl h hh

def w_X1_pay  (j : Ob) (Post : Int32 → Ob → Prop) : Prop := ((0 < (j.2.1 2)) → Post 1 ((j.1, (upd j.2.1 2 (((j.2.1 2) - 1))), j.2.2))) ∧ (¬ (0 < (j.2.1 2)) → Post 0 j)
set_option maxRecDepth 100000 in
set_option maxHeartbeats 4000000 in
theorem c_X1_pay (l : Launch) (D : va_G) (E : Nat → ClassId) (ad : Nat → Nat → Nat)  (j : Ob)  {Post : Int32 → Ob → Prop} (h : w_X1_pay  j Post) : CtI l yX1_pay cX1_pay 1 .boolean ({ frames := 0, cells := 0, slots := 0, locals := 0 } : Room) D E [.ref (ad 1 0)] (List.flatten [bX1 ad E j]) (fun u : Ob => List.flatten [bX1 ad E u]) Post 0 0 := by
  refine enI (by decide +kernel) (Nat.le_of_ble_eq_true rfl) ?_
  intro p e s m args below meth c Q A ls hx hb hml hown hT hK hA hret hh hl
  have hl : lv_has ls 1 [(0, .ref (ad 1 0))] := hl
  unfold w_X1_pay at h
  refine lv_aload_n hx hb dX1_pay_0 rfl (lv_at hl 0 rfl) ?_
  refine G_X1_21 [] [] hx hb hT hown hK hh (v := j.2.1 2) rfl dX1_pay_1 ?_
  refine lv_if_gt (tgt := 9) hx hb dX1_pay_4 (by decide) (fun c1 => ?_) (fun c1 => ?_)
  · have h := h.1 c1
    refine lv_aload_n hx hb dX1_pay_9 rfl (lv_at hl 0 rfl) ?_
    refine lv_dup hx hb dX1_pay_10 rfl ?_
    refine G_X1_21 [] [] hx hb hT hown hK hh (v := j.2.1 2) rfl dX1_pay_11 ?_
    refine lv_iconst (v := 1) hx hb dX1_pay_14 (by decide) ?_
    refine lv_isub hx hb dX1_pay_15 ?_
    refine P_X1_21 [] [] hx hb hT hown hK hh dX1_pay_16 (fun H locs (hh : Wh D A s.heap ((List.flatten [bX1 ad E ((j.1, (upd j.2.1 2 (((j.2.1 2) - 1))), j.2.2))])) H locs) => ?_)
    refine lv_iconst (v := 1) hx hb dX1_pay_19 (by decide) ?_
    exact hret _ _ _ _ _ (j.1, (upd j.2.1 2 (((j.2.1 2) - 1))), j.2.2) dX1_pay_20 rfl h hh
  · have h := h.2 c1
    refine lv_iconst (v := 0) hx hb dX1_pay_7 (by decide) ?_
    exact hret _ _ _ _ _ j dX1_pay_8 rfl h hh

def w_X1_combined (ck : Nat → Ob) (x1 : Nat) (j : Ob) (Post : Int32 → Ob → Prop) : Prop := x1 < (j.2.1 1).toNatClampNeg ∧ (w_X1_knows  ((ck x1).2.1 1) j (fun (r2 : Int32) (j_3 : Ob) => (j_3.2.1 1 = j.2.1 1) ∧ (jn (fun J24 : Int32 → Ob → Prop => ((r2 = 0) → J24 0 j_3) ∧ (¬ (r2 = 0) → x1 < (j_3.2.1 1).toNatClampNeg ∧ (vp_in ((ck x1).2.1 1) 40 ∧ (J24 ((j_3.2.2 4) ((ck x1).2.1 1).toNatClampNeg) j_3)))) (fun (z_24 : Int32) (j_24 : Ob) => x1 < (j_24.2.1 1).toNatClampNeg ∧ (((¬ ((ck x1).2.1 0) = 10) → x1 < (j_24.2.1 1).toNatClampNeg ∧ (jn (fun J67 : Int32 → Ob → Prop => ((¬ ((ck x1).2.1 0) = 8) → J67 0 j_24) ∧ ((((ck x1).2.1 0) = 8) → J67 1 j_24)) (fun (z_67 : Int32) (j_67 : Ob) => ((¬ z_24 = z_67) → Post z_24 j_67) ∧ ((z_24 = z_67) → x1 < (j_67.2.1 1).toNatClampNeg ∧ (w_X1_knows  ((ck x1).2.1 2) j_67 (fun (r14 : Int32) (j_15 : Ob) => (j_15.2.1 1 = j_67.2.1 1) ∧ (((r14 = 0) → Post z_24 j_15) ∧ (¬ (r14 = 0) → x1 < (j_15.2.1 1).toNatClampNeg ∧ (vp_in ((ck x1).2.1 2) 40 ∧ (Post ((j_15.2.2 4) ((ck x1).2.1 2).toNatClampNeg) j_15)))))))))) ∧ ((((ck x1).2.1 0) = 10) → ((¬ z_24 = 1) → ((¬ z_24 = 0) → Post z_24 j_24) ∧ ((z_24 = 0) → Post 1 j_24)) ∧ ((z_24 = 1) → Post 0 j_24)))))))
set_option maxRecDepth 100000 in
set_option maxHeartbeats 4000000 in
theorem c_X1_combined (l : Launch) (D : va_G) (E : Nat → ClassId) (ad : Nat → Nat → Nat) (ck : Nat → Ob)  (j : Ob) (x1 : Nat) {Post : Int32 → Ob → Prop} (h : w_X1_combined ck x1 j Post) : CtI l yX1_combined cX1_combined 4 .int ({ frames := 1, cells := 0, slots := 0, locals := 21 } : Room) D E [.ref (ad 1 0), .ref (ad 20 x1)] (List.flatten [bX1 ad E j, dC ad E ck (j.2.1 1).toNatClampNeg]) (fun u : Ob => List.flatten [bX1 ad E u, dC ad E ck (u.2.1 1).toNatClampNeg]) Post 0 0 := by
  refine enI (by decide +kernel) (Nat.le_of_ble_eq_true rfl) ?_
  intro p e s m args below meth c Q A ls hx hb hml hown hT hK hA hret hh hl
  have hl : lv_has ls 4 [(0, .ref (ad 1 0)), (1, .ref (ad 20 x1))] := hl
  unfold w_X1_combined at h
  refine lv_aload_n hx hb dX1_combined_0 rfl (lv_at hl 0 rfl) ?_
  refine lv_aload_n hx hb dX1_combined_1 rfl (lv_at hl 1 rfl) ?_
  obtain ⟨g1, h⟩ := h
  refine DG_X1_50 [_] [] hx hb hT hown hK hh g1 (v := (ck x1).2.1 1) rfl dX1_combined_2 ?_
  have hc := hh.cut [_] [_] [0, 1] 2 rfl (by decide) rfl
  refine kI hc hA (rnV hx hb hml hown hT hK hc (c_X1_knows l D E ad  j ((ck x1).2.1 1) h _) mf_X1_knows kml_X1_42 ⟨rfl, rfl, Nat.le_of_ble_eq_true rfl, Nat.le_of_ble_eq_true rfl⟩ ⟨Nat.le_of_ble_eq_true rfl, Nat.le_of_ble_eq_true rfl⟩ 1 0 rfl rfl hl.1 rfl dX1_combined_5 (Nat.le_of_ble_eq_true rfl) rfl) (fun r2 j_3 H locs h hh => ?_)
  obtain ⟨g4, h⟩ := h
  rw [← g4] at hh
  have hh : Wh D A s.heap ((List.flatten [bX1 ad E j_3, dC ad E ck (j_3.2.1 1).toNatClampNeg])) _ _ := Wh.back (cs := [_]) (rs := [_]) _ [0, 1] 2 rfl (by decide) rfl hh
  refine jn_elim h (fun J24 hJ24 h => ?_)
  have kJ24 : ∀ (z_24 : Int32) (j_24 : Ob) (H : Heap) (locs : List Loc) (ls : Array Slot), J24 z_24 j_24 → Wh D A s.heap ((List.flatten [bX1 ad E j_24, dC ad E ck (j_24.2.1 1).toNatClampNeg])) H locs → lv_has ls 4 [(0, .ref (ad 1 0)), (1, .ref (ad 20 x1))] → W p l e ({ frames := 1, cells := 0, slots := 0, locals := 21 } : Room) s m args below meth c H locs 0 0 Q (F0 m 24 ls [.int (z_24)]) := by
    intro z_24 j_24 H locs ls h hh hl
    rw [hJ24] at h
    refine lv_istore_n (lv' := [(2, .int (z_24)), (0, .ref (ad 1 0)), (1, .ref (ad 20 x1))]) hx hb dX1_combined_24 rfl hl (by decide) rfl (fun ls hl => ?_)
    refine lv_aload_n hx hb dX1_combined_25 rfl (lv_at hl 2 rfl) ?_
    obtain ⟨g8, h⟩ := h
    refine DG_X1_53 [_] [] hx hb hT hown hK hh g8 (v := (ck x1).2.1 0) rfl dX1_combined_26 ?_
    refine lv_bipush (v := 10) hx hb dX1_combined_29 (by decide) ?_
    refine lv_icmp_ne (tgt := 53) hx hb dX1_combined_31 (by decide) (fun c9 => ?_) (fun c9 => ?_)
    · have h := h.1 c9
      refine lv_aload_n hx hb dX1_combined_53 rfl (lv_at hl 2 rfl) ?_
      obtain ⟨g10, h⟩ := h
      refine DG_X1_53 [_] [] hx hb hT hown hK hh g10 (v := (ck x1).2.1 0) rfl dX1_combined_54 ?_
      refine lv_bipush (v := 8) hx hb dX1_combined_57 (by decide) ?_
      refine jn_elim h (fun J67 hJ67 h => ?_)
      have kJ67 : ∀ (z_67 : Int32) (j_67 : Ob) (H : Heap) (locs : List Loc) (ls : Array Slot), J67 z_67 j_67 → Wh D A s.heap ((List.flatten [bX1 ad E j_67, dC ad E ck (j_67.2.1 1).toNatClampNeg])) H locs → lv_has ls 4 [(0, .ref (ad 1 0)), (1, .ref (ad 20 x1)), (2, .int (z_24))] → W p l e ({ frames := 1, cells := 0, slots := 0, locals := 21 } : Room) s m args below meth c H locs 0 0 Q (F0 m 67 ls [.int (z_67)]) := by
        intro z_67 j_67 H locs ls h hh hl
        rw [hJ67] at h
        refine lv_istore_n (lv' := [(3, .int (z_67)), (0, .ref (ad 1 0)), (1, .ref (ad 20 x1)), (2, .int (z_24))]) hx hb dX1_combined_67 rfl hl (by decide) rfl (fun ls hl => ?_)
        refine lv_iload_n hx hb dX1_combined_68 rfl (lv_at hl 3 rfl) ?_
        refine lv_iload_n hx hb dX1_combined_69 rfl (lv_at hl 0 rfl) ?_
        refine lv_icmp_ne (tgt := 96) hx hb dX1_combined_70 (by decide) (fun c12 => ?_) (fun c12 => ?_)
        · have h := h.1 c12
          refine lv_iload_n hx hb dX1_combined_96 rfl (lv_at hl 3 rfl) ?_
          exact hret _ _ _ _ _ j_67 dX1_combined_97 rfl h hh
        · have h := h.2 c12
          refine lv_aload_n hx hb dX1_combined_73 rfl (lv_at hl 1 rfl) ?_
          refine lv_aload_n hx hb dX1_combined_74 rfl (lv_at hl 2 rfl) ?_
          obtain ⟨g13, h⟩ := h
          refine DG_X1_80 [_] [] hx hb hT hown hK hh g13 (v := (ck x1).2.1 2) rfl dX1_combined_75 ?_
          have hc := hh.cut [_] [_] [0, 1] 2 rfl (by decide) rfl
          refine kI hc hA (rnV hx hb hml hown hT hK hc (c_X1_knows l D E ad  j_67 ((ck x1).2.1 2) h _) mf_X1_knows kml_X1_42 ⟨rfl, rfl, Nat.le_of_ble_eq_true rfl, Nat.le_of_ble_eq_true rfl⟩ ⟨Nat.le_of_ble_eq_true rfl, Nat.le_of_ble_eq_true rfl⟩ 1 0 rfl rfl hl.1 rfl dX1_combined_78 (Nat.le_of_ble_eq_true rfl) rfl) (fun r14 j_15 H locs h hh => ?_)
          obtain ⟨g16, h⟩ := h
          rw [← g16] at hh
          have hh : Wh D A s.heap ((List.flatten [bX1 ad E j_15, dC ad E ck (j_15.2.1 1).toNatClampNeg])) _ _ := Wh.back (cs := [_]) (rs := [_]) _ [0, 1] 2 rfl (by decide) rfl hh
          refine lv_if_eq (tgt := 96) hx hb dX1_combined_81 (by decide) (fun c17 => ?_) (fun c17 => ?_)
          · have h := h.1 c17
            refine lv_iload_n hx hb dX1_combined_96 rfl (lv_at hl 3 rfl) ?_
            exact hret _ _ _ _ _ j_15 dX1_combined_97 rfl h hh
          · have h := h.2 c17
            refine lv_aload_n hx hb dX1_combined_84 rfl (lv_at hl 1 rfl) ?_
            refine G_X1_28 [] [_] hx hb hT hown hK hh dX1_combined_85 ?_
            refine lv_aload_n hx hb dX1_combined_88 rfl (lv_at hl 2 rfl) ?_
            obtain ⟨g18, h⟩ := h
            refine DG_X1_80 [_] [] hx hb hT hown hK hh g18 (v := (ck x1).2.1 2) rfl dX1_combined_89 ?_
            obtain ⟨g19, h⟩ := h
            refine A_X1_4 [] [_] hx hb hK hh (v := (j_15.2.2 4) ((ck x1).2.1 2).toNatClampNeg) g19 rfl dX1_combined_92 ?_
            refine lv_goto (tgt := 97) hx hb dX1_combined_93 (by decide) ?_
            exact hret _ _ _ _ _ j_15 dX1_combined_97 rfl h hh
      refine lv_icmp_ne (tgt := 66) hx hb dX1_combined_59 (by decide) (fun c11 => ?_) (fun c11 => ?_)
      · have h := h.1 c11
        refine lv_iconst (v := 0) hx hb dX1_combined_66 (by decide) ?_
        exact kJ67 0 j_24 _ _ _ h hh (lv_sub hl [1, 2, 0] rfl)
      · have h := h.2 c11
        refine lv_iconst (v := 1) hx hb dX1_combined_62 (by decide) ?_
        refine lv_goto (tgt := 67) hx hb dX1_combined_63 (by decide) ?_
        exact kJ67 1 j_24 _ _ _ h hh (lv_sub hl [1, 2, 0] rfl)
    · have h := h.2 c9
      refine lv_iload_n hx hb dX1_combined_34 rfl (lv_at hl 0 rfl) ?_
      refine lv_iconst (v := 1) hx hb dX1_combined_35 (by decide) ?_
      refine lv_icmp_ne (tgt := 43) hx hb dX1_combined_36 (by decide) (fun c20 => ?_) (fun c20 => ?_)
      · have h := h.1 c20
        refine lv_iload_n hx hb dX1_combined_43 rfl (lv_at hl 0 rfl) ?_
        refine lv_if_ne (tgt := 51) hx hb dX1_combined_44 (by decide) (fun c21 => ?_) (fun c21 => ?_)
        · have h := h.1 c21
          refine lv_iload_n hx hb dX1_combined_51 rfl (lv_at hl 0 rfl) ?_
          exact hret _ _ _ _ _ j_24 dX1_combined_52 rfl h hh
        · have h := h.2 c21
          refine lv_iconst (v := 1) hx hb dX1_combined_47 (by decide) ?_
          refine lv_goto (tgt := 52) hx hb dX1_combined_48 (by decide) ?_
          exact hret _ _ _ _ _ j_24 dX1_combined_52 rfl h hh
      · have h := h.2 c20
        refine lv_iconst (v := 0) hx hb dX1_combined_39 (by decide) ?_
        refine lv_goto (tgt := 52) hx hb dX1_combined_40 (by decide) ?_
        exact hret _ _ _ _ _ j_24 dX1_combined_52 rfl h hh
  refine lv_if_eq (tgt := 23) hx hb dX1_combined_8 (by decide) (fun c5 => ?_) (fun c5 => ?_)
  · have h := h.1 c5
    refine lv_iconst (v := 0) hx hb dX1_combined_23 (by decide) ?_
    exact kJ24 0 j_3 _ _ _ h hh (lv_sub hl [0, 1] rfl)
  · have h := h.2 c5
    refine lv_aload_n hx hb dX1_combined_11 rfl (lv_at hl 0 rfl) ?_
    refine G_X1_28 [] [_] hx hb hT hown hK hh dX1_combined_12 ?_
    refine lv_aload_n hx hb dX1_combined_15 rfl (lv_at hl 1 rfl) ?_
    obtain ⟨g6, h⟩ := h
    refine DG_X1_50 [_] [] hx hb hT hown hK hh g6 (v := (ck x1).2.1 1) rfl dX1_combined_16 ?_
    obtain ⟨g7, h⟩ := h
    refine A_X1_4 [] [_] hx hb hK hh (v := (j_3.2.2 4) ((ck x1).2.1 1).toNatClampNeg) g7 rfl dX1_combined_19 ?_
    refine lv_goto (tgt := 24) hx hb dX1_combined_20 (by decide) ?_
    exact kJ24 ((j_3.2.2 4) ((ck x1).2.1 1).toNatClampNeg) j_3 _ _ _ h hh (lv_sub hl [0, 1] rfl)

def w_X1_markWanted_L2 (ck : Nat → Ob) (f1_2 : Int32) (K20_2 : Ob → Prop) (Post : Ob → Prop) : Nat → Int32 → Ob → Prop
  | 0, _, _ => False
  | n2 + 1, p2_2, j_2 => ((f1_2 ≤ p2_2) → K20_2 j_2) ∧ (¬ (f1_2 ≤ p2_2) → vp_in p2_2 40 ∧ (w_X1_markWanted_L2 ck f1_2 K20_2 Post n2 (p2_2 + 1) ((j_2.1, j_2.2.1, (sa j_2.2.2 3 (upd (j_2.2.2 3) p2_2.toNatClampNeg (0 : Int32)))))))
def w_X1_markWanted_L29 (ck : Nat → Ob)   (Post : Ob → Prop) : Nat → Int32 → Ob → Prop
  | 0, _, _ => False
  | n29 + 1, p2_29, j_29 => ((p2_29 < 0) → Post j_29) ∧ (¬ (p2_29 < 0) → vp_in p2_29 40 ∧ ((p2_29.toNatClampNeg < (j_29.2.1 1).toNatClampNeg → vp_in p2_29 40 ∧ (jn (fun J112 : Ob → Prop => ((((j_29.2.2 3) p2_29.toNatClampNeg) = 0) → J112 j_29) ∧ (¬ (((j_29.2.2 3) p2_29.toNatClampNeg) = 0) → (p2_29.toNatClampNeg) < (j_29.2.1 1).toNatClampNeg ∧ w_X0_asksFirst  (ck ((p2_29.toNatClampNeg))) (fun (r9 : Int32) (o12 : Ob) => o12 = ck ((p2_29.toNatClampNeg)) ∧ (jn (fun J84 : Ob → Prop => ((r9 = 0) → J84 j_29) ∧ (¬ (r9 = 0) → (p2_29.toNatClampNeg) < (j_29.2.1 1).toNatClampNeg ∧ (w_X1_knows  ((ck ((p2_29.toNatClampNeg))).2.1 1) j_29 (fun (r15 : Int32) (j_16 : Ob) => (j_16.2.1 1 = j_29.2.1 1) ∧ (((r15 = 0) → J84 j_16) ∧ (¬ (r15 = 0) → (p2_29.toNatClampNeg) < (j_16.2.1 1).toNatClampNeg ∧ (vp_in ((ck ((p2_29.toNatClampNeg))).2.1 1) 40 ∧ (J84 ((j_16.1, j_16.2.1, (sa j_16.2.2 3 (upd (j_16.2.2 3) ((ck ((p2_29.toNatClampNeg))).2.1 1).toNatClampNeg (1 : Int32))))))))))))) (fun (j_84 : Ob) => (p2_29.toNatClampNeg) < (j_84.2.1 1).toNatClampNeg ∧ w_X0_asksSecond  (ck ((p2_29.toNatClampNeg))) (fun (r21 : Int32) (o24 : Ob) => o24 = ck ((p2_29.toNatClampNeg)) ∧ (((r21 = 0) → J112 j_84) ∧ (¬ (r21 = 0) → (p2_29.toNatClampNeg) < (j_84.2.1 1).toNatClampNeg ∧ (w_X1_knows  ((ck ((p2_29.toNatClampNeg))).2.1 2) j_84 (fun (r27 : Int32) (j_28 : Ob) => (j_28.2.1 1 = j_84.2.1 1) ∧ (((r27 = 0) → J112 j_28) ∧ (¬ (r27 = 0) → (p2_29.toNatClampNeg) < (j_28.2.1 1).toNatClampNeg ∧ (vp_in ((ck ((p2_29.toNatClampNeg))).2.1 2) 40 ∧ (J112 ((j_28.1, j_28.2.1, (sa j_28.2.2 3 (upd (j_28.2.2 3) ((ck ((p2_29.toNatClampNeg))).2.1 2).toNatClampNeg (1 : Int32))))))))))))))))))) (fun (j_112 : Ob) => w_X1_markWanted_L29 ck   Post n29 (p2_29 + (-1)) j_112))) ∧ (¬ p2_29.toNatClampNeg < (j_29.2.1 1).toNatClampNeg → vp_in p2_29 40 ∧ (jn (fun J112 : Ob → Prop => ((((j_29.2.2 3) p2_29.toNatClampNeg) = 0) → J112 j_29) ∧ (¬ (((j_29.2.2 3) p2_29.toNatClampNeg) = 0) → J112 j_29)) (fun (j_112 : Ob) => w_X1_markWanted_L29 ck   Post n29 (p2_29 + (-1)) j_112)))))
def w_X1_markWanted (ck : Nat → Ob) (x1 : Int32) (j : Ob) (Post : Ob → Prop) : Prop := ∃ n2, w_X1_markWanted_L2 ck x1 (fun (j_k20 : Ob) => vp_in x1 40 ∧ (∃ n29, w_X1_markWanted_L29 ck   Post n29 x1 ((j_k20.1, j_k20.2.1, (sa j_k20.2.2 3 (upd (j_k20.2.2 3) x1.toNatClampNeg (1 : Int32))))))) Post n2 0 j
set_option maxRecDepth 100000 in
set_option maxHeartbeats 4000000 in
theorem c_X1_markWanted (l : Launch) (D : va_G) (E : Nat → ClassId) (ad : Nat → Nat → Nat) (ck : Nat → Ob)  (j : Ob) (x1 : Int32) {Post : Ob → Prop} (h : w_X1_markWanted ck x1 j Post) : CtV l yX1_markWanted cX1_markWanted 4 ({ frames := 1, cells := 0, slots := 0, locals := 21 } : Room) D E [.ref (ad 1 0), .int (x1)] (List.flatten [bX1 ad E j, dC ad E ck (j.2.1 1).toNatClampNeg]) (fun u : Ob => List.flatten [bX1 ad E u, dC ad E ck (u.2.1 1).toNatClampNeg]) Post 0 0 := by
  refine enV (by decide +kernel) (Nat.le_of_ble_eq_true rfl) ?_
  intro p e s m args below meth c Q A ls hx hb hml hown hT hK hA hin0 hret hh hl
  have hl : lv_has ls 4 [(0, .ref (ad 1 0)), (1, .int (x1))] := hl
  unfold w_X1_markWanted at h
  refine lv_iconst (v := 0) hx hb dX1_markWanted_0 (by decide) ?_
  refine lv_istore_n (lv' := [(2, .int (0)), (0, .ref (ad 1 0)), (1, .int (x1))]) hx hb dX1_markWanted_1 rfl hl (by decide) rfl (fun ls hl => ?_)
  have hw2 : ∀ (K20_2 : Ob → Prop) (hK20_2 : ∀ (j_k20 : Ob) (H : Heap) (locs : List Loc) (ls : Array Slot), K20_2 j_k20 → Wh D A s.heap ((List.flatten [bX1 ad E j_k20, dC ad E ck (j_k20.2.1 1).toNatClampNeg])) H locs → lv_has ls 4 [(0, .ref (ad 1 0)), (1, .int (x1))] → W p l e ({ frames := 1, cells := 0, slots := 0, locals := 21 } : Room) s m args below meth c H locs 0 0 Q (F0 m 20 ls [])) (n : Nat) (p2_2 : Int32) (j_2 : Ob) (H : Heap) (locs : List Loc) (ls : Array Slot), w_X1_markWanted_L2 ck x1 K20_2 Post n p2_2 j_2 → Wh D A s.heap ((List.flatten [bX1 ad E j_2, dC ad E ck (j_2.2.1 1).toNatClampNeg])) H locs → lv_has ls 4 [(0, .ref (ad 1 0)), (1, .int (x1)), (2, .int (p2_2))] → W p l e ({ frames := 1, cells := 0, slots := 0, locals := 21 } : Room) s m args below meth c H locs 0 0 Q (F0 m 2 ls []) := by
    intro K20_2 hK20_2 n
    induction n with
    | zero => intro p2_2 j_2 H locs ls h hh hl; exact False.elim h
    | succ n ih =>
      intro p2_2 j_2 H locs ls h hh hl
      refine lv_iload_n hx hb dX1_markWanted_2 rfl (lv_at hl 2 rfl) ?_
      refine lv_iload_n hx hb dX1_markWanted_3 rfl (lv_at hl 1 rfl) ?_
      refine lv_icmp_ge (tgt := 20) hx hb dX1_markWanted_4 (by decide) (fun c1 => ?_) (fun c1 => ?_)
      · have h := h.1 c1
        exact hK20_2 j_2 _ _ _ h hh (lv_sub hl [0, 1] rfl)
      · have h := h.2 c1
        refine lv_aload_n hx hb dX1_markWanted_7 rfl (lv_at hl 0 rfl) ?_
        refine G_X1_24 [] [_] hx hb hT hown hK hh dX1_markWanted_8 ?_
        refine lv_iload_n hx hb dX1_markWanted_11 rfl (lv_at hl 2 rfl) ?_
        refine lv_iconst (v := 0) hx hb dX1_markWanted_12 (by decide) ?_
        obtain ⟨g2, h⟩ := h
        refine S_X1_3 [] [_] hx hb hK hh g2 (by decide) dX1_markWanted_13 (fun H locs (hh : Wh D A s.heap ((List.flatten [bX1 ad E ((j_2.1, j_2.2.1, (sa j_2.2.2 3 (upd (j_2.2.2 3) p2_2.toNatClampNeg (0 : Int32))))), dC ad E ck (j_2.2.1 1).toNatClampNeg])) H locs) => ?_)
        refine lv_iinc (v := p2_2 + 1) (lv' := [(2, .int (p2_2 + 1)), (0, .ref (ad 1 0)), (1, .int (x1))]) hx hb dX1_markWanted_14 hl (k := 2) rfl (by rfl) (by decide) rfl (fun ls hl => ?_)
        refine lv_goto (tgt := 2) hx hb dX1_markWanted_17 (by decide) ?_
        exact ih (p2_2 + 1) ((j_2.1, j_2.2.1, (sa j_2.2.2 3 (upd (j_2.2.2 3) p2_2.toNatClampNeg (0 : Int32))))) _ _ _ h hh (lv_sub hl [1, 2, 0] rfl)
  obtain ⟨n, h⟩ := h
  refine hw2 _ (fun j_k20 H locs ls h hh hl => ?_) n 0 j _ _ _ h hh (lv_sub hl [1, 2, 0] rfl)
  refine lv_aload_n hx hb dX1_markWanted_20 rfl (lv_at hl 0 rfl) ?_
  refine G_X1_24 [] [_] hx hb hT hown hK hh dX1_markWanted_21 ?_
  refine lv_iload_n hx hb dX1_markWanted_24 rfl (lv_at hl 1 rfl) ?_
  refine lv_iconst (v := 1) hx hb dX1_markWanted_25 (by decide) ?_
  obtain ⟨g3, h⟩ := h
  refine S_X1_3 [] [_] hx hb hK hh g3 (by decide) dX1_markWanted_26 (fun H locs (hh : Wh D A s.heap ((List.flatten [bX1 ad E ((j_k20.1, j_k20.2.1, (sa j_k20.2.2 3 (upd (j_k20.2.2 3) x1.toNatClampNeg (1 : Int32))))), dC ad E ck (j_k20.2.1 1).toNatClampNeg])) H locs) => ?_)
  refine lv_iload_n hx hb dX1_markWanted_27 rfl (lv_at hl 1 rfl) ?_
  refine lv_istore_n (lv' := [(2, .int (x1)), (0, .ref (ad 1 0)), (1, .int (x1))]) hx hb dX1_markWanted_28 rfl hl (by decide) rfl (fun ls hl => ?_)
  have hw29 : ∀   (n : Nat) (p2_29 : Int32) (j_29 : Ob) (H : Heap) (locs : List Loc) (ls : Array Slot), w_X1_markWanted_L29 ck   Post n p2_29 j_29 → Wh D A s.heap ((List.flatten [bX1 ad E j_29, dC ad E ck (j_29.2.1 1).toNatClampNeg])) H locs → lv_has ls 4 [(0, .ref (ad 1 0)), (2, .int (p2_29))] → W p l e ({ frames := 1, cells := 0, slots := 0, locals := 21 } : Room) s m args below meth c H locs 0 0 Q (F0 m 29 ls []) := by
    intro   n
    induction n with
    | zero => intro p2_29 j_29 H locs ls h hh hl; exact False.elim h
    | succ n ih =>
      intro p2_29 j_29 H locs ls h hh hl
      refine lv_iload_n hx hb dX1_markWanted_29 rfl (lv_at hl 1 rfl) ?_
      refine lv_if_lt (tgt := 118) hx hb dX1_markWanted_30 (by decide) (fun c4 => ?_) (fun c4 => ?_)
      · have h := h.1 c4
        exact hret _ _ _ _ j_29 dX1_markWanted_118 h hh
      · have h := h.2 c4
        refine lv_aload_n hx hb dX1_markWanted_33 rfl (lv_at hl 0 rfl) ?_
        refine G_X1_11 [] [_] hx hb hT hown hK hh dX1_markWanted_34 ?_
        refine lv_iload_n hx hb dX1_markWanted_37 rfl (lv_at hl 1 rfl) ?_
        obtain ⟨g5, h⟩ := h
        refine Q_X1 [] [_] hx hb hK hh g5 dX1_markWanted_38 (fun c6 => ?_) (fun c6 => ?_)
        · have h := h.1 c6
          refine lv_astore_n (lv' := [(3, .ref (ad 20 (p2_29.toNatClampNeg))), (0, .ref (ad 1 0)), (2, .int (p2_29))]) hx hb dX1_markWanted_39 rfl hl (by decide) rfl (fun ls hl => ?_)
          refine lv_aload_n hx hb dX1_markWanted_40 rfl (lv_at hl 1 rfl) ?_
          refine G_X1_24 [] [_] hx hb hT hown hK hh dX1_markWanted_41 ?_
          refine lv_iload_n hx hb dX1_markWanted_44 rfl (lv_at hl 2 rfl) ?_
          obtain ⟨g7, h⟩ := h
          refine A_X1_3 [] [_] hx hb hK hh (v := (j_29.2.2 3) p2_29.toNatClampNeg) g7 rfl dX1_markWanted_45 ?_
          refine jn_elim h (fun J112 hJ112 h => ?_)
          have kJ112 : ∀ (j_112 : Ob) (H : Heap) (locs : List Loc) (ls : Array Slot), J112 j_112 → Wh D A s.heap ((List.flatten [bX1 ad E j_112, dC ad E ck (j_112.2.1 1).toNatClampNeg])) H locs → lv_has ls 4 [(0, .ref (ad 1 0)), (2, .int (p2_29))] → W p l e ({ frames := 1, cells := 0, slots := 0, locals := 21 } : Room) s m args below meth c H locs 0 0 Q (F0 m 112 ls []) := by
            intro j_112 H locs ls h hh hl
            rw [hJ112] at h
            refine lv_iinc (v := p2_29 + (-1)) (lv' := [(2, .int (p2_29 + (-1))), (0, .ref (ad 1 0))]) hx hb dX1_markWanted_112 hl (k := 1) rfl (by rfl) (by decide) rfl (fun ls hl => ?_)
            refine lv_goto (tgt := 29) hx hb dX1_markWanted_115 (by decide) ?_
            exact ih (p2_29 + (-1)) j_112 _ _ _ h hh (lv_sub hl [1, 0] rfl)
          refine lv_if_eq (tgt := 112) hx hb dX1_markWanted_46 (by decide) (fun c8 => ?_) (fun c8 => ?_)
          · have h := h.1 c8
            exact kJ112 j_29 _ _ _ h hh (lv_sub hl [1, 2] rfl)
          · have h := h.2 c8
            refine lv_aload_n hx hb dX1_markWanted_49 rfl (lv_at hl 0 rfl) ?_
            refine lv_ifnonnull (tgt := 56) hx hb dX1_markWanted_50 (by decide) ?_
            refine lv_aload_n hx hb dX1_markWanted_56 rfl (lv_at hl 0 rfl) ?_
            obtain ⟨g10, h⟩ := h
            have hc := dyn_out [_] [] g10 hh
            refine kI hc hA (rnVN hx hb hml hown hT hK hc (c_X0_asksFirst l D E (fun _ => ad 20 ((p2_29.toNatClampNeg))) (ck ((p2_29.toNatClampNeg)))  h _) mf_X0_asksFirst nml_X1_91 ⟨rfl, rfl, Nat.le_of_ble_eq_true rfl, Nat.le_of_ble_eq_true rfl⟩ ⟨Nat.le_of_ble_eq_true rfl, Nat.le_of_ble_eq_true rfl⟩ 0 0 rfl rfl hl.1 rfl dX1_markWanted_57 (Nat.le_of_ble_eq_true rfl) rfl) (fun r9 o12 H locs h hh => ?_)
            obtain ⟨g11, h⟩ := h
            subst g11
            have hh : Wh D A s.heap ((List.flatten [bX1 ad E j_29, dC ad E ck (j_29.2.1 1).toNatClampNeg])) _ _ := dyn_in [_] [] g10 hh
            refine jn_elim h (fun J84 hJ84 h => ?_)
            have kJ84 : ∀ (j_84 : Ob) (H : Heap) (locs : List Loc) (ls : Array Slot), J84 j_84 → Wh D A s.heap ((List.flatten [bX1 ad E j_84, dC ad E ck (j_84.2.1 1).toNatClampNeg])) H locs → lv_has ls 4 [(0, .ref (ad 1 0)), (2, .int (p2_29)), (3, .ref (ad 20 (p2_29.toNatClampNeg)))] → W p l e ({ frames := 1, cells := 0, slots := 0, locals := 21 } : Room) s m args below meth c H locs 0 0 Q (F0 m 84 ls []) := by
              intro j_84 H locs ls h hh hl
              rw [hJ84] at h
              refine lv_aload_n hx hb dX1_markWanted_84 rfl (lv_at hl 2 rfl) ?_
              obtain ⟨g22, h⟩ := h
              have hc := dyn_out [_] [] g22 hh
              refine kI hc hA (rnVN hx hb hml hown hT hK hc (c_X0_asksSecond l D E (fun _ => ad 20 ((p2_29.toNatClampNeg))) (ck ((p2_29.toNatClampNeg)))  h _) mf_X0_asksSecond nml_X1_94 ⟨rfl, rfl, Nat.le_of_ble_eq_true rfl, Nat.le_of_ble_eq_true rfl⟩ ⟨Nat.le_of_ble_eq_true rfl, Nat.le_of_ble_eq_true rfl⟩ 0 0 rfl rfl hl.1 rfl dX1_markWanted_85 (Nat.le_of_ble_eq_true rfl) rfl) (fun r21 o24 H locs h hh => ?_)
              obtain ⟨g23, h⟩ := h
              subst g23
              have hh : Wh D A s.heap ((List.flatten [bX1 ad E j_84, dC ad E ck (j_84.2.1 1).toNatClampNeg])) _ _ := dyn_in [_] [] g22 hh
              refine lv_if_eq (tgt := 112) hx hb dX1_markWanted_88 (by decide) (fun c25 => ?_) (fun c25 => ?_)
              · have h := h.1 c25
                exact kJ112 j_84 _ _ _ h hh (lv_sub hl [0, 1] rfl)
              · have h := h.2 c25
                refine lv_aload_n hx hb dX1_markWanted_91 rfl (lv_at hl 0 rfl) ?_
                refine lv_aload_n hx hb dX1_markWanted_92 rfl (lv_at hl 2 rfl) ?_
                obtain ⟨g26, h⟩ := h
                refine DG_X1_80 [_] [] hx hb hT hown hK hh g26 (v := (ck ((p2_29.toNatClampNeg))).2.1 2) rfl dX1_markWanted_93 ?_
                have hc := hh.cut [_] [_] [0, 1] 2 rfl (by decide) rfl
                refine kI hc hA (rnV hx hb hml hown hT hK hc (c_X1_knows l D E ad  j_84 ((ck ((p2_29.toNatClampNeg))).2.1 2) h _) mf_X1_knows kml_X1_42 ⟨rfl, rfl, Nat.le_of_ble_eq_true rfl, Nat.le_of_ble_eq_true rfl⟩ ⟨Nat.le_of_ble_eq_true rfl, Nat.le_of_ble_eq_true rfl⟩ 1 0 rfl rfl hl.1 rfl dX1_markWanted_96 (Nat.le_of_ble_eq_true rfl) rfl) (fun r27 j_28 H locs h hh => ?_)
                obtain ⟨g29, h⟩ := h
                rw [← g29] at hh
                have hh : Wh D A s.heap ((List.flatten [bX1 ad E j_28, dC ad E ck (j_28.2.1 1).toNatClampNeg])) _ _ := Wh.back (cs := [_]) (rs := [_]) _ [0, 1] 2 rfl (by decide) rfl hh
                refine lv_if_eq (tgt := 112) hx hb dX1_markWanted_99 (by decide) (fun c30 => ?_) (fun c30 => ?_)
                · have h := h.1 c30
                  exact kJ112 j_28 _ _ _ h hh (lv_sub hl [0, 1] rfl)
                · have h := h.2 c30
                  refine lv_aload_n hx hb dX1_markWanted_102 rfl (lv_at hl 0 rfl) ?_
                  refine G_X1_24 [] [_] hx hb hT hown hK hh dX1_markWanted_103 ?_
                  refine lv_aload_n hx hb dX1_markWanted_106 rfl (lv_at hl 2 rfl) ?_
                  obtain ⟨g31, h⟩ := h
                  refine DG_X1_80 [_] [] hx hb hT hown hK hh g31 (v := (ck ((p2_29.toNatClampNeg))).2.1 2) rfl dX1_markWanted_107 ?_
                  refine lv_iconst (v := 1) hx hb dX1_markWanted_110 (by decide) ?_
                  obtain ⟨g32, h⟩ := h
                  refine S_X1_3 [] [_] hx hb hK hh g32 (by decide) dX1_markWanted_111 (fun H locs (hh : Wh D A s.heap ((List.flatten [bX1 ad E ((j_28.1, j_28.2.1, (sa j_28.2.2 3 (upd (j_28.2.2 3) ((ck ((p2_29.toNatClampNeg))).2.1 2).toNatClampNeg (1 : Int32))))), dC ad E ck (j_28.2.1 1).toNatClampNeg])) H locs) => ?_)
                  exact kJ112 ((j_28.1, j_28.2.1, (sa j_28.2.2 3 (upd (j_28.2.2 3) ((ck ((p2_29.toNatClampNeg))).2.1 2).toNatClampNeg (1 : Int32))))) _ _ _ h hh (lv_sub hl [0, 1] rfl)
            refine lv_if_eq (tgt := 84) hx hb dX1_markWanted_60 (by decide) (fun c13 => ?_) (fun c13 => ?_)
            · have h := h.1 c13
              exact kJ84 j_29 _ _ _ h hh (lv_sub hl [1, 2, 0] rfl)
            · have h := h.2 c13
              refine lv_aload_n hx hb dX1_markWanted_63 rfl (lv_at hl 1 rfl) ?_
              refine lv_aload_n hx hb dX1_markWanted_64 rfl (lv_at hl 0 rfl) ?_
              obtain ⟨g14, h⟩ := h
              refine DG_X1_50 [_] [] hx hb hT hown hK hh g14 (v := (ck ((p2_29.toNatClampNeg))).2.1 1) rfl dX1_markWanted_65 ?_
              have hc := hh.cut [_] [_] [0, 1] 2 rfl (by decide) rfl
              refine kI hc hA (rnV hx hb hml hown hT hK hc (c_X1_knows l D E ad  j_29 ((ck ((p2_29.toNatClampNeg))).2.1 1) h _) mf_X1_knows kml_X1_42 ⟨rfl, rfl, Nat.le_of_ble_eq_true rfl, Nat.le_of_ble_eq_true rfl⟩ ⟨Nat.le_of_ble_eq_true rfl, Nat.le_of_ble_eq_true rfl⟩ 1 0 rfl rfl hl.1 rfl dX1_markWanted_68 (Nat.le_of_ble_eq_true rfl) rfl) (fun r15 j_16 H locs h hh => ?_)
              obtain ⟨g17, h⟩ := h
              rw [← g17] at hh
              have hh : Wh D A s.heap ((List.flatten [bX1 ad E j_16, dC ad E ck (j_16.2.1 1).toNatClampNeg])) _ _ := Wh.back (cs := [_]) (rs := [_]) _ [0, 1] 2 rfl (by decide) rfl hh
              refine lv_if_eq (tgt := 84) hx hb dX1_markWanted_71 (by decide) (fun c18 => ?_) (fun c18 => ?_)
              · have h := h.1 c18
                exact kJ84 j_16 _ _ _ h hh (lv_sub hl [1, 2, 0] rfl)
              · have h := h.2 c18
                refine lv_aload_n hx hb dX1_markWanted_74 rfl (lv_at hl 1 rfl) ?_
                refine G_X1_24 [] [_] hx hb hT hown hK hh dX1_markWanted_75 ?_
                refine lv_aload_n hx hb dX1_markWanted_78 rfl (lv_at hl 0 rfl) ?_
                obtain ⟨g19, h⟩ := h
                refine DG_X1_50 [_] [] hx hb hT hown hK hh g19 (v := (ck ((p2_29.toNatClampNeg))).2.1 1) rfl dX1_markWanted_79 ?_
                refine lv_iconst (v := 1) hx hb dX1_markWanted_82 (by decide) ?_
                obtain ⟨g20, h⟩ := h
                refine S_X1_3 [] [_] hx hb hK hh g20 (by decide) dX1_markWanted_83 (fun H locs (hh : Wh D A s.heap ((List.flatten [bX1 ad E ((j_16.1, j_16.2.1, (sa j_16.2.2 3 (upd (j_16.2.2 3) ((ck ((p2_29.toNatClampNeg))).2.1 1).toNatClampNeg (1 : Int32))))), dC ad E ck (j_16.2.1 1).toNatClampNeg])) H locs) => ?_)
                exact kJ84 ((j_16.1, j_16.2.1, (sa j_16.2.2 3 (upd (j_16.2.2 3) ((ck ((p2_29.toNatClampNeg))).2.1 1).toNatClampNeg (1 : Int32))))) _ _ _ h hh (lv_sub hl [1, 2, 0] rfl)
        · have h := h.2 c6
          refine lv_astore_nN (lv' := [(3, .null), (0, .ref (ad 1 0)), (2, .int (p2_29))]) hx hb dX1_markWanted_39 rfl hl (by decide) rfl (fun ls hl => ?_)
          refine lv_aload_n hx hb dX1_markWanted_40 rfl (lv_at hl 1 rfl) ?_
          refine G_X1_24 [] [_] hx hb hT hown hK hh dX1_markWanted_41 ?_
          refine lv_iload_n hx hb dX1_markWanted_44 rfl (lv_at hl 2 rfl) ?_
          obtain ⟨g33, h⟩ := h
          refine A_X1_3 [] [_] hx hb hK hh (v := (j_29.2.2 3) p2_29.toNatClampNeg) g33 rfl dX1_markWanted_45 ?_
          refine jn_elim h (fun J112 hJ112 h => ?_)
          have kJ112 : ∀ (j_112 : Ob) (H : Heap) (locs : List Loc) (ls : Array Slot), J112 j_112 → Wh D A s.heap ((List.flatten [bX1 ad E j_112, dC ad E ck (j_112.2.1 1).toNatClampNeg])) H locs → lv_has ls 4 [(0, .ref (ad 1 0)), (2, .int (p2_29))] → W p l e ({ frames := 1, cells := 0, slots := 0, locals := 21 } : Room) s m args below meth c H locs 0 0 Q (F0 m 112 ls []) := by
            intro j_112 H locs ls h hh hl
            rw [hJ112] at h
            refine lv_iinc (v := p2_29 + (-1)) (lv' := [(2, .int (p2_29 + (-1))), (0, .ref (ad 1 0))]) hx hb dX1_markWanted_112 hl (k := 1) rfl (by rfl) (by decide) rfl (fun ls hl => ?_)
            refine lv_goto (tgt := 29) hx hb dX1_markWanted_115 (by decide) ?_
            exact ih (p2_29 + (-1)) j_112 _ _ _ h hh (lv_sub hl [1, 0] rfl)
          refine lv_if_eq (tgt := 112) hx hb dX1_markWanted_46 (by decide) (fun c34 => ?_) (fun c34 => ?_)
          · have h := h.1 c34
            exact kJ112 j_29 _ _ _ h hh (lv_sub hl [1, 2] rfl)
          · have h := h.2 c34
            refine lv_aload_nN hx hb dX1_markWanted_49 rfl (lv_at hl 0 rfl) ?_
            refine lv_ifnonnullN hx hb dX1_markWanted_50 ?_
            refine lv_goto (tgt := 112) hx hb dX1_markWanted_53 (by decide) ?_
            exact kJ112 j_29 _ _ _ h hh (lv_sub hl [1, 2] rfl)
  obtain ⟨n, h⟩ := h
  refine hw29   n x1 ((j_k20.1, j_k20.2.1, (sa j_k20.2.2 3 (upd (j_k20.2.2 3) x1.toNatClampNeg (1 : Int32))))) _ _ _ h hh (lv_sub hl [1, 0] rfl)

def w_X1_goesWithModel_L21   (Post : Int32 → Ob → Ob → Ob → Ob → Prop) : Nat → Int32 → Ob → Ob → Ob → Ob → Prop
  | 0, _, _, _, _, _ => False
  | n21 + 1, p4_21, j_21, mc_21, md_21, lv_21 => w_X2_acts   lv_21 (fun (r5 : Int32) (lv_6 : Ob) => ((r5 ≤ p4_21) → Post 1 j_21 mc_21 md_21 lv_6) ∧ (¬ (r5 ≤ p4_21) → w_X2_act  p4_21 lv_6 (fun (r8 : Int32) (lv_9 : Ob) => w_X2_number  p4_21 lv_9 (fun (r10 : Int32) (lv_11 : Ob) => w_X3_answer  r8 r10 mc_21 (fun (r12 : Int32) (mc_13 : Ob) => (((mc_13.2.1 4) = 0) → w_X2_act  p4_21 lv_11 (fun (r15 : Int32) (lv_16 : Ob) => w_X2_number  p4_21 lv_16 (fun (r17 : Int32) (lv_18 : Ob) => w_X3_answer  r15 r17 md_21 (fun (r19 : Int32) (md_20 : Ob) => ((r12 = r19) → w_X1_goesWithModel_L21   Post n21 (p4_21 + 1) j_21 mc_13 md_20 lv_18) ∧ (¬ (r12 = r19) → Post 0 j_21 mc_13 md_20 lv_18))))) ∧ (¬ ((mc_13.2.1 4) = 0) → Post ((-3)) j_21 mc_13 md_21 lv_11))))))
def w_X1_goesWithModel (x1 : Int32) (x2 : Int32) (j : Ob) (mc : Ob) (md : Ob) (lv : Ob) (Post : Int32 → Ob → Ob → Ob → Ob → Prop) : Prop := w_X3_start  x1 x2 mc (fun (mc_2 : Ob) => w_X3_start  x1 (0 : Int32) md (fun (md_4 : Ob) => ∃ n21, w_X1_goesWithModel_L21   Post n21 0 j mc_2 md_4 lv))
set_option maxRecDepth 100000 in
set_option maxHeartbeats 4000000 in
theorem c_X1_goesWithModel (l : Launch) (D : va_G) (E : Nat → ClassId) (ad : Nat → Nat → Nat) (a2 : Nat → Nat)  (j : Ob) (mc : Ob) (md : Ob) (lv : Ob) (x1 : Int32) (x2 : Int32) {Post : Int32 → Ob → Ob → Ob → Ob → Prop} (h : w_X1_goesWithModel x1 x2 j mc md lv Post) : CtI l yX1_goesWithModel cX1_goesWithModel 6 .int ({ frames := 2, cells := 0, slots := 0, locals := 46 } : Room) D E [.ref (ad 1 0), .int (x1), .int (x2), .ref (a2 0)] (List.flatten [bX1 ad E j, bX3 (ad 2) E mc, bX3 (ad 3) E md, bX2 a2 E lv]) (fun u : Ob × Ob × Ob × Ob => List.flatten [bX1 ad E u.1, bX3 (ad 2) E u.2.1, bX3 (ad 3) E u.2.2.1, bX2 a2 E u.2.2.2]) (fun (r : Int32) (u : Ob × Ob × Ob × Ob) => Post r u.1 u.2.1 u.2.2.1 u.2.2.2) 0 0 := by
  refine enI (by decide +kernel) (Nat.le_of_ble_eq_true rfl) ?_
  intro p e s m args below meth c Q A ls hx hb hml hown hT hK hA hret hh hl
  have hl : lv_has ls 6 [(0, .ref (ad 1 0)), (1, .int (x1)), (2, .int (x2)), (3, .ref (a2 0))] := hl
  unfold w_X1_goesWithModel at h
  refine lv_aload_n hx hb dX1_goesWithModel_0 rfl (lv_at hl 0 rfl) ?_
  refine G_X1_35 [] [_, _, _] hx hb hT hown hK hh dX1_goesWithModel_1 ?_
  refine lv_iload_n hx hb dX1_goesWithModel_4 rfl (lv_at hl 1 rfl) ?_
  refine lv_iload_n hx hb dX1_goesWithModel_5 rfl (lv_at hl 2 rfl) ?_
  have hc := hh.cut [_] [_, _, _] [1, 0, 2, 3] 4 rfl (by decide) rfl
  refine kV hc hA (rnVN hx hb hml hown hT hK hc (c_X3_start l D E (ad 2)  mc x1 x2 h _) mf_X3_start nml_X1_97 ⟨rfl, rfl, Nat.le_of_ble_eq_true rfl, Nat.le_of_ble_eq_true rfl⟩ ⟨Nat.le_of_ble_eq_true rfl, Nat.le_of_ble_eq_true rfl⟩ 3 0 rfl rfl hl.1 rfl dX1_goesWithModel_6 (Nat.le_of_ble_eq_true rfl) rfl) (fun mc_2 H locs h hh => ?_)
  have hh : Wh D A s.heap ((List.flatten [bX1 ad E j, bX3 (ad 2) E mc_2, bX3 (ad 3) E md, bX2 a2 E lv])) _ _ := Wh.back (cs := [_]) (rs := [_, _, _]) _ [1, 0, 2, 3] 4 rfl (by decide) rfl hh
  refine lv_aload_n hx hb dX1_goesWithModel_9 rfl (lv_at hl 0 rfl) ?_
  refine G_X1_39 [] [_, _, _] hx hb hT hown hK hh dX1_goesWithModel_10 ?_
  refine lv_iload_n hx hb dX1_goesWithModel_13 rfl (lv_at hl 1 rfl) ?_
  refine lv_iconst (v := 0) hx hb dX1_goesWithModel_14 (by decide) ?_
  have hc := hh.cut [_] [_, _, _] [2, 0, 1, 3] 4 rfl (by decide) rfl
  refine kV hc hA (rnVN hx hb hml hown hT hK hc (c_X3_start l D E (ad 3)  md x1 (0 : Int32) h _) mf_X3_start nml_X1_97 ⟨rfl, rfl, Nat.le_of_ble_eq_true rfl, Nat.le_of_ble_eq_true rfl⟩ ⟨Nat.le_of_ble_eq_true rfl, Nat.le_of_ble_eq_true rfl⟩ 3 0 rfl rfl hl.1 rfl dX1_goesWithModel_15 (Nat.le_of_ble_eq_true rfl) rfl) (fun md_4 H locs h hh => ?_)
  have hh : Wh D A s.heap ((List.flatten [bX1 ad E j, bX3 (ad 2) E mc_2, bX3 (ad 3) E md_4, bX2 a2 E lv])) _ _ := Wh.back (cs := [_]) (rs := [_, _, _]) _ [1, 2, 0, 3] 4 rfl (by decide) rfl hh
  refine lv_iconst (v := 0) hx hb dX1_goesWithModel_18 (by decide) ?_
  refine lv_istore (lv' := [(4, .int (0)), (0, .ref (ad 1 0)), (1, .int (x1)), (2, .int (x2)), (3, .ref (a2 0))]) hx hb dX1_goesWithModel_19 hl (by decide) rfl (fun ls hl => ?_)
  have hw21 : ∀   (n : Nat) (p4_21 : Int32) (j_21 : Ob) (mc_21 : Ob) (md_21 : Ob) (lv_21 : Ob) (H : Heap) (locs : List Loc) (ls : Array Slot), w_X1_goesWithModel_L21   Post n p4_21 j_21 mc_21 md_21 lv_21 → Wh D A s.heap ((List.flatten [bX1 ad E j_21, bX3 (ad 2) E mc_21, bX3 (ad 3) E md_21, bX2 a2 E lv_21])) H locs → lv_has ls 6 [(0, .ref (ad 1 0)), (3, .ref (a2 0)), (4, .int (p4_21))] → W p l e ({ frames := 2, cells := 0, slots := 0, locals := 46 } : Room) s m args below meth c H locs 0 0 Q (F0 m 21 ls []) := by
    intro   n
    induction n with
    | zero => intro p4_21 j_21 mc_21 md_21 lv_21 H locs ls h hh hl; exact False.elim h
    | succ n ih =>
      intro p4_21 j_21 mc_21 md_21 lv_21 H locs ls h hh hl
      refine lv_iload hx hb dX1_goesWithModel_21 (lv_at hl 2 rfl) ?_
      refine lv_aload_n hx hb dX1_goesWithModel_23 rfl (lv_at hl 1 rfl) ?_
      have hc := hh.cut [_] [_, _, _] [3, 0, 1, 2] 4 rfl (by decide) rfl
      refine kI hc hA (rnVN hx hb hml hown hT hK hc (c_X2_acts l D E a2  lv_21  h _) mf_X2_acts nml_X1_101 ⟨rfl, rfl, Nat.le_of_ble_eq_true rfl, Nat.le_of_ble_eq_true rfl⟩ ⟨Nat.le_of_ble_eq_true rfl, Nat.le_of_ble_eq_true rfl⟩ 2 0 rfl rfl hl.1 rfl dX1_goesWithModel_24 (Nat.le_of_ble_eq_true rfl) rfl) (fun r5 lv_6 H locs h hh => ?_)
      have hh : Wh D A s.heap ((List.flatten [bX1 ad E j_21, bX3 (ad 2) E mc_21, bX3 (ad 3) E md_21, bX2 a2 E lv_6])) _ _ := Wh.back (cs := [_]) (rs := [_, _, _]) _ [1, 2, 3, 0] 4 rfl (by decide) rfl hh
      refine lv_icmp_ge (tgt := 96) hx hb dX1_goesWithModel_27 (by decide) (fun c7 => ?_) (fun c7 => ?_)
      · have h := h.1 c7
        refine lv_iconst (v := 1) hx hb dX1_goesWithModel_96 (by decide) ?_
        exact hret _ _ _ _ _ (j_21, mc_21, md_21, lv_6) dX1_goesWithModel_97 rfl h hh
      · have h := h.2 c7
        refine lv_aload_n hx hb dX1_goesWithModel_30 rfl (lv_at hl 0 rfl) ?_
        refine G_X1_35 [] [_, _, _] hx hb hT hown hK hh dX1_goesWithModel_31 ?_
        refine lv_aload_n hx hb dX1_goesWithModel_34 rfl (lv_at hl 1 rfl) ?_
        refine lv_iload hx hb dX1_goesWithModel_35 (lv_at hl 2 rfl) ?_
        have hc := hh.cut [_] [_, _, _] [3, 0, 1, 2] 4 rfl (by decide) rfl
        refine kI hc hA (rnVN hx hb hml hown hT hK hc (c_X2_act l D E a2  lv_6 p4_21 h _) mf_X2_act nml_X1_104 ⟨rfl, rfl, Nat.le_of_ble_eq_true rfl, Nat.le_of_ble_eq_true rfl⟩ ⟨Nat.le_of_ble_eq_true rfl, Nat.le_of_ble_eq_true rfl⟩ 2 0 rfl rfl hl.1 rfl dX1_goesWithModel_37 (Nat.le_of_ble_eq_true rfl) rfl) (fun r8 lv_9 H locs h hh => ?_)
        have hh : Wh D A s.heap ((List.flatten [bX1 ad E j_21, bX3 (ad 2) E mc_21, bX3 (ad 3) E md_21, bX2 a2 E lv_9])) _ _ := Wh.back (cs := [_]) (rs := [_, _, _]) _ [1, 2, 3, 0] 4 rfl (by decide) rfl hh
        refine lv_aload_n hx hb dX1_goesWithModel_40 rfl (lv_at hl 1 rfl) ?_
        refine lv_iload hx hb dX1_goesWithModel_41 (lv_at hl 2 rfl) ?_
        have hc := hh.cut [_] [_, _, _] [3, 0, 1, 2] 4 rfl (by decide) rfl
        refine kI hc hA (rnVN hx hb hml hown hT hK hc (c_X2_number l D E a2  lv_9 p4_21 h _) mf_X2_number nml_X1_107 ⟨rfl, rfl, Nat.le_of_ble_eq_true rfl, Nat.le_of_ble_eq_true rfl⟩ ⟨Nat.le_of_ble_eq_true rfl, Nat.le_of_ble_eq_true rfl⟩ 2 0 rfl rfl hl.1 rfl dX1_goesWithModel_43 (Nat.le_of_ble_eq_true rfl) rfl) (fun r10 lv_11 H locs h hh => ?_)
        have hh : Wh D A s.heap ((List.flatten [bX1 ad E j_21, bX3 (ad 2) E mc_21, bX3 (ad 3) E md_21, bX2 a2 E lv_11])) _ _ := Wh.back (cs := [_]) (rs := [_, _, _]) _ [1, 2, 3, 0] 4 rfl (by decide) rfl hh
        have hc := hh.cut [_] [_, _, _] [1, 0, 2, 3] 4 rfl (by decide) rfl
        refine kI hc hA (rnVN hx hb hml hown hT hK hc (c_X3_answer l D E (ad 2)  mc_21 r8 r10 h _) mf_X3_answer nml_X1_110 ⟨rfl, rfl, Nat.le_of_ble_eq_true rfl, Nat.le_of_ble_eq_true rfl⟩ ⟨Nat.le_of_ble_eq_true rfl, Nat.le_of_ble_eq_true rfl⟩ 3 0 rfl rfl hl.1 rfl dX1_goesWithModel_46 (Nat.le_of_ble_eq_true rfl) rfl) (fun r12 mc_13 H locs h hh => ?_)
        have hh : Wh D A s.heap ((List.flatten [bX1 ad E j_21, bX3 (ad 2) E mc_13, bX3 (ad 3) E md_21, bX2 a2 E lv_11])) _ _ := Wh.back (cs := [_]) (rs := [_, _, _]) _ [1, 0, 2, 3] 4 rfl (by decide) rfl hh
        refine lv_istore (lv' := [(5, .int (r12)), (0, .ref (ad 1 0)), (3, .ref (a2 0)), (4, .int (p4_21))]) hx hb dX1_goesWithModel_49 hl (by decide) rfl (fun ls hl => ?_)
        refine lv_aload_n hx hb dX1_goesWithModel_51 rfl (lv_at hl 1 rfl) ?_
        refine G_X1_35 [] [_, _, _] hx hb hT hown hK hh dX1_goesWithModel_52 ?_
        refine G_X1_114 [_] [_, _] hx hb hT hown hK hh (v := mc_13.2.1 4) rfl dX1_goesWithModel_55 ?_
        refine lv_if_eq (tgt := 64) hx hb dX1_goesWithModel_58 (by decide) (fun c14 => ?_) (fun c14 => ?_)
        · have h := h.1 c14
          refine lv_iload hx hb dX1_goesWithModel_64 (lv_at hl 0 rfl) ?_
          refine lv_aload_n hx hb dX1_goesWithModel_66 rfl (lv_at hl 1 rfl) ?_
          refine G_X1_39 [] [_, _, _] hx hb hT hown hK hh dX1_goesWithModel_67 ?_
          refine lv_aload_n hx hb dX1_goesWithModel_70 rfl (lv_at hl 2 rfl) ?_
          refine lv_iload hx hb dX1_goesWithModel_71 (lv_at hl 3 rfl) ?_
          have hc := hh.cut [_] [_, _, _] [3, 0, 1, 2] 4 rfl (by decide) rfl
          refine kI hc hA (rnVN hx hb hml hown hT hK hc (c_X2_act l D E a2  lv_11 p4_21 h _) mf_X2_act nml_X1_104 ⟨rfl, rfl, Nat.le_of_ble_eq_true rfl, Nat.le_of_ble_eq_true rfl⟩ ⟨Nat.le_of_ble_eq_true rfl, Nat.le_of_ble_eq_true rfl⟩ 2 0 rfl rfl hl.1 rfl dX1_goesWithModel_73 (Nat.le_of_ble_eq_true rfl) rfl) (fun r15 lv_16 H locs h hh => ?_)
          have hh : Wh D A s.heap ((List.flatten [bX1 ad E j_21, bX3 (ad 2) E mc_13, bX3 (ad 3) E md_21, bX2 a2 E lv_16])) _ _ := Wh.back (cs := [_]) (rs := [_, _, _]) _ [1, 2, 3, 0] 4 rfl (by decide) rfl hh
          refine lv_aload_n hx hb dX1_goesWithModel_76 rfl (lv_at hl 2 rfl) ?_
          refine lv_iload hx hb dX1_goesWithModel_77 (lv_at hl 3 rfl) ?_
          have hc := hh.cut [_] [_, _, _] [3, 0, 1, 2] 4 rfl (by decide) rfl
          refine kI hc hA (rnVN hx hb hml hown hT hK hc (c_X2_number l D E a2  lv_16 p4_21 h _) mf_X2_number nml_X1_107 ⟨rfl, rfl, Nat.le_of_ble_eq_true rfl, Nat.le_of_ble_eq_true rfl⟩ ⟨Nat.le_of_ble_eq_true rfl, Nat.le_of_ble_eq_true rfl⟩ 2 0 rfl rfl hl.1 rfl dX1_goesWithModel_79 (Nat.le_of_ble_eq_true rfl) rfl) (fun r17 lv_18 H locs h hh => ?_)
          have hh : Wh D A s.heap ((List.flatten [bX1 ad E j_21, bX3 (ad 2) E mc_13, bX3 (ad 3) E md_21, bX2 a2 E lv_18])) _ _ := Wh.back (cs := [_]) (rs := [_, _, _]) _ [1, 2, 3, 0] 4 rfl (by decide) rfl hh
          have hc := hh.cut [_] [_, _, _] [2, 0, 1, 3] 4 rfl (by decide) rfl
          refine kI hc hA (rnVN hx hb hml hown hT hK hc (c_X3_answer l D E (ad 3)  md_21 r15 r17 h _) mf_X3_answer nml_X1_110 ⟨rfl, rfl, Nat.le_of_ble_eq_true rfl, Nat.le_of_ble_eq_true rfl⟩ ⟨Nat.le_of_ble_eq_true rfl, Nat.le_of_ble_eq_true rfl⟩ 3 0 rfl rfl hl.1 rfl dX1_goesWithModel_82 (Nat.le_of_ble_eq_true rfl) rfl) (fun r19 md_20 H locs h hh => ?_)
          have hh : Wh D A s.heap ((List.flatten [bX1 ad E j_21, bX3 (ad 2) E mc_13, bX3 (ad 3) E md_20, bX2 a2 E lv_18])) _ _ := Wh.back (cs := [_]) (rs := [_, _, _]) _ [1, 2, 0, 3] 4 rfl (by decide) rfl hh
          refine lv_icmp_eq (tgt := 90) hx hb dX1_goesWithModel_85 (by decide) (fun c21 => ?_) (fun c21 => ?_)
          · have h := h.1 c21
            refine lv_iinc (v := p4_21 + 1) (lv' := [(4, .int (p4_21 + 1)), (5, .int (r12)), (0, .ref (ad 1 0)), (3, .ref (a2 0))]) hx hb dX1_goesWithModel_90 hl (k := 3) rfl (by rfl) (by decide) rfl (fun ls hl => ?_)
            refine lv_goto (tgt := 21) hx hb dX1_goesWithModel_93 (by decide) ?_
            exact ih (p4_21 + 1) j_21 mc_13 md_20 lv_18 _ _ _ h hh (lv_sub hl [2, 3, 0] rfl)
          · have h := h.2 c21
            refine lv_iconst (v := 0) hx hb dX1_goesWithModel_88 (by decide) ?_
            exact hret _ _ _ _ _ (j_21, mc_13, md_20, lv_18) dX1_goesWithModel_89 rfl h hh
        · have h := h.2 c14
          refine lv_bipush (v := (-3)) hx hb dX1_goesWithModel_61 (by decide) ?_
          exact hret _ _ _ _ _ (j_21, mc_13, md_21, lv_11) dX1_goesWithModel_63 rfl h hh
  obtain ⟨n, h⟩ := h
  refine hw21   n 0 j mc_2 md_4 lv _ _ _ h hh (lv_sub hl [1, 4, 0] rfl)

def w_X1_answerOf_L15 (f4_15 : Int32) (K68_15 : Int32 → Ob → Ob → Ob → Prop) (Post : Int64 → Ob → Ob → Ob → Prop) : Nat → Int32 → Int32 → Ob → Ob → Ob → Prop
  | 0, _, _, _, _, _ => False
  | n15 + 1, p5_15, p6_15, j_15, mc_15, lv_15 => ((f4_15 < p6_15) → K68_15 p5_15 j_15 mc_15 lv_15) ∧ (¬ (f4_15 < p6_15) → w_X2_acts   lv_15 (fun (r4 : Int32) (lv_5 : Ob) => ((r4 ≤ p6_15) → K68_15 p5_15 j_15 mc_15 lv_5) ∧ (¬ (r4 ≤ p6_15) → ((¬ (mc_15.2.1 4) = 0) → K68_15 p5_15 j_15 mc_15 lv_5) ∧ (((mc_15.2.1 4) = 0) → w_X2_act  p6_15 lv_5 (fun (r8 : Int32) (lv_9 : Ob) => w_X2_number  p6_15 lv_9 (fun (r10 : Int32) (lv_11 : Ob) => w_X3_answer  r8 r10 mc_15 (fun (r12 : Int32) (mc_13 : Ob) => w_X1_answerOf_L15 f4_15 K68_15 Post n15 r12 (p6_15 + 1) j_15 mc_13 lv_11)))))))
def w_X1_answerOf (x1 : Int32) (x2 : Int32) (x4 : Int32) (j : Ob) (mc : Ob) (lv : Ob) (Post : Int64 → Ob → Ob → Ob → Prop) : Prop := w_X3_start  x1 x2 mc (fun (mc_2 : Ob) => ∃ n15, w_X1_answerOf_L15 x4 (fun (k5_68 : Int32) (j_k68 : Ob) (mc_k68 : Ob) (lv_k68 : Ob) => (((mc_k68.2.1 4) = 0) → Post k5_68.toInt64 j_k68 mc_k68 lv_k68) ∧ (¬ ((mc_k68.2.1 4) = 0) → Post ((-9223372036854775808)) j_k68 mc_k68 lv_k68)) Post n15 0 0 j mc_2 lv)
set_option maxRecDepth 100000 in
set_option maxHeartbeats 4000000 in
theorem c_X1_answerOf (l : Launch) (D : va_G) (E : Nat → ClassId) (ad : Nat → Nat → Nat) (a2 : Nat → Nat)  (j : Ob) (mc : Ob) (lv : Ob) (x1 : Int32) (x2 : Int32) (x4 : Int32) {Post : Int64 → Ob → Ob → Ob → Prop} (h : w_X1_answerOf x1 x2 x4 j mc lv Post) : CtL l yX1_answerOf cX1_answerOf 7 ({ frames := 2, cells := 0, slots := 0, locals := 46 } : Room) D E [.ref (ad 1 0), .int (x1), .int (x2), .ref (a2 0), .int (x4)] (List.flatten [bX1 ad E j, bX3 (ad 2) E mc, bX2 a2 E lv]) (fun u : Ob × Ob × Ob => List.flatten [bX1 ad E u.1, bX3 (ad 2) E u.2.1, bX2 a2 E u.2.2]) (fun (r : Int64) (u : Ob × Ob × Ob) => Post r u.1 u.2.1 u.2.2) 0 0 := by
  refine enL (by decide +kernel) (Nat.le_of_ble_eq_true rfl) ?_
  intro p e s m args below meth c Q A ls hx hb hml hown hT hK hA hret hh hl
  have hl : lv_has ls 7 [(0, .ref (ad 1 0)), (1, .int (x1)), (2, .int (x2)), (3, .ref (a2 0)), (4, .int (x4))] := hl
  unfold w_X1_answerOf at h
  refine lv_aload_n hx hb dX1_answerOf_0 rfl (lv_at hl 0 rfl) ?_
  refine G_X1_35 [] [_, _] hx hb hT hown hK hh dX1_answerOf_1 ?_
  refine lv_iload_n hx hb dX1_answerOf_4 rfl (lv_at hl 1 rfl) ?_
  refine lv_iload_n hx hb dX1_answerOf_5 rfl (lv_at hl 2 rfl) ?_
  have hc := hh.cut [_] [_, _] [1, 0, 2] 3 rfl (by decide) rfl
  refine kV hc hA (rnVN hx hb hml hown hT hK hc (c_X3_start l D E (ad 2)  mc x1 x2 h _) mf_X3_start nml_X1_97 ⟨rfl, rfl, Nat.le_of_ble_eq_true rfl, Nat.le_of_ble_eq_true rfl⟩ ⟨Nat.le_of_ble_eq_true rfl, Nat.le_of_ble_eq_true rfl⟩ 3 0 rfl rfl hl.1 rfl dX1_answerOf_6 (Nat.le_of_ble_eq_true rfl) rfl) (fun mc_2 H locs h hh => ?_)
  have hh : Wh D A s.heap ((List.flatten [bX1 ad E j, bX3 (ad 2) E mc_2, bX2 a2 E lv])) _ _ := Wh.back (cs := [_]) (rs := [_, _]) _ [1, 0, 2] 3 rfl (by decide) rfl hh
  refine lv_iconst (v := 0) hx hb dX1_answerOf_9 (by decide) ?_
  refine lv_istore (lv' := [(5, .int (0)), (0, .ref (ad 1 0)), (1, .int (x1)), (2, .int (x2)), (3, .ref (a2 0)), (4, .int (x4))]) hx hb dX1_answerOf_10 hl (by decide) rfl (fun ls hl => ?_)
  refine lv_iconst (v := 0) hx hb dX1_answerOf_12 (by decide) ?_
  refine lv_istore (lv' := [(6, .int (0)), (5, .int (0)), (0, .ref (ad 1 0)), (1, .int (x1)), (2, .int (x2)), (3, .ref (a2 0)), (4, .int (x4))]) hx hb dX1_answerOf_13 hl (by decide) rfl (fun ls hl => ?_)
  have hw15 : ∀ (K68_15 : Int32 → Ob → Ob → Ob → Prop) (hK68_15 : ∀ (k5_68 : Int32) (j_k68 : Ob) (mc_k68 : Ob) (lv_k68 : Ob) (H : Heap) (locs : List Loc) (ls : Array Slot), K68_15 k5_68 j_k68 mc_k68 lv_k68 → Wh D A s.heap ((List.flatten [bX1 ad E j_k68, bX3 (ad 2) E mc_k68, bX2 a2 E lv_k68])) H locs → lv_has ls 7 [(0, .ref (ad 1 0)), (5, .int (k5_68))] → W p l e ({ frames := 2, cells := 0, slots := 0, locals := 46 } : Room) s m args below meth c H locs 0 0 Q (F0 m 68 ls [])) (n : Nat) (p5_15 : Int32) (p6_15 : Int32) (j_15 : Ob) (mc_15 : Ob) (lv_15 : Ob) (H : Heap) (locs : List Loc) (ls : Array Slot), w_X1_answerOf_L15 x4 K68_15 Post n p5_15 p6_15 j_15 mc_15 lv_15 → Wh D A s.heap ((List.flatten [bX1 ad E j_15, bX3 (ad 2) E mc_15, bX2 a2 E lv_15])) H locs → lv_has ls 7 [(0, .ref (ad 1 0)), (3, .ref (a2 0)), (4, .int (x4)), (5, .int (p5_15)), (6, .int (p6_15))] → W p l e ({ frames := 2, cells := 0, slots := 0, locals := 46 } : Room) s m args below meth c H locs 0 0 Q (F0 m 15 ls []) := by
    intro K68_15 hK68_15 n
    induction n with
    | zero => intro p5_15 p6_15 j_15 mc_15 lv_15 H locs ls h hh hl; exact False.elim h
    | succ n ih =>
      intro p5_15 p6_15 j_15 mc_15 lv_15 H locs ls h hh hl
      refine lv_iload hx hb dX1_answerOf_15 (lv_at hl 4 rfl) ?_
      refine lv_iload hx hb dX1_answerOf_17 (lv_at hl 2 rfl) ?_
      refine lv_icmp_gt (tgt := 68) hx hb dX1_answerOf_19 (by decide) (fun c3 => ?_) (fun c3 => ?_)
      · have h := h.1 c3
        exact hK68_15 p5_15 j_15 mc_15 lv_15 _ _ _ h hh (lv_sub hl [0, 3] rfl)
      · have h := h.2 c3
        refine lv_iload hx hb dX1_answerOf_22 (lv_at hl 4 rfl) ?_
        refine lv_aload_n hx hb dX1_answerOf_24 rfl (lv_at hl 1 rfl) ?_
        have hc := hh.cut [_] [_, _] [2, 0, 1] 3 rfl (by decide) rfl
        refine kI hc hA (rnVN hx hb hml hown hT hK hc (c_X2_acts l D E a2  lv_15  h _) mf_X2_acts nml_X1_101 ⟨rfl, rfl, Nat.le_of_ble_eq_true rfl, Nat.le_of_ble_eq_true rfl⟩ ⟨Nat.le_of_ble_eq_true rfl, Nat.le_of_ble_eq_true rfl⟩ 2 0 rfl rfl hl.1 rfl dX1_answerOf_25 (Nat.le_of_ble_eq_true rfl) rfl) (fun r4 lv_5 H locs h hh => ?_)
        have hh : Wh D A s.heap ((List.flatten [bX1 ad E j_15, bX3 (ad 2) E mc_15, bX2 a2 E lv_5])) _ _ := Wh.back (cs := [_]) (rs := [_, _]) _ [1, 2, 0] 3 rfl (by decide) rfl hh
        refine lv_icmp_ge (tgt := 68) hx hb dX1_answerOf_28 (by decide) (fun c6 => ?_) (fun c6 => ?_)
        · have h := h.1 c6
          exact hK68_15 p5_15 j_15 mc_15 lv_5 _ _ _ h hh (lv_sub hl [0, 3] rfl)
        · have h := h.2 c6
          refine lv_aload_n hx hb dX1_answerOf_31 rfl (lv_at hl 0 rfl) ?_
          refine G_X1_35 [] [_, _] hx hb hT hown hK hh dX1_answerOf_32 ?_
          refine G_X1_114 [_] [_] hx hb hT hown hK hh (v := mc_15.2.1 4) rfl dX1_answerOf_35 ?_
          refine lv_if_ne (tgt := 68) hx hb dX1_answerOf_38 (by decide) (fun c7 => ?_) (fun c7 => ?_)
          · have h := h.1 c7
            exact hK68_15 p5_15 j_15 mc_15 lv_5 _ _ _ h hh (lv_sub hl [0, 3] rfl)
          · have h := h.2 c7
            refine lv_aload_n hx hb dX1_answerOf_41 rfl (lv_at hl 0 rfl) ?_
            refine G_X1_35 [] [_, _] hx hb hT hown hK hh dX1_answerOf_42 ?_
            refine lv_aload_n hx hb dX1_answerOf_45 rfl (lv_at hl 1 rfl) ?_
            refine lv_iload hx hb dX1_answerOf_46 (lv_at hl 4 rfl) ?_
            have hc := hh.cut [_] [_, _] [2, 0, 1] 3 rfl (by decide) rfl
            refine kI hc hA (rnVN hx hb hml hown hT hK hc (c_X2_act l D E a2  lv_5 p6_15 h _) mf_X2_act nml_X1_104 ⟨rfl, rfl, Nat.le_of_ble_eq_true rfl, Nat.le_of_ble_eq_true rfl⟩ ⟨Nat.le_of_ble_eq_true rfl, Nat.le_of_ble_eq_true rfl⟩ 2 0 rfl rfl hl.1 rfl dX1_answerOf_48 (Nat.le_of_ble_eq_true rfl) rfl) (fun r8 lv_9 H locs h hh => ?_)
            have hh : Wh D A s.heap ((List.flatten [bX1 ad E j_15, bX3 (ad 2) E mc_15, bX2 a2 E lv_9])) _ _ := Wh.back (cs := [_]) (rs := [_, _]) _ [1, 2, 0] 3 rfl (by decide) rfl hh
            refine lv_aload_n hx hb dX1_answerOf_51 rfl (lv_at hl 1 rfl) ?_
            refine lv_iload hx hb dX1_answerOf_52 (lv_at hl 4 rfl) ?_
            have hc := hh.cut [_] [_, _] [2, 0, 1] 3 rfl (by decide) rfl
            refine kI hc hA (rnVN hx hb hml hown hT hK hc (c_X2_number l D E a2  lv_9 p6_15 h _) mf_X2_number nml_X1_107 ⟨rfl, rfl, Nat.le_of_ble_eq_true rfl, Nat.le_of_ble_eq_true rfl⟩ ⟨Nat.le_of_ble_eq_true rfl, Nat.le_of_ble_eq_true rfl⟩ 2 0 rfl rfl hl.1 rfl dX1_answerOf_54 (Nat.le_of_ble_eq_true rfl) rfl) (fun r10 lv_11 H locs h hh => ?_)
            have hh : Wh D A s.heap ((List.flatten [bX1 ad E j_15, bX3 (ad 2) E mc_15, bX2 a2 E lv_11])) _ _ := Wh.back (cs := [_]) (rs := [_, _]) _ [1, 2, 0] 3 rfl (by decide) rfl hh
            have hc := hh.cut [_] [_, _] [1, 0, 2] 3 rfl (by decide) rfl
            refine kI hc hA (rnVN hx hb hml hown hT hK hc (c_X3_answer l D E (ad 2)  mc_15 r8 r10 h _) mf_X3_answer nml_X1_110 ⟨rfl, rfl, Nat.le_of_ble_eq_true rfl, Nat.le_of_ble_eq_true rfl⟩ ⟨Nat.le_of_ble_eq_true rfl, Nat.le_of_ble_eq_true rfl⟩ 3 0 rfl rfl hl.1 rfl dX1_answerOf_57 (Nat.le_of_ble_eq_true rfl) rfl) (fun r12 mc_13 H locs h hh => ?_)
            have hh : Wh D A s.heap ((List.flatten [bX1 ad E j_15, bX3 (ad 2) E mc_13, bX2 a2 E lv_11])) _ _ := Wh.back (cs := [_]) (rs := [_, _]) _ [1, 0, 2] 3 rfl (by decide) rfl hh
            refine lv_istore (lv' := [(5, .int (r12)), (0, .ref (ad 1 0)), (3, .ref (a2 0)), (4, .int (x4)), (6, .int (p6_15))]) hx hb dX1_answerOf_60 hl (by decide) rfl (fun ls hl => ?_)
            refine lv_iinc (v := p6_15 + 1) (lv' := [(6, .int (p6_15 + 1)), (5, .int (r12)), (0, .ref (ad 1 0)), (3, .ref (a2 0)), (4, .int (x4))]) hx hb dX1_answerOf_62 hl (k := 4) rfl (by rfl) (by decide) rfl (fun ls hl => ?_)
            refine lv_goto (tgt := 15) hx hb dX1_answerOf_65 (by decide) ?_
            exact ih r12 (p6_15 + 1) j_15 mc_13 lv_11 _ _ _ h hh (lv_sub hl [2, 3, 4, 1, 0] rfl)
  obtain ⟨n, h⟩ := h
  refine hw15 _ (fun k5_68 j_k68 mc_k68 lv_k68 H locs ls h hh hl => ?_) n 0 0 j mc_2 lv _ _ _ h hh (lv_sub hl [2, 5, 6, 1, 0] rfl)
  refine lv_aload_n hx hb dX1_answerOf_68 rfl (lv_at hl 0 rfl) ?_
  refine G_X1_35 [] [_, _] hx hb hT hown hK hh dX1_answerOf_69 ?_
  refine G_X1_114 [_] [_] hx hb hT hown hK hh (v := mc_k68.2.1 4) rfl dX1_answerOf_72 ?_
  refine lv_if_eq (tgt := 84) hx hb dX1_answerOf_75 (by decide) (fun c14 => ?_) (fun c14 => ?_)
  · have h := h.1 c14
    refine lv_iload hx hb dX1_answerOf_84 (lv_at hl 1 rfl) ?_
    refine lv_i2l (v := k5_68.toInt64) hx hb dX1_answerOf_86 rfl ?_
    exact hret _ _ _ _ _ (j_k68, mc_k68, lv_k68) dX1_answerOf_87 h hh
  · have h := h.2 c14
    refine lv_ldc2 (v := (-9223372036854775808)) hx hb hown (hT _ kcL_X1_118) dX1_answerOf_78 ?_
    refine lv_goto (tgt := 87) hx hb dX1_answerOf_81 (by decide) ?_
    exact hret _ _ _ _ _ (j_k68, mc_k68, lv_k68) dX1_answerOf_87 h hh

def w_X1_verdict_L17 (ck : Nat → Ob) (f1_17 : Int32)  (Post : Int32 → Ob → Ob → Ob → Ob → Prop) : Nat → Int32 → Ob → Ob → Ob → Ob → Prop
  | 0, _, _, _, _, _ => False
  | n17 + 1, p3_17, j_17, mc_17, md_17, lv_17 => ((f1_17 < p3_17) → vp_in f1_17 40 ∧ (Post ((j_17.2.2 4) f1_17.toNatClampNeg) j_17 mc_17 md_17 lv_17)) ∧ (¬ (f1_17 < p3_17) → vp_in p3_17 40 ∧ ((p3_17.toNatClampNeg < (j_17.2.1 1).toNatClampNeg → vp_in p3_17 40 ∧ (jn (fun J327 : Ob → Ob → Ob → Ob → Prop => ((((j_17.2.2 3) p3_17.toNatClampNeg) = 0) → J327 j_17 mc_17 md_17 lv_17) ∧ (¬ (((j_17.2.2 3) p3_17.toNatClampNeg) = 0) → (p3_17.toNatClampNeg) < (j_17.2.1 1).toNatClampNeg ∧ ((p3_17.toNatClampNeg) < (j_17.2.1 1).toNatClampNeg ∧ (((((ck ((p3_17.toNatClampNeg))).2.1 0) = 0) → w_X2_sum   lv_17 (fun (r15 : Int32) (lv_16 : Ob) => jn (fun J139 : Int32 → Ob → Ob → Ob → Ob → Prop => ((((ck ((p3_17.toNatClampNeg))).2.1 1) ≤ r15) → J139 0 j_17 mc_17 md_17 lv_16) ∧ (¬ (((ck ((p3_17.toNatClampNeg))).2.1 1) ≤ r15) → J139 1 j_17 mc_17 md_17 lv_16)) (fun (z_139 : Int32) (j_139 : Ob) (mc_139 : Ob) (md_139 : Ob) (lv_139 : Ob) => vp_in p3_17 40 ∧ (J327 ((j_139.1, j_139.2.1, (sa j_139.2.2 4 (upd (j_139.2.2 4) p3_17.toNatClampNeg z_139)))) mc_139 md_139 lv_139)))) ∧ ((((ck ((p3_17.toNatClampNeg))).2.1 0) = 1) → w_X2_allFrom  ((ck ((p3_17.toNatClampNeg))).2.1 1) lv_17 (fun (r20 : Int32) (lv_21 : Ob) => jn (fun J162 : Int32 → Ob → Ob → Ob → Ob → Prop => ((r20 = 0) → J162 0 j_17 mc_17 md_17 lv_21) ∧ (¬ (r20 = 0) → J162 1 j_17 mc_17 md_17 lv_21)) (fun (z_162 : Int32) (j_162 : Ob) (mc_162 : Ob) (md_162 : Ob) (lv_162 : Ob) => vp_in p3_17 40 ∧ (J327 ((j_162.1, j_162.2.1, (sa j_162.2.2 4 (upd (j_162.2.2 4) p3_17.toNatClampNeg z_162)))) mc_162 md_162 lv_162)))) ∧ ((((ck ((p3_17.toNatClampNeg))).2.1 0) = 2) → jn (fun J185 : Int32 → Ob → Ob → Ob → Ob → Prop => ((((ck ((p3_17.toNatClampNeg))).2.1 1) ≤ (lv_17.2.1 1)) → J185 0 j_17 mc_17 md_17 lv_17) ∧ (¬ (((ck ((p3_17.toNatClampNeg))).2.1 1) ≤ (lv_17.2.1 1)) → J185 1 j_17 mc_17 md_17 lv_17)) (fun (z_185 : Int32) (j_185 : Ob) (mc_185 : Ob) (md_185 : Ob) (lv_185 : Ob) => vp_in p3_17 40 ∧ (J327 ((j_185.1, j_185.2.1, (sa j_185.2.2 4 (upd (j_185.2.2 4) p3_17.toNatClampNeg z_185)))) mc_185 md_185 lv_185))) ∧ ((((ck ((p3_17.toNatClampNeg))).2.1 0) = 3) → w_X2_rise   lv_17 (fun (r28 : Int32) (lv_29 : Ob) => jn (fun J206 : Int32 → Ob → Ob → Ob → Ob → Prop => ((r28 = 0) → J206 0 j_17 mc_17 md_17 lv_29) ∧ (¬ (r28 = 0) → J206 1 j_17 mc_17 md_17 lv_29)) (fun (z_206 : Int32) (j_206 : Ob) (mc_206 : Ob) (md_206 : Ob) (lv_206 : Ob) => vp_in p3_17 40 ∧ (J327 ((j_206.1, j_206.2.1, (sa j_206.2.2 4 (upd (j_206.2.2 4) p3_17.toNatClampNeg z_206)))) mc_206 md_206 lv_206)))) ∧ ((((ck ((p3_17.toNatClampNeg))).2.1 0) = 4) → w_X2_allDiffer   lv_17 (fun (r33 : Int32) (lv_34 : Ob) => jn (fun J227 : Int32 → Ob → Ob → Ob → Ob → Prop => ((r33 = 0) → J227 0 j_17 mc_17 md_17 lv_34) ∧ (¬ (r33 = 0) → J227 1 j_17 mc_17 md_17 lv_34)) (fun (z_227 : Int32) (j_227 : Ob) (mc_227 : Ob) (md_227 : Ob) (lv_227 : Ob) => vp_in p3_17 40 ∧ (J327 ((j_227.1, j_227.2.1, (sa j_227.2.2 4 (upd (j_227.2.2 4) p3_17.toNatClampNeg z_227)))) mc_227 md_227 lv_227)))) ∧ ((((ck ((p3_17.toNatClampNeg))).2.1 0) = 5) → jn (fun J260 : Int32 → Ob → Ob → Ob → Ob → Prop => ((¬ ((ck ((p3_17.toNatClampNeg))).2.1 1) = 0) → w_X2_sum   lv_17 (fun (r39 : Int32) (lv_40 : Ob) => ¬ ((ck ((p3_17.toNatClampNeg))).2.1 1) = 0 ∧ (((¬ (r39 - r39 / ((ck ((p3_17.toNatClampNeg))).2.1 1) * ((ck ((p3_17.toNatClampNeg))).2.1 1)) = 0) → J260 0 j_17 mc_17 md_17 lv_40) ∧ (((r39 - r39 / ((ck ((p3_17.toNatClampNeg))).2.1 1) * ((ck ((p3_17.toNatClampNeg))).2.1 1)) = 0) → J260 1 j_17 mc_17 md_17 lv_40)))) ∧ ((((ck ((p3_17.toNatClampNeg))).2.1 1) = 0) → J260 ((-1)) j_17 mc_17 md_17 lv_17)) (fun (z_260 : Int32) (j_260 : Ob) (mc_260 : Ob) (md_260 : Ob) (lv_260 : Ob) => vp_in p3_17 40 ∧ (J327 ((j_260.1, j_260.2.1, (sa j_260.2.2 4 (upd (j_260.2.2 4) p3_17.toNatClampNeg z_260)))) mc_260 md_260 lv_260))) ∧ ((((ck ((p3_17.toNatClampNeg))).2.1 0) = 6) → w_X2_noQuotientSeven  ((ck ((p3_17.toNatClampNeg))).2.1 1) lv_17 (fun (r45 : Int32) (lv_46 : Ob) => vp_in p3_17 40 ∧ (J327 ((j_17.1, j_17.2.1, (sa j_17.2.2 4 (upd (j_17.2.2 4) p3_17.toNatClampNeg r45)))) mc_17 md_17 lv_46))) ∧ ((((ck ((p3_17.toNatClampNeg))).2.1 0) = 7) → w_X2_noneTellsOf  ((ck ((p3_17.toNatClampNeg))).2.1 1) lv_17 (fun (r49 : Int32) (lv_50 : Ob) => vp_in p3_17 40 ∧ (J327 ((j_17.1, j_17.2.1, (sa j_17.2.2 4 (upd (j_17.2.2 4) p3_17.toNatClampNeg r49)))) mc_17 md_17 lv_50))) ∧ ((((ck ((p3_17.toNatClampNeg))).2.1 0) = 11) → (p3_17.toNatClampNeg) < (j_17.2.1 1).toNatClampNeg ∧ (w_X1_goesWithModel  ((ck ((p3_17.toNatClampNeg))).2.1 1) ((ck ((p3_17.toNatClampNeg))).2.1 2) j_17 mc_17 md_17 lv_17 (fun (r54 : Int32) (j_55 : Ob) (mc_56 : Ob) (md_57 : Ob) (lv_58 : Ob) => (j_55.2.1 1 = j_17.2.1 1) ∧ (vp_in p3_17 40 ∧ (J327 ((j_55.1, j_55.2.1, (sa j_55.2.2 4 (upd (j_55.2.2 4) p3_17.toNatClampNeg r54)))) mc_56 md_57 lv_58))))) ∧ ((¬ ((ck ((p3_17.toNatClampNeg))).2.1 0) = 0 ∧ ¬ ((ck ((p3_17.toNatClampNeg))).2.1 0) = 1 ∧ ¬ ((ck ((p3_17.toNatClampNeg))).2.1 0) = 2 ∧ ¬ ((ck ((p3_17.toNatClampNeg))).2.1 0) = 3 ∧ ¬ ((ck ((p3_17.toNatClampNeg))).2.1 0) = 4 ∧ ¬ ((ck ((p3_17.toNatClampNeg))).2.1 0) = 5 ∧ ¬ ((ck ((p3_17.toNatClampNeg))).2.1 0) = 6 ∧ ¬ ((ck ((p3_17.toNatClampNeg))).2.1 0) = 7 ∧ ¬ ((ck ((p3_17.toNatClampNeg))).2.1 0) = 11) → w_X1_combined ck ((p3_17.toNatClampNeg)) j_17 (fun (r62 : Int32) (j_63 : Ob) => vp_in p3_17 40 ∧ (J327 ((j_63.1, j_63.2.1, (sa j_63.2.2 4 (upd (j_63.2.2 4) p3_17.toNatClampNeg r62)))) mc_17 md_17 lv_17))))))) (fun (j_327 : Ob) (mc_327 : Ob) (md_327 : Ob) (lv_327 : Ob) => w_X1_verdict_L17 ck f1_17  Post n17 (p3_17 + 1) j_327 mc_327 md_327 lv_327))) ∧ (¬ p3_17.toNatClampNeg < (j_17.2.1 1).toNatClampNeg → vp_in p3_17 40 ∧ (jn (fun J327 : Ob → Ob → Ob → Ob → Prop => ((((j_17.2.2 3) p3_17.toNatClampNeg) = 0) → J327 j_17 mc_17 md_17 lv_17) ∧ (¬ (((j_17.2.2 3) p3_17.toNatClampNeg) = 0) → J327 j_17 mc_17 md_17 lv_17)) (fun (j_327 : Ob) (mc_327 : Ob) (md_327 : Ob) (lv_327 : Ob) => w_X1_verdict_L17 ck f1_17  Post n17 (p3_17 + 1) j_327 mc_327 md_327 lv_327)))))
def w_X1_verdict (ck : Nat → Ob) (x1 : Int32) (j : Ob) (mc : Ob) (md : Ob) (lv : Ob) (Post : Int32 → Ob → Ob → Ob → Ob → Prop) : Prop := w_X1_knows  x1 j (fun (r1 : Int32) (j_2 : Ob) => (j_2.2.1 1 = j.2.1 1) ∧ (((¬ r1 = 0) → w_X1_markWanted ck x1 j_2 (fun (j_6 : Ob) => ∃ n17, w_X1_verdict_L17 ck x1  Post n17 0 j_6 mc md lv)) ∧ ((r1 = 0) → Post 0 j_2 mc md lv)))
set_option maxRecDepth 100000 in
set_option maxHeartbeats 4000000 in
theorem c_X1_verdict (l : Launch) (D : va_G) (E : Nat → ClassId) (ad : Nat → Nat → Nat) (a2 : Nat → Nat) (ck : Nat → Ob)  (j : Ob) (mc : Ob) (md : Ob) (lv : Ob) (x1 : Int32) {Post : Int32 → Ob → Ob → Ob → Ob → Prop} (h : w_X1_verdict ck x1 j mc md lv Post) : CtI l yX1_verdict cX1_verdict 6 .int ({ frames := 3, cells := 0, slots := 0, locals := 71 } : Room) D E [.ref (ad 1 0), .int (x1), .ref (a2 0)] (List.flatten [bX1 ad E j, bX3 (ad 2) E mc, bX3 (ad 3) E md, bX2 a2 E lv, dC ad E ck (j.2.1 1).toNatClampNeg]) (fun u : Ob × Ob × Ob × Ob => List.flatten [bX1 ad E u.1, bX3 (ad 2) E u.2.1, bX3 (ad 3) E u.2.2.1, bX2 a2 E u.2.2.2, dC ad E ck (u.1.2.1 1).toNatClampNeg]) (fun (r : Int32) (u : Ob × Ob × Ob × Ob) => Post r u.1 u.2.1 u.2.2.1 u.2.2.2) 0 0 := by
  refine enI (by decide +kernel) (Nat.le_of_ble_eq_true rfl) ?_
  intro p e s m args below meth c Q A ls hx hb hml hown hT hK hA hret hh hl
  have hl : lv_has ls 6 [(0, .ref (ad 1 0)), (1, .int (x1)), (2, .ref (a2 0))] := hl
  unfold w_X1_verdict at h
  refine lv_aload_n hx hb dX1_verdict_0 rfl (lv_at hl 0 rfl) ?_
  refine lv_iload_n hx hb dX1_verdict_1 rfl (lv_at hl 1 rfl) ?_
  have hc := hh.cut [_] [_, _, _, _] [0, 1, 2, 3, 4] 5 rfl (by decide) rfl
  refine kI hc hA (rnV hx hb hml hown hT hK hc (c_X1_knows l D E ad  j x1 h _) mf_X1_knows kml_X1_42 ⟨rfl, rfl, Nat.le_of_ble_eq_true rfl, Nat.le_of_ble_eq_true rfl⟩ ⟨Nat.le_of_ble_eq_true rfl, Nat.le_of_ble_eq_true rfl⟩ 1 0 rfl rfl hl.1 rfl dX1_verdict_2 (Nat.le_of_ble_eq_true rfl) rfl) (fun r1 j_2 H locs h hh => ?_)
  obtain ⟨g3, h⟩ := h
  rw [← g3] at hh
  have hh : Wh D A s.heap ((List.flatten [bX1 ad E j_2, bX3 (ad 2) E mc, bX3 (ad 3) E md, bX2 a2 E lv, dC ad E ck (j_2.2.1 1).toNatClampNeg])) _ _ := Wh.back (cs := [_]) (rs := [_, _, _, _]) _ [0, 1, 2, 3, 4] 5 rfl (by decide) rfl hh
  refine lv_if_ne (tgt := 10) hx hb dX1_verdict_5 (by decide) (fun c4 => ?_) (fun c4 => ?_)
  · have h := h.1 c4
    refine lv_aload_n hx hb dX1_verdict_10 rfl (lv_at hl 0 rfl) ?_
    refine lv_iload_n hx hb dX1_verdict_11 rfl (lv_at hl 1 rfl) ?_
    have hc := hh.cut [_, _] [_, _, _] [0, 4, 1, 2, 3] 5 rfl (by decide) rfl
    refine kV hc hA (rnV hx hb hml hown hT hK hc (c_X1_markWanted l D E ad ck j_2 x1 h _) mf_X1_markWanted kml_X1_46 ⟨rfl, rfl, Nat.le_of_ble_eq_true rfl, Nat.le_of_ble_eq_true rfl⟩ ⟨Nat.le_of_ble_eq_true rfl, Nat.le_of_ble_eq_true rfl⟩ 1 0 rfl rfl hl.1 rfl dX1_verdict_12 (Nat.le_of_ble_eq_true rfl) rfl) (fun j_6 H locs h hh => ?_)
    have hh : Wh D A s.heap ((List.flatten [bX1 ad E j_6, bX3 (ad 2) E mc, bX3 (ad 3) E md, bX2 a2 E lv, dC ad E ck (j_6.2.1 1).toNatClampNeg])) _ _ := Wh.back (cs := [_, _]) (rs := [_, _, _]) _ [0, 2, 3, 4, 1] 5 rfl (by decide) rfl hh
    refine lv_iconst (v := 0) hx hb dX1_verdict_15 (by decide) ?_
    refine lv_istore_n (lv' := [(3, .int (0)), (0, .ref (ad 1 0)), (1, .int (x1)), (2, .ref (a2 0))]) hx hb dX1_verdict_16 rfl hl (by decide) rfl (fun ls hl => ?_)
    have hw17 : ∀   (n : Nat) (p3_17 : Int32) (j_17 : Ob) (mc_17 : Ob) (md_17 : Ob) (lv_17 : Ob) (H : Heap) (locs : List Loc) (ls : Array Slot), w_X1_verdict_L17 ck x1  Post n p3_17 j_17 mc_17 md_17 lv_17 → Wh D A s.heap ((List.flatten [bX1 ad E j_17, bX3 (ad 2) E mc_17, bX3 (ad 3) E md_17, bX2 a2 E lv_17, dC ad E ck (j_17.2.1 1).toNatClampNeg])) H locs → lv_has ls 6 [(0, .ref (ad 1 0)), (1, .int (x1)), (2, .ref (a2 0)), (3, .int (p3_17))] → W p l e ({ frames := 3, cells := 0, slots := 0, locals := 71 } : Room) s m args below meth c H locs 0 0 Q (F0 m 17 ls []) := by
      intro   n
      induction n with
      | zero => intro p3_17 j_17 mc_17 md_17 lv_17 H locs ls h hh hl; exact False.elim h
      | succ n ih =>
        intro p3_17 j_17 mc_17 md_17 lv_17 H locs ls h hh hl
        refine lv_iload_n hx hb dX1_verdict_17 rfl (lv_at hl 3 rfl) ?_
        refine lv_iload_n hx hb dX1_verdict_18 rfl (lv_at hl 1 rfl) ?_
        refine lv_icmp_gt (tgt := 333) hx hb dX1_verdict_19 (by decide) (fun c7 => ?_) (fun c7 => ?_)
        · have h := h.1 c7
          refine lv_aload_n hx hb dX1_verdict_333 rfl (lv_at hl 0 rfl) ?_
          refine G_X1_28 [] [_, _, _, _] hx hb hT hown hK hh dX1_verdict_334 ?_
          refine lv_iload_n hx hb dX1_verdict_337 rfl (lv_at hl 1 rfl) ?_
          obtain ⟨g8, h⟩ := h
          refine A_X1_4 [] [_, _, _, _] hx hb hK hh (v := (j_17.2.2 4) x1.toNatClampNeg) g8 rfl dX1_verdict_338 ?_
          exact hret _ _ _ _ _ (j_17, mc_17, md_17, lv_17) dX1_verdict_339 rfl h hh
        · have h := h.2 c7
          refine lv_aload_n hx hb dX1_verdict_22 rfl (lv_at hl 0 rfl) ?_
          refine G_X1_11 [] [_, _, _, _] hx hb hT hown hK hh dX1_verdict_23 ?_
          refine lv_iload_n hx hb dX1_verdict_26 rfl (lv_at hl 3 rfl) ?_
          obtain ⟨g9, h⟩ := h
          refine Q_X1 [] [_, _, _, _] hx hb hK hh g9 dX1_verdict_27 (fun c10 => ?_) (fun c10 => ?_)
          · have h := h.1 c10
            refine lv_astore (lv' := [(4, .ref (ad 20 (p3_17.toNatClampNeg))), (0, .ref (ad 1 0)), (1, .int (x1)), (2, .ref (a2 0)), (3, .int (p3_17))]) hx hb dX1_verdict_28 hl (by decide) rfl (fun ls hl => ?_)
            refine lv_aload_n hx hb dX1_verdict_30 rfl (lv_at hl 1 rfl) ?_
            refine G_X1_24 [] [_, _, _, _] hx hb hT hown hK hh dX1_verdict_31 ?_
            refine lv_iload_n hx hb dX1_verdict_34 rfl (lv_at hl 4 rfl) ?_
            obtain ⟨g11, h⟩ := h
            refine A_X1_3 [] [_, _, _, _] hx hb hK hh (v := (j_17.2.2 3) p3_17.toNatClampNeg) g11 rfl dX1_verdict_35 ?_
            refine jn_elim h (fun J327 hJ327 h => ?_)
            have kJ327 : ∀ (j_327 : Ob) (mc_327 : Ob) (md_327 : Ob) (lv_327 : Ob) (H : Heap) (locs : List Loc) (ls : Array Slot), J327 j_327 mc_327 md_327 lv_327 → Wh D A s.heap ((List.flatten [bX1 ad E j_327, bX3 (ad 2) E mc_327, bX3 (ad 3) E md_327, bX2 a2 E lv_327, dC ad E ck (j_327.2.1 1).toNatClampNeg])) H locs → lv_has ls 6 [(0, .ref (ad 1 0)), (1, .int (x1)), (2, .ref (a2 0)), (3, .int (p3_17))] → W p l e ({ frames := 3, cells := 0, slots := 0, locals := 71 } : Room) s m args below meth c H locs 0 0 Q (F0 m 327 ls []) := by
              intro j_327 mc_327 md_327 lv_327 H locs ls h hh hl
              rw [hJ327] at h
              refine lv_iinc (v := p3_17 + 1) (lv' := [(3, .int (p3_17 + 1)), (0, .ref (ad 1 0)), (1, .int (x1)), (2, .ref (a2 0))]) hx hb dX1_verdict_327 hl (k := 3) rfl (by rfl) (by decide) rfl (fun ls hl => ?_)
              refine lv_goto (tgt := 17) hx hb dX1_verdict_330 (by decide) ?_
              exact ih (p3_17 + 1) j_327 mc_327 md_327 lv_327 _ _ _ h hh (lv_sub hl [1, 2, 3, 0] rfl)
            refine lv_if_eq (tgt := 327) hx hb dX1_verdict_36 (by decide) (fun c12 => ?_) (fun c12 => ?_)
            · have h := h.1 c12
              exact kJ327 j_17 mc_17 md_17 lv_17 _ _ _ h hh (lv_sub hl [1, 2, 3, 4] rfl)
            · have h := h.2 c12
              refine lv_aload hx hb dX1_verdict_39 (lv_at hl 0 rfl) ?_
              refine lv_ifnonnull (tgt := 47) hx hb dX1_verdict_41 (by decide) ?_
              refine lv_aload hx hb dX1_verdict_47 (lv_at hl 0 rfl) ?_
              obtain ⟨g13, h⟩ := h
              refine DG_X1_50 [_, _, _, _] [] hx hb hT hown hK hh g13 (v := (ck ((p3_17.toNatClampNeg))).2.1 1) rfl dX1_verdict_49 ?_
              refine lv_istore (lv' := [(5, .int ((ck ((p3_17.toNatClampNeg))).2.1 1)), (4, .ref (ad 20 (p3_17.toNatClampNeg))), (0, .ref (ad 1 0)), (1, .int (x1)), (2, .ref (a2 0)), (3, .int (p3_17))]) hx hb dX1_verdict_52 hl (by decide) rfl (fun ls hl => ?_)
              refine lv_aload hx hb dX1_verdict_54 (lv_at hl 1 rfl) ?_
              obtain ⟨g14, h⟩ := h
              refine DG_X1_53 [_, _, _, _] [] hx hb hT hown hK hh g14 (v := (ck ((p3_17.toNatClampNeg))).2.1 0) rfl dX1_verdict_56 ?_
              by_cases c19 : ((ck ((p3_17.toNatClampNeg))).2.1 0) = 0
              · have h := h.1 c19
                refine lv_tableIn (off := 61) (tgt := 120) hx hb dX1_verdict_59 (by rw [c19]; decide) (by rw [c19]; decide) (by rw [c19]; rfl) (by decide) ?_
                refine lv_aload_n hx hb dX1_verdict_120 rfl (lv_at hl 2 rfl) ?_
                refine G_X1_28 [] [_, _, _, _] hx hb hT hown hK hh dX1_verdict_121 ?_
                refine lv_iload_n hx hb dX1_verdict_124 rfl (lv_at hl 5 rfl) ?_
                refine lv_aload_n hx hb dX1_verdict_125 rfl (lv_at hl 4 rfl) ?_
                have hc := hh.cut [_] [_, _, _, _] [3, 0, 1, 2, 4] 5 rfl (by decide) rfl
                refine kI hc hA (rnVN hx hb hml hown hT hK hc (c_X2_sum l D E a2  lv_17  h _) mf_X2_sum nml_X1_56 ⟨rfl, rfl, Nat.le_of_ble_eq_true rfl, Nat.le_of_ble_eq_true rfl⟩ ⟨Nat.le_of_ble_eq_true rfl, Nat.le_of_ble_eq_true rfl⟩ 2 0 rfl rfl hl.1 rfl dX1_verdict_126 (Nat.le_of_ble_eq_true rfl) rfl) (fun r15 lv_16 H locs h hh => ?_)
                have hh : Wh D A s.heap ((List.flatten [bX1 ad E j_17, bX3 (ad 2) E mc_17, bX3 (ad 3) E md_17, bX2 a2 E lv_16, dC ad E ck (j_17.2.1 1).toNatClampNeg])) _ _ := Wh.back (cs := [_]) (rs := [_, _, _, _]) _ [1, 2, 3, 0, 4] 5 rfl (by decide) rfl hh
                refine lv_iload hx hb dX1_verdict_129 (lv_at hl 0 rfl) ?_
                refine jn_elim h (fun J139 hJ139 h => ?_)
                have kJ139 : ∀ (z_139 : Int32) (j_139 : Ob) (mc_139 : Ob) (md_139 : Ob) (lv_139 : Ob) (H : Heap) (locs : List Loc) (ls : Array Slot), J139 z_139 j_139 mc_139 md_139 lv_139 → Wh D A s.heap ((List.flatten [bX1 ad E j_139, bX3 (ad 2) E mc_139, bX3 (ad 3) E md_139, bX2 a2 E lv_139, dC ad E ck (j_139.2.1 1).toNatClampNeg])) H locs → lv_has ls 6 [(0, .ref (ad 1 0)), (1, .int (x1)), (2, .ref (a2 0)), (3, .int (p3_17))] → W p l e ({ frames := 3, cells := 0, slots := 0, locals := 71 } : Room) s m args below meth c H locs 0 0 Q (F0 m 139 ls [.int (z_139), .int (p3_17), .ref (ad 1 5)]) := by
                  intro z_139 j_139 mc_139 md_139 lv_139 H locs ls h hh hl
                  rw [hJ139] at h
                  obtain ⟨g18, h⟩ := h
                  refine S_X1_4 [] [_, _, _, _] hx hb hK hh g18 dX1_verdict_139 (fun H locs (hh : Wh D A s.heap ((List.flatten [bX1 ad E ((j_139.1, j_139.2.1, (sa j_139.2.2 4 (upd (j_139.2.2 4) p3_17.toNatClampNeg z_139)))), bX3 (ad 2) E mc_139, bX3 (ad 3) E md_139, bX2 a2 E lv_139, dC ad E ck (j_139.2.1 1).toNatClampNeg])) H locs) => ?_)
                  refine lv_goto (tgt := 327) hx hb dX1_verdict_140 (by decide) ?_
                  exact kJ327 ((j_139.1, j_139.2.1, (sa j_139.2.2 4 (upd (j_139.2.2 4) p3_17.toNatClampNeg z_139)))) mc_139 md_139 lv_139 _ _ _ h hh (lv_sub hl [0, 1, 2, 3] rfl)
                refine lv_icmp_ge (tgt := 138) hx hb dX1_verdict_131 (by decide) (fun c17 => ?_) (fun c17 => ?_)
                · have h := h.1 c17
                  refine lv_iconst (v := 0) hx hb dX1_verdict_138 (by decide) ?_
                  exact kJ139 0 j_17 mc_17 md_17 lv_16 _ _ _ h hh (lv_sub hl [2, 3, 4, 5] rfl)
                · have h := h.2 c17
                  refine lv_iconst (v := 1) hx hb dX1_verdict_134 (by decide) ?_
                  refine lv_goto (tgt := 139) hx hb dX1_verdict_135 (by decide) ?_
                  exact kJ139 1 j_17 mc_17 md_17 lv_16 _ _ _ h hh (lv_sub hl [2, 3, 4, 5] rfl)
              · by_cases c24 : ((ck ((p3_17.toNatClampNeg))).2.1 0) = 1
                · have h := h.2.1 c24
                  refine lv_tableIn (off := 84) (tgt := 143) hx hb dX1_verdict_59 (by rw [c24]; decide) (by rw [c24]; decide) (by rw [c24]; rfl) (by decide) ?_
                  refine lv_aload_n hx hb dX1_verdict_143 rfl (lv_at hl 2 rfl) ?_
                  refine G_X1_28 [] [_, _, _, _] hx hb hT hown hK hh dX1_verdict_144 ?_
                  refine lv_iload_n hx hb dX1_verdict_147 rfl (lv_at hl 5 rfl) ?_
                  refine lv_aload_n hx hb dX1_verdict_148 rfl (lv_at hl 4 rfl) ?_
                  refine lv_iload hx hb dX1_verdict_149 (lv_at hl 0 rfl) ?_
                  have hc := hh.cut [_] [_, _, _, _] [3, 0, 1, 2, 4] 5 rfl (by decide) rfl
                  refine kI hc hA (rnVN hx hb hml hown hT hK hc (c_X2_allFrom l D E a2  lv_17 ((ck ((p3_17.toNatClampNeg))).2.1 1) h _) mf_X2_allFrom nml_X1_62 ⟨rfl, rfl, Nat.le_of_ble_eq_true rfl, Nat.le_of_ble_eq_true rfl⟩ ⟨Nat.le_of_ble_eq_true rfl, Nat.le_of_ble_eq_true rfl⟩ 2 0 rfl rfl hl.1 rfl dX1_verdict_151 (Nat.le_of_ble_eq_true rfl) rfl) (fun r20 lv_21 H locs h hh => ?_)
                  have hh : Wh D A s.heap ((List.flatten [bX1 ad E j_17, bX3 (ad 2) E mc_17, bX3 (ad 3) E md_17, bX2 a2 E lv_21, dC ad E ck (j_17.2.1 1).toNatClampNeg])) _ _ := Wh.back (cs := [_]) (rs := [_, _, _, _]) _ [1, 2, 3, 0, 4] 5 rfl (by decide) rfl hh
                  refine jn_elim h (fun J162 hJ162 h => ?_)
                  have kJ162 : ∀ (z_162 : Int32) (j_162 : Ob) (mc_162 : Ob) (md_162 : Ob) (lv_162 : Ob) (H : Heap) (locs : List Loc) (ls : Array Slot), J162 z_162 j_162 mc_162 md_162 lv_162 → Wh D A s.heap ((List.flatten [bX1 ad E j_162, bX3 (ad 2) E mc_162, bX3 (ad 3) E md_162, bX2 a2 E lv_162, dC ad E ck (j_162.2.1 1).toNatClampNeg])) H locs → lv_has ls 6 [(0, .ref (ad 1 0)), (1, .int (x1)), (2, .ref (a2 0)), (3, .int (p3_17))] → W p l e ({ frames := 3, cells := 0, slots := 0, locals := 71 } : Room) s m args below meth c H locs 0 0 Q (F0 m 162 ls [.int (z_162), .int (p3_17), .ref (ad 1 5)]) := by
                    intro z_162 j_162 mc_162 md_162 lv_162 H locs ls h hh hl
                    rw [hJ162] at h
                    obtain ⟨g23, h⟩ := h
                    refine S_X1_4 [] [_, _, _, _] hx hb hK hh g23 dX1_verdict_162 (fun H locs (hh : Wh D A s.heap ((List.flatten [bX1 ad E ((j_162.1, j_162.2.1, (sa j_162.2.2 4 (upd (j_162.2.2 4) p3_17.toNatClampNeg z_162)))), bX3 (ad 2) E mc_162, bX3 (ad 3) E md_162, bX2 a2 E lv_162, dC ad E ck (j_162.2.1 1).toNatClampNeg])) H locs) => ?_)
                    refine lv_goto (tgt := 327) hx hb dX1_verdict_163 (by decide) ?_
                    exact kJ327 ((j_162.1, j_162.2.1, (sa j_162.2.2 4 (upd (j_162.2.2 4) p3_17.toNatClampNeg z_162)))) mc_162 md_162 lv_162 _ _ _ h hh (lv_sub hl [0, 1, 2, 3] rfl)
                  refine lv_if_eq (tgt := 161) hx hb dX1_verdict_154 (by decide) (fun c22 => ?_) (fun c22 => ?_)
                  · have h := h.1 c22
                    refine lv_iconst (v := 0) hx hb dX1_verdict_161 (by decide) ?_
                    exact kJ162 0 j_17 mc_17 md_17 lv_21 _ _ _ h hh (lv_sub hl [2, 3, 4, 5] rfl)
                  · have h := h.2 c22
                    refine lv_iconst (v := 1) hx hb dX1_verdict_157 (by decide) ?_
                    refine lv_goto (tgt := 162) hx hb dX1_verdict_158 (by decide) ?_
                    exact kJ162 1 j_17 mc_17 md_17 lv_21 _ _ _ h hh (lv_sub hl [2, 3, 4, 5] rfl)
                · by_cases c27 : ((ck ((p3_17.toNatClampNeg))).2.1 0) = 2
                  · have h := h.2.2.1 c27
                    refine lv_tableIn (off := 107) (tgt := 166) hx hb dX1_verdict_59 (by rw [c27]; decide) (by rw [c27]; decide) (by rw [c27]; rfl) (by decide) ?_
                    refine lv_aload_n hx hb dX1_verdict_166 rfl (lv_at hl 2 rfl) ?_
                    refine G_X1_28 [] [_, _, _, _] hx hb hT hown hK hh dX1_verdict_167 ?_
                    refine lv_iload_n hx hb dX1_verdict_170 rfl (lv_at hl 5 rfl) ?_
                    refine lv_aload_n hx hb dX1_verdict_171 rfl (lv_at hl 4 rfl) ?_
                    refine G_X1_65 [_, _, _] [_] hx hb hT hown hK hh (v := lv_17.2.1 1) rfl dX1_verdict_172 ?_
                    refine lv_iload hx hb dX1_verdict_175 (lv_at hl 0 rfl) ?_
                    refine jn_elim h (fun J185 hJ185 h => ?_)
                    have kJ185 : ∀ (z_185 : Int32) (j_185 : Ob) (mc_185 : Ob) (md_185 : Ob) (lv_185 : Ob) (H : Heap) (locs : List Loc) (ls : Array Slot), J185 z_185 j_185 mc_185 md_185 lv_185 → Wh D A s.heap ((List.flatten [bX1 ad E j_185, bX3 (ad 2) E mc_185, bX3 (ad 3) E md_185, bX2 a2 E lv_185, dC ad E ck (j_185.2.1 1).toNatClampNeg])) H locs → lv_has ls 6 [(0, .ref (ad 1 0)), (1, .int (x1)), (2, .ref (a2 0)), (3, .int (p3_17))] → W p l e ({ frames := 3, cells := 0, slots := 0, locals := 71 } : Room) s m args below meth c H locs 0 0 Q (F0 m 185 ls [.int (z_185), .int (p3_17), .ref (ad 1 5)]) := by
                      intro z_185 j_185 mc_185 md_185 lv_185 H locs ls h hh hl
                      rw [hJ185] at h
                      obtain ⟨g26, h⟩ := h
                      refine S_X1_4 [] [_, _, _, _] hx hb hK hh g26 dX1_verdict_185 (fun H locs (hh : Wh D A s.heap ((List.flatten [bX1 ad E ((j_185.1, j_185.2.1, (sa j_185.2.2 4 (upd (j_185.2.2 4) p3_17.toNatClampNeg z_185)))), bX3 (ad 2) E mc_185, bX3 (ad 3) E md_185, bX2 a2 E lv_185, dC ad E ck (j_185.2.1 1).toNatClampNeg])) H locs) => ?_)
                      refine lv_goto (tgt := 327) hx hb dX1_verdict_186 (by decide) ?_
                      exact kJ327 ((j_185.1, j_185.2.1, (sa j_185.2.2 4 (upd (j_185.2.2 4) p3_17.toNatClampNeg z_185)))) mc_185 md_185 lv_185 _ _ _ h hh (lv_sub hl [0, 1, 2, 3] rfl)
                    refine lv_icmp_ge (tgt := 184) hx hb dX1_verdict_177 (by decide) (fun c25 => ?_) (fun c25 => ?_)
                    · have h := h.1 c25
                      refine lv_iconst (v := 0) hx hb dX1_verdict_184 (by decide) ?_
                      exact kJ185 0 j_17 mc_17 md_17 lv_17 _ _ _ h hh (lv_sub hl [2, 3, 4, 5] rfl)
                    · have h := h.2 c25
                      refine lv_iconst (v := 1) hx hb dX1_verdict_180 (by decide) ?_
                      refine lv_goto (tgt := 185) hx hb dX1_verdict_181 (by decide) ?_
                      exact kJ185 1 j_17 mc_17 md_17 lv_17 _ _ _ h hh (lv_sub hl [2, 3, 4, 5] rfl)
                  · by_cases c32 : ((ck ((p3_17.toNatClampNeg))).2.1 0) = 3
                    · have h := h.2.2.2.1 c32
                      refine lv_tableIn (off := 130) (tgt := 189) hx hb dX1_verdict_59 (by rw [c32]; decide) (by rw [c32]; decide) (by rw [c32]; rfl) (by decide) ?_
                      refine lv_aload_n hx hb dX1_verdict_189 rfl (lv_at hl 2 rfl) ?_
                      refine G_X1_28 [] [_, _, _, _] hx hb hT hown hK hh dX1_verdict_190 ?_
                      refine lv_iload_n hx hb dX1_verdict_193 rfl (lv_at hl 5 rfl) ?_
                      refine lv_aload_n hx hb dX1_verdict_194 rfl (lv_at hl 4 rfl) ?_
                      have hc := hh.cut [_] [_, _, _, _] [3, 0, 1, 2, 4] 5 rfl (by decide) rfl
                      refine kI hc hA (rnVN hx hb hml hown hT hK hc (c_X2_rise l D E a2  lv_17  h _) mf_X2_rise nml_X1_66 ⟨rfl, rfl, Nat.le_of_ble_eq_true rfl, Nat.le_of_ble_eq_true rfl⟩ ⟨Nat.le_of_ble_eq_true rfl, Nat.le_of_ble_eq_true rfl⟩ 2 0 rfl rfl hl.1 rfl dX1_verdict_195 (Nat.le_of_ble_eq_true rfl) rfl) (fun r28 lv_29 H locs h hh => ?_)
                      have hh : Wh D A s.heap ((List.flatten [bX1 ad E j_17, bX3 (ad 2) E mc_17, bX3 (ad 3) E md_17, bX2 a2 E lv_29, dC ad E ck (j_17.2.1 1).toNatClampNeg])) _ _ := Wh.back (cs := [_]) (rs := [_, _, _, _]) _ [1, 2, 3, 0, 4] 5 rfl (by decide) rfl hh
                      refine jn_elim h (fun J206 hJ206 h => ?_)
                      have kJ206 : ∀ (z_206 : Int32) (j_206 : Ob) (mc_206 : Ob) (md_206 : Ob) (lv_206 : Ob) (H : Heap) (locs : List Loc) (ls : Array Slot), J206 z_206 j_206 mc_206 md_206 lv_206 → Wh D A s.heap ((List.flatten [bX1 ad E j_206, bX3 (ad 2) E mc_206, bX3 (ad 3) E md_206, bX2 a2 E lv_206, dC ad E ck (j_206.2.1 1).toNatClampNeg])) H locs → lv_has ls 6 [(0, .ref (ad 1 0)), (1, .int (x1)), (2, .ref (a2 0)), (3, .int (p3_17))] → W p l e ({ frames := 3, cells := 0, slots := 0, locals := 71 } : Room) s m args below meth c H locs 0 0 Q (F0 m 206 ls [.int (z_206), .int (p3_17), .ref (ad 1 5)]) := by
                        intro z_206 j_206 mc_206 md_206 lv_206 H locs ls h hh hl
                        rw [hJ206] at h
                        obtain ⟨g31, h⟩ := h
                        refine S_X1_4 [] [_, _, _, _] hx hb hK hh g31 dX1_verdict_206 (fun H locs (hh : Wh D A s.heap ((List.flatten [bX1 ad E ((j_206.1, j_206.2.1, (sa j_206.2.2 4 (upd (j_206.2.2 4) p3_17.toNatClampNeg z_206)))), bX3 (ad 2) E mc_206, bX3 (ad 3) E md_206, bX2 a2 E lv_206, dC ad E ck (j_206.2.1 1).toNatClampNeg])) H locs) => ?_)
                        refine lv_goto (tgt := 327) hx hb dX1_verdict_207 (by decide) ?_
                        exact kJ327 ((j_206.1, j_206.2.1, (sa j_206.2.2 4 (upd (j_206.2.2 4) p3_17.toNatClampNeg z_206)))) mc_206 md_206 lv_206 _ _ _ h hh (lv_sub hl [0, 1, 2, 3] rfl)
                      refine lv_if_eq (tgt := 205) hx hb dX1_verdict_198 (by decide) (fun c30 => ?_) (fun c30 => ?_)
                      · have h := h.1 c30
                        refine lv_iconst (v := 0) hx hb dX1_verdict_205 (by decide) ?_
                        exact kJ206 0 j_17 mc_17 md_17 lv_29 _ _ _ h hh (lv_sub hl [2, 3, 4, 5] rfl)
                      · have h := h.2 c30
                        refine lv_iconst (v := 1) hx hb dX1_verdict_201 (by decide) ?_
                        refine lv_goto (tgt := 206) hx hb dX1_verdict_202 (by decide) ?_
                        exact kJ206 1 j_17 mc_17 md_17 lv_29 _ _ _ h hh (lv_sub hl [2, 3, 4, 5] rfl)
                    · by_cases c37 : ((ck ((p3_17.toNatClampNeg))).2.1 0) = 4
                      · have h := h.2.2.2.2.1 c37
                        refine lv_tableIn (off := 151) (tgt := 210) hx hb dX1_verdict_59 (by rw [c37]; decide) (by rw [c37]; decide) (by rw [c37]; rfl) (by decide) ?_
                        refine lv_aload_n hx hb dX1_verdict_210 rfl (lv_at hl 2 rfl) ?_
                        refine G_X1_28 [] [_, _, _, _] hx hb hT hown hK hh dX1_verdict_211 ?_
                        refine lv_iload_n hx hb dX1_verdict_214 rfl (lv_at hl 5 rfl) ?_
                        refine lv_aload_n hx hb dX1_verdict_215 rfl (lv_at hl 4 rfl) ?_
                        have hc := hh.cut [_] [_, _, _, _] [3, 0, 1, 2, 4] 5 rfl (by decide) rfl
                        refine kI hc hA (rnVN hx hb hml hown hT hK hc (c_X2_allDiffer l D E a2  lv_17  h _) mf_X2_allDiffer nml_X1_70 ⟨rfl, rfl, Nat.le_of_ble_eq_true rfl, Nat.le_of_ble_eq_true rfl⟩ ⟨Nat.le_of_ble_eq_true rfl, Nat.le_of_ble_eq_true rfl⟩ 2 0 rfl rfl hl.1 rfl dX1_verdict_216 (Nat.le_of_ble_eq_true rfl) rfl) (fun r33 lv_34 H locs h hh => ?_)
                        have hh : Wh D A s.heap ((List.flatten [bX1 ad E j_17, bX3 (ad 2) E mc_17, bX3 (ad 3) E md_17, bX2 a2 E lv_34, dC ad E ck (j_17.2.1 1).toNatClampNeg])) _ _ := Wh.back (cs := [_]) (rs := [_, _, _, _]) _ [1, 2, 3, 0, 4] 5 rfl (by decide) rfl hh
                        refine jn_elim h (fun J227 hJ227 h => ?_)
                        have kJ227 : ∀ (z_227 : Int32) (j_227 : Ob) (mc_227 : Ob) (md_227 : Ob) (lv_227 : Ob) (H : Heap) (locs : List Loc) (ls : Array Slot), J227 z_227 j_227 mc_227 md_227 lv_227 → Wh D A s.heap ((List.flatten [bX1 ad E j_227, bX3 (ad 2) E mc_227, bX3 (ad 3) E md_227, bX2 a2 E lv_227, dC ad E ck (j_227.2.1 1).toNatClampNeg])) H locs → lv_has ls 6 [(0, .ref (ad 1 0)), (1, .int (x1)), (2, .ref (a2 0)), (3, .int (p3_17))] → W p l e ({ frames := 3, cells := 0, slots := 0, locals := 71 } : Room) s m args below meth c H locs 0 0 Q (F0 m 227 ls [.int (z_227), .int (p3_17), .ref (ad 1 5)]) := by
                          intro z_227 j_227 mc_227 md_227 lv_227 H locs ls h hh hl
                          rw [hJ227] at h
                          obtain ⟨g36, h⟩ := h
                          refine S_X1_4 [] [_, _, _, _] hx hb hK hh g36 dX1_verdict_227 (fun H locs (hh : Wh D A s.heap ((List.flatten [bX1 ad E ((j_227.1, j_227.2.1, (sa j_227.2.2 4 (upd (j_227.2.2 4) p3_17.toNatClampNeg z_227)))), bX3 (ad 2) E mc_227, bX3 (ad 3) E md_227, bX2 a2 E lv_227, dC ad E ck (j_227.2.1 1).toNatClampNeg])) H locs) => ?_)
                          refine lv_goto (tgt := 327) hx hb dX1_verdict_228 (by decide) ?_
                          exact kJ327 ((j_227.1, j_227.2.1, (sa j_227.2.2 4 (upd (j_227.2.2 4) p3_17.toNatClampNeg z_227)))) mc_227 md_227 lv_227 _ _ _ h hh (lv_sub hl [0, 1, 2, 3] rfl)
                        refine lv_if_eq (tgt := 226) hx hb dX1_verdict_219 (by decide) (fun c35 => ?_) (fun c35 => ?_)
                        · have h := h.1 c35
                          refine lv_iconst (v := 0) hx hb dX1_verdict_226 (by decide) ?_
                          exact kJ227 0 j_17 mc_17 md_17 lv_34 _ _ _ h hh (lv_sub hl [2, 3, 4, 5] rfl)
                        · have h := h.2 c35
                          refine lv_iconst (v := 1) hx hb dX1_verdict_222 (by decide) ?_
                          refine lv_goto (tgt := 227) hx hb dX1_verdict_223 (by decide) ?_
                          exact kJ227 1 j_17 mc_17 md_17 lv_34 _ _ _ h hh (lv_sub hl [2, 3, 4, 5] rfl)
                      · by_cases c44 : ((ck ((p3_17.toNatClampNeg))).2.1 0) = 5
                        · have h := h.2.2.2.2.2.1 c44
                          refine lv_tableIn (off := 172) (tgt := 231) hx hb dX1_verdict_59 (by rw [c44]; decide) (by rw [c44]; decide) (by rw [c44]; rfl) (by decide) ?_
                          refine lv_aload_n hx hb dX1_verdict_231 rfl (lv_at hl 2 rfl) ?_
                          refine G_X1_28 [] [_, _, _, _] hx hb hT hown hK hh dX1_verdict_232 ?_
                          refine lv_iload_n hx hb dX1_verdict_235 rfl (lv_at hl 5 rfl) ?_
                          refine lv_iload hx hb dX1_verdict_236 (lv_at hl 0 rfl) ?_
                          refine jn_elim h (fun J260 hJ260 h => ?_)
                          have kJ260 : ∀ (z_260 : Int32) (j_260 : Ob) (mc_260 : Ob) (md_260 : Ob) (lv_260 : Ob) (H : Heap) (locs : List Loc) (ls : Array Slot), J260 z_260 j_260 mc_260 md_260 lv_260 → Wh D A s.heap ((List.flatten [bX1 ad E j_260, bX3 (ad 2) E mc_260, bX3 (ad 3) E md_260, bX2 a2 E lv_260, dC ad E ck (j_260.2.1 1).toNatClampNeg])) H locs → lv_has ls 6 [(0, .ref (ad 1 0)), (1, .int (x1)), (2, .ref (a2 0)), (3, .int (p3_17))] → W p l e ({ frames := 3, cells := 0, slots := 0, locals := 71 } : Room) s m args below meth c H locs 0 0 Q (F0 m 260 ls [.int (z_260), .int (p3_17), .ref (ad 1 5)]) := by
                            intro z_260 j_260 mc_260 md_260 lv_260 H locs ls h hh hl
                            rw [hJ260] at h
                            obtain ⟨g43, h⟩ := h
                            refine S_X1_4 [] [_, _, _, _] hx hb hK hh g43 dX1_verdict_260 (fun H locs (hh : Wh D A s.heap ((List.flatten [bX1 ad E ((j_260.1, j_260.2.1, (sa j_260.2.2 4 (upd (j_260.2.2 4) p3_17.toNatClampNeg z_260)))), bX3 (ad 2) E mc_260, bX3 (ad 3) E md_260, bX2 a2 E lv_260, dC ad E ck (j_260.2.1 1).toNatClampNeg])) H locs) => ?_)
                            refine lv_goto (tgt := 327) hx hb dX1_verdict_261 (by decide) ?_
                            exact kJ327 ((j_260.1, j_260.2.1, (sa j_260.2.2 4 (upd (j_260.2.2 4) p3_17.toNatClampNeg z_260)))) mc_260 md_260 lv_260 _ _ _ h hh (lv_sub hl [0, 1, 2, 3] rfl)
                          refine lv_if_ne (tgt := 245) hx hb dX1_verdict_238 (by decide) (fun c38 => ?_) (fun c38 => ?_)
                          · have h := h.1 c38
                            refine lv_aload_n hx hb dX1_verdict_245 rfl (lv_at hl 4 rfl) ?_
                            have hc := hh.cut [_] [_, _, _, _] [3, 0, 1, 2, 4] 5 rfl (by decide) rfl
                            refine kI hc hA (rnVN hx hb hml hown hT hK hc (c_X2_sum l D E a2  lv_17  h _) mf_X2_sum nml_X1_56 ⟨rfl, rfl, Nat.le_of_ble_eq_true rfl, Nat.le_of_ble_eq_true rfl⟩ ⟨Nat.le_of_ble_eq_true rfl, Nat.le_of_ble_eq_true rfl⟩ 2 0 rfl rfl hl.1 rfl dX1_verdict_246 (Nat.le_of_ble_eq_true rfl) rfl) (fun r39 lv_40 H locs h hh => ?_)
                            have hh : Wh D A s.heap ((List.flatten [bX1 ad E j_17, bX3 (ad 2) E mc_17, bX3 (ad 3) E md_17, bX2 a2 E lv_40, dC ad E ck (j_17.2.1 1).toNatClampNeg])) _ _ := Wh.back (cs := [_]) (rs := [_, _, _, _]) _ [1, 2, 3, 0, 4] 5 rfl (by decide) rfl hh
                            refine lv_iload hx hb dX1_verdict_249 (lv_at hl 0 rfl) ?_
                            obtain ⟨g41, h⟩ := h
                            refine lv_irem hx hb dX1_verdict_251 g41 ?_
                            refine lv_if_ne (tgt := 259) hx hb dX1_verdict_252 (by decide) (fun c42 => ?_) (fun c42 => ?_)
                            · have h := h.1 c42
                              refine lv_iconst (v := 0) hx hb dX1_verdict_259 (by decide) ?_
                              exact kJ260 0 j_17 mc_17 md_17 lv_40 _ _ _ h hh (lv_sub hl [2, 3, 4, 5] rfl)
                            · have h := h.2 c42
                              refine lv_iconst (v := 1) hx hb dX1_verdict_255 (by decide) ?_
                              refine lv_goto (tgt := 260) hx hb dX1_verdict_256 (by decide) ?_
                              exact kJ260 1 j_17 mc_17 md_17 lv_40 _ _ _ h hh (lv_sub hl [2, 3, 4, 5] rfl)
                          · have h := h.2 c38
                            refine lv_iconst (v := (-1)) hx hb dX1_verdict_241 (by decide) ?_
                            refine lv_goto (tgt := 260) hx hb dX1_verdict_242 (by decide) ?_
                            exact kJ260 ((-1)) j_17 mc_17 md_17 lv_17 _ _ _ h hh (lv_sub hl [2, 3, 4, 5] rfl)
                        · by_cases c48 : ((ck ((p3_17.toNatClampNeg))).2.1 0) = 6
                          · have h := h.2.2.2.2.2.2.1 c48
                            refine lv_tableIn (off := 205) (tgt := 264) hx hb dX1_verdict_59 (by rw [c48]; decide) (by rw [c48]; decide) (by rw [c48]; rfl) (by decide) ?_
                            refine lv_aload_n hx hb dX1_verdict_264 rfl (lv_at hl 2 rfl) ?_
                            refine G_X1_28 [] [_, _, _, _] hx hb hT hown hK hh dX1_verdict_265 ?_
                            refine lv_iload_n hx hb dX1_verdict_268 rfl (lv_at hl 5 rfl) ?_
                            refine lv_aload_n hx hb dX1_verdict_269 rfl (lv_at hl 4 rfl) ?_
                            refine lv_iload hx hb dX1_verdict_270 (lv_at hl 0 rfl) ?_
                            have hc := hh.cut [_] [_, _, _, _] [3, 0, 1, 2, 4] 5 rfl (by decide) rfl
                            refine kI hc hA (rnVN hx hb hml hown hT hK hc (c_X2_noQuotientSeven l D E a2  lv_17 ((ck ((p3_17.toNatClampNeg))).2.1 1) h _) mf_X2_noQuotientSeven nml_X1_73 ⟨rfl, rfl, Nat.le_of_ble_eq_true rfl, Nat.le_of_ble_eq_true rfl⟩ ⟨Nat.le_of_ble_eq_true rfl, Nat.le_of_ble_eq_true rfl⟩ 2 0 rfl rfl hl.1 rfl dX1_verdict_272 (Nat.le_of_ble_eq_true rfl) rfl) (fun r45 lv_46 H locs h hh => ?_)
                            have hh : Wh D A s.heap ((List.flatten [bX1 ad E j_17, bX3 (ad 2) E mc_17, bX3 (ad 3) E md_17, bX2 a2 E lv_46, dC ad E ck (j_17.2.1 1).toNatClampNeg])) _ _ := Wh.back (cs := [_]) (rs := [_, _, _, _]) _ [1, 2, 3, 0, 4] 5 rfl (by decide) rfl hh
                            obtain ⟨g47, h⟩ := h
                            refine S_X1_4 [] [_, _, _, _] hx hb hK hh g47 dX1_verdict_275 (fun H locs (hh : Wh D A s.heap ((List.flatten [bX1 ad E ((j_17.1, j_17.2.1, (sa j_17.2.2 4 (upd (j_17.2.2 4) p3_17.toNatClampNeg r45)))), bX3 (ad 2) E mc_17, bX3 (ad 3) E md_17, bX2 a2 E lv_46, dC ad E ck (j_17.2.1 1).toNatClampNeg])) H locs) => ?_)
                            refine lv_goto (tgt := 327) hx hb dX1_verdict_276 (by decide) ?_
                            exact kJ327 ((j_17.1, j_17.2.1, (sa j_17.2.2 4 (upd (j_17.2.2 4) p3_17.toNatClampNeg r45)))) mc_17 md_17 lv_46 _ _ _ h hh (lv_sub hl [2, 3, 4, 5] rfl)
                          · by_cases c52 : ((ck ((p3_17.toNatClampNeg))).2.1 0) = 7
                            · have h := h.2.2.2.2.2.2.2.1 c52
                              refine lv_tableIn (off := 220) (tgt := 279) hx hb dX1_verdict_59 (by rw [c52]; decide) (by rw [c52]; decide) (by rw [c52]; rfl) (by decide) ?_
                              refine lv_aload_n hx hb dX1_verdict_279 rfl (lv_at hl 2 rfl) ?_
                              refine G_X1_28 [] [_, _, _, _] hx hb hT hown hK hh dX1_verdict_280 ?_
                              refine lv_iload_n hx hb dX1_verdict_283 rfl (lv_at hl 5 rfl) ?_
                              refine lv_aload_n hx hb dX1_verdict_284 rfl (lv_at hl 4 rfl) ?_
                              refine lv_iload hx hb dX1_verdict_285 (lv_at hl 0 rfl) ?_
                              have hc := hh.cut [_] [_, _, _, _] [3, 0, 1, 2, 4] 5 rfl (by decide) rfl
                              refine kI hc hA (rnVN hx hb hml hown hT hK hc (c_X2_noneTellsOf l D E a2  lv_17 ((ck ((p3_17.toNatClampNeg))).2.1 1) h _) mf_X2_noneTellsOf nml_X1_77 ⟨rfl, rfl, Nat.le_of_ble_eq_true rfl, Nat.le_of_ble_eq_true rfl⟩ ⟨Nat.le_of_ble_eq_true rfl, Nat.le_of_ble_eq_true rfl⟩ 2 0 rfl rfl hl.1 rfl dX1_verdict_287 (Nat.le_of_ble_eq_true rfl) rfl) (fun r49 lv_50 H locs h hh => ?_)
                              have hh : Wh D A s.heap ((List.flatten [bX1 ad E j_17, bX3 (ad 2) E mc_17, bX3 (ad 3) E md_17, bX2 a2 E lv_50, dC ad E ck (j_17.2.1 1).toNatClampNeg])) _ _ := Wh.back (cs := [_]) (rs := [_, _, _, _]) _ [1, 2, 3, 0, 4] 5 rfl (by decide) rfl hh
                              obtain ⟨g51, h⟩ := h
                              refine S_X1_4 [] [_, _, _, _] hx hb hK hh g51 dX1_verdict_290 (fun H locs (hh : Wh D A s.heap ((List.flatten [bX1 ad E ((j_17.1, j_17.2.1, (sa j_17.2.2 4 (upd (j_17.2.2 4) p3_17.toNatClampNeg r49)))), bX3 (ad 2) E mc_17, bX3 (ad 3) E md_17, bX2 a2 E lv_50, dC ad E ck (j_17.2.1 1).toNatClampNeg])) H locs) => ?_)
                              refine lv_goto (tgt := 327) hx hb dX1_verdict_291 (by decide) ?_
                              exact kJ327 ((j_17.1, j_17.2.1, (sa j_17.2.2 4 (upd (j_17.2.2 4) p3_17.toNatClampNeg r49)))) mc_17 md_17 lv_50 _ _ _ h hh (lv_sub hl [2, 3, 4, 5] rfl)
                            · by_cases c61 : ((ck ((p3_17.toNatClampNeg))).2.1 0) = 11
                              · have h := h.2.2.2.2.2.2.2.2.1 c61
                                refine lv_tableIn (off := 235) (tgt := 294) hx hb dX1_verdict_59 (by rw [c61]; decide) (by rw [c61]; decide) (by rw [c61]; rfl) (by decide) ?_
                                refine lv_aload_n hx hb dX1_verdict_294 rfl (lv_at hl 2 rfl) ?_
                                refine G_X1_28 [] [_, _, _, _] hx hb hT hown hK hh dX1_verdict_295 ?_
                                refine lv_iload_n hx hb dX1_verdict_298 rfl (lv_at hl 5 rfl) ?_
                                refine lv_aload_n hx hb dX1_verdict_299 rfl (lv_at hl 2 rfl) ?_
                                refine lv_iload hx hb dX1_verdict_300 (lv_at hl 0 rfl) ?_
                                refine lv_aload hx hb dX1_verdict_302 (lv_at hl 1 rfl) ?_
                                obtain ⟨g53, h⟩ := h
                                refine DG_X1_80 [_, _, _, _] [] hx hb hT hown hK hh g53 (v := (ck ((p3_17.toNatClampNeg))).2.1 2) rfl dX1_verdict_304 ?_
                                refine lv_aload_n hx hb dX1_verdict_307 rfl (lv_at hl 4 rfl) ?_
                                have hc := hh.cut [_, _, _, _] [_] [0, 1, 2, 3, 4] 5 rfl (by decide) rfl
                                refine kI hc hA (rnV hx hb hml hown hT hK hc (c_X1_goesWithModel l D E ad a2  j_17 mc_17 md_17 lv_17 ((ck ((p3_17.toNatClampNeg))).2.1 1) ((ck ((p3_17.toNatClampNeg))).2.1 2) h _) mf_X1_goesWithModel kml_X1_83 ⟨rfl, rfl, Nat.le_of_ble_eq_true rfl, Nat.le_of_ble_eq_true rfl⟩ ⟨Nat.le_of_ble_eq_true rfl, Nat.le_of_ble_eq_true rfl⟩ 1 0 rfl rfl hl.1 rfl dX1_verdict_308 (Nat.le_of_ble_eq_true rfl) rfl) (fun r54 u H locs h hh => ?_)
                                obtain ⟨j_55, mc_56, md_57, lv_58⟩ := u
                                obtain ⟨g59, h⟩ := h
                                rw [← g59] at hh
                                have hh : Wh D A s.heap ((List.flatten [bX1 ad E j_55, bX3 (ad 2) E mc_56, bX3 (ad 3) E md_57, bX2 a2 E lv_58, dC ad E ck (j_55.2.1 1).toNatClampNeg])) _ _ := Wh.back (cs := [_, _, _, _]) (rs := [_]) _ [0, 1, 2, 3, 4] 5 rfl (by decide) rfl hh
                                obtain ⟨g60, h⟩ := h
                                refine S_X1_4 [] [_, _, _, _] hx hb hK hh g60 dX1_verdict_311 (fun H locs (hh : Wh D A s.heap ((List.flatten [bX1 ad E ((j_55.1, j_55.2.1, (sa j_55.2.2 4 (upd (j_55.2.2 4) p3_17.toNatClampNeg r54)))), bX3 (ad 2) E mc_56, bX3 (ad 3) E md_57, bX2 a2 E lv_58, dC ad E ck (j_55.2.1 1).toNatClampNeg])) H locs) => ?_)
                                refine lv_goto (tgt := 327) hx hb dX1_verdict_312 (by decide) ?_
                                exact kJ327 ((j_55.1, j_55.2.1, (sa j_55.2.2 4 (upd (j_55.2.2 4) p3_17.toNatClampNeg r54)))) mc_56 md_57 lv_58 _ _ _ h hh (lv_sub hl [2, 3, 4, 5] rfl)
                              · have h := h.2.2.2.2.2.2.2.2.2 ⟨c19, c24, c27, c32, c37, c44, c48, c52, c61⟩
                                refine q_swD (tgt := 315) hx hb dX1_verdict_59 (fun i h1 h2 he => (show i = 0 ∨ i = 1 ∨ i = 2 ∨ i = 3 ∨ i = 4 ∨ i = 5 ∨ i = 6 ∨ i = 7 ∨ i = 8 ∨ i = 9 ∨ i = 10 ∨ i = 11 by omega).elim (fun z => absurd (q_oi he z (by decide)) c19) (fun z => z.elim (fun z => absurd (q_oi he z (by decide)) c24) (fun z => z.elim (fun z => absurd (q_oi he z (by decide)) c27) (fun z => z.elim (fun z => absurd (q_oi he z (by decide)) c32) (fun z => z.elim (fun z => absurd (q_oi he z (by decide)) c37) (fun z => z.elim (fun z => absurd (q_oi he z (by decide)) c44) (fun z => z.elim (fun z => absurd (q_oi he z (by decide)) c48) (fun z => z.elim (fun z => absurd (q_oi he z (by decide)) c52) (fun z => z.elim (fun z => by rw [z]; rfl) (fun z => z.elim (fun z => by rw [z]; rfl) (fun z => z.elim (fun z => by rw [z]; rfl) (fun z => absurd (q_oi he z (by decide)) c61)))))))))))) (by decide) ?_
                                refine lv_aload_n hx hb dX1_verdict_315 rfl (lv_at hl 2 rfl) ?_
                                refine G_X1_28 [] [_, _, _, _] hx hb hT hown hK hh dX1_verdict_316 ?_
                                refine lv_iload_n hx hb dX1_verdict_319 rfl (lv_at hl 5 rfl) ?_
                                refine lv_aload_n hx hb dX1_verdict_320 rfl (lv_at hl 2 rfl) ?_
                                refine lv_aload hx hb dX1_verdict_321 (lv_at hl 1 rfl) ?_
                                have hc := hh.cut [_, _] [_, _, _] [0, 4, 1, 2, 3] 5 rfl (by decide) rfl
                                refine kI hc hA (rnV hx hb hml hown hT hK hc (c_X1_combined l D E ad ck j_17 ((p3_17.toNatClampNeg)) h _) mf_X1_combined kml_X1_87 ⟨rfl, rfl, Nat.le_of_ble_eq_true rfl, Nat.le_of_ble_eq_true rfl⟩ ⟨Nat.le_of_ble_eq_true rfl, Nat.le_of_ble_eq_true rfl⟩ 1 0 rfl rfl hl.1 rfl dX1_verdict_323 (Nat.le_of_ble_eq_true rfl) rfl) (fun r62 j_63 H locs h hh => ?_)
                                have hh : Wh D A s.heap ((List.flatten [bX1 ad E j_63, bX3 (ad 2) E mc_17, bX3 (ad 3) E md_17, bX2 a2 E lv_17, dC ad E ck (j_63.2.1 1).toNatClampNeg])) _ _ := Wh.back (cs := [_, _]) (rs := [_, _, _]) _ [0, 2, 3, 4, 1] 5 rfl (by decide) rfl hh
                                obtain ⟨g64, h⟩ := h
                                refine S_X1_4 [] [_, _, _, _] hx hb hK hh g64 dX1_verdict_326 (fun H locs (hh : Wh D A s.heap ((List.flatten [bX1 ad E ((j_63.1, j_63.2.1, (sa j_63.2.2 4 (upd (j_63.2.2 4) p3_17.toNatClampNeg r62)))), bX3 (ad 2) E mc_17, bX3 (ad 3) E md_17, bX2 a2 E lv_17, dC ad E ck (j_63.2.1 1).toNatClampNeg])) H locs) => ?_)
                                exact kJ327 ((j_63.1, j_63.2.1, (sa j_63.2.2 4 (upd (j_63.2.2 4) p3_17.toNatClampNeg r62)))) mc_17 md_17 lv_17 _ _ _ h hh (lv_sub hl [2, 3, 4, 5] rfl)
          · have h := h.2 c10
            refine lv_astoreN (lv' := [(4, .null), (0, .ref (ad 1 0)), (1, .int (x1)), (2, .ref (a2 0)), (3, .int (p3_17))]) hx hb dX1_verdict_28 hl (by decide) rfl (fun ls hl => ?_)
            refine lv_aload_n hx hb dX1_verdict_30 rfl (lv_at hl 1 rfl) ?_
            refine G_X1_24 [] [_, _, _, _] hx hb hT hown hK hh dX1_verdict_31 ?_
            refine lv_iload_n hx hb dX1_verdict_34 rfl (lv_at hl 4 rfl) ?_
            obtain ⟨g65, h⟩ := h
            refine A_X1_3 [] [_, _, _, _] hx hb hK hh (v := (j_17.2.2 3) p3_17.toNatClampNeg) g65 rfl dX1_verdict_35 ?_
            refine jn_elim h (fun J327 hJ327 h => ?_)
            have kJ327 : ∀ (j_327 : Ob) (mc_327 : Ob) (md_327 : Ob) (lv_327 : Ob) (H : Heap) (locs : List Loc) (ls : Array Slot), J327 j_327 mc_327 md_327 lv_327 → Wh D A s.heap ((List.flatten [bX1 ad E j_327, bX3 (ad 2) E mc_327, bX3 (ad 3) E md_327, bX2 a2 E lv_327, dC ad E ck (j_327.2.1 1).toNatClampNeg])) H locs → lv_has ls 6 [(0, .ref (ad 1 0)), (1, .int (x1)), (2, .ref (a2 0)), (3, .int (p3_17))] → W p l e ({ frames := 3, cells := 0, slots := 0, locals := 71 } : Room) s m args below meth c H locs 0 0 Q (F0 m 327 ls []) := by
              intro j_327 mc_327 md_327 lv_327 H locs ls h hh hl
              rw [hJ327] at h
              refine lv_iinc (v := p3_17 + 1) (lv' := [(3, .int (p3_17 + 1)), (0, .ref (ad 1 0)), (1, .int (x1)), (2, .ref (a2 0))]) hx hb dX1_verdict_327 hl (k := 3) rfl (by rfl) (by decide) rfl (fun ls hl => ?_)
              refine lv_goto (tgt := 17) hx hb dX1_verdict_330 (by decide) ?_
              exact ih (p3_17 + 1) j_327 mc_327 md_327 lv_327 _ _ _ h hh (lv_sub hl [1, 2, 3, 0] rfl)
            refine lv_if_eq (tgt := 327) hx hb dX1_verdict_36 (by decide) (fun c66 => ?_) (fun c66 => ?_)
            · have h := h.1 c66
              exact kJ327 j_17 mc_17 md_17 lv_17 _ _ _ h hh (lv_sub hl [1, 2, 3, 4] rfl)
            · have h := h.2 c66
              refine lv_aloadN hx hb dX1_verdict_39 (lv_at hl 0 rfl) ?_
              refine lv_ifnonnullN hx hb dX1_verdict_41 ?_
              refine lv_goto (tgt := 327) hx hb dX1_verdict_44 (by decide) ?_
              exact kJ327 j_17 mc_17 md_17 lv_17 _ _ _ h hh (lv_sub hl [1, 2, 3, 4] rfl)
    obtain ⟨n, h⟩ := h
    refine hw17   n 0 j_6 mc md lv _ _ _ h hh (lv_sub hl [1, 2, 3, 0] rfl)
  · have h := h.2 c4
    refine lv_iconst (v := 0) hx hb dX1_verdict_8 (by decide) ?_
    exact hret _ _ _ _ _ (j_2, mc, md, lv) dX1_verdict_9 rfl h hh
