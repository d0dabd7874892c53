def w_X9_ran (x1 : Int32) (x : Ob) (Post : Int32 → Ob → Prop) : Prop := ((x1 < 0) → Post ((-2)) x) ∧ (¬ (x1 < 0) → ((x1 < 8) → (((x.2.1 9) = 0) → Post ((-9)) x) ∧ (¬ ((x.2.1 9) = 0) → vp_in x1 8 ∧ (Post ((x.2.2 8) x1.toNatClampNeg) x))) ∧ (¬ (x1 < 8) → Post ((-2)) x))
set_option maxRecDepth 100000 in
set_option maxHeartbeats 4000000 in
theorem c_X9_ran (l : Launch) (D : va_G) (E : Nat → ClassId) (ad : Nat → Nat → Nat)  (x : Ob) (x1 : Int32) {Post : Int32 → Ob → Prop} (h : w_X9_ran x1 x Post) : CtI l yX9_ran cX9_ran 2 .int ({ frames := 0, cells := 0, slots := 0, locals := 0 } : Room) D E [.ref (ad 0 0), .int (x1)] (List.flatten [bX9 ad E x]) (fun u : Ob => List.flatten [bX9 ad E u]) Post 0 0 := by
  refine enI (by decide +kernel) (Nat.le_of_ble_eq_true rfl) ?_
  intro p e s m args below meth c Q A ls hx hb hml hown hT hK hA hret hh hl
  have hl : lv_has ls 2 [(0, .ref (ad 0 0)), (1, .int (x1))] := hl
  unfold w_X9_ran at h
  refine lv_iload_n hx hb dX9_ran_0 rfl (lv_at hl 1 rfl) ?_
  refine lv_if_lt (tgt := 10) hx hb dX9_ran_1 (by decide) (fun c1 => ?_) (fun c1 => ?_)
  · have h := h.1 c1
    refine lv_bipush (v := (-2)) hx hb dX9_ran_10 (by decide) ?_
    exact hret _ _ _ _ _ x dX9_ran_12 rfl h hh
  · have h := h.2 c1
    refine lv_iload_n hx hb dX9_ran_4 rfl (lv_at hl 1 rfl) ?_
    refine lv_bipush (v := 8) hx hb dX9_ran_5 (by decide) ?_
    refine lv_icmp_lt (tgt := 13) hx hb dX9_ran_7 (by decide) (fun c2 => ?_) (fun c2 => ?_)
    · have h := h.1 c2
      refine lv_aload_n hx hb dX9_ran_13 rfl (lv_at hl 0 rfl) ?_
      refine G_X9_64 [] [] hx hb hT hown hK hh (v := x.2.1 9) rfl dX9_ran_14 ?_
      refine lv_if_eq (tgt := 29) hx hb dX9_ran_17 (by decide) (fun c3 => ?_) (fun c3 => ?_)
      · have h := h.1 c3
        refine lv_bipush (v := (-9)) hx hb dX9_ran_29 (by decide) ?_
        exact hret _ _ _ _ _ x dX9_ran_31 rfl h hh
      · have h := h.2 c3
        refine lv_aload_n hx hb dX9_ran_20 rfl (lv_at hl 0 rfl) ?_
        refine G_X9_60 [] [] hx hb hT hown hK hh dX9_ran_21 ?_
        refine lv_iload_n hx hb dX9_ran_24 rfl (lv_at hl 1 rfl) ?_
        obtain ⟨g4, h⟩ := h
        refine A_X9_8 [] [] hx hb hK hh (v := (x.2.2 8) x1.toNatClampNeg) g4 rfl dX9_ran_25 ?_
        refine lv_goto (tgt := 31) hx hb dX9_ran_26 (by decide) ?_
        exact hret _ _ _ _ _ x dX9_ran_31 rfl h hh
    · have h := h.2 c2
      refine lv_bipush (v := (-2)) hx hb dX9_ran_10 (by decide) ?_
      exact hret _ _ _ _ _ x dX9_ran_12 rfl h hh

def w_X9_show (x1 : Int32) (x : Ob) (sh : Ob) (shl : Ob) (ff : Ob) (fl : Ob) (Post : Int32 → Ob → Ob → Ob → Ob → Ob → Prop) : Prop := (((x.2.1 9) = 0) → Post ((-3)) x sh shl ff fl) ∧ (¬ ((x.2.1 9) = 0) → ((((x.2.2 8) (0 : Int32).toNatClampNeg) = 1) → ((x1 = 0) → w_X9_bringOut   x sh shl fl (fun (r4 : Int32) (x_5 : Ob) (sh_6 : Ob) (shl_7 : Ob) (fl_8 : Ob) => Post r4 x_5 sh_6 shl_7 ff fl_8)) ∧ (¬ (x1 = 0) → w_X9_bringOut   x sh shl ff (fun (r9 : Int32) (x_10 : Ob) (sh_11 : Ob) (shl_12 : Ob) (ff_13 : Ob) => Post r9 x_10 sh_11 shl_12 ff_13 fl))) ∧ (¬ (((x.2.2 8) (0 : Int32).toNatClampNeg) = 1) → Post ((-3)) x sh shl ff fl))
set_option maxRecDepth 100000 in
set_option maxHeartbeats 4000000 in
theorem c_X9_show (l : Launch) (D : va_G) (E : Nat → ClassId) (ad : Nat → Nat → Nat)  (x : Ob) (sh : Ob) (shl : Ob) (ff : Ob) (fl : Ob) (x1 : Int32) {Post : Int32 → Ob → Ob → Ob → Ob → Ob → Prop} (h : w_X9_show x1 x sh shl ff fl Post) : CtI l yX9_show cX9_show 2 .int ({ frames := 4, cells := 0, slots := 0, locals := 98 } : Room) D E [.ref (ad 0 0), .int (x1)] (List.flatten [bX9 ad E x, bX8 (ad 11) E sh, bX2 (ad 12) E shl, bX8 (ad 13) E ff, bX8 (ad 14) E fl]) (fun u : Ob × Ob × Ob × Ob × Ob => List.flatten [bX9 ad E u.1, bX8 (ad 11) E u.2.1, bX2 (ad 12) E u.2.2.1, bX8 (ad 13) E u.2.2.2.1, bX8 (ad 14) E u.2.2.2.2]) (fun (r : Int32) (u : Ob × Ob × Ob × Ob × Ob) => Post r u.1 u.2.1 u.2.2.1 u.2.2.2.1 u.2.2.2.2) 0 0 := by
  refine enI (by decide +kernel) (Nat.le_of_ble_eq_true rfl) ?_
  intro p e s m args below meth c Q A ls hx hb hml hown hT hK hA hret hh hl
  have hl : lv_has ls 2 [(0, .ref (ad 0 0)), (1, .int (x1))] := hl
  unfold w_X9_show at h
  refine lv_aload_n hx hb dX9_show_0 rfl (lv_at hl 0 rfl) ?_
  refine G_X9_64 [] [_, _, _, _] hx hb hT hown hK hh (v := x.2.1 9) rfl dX9_show_1 ?_
  refine lv_if_eq (tgt := 17) hx hb dX9_show_4 (by decide) (fun c1 => ?_) (fun c1 => ?_)
  · have h := h.1 c1
    refine lv_bipush (v := (-3)) hx hb dX9_show_17 (by decide) ?_
    exact hret _ _ _ _ _ (x, sh, shl, ff, fl) dX9_show_19 rfl h hh
  · have h := h.2 c1
    refine lv_aload_n hx hb dX9_show_7 rfl (lv_at hl 0 rfl) ?_
    refine G_X9_60 [] [_, _, _, _] hx hb hT hown hK hh dX9_show_8 ?_
    refine lv_iconst (v := 0) hx hb dX9_show_11 (by decide) ?_
    refine A_X9_8 [] [_, _, _, _] hx hb hK hh (v := (x.2.2 8) (0 : Int32).toNatClampNeg) (by unfold vp_in; decide) rfl dX9_show_12 ?_
    refine lv_iconst (v := 1) hx hb dX9_show_13 (by decide) ?_
    refine lv_icmp_eq (tgt := 20) hx hb dX9_show_14 (by decide) (fun c2 => ?_) (fun c2 => ?_)
    · have h := h.1 c2
      refine lv_aload_n hx hb dX9_show_20 rfl (lv_at hl 0 rfl) ?_
      refine lv_iload_n hx hb dX9_show_21 rfl (lv_at hl 1 rfl) ?_
      refine lv_if_eq (tgt := 32) hx hb dX9_show_22 (by decide) (fun c3 => ?_) (fun c3 => ?_)
      · have h := h.1 c3
        refine lv_aload_n hx hb dX9_show_32 rfl (lv_at hl 0 rfl) ?_
        refine G_X9_70 [] [_, _, _, _] hx hb hT hown hK hh dX9_show_33 ?_
        have hc := hh.cut [_, _, _, _] [_] [0, 1, 2, 4, 3] 5 rfl (by decide) rfl
        refine kI hc hA (rnV hx hb hml hown hT hK hc (c_X9_bringOut l D E ad (ad 14)  x sh shl fl  h _) mf_X9_bringOut kml_X9_143 ⟨rfl, rfl, Nat.le_of_ble_eq_true rfl, Nat.le_of_ble_eq_true rfl⟩ ⟨Nat.le_of_ble_eq_true rfl, Nat.le_of_ble_eq_true rfl⟩ 9 0 rfl rfl hl.1 rfl dX9_show_36 (Nat.le_of_ble_eq_true rfl) rfl) (fun r4 u H locs h hh => ?_)
        obtain ⟨x_5, sh_6, shl_7, fl_8⟩ := u
        have hh : Wh D A s.heap ((List.flatten [bX9 ad E x_5, bX8 (ad 11) E sh_6, bX2 (ad 12) E shl_7, bX8 (ad 13) E ff, bX8 (ad 14) E fl_8])) _ _ := Wh.back (cs := [_, _, _, _]) (rs := [_]) _ [0, 1, 2, 4, 3] 5 rfl (by decide) rfl hh
        exact hret _ _ _ _ _ (x_5, sh_6, shl_7, ff, fl_8) dX9_show_39 rfl h hh
      · have h := h.2 c3
        refine lv_aload_n hx hb dX9_show_25 rfl (lv_at hl 0 rfl) ?_
        refine G_X9_67 [] [_, _, _, _] hx hb hT hown hK hh dX9_show_26 ?_
        refine lv_goto (tgt := 36) hx hb dX9_show_29 (by decide) ?_
        have hc := hh.cut [_, _, _, _] [_] [0, 1, 2, 3, 4] 5 rfl (by decide) rfl
        refine kI hc hA (rnV hx hb hml hown hT hK hc (c_X9_bringOut l D E ad (ad 13)  x sh shl ff  h _) mf_X9_bringOut kml_X9_143 ⟨rfl, rfl, Nat.le_of_ble_eq_true rfl, Nat.le_of_ble_eq_true rfl⟩ ⟨Nat.le_of_ble_eq_true rfl, Nat.le_of_ble_eq_true rfl⟩ 9 0 rfl rfl hl.1 rfl dX9_show_36 (Nat.le_of_ble_eq_true rfl) rfl) (fun r9 u H locs h hh => ?_)
        obtain ⟨x_10, sh_11, shl_12, ff_13⟩ := u
        have hh : Wh D A s.heap ((List.flatten [bX9 ad E x_10, bX8 (ad 11) E sh_11, bX2 (ad 12) E shl_12, bX8 (ad 13) E ff_13, bX8 (ad 14) E fl])) _ _ := Wh.back (cs := [_, _, _, _]) (rs := [_]) _ [0, 1, 2, 3, 4] 5 rfl (by decide) rfl hh
        exact hret _ _ _ _ _ (x_10, sh_11, shl_12, ff_13, fl) dX9_show_39 rfl h hh
    · have h := h.2 c2
      refine lv_bipush (v := (-3)) hx hb dX9_show_17 (by decide) ?_
      exact hret _ _ _ _ _ (x, sh, shl, ff, fl) dX9_show_19 rfl h hh

def w_X9_effort  (x : Ob) (j : Ob) (Post : Int32 → Ob → Ob → Prop) : Prop := Post (j.2.1 2) x j
set_option maxRecDepth 100000 in
set_option maxHeartbeats 4000000 in
theorem c_X9_effort (l : Launch) (D : va_G) (E : Nat → ClassId) (ad : Nat → Nat → Nat)  (x : Ob) (j : Ob)  {Post : Int32 → Ob → Ob → Prop} (h : w_X9_effort  x j Post) : CtI l yX9_effort cX9_effort 1 .int ({ frames := 0, cells := 0, slots := 0, locals := 0 } : Room) D E [.ref (ad 0 0)] (List.flatten [bX9 ad E x, bX1 ad E j]) (fun u : Ob × Ob => List.flatten [bX9 ad E u.1, bX1 ad E u.2]) (fun (r : Int32) (u : Ob × Ob) => Post r u.1 u.2) 0 0 := by
  refine enI (by decide +kernel) (Nat.le_of_ble_eq_true rfl) ?_
  intro p e s m args below meth c Q A ls hx hb hml hown hT hK hA hret hh hl
  have hl : lv_has ls 1 [(0, .ref (ad 0 0))] := hl
  unfold w_X9_effort at h
  refine lv_aload_n hx hb dX9_effort_0 rfl (lv_at hl 0 rfl) ?_
  refine G_X9_12 [] [_] hx hb hT hown hK hh dX9_effort_1 ?_
  refine G_X9_213 [_] [] hx hb hT hown hK hh (v := j.2.1 2) rfl dX9_effort_4 ?_
  exact hret _ _ _ _ _ (x, j) dX9_effort_7 rfl h hh

def w_X9_told (x1 : Int32) (x : Ob) (k : Ob) (j : Ob) (shl : Ob) (Post : Int32 → Ob → Ob → Ob → Ob → Prop) : Prop := ((x1 = 0) → Post (k.2.1 1) x k j shl) ∧ ((x1 = 1) → Post (j.2.1 1) x k j shl) ∧ ((x1 = 2) → Post (x.2.1 4) x k j shl) ∧ ((x1 = 3) → (((x.2.1 7) = 0) → Post ((-9)) x k j shl) ∧ (¬ ((x.2.1 7) = 0) → Post (shl.2.1 1) x k j shl)) ∧ ((¬ x1 = 0 ∧ ¬ x1 = 1 ∧ ¬ x1 = 2 ∧ ¬ x1 = 3) → Post ((-2)) x k j shl)
set_option maxRecDepth 100000 in
set_option maxHeartbeats 4000000 in
theorem c_X9_told (l : Launch) (D : va_G) (E : Nat → ClassId) (ad : Nat → Nat → Nat)  (x : Ob) (k : Ob) (j : Ob) (shl : Ob) (x1 : Int32) {Post : Int32 → Ob → Ob → Ob → Ob → Prop} (h : w_X9_told x1 x k j shl Post) : CtI l yX9_told cX9_told 2 .int ({ frames := 0, cells := 0, slots := 0, locals := 0 } : Room) D E [.ref (ad 0 0), .int (x1)] (List.flatten [bX9 ad E x, bX5 ad E k, bX1 ad E j, bX2 (ad 12) E shl]) (fun u : Ob × Ob × Ob × Ob => List.flatten [bX9 ad E u.1, bX5 ad E u.2.1, bX1 ad E u.2.2.1, bX2 (ad 12) E u.2.2.2]) (fun (r : Int32) (u : Ob × Ob × Ob × Ob) => Post r u.1 u.2.1 u.2.2.1 u.2.2.2) 0 0 := by
  refine enI (by decide +kernel) (Nat.le_of_ble_eq_true rfl) ?_
  intro p e s m args below meth c Q A ls hx hb hml hown hT hK hA hret hh hl
  have hl : lv_has ls 2 [(0, .ref (ad 0 0)), (1, .int (x1))] := hl
  unfold w_X9_told at h
  refine lv_iload_n hx hb dX9_told_0 rfl (lv_at hl 1 rfl) ?_
  by_cases c1 : x1 = 0
  · have h := h.1 c1
    refine lv_tableIn (off := 31) (tgt := 32) hx hb dX9_told_1 (by rw [c1]; decide) (by rw [c1]; decide) (by rw [c1]; rfl) (by decide) ?_
    refine lv_aload_n hx hb dX9_told_32 rfl (lv_at hl 0 rfl) ?_
    refine G_X9_21 [] [_, _, _] hx hb hT hown hK hh dX9_told_33 ?_
    refine G_X9_216 [_] [_, _] hx hb hT hown hK hh (v := k.2.1 1) rfl dX9_told_36 ?_
    exact hret _ _ _ _ _ (x, k, j, shl) dX9_told_39 rfl h hh
  · by_cases c2 : x1 = 1
    · have h := h.2.1 c2
      refine lv_tableIn (off := 39) (tgt := 40) hx hb dX9_told_1 (by rw [c2]; decide) (by rw [c2]; decide) (by rw [c2]; rfl) (by decide) ?_
      refine lv_aload_n hx hb dX9_told_40 rfl (lv_at hl 0 rfl) ?_
      refine G_X9_12 [] [_, _, _] hx hb hT hown hK hh dX9_told_41 ?_
      refine G_X9_219 [_, _] [_] hx hb hT hown hK hh (v := j.2.1 1) rfl dX9_told_44 ?_
      exact hret _ _ _ _ _ (x, k, j, shl) dX9_told_47 rfl h hh
    · by_cases c3 : x1 = 2
      · have h := h.2.2.1 c3
        refine lv_tableIn (off := 47) (tgt := 48) hx hb dX9_told_1 (by rw [c3]; decide) (by rw [c3]; decide) (by rw [c3]; rfl) (by decide) ?_
        refine lv_aload_n hx hb dX9_told_48 rfl (lv_at hl 0 rfl) ?_
        refine G_X9_38 [] [_, _, _] hx hb hT hown hK hh (v := x.2.1 4) rfl dX9_told_49 ?_
        exact hret _ _ _ _ _ (x, k, j, shl) dX9_told_52 rfl h hh
      · by_cases c5 : x1 = 3
        · have h := h.2.2.2.1 c5
          refine lv_tableIn (off := 52) (tgt := 53) hx hb dX9_told_1 (by rw [c5]; decide) (by rw [c5]; decide) (by rw [c5]; rfl) (by decide) ?_
          refine lv_aload_n hx hb dX9_told_53 rfl (lv_at hl 0 rfl) ?_
          refine G_X9_56 [] [_, _, _] hx hb hT hown hK hh (v := x.2.1 7) rfl dX9_told_54 ?_
          refine lv_if_eq (tgt := 70) hx hb dX9_told_57 (by decide) (fun c4 => ?_) (fun c4 => ?_)
          · have h := h.1 c4
            refine lv_bipush (v := (-9)) hx hb dX9_told_70 (by decide) ?_
            exact hret _ _ _ _ _ (x, k, j, shl) dX9_told_72 rfl h hh
          · have h := h.2 c4
            refine lv_aload_n hx hb dX9_told_60 rfl (lv_at hl 0 rfl) ?_
            refine G_X9_52 [] [_, _, _] hx hb hT hown hK hh dX9_told_61 ?_
            refine G_X9_220 [_, _, _] [] hx hb hT hown hK hh (v := shl.2.1 1) rfl dX9_told_64 ?_
            refine lv_goto (tgt := 72) hx hb dX9_told_67 (by decide) ?_
            exact hret _ _ _ _ _ (x, k, j, shl) dX9_told_72 rfl h hh
        · have h := h.2.2.2.2 ⟨c1, c2, c3, c5⟩
          refine q_swD (tgt := 73) hx hb dX9_told_1 (fun i h1 h2 he => (show i = 0 ∨ i = 1 ∨ i = 2 ∨ i = 3 by omega).elim (fun z => absurd (q_oi he z (by decide)) c1) (fun z => z.elim (fun z => absurd (q_oi he z (by decide)) c2) (fun z => z.elim (fun z => absurd (q_oi he z (by decide)) c3) (fun z => absurd (q_oi he z (by decide)) c5)))) (by decide) ?_
          refine lv_bipush (v := (-2)) hx hb dX9_told_73 (by decide) ?_
          exact hret _ _ _ _ _ (x, k, j, shl) dX9_told_75 rfl h hh

def w_X4_init (x1 : Int32) (x2 : Int32) (x3 : Int32) (x4 : Int32) (x5 : Int32) (x6 : Int32) (x7 : Int32) (o : Ob) (Post : Ob → Prop) : Prop := (x7 = 0 ∨ x7 = 1) ∧ (Post ((o.1, (upd (upd (upd (upd (upd (upd (upd o.2.1 0 x1) 1 x2) 2 x3) 3 x4) 4 x5) 5 x6) 6 x7), o.2.2)))
set_option maxRecDepth 100000 in
set_option maxHeartbeats 4000000 in
theorem c_X4_init (l : Launch) (D : va_G) (E : Nat → ClassId) (a : Nat → Nat)  (o : Ob) (x1 : Int32) (x2 : Int32) (x3 : Int32) (x4 : Int32) (x5 : Int32) (x6 : Int32) (x7 : Int32) {Post : Ob → Prop} (h : w_X4_init x1 x2 x3 x4 x5 x6 x7 o Post) : CtV l yX4_init cX4_init 8 ({ frames := 1, cells := 0, slots := 0, locals := 20 } : Room) D E [.ref (a 0), .int (x1), .int (x2), .int (x3), .int (x4), .int (x5), .int (x6), .int (x7)] (List.flatten [bX4 a E o]) (fun u : Ob => List.flatten [bX4 a E u]) Post 0 0 := by
  refine enV (by decide +kernel) (Nat.le_of_ble_eq_true rfl) ?_
  intro p e s m args below meth c Q A ls hx hb hml hown hT hK hA hin0 hret hh hl
  have hl : lv_has ls 8 [(0, .ref (a 0)), (1, .int (x1)), (2, .int (x2)), (3, .int (x3)), (4, .int (x4)), (5, .int (x5)), (6, .int (x6)), (7, .int (x7))] := hl
  unfold w_X4_init at h
  refine lv_aload_n hx hb dX4_init_0 rfl (lv_at hl 0 rfl) ?_
  refine W.objInit hx hb hown (hT _ kml_X4_1) (hT _ kin_obj) (hT _ kco_obj) rfl (hl.1.trans hml.symm) rfl dX4_init_1 (Nat.le_of_ble_eq_true rfl) (Nat.le_of_ble_eq_true rfl) ?_
  refine W.eq (g2 := F0 m 4 ls []) rfl ?_
  refine lv_aload_n hx hb dX4_init_4 rfl (lv_at hl 0 rfl) ?_
  refine lv_iload_n hx hb dX4_init_5 rfl (lv_at hl 1 rfl) ?_
  refine P_X4_7 [] [] hx hb hT hown hK hh (hin0 rfl) dX4_init_6 (fun H locs (hh : Wh D A s.heap ((List.flatten [bX4 a E ((o.1, (upd o.2.1 0 x1), o.2.2))])) H locs) => ?_)
  refine lv_aload_n hx hb dX4_init_9 rfl (lv_at hl 0 rfl) ?_
  refine lv_iload_n hx hb dX4_init_10 rfl (lv_at hl 2 rfl) ?_
  refine P_X4_13 [] [] hx hb hT hown hK hh (hin0 rfl) dX4_init_11 (fun H locs (hh : Wh D A s.heap ((List.flatten [bX4 a E ((o.1, (upd (upd o.2.1 0 x1) 1 x2), o.2.2))])) H locs) => ?_)
  refine lv_aload_n hx hb dX4_init_14 rfl (lv_at hl 0 rfl) ?_
  refine lv_iload_n hx hb dX4_init_15 rfl (lv_at hl 3 rfl) ?_
  refine P_X4_16 [] [] hx hb hT hown hK hh (hin0 rfl) dX4_init_16 (fun H locs (hh : Wh D A s.heap ((List.flatten [bX4 a E ((o.1, (upd (upd (upd o.2.1 0 x1) 1 x2) 2 x3), o.2.2))])) H locs) => ?_)
  refine lv_aload_n hx hb dX4_init_19 rfl (lv_at hl 0 rfl) ?_
  refine lv_iload hx hb dX4_init_20 (lv_at hl 4 rfl) ?_
  refine P_X4_19 [] [] hx hb hT hown hK hh (hin0 rfl) dX4_init_22 (fun H locs (hh : Wh D A s.heap ((List.flatten [bX4 a E ((o.1, (upd (upd (upd (upd o.2.1 0 x1) 1 x2) 2 x3) 3 x4), o.2.2))])) H locs) => ?_)
  refine lv_aload_n hx hb dX4_init_25 rfl (lv_at hl 0 rfl) ?_
  refine lv_iload hx hb dX4_init_26 (lv_at hl 5 rfl) ?_
  refine P_X4_22 [] [] hx hb hT hown hK hh (hin0 rfl) dX4_init_28 (fun H locs (hh : Wh D A s.heap ((List.flatten [bX4 a E ((o.1, (upd (upd (upd (upd (upd o.2.1 0 x1) 1 x2) 2 x3) 3 x4) 4 x5), o.2.2))])) H locs) => ?_)
  refine lv_aload_n hx hb dX4_init_31 rfl (lv_at hl 0 rfl) ?_
  refine lv_iload hx hb dX4_init_32 (lv_at hl 6 rfl) ?_
  refine P_X4_25 [] [] hx hb hT hown hK hh (hin0 rfl) dX4_init_34 (fun H locs (hh : Wh D A s.heap ((List.flatten [bX4 a E ((o.1, (upd (upd (upd (upd (upd (upd o.2.1 0 x1) 1 x2) 2 x3) 3 x4) 4 x5) 5 x6), o.2.2))])) H locs) => ?_)
  refine lv_aload_n hx hb dX4_init_37 rfl (lv_at hl 0 rfl) ?_
  refine lv_iload hx hb dX4_init_38 (lv_at hl 7 rfl) ?_
  obtain ⟨g1, h⟩ := h
  refine P_X4_28 [] [] hx hb hT hown hK hh g1 (hin0 rfl) dX4_init_40 (fun H locs (hh : Wh D A s.heap ((List.flatten [bX4 a E ((o.1, (upd (upd (upd (upd (upd (upd (upd o.2.1 0 x1) 1 x2) 2 x3) 3 x4) 4 x5) 5 x6) 6 x7), o.2.2))])) H locs) => ?_)
  exact hret _ _ _ _ (o.1, (upd (upd (upd (upd (upd (upd (upd o.2.1 0 x1) 1 x2) 2 x3) 3 x4) 4 x5) 5 x6) 6 x7), o.2.2) dX4_init_43 h hh

def w_X0_init (x1 : Int32) (x2 : Int32) (x3 : Int32) (o : Ob) (Post : Ob → Prop) : Prop := Post ((o.1, (upd (upd (upd o.2.1 0 x1) 1 x2) 2 x3), o.2.2))
set_option maxRecDepth 100000 in
set_option maxHeartbeats 4000000 in
theorem c_X0_init (l : Launch) (D : va_G) (E : Nat → ClassId) (a : Nat → Nat)  (o : Ob) (x1 : Int32) (x2 : Int32) (x3 : Int32) {Post : Ob → Prop} (h : w_X0_init x1 x2 x3 o Post) : CtV l yX0_init cX0_init 4 ({ frames := 1, cells := 0, slots := 0, locals := 20 } : Room) D E [.ref (a 0), .int (x1), .int (x2), .int (x3)] (List.flatten [bX0 a E o]) (fun u : Ob => List.flatten [bX0 a E u]) Post 0 0 := by
  refine enV (by decide +kernel) (Nat.le_of_ble_eq_true rfl) ?_
  intro p e s m args below meth c Q A ls hx hb hml hown hT hK hA hin0 hret hh hl
  have hl : lv_has ls 4 [(0, .ref (a 0)), (1, .int (x1)), (2, .int (x2)), (3, .int (x3))] := hl
  unfold w_X0_init at h
  refine lv_aload_n hx hb dX0_init_0 rfl (lv_at hl 0 rfl) ?_
  refine W.objInit hx hb hown (hT _ kml_X0_1) (hT _ kin_obj) (hT _ kco_obj) rfl (hl.1.trans hml.symm) rfl dX0_init_1 (Nat.le_of_ble_eq_true rfl) (Nat.le_of_ble_eq_true rfl) ?_
  refine W.eq (g2 := F0 m 4 ls []) rfl ?_
  refine lv_aload_n hx hb dX0_init_4 rfl (lv_at hl 0 rfl) ?_
  refine lv_iload_n hx hb dX0_init_5 rfl (lv_at hl 1 rfl) ?_
  refine P_X0_7 [] [] hx hb hT hown hK hh (hin0 rfl) dX0_init_6 (fun H locs (hh : Wh D A s.heap ((List.flatten [bX0 a E ((o.1, (upd o.2.1 0 x1), o.2.2))])) H locs) => ?_)
  refine lv_aload_n hx hb dX0_init_9 rfl (lv_at hl 0 rfl) ?_
  refine lv_iload_n hx hb dX0_init_10 rfl (lv_at hl 2 rfl) ?_
  refine P_X0_13 [] [] hx hb hT hown hK hh (hin0 rfl) dX0_init_11 (fun H locs (hh : Wh D A s.heap ((List.flatten [bX0 a E ((o.1, (upd (upd o.2.1 0 x1) 1 x2), o.2.2))])) H locs) => ?_)
  refine lv_aload_n hx hb dX0_init_14 rfl (lv_at hl 0 rfl) ?_
  refine lv_iload_n hx hb dX0_init_15 rfl (lv_at hl 3 rfl) ?_
  refine P_X0_16 [] [] hx hb hT hown hK hh (hin0 rfl) dX0_init_16 (fun H locs (hh : Wh D A s.heap ((List.flatten [bX0 a E ((o.1, (upd (upd (upd o.2.1 0 x1) 1 x2) 2 x3), o.2.2))])) H locs) => ?_)
  exact hret _ _ _ _ (o.1, (upd (upd (upd o.2.1 0 x1) 1 x2) 2 x3), o.2.2) dX0_init_19 h hh

def w_X5_add (mk : Nat → Ob)  (k : Ob) (nw : Ob) (Post : Int32 → (Nat → Ob) → Ob → Prop) : Prop := (((k.2.1 1) < 0) → Post ((-4)) mk k) ∧ (¬ ((k.2.1 1) < 0) → ((30 ≤ (k.2.1 1)) → Post ((-4)) mk k) ∧ (¬ (30 ≤ (k.2.1 1)) → (((nw.2.1 5) ≤ 24) → vp_in (k.2.1 1) 30 ∧ ((((k.2.1 1) + 1)).toNatClampNeg = (k.2.1 1).toNatClampNeg + 1 ∧ (Post ((((k.2.1 1) + 1)) - 1) (um mk (k.2.1 1).toNatClampNeg nw) ((k.1, (upd k.2.1 1 (((k.2.1 1) + 1))), k.2.2))))) ∧ (¬ ((nw.2.1 5) ≤ 24) → Post ((-4)) mk k)))
set_option maxRecDepth 100000 in
set_option maxHeartbeats 4000000 in
theorem c_X5_add (l : Launch) (D : va_G) (E : Nat → ClassId) (ad : Nat → Nat → Nat) (aq : Nat → Nat) (mk : Nat → Ob)  (k : Ob) (nw : Ob)  {Post : Int32 → (Nat → Ob) → Ob → Prop} (h : w_X5_add mk  k nw Post) : CtI l yX5_add cX5_add 2 .int ({ frames := 0, cells := 0, slots := 0, locals := 0 } : Room) D E [.ref (ad 4 0), .ref (aq 0)] (List.flatten [bX5 ad E k, bX4 aq E nw, dK ad E mk (k.2.1 1).toNatClampNeg]) (fun u : (Nat → Nat → Nat) × (Nat → Ob) × Ob => List.flatten [bX5 u.1 E u.2.2, dK u.1 E u.2.1 (u.2.2.2.1 1).toNatClampNeg]) (fun (r : Int32) (u : (Nat → Nat → Nat) × (Nat → Ob) × Ob) => AgO 21 ad u.1 ∧ Post r u.2.1 u.2.2) 0 0 := by
  refine enI (by decide +kernel) (Nat.le_of_ble_eq_true rfl) ?_
  intro p e s m args below meth c Q A ls hx hb hml hown hT hK hA hret hh hl
  have hl : lv_has ls 2 [(0, .ref (ad 4 0)), (1, .ref (aq 0))] := hl
  unfold w_X5_add at h
  refine lv_aload_n hx hb dX5_add_0 rfl (lv_at hl 0 rfl) ?_
  refine G_X5_17 [] [_, _] hx hb hT hown hK hh (v := k.2.1 1) rfl dX5_add_1 ?_
  refine lv_if_lt (tgt := 25) hx hb dX5_add_4 (by decide) (fun c1 => ?_) (fun c1 => ?_)
  · have h := h.1 c1
    refine lv_bipush (v := (-4)) hx hb dX5_add_25 (by decide) ?_
    exact hret _ _ _ _ _ (ad, mk, k) dX5_add_27 rfl ⟨AgO.rf, h⟩ (Wh.less [_] [_] hh)
  · have h := h.2 c1
    refine lv_aload_n hx hb dX5_add_7 rfl (lv_at hl 0 rfl) ?_
    refine G_X5_17 [] [_, _] hx hb hT hown hK hh (v := k.2.1 1) rfl dX5_add_8 ?_
    refine lv_bipush (v := 30) hx hb dX5_add_11 (by decide) ?_
    refine lv_icmp_ge (tgt := 25) hx hb dX5_add_13 (by decide) (fun c2 => ?_) (fun c2 => ?_)
    · have h := h.1 c2
      refine lv_bipush (v := (-4)) hx hb dX5_add_25 (by decide) ?_
      exact hret _ _ _ _ _ (ad, mk, k) dX5_add_27 rfl ⟨AgO.rf, h⟩ (Wh.less [_] [_] hh)
    · have h := h.2 c2
      refine lv_aload_n hx hb dX5_add_16 rfl (lv_at hl 1 rfl) ?_
      refine G_X5_46 [_] [_] hx hb hT hown hK hh (v := nw.2.1 5) rfl dX5_add_17 ?_
      refine lv_bipush (v := 24) hx hb dX5_add_20 (by decide) ?_
      refine lv_icmp_le (tgt := 28) hx hb dX5_add_22 (by decide) (fun c3 => ?_) (fun c3 => ?_)
      · have h := h.1 c3
        refine lv_aload_n hx hb dX5_add_28 rfl (lv_at hl 0 rfl) ?_
        refine G_X5_11 [] [_, _] hx hb hT hown hK hh dX5_add_29 ?_
        refine lv_aload_n hx hb dX5_add_32 rfl (lv_at hl 0 rfl) ?_
        refine G_X5_17 [] [_, _] hx hb hT hown hK hh (v := k.2.1 1) rfl dX5_add_33 ?_
        refine lv_aload_n hx hb dX5_add_36 rfl (lv_at hl 1 rfl) ?_
        obtain ⟨g4, h⟩ := h
        have hh : Wh D A s.heap ((List.flatten [bX5m ad E k (cf (k.2.1 1).toNatClampNeg (ad 21)), bX4 aq E nw, dK ad E mk (k.2.1 1).toNatClampNeg])) _ _ := hh
        refine AST_X5 [] [_, _] hx hb hK hh (mem_blk [_] [_] List.mem_cons_self) g4 dX5_add_37 (fun H locs (hh : Wh D A s.heap ((List.flatten [bX5m ad E k (va_up (cf (k.2.1 1).toNatClampNeg (ad 21)) (k.2.1 1).toNatClampNeg (some (aq 0))), bX4 aq E nw, dK ad E mk (k.2.1 1).toNatClampNeg])) H locs) => ?_)
        refine lv_aload_n hx hb dX5_add_38 rfl (lv_at hl 0 rfl) ?_
        refine lv_dup hx hb dX5_add_39 rfl ?_
        refine Gm_X5_17 [] [_, _] hx hb hT hown hK hh (v := k.2.1 1) rfl dX5_add_40 ?_
        refine lv_iconst (v := 1) hx hb dX5_add_43 (by decide) ?_
        refine lv_iadd hx hb dX5_add_44 ?_
        refine Pm_X5_17 [] [_, _] hx hb hT hown hK hh dX5_add_45 (fun H locs (hh : Wh D A s.heap ((List.flatten [bX5m ad E ((k.1, (upd k.2.1 1 (((k.2.1 1) + 1))), k.2.2)) (va_up (cf (k.2.1 1).toNatClampNeg (ad 21)) (k.2.1 1).toNatClampNeg (some (aq 0))), bX4 aq E nw, dK ad E mk (k.2.1 1).toNatClampNeg])) H locs) => ?_)
        refine lv_aload_n hx hb dX5_add_48 rfl (lv_at hl 0 rfl) ?_
        refine Gm_X5_17 [] [_, _] hx hb hT hown hK hh (v := ((k.2.1 1) + 1)) rfl dX5_add_49 ?_
        refine lv_iconst (v := 1) hx hb dX5_add_52 (by decide) ?_
        refine lv_isub hx hb dX5_add_53 ?_
        obtain ⟨g5, h⟩ := h
        exact hret _ _ _ _ _ ((ua ad 21 (k.2.1 1).toNatClampNeg (aq 0)), um mk (k.2.1 1).toNatClampNeg nw, (k.1, (upd k.2.1 1 (((k.2.1 1) + 1))), k.2.2)) dX5_add_54 rfl ⟨AgO.ua, h⟩ (fold_X5_add g5 hh)
      · have h := h.2 c3
        refine lv_bipush (v := (-4)) hx hb dX5_add_25 (by decide) ?_
        exact hret _ _ _ _ _ (ad, mk, k) dX5_add_27 rfl ⟨AgO.rf, h⟩ (Wh.less [_] [_] hh)

def w_X1_add (ck : Nat → Ob)  (j : Ob) (nw : Ob) (Post : Int32 → (Nat → Ob) → Ob → Prop) : Prop := (((j.2.1 1) < 0) → Post ((-4)) ck j) ∧ (¬ ((j.2.1 1) < 0) → (((j.2.1 1) < 40) → vp_in (j.2.1 1) 40 ∧ ((((j.2.1 1) + 1)).toNatClampNeg = (j.2.1 1).toNatClampNeg + 1 ∧ (Post ((((j.2.1 1) + 1)) - 1) (um ck (j.2.1 1).toNatClampNeg nw) ((j.1, (upd j.2.1 1 (((j.2.1 1) + 1))), j.2.2))))) ∧ (¬ ((j.2.1 1) < 40) → Post ((-4)) ck j))
set_option maxRecDepth 100000 in
set_option maxHeartbeats 4000000 in
theorem c_X1_add (l : Launch) (D : va_G) (E : Nat → ClassId) (ad : Nat → Nat → Nat) (aq : Nat → Nat) (ck : Nat → Ob)  (j : Ob) (nw : Ob)  {Post : Int32 → (Nat → Ob) → Ob → Prop} (h : w_X1_add ck  j nw Post) : CtI l yX1_add cX1_add 2 .int ({ frames := 0, cells := 0, slots := 0, locals := 0 } : Room) D E [.ref (ad 1 0), .ref (aq 0)] (List.flatten [bX1 ad E j, bX0 aq E nw, dC ad E ck (j.2.1 1).toNatClampNeg]) (fun u : (Nat → Nat → Nat) × (Nat → Ob) × Ob => List.flatten [bX1 u.1 E u.2.2, dC u.1 E u.2.1 (u.2.2.2.1 1).toNatClampNeg]) (fun (r : Int32) (u : (Nat → Nat → Nat) × (Nat → Ob) × Ob) => AgO 20 ad u.1 ∧ Post r u.2.1 u.2.2) 0 0 := by
  refine enI (by decide +kernel) (Nat.le_of_ble_eq_true rfl) ?_
  intro p e s m args below meth c Q A ls hx hb hml hown hT hK hA hret hh hl
  have hl : lv_has ls 2 [(0, .ref (ad 1 0)), (1, .ref (aq 0))] := hl
  unfold w_X1_add at h
  refine lv_aload_n hx hb dX1_add_0 rfl (lv_at hl 0 rfl) ?_
  refine G_X1_17 [] [_, _] hx hb hT hown hK hh (v := j.2.1 1) rfl dX1_add_1 ?_
  refine lv_if_lt (tgt := 16) hx hb dX1_add_4 (by decide) (fun c1 => ?_) (fun c1 => ?_)
  · have h := h.1 c1
    refine lv_bipush (v := (-4)) hx hb dX1_add_16 (by decide) ?_
    exact hret _ _ _ _ _ (ad, ck, j) dX1_add_18 rfl ⟨AgO.rf, h⟩ (Wh.less [_] [_] hh)
  · have h := h.2 c1
    refine lv_aload_n hx hb dX1_add_7 rfl (lv_at hl 0 rfl) ?_
    refine G_X1_17 [] [_, _] hx hb hT hown hK hh (v := j.2.1 1) rfl dX1_add_8 ?_
    refine lv_bipush (v := 40) hx hb dX1_add_11 (by decide) ?_
    refine lv_icmp_lt (tgt := 19) hx hb dX1_add_13 (by decide) (fun c2 => ?_) (fun c2 => ?_)
    · have h := h.1 c2
      refine lv_aload_n hx hb dX1_add_19 rfl (lv_at hl 0 rfl) ?_
      refine G_X1_11 [] [_, _] hx hb hT hown hK hh dX1_add_20 ?_
      refine lv_aload_n hx hb dX1_add_23 rfl (lv_at hl 0 rfl) ?_
      refine G_X1_17 [] [_, _] hx hb hT hown hK hh (v := j.2.1 1) rfl dX1_add_24 ?_
      refine lv_aload_n hx hb dX1_add_27 rfl (lv_at hl 1 rfl) ?_
      obtain ⟨g3, h⟩ := h
      have hh : Wh D A s.heap ((List.flatten [bX1m ad E j (cf (j.2.1 1).toNatClampNeg (ad 20)), bX0 aq E nw, dC ad E ck (j.2.1 1).toNatClampNeg])) _ _ := hh
      refine AST_X1 [] [_, _] hx hb hK hh (mem_blk [_] [_] List.mem_cons_self) g3 dX1_add_28 (fun H locs (hh : Wh D A s.heap ((List.flatten [bX1m ad E j (va_up (cf (j.2.1 1).toNatClampNeg (ad 20)) (j.2.1 1).toNatClampNeg (some (aq 0))), bX0 aq E nw, dC ad E ck (j.2.1 1).toNatClampNeg])) H locs) => ?_)
      refine lv_aload_n hx hb dX1_add_29 rfl (lv_at hl 0 rfl) ?_
      refine lv_dup hx hb dX1_add_30 rfl ?_
      refine Gm_X1_17 [] [_, _] hx hb hT hown hK hh (v := j.2.1 1) rfl dX1_add_31 ?_
      refine lv_iconst (v := 1) hx hb dX1_add_34 (by decide) ?_
      refine lv_iadd hx hb dX1_add_35 ?_
      refine Pm_X1_17 [] [_, _] hx hb hT hown hK hh dX1_add_36 (fun H locs (hh : Wh D A s.heap ((List.flatten [bX1m ad E ((j.1, (upd j.2.1 1 (((j.2.1 1) + 1))), j.2.2)) (va_up (cf (j.2.1 1).toNatClampNeg (ad 20)) (j.2.1 1).toNatClampNeg (some (aq 0))), bX0 aq E nw, dC ad E ck (j.2.1 1).toNatClampNeg])) H locs) => ?_)
      refine lv_aload_n hx hb dX1_add_39 rfl (lv_at hl 0 rfl) ?_
      refine Gm_X1_17 [] [_, _] hx hb hT hown hK hh (v := ((j.2.1 1) + 1)) rfl dX1_add_40 ?_
      refine lv_iconst (v := 1) hx hb dX1_add_43 (by decide) ?_
      refine lv_isub hx hb dX1_add_44 ?_
      obtain ⟨g4, h⟩ := h
      exact hret _ _ _ _ _ ((ua ad 20 (j.2.1 1).toNatClampNeg (aq 0)), um ck (j.2.1 1).toNatClampNeg nw, (j.1, (upd j.2.1 1 (((j.2.1 1) + 1))), j.2.2)) dX1_add_45 rfl ⟨AgO.ua, h⟩ (fold_X1_add g4 hh)
    · have h := h.2 c2
      refine lv_bipush (v := (-4)) hx hb dX1_add_16 (by decide) ?_
      exact hret _ _ _ _ _ (ad, ck, j) dX1_add_18 rfl ⟨AgO.rf, h⟩ (Wh.less [_] [_] hh)

def w_X9_whole (mk : Nat → Ob) (x1 : Int32) (x2 : Int32) (x : Ob) (k : Ob) (Post : Int32 → (Nat → Ob) → Ob → Ob → Prop) : Prop := ((x1 < ((-1000000))) → Post ((-2)) mk x k) ∧ (¬ (x1 < ((-1000000))) → ((1000000 < x2) → Post ((-2)) mk x k) ∧ (¬ (1000000 < x2) → ((x1 ≤ x2) → w_X4_init (0 : Int32) x1 x2 (0 : Int32) (0 : Int32) (1 : Int32) (0 : Int32) ob0 (fun (nw_5 : Ob) => w_X5_add mk k nw_5 (fun (r6 : Int32) (mk_7 : Nat → Ob) (k_8 : Ob) => Post r6 mk_7 x k_8))) ∧ (¬ (x1 ≤ x2) → Post ((-2)) mk x k)))
set_option maxRecDepth 100000 in
set_option maxHeartbeats 4000000 in
theorem c_X9_whole (l : Launch) (D : va_G) (E : Nat → ClassId) (ad : Nat → Nat → Nat) (mk : Nat → Ob)  (x : Ob) (k : Ob) (x1 : Int32) (x2 : Int32) {Post : Int32 → (Nat → Ob) → Ob → Ob → Prop} (h : w_X9_whole mk x1 x2 x k Post) : CtI l yX9_whole cX9_whole 3 .int ({ frames := 2, cells := 1, slots := 7, locals := 47 } : Room) D E [.ref (ad 0 0), .int (x1), .int (x2)] (List.flatten [bX9 ad E x, bX5 ad E k, dK ad E mk (k.2.1 1).toNatClampNeg]) (fun u : (Nat → Nat → Nat) × (Nat → Ob) × Ob × Ob => List.flatten [bX9 u.1 E u.2.2.1, bX5 u.1 E u.2.2.2, dK u.1 E u.2.1 (u.2.2.2.2.1 1).toNatClampNeg]) (fun (r : Int32) (u : (Nat → Nat → Nat) × (Nat → Ob) × Ob × Ob) => AgO 21 ad u.1 ∧ Post r u.2.1 u.2.2.1 u.2.2.2) 1 7 := by
  refine enI (by decide +kernel) (Nat.le_of_ble_eq_true rfl) ?_
  intro p e s m args below meth c Q A ls hx hb hml hown hT hK hA hret hh hl
  have hl : lv_has ls 3 [(0, .ref (ad 0 0)), (1, .int (x1)), (2, .int (x2))] := hl
  unfold w_X9_whole at h
  refine lv_iload_n hx hb dX9_whole_0 rfl (lv_at hl 1 rfl) ?_
  refine lv_ldc (v := (-1000000)) hx hb hown (hT _ kcn_X9_76) dX9_whole_1 ?_
  refine lv_icmp_lt (tgt := 17) hx hb dX9_whole_3 (by decide) (fun c1 => ?_) (fun c1 => ?_)
  · have h := h.1 c1
    refine lv_bipush (v := (-2)) hx hb dX9_whole_17 (by decide) ?_
    refine W.widen (k := 1) (n := 7) (by omega) (by omega) ?_
    exact hret _ _ _ _ _ (ad, mk, x, k) dX9_whole_19 rfl ⟨AgO.rf, h⟩ hh
  · have h := h.2 c1
    refine lv_iload_n hx hb dX9_whole_6 rfl (lv_at hl 2 rfl) ?_
    refine lv_ldc (v := 1000000) hx hb hown (hT _ kcn_X9_77) dX9_whole_7 ?_
    refine lv_icmp_gt (tgt := 17) hx hb dX9_whole_9 (by decide) (fun c2 => ?_) (fun c2 => ?_)
    · have h := h.1 c2
      refine lv_bipush (v := (-2)) hx hb dX9_whole_17 (by decide) ?_
      refine W.widen (k := 1) (n := 7) (by omega) (by omega) ?_
      exact hret _ _ _ _ _ (ad, mk, x, k) dX9_whole_19 rfl ⟨AgO.rf, h⟩ hh
    · have h := h.2 c2
      refine lv_iload_n hx hb dX9_whole_12 rfl (lv_at hl 1 rfl) ?_
      refine lv_iload_n hx hb dX9_whole_13 rfl (lv_at hl 2 rfl) ?_
      refine lv_icmp_le (tgt := 20) hx hb dX9_whole_14 (by decide) (fun c3 => ?_) (fun c3 => ?_)
      · have h := h.1 c3
        refine lv_aload_n hx hb dX9_whole_20 rfl (lv_at hl 0 rfl) ?_
        refine G_X9_21 [] [_, _] hx hb hT hown hK hh dX9_whole_21 ?_
        refine N_X9_78 hx hb hT hown hK hh hA (Nat.le_of_ble_eq_true rfl) (Nat.le_of_ble_eq_true rfl) dX9_whole_24 (fun q4 H hh => ?_)
        have hh : Wh D A s.heap ((List.flatten [bX9 ad E x, bX5 ad E k, bX4 (fun _ : Nat => q4) E ob0, dK ad E mk (k.2.1 1).toNatClampNeg])) _ _ := Wh.ord _ [0, 1, 3, 2] 4 rfl (by decide) rfl hh.snoc
        refine W.widen (k := 1) (n := 7) (by omega) (by omega) ?_
        refine lv_dup hx hb dX9_whole_27 rfl ?_
        refine lv_iconst (v := 0) hx hb dX9_whole_28 (by decide) ?_
        refine lv_iload_n hx hb dX9_whole_29 rfl (lv_at hl 1 rfl) ?_
        refine lv_iload_n hx hb dX9_whole_30 rfl (lv_at hl 2 rfl) ?_
        refine lv_iconst (v := 0) hx hb dX9_whole_31 (by decide) ?_
        refine lv_iconst (v := 0) hx hb dX9_whole_32 (by decide) ?_
        refine lv_iconst (v := 1) hx hb dX9_whole_33 (by decide) ?_
        refine lv_iconst (v := 0) hx hb dX9_whole_34 (by decide) ?_
        have hc := hh.cut [_] [_, _, _] [2, 0, 1, 3] 4 rfl (by decide) rfl
        refine kV hc hA (rnIN hx hb hml hown hT hK hc (c_X4_init l D E (fun _ : Nat => q4) ob0 (0 : Int32) x1 x2 (0 : Int32) (0 : Int32) (1 : Int32) (0 : Int32) h _) mf_X4_init nml_X9_80 ⟨rfl, rfl, Nat.le_of_ble_eq_true rfl, Nat.le_of_ble_eq_true rfl⟩ ⟨Nat.le_of_ble_eq_true rfl, Nat.le_of_ble_eq_true rfl⟩ hl.1 rfl dX9_whole_35 (Nat.le_of_ble_eq_true rfl) rfl) (fun nw_5 H locs h hh => ?_)
        have hh : Wh D A s.heap ((List.flatten [bX9 ad E x, bX5 ad E k, bX4 (fun _ : Nat => q4) E nw_5, dK ad E mk (k.2.1 1).toNatClampNeg])) _ _ := Wh.back (cs := [_]) (rs := [_, _, _]) _ [1, 2, 0, 3] 4 rfl (by decide) rfl hh
        have hc := hh.cut [_, _, _] [_] [1, 2, 3, 0] 4 rfl (by decide) rfl
        refine kI hc hA (rnVN hx hb hml hown hT hK hc (c_X5_add l D E ad (fun _ : Nat => q4) mk k nw_5 h _) mf_X5_add nml_X9_83 ⟨rfl, rfl, Nat.le_of_ble_eq_true rfl, Nat.le_of_ble_eq_true rfl⟩ ⟨Nat.le_of_ble_eq_true rfl, Nat.le_of_ble_eq_true rfl⟩ 5 0 rfl rfl hl.1 rfl dX9_whole_38 (Nat.le_of_ble_eq_true rfl) rfl) (fun r6 u H locs h hh => ?_)
        obtain ⟨ad_9, mk_7, k_8⟩ := u
        obtain ⟨g10, h⟩ := h
        rw [show bX9 ad E x = bX9 ad_9 E x from bX9_ag (Or.inr rfl) g10] at hh
        have hh : Wh D A s.heap (List.flatten [bX9 ad_9 E x, bX5 ad_9 E k_8, dK ad_9 E mk_7 (k_8.2.1 1).toNatClampNeg]) _ _ := Wh.back (cs := [_, _]) (rs := [_]) _ [2, 0, 1] 3 rfl (by decide) rfl hh
        refine W.widen (k := 1) (n := 7) (by omega) (by omega) ?_
        exact hret _ _ _ _ _ (ad_9, mk_7, x, k_8) dX9_whole_41 rfl ⟨g10, h⟩ hh
      · have h := h.2 c3
        refine lv_bipush (v := (-2)) hx hb dX9_whole_17 (by decide) ?_
        refine W.widen (k := 1) (n := 7) (by omega) (by omega) ?_
        exact hret _ _ _ _ _ (ad, mk, x, k) dX9_whole_19 rfl ⟨AgO.rf, h⟩ hh

def w_X9_listOf (mk : Nat → Ob) (x1 : Int32) (x2 : Int32) (x : Ob) (k : Ob) (Post : Int32 → (Nat → Ob) → Ob → Ob → Prop) : Prop := w_X5_at  x1 k (fun (r1 : Option Nat) (k_2 : Ob) => (k_2.2.1 1 = k.2.1 1) ∧ ((r1 = none → Post ((-1)) mk x k_2) ∧ (∀ i4 : Nat, r1 = some i4 → ((x2 < 1) → Post ((-2)) mk x k_2) ∧ (¬ (x2 < 1) → ((x2 ≤ 24) → i4 < (k_2.2.1 1).toNatClampNeg ∧ (i4 < (k_2.2.1 1).toNatClampNeg ∧ (w_X4_init (1 : Int32) x1 x2 (0 : Int32) (0 : Int32) (x2 * ((mk i4).2.1 5)) ((mk i4).2.1 6) ob0 (fun (nw_10 : Ob) => w_X5_add mk k_2 nw_10 (fun (r11 : Int32) (mk_12 : Nat → Ob) (k_13 : Ob) => Post r11 mk_12 x k_13))))) ∧ (¬ (x2 ≤ 24) → Post ((-2)) mk x k_2)))))
set_option maxRecDepth 100000 in
set_option maxHeartbeats 4000000 in
theorem c_X9_listOf (l : Launch) (D : va_G) (E : Nat → ClassId) (ad : Nat → Nat → Nat) (mk : Nat → Ob)  (x : Ob) (k : Ob) (x1 : Int32) (x2 : Int32) {Post : Int32 → (Nat → Ob) → Ob → Ob → Prop} (h : w_X9_listOf mk x1 x2 x k Post) : CtI l yX9_listOf cX9_listOf 4 .int ({ frames := 2, cells := 1, slots := 7, locals := 47 } : Room) D E [.ref (ad 0 0), .int (x1), .int (x2)] (List.flatten [bX9 ad E x, bX5 ad E k, dK ad E mk (k.2.1 1).toNatClampNeg]) (fun u : (Nat → Nat → Nat) × (Nat → Ob) × Ob × Ob => List.flatten [bX9 u.1 E u.2.2.1, bX5 u.1 E u.2.2.2, dK u.1 E u.2.1 (u.2.2.2.2.1 1).toNatClampNeg]) (fun (r : Int32) (u : (Nat → Nat → Nat) × (Nat → Ob) × Ob × Ob) => AgO 21 ad u.1 ∧ Post r u.2.1 u.2.2.1 u.2.2.2) 1 7 := by
  refine enI (by decide +kernel) (Nat.le_of_ble_eq_true rfl) ?_
  intro p e s m args below meth c Q A ls hx hb hml hown hT hK hA hret hh hl
  have hl : lv_has ls 4 [(0, .ref (ad 0 0)), (1, .int (x1)), (2, .int (x2))] := hl
  unfold w_X9_listOf at h
  refine lv_aload_n hx hb dX9_listOf_0 rfl (lv_at hl 0 rfl) ?_
  refine G_X9_21 [] [_, _] hx hb hT hown hK hh dX9_listOf_1 ?_
  refine lv_iload_n hx hb dX9_listOf_4 rfl (lv_at hl 1 rfl) ?_
  have hc := hh.cut [_] [_, _] [1, 0, 2] 3 rfl (by decide) rfl
  refine kE hc hA (rnVN hx hb hml hown hT hK hc (c_X5_at l D E ad  k x1 h _) mf_X5_at nml_X9_87 ⟨rfl, rfl, Nat.le_of_ble_eq_true rfl, Nat.le_of_ble_eq_true rfl⟩ ⟨Nat.le_of_ble_eq_true rfl, Nat.le_of_ble_eq_true rfl⟩ 5 0 rfl rfl hl.1 rfl dX9_listOf_5 (Nat.le_of_ble_eq_true rfl) rfl) (fun r1 k_2 H locs h hh => ?_)
  obtain ⟨g3, h⟩ := h
  rw [← g3] at hh
  have hh : Wh D A s.heap ((List.flatten [bX9 ad E x, bX5 ad E k_2, dK ad E mk (k_2.2.1 1).toNatClampNeg])) _ _ := Wh.back (cs := [_]) (rs := [_, _]) _ [1, 0, 2] 3 rfl (by decide) rfl hh
  cases r1 with
  | none =>
    have h := h.1 rfl
    refine lv_astore_nN (lv' := [(3, .null), (0, .ref (ad 0 0)), (1, .int (x1)), (2, .int (x2))]) hx hb dX9_listOf_8 rfl hl (by decide) rfl (fun ls hl => ?_)
    refine lv_aload_nN hx hb dX9_listOf_9 rfl (lv_at hl 0 rfl) ?_
    refine lv_ifnonnullN hx hb dX9_listOf_10 ?_
    refine lv_iconst (v := (-1)) hx hb dX9_listOf_13 (by decide) ?_
    refine W.widen (k := 1) (n := 7) (by omega) (by omega) ?_
    exact hret _ _ _ _ _ (ad, mk, x, k_2) dX9_listOf_14 rfl ⟨AgO.rf, h⟩ hh
  | some i4 =>
    have h := h.2 i4 rfl
    refine lv_astore_n (lv' := [(3, .ref (ad 21 i4)), (0, .ref (ad 0 0)), (1, .int (x1)), (2, .int (x2))]) hx hb dX9_listOf_8 rfl hl (by decide) rfl (fun ls hl => ?_)
    refine lv_aload_n hx hb dX9_listOf_9 rfl (lv_at hl 0 rfl) ?_
    refine lv_ifnonnull (tgt := 15) hx hb dX9_listOf_10 (by decide) ?_
    refine lv_iload_n hx hb dX9_listOf_15 rfl (lv_at hl 3 rfl) ?_
    refine lv_iconst (v := 1) hx hb dX9_listOf_16 (by decide) ?_
    refine lv_icmp_lt (tgt := 26) hx hb dX9_listOf_17 (by decide) (fun c5 => ?_) (fun c5 => ?_)
    · have h := h.1 c5
      refine lv_bipush (v := (-2)) hx hb dX9_listOf_26 (by decide) ?_
      refine W.widen (k := 1) (n := 7) (by omega) (by omega) ?_
      exact hret _ _ _ _ _ (ad, mk, x, k_2) dX9_listOf_28 rfl ⟨AgO.rf, h⟩ hh
    · have h := h.2 c5
      refine lv_iload_n hx hb dX9_listOf_20 rfl (lv_at hl 3 rfl) ?_
      refine lv_bipush (v := 24) hx hb dX9_listOf_21 (by decide) ?_
      refine lv_icmp_le (tgt := 29) hx hb dX9_listOf_23 (by decide) (fun c6 => ?_) (fun c6 => ?_)
      · have h := h.1 c6
        refine lv_aload_n hx hb dX9_listOf_29 rfl (lv_at hl 1 rfl) ?_
        refine G_X9_21 [] [_, _] hx hb hT hown hK hh dX9_listOf_30 ?_
        refine N_X9_78 hx hb hT hown hK hh hA (Nat.le_of_ble_eq_true rfl) (Nat.le_of_ble_eq_true rfl) dX9_listOf_33 (fun q7 H hh => ?_)
        have hh : Wh D A s.heap ((List.flatten [bX9 ad E x, bX5 ad E k_2, bX4 (fun _ : Nat => q7) E ob0, dK ad E mk (k_2.2.1 1).toNatClampNeg])) _ _ := Wh.ord _ [0, 1, 3, 2] 4 rfl (by decide) rfl hh.snoc
        refine W.widen (k := 1) (n := 7) (by omega) (by omega) ?_
        refine lv_dup hx hb dX9_listOf_36 rfl ?_
        refine lv_iconst (v := 1) hx hb dX9_listOf_37 (by decide) ?_
        refine lv_iload_n hx hb dX9_listOf_38 rfl (lv_at hl 2 rfl) ?_
        refine lv_iload_n hx hb dX9_listOf_39 rfl (lv_at hl 3 rfl) ?_
        refine lv_iconst (v := 0) hx hb dX9_listOf_40 (by decide) ?_
        refine lv_iconst (v := 0) hx hb dX9_listOf_41 (by decide) ?_
        refine lv_iload_n hx hb dX9_listOf_42 rfl (lv_at hl 3 rfl) ?_
        refine lv_aload_n hx hb dX9_listOf_43 rfl (lv_at hl 0 rfl) ?_
        obtain ⟨g8, h⟩ := h
        refine DG_X9_91 [_, _, _] [] hx hb hT hown hK hh g8 (v := (mk i4).2.1 5) rfl dX9_listOf_44 ?_
        refine lv_imul hx hb dX9_listOf_47 ?_
        refine lv_aload_n hx hb dX9_listOf_48 rfl (lv_at hl 0 rfl) ?_
        obtain ⟨g9, h⟩ := h
        refine DG_X9_94 [_, _, _] [] hx hb hT hown hK hh g9 (v := (mk i4).2.1 6) rfl dX9_listOf_49 ?_
        have hc := hh.cut [_] [_, _, _] [2, 0, 1, 3] 4 rfl (by decide) rfl
        refine kV hc hA (rnIN hx hb hml hown hT hK hc (c_X4_init l D E (fun _ : Nat => q7) ob0 (1 : Int32) x1 x2 (0 : Int32) (0 : Int32) (x2 * ((mk i4).2.1 5)) ((mk i4).2.1 6) h _) mf_X4_init nml_X9_80 ⟨rfl, rfl, Nat.le_of_ble_eq_true rfl, Nat.le_of_ble_eq_true rfl⟩ ⟨Nat.le_of_ble_eq_true rfl, Nat.le_of_ble_eq_true rfl⟩ hl.1 rfl dX9_listOf_52 (Nat.le_of_ble_eq_true rfl) rfl) (fun nw_10 H locs h hh => ?_)
        have hh : Wh D A s.heap ((List.flatten [bX9 ad E x, bX5 ad E k_2, bX4 (fun _ : Nat => q7) E nw_10, dK ad E mk (k_2.2.1 1).toNatClampNeg])) _ _ := Wh.back (cs := [_]) (rs := [_, _, _]) _ [1, 2, 0, 3] 4 rfl (by decide) rfl hh
        have hc := hh.cut [_, _, _] [_] [1, 2, 3, 0] 4 rfl (by decide) rfl
        refine kI hc hA (rnVN hx hb hml hown hT hK hc (c_X5_add l D E ad (fun _ : Nat => q7) mk k_2 nw_10 h _) mf_X5_add nml_X9_83 ⟨rfl, rfl, Nat.le_of_ble_eq_true rfl, Nat.le_of_ble_eq_true rfl⟩ ⟨Nat.le_of_ble_eq_true rfl, Nat.le_of_ble_eq_true rfl⟩ 5 0 rfl rfl hl.1 rfl dX9_listOf_55 (Nat.le_of_ble_eq_true rfl) rfl) (fun r11 u H locs h hh => ?_)
        obtain ⟨ad_14, mk_12, k_13⟩ := u
        obtain ⟨g15, h⟩ := h
        rw [show bX9 ad E x = bX9 ad_14 E x from bX9_ag (Or.inr rfl) g15] at hh
        have hh : Wh D A s.heap (List.flatten [bX9 ad_14 E x, bX5 ad_14 E k_13, dK ad_14 E mk_12 (k_13.2.1 1).toNatClampNeg]) _ _ := Wh.back (cs := [_, _]) (rs := [_]) _ [2, 0, 1] 3 rfl (by decide) rfl hh
        refine W.widen (k := 1) (n := 7) (by omega) (by omega) ?_
        exact hret _ _ _ _ _ (ad_14, mk_12, x, k_13) dX9_listOf_58 rfl ⟨g15, h⟩ hh
      · have h := h.2 c6
        refine lv_bipush (v := (-2)) hx hb dX9_listOf_26 (by decide) ?_
        refine W.widen (k := 1) (n := 7) (by omega) (by omega) ?_
        exact hret _ _ _ _ _ (ad, mk, x, k_2) dX9_listOf_28 rfl ⟨AgO.rf, h⟩ hh
