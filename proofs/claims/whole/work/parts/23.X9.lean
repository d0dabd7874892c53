def w_X9_ran (x1 : Int32) (x : Ob) (Post : Int32 → Ob → Prop) : Prop := ((x1 < 0) → Post ((-2)) x) ∧ (¬ (x1 < 0) → ((x1 < 8) → (((x.2.1 9) = 0) → Post ((-9)) x) ∧ (¬ ((x.2.1 9) = 0) → vp_in x1 8 ∧ (Post ((x.2.2 8) x1.toNatClampNeg) x))) ∧ (¬ (x1 < 8) → Post ((-2)) x))
set_option maxRecDepth 100000 in
set_option maxHeartbeats 4000000 in
theorem c_X9_ran (l : Launch) (D : va_G) (E : Nat → ClassId) (ad : Nat → Nat → Nat)  (x : Ob) (x1 : Int32) {Post : Int32 → Ob → Prop} (h : w_X9_ran x1 x Post) : CtI l yX9_ran cX9_ran 2 .int ({ frames := 0, cells := 0, slots := 0, locals := 0 } : Room) D E [.ref (ad 0 0), .int (x1)] (List.flatten [bX9 ad E x]) (fun u : Ob => List.flatten [bX9 ad E u]) Post 0 0 := by
  refine enI (by decide +kernel) (Nat.le_of_ble_eq_true rfl) ?_
  intro p e s m args below meth c Q A ls hx hb hml hown hT hK hA hret hh hl
  have hl : lv_has ls 2 [(0, .ref (ad 0 0)), (1, .int (x1))] := hl
  unfold w_X9_ran at h
  refine lv_iload_n hx hb dX9_ran_0 rfl (lv_at hl 1 rfl) ?_
  refine lv_if_lt (tgt := 10) hx hb dX9_ran_1 (by decide) (fun c1 => ?_) (fun c1 => ?_)
  · have h := h.1 c1
    refine lv_bipush (v := (-2)) hx hb dX9_ran_10 (by decide) ?_
    exact hret _ _ _ _ _ x dX9_ran_12 rfl h hh
  · have h := h.2 c1
    refine lv_iload_n hx hb dX9_ran_4 rfl (lv_at hl 1 rfl) ?_
    refine lv_bipush (v := 8) hx hb dX9_ran_5 (by decide) ?_
    refine lv_icmp_lt (tgt := 13) hx hb dX9_ran_7 (by decide) (fun c2 => ?_) (fun c2 => ?_)
    · have h := h.1 c2
      refine lv_aload_n hx hb dX9_ran_13 rfl (lv_at hl 0 rfl) ?_
      refine G_X9_64 [] [] hx hb hT hown hK hh (v := x.2.1 9) rfl dX9_ran_14 ?_
      refine lv_if_eq (tgt := 29) hx hb dX9_ran_17 (by decide) (fun c3 => ?_) (fun c3 => ?_)
      · have h := h.1 c3
        refine lv_bipush (v := (-9)) hx hb dX9_ran_29 (by decide) ?_
        exact hret _ _ _ _ _ x dX9_ran_31 rfl h hh
      · have h := h.2 c3
        refine lv_aload_n hx hb dX9_ran_20 rfl (lv_at hl 0 rfl) ?_
        refine G_X9_60 [] [] hx hb hT hown hK hh dX9_ran_21 ?_
        refine lv_iload_n hx hb dX9_ran_24 rfl (lv_at hl 1 rfl) ?_
        obtain ⟨g4, h⟩ := h
        refine A_X9_8 [] [] hx hb hK hh (v := (x.2.2 8) x1.toNatClampNeg) g4 rfl dX9_ran_25 ?_
        refine lv_goto (tgt := 31) hx hb dX9_ran_26 (by decide) ?_
        exact hret _ _ _ _ _ x dX9_ran_31 rfl h hh
    · have h := h.2 c2
      refine lv_bipush (v := (-2)) hx hb dX9_ran_10 (by decide) ?_
      exact hret _ _ _ _ _ x dX9_ran_12 rfl h hh

def w_X9_show (x1 : Int32) (x : Ob) (sh : Ob) (shl : Ob) (ff : Ob) (fl : Ob) (Post : Int32 → Ob → Ob → Ob → Ob → Ob → Prop) : Prop := (((x.2.1 9) = 0) → Post ((-3)) x sh shl ff fl) ∧ (¬ ((x.2.1 9) = 0) → ((((x.2.2 8) (0 : Int32).toNatClampNeg) = 1) → ((x1 = 0) → w_X9_bringOut   x sh shl fl (fun (r4 : Int32) (x_5 : Ob) (sh_6 : Ob) (shl_7 : Ob) (fl_8 : Ob) => Post r4 x_5 sh_6 shl_7 ff fl_8)) ∧ (¬ (x1 = 0) → w_X9_bringOut   x sh shl ff (fun (r9 : Int32) (x_10 : Ob) (sh_11 : Ob) (shl_12 : Ob) (ff_13 : Ob) => Post r9 x_10 sh_11 shl_12 ff_13 fl))) ∧ (¬ (((x.2.2 8) (0 : Int32).toNatClampNeg) = 1) → Post ((-3)) x sh shl ff fl))
set_option maxRecDepth 100000 in
set_option maxHeartbeats 4000000 in
theorem c_X9_show (l : Launch) (D : va_G) (E : Nat → ClassId) (ad : Nat → Nat → Nat)  (x : Ob) (sh : Ob) (shl : Ob) (ff : Ob) (fl : Ob) (x1 : Int32) {Post : Int32 → Ob → Ob → Ob → Ob → Ob → Prop} (h : w_X9_show x1 x sh shl ff fl Post) : CtI l yX9_show cX9_show 2 .int ({ frames := 4, cells := 0, slots := 0, locals := 98 } : Room) D E [.ref (ad 0 0), .int (x1)] (List.flatten [bX9 ad E x, bX8 (ad 11) E sh, bX2 (ad 12) E shl, bX8 (ad 13) E ff, bX8 (ad 14) E fl]) (fun u : Ob × Ob × Ob × Ob × Ob => List.flatten [bX9 ad E u.1, bX8 (ad 11) E u.2.1, bX2 (ad 12) E u.2.2.1, bX8 (ad 13) E u.2.2.2.1, bX8 (ad 14) E u.2.2.2.2]) (fun (r : Int32) (u : Ob × Ob × Ob × Ob × Ob) => Post r u.1 u.2.1 u.2.2.1 u.2.2.2.1 u.2.2.2.2) 0 0 := by
  refine enI (by decide +kernel) (Nat.le_of_ble_eq_true rfl) ?_
  intro p e s m args below meth c Q A ls hx hb hml hown hT hK hA hret hh hl
  have hl : lv_has ls 2 [(0, .ref (ad 0 0)), (1, .int (x1))] := hl
  unfold w_X9_show at h
  refine lv_aload_n hx hb dX9_show_0 rfl (lv_at hl 0 rfl) ?_
  refine G_X9_64 [] [_, _, _, _] hx hb hT hown hK hh (v := x.2.1 9) rfl dX9_show_1 ?_
  refine lv_if_eq (tgt := 17) hx hb dX9_show_4 (by decide) (fun c1 => ?_) (fun c1 => ?_)
  · have h := h.1 c1
    refine lv_bipush (v := (-3)) hx hb dX9_show_17 (by decide) ?_
    exact hret _ _ _ _ _ (x, sh, shl, ff, fl) dX9_show_19 rfl h hh
  · have h := h.2 c1
    refine lv_aload_n hx hb dX9_show_7 rfl (lv_at hl 0 rfl) ?_
    refine G_X9_60 [] [_, _, _, _] hx hb hT hown hK hh dX9_show_8 ?_
    refine lv_iconst (v := 0) hx hb dX9_show_11 (by decide) ?_
    refine A_X9_8 [] [_, _, _, _] hx hb hK hh (v := (x.2.2 8) (0 : Int32).toNatClampNeg) (by unfold vp_in; decide) rfl dX9_show_12 ?_
    refine lv_iconst (v := 1) hx hb dX9_show_13 (by decide) ?_
    refine lv_icmp_eq (tgt := 20) hx hb dX9_show_14 (by decide) (fun c2 => ?_) (fun c2 => ?_)
    · have h := h.1 c2
      refine lv_aload_n hx hb dX9_show_20 rfl (lv_at hl 0 rfl) ?_
      refine lv_iload_n hx hb dX9_show_21 rfl (lv_at hl 1 rfl) ?_
      refine lv_if_eq (tgt := 32) hx hb dX9_show_22 (by decide) (fun c3 => ?_) (fun c3 => ?_)
      · have h := h.1 c3
        refine lv_aload_n hx hb dX9_show_32 rfl (lv_at hl 0 rfl) ?_
        refine G_X9_70 [] [_, _, _, _] hx hb hT hown hK hh dX9_show_33 ?_
        have hc := hh.cut [_, _, _, _] [_] [0, 1, 2, 4, 3] 5 rfl (by decide) rfl
        refine kI hc hA (rnV hx hb hml hown hT hK hc (c_X9_bringOut l D E ad (ad 14)  x sh shl fl  h _) mf_X9_bringOut kml_X9_143 ⟨rfl, rfl, Nat.le_of_ble_eq_true rfl, Nat.le_of_ble_eq_true rfl⟩ ⟨Nat.le_of_ble_eq_true rfl, Nat.le_of_ble_eq_true rfl⟩ 9 0 rfl rfl hl.1 rfl dX9_show_36 (Nat.le_of_ble_eq_true rfl) rfl) (fun r4 u H locs h hh => ?_)
        obtain ⟨x_5, sh_6, shl_7, fl_8⟩ := u
        have hh : Wh D A s.heap ((List.flatten [bX9 ad E x_5, bX8 (ad 11) E sh_6, bX2 (ad 12) E shl_7, bX8 (ad 13) E ff, bX8 (ad 14) E fl_8])) H locs := Wh.back (cs := [_, _, _, _]) (rs := [_]) _ [0, 1, 2, 4, 3] 5 rfl (by decide) rfl hh
        exact hret _ _ _ _ _ (x_5, sh_6, shl_7, ff, fl_8) dX9_show_39 rfl h hh
      · have h := h.2 c3
        refine lv_aload_n hx hb dX9_show_25 rfl (lv_at hl 0 rfl) ?_
        refine G_X9_67 [] [_, _, _, _] hx hb hT hown hK hh dX9_show_26 ?_
        refine lv_goto (tgt := 36) hx hb dX9_show_29 (by decide) ?_
        have hc := hh.cut [_, _, _, _] [_] [0, 1, 2, 3, 4] 5 rfl (by decide) rfl
        refine kI hc hA (rnV hx hb hml hown hT hK hc (c_X9_bringOut l D E ad (ad 13)  x sh shl ff  h _) mf_X9_bringOut kml_X9_143 ⟨rfl, rfl, Nat.le_of_ble_eq_true rfl, Nat.le_of_ble_eq_true rfl⟩ ⟨Nat.le_of_ble_eq_true rfl, Nat.le_of_ble_eq_true rfl⟩ 9 0 rfl rfl hl.1 rfl dX9_show_36 (Nat.le_of_ble_eq_true rfl) rfl) (fun r9 u H locs h hh => ?_)
        obtain ⟨x_10, sh_11, shl_12, ff_13⟩ := u
        have hh : Wh D A s.heap ((List.flatten [bX9 ad E x_10, bX8 (ad 11) E sh_11, bX2 (ad 12) E shl_12, bX8 (ad 13) E ff_13, bX8 (ad 14) E fl])) H locs := Wh.back (cs := [_, _, _, _]) (rs := [_]) _ [0, 1, 2, 3, 4] 5 rfl (by decide) rfl hh
        exact hret _ _ _ _ _ (x_10, sh_11, shl_12, ff_13, fl) dX9_show_39 rfl h hh
    · have h := h.2 c2
      refine lv_bipush (v := (-3)) hx hb dX9_show_17 (by decide) ?_
      exact hret _ _ _ _ _ (x, sh, shl, ff, fl) dX9_show_19 rfl h hh

def w_X9_effort  (x : Ob) (j : Ob) (Post : Int32 → Ob → Ob → Prop) : Prop := Post (j.2.1 2) x j
set_option maxRecDepth 100000 in
set_option maxHeartbeats 4000000 in
theorem c_X9_effort (l : Launch) (D : va_G) (E : Nat → ClassId) (ad : Nat → Nat → Nat)  (x : Ob) (j : Ob)  {Post : Int32 → Ob → Ob → Prop} (h : w_X9_effort  x j Post) : CtI l yX9_effort cX9_effort 1 .int ({ frames := 0, cells := 0, slots := 0, locals := 0 } : Room) D E [.ref (ad 0 0)] (List.flatten [bX9 ad E x, bX1 ad E j]) (fun u : Ob × Ob => List.flatten [bX9 ad E u.1, bX1 ad E u.2]) (fun (r : Int32) (u : Ob × Ob) => Post r u.1 u.2) 0 0 := by
  refine enI (by decide +kernel) (Nat.le_of_ble_eq_true rfl) ?_
  intro p e s m args below meth c Q A ls hx hb hml hown hT hK hA hret hh hl
  have hl : lv_has ls 1 [(0, .ref (ad 0 0))] := hl
  unfold w_X9_effort at h
  refine lv_aload_n hx hb dX9_effort_0 rfl (lv_at hl 0 rfl) ?_
  refine G_X9_12 [] [_] hx hb hT hown hK hh dX9_effort_1 ?_
  refine G_X9_213 [_] [] hx hb hT hown hK hh (v := j.2.1 2) rfl dX9_effort_4 ?_
  exact hret _ _ _ _ _ (x, j) dX9_effort_7 rfl h hh

def w_X9_told (x1 : Int32) (x : Ob) (k : Ob) (j : Ob) (shl : Ob) (Post : Int32 → Ob → Ob → Ob → Ob → Prop) : Prop := ((x1 = 0) → Post (k.2.1 1) x k j shl) ∧ ((x1 = 1) → Post (j.2.1 1) x k j shl) ∧ ((x1 = 2) → Post (x.2.1 4) x k j shl) ∧ ((x1 = 3) → (((x.2.1 7) = 0) → Post ((-9)) x k j shl) ∧ (¬ ((x.2.1 7) = 0) → Post (shl.2.1 1) x k j shl)) ∧ ((¬ x1 = 0 ∧ ¬ x1 = 1 ∧ ¬ x1 = 2 ∧ ¬ x1 = 3) → Post ((-2)) x k j shl)
set_option maxRecDepth 100000 in
set_option maxHeartbeats 4000000 in
theorem c_X9_told (l : Launch) (D : va_G) (E : Nat → ClassId) (ad : Nat → Nat → Nat)  (x : Ob) (k : Ob) (j : Ob) (shl : Ob) (x1 : Int32) {Post : Int32 → Ob → Ob → Ob → Ob → Prop} (h : w_X9_told x1 x k j shl Post) : CtI l yX9_told cX9_told 2 .int ({ frames := 0, cells := 0, slots := 0, locals := 0 } : Room) D E [.ref (ad 0 0), .int (x1)] (List.flatten [bX9 ad E x, bX5 ad E k, bX1 ad E j, bX2 (ad 12) E shl]) (fun u : Ob × Ob × Ob × Ob => List.flatten [bX9 ad E u.1, bX5 ad E u.2.1, bX1 ad E u.2.2.1, bX2 (ad 12) E u.2.2.2]) (fun (r : Int32) (u : Ob × Ob × Ob × Ob) => Post r u.1 u.2.1 u.2.2.1 u.2.2.2) 0 0 := by
  refine enI (by decide +kernel) (Nat.le_of_ble_eq_true rfl) ?_
  intro p e s m args below meth c Q A ls hx hb hml hown hT hK hA hret hh hl
  have hl : lv_has ls 2 [(0, .ref (ad 0 0)), (1, .int (x1))] := hl
  unfold w_X9_told at h
  refine lv_iload_n hx hb dX9_told_0 rfl (lv_at hl 1 rfl) ?_
  by_cases c1 : x1 = 0
  · have h := h.1 c1
    refine lv_tableIn (off := 31) (tgt := 32) hx hb dX9_told_1 (by rw [c1]; decide) (by rw [c1]; decide) (by rw [c1]; rfl) (by decide) ?_
    refine lv_aload_n hx hb dX9_told_32 rfl (lv_at hl 0 rfl) ?_
    refine G_X9_21 [] [_, _, _] hx hb hT hown hK hh dX9_told_33 ?_
    refine G_X9_216 [_] [_, _] hx hb hT hown hK hh (v := k.2.1 1) rfl dX9_told_36 ?_
    exact hret _ _ _ _ _ (x, k, j, shl) dX9_told_39 rfl h hh
  · by_cases c2 : x1 = 1
    · have h := h.2.1 c2
      refine lv_tableIn (off := 39) (tgt := 40) hx hb dX9_told_1 (by rw [c2]; decide) (by rw [c2]; decide) (by rw [c2]; rfl) (by decide) ?_
      refine lv_aload_n hx hb dX9_told_40 rfl (lv_at hl 0 rfl) ?_
      refine G_X9_12 [] [_, _, _] hx hb hT hown hK hh dX9_told_41 ?_
      refine G_X9_219 [_, _] [_] hx hb hT hown hK hh (v := j.2.1 1) rfl dX9_told_44 ?_
      exact hret _ _ _ _ _ (x, k, j, shl) dX9_told_47 rfl h hh
    · by_cases c3 : x1 = 2
      · have h := h.2.2.1 c3
        refine lv_tableIn (off := 47) (tgt := 48) hx hb dX9_told_1 (by rw [c3]; decide) (by rw [c3]; decide) (by rw [c3]; rfl) (by decide) ?_
        refine lv_aload_n hx hb dX9_told_48 rfl (lv_at hl 0 rfl) ?_
        refine G_X9_38 [] [_, _, _] hx hb hT hown hK hh (v := x.2.1 4) rfl dX9_told_49 ?_
        exact hret _ _ _ _ _ (x, k, j, shl) dX9_told_52 rfl h hh
      · by_cases c5 : x1 = 3
        · have h := h.2.2.2.1 c5
          refine lv_tableIn (off := 52) (tgt := 53) hx hb dX9_told_1 (by rw [c5]; decide) (by rw [c5]; decide) (by rw [c5]; rfl) (by decide) ?_
          refine lv_aload_n hx hb dX9_told_53 rfl (lv_at hl 0 rfl) ?_
          refine G_X9_56 [] [_, _, _] hx hb hT hown hK hh (v := x.2.1 7) rfl dX9_told_54 ?_
          refine lv_if_eq (tgt := 70) hx hb dX9_told_57 (by decide) (fun c4 => ?_) (fun c4 => ?_)
          · have h := h.1 c4
            refine lv_bipush (v := (-9)) hx hb dX9_told_70 (by decide) ?_
            exact hret _ _ _ _ _ (x, k, j, shl) dX9_told_72 rfl h hh
          · have h := h.2 c4
            refine lv_aload_n hx hb dX9_told_60 rfl (lv_at hl 0 rfl) ?_
            refine G_X9_52 [] [_, _, _] hx hb hT hown hK hh dX9_told_61 ?_
            refine G_X9_220 [_, _, _] [] hx hb hT hown hK hh (v := shl.2.1 1) rfl dX9_told_64 ?_
            refine lv_goto (tgt := 72) hx hb dX9_told_67 (by decide) ?_
            exact hret _ _ _ _ _ (x, k, j, shl) dX9_told_72 rfl h hh
        · have h := h.2.2.2.2 ⟨c1, c2, c3, c5⟩
          refine q_swD (tgt := 73) hx hb dX9_told_1 (fun i h1 h2 he => (show i = 0 ∨ i = 1 ∨ i = 2 ∨ i = 3 by omega).elim (fun z => absurd (q_oi he z (by decide)) c1) (fun z => z.elim (fun z => absurd (q_oi he z (by decide)) c2) (fun z => z.elim (fun z => absurd (q_oi he z (by decide)) c3) (fun z => absurd (q_oi he z (by decide)) c5)))) (by decide) ?_
          refine lv_bipush (v := (-2)) hx hb dX9_told_73 (by decide) ?_
          exact hret _ _ _ _ _ (x, k, j, shl) dX9_told_75 rfl h hh
