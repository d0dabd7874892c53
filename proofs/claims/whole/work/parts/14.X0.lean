def w_J9_floorMod_7cf53 (x0 : Int32) (x1 : Int32)  (Post : Int32 → Prop) : Prop := ¬ x1 = 0 ∧ (((0 ≤ (x0 ^^^ x1)) → Post (x0 - x0 / x1 * x1)) ∧ (¬ (0 ≤ (x0 ^^^ x1)) → (((x0 - x0 / x1 * x1) = 0) → Post (x0 - x0 / x1 * x1)) ∧ (¬ ((x0 - x0 / x1 * x1) = 0) → Post ((x0 - x0 / x1 * x1) + x1))))
set_option maxRecDepth 100000 in
set_option maxHeartbeats 4000000 in
theorem c_J9_floorMod_7cf53 (l : Launch) (D : va_G) (E : Nat → ClassId)    (x0 : Int32) (x1 : Int32) {Post : Int32 → Prop} (h : w_J9_floorMod_7cf53 x0 x1  Post) : CtI l yJ9_floorMod_7cf53 cJ9_floorMod_7cf53 3 .int ({ frames := 0, cells := 0, slots := 0, locals := 0 } : Room) D E [.int (x0), .int (x1)] [] (fun _ : Unit => []) (fun (r : Int32) (u : Unit) => Post r ) 0 0 := by
  refine enIF (by decide +kernel) (Nat.le_of_ble_eq_true rfl) ?_
  intro p e s m args below meth c Q A ls hx hb hml hown hT hK hA hret hh hl
  have hl : lv_has ls 3 [(0, .int (x0)), (1, .int (x1))] := hl
  unfold w_J9_floorMod_7cf53 at h
  refine lv_iload_n hx hb dJ9_floorMod_7cf53_0 rfl (lv_at hl 0 rfl) ?_
  refine lv_iload_n hx hb dJ9_floorMod_7cf53_1 rfl (lv_at hl 1 rfl) ?_
  obtain ⟨g1, h⟩ := h
  refine lv_irem hx hb dJ9_floorMod_7cf53_2 g1 ?_
  refine lv_istore_n (lv' := [(2, .int (x0 - x0 / x1 * x1)), (0, .int (x0)), (1, .int (x1))]) hx hb dJ9_floorMod_7cf53_3 rfl hl (by decide) rfl (fun ls hl => ?_)
  refine lv_iload_n hx hb dJ9_floorMod_7cf53_4 rfl (lv_at hl 1 rfl) ?_
  refine lv_iload_n hx hb dJ9_floorMod_7cf53_5 rfl (lv_at hl 2 rfl) ?_
  refine lv_ixor hx hb dJ9_floorMod_7cf53_6 ?_
  refine lv_if_ge (tgt := 18) hx hb dJ9_floorMod_7cf53_7 (by decide) (fun c2 => ?_) (fun c2 => ?_)
  · have h := h.1 c2
    refine lv_iload_n hx hb dJ9_floorMod_7cf53_18 rfl (lv_at hl 0 rfl) ?_
    exact hret _ _ _ _ _ () dJ9_floorMod_7cf53_19 rfl h hh
  · have h := h.2 c2
    refine lv_iload_n hx hb dJ9_floorMod_7cf53_10 rfl (lv_at hl 0 rfl) ?_
    refine lv_if_eq (tgt := 18) hx hb dJ9_floorMod_7cf53_11 (by decide) (fun c3 => ?_) (fun c3 => ?_)
    · have h := h.1 c3
      refine lv_iload_n hx hb dJ9_floorMod_7cf53_18 rfl (lv_at hl 0 rfl) ?_
      exact hret _ _ _ _ _ () dJ9_floorMod_7cf53_19 rfl h hh
    · have h := h.2 c3
      refine lv_iload_n hx hb dJ9_floorMod_7cf53_14 rfl (lv_at hl 0 rfl) ?_
      refine lv_iload_n hx hb dJ9_floorMod_7cf53_15 rfl (lv_at hl 2 rfl) ?_
      refine lv_iadd hx hb dJ9_floorMod_7cf53_16 ?_
      exact hret _ _ _ _ _ () dJ9_floorMod_7cf53_17 rfl h hh

def w_J9_max_7cf53 (x0 : Int32) (x1 : Int32)  (Post : Int32 → Prop) : Prop := ((x0 < x1) → Post x1) ∧ (¬ (x0 < x1) → Post x0)
set_option maxRecDepth 100000 in
set_option maxHeartbeats 4000000 in
theorem c_J9_max_7cf53 (l : Launch) (D : va_G) (E : Nat → ClassId)    (x0 : Int32) (x1 : Int32) {Post : Int32 → Prop} (h : w_J9_max_7cf53 x0 x1  Post) : CtI l yJ9_max_7cf53 cJ9_max_7cf53 2 .int ({ frames := 0, cells := 0, slots := 0, locals := 0 } : Room) D E [.int (x0), .int (x1)] [] (fun _ : Unit => []) (fun (r : Int32) (u : Unit) => Post r ) 0 0 := by
  refine enIF (by decide +kernel) (Nat.le_of_ble_eq_true rfl) ?_
  intro p e s m args below meth c Q A ls hx hb hml hown hT hK hA hret hh hl
  have hl : lv_has ls 2 [(0, .int (x0)), (1, .int (x1))] := hl
  unfold w_J9_max_7cf53 at h
  refine lv_iload_n hx hb dJ9_max_7cf53_0 rfl (lv_at hl 0 rfl) ?_
  refine lv_iload_n hx hb dJ9_max_7cf53_1 rfl (lv_at hl 1 rfl) ?_
  refine lv_icmp_lt (tgt := 9) hx hb dJ9_max_7cf53_2 (by decide) (fun c1 => ?_) (fun c1 => ?_)
  · have h := h.1 c1
    refine lv_iload_n hx hb dJ9_max_7cf53_9 rfl (lv_at hl 1 rfl) ?_
    exact hret _ _ _ _ _ () dJ9_max_7cf53_10 rfl h hh
  · have h := h.2 c1
    refine lv_iload_n hx hb dJ9_max_7cf53_5 rfl (lv_at hl 0 rfl) ?_
    refine lv_goto (tgt := 10) hx hb dJ9_max_7cf53_6 (by decide) ?_
    exact hret _ _ _ _ _ () dJ9_max_7cf53_10 rfl h hh

def w_J9_min_7cf53 (x0 : Int32) (x1 : Int32)  (Post : Int32 → Prop) : Prop := ((x1 < x0) → Post x1) ∧ (¬ (x1 < x0) → Post x0)
set_option maxRecDepth 100000 in
set_option maxHeartbeats 4000000 in
theorem c_J9_min_7cf53 (l : Launch) (D : va_G) (E : Nat → ClassId)    (x0 : Int32) (x1 : Int32) {Post : Int32 → Prop} (h : w_J9_min_7cf53 x0 x1  Post) : CtI l yJ9_min_7cf53 cJ9_min_7cf53 2 .int ({ frames := 0, cells := 0, slots := 0, locals := 0 } : Room) D E [.int (x0), .int (x1)] [] (fun _ : Unit => []) (fun (r : Int32) (u : Unit) => Post r ) 0 0 := by
  refine enIF (by decide +kernel) (Nat.le_of_ble_eq_true rfl) ?_
  intro p e s m args below meth c Q A ls hx hb hml hown hT hK hA hret hh hl
  have hl : lv_has ls 2 [(0, .int (x0)), (1, .int (x1))] := hl
  unfold w_J9_min_7cf53 at h
  refine lv_iload_n hx hb dJ9_min_7cf53_0 rfl (lv_at hl 0 rfl) ?_
  refine lv_iload_n hx hb dJ9_min_7cf53_1 rfl (lv_at hl 1 rfl) ?_
  refine lv_icmp_gt (tgt := 9) hx hb dJ9_min_7cf53_2 (by decide) (fun c1 => ?_) (fun c1 => ?_)
  · have h := h.1 c1
    refine lv_iload_n hx hb dJ9_min_7cf53_9 rfl (lv_at hl 1 rfl) ?_
    exact hret _ _ _ _ _ () dJ9_min_7cf53_10 rfl h hh
  · have h := h.2 c1
    refine lv_iload_n hx hb dJ9_min_7cf53_5 rfl (lv_at hl 0 rfl) ?_
    refine lv_goto (tgt := 10) hx hb dJ9_min_7cf53_6 (by decide) ?_
    exact hret _ _ _ _ _ () dJ9_min_7cf53_10 rfl h hh

def w_X0_asksFirst  (o : Ob) (Post : Int32 → Ob → Prop) : Prop := (((o.2.1 0) = 8) → Post 1 o) ∧ (¬ ((o.2.1 0) = 8) → (((o.2.1 0) = 9) → Post 1 o) ∧ (¬ ((o.2.1 0) = 9) → ((¬ (o.2.1 0) = 10) → Post 0 o) ∧ (((o.2.1 0) = 10) → Post 1 o)))
set_option maxRecDepth 100000 in
set_option maxHeartbeats 4000000 in
theorem c_X0_asksFirst (l : Launch) (D : va_G) (E : Nat → ClassId) (a : Nat → Nat)  (o : Ob)  {Post : Int32 → Ob → Prop} (h : w_X0_asksFirst  o Post) : CtI l yX0_asksFirst cX0_asksFirst 1 .boolean ({ frames := 0, cells := 0, slots := 0, locals := 0 } : Room) D E [.ref (a 0)] (List.flatten [bX0 a E o]) (fun u : Ob => List.flatten [bX0 a E u]) Post 0 0 := by
  refine enI (by decide +kernel) (Nat.le_of_ble_eq_true rfl) ?_
  intro p e s m args below meth c Q A ls hx hb hml hown hT hK hA hret hh hl
  have hl : lv_has ls 1 [(0, .ref (a 0))] := hl
  unfold w_X0_asksFirst at h
  refine lv_aload_n hx hb dX0_asksFirst_0 rfl (lv_at hl 0 rfl) ?_
  refine G_X0_7 [] [] hx hb hT hown hK hh (v := o.2.1 0) rfl dX0_asksFirst_1 ?_
  refine lv_bipush (v := 8) hx hb dX0_asksFirst_4 (by decide) ?_
  refine lv_icmp_eq (tgt := 27) hx hb dX0_asksFirst_6 (by decide) (fun c1 => ?_) (fun c1 => ?_)
  · have h := h.1 c1
    refine lv_iconst (v := 1) hx hb dX0_asksFirst_27 (by decide) ?_
    refine lv_goto (tgt := 32) hx hb dX0_asksFirst_28 (by decide) ?_
    exact hret _ _ _ _ _ o dX0_asksFirst_32 rfl h hh
  · have h := h.2 c1
    refine lv_aload_n hx hb dX0_asksFirst_9 rfl (lv_at hl 0 rfl) ?_
    refine G_X0_7 [] [] hx hb hT hown hK hh (v := o.2.1 0) rfl dX0_asksFirst_10 ?_
    refine lv_bipush (v := 9) hx hb dX0_asksFirst_13 (by decide) ?_
    refine lv_icmp_eq (tgt := 27) hx hb dX0_asksFirst_15 (by decide) (fun c2 => ?_) (fun c2 => ?_)
    · have h := h.1 c2
      refine lv_iconst (v := 1) hx hb dX0_asksFirst_27 (by decide) ?_
      refine lv_goto (tgt := 32) hx hb dX0_asksFirst_28 (by decide) ?_
      exact hret _ _ _ _ _ o dX0_asksFirst_32 rfl h hh
    · have h := h.2 c2
      refine lv_aload_n hx hb dX0_asksFirst_18 rfl (lv_at hl 0 rfl) ?_
      refine G_X0_7 [] [] hx hb hT hown hK hh (v := o.2.1 0) rfl dX0_asksFirst_19 ?_
      refine lv_bipush (v := 10) hx hb dX0_asksFirst_22 (by decide) ?_
      refine lv_icmp_ne (tgt := 31) hx hb dX0_asksFirst_24 (by decide) (fun c3 => ?_) (fun c3 => ?_)
      · have h := h.1 c3
        refine lv_iconst (v := 0) hx hb dX0_asksFirst_31 (by decide) ?_
        exact hret _ _ _ _ _ o dX0_asksFirst_32 rfl h hh
      · have h := h.2 c3
        refine lv_iconst (v := 1) hx hb dX0_asksFirst_27 (by decide) ?_
        refine lv_goto (tgt := 32) hx hb dX0_asksFirst_28 (by decide) ?_
        exact hret _ _ _ _ _ o dX0_asksFirst_32 rfl h hh

def w_X0_asksSecond  (o : Ob) (Post : Int32 → Ob → Prop) : Prop := (((o.2.1 0) = 8) → Post 1 o) ∧ (¬ ((o.2.1 0) = 8) → ((¬ (o.2.1 0) = 9) → Post 0 o) ∧ (((o.2.1 0) = 9) → Post 1 o))
set_option maxRecDepth 100000 in
set_option maxHeartbeats 4000000 in
theorem c_X0_asksSecond (l : Launch) (D : va_G) (E : Nat → ClassId) (a : Nat → Nat)  (o : Ob)  {Post : Int32 → Ob → Prop} (h : w_X0_asksSecond  o Post) : CtI l yX0_asksSecond cX0_asksSecond 1 .boolean ({ frames := 0, cells := 0, slots := 0, locals := 0 } : Room) D E [.ref (a 0)] (List.flatten [bX0 a E o]) (fun u : Ob => List.flatten [bX0 a E u]) Post 0 0 := by
  refine enI (by decide +kernel) (Nat.le_of_ble_eq_true rfl) ?_
  intro p e s m args below meth c Q A ls hx hb hml hown hT hK hA hret hh hl
  have hl : lv_has ls 1 [(0, .ref (a 0))] := hl
  unfold w_X0_asksSecond at h
  refine lv_aload_n hx hb dX0_asksSecond_0 rfl (lv_at hl 0 rfl) ?_
  refine G_X0_7 [] [] hx hb hT hown hK hh (v := o.2.1 0) rfl dX0_asksSecond_1 ?_
  refine lv_bipush (v := 8) hx hb dX0_asksSecond_4 (by decide) ?_
  refine lv_icmp_eq (tgt := 18) hx hb dX0_asksSecond_6 (by decide) (fun c1 => ?_) (fun c1 => ?_)
  · have h := h.1 c1
    refine lv_iconst (v := 1) hx hb dX0_asksSecond_18 (by decide) ?_
    refine lv_goto (tgt := 23) hx hb dX0_asksSecond_19 (by decide) ?_
    exact hret _ _ _ _ _ o dX0_asksSecond_23 rfl h hh
  · have h := h.2 c1
    refine lv_aload_n hx hb dX0_asksSecond_9 rfl (lv_at hl 0 rfl) ?_
    refine G_X0_7 [] [] hx hb hT hown hK hh (v := o.2.1 0) rfl dX0_asksSecond_10 ?_
    refine lv_bipush (v := 9) hx hb dX0_asksSecond_13 (by decide) ?_
    refine lv_icmp_ne (tgt := 22) hx hb dX0_asksSecond_15 (by decide) (fun c2 => ?_) (fun c2 => ?_)
    · have h := h.1 c2
      refine lv_iconst (v := 0) hx hb dX0_asksSecond_22 (by decide) ?_
      exact hret _ _ _ _ _ o dX0_asksSecond_23 rfl h hh
    · have h := h.2 c2
      refine lv_iconst (v := 1) hx hb dX0_asksSecond_18 (by decide) ?_
      refine lv_goto (tgt := 23) hx hb dX0_asksSecond_19 (by decide) ?_
      exact hret _ _ _ _ _ o dX0_asksSecond_23 rfl h hh

def w_X2_get (x1 : Int32) (o : Ob) (Post : Int32 → Ob → Prop) : Prop := ((x1 < 0) → Post 0 o) ∧ (¬ (x1 < 0) → (((o.2.1 1) ≤ x1) → Post 0 o) ∧ (¬ ((o.2.1 1) ≤ x1) → ((24 ≤ x1) → Post 0 o) ∧ (¬ (24 ≤ x1) → vp_in x1 24 ∧ (Post ((o.2.2 0) x1.toNatClampNeg) o))))
set_option maxRecDepth 100000 in
set_option maxHeartbeats 4000000 in
theorem c_X2_get (l : Launch) (D : va_G) (E : Nat → ClassId) (a : Nat → Nat)  (o : Ob) (x1 : Int32) {Post : Int32 → Ob → Prop} (h : w_X2_get x1 o Post) : CtI l yX2_get cX2_get 2 .int ({ frames := 0, cells := 0, slots := 0, locals := 0 } : Room) D E [.ref (a 0), .int (x1)] (List.flatten [bX2 a E o]) (fun u : Ob => List.flatten [bX2 a E u]) Post 0 0 := by
  refine enI (by decide +kernel) (Nat.le_of_ble_eq_true rfl) ?_
  intro p e s m args below meth c Q A ls hx hb hml hown hT hK hA hret hh hl
  have hl : lv_has ls 2 [(0, .ref (a 0)), (1, .int (x1))] := hl
  unfold w_X2_get at h
  refine lv_iload_n hx hb dX2_get_0 rfl (lv_at hl 1 rfl) ?_
  refine lv_if_lt (tgt := 27) hx hb dX2_get_1 (by decide) (fun c1 => ?_) (fun c1 => ?_)
  · have h := h.1 c1
    refine lv_iconst (v := 0) hx hb dX2_get_27 (by decide) ?_
    exact hret _ _ _ _ _ o dX2_get_28 rfl h hh
  · have h := h.2 c1
    refine lv_iload_n hx hb dX2_get_4 rfl (lv_at hl 1 rfl) ?_
    refine lv_aload_n hx hb dX2_get_5 rfl (lv_at hl 0 rfl) ?_
    refine G_X2_15 [] [] hx hb hT hown hK hh (v := o.2.1 1) rfl dX2_get_6 ?_
    refine lv_icmp_ge (tgt := 27) hx hb dX2_get_9 (by decide) (fun c2 => ?_) (fun c2 => ?_)
    · have h := h.1 c2
      refine lv_iconst (v := 0) hx hb dX2_get_27 (by decide) ?_
      exact hret _ _ _ _ _ o dX2_get_28 rfl h hh
    · have h := h.2 c2
      refine lv_iload_n hx hb dX2_get_12 rfl (lv_at hl 1 rfl) ?_
      refine lv_bipush (v := 24) hx hb dX2_get_13 (by decide) ?_
      refine lv_icmp_ge (tgt := 27) hx hb dX2_get_15 (by decide) (fun c3 => ?_) (fun c3 => ?_)
      · have h := h.1 c3
        refine lv_iconst (v := 0) hx hb dX2_get_27 (by decide) ?_
        exact hret _ _ _ _ _ o dX2_get_28 rfl h hh
      · have h := h.2 c3
        refine lv_aload_n hx hb dX2_get_18 rfl (lv_at hl 0 rfl) ?_
        refine G_X2_9 [] [] hx hb hT hown hK hh dX2_get_19 ?_
        refine lv_iload_n hx hb dX2_get_22 rfl (lv_at hl 1 rfl) ?_
        obtain ⟨g4, h⟩ := h
        refine A_X2_0 [] [] hx hb hK hh (v := (o.2.2 0) x1.toNatClampNeg) g4 rfl dX2_get_23 ?_
        refine lv_goto (tgt := 28) hx hb dX2_get_24 (by decide) ?_
        exact hret _ _ _ _ _ o dX2_get_28 rfl h hh

def w_X2_acts  (o : Ob) (Post : Int32 → Ob → Prop) : Prop := Post ((o.2.1 1) / 2) o
set_option maxRecDepth 100000 in
set_option maxHeartbeats 4000000 in
theorem c_X2_acts (l : Launch) (D : va_G) (E : Nat → ClassId) (a : Nat → Nat)  (o : Ob)  {Post : Int32 → Ob → Prop} (h : w_X2_acts  o Post) : CtI l yX2_acts cX2_acts 1 .int ({ frames := 0, cells := 0, slots := 0, locals := 0 } : Room) D E [.ref (a 0)] (List.flatten [bX2 a E o]) (fun u : Ob => List.flatten [bX2 a E u]) Post 0 0 := by
  refine enI (by decide +kernel) (Nat.le_of_ble_eq_true rfl) ?_
  intro p e s m args below meth c Q A ls hx hb hml hown hT hK hA hret hh hl
  have hl : lv_has ls 1 [(0, .ref (a 0))] := hl
  unfold w_X2_acts at h
  refine lv_aload_n hx hb dX2_acts_0 rfl (lv_at hl 0 rfl) ?_
  refine G_X2_15 [] [] hx hb hT hown hK hh (v := o.2.1 1) rfl dX2_acts_1 ?_
  refine lv_iconst (v := 2) hx hb dX2_acts_4 (by decide) ?_
  refine lv_idiv hx hb dX2_acts_5 (by decide) ?_
  exact hret _ _ _ _ _ o dX2_acts_6 rfl h hh

def w_X2_act (x1 : Int32) (o : Ob) (Post : Int32 → Ob → Prop) : Prop := w_X2_get  (2 * x1) o (fun (r1 : Int32) (o_2 : Ob) => w_J9_floorMod_7cf53  r1 (4 : Int32)  (fun (r3 : Int32) => Post r3 o_2))
set_option maxRecDepth 100000 in
set_option maxHeartbeats 4000000 in
theorem c_X2_act (l : Launch) (D : va_G) (E : Nat → ClassId) (a : Nat → Nat)  (o : Ob) (x1 : Int32) {Post : Int32 → Ob → Prop} (h : w_X2_act x1 o Post) : CtI l yX2_act cX2_act 2 .int ({ frames := 1, cells := 0, slots := 0, locals := 22 } : Room) D E [.ref (a 0), .int (x1)] (List.flatten [bX2 a E o]) (fun u : Ob => List.flatten [bX2 a E u]) Post 0 0 := by
  refine enI (by decide +kernel) (Nat.le_of_ble_eq_true rfl) ?_
  intro p e s m args below meth c Q A ls hx hb hml hown hT hK hA hret hh hl
  have hl : lv_has ls 2 [(0, .ref (a 0)), (1, .int (x1))] := hl
  unfold w_X2_act at h
  refine lv_aload_n hx hb dX2_act_0 rfl (lv_at hl 0 rfl) ?_
  refine lv_iconst (v := 2) hx hb dX2_act_1 (by decide) ?_
  refine lv_iload_n hx hb dX2_act_2 rfl (lv_at hl 1 rfl) ?_
  refine lv_imul hx hb dX2_act_3 ?_
  refine kI hh.ap0 hA (rnV hx hb hml hown hT hK hh.ap0 (c_X2_get l D E a  o (2 * x1) h _) mf_X2_get kml_X2_19 ⟨rfl, rfl, Nat.le_of_ble_eq_true rfl, Nat.le_of_ble_eq_true rfl⟩ ⟨Nat.le_of_ble_eq_true rfl, Nat.le_of_ble_eq_true rfl⟩ 2 0 rfl rfl hl.1 rfl dX2_act_4 (Nat.le_of_ble_eq_true rfl) rfl) (fun r1 o_2 H locs h hh => ?_)
  have hh : Wh D A s.heap ((List.flatten [bX2 a E o_2])) _ _ := hh.un0
  refine lv_iconst (v := 4) hx hb dX2_act_7 (by decide) ?_
  refine kI hh.none hA (rnS hx hb hml hown hT hK hh.none (c_J9_floorMod_7cf53 l D E    r1 (4 : Int32) h _) mf_J9_floorMod_7cf53 kml_X2_23 ⟨rfl, rfl, Nat.le_of_ble_eq_true rfl, Nat.le_of_ble_eq_true rfl⟩ ⟨Nat.le_of_ble_eq_true rfl, Nat.le_of_ble_eq_true rfl⟩ hl.1 rfl dX2_act_8 (Nat.le_of_ble_eq_true rfl) rfl) (fun r3 u H locs h hh => ?_)
  have hh : Wh D A s.heap ((List.flatten [bX2 a E o_2])) _ _ := hh.unone
  exact hret _ _ _ _ _ o_2 dX2_act_11 rfl h hh

def w_X2_number (x1 : Int32) (o : Ob) (Post : Int32 → Ob → Prop) : Prop := w_X2_get  ((2 * x1) + 1) o (fun (r1 : Int32) (o_2 : Ob) => Post r1 o_2)
set_option maxRecDepth 100000 in
set_option maxHeartbeats 4000000 in
theorem c_X2_number (l : Launch) (D : va_G) (E : Nat → ClassId) (a : Nat → Nat)  (o : Ob) (x1 : Int32) {Post : Int32 → Ob → Prop} (h : w_X2_number x1 o Post) : CtI l yX2_number cX2_number 2 .int ({ frames := 1, cells := 0, slots := 0, locals := 21 } : Room) D E [.ref (a 0), .int (x1)] (List.flatten [bX2 a E o]) (fun u : Ob => List.flatten [bX2 a E u]) Post 0 0 := by
  refine enI (by decide +kernel) (Nat.le_of_ble_eq_true rfl) ?_
  intro p e s m args below meth c Q A ls hx hb hml hown hT hK hA hret hh hl
  have hl : lv_has ls 2 [(0, .ref (a 0)), (1, .int (x1))] := hl
  unfold w_X2_number at h
  refine lv_aload_n hx hb dX2_number_0 rfl (lv_at hl 0 rfl) ?_
  refine lv_iconst (v := 2) hx hb dX2_number_1 (by decide) ?_
  refine lv_iload_n hx hb dX2_number_2 rfl (lv_at hl 1 rfl) ?_
  refine lv_imul hx hb dX2_number_3 ?_
  refine lv_iconst (v := 1) hx hb dX2_number_4 (by decide) ?_
  refine lv_iadd hx hb dX2_number_5 ?_
  refine kI hh.ap0 hA (rnV hx hb hml hown hT hK hh.ap0 (c_X2_get l D E a  o ((2 * x1) + 1) h _) mf_X2_get kml_X2_19 ⟨rfl, rfl, Nat.le_of_ble_eq_true rfl, Nat.le_of_ble_eq_true rfl⟩ ⟨Nat.le_of_ble_eq_true rfl, Nat.le_of_ble_eq_true rfl⟩ 2 0 rfl rfl hl.1 rfl dX2_number_6 (Nat.le_of_ble_eq_true rfl) rfl) (fun r1 o_2 H locs h hh => ?_)
  have hh : Wh D A s.heap ((List.flatten [bX2 a E o_2])) _ _ := hh.un0
  exact hret _ _ _ _ _ o_2 dX2_number_9 rfl h hh

def w_X2_sum_L4   (Post : Int32 → Ob → Prop) : Nat → Int32 → Int32 → Ob → Prop
  | 0, _, _, _ => False
  | n4 + 1, p1_4, p2_4, o_4 => (((o_4.2.1 1) ≤ p2_4) → Post p1_4 o_4) ∧ (¬ ((o_4.2.1 1) ≤ p2_4) → w_X2_get  p2_4 o_4 (fun (r2 : Int32) (o_3 : Ob) => w_X2_sum_L4   Post n4 (p1_4 + r2) (p2_4 + 1) o_3))
def w_X2_sum  (o : Ob) (Post : Int32 → Ob → Prop) : Prop := ∃ n4, w_X2_sum_L4   Post n4 0 0 o
set_option maxRecDepth 100000 in
set_option maxHeartbeats 4000000 in
theorem c_X2_sum (l : Launch) (D : va_G) (E : Nat → ClassId) (a : Nat → Nat)  (o : Ob)  {Post : Int32 → Ob → Prop} (h : w_X2_sum  o Post) : CtI l yX2_sum cX2_sum 3 .int ({ frames := 1, cells := 0, slots := 0, locals := 21 } : Room) D E [.ref (a 0)] (List.flatten [bX2 a E o]) (fun u : Ob => List.flatten [bX2 a E u]) Post 0 0 := by
  refine enI (by decide +kernel) (Nat.le_of_ble_eq_true rfl) ?_
  intro p e s m args below meth c Q A ls hx hb hml hown hT hK hA hret hh hl
  have hl : lv_has ls 3 [(0, .ref (a 0))] := hl
  unfold w_X2_sum at h
  refine lv_iconst (v := 0) hx hb dX2_sum_0 (by decide) ?_
  refine lv_istore_n (lv' := [(1, .int (0)), (0, .ref (a 0))]) hx hb dX2_sum_1 rfl hl (by decide) rfl (fun ls hl => ?_)
  refine lv_iconst (v := 0) hx hb dX2_sum_2 (by decide) ?_
  refine lv_istore_n (lv' := [(2, .int (0)), (1, .int (0)), (0, .ref (a 0))]) hx hb dX2_sum_3 rfl hl (by decide) rfl (fun ls hl => ?_)
  have hw4 : ∀   (n : Nat) (p1_4 : Int32) (p2_4 : Int32) (o_4 : Ob) (H : Heap) (locs : List Loc) (ls : Array Slot), w_X2_sum_L4   Post n p1_4 p2_4 o_4 → Wh D A s.heap ((List.flatten [bX2 a E o_4])) H locs → lv_has ls 3 [(0, .ref (a 0)), (1, .int (p1_4)), (2, .int (p2_4))] → W p l e ({ frames := 1, cells := 0, slots := 0, locals := 21 } : Room) s m args below meth c H locs 0 0 Q (F0 m 4 ls []) := by
    intro   n
    induction n with
    | zero => intro p1_4 p2_4 o_4 H locs ls h hh hl; exact False.elim h
    | succ n ih =>
      intro p1_4 p2_4 o_4 H locs ls h hh hl
      refine lv_iload_n hx hb dX2_sum_4 rfl (lv_at hl 2 rfl) ?_
      refine lv_aload_n hx hb dX2_sum_5 rfl (lv_at hl 0 rfl) ?_
      refine G_X2_15 [] [] hx hb hT hown hK hh (v := o_4.2.1 1) rfl dX2_sum_6 ?_
      refine lv_icmp_ge (tgt := 26) hx hb dX2_sum_9 (by decide) (fun c1 => ?_) (fun c1 => ?_)
      · have h := h.1 c1
        refine lv_iload_n hx hb dX2_sum_26 rfl (lv_at hl 1 rfl) ?_
        exact hret _ _ _ _ _ o_4 dX2_sum_27 rfl h hh
      · have h := h.2 c1
        refine lv_iload_n hx hb dX2_sum_12 rfl (lv_at hl 1 rfl) ?_
        refine lv_aload_n hx hb dX2_sum_13 rfl (lv_at hl 0 rfl) ?_
        refine lv_iload_n hx hb dX2_sum_14 rfl (lv_at hl 2 rfl) ?_
        refine kI hh.ap0 hA (rnV hx hb hml hown hT hK hh.ap0 (c_X2_get l D E a  o_4 p2_4 h _) mf_X2_get kml_X2_19 ⟨rfl, rfl, Nat.le_of_ble_eq_true rfl, Nat.le_of_ble_eq_true rfl⟩ ⟨Nat.le_of_ble_eq_true rfl, Nat.le_of_ble_eq_true rfl⟩ 2 0 rfl rfl hl.1 rfl dX2_sum_15 (Nat.le_of_ble_eq_true rfl) rfl) (fun r2 o_3 H locs h hh => ?_)
        have hh : Wh D A s.heap ((List.flatten [bX2 a E o_3])) _ _ := hh.un0
        refine lv_iadd hx hb dX2_sum_18 ?_
        refine lv_istore_n (lv' := [(1, .int (p1_4 + r2)), (0, .ref (a 0)), (2, .int (p2_4))]) hx hb dX2_sum_19 rfl hl (by decide) rfl (fun ls hl => ?_)
        refine lv_iinc (v := p2_4 + 1) (lv' := [(2, .int (p2_4 + 1)), (1, .int (p1_4 + r2)), (0, .ref (a 0))]) hx hb dX2_sum_20 hl (k := 2) rfl (by rfl) (by decide) rfl (fun ls hl => ?_)
        refine lv_goto (tgt := 4) hx hb dX2_sum_23 (by decide) ?_
        exact ih (p1_4 + r2) (p2_4 + 1) o_3 _ _ _ h hh (lv_sub hl [2, 1, 0] rfl)
  obtain ⟨n, h⟩ := h
  refine hw4   n 0 0 o _ _ _ h hh (lv_sub hl [2, 1, 0] rfl)

def w_X2_add (x1 : Int32) (o : Ob) (Post : Ob → Prop) : Prop := (((o.2.1 1) < 0) → Post o) ∧ (¬ ((o.2.1 1) < 0) → ((24 ≤ (o.2.1 1)) → Post o) ∧ (¬ (24 ≤ (o.2.1 1)) → vp_in (o.2.1 1) 24 ∧ (Post ((o.1, (upd o.2.1 1 (((o.2.1 1) + 1))), (sa o.2.2 0 (upd (o.2.2 0) (o.2.1 1).toNatClampNeg x1)))))))
set_option maxRecDepth 100000 in
set_option maxHeartbeats 4000000 in
theorem c_X2_add (l : Launch) (D : va_G) (E : Nat → ClassId) (a : Nat → Nat)  (o : Ob) (x1 : Int32) {Post : Ob → Prop} (h : w_X2_add x1 o Post) : CtV l yX2_add cX2_add 2 ({ frames := 0, cells := 0, slots := 0, locals := 0 } : Room) D E [.ref (a 0), .int (x1)] (List.flatten [bX2 a E o]) (fun u : Ob => List.flatten [bX2 a E u]) Post 0 0 := by
  refine enV (by decide +kernel) (Nat.le_of_ble_eq_true rfl) ?_
  intro p e s m args below meth c Q A ls hx hb hml hown hT hK hA hin0 hret hh hl
  have hl : lv_has ls 2 [(0, .ref (a 0)), (1, .int (x1))] := hl
  unfold w_X2_add at h
  refine lv_aload_n hx hb dX2_add_0 rfl (lv_at hl 0 rfl) ?_
  refine G_X2_15 [] [] hx hb hT hown hK hh (v := o.2.1 1) rfl dX2_add_1 ?_
  refine lv_if_lt (tgt := 36) hx hb dX2_add_4 (by decide) (fun c1 => ?_) (fun c1 => ?_)
  · have h := h.1 c1
    exact hret _ _ _ _ o dX2_add_36 h hh
  · have h := h.2 c1
    refine lv_aload_n hx hb dX2_add_7 rfl (lv_at hl 0 rfl) ?_
    refine G_X2_15 [] [] hx hb hT hown hK hh (v := o.2.1 1) rfl dX2_add_8 ?_
    refine lv_bipush (v := 24) hx hb dX2_add_11 (by decide) ?_
    refine lv_icmp_ge (tgt := 36) hx hb dX2_add_13 (by decide) (fun c2 => ?_) (fun c2 => ?_)
    · have h := h.1 c2
      exact hret _ _ _ _ o dX2_add_36 h hh
    · have h := h.2 c2
      refine lv_aload_n hx hb dX2_add_16 rfl (lv_at hl 0 rfl) ?_
      refine G_X2_9 [] [] hx hb hT hown hK hh dX2_add_17 ?_
      refine lv_aload_n hx hb dX2_add_20 rfl (lv_at hl 0 rfl) ?_
      refine G_X2_15 [] [] hx hb hT hown hK hh (v := o.2.1 1) rfl dX2_add_21 ?_
      refine lv_iload_n hx hb dX2_add_24 rfl (lv_at hl 1 rfl) ?_
      obtain ⟨g3, h⟩ := h
      refine S_X2_0 [] [] hx hb hK hh g3 dX2_add_25 (fun H locs (hh : Wh D A s.heap ((List.flatten [bX2 a E ((o.1, o.2.1, (sa o.2.2 0 (upd (o.2.2 0) (o.2.1 1).toNatClampNeg x1))))])) H locs) => ?_)
      refine lv_aload_n hx hb dX2_add_26 rfl (lv_at hl 0 rfl) ?_
      refine lv_dup hx hb dX2_add_27 rfl ?_
      refine G_X2_15 [] [] hx hb hT hown hK hh (v := o.2.1 1) rfl dX2_add_28 ?_
      refine lv_iconst (v := 1) hx hb dX2_add_31 (by decide) ?_
      refine lv_iadd hx hb dX2_add_32 ?_
      refine P_X2_15 [] [] hx hb hT hown hK hh dX2_add_33 (fun H locs (hh : Wh D A s.heap ((List.flatten [bX2 a E ((o.1, (upd o.2.1 1 (((o.2.1 1) + 1))), (sa o.2.2 0 (upd (o.2.2 0) (o.2.1 1).toNatClampNeg x1))))])) H locs) => ?_)
      exact hret _ _ _ _ (o.1, (upd o.2.1 1 (((o.2.1 1) + 1))), (sa o.2.2 0 (upd (o.2.2 0) (o.2.1 1).toNatClampNeg x1))) dX2_add_36 h hh

def w_X2_sink_L2 (f2_2 : Int32)  (Post : Ob → Prop) : Nat → Int32 → Ob → Prop
  | 0, _, _ => False
  | n2 + 1, p3_2, o_2 => ((p3_2 ≤ f2_2) → Post o_2) ∧ (¬ (p3_2 ≤ f2_2) → ((p3_2 ≤ 0) → Post o_2) ∧ (¬ (p3_2 ≤ 0) → ((24 ≤ p3_2) → Post o_2) ∧ (¬ (24 ≤ p3_2) → vp_in (p3_2 - 1) 24 ∧ (vp_in p3_2 24 ∧ (((((o_2.2.2 0) (p3_2 - 1).toNatClampNeg) ≤ ((o_2.2.2 0) p3_2.toNatClampNeg)) → Post o_2) ∧ (¬ (((o_2.2.2 0) (p3_2 - 1).toNatClampNeg) ≤ ((o_2.2.2 0) p3_2.toNatClampNeg)) → vp_in (p3_2 - 1) 24 ∧ (vp_in p3_2 24 ∧ (vp_in (p3_2 - 1) 24 ∧ (vp_in p3_2 24 ∧ (w_X2_sink_L2 f2_2  Post n2 (p3_2 + (-1)) ((o_2.1, o_2.2.1, (sa (sa o_2.2.2 0 (upd (o_2.2.2 0) (p3_2 - 1).toNatClampNeg ((o_2.2.2 0) p3_2.toNatClampNeg))) 0 (upd (upd (o_2.2.2 0) (p3_2 - 1).toNatClampNeg ((o_2.2.2 0) p3_2.toNatClampNeg)) p3_2.toNatClampNeg ((o_2.2.2 0) (p3_2 - 1).toNatClampNeg)))))))))))))))
def w_X2_sink (x1 : Int32) (x2 : Int32) (o : Ob) (Post : Ob → Prop) : Prop := ∃ n2, w_X2_sink_L2 x2  Post n2 x1 o
set_option maxRecDepth 100000 in
set_option maxHeartbeats 4000000 in
theorem c_X2_sink (l : Launch) (D : va_G) (E : Nat → ClassId) (a : Nat → Nat)  (o : Ob) (x1 : Int32) (x2 : Int32) {Post : Ob → Prop} (h : w_X2_sink x1 x2 o Post) : CtV l yX2_sink cX2_sink 5 ({ frames := 0, cells := 0, slots := 0, locals := 0 } : Room) D E [.ref (a 0), .int (x1), .int (x2)] (List.flatten [bX2 a E o]) (fun u : Ob => List.flatten [bX2 a E u]) Post 0 0 := by
  refine enV (by decide +kernel) (Nat.le_of_ble_eq_true rfl) ?_
  intro p e s m args below meth c Q A ls hx hb hml hown hT hK hA hin0 hret hh hl
  have hl : lv_has ls 5 [(0, .ref (a 0)), (1, .int (x1)), (2, .int (x2))] := hl
  unfold w_X2_sink at h
  refine lv_iload_n hx hb dX2_sink_0 rfl (lv_at hl 1 rfl) ?_
  refine lv_istore_n (lv' := [(3, .int (x1)), (0, .ref (a 0)), (1, .int (x1)), (2, .int (x2))]) hx hb dX2_sink_1 rfl hl (by decide) rfl (fun ls hl => ?_)
  have hw2 : ∀   (n : Nat) (p3_2 : Int32) (o_2 : Ob) (H : Heap) (locs : List Loc) (ls : Array Slot), w_X2_sink_L2 x2  Post n p3_2 o_2 → Wh D A s.heap ((List.flatten [bX2 a E o_2])) H locs → lv_has ls 5 [(0, .ref (a 0)), (2, .int (x2)), (3, .int (p3_2))] → W p l e ({ frames := 0, cells := 0, slots := 0, locals := 0 } : Room) s m args below meth c H locs 0 0 Q (F0 m 2 ls []) := by
    intro   n
    induction n with
    | zero => intro p3_2 o_2 H locs ls h hh hl; exact False.elim h
    | succ n ih =>
      intro p3_2 o_2 H locs ls h hh hl
      refine lv_iload_n hx hb dX2_sink_2 rfl (lv_at hl 2 rfl) ?_
      refine lv_iload_n hx hb dX2_sink_3 rfl (lv_at hl 1 rfl) ?_
      refine lv_icmp_le (tgt := 72) hx hb dX2_sink_4 (by decide) (fun c1 => ?_) (fun c1 => ?_)
      · have h := h.1 c1
        exact hret _ _ _ _ o_2 dX2_sink_72 h hh
      · have h := h.2 c1
        refine lv_iload_n hx hb dX2_sink_7 rfl (lv_at hl 2 rfl) ?_
        refine lv_if_le (tgt := 72) hx hb dX2_sink_8 (by decide) (fun c2 => ?_) (fun c2 => ?_)
        · have h := h.1 c2
          exact hret _ _ _ _ o_2 dX2_sink_72 h hh
        · have h := h.2 c2
          refine lv_iload_n hx hb dX2_sink_11 rfl (lv_at hl 2 rfl) ?_
          refine lv_bipush (v := 24) hx hb dX2_sink_12 (by decide) ?_
          refine lv_icmp_ge (tgt := 72) hx hb dX2_sink_14 (by decide) (fun c3 => ?_) (fun c3 => ?_)
          · have h := h.1 c3
            exact hret _ _ _ _ o_2 dX2_sink_72 h hh
          · have h := h.2 c3
            refine lv_aload_n hx hb dX2_sink_17 rfl (lv_at hl 0 rfl) ?_
            refine G_X2_9 [] [] hx hb hT hown hK hh dX2_sink_18 ?_
            refine lv_iload_n hx hb dX2_sink_21 rfl (lv_at hl 2 rfl) ?_
            refine lv_iconst (v := 1) hx hb dX2_sink_22 (by decide) ?_
            refine lv_isub hx hb dX2_sink_23 ?_
            obtain ⟨g4, h⟩ := h
            refine A_X2_0 [] [] hx hb hK hh (v := (o_2.2.2 0) (p3_2 - 1).toNatClampNeg) g4 rfl dX2_sink_24 ?_
            refine lv_aload_n hx hb dX2_sink_25 rfl (lv_at hl 0 rfl) ?_
            refine G_X2_9 [] [] hx hb hT hown hK hh dX2_sink_26 ?_
            refine lv_iload_n hx hb dX2_sink_29 rfl (lv_at hl 2 rfl) ?_
            obtain ⟨g5, h⟩ := h
            refine A_X2_0 [] [] hx hb hK hh (v := (o_2.2.2 0) p3_2.toNatClampNeg) g5 rfl dX2_sink_30 ?_
            refine lv_icmp_le (tgt := 72) hx hb dX2_sink_31 (by decide) (fun c6 => ?_) (fun c6 => ?_)
            · have h := h.1 c6
              exact hret _ _ _ _ o_2 dX2_sink_72 h hh
            · have h := h.2 c6
              refine lv_aload_n hx hb dX2_sink_34 rfl (lv_at hl 0 rfl) ?_
              refine G_X2_9 [] [] hx hb hT hown hK hh dX2_sink_35 ?_
              refine lv_iload_n hx hb dX2_sink_38 rfl (lv_at hl 2 rfl) ?_
              refine lv_iconst (v := 1) hx hb dX2_sink_39 (by decide) ?_
              refine lv_isub hx hb dX2_sink_40 ?_
              obtain ⟨g7, h⟩ := h
              refine A_X2_0 [] [] hx hb hK hh (v := (o_2.2.2 0) (p3_2 - 1).toNatClampNeg) g7 rfl dX2_sink_41 ?_
              refine lv_istore (lv' := [(4, .int ((o_2.2.2 0) (p3_2 - 1).toNatClampNeg)), (0, .ref (a 0)), (2, .int (x2)), (3, .int (p3_2))]) hx hb dX2_sink_42 hl (by decide) rfl (fun ls hl => ?_)
              refine lv_aload_n hx hb dX2_sink_44 rfl (lv_at hl 1 rfl) ?_
              refine G_X2_9 [] [] hx hb hT hown hK hh dX2_sink_45 ?_
              refine lv_iload_n hx hb dX2_sink_48 rfl (lv_at hl 3 rfl) ?_
              refine lv_iconst (v := 1) hx hb dX2_sink_49 (by decide) ?_
              refine lv_isub hx hb dX2_sink_50 ?_
              refine lv_aload_n hx hb dX2_sink_51 rfl (lv_at hl 1 rfl) ?_
              refine G_X2_9 [] [] hx hb hT hown hK hh dX2_sink_52 ?_
              refine lv_iload_n hx hb dX2_sink_55 rfl (lv_at hl 3 rfl) ?_
              obtain ⟨g8, h⟩ := h
              refine A_X2_0 [] [] hx hb hK hh (v := (o_2.2.2 0) p3_2.toNatClampNeg) g8 rfl dX2_sink_56 ?_
              obtain ⟨g9, h⟩ := h
              refine S_X2_0 [] [] hx hb hK hh g9 dX2_sink_57 (fun H locs (hh : Wh D A s.heap ((List.flatten [bX2 a E ((o_2.1, o_2.2.1, (sa o_2.2.2 0 (upd (o_2.2.2 0) (p3_2 - 1).toNatClampNeg ((o_2.2.2 0) p3_2.toNatClampNeg)))))])) H locs) => ?_)
              refine lv_aload_n hx hb dX2_sink_58 rfl (lv_at hl 1 rfl) ?_
              refine G_X2_9 [] [] hx hb hT hown hK hh dX2_sink_59 ?_
              refine lv_iload_n hx hb dX2_sink_62 rfl (lv_at hl 3 rfl) ?_
              refine lv_iload hx hb dX2_sink_63 (lv_at hl 0 rfl) ?_
              obtain ⟨g10, h⟩ := h
              refine S_X2_0 [] [] hx hb hK hh g10 dX2_sink_65 (fun H locs (hh : Wh D A s.heap ((List.flatten [bX2 a E ((o_2.1, o_2.2.1, (sa (sa o_2.2.2 0 (upd (o_2.2.2 0) (p3_2 - 1).toNatClampNeg ((o_2.2.2 0) p3_2.toNatClampNeg))) 0 (upd (upd (o_2.2.2 0) (p3_2 - 1).toNatClampNeg ((o_2.2.2 0) p3_2.toNatClampNeg)) p3_2.toNatClampNeg ((o_2.2.2 0) (p3_2 - 1).toNatClampNeg)))))])) H locs) => ?_)
              refine lv_iinc (v := p3_2 + (-1)) (lv' := [(3, .int (p3_2 + (-1))), (4, .int ((o_2.2.2 0) (p3_2 - 1).toNatClampNeg)), (0, .ref (a 0)), (2, .int (x2))]) hx hb dX2_sink_66 hl (k := 3) rfl (by rfl) (by decide) rfl (fun ls hl => ?_)
              refine lv_goto (tgt := 2) hx hb dX2_sink_69 (by decide) ?_
              exact ih (p3_2 + (-1)) ((o_2.1, o_2.2.1, (sa (sa o_2.2.2 0 (upd (o_2.2.2 0) (p3_2 - 1).toNatClampNeg ((o_2.2.2 0) p3_2.toNatClampNeg))) 0 (upd (upd (o_2.2.2 0) (p3_2 - 1).toNatClampNeg ((o_2.2.2 0) p3_2.toNatClampNeg)) p3_2.toNatClampNeg ((o_2.2.2 0) (p3_2 - 1).toNatClampNeg))))) _ _ _ h hh (lv_sub hl [2, 3, 0] rfl)
  obtain ⟨n, h⟩ := h
  refine hw2   n x1 o _ _ _ h hh (lv_sub hl [1, 3, 0] rfl)

def w_X2_map_L7 (f1_7 : Int32) (f2_7 : Int32) (f3_7 : Int32)  (Post : Ob → Prop) : Nat → Int32 → Ob → Prop
  | 0, _, _ => False
  | n7 + 1, p4_7, o_7 => ((f3_7 ≤ p4_7) → Post o_7) ∧ (¬ (f3_7 ≤ p4_7) → ((24 ≤ p4_7) → Post o_7) ∧ (¬ (24 ≤ p4_7) → vp_in p4_7 24 ∧ (jn (fun J124 : Ob → Prop => ((f1_7 = 0) → vp_in p4_7 24 ∧ (J124 ((o_7.1, o_7.2.1, (sa o_7.2.2 0 (upd (o_7.2.2 0) p4_7.toNatClampNeg (-((o_7.2.2 0) p4_7.toNatClampNeg)))))))) ∧ ((f1_7 = 1) → vp_in p4_7 24 ∧ (J124 ((o_7.1, o_7.2.1, (sa o_7.2.2 0 (upd (o_7.2.2 0) p4_7.toNatClampNeg (2 * ((o_7.2.2 0) p4_7.toNatClampNeg)))))))) ∧ ((f1_7 = 2) → vp_in p4_7 24 ∧ (J124 ((o_7.1, o_7.2.1, (sa o_7.2.2 0 (upd (o_7.2.2 0) p4_7.toNatClampNeg (((o_7.2.2 0) p4_7.toNatClampNeg) * ((o_7.2.2 0) p4_7.toNatClampNeg)))))))) ∧ ((f1_7 = 3) → vp_in p4_7 24 ∧ (J124 ((o_7.1, o_7.2.1, (sa o_7.2.2 0 (upd (o_7.2.2 0) p4_7.toNatClampNeg (((o_7.2.2 0) p4_7.toNatClampNeg) - ((o_7.2.2 0) p4_7.toNatClampNeg) / 7 * 7))))))) ∧ ((¬ f1_7 = 0 ∧ ¬ f1_7 = 1 ∧ ¬ f1_7 = 2 ∧ ¬ f1_7 = 3) → w_X2_sink  p4_7 f2_7 o_7 (fun (o_14 : Ob) => J124 o_14))) (fun (o_124 : Ob) => w_X2_map_L7 f1_7 f2_7 f3_7  Post n7 (p4_7 + 1) o_124))))
def w_X2_map (x1 : Int32) (x2 : Int32) (x3 : Int32) (o : Ob) (Post : Ob → Prop) : Prop := w_J9_max_7cf53  (0 : Int32) x2  (fun (r1 : Int32) => ∃ n7, w_X2_map_L7 x1 x2 x3  Post n7 r1 o)
set_option maxRecDepth 100000 in
set_option maxHeartbeats 4000000 in
theorem c_X2_map (l : Launch) (D : va_G) (E : Nat → ClassId) (a : Nat → Nat)  (o : Ob) (x1 : Int32) (x2 : Int32) (x3 : Int32) {Post : Ob → Prop} (h : w_X2_map x1 x2 x3 o Post) : CtV l yX2_map cX2_map 6 ({ frames := 1, cells := 0, slots := 0, locals := 24 } : Room) D E [.ref (a 0), .int (x1), .int (x2), .int (x3)] (List.flatten [bX2 a E o]) (fun u : Ob => List.flatten [bX2 a E u]) Post 0 0 := by
  refine enV (by decide +kernel) (Nat.le_of_ble_eq_true rfl) ?_
  intro p e s m args below meth c Q A ls hx hb hml hown hT hK hA hin0 hret hh hl
  have hl : lv_has ls 6 [(0, .ref (a 0)), (1, .int (x1)), (2, .int (x2)), (3, .int (x3))] := hl
  unfold w_X2_map at h
  refine lv_iconst (v := 0) hx hb dX2_map_0 (by decide) ?_
  refine lv_iload_n hx hb dX2_map_1 rfl (lv_at hl 2 rfl) ?_
  refine kI hh.none hA (rnS hx hb hml hown hT hK hh.none (c_J9_max_7cf53 l D E    (0 : Int32) x2 h _) mf_J9_max_7cf53 kml_X2_29 ⟨rfl, rfl, Nat.le_of_ble_eq_true rfl, Nat.le_of_ble_eq_true rfl⟩ ⟨Nat.le_of_ble_eq_true rfl, Nat.le_of_ble_eq_true rfl⟩ hl.1 rfl dX2_map_2 (Nat.le_of_ble_eq_true rfl) rfl) (fun r1 u H locs h hh => ?_)
  have hh : Wh D A s.heap ((List.flatten [bX2 a E o])) _ _ := hh.unone
  refine lv_istore (lv' := [(4, .int (r1)), (0, .ref (a 0)), (1, .int (x1)), (2, .int (x2)), (3, .int (x3))]) hx hb dX2_map_5 hl (by decide) rfl (fun ls hl => ?_)
  have hw7 : ∀   (n : Nat) (p4_7 : Int32) (o_7 : Ob) (H : Heap) (locs : List Loc) (ls : Array Slot), w_X2_map_L7 x1 x2 x3  Post n p4_7 o_7 → Wh D A s.heap ((List.flatten [bX2 a E o_7])) H locs → lv_has ls 6 [(0, .ref (a 0)), (1, .int (x1)), (2, .int (x2)), (3, .int (x3)), (4, .int (p4_7))] → W p l e ({ frames := 1, cells := 0, slots := 0, locals := 24 } : Room) s m args below meth c H locs 0 0 Q (F0 m 7 ls []) := by
    intro   n
    induction n with
    | zero => intro p4_7 o_7 H locs ls h hh hl; exact False.elim h
    | succ n ih =>
      intro p4_7 o_7 H locs ls h hh hl
      refine lv_iload hx hb dX2_map_7 (lv_at hl 4 rfl) ?_
      refine lv_iload_n hx hb dX2_map_9 rfl (lv_at hl 3 rfl) ?_
      refine lv_icmp_ge (tgt := 130) hx hb dX2_map_10 (by decide) (fun c2 => ?_) (fun c2 => ?_)
      · have h := h.1 c2
        exact hret _ _ _ _ o_7 dX2_map_130 h hh
      · have h := h.2 c2
        refine lv_iload hx hb dX2_map_13 (lv_at hl 4 rfl) ?_
        refine lv_bipush (v := 24) hx hb dX2_map_15 (by decide) ?_
        refine lv_icmp_ge (tgt := 130) hx hb dX2_map_17 (by decide) (fun c3 => ?_) (fun c3 => ?_)
        · have h := h.1 c3
          exact hret _ _ _ _ o_7 dX2_map_130 h hh
        · have h := h.2 c3
          refine lv_aload_n hx hb dX2_map_20 rfl (lv_at hl 0 rfl) ?_
          refine G_X2_9 [] [] hx hb hT hown hK hh dX2_map_21 ?_
          refine lv_iload hx hb dX2_map_24 (lv_at hl 4 rfl) ?_
          obtain ⟨g4, h⟩ := h
          refine A_X2_0 [] [] hx hb hK hh (v := (o_7.2.2 0) p4_7.toNatClampNeg) g4 rfl dX2_map_26 ?_
          refine lv_istore (lv' := [(5, .int ((o_7.2.2 0) p4_7.toNatClampNeg)), (0, .ref (a 0)), (1, .int (x1)), (2, .int (x2)), (3, .int (x3)), (4, .int (p4_7))]) hx hb dX2_map_27 hl (by decide) rfl (fun ls hl => ?_)
          refine lv_iload_n hx hb dX2_map_29 rfl (lv_at hl 2 rfl) ?_
          refine jn_elim h (fun J124 hJ124 h => ?_)
          have kJ124 : ∀ (o_124 : Ob) (H : Heap) (locs : List Loc) (ls : Array Slot), J124 o_124 → Wh D A s.heap ((List.flatten [bX2 a E o_124])) H locs → lv_has ls 6 [(0, .ref (a 0)), (1, .int (x1)), (2, .int (x2)), (3, .int (x3)), (4, .int (p4_7))] → W p l e ({ frames := 1, cells := 0, slots := 0, locals := 24 } : Room) s m args below meth c H locs 0 0 Q (F0 m 124 ls []) := by
            intro o_124 H locs ls h hh hl
            rw [hJ124] at h
            refine lv_iinc (v := p4_7 + 1) (lv' := [(4, .int (p4_7 + 1)), (0, .ref (a 0)), (1, .int (x1)), (2, .int (x2)), (3, .int (x3))]) hx hb dX2_map_124 hl (k := 4) rfl (by rfl) (by decide) rfl (fun ls hl => ?_)
            refine lv_goto (tgt := 7) hx hb dX2_map_127 (by decide) ?_
            exact ih (p4_7 + 1) o_124 _ _ _ h hh (lv_sub hl [1, 2, 3, 4, 0] rfl)
          by_cases c6 : x1 = 0
          · have h := h.1 c6
            refine lv_tableIn (off := 30) (tgt := 60) hx hb dX2_map_30 (by rw [c6]; decide) (by rw [c6]; decide) (by rw [c6]; rfl) (by decide) ?_
            refine lv_aload_n hx hb dX2_map_60 rfl (lv_at hl 1 rfl) ?_
            refine G_X2_9 [] [] hx hb hT hown hK hh dX2_map_61 ?_
            refine lv_iload hx hb dX2_map_64 (lv_at hl 5 rfl) ?_
            refine lv_iload hx hb dX2_map_66 (lv_at hl 0 rfl) ?_
            refine lv_ineg hx hb dX2_map_68 ?_
            obtain ⟨g5, h⟩ := h
            refine S_X2_0 [] [] hx hb hK hh g5 dX2_map_69 (fun H locs (hh : Wh D A s.heap ((List.flatten [bX2 a E ((o_7.1, o_7.2.1, (sa o_7.2.2 0 (upd (o_7.2.2 0) p4_7.toNatClampNeg (-((o_7.2.2 0) p4_7.toNatClampNeg))))))])) H locs) => ?_)
            refine lv_goto (tgt := 124) hx hb dX2_map_70 (by decide) ?_
            exact kJ124 ((o_7.1, o_7.2.1, (sa o_7.2.2 0 (upd (o_7.2.2 0) p4_7.toNatClampNeg (-((o_7.2.2 0) p4_7.toNatClampNeg)))))) _ _ _ h hh (lv_sub hl [1, 2, 3, 4, 5] rfl)
          · by_cases c8 : x1 = 1
            · have h := h.2.1 c8
              refine lv_tableIn (off := 43) (tgt := 73) hx hb dX2_map_30 (by rw [c8]; decide) (by rw [c8]; decide) (by rw [c8]; rfl) (by decide) ?_
              refine lv_aload_n hx hb dX2_map_73 rfl (lv_at hl 1 rfl) ?_
              refine G_X2_9 [] [] hx hb hT hown hK hh dX2_map_74 ?_
              refine lv_iload hx hb dX2_map_77 (lv_at hl 5 rfl) ?_
              refine lv_iconst (v := 2) hx hb dX2_map_79 (by decide) ?_
              refine lv_iload hx hb dX2_map_80 (lv_at hl 0 rfl) ?_
              refine lv_imul hx hb dX2_map_82 ?_
              obtain ⟨g7, h⟩ := h
              refine S_X2_0 [] [] hx hb hK hh g7 dX2_map_83 (fun H locs (hh : Wh D A s.heap ((List.flatten [bX2 a E ((o_7.1, o_7.2.1, (sa o_7.2.2 0 (upd (o_7.2.2 0) p4_7.toNatClampNeg (2 * ((o_7.2.2 0) p4_7.toNatClampNeg))))))])) H locs) => ?_)
              refine lv_goto (tgt := 124) hx hb dX2_map_84 (by decide) ?_
              exact kJ124 ((o_7.1, o_7.2.1, (sa o_7.2.2 0 (upd (o_7.2.2 0) p4_7.toNatClampNeg (2 * ((o_7.2.2 0) p4_7.toNatClampNeg)))))) _ _ _ h hh (lv_sub hl [1, 2, 3, 4, 5] rfl)
            · by_cases c10 : x1 = 2
              · have h := h.2.2.1 c10
                refine lv_tableIn (off := 57) (tgt := 87) hx hb dX2_map_30 (by rw [c10]; decide) (by rw [c10]; decide) (by rw [c10]; rfl) (by decide) ?_
                refine lv_aload_n hx hb dX2_map_87 rfl (lv_at hl 1 rfl) ?_
                refine G_X2_9 [] [] hx hb hT hown hK hh dX2_map_88 ?_
                refine lv_iload hx hb dX2_map_91 (lv_at hl 5 rfl) ?_
                refine lv_iload hx hb dX2_map_93 (lv_at hl 0 rfl) ?_
                refine lv_iload hx hb dX2_map_95 (lv_at hl 0 rfl) ?_
                refine lv_imul hx hb dX2_map_97 ?_
                obtain ⟨g9, h⟩ := h
                refine S_X2_0 [] [] hx hb hK hh g9 dX2_map_98 (fun H locs (hh : Wh D A s.heap ((List.flatten [bX2 a E ((o_7.1, o_7.2.1, (sa o_7.2.2 0 (upd (o_7.2.2 0) p4_7.toNatClampNeg (((o_7.2.2 0) p4_7.toNatClampNeg) * ((o_7.2.2 0) p4_7.toNatClampNeg))))))])) H locs) => ?_)
                refine lv_goto (tgt := 124) hx hb dX2_map_99 (by decide) ?_
                exact kJ124 ((o_7.1, o_7.2.1, (sa o_7.2.2 0 (upd (o_7.2.2 0) p4_7.toNatClampNeg (((o_7.2.2 0) p4_7.toNatClampNeg) * ((o_7.2.2 0) p4_7.toNatClampNeg)))))) _ _ _ h hh (lv_sub hl [1, 2, 3, 4, 5] rfl)
              · by_cases c12 : x1 = 3
                · have h := h.2.2.2.1 c12
                  refine lv_tableIn (off := 72) (tgt := 102) hx hb dX2_map_30 (by rw [c12]; decide) (by rw [c12]; decide) (by rw [c12]; rfl) (by decide) ?_
                  refine lv_aload_n hx hb dX2_map_102 rfl (lv_at hl 1 rfl) ?_
                  refine G_X2_9 [] [] hx hb hT hown hK hh dX2_map_103 ?_
                  refine lv_iload hx hb dX2_map_106 (lv_at hl 5 rfl) ?_
                  refine lv_iload hx hb dX2_map_108 (lv_at hl 0 rfl) ?_
                  refine lv_bipush (v := 7) hx hb dX2_map_110 (by decide) ?_
                  refine lv_irem hx hb dX2_map_112 (by decide) ?_
                  obtain ⟨g11, h⟩ := h
                  refine S_X2_0 [] [] hx hb hK hh g11 dX2_map_113 (fun H locs (hh : Wh D A s.heap ((List.flatten [bX2 a E ((o_7.1, o_7.2.1, (sa o_7.2.2 0 (upd (o_7.2.2 0) p4_7.toNatClampNeg (((o_7.2.2 0) p4_7.toNatClampNeg) - ((o_7.2.2 0) p4_7.toNatClampNeg) / 7 * 7)))))])) H locs) => ?_)
                  refine lv_goto (tgt := 124) hx hb dX2_map_114 (by decide) ?_
                  exact kJ124 ((o_7.1, o_7.2.1, (sa o_7.2.2 0 (upd (o_7.2.2 0) p4_7.toNatClampNeg (((o_7.2.2 0) p4_7.toNatClampNeg) - ((o_7.2.2 0) p4_7.toNatClampNeg) / 7 * 7))))) _ _ _ h hh (lv_sub hl [1, 2, 3, 4, 5] rfl)
                · have h := h.2.2.2.2 ⟨c6, c8, c10, c12⟩
                  refine q_swD (tgt := 117) hx hb dX2_map_30 (fun i h1 h2 he => (show i = 0 ∨ i = 1 ∨ i = 2 ∨ i = 3 by omega).elim (fun z => absurd (q_oi he z (by decide)) c6) (fun z => z.elim (fun z => absurd (q_oi he z (by decide)) c8) (fun z => z.elim (fun z => absurd (q_oi he z (by decide)) c10) (fun z => absurd (q_oi he z (by decide)) c12)))) (by decide) ?_
                  refine lv_aload_n hx hb dX2_map_117 rfl (lv_at hl 1 rfl) ?_
                  refine lv_iload hx hb dX2_map_118 (lv_at hl 5 rfl) ?_
                  refine lv_iload_n hx hb dX2_map_120 rfl (lv_at hl 3 rfl) ?_
                  refine kV hh.ap0 hA (rnV hx hb hml hown hT hK hh.ap0 (c_X2_sink l D E a  o_7 p4_7 x2 h _) mf_X2_sink kml_X2_32 ⟨rfl, rfl, Nat.le_of_ble_eq_true rfl, Nat.le_of_ble_eq_true rfl⟩ ⟨Nat.le_of_ble_eq_true rfl, Nat.le_of_ble_eq_true rfl⟩ 2 0 rfl rfl hl.1 rfl dX2_map_121 (Nat.le_of_ble_eq_true rfl) rfl) (fun o_14 H locs h hh => ?_)
                  have hh : Wh D A s.heap ((List.flatten [bX2 a E o_14])) _ _ := hh.un0
                  exact kJ124 o_14 _ _ _ h hh (lv_sub hl [1, 2, 3, 4, 5] rfl)
  obtain ⟨n, h⟩ := h
  refine hw7   n r1 o _ _ _ h hh (lv_sub hl [1, 2, 3, 4, 0] rfl)

def w_X2_allFrom_L2 (f1_2 : Int32)  (Post : Int32 → Ob → Prop) : Nat → Int32 → Ob → Prop
  | 0, _, _ => False
  | n2 + 1, p2_2, o_2 => (((o_2.2.1 1) ≤ p2_2) → Post 1 o_2) ∧ (¬ ((o_2.2.1 1) ≤ p2_2) → w_X2_get  p2_2 o_2 (fun (r2 : Int32) (o_3 : Ob) => ((f1_2 ≤ r2) → w_X2_allFrom_L2 f1_2  Post n2 (p2_2 + 1) o_3) ∧ (¬ (f1_2 ≤ r2) → Post 0 o_3)))
def w_X2_allFrom (x1 : Int32) (o : Ob) (Post : Int32 → Ob → Prop) : Prop := ∃ n2, w_X2_allFrom_L2 x1  Post n2 0 o
set_option maxRecDepth 100000 in
set_option maxHeartbeats 4000000 in
theorem c_X2_allFrom (l : Launch) (D : va_G) (E : Nat → ClassId) (a : Nat → Nat)  (o : Ob) (x1 : Int32) {Post : Int32 → Ob → Prop} (h : w_X2_allFrom x1 o Post) : CtI l yX2_allFrom cX2_allFrom 3 .boolean ({ frames := 1, cells := 0, slots := 0, locals := 21 } : Room) D E [.ref (a 0), .int (x1)] (List.flatten [bX2 a E o]) (fun u : Ob => List.flatten [bX2 a E u]) Post 0 0 := by
  refine enI (by decide +kernel) (Nat.le_of_ble_eq_true rfl) ?_
  intro p e s m args below meth c Q A ls hx hb hml hown hT hK hA hret hh hl
  have hl : lv_has ls 3 [(0, .ref (a 0)), (1, .int (x1))] := hl
  unfold w_X2_allFrom at h
  refine lv_iconst (v := 0) hx hb dX2_allFrom_0 (by decide) ?_
  refine lv_istore_n (lv' := [(2, .int (0)), (0, .ref (a 0)), (1, .int (x1))]) hx hb dX2_allFrom_1 rfl hl (by decide) rfl (fun ls hl => ?_)
  have hw2 : ∀   (n : Nat) (p2_2 : Int32) (o_2 : Ob) (H : Heap) (locs : List Loc) (ls : Array Slot), w_X2_allFrom_L2 x1  Post n p2_2 o_2 → Wh D A s.heap ((List.flatten [bX2 a E o_2])) H locs → lv_has ls 3 [(0, .ref (a 0)), (1, .int (x1)), (2, .int (p2_2))] → W p l e ({ frames := 1, cells := 0, slots := 0, locals := 21 } : Room) s m args below meth c H locs 0 0 Q (F0 m 2 ls []) := by
    intro   n
    induction n with
    | zero => intro p2_2 o_2 H locs ls h hh hl; exact False.elim h
    | succ n ih =>
      intro p2_2 o_2 H locs ls h hh hl
      refine lv_iload_n hx hb dX2_allFrom_2 rfl (lv_at hl 2 rfl) ?_
      refine lv_aload_n hx hb dX2_allFrom_3 rfl (lv_at hl 0 rfl) ?_
      refine G_X2_15 [] [] hx hb hT hown hK hh (v := o_2.2.1 1) rfl dX2_allFrom_4 ?_
      refine lv_icmp_ge (tgt := 27) hx hb dX2_allFrom_7 (by decide) (fun c1 => ?_) (fun c1 => ?_)
      · have h := h.1 c1
        refine lv_iconst (v := 1) hx hb dX2_allFrom_27 (by decide) ?_
        exact hret _ _ _ _ _ o_2 dX2_allFrom_28 rfl h hh
      · have h := h.2 c1
        refine lv_aload_n hx hb dX2_allFrom_10 rfl (lv_at hl 0 rfl) ?_
        refine lv_iload_n hx hb dX2_allFrom_11 rfl (lv_at hl 2 rfl) ?_
        refine kI hh.ap0 hA (rnV hx hb hml hown hT hK hh.ap0 (c_X2_get l D E a  o_2 p2_2 h _) mf_X2_get kml_X2_19 ⟨rfl, rfl, Nat.le_of_ble_eq_true rfl, Nat.le_of_ble_eq_true rfl⟩ ⟨Nat.le_of_ble_eq_true rfl, Nat.le_of_ble_eq_true rfl⟩ 2 0 rfl rfl hl.1 rfl dX2_allFrom_12 (Nat.le_of_ble_eq_true rfl) rfl) (fun r2 o_3 H locs h hh => ?_)
        have hh : Wh D A s.heap ((List.flatten [bX2 a E o_3])) _ _ := hh.un0
        refine lv_iload_n hx hb dX2_allFrom_15 rfl (lv_at hl 1 rfl) ?_
        refine lv_icmp_ge (tgt := 21) hx hb dX2_allFrom_16 (by decide) (fun c4 => ?_) (fun c4 => ?_)
        · have h := h.1 c4
          refine lv_iinc (v := p2_2 + 1) (lv' := [(2, .int (p2_2 + 1)), (0, .ref (a 0)), (1, .int (x1))]) hx hb dX2_allFrom_21 hl (k := 2) rfl (by rfl) (by decide) rfl (fun ls hl => ?_)
          refine lv_goto (tgt := 2) hx hb dX2_allFrom_24 (by decide) ?_
          exact ih (p2_2 + 1) o_3 _ _ _ h hh (lv_sub hl [1, 2, 0] rfl)
        · have h := h.2 c4
          refine lv_iconst (v := 0) hx hb dX2_allFrom_19 (by decide) ?_
          exact hret _ _ _ _ _ o_3 dX2_allFrom_20 rfl h hh
  obtain ⟨n, h⟩ := h
  refine hw2   n 0 o _ _ _ h hh (lv_sub hl [1, 2, 0] rfl)

def w_X2_rise_L2   (Post : Int32 → Ob → Prop) : Nat → Int32 → Ob → Prop
  | 0, _, _ => False
  | n2 + 1, p1_2, o_2 => (((o_2.2.1 1) ≤ p1_2) → Post 1 o_2) ∧ (¬ ((o_2.2.1 1) ≤ p1_2) → w_X2_get  (p1_2 - 1) o_2 (fun (r2 : Int32) (o_3 : Ob) => w_X2_get  p1_2 o_3 (fun (r4 : Int32) (o_5 : Ob) => ((r2 ≤ r4) → w_X2_rise_L2   Post n2 (p1_2 + 1) o_5) ∧ (¬ (r2 ≤ r4) → Post 0 o_5))))
def w_X2_rise  (o : Ob) (Post : Int32 → Ob → Prop) : Prop := ∃ n2, w_X2_rise_L2   Post n2 1 o
set_option maxRecDepth 100000 in
set_option maxHeartbeats 4000000 in
theorem c_X2_rise (l : Launch) (D : va_G) (E : Nat → ClassId) (a : Nat → Nat)  (o : Ob)  {Post : Int32 → Ob → Prop} (h : w_X2_rise  o Post) : CtI l yX2_rise cX2_rise 2 .boolean ({ frames := 1, cells := 0, slots := 0, locals := 21 } : Room) D E [.ref (a 0)] (List.flatten [bX2 a E o]) (fun u : Ob => List.flatten [bX2 a E u]) Post 0 0 := by
  refine enI (by decide +kernel) (Nat.le_of_ble_eq_true rfl) ?_
  intro p e s m args below meth c Q A ls hx hb hml hown hT hK hA hret hh hl
  have hl : lv_has ls 2 [(0, .ref (a 0))] := hl
  unfold w_X2_rise at h
  refine lv_iconst (v := 1) hx hb dX2_rise_0 (by decide) ?_
  refine lv_istore_n (lv' := [(1, .int (1)), (0, .ref (a 0))]) hx hb dX2_rise_1 rfl hl (by decide) rfl (fun ls hl => ?_)
  have hw2 : ∀   (n : Nat) (p1_2 : Int32) (o_2 : Ob) (H : Heap) (locs : List Loc) (ls : Array Slot), w_X2_rise_L2   Post n p1_2 o_2 → Wh D A s.heap ((List.flatten [bX2 a E o_2])) H locs → lv_has ls 2 [(0, .ref (a 0)), (1, .int (p1_2))] → W p l e ({ frames := 1, cells := 0, slots := 0, locals := 21 } : Room) s m args below meth c H locs 0 0 Q (F0 m 2 ls []) := by
    intro   n
    induction n with
    | zero => intro p1_2 o_2 H locs ls h hh hl; exact False.elim h
    | succ n ih =>
      intro p1_2 o_2 H locs ls h hh hl
      refine lv_iload_n hx hb dX2_rise_2 rfl (lv_at hl 1 rfl) ?_
      refine lv_aload_n hx hb dX2_rise_3 rfl (lv_at hl 0 rfl) ?_
      refine G_X2_15 [] [] hx hb hT hown hK hh (v := o_2.2.1 1) rfl dX2_rise_4 ?_
      refine lv_icmp_ge (tgt := 33) hx hb dX2_rise_7 (by decide) (fun c1 => ?_) (fun c1 => ?_)
      · have h := h.1 c1
        refine lv_iconst (v := 1) hx hb dX2_rise_33 (by decide) ?_
        exact hret _ _ _ _ _ o_2 dX2_rise_34 rfl h hh
      · have h := h.2 c1
        refine lv_aload_n hx hb dX2_rise_10 rfl (lv_at hl 0 rfl) ?_
        refine lv_iload_n hx hb dX2_rise_11 rfl (lv_at hl 1 rfl) ?_
        refine lv_iconst (v := 1) hx hb dX2_rise_12 (by decide) ?_
        refine lv_isub hx hb dX2_rise_13 ?_
        refine kI hh.ap0 hA (rnV hx hb hml hown hT hK hh.ap0 (c_X2_get l D E a  o_2 (p1_2 - 1) h _) mf_X2_get kml_X2_19 ⟨rfl, rfl, Nat.le_of_ble_eq_true rfl, Nat.le_of_ble_eq_true rfl⟩ ⟨Nat.le_of_ble_eq_true rfl, Nat.le_of_ble_eq_true rfl⟩ 2 0 rfl rfl hl.1 rfl dX2_rise_14 (Nat.le_of_ble_eq_true rfl) rfl) (fun r2 o_3 H locs h hh => ?_)
        have hh : Wh D A s.heap ((List.flatten [bX2 a E o_3])) _ _ := hh.un0
        refine lv_aload_n hx hb dX2_rise_17 rfl (lv_at hl 0 rfl) ?_
        refine lv_iload_n hx hb dX2_rise_18 rfl (lv_at hl 1 rfl) ?_
        refine kI hh.ap0 hA (rnV hx hb hml hown hT hK hh.ap0 (c_X2_get l D E a  o_3 p1_2 h _) mf_X2_get kml_X2_19 ⟨rfl, rfl, Nat.le_of_ble_eq_true rfl, Nat.le_of_ble_eq_true rfl⟩ ⟨Nat.le_of_ble_eq_true rfl, Nat.le_of_ble_eq_true rfl⟩ 2 0 rfl rfl hl.1 rfl dX2_rise_19 (Nat.le_of_ble_eq_true rfl) rfl) (fun r4 o_5 H locs h hh => ?_)
        have hh : Wh D A s.heap ((List.flatten [bX2 a E o_5])) _ _ := hh.un0
        refine lv_icmp_le (tgt := 27) hx hb dX2_rise_22 (by decide) (fun c6 => ?_) (fun c6 => ?_)
        · have h := h.1 c6
          refine lv_iinc (v := p1_2 + 1) (lv' := [(1, .int (p1_2 + 1)), (0, .ref (a 0))]) hx hb dX2_rise_27 hl (k := 1) rfl (by rfl) (by decide) rfl (fun ls hl => ?_)
          refine lv_goto (tgt := 2) hx hb dX2_rise_30 (by decide) ?_
          exact ih (p1_2 + 1) o_5 _ _ _ h hh (lv_sub hl [1, 0] rfl)
        · have h := h.2 c6
          refine lv_iconst (v := 0) hx hb dX2_rise_25 (by decide) ?_
          exact hret _ _ _ _ _ o_5 dX2_rise_26 rfl h hh
  obtain ⟨n, h⟩ := h
  refine hw2   n 1 o _ _ _ h hh (lv_sub hl [1, 0] rfl)

def w_X2_allDiffer_L12 (f1_12 : Int32) (K38_12 : Ob → Prop) (Post : Int32 → Ob → Prop) : Nat → Int32 → Ob → Prop
  | 0, _, _ => False
  | n12 + 1, p2_12, o_12 => ((f1_12 ≤ p2_12) → K38_12 o_12) ∧ (¬ (f1_12 ≤ p2_12) → w_X2_get  f1_12 o_12 (fun (r3 : Int32) (o_4 : Ob) => w_X2_get  p2_12 o_4 (fun (r5 : Int32) (o_6 : Ob) => ((¬ r3 = r5) → w_X2_allDiffer_L12 f1_12 K38_12 Post n12 (p2_12 + 1) o_6) ∧ ((r3 = r5) → Post 0 o_6))))
def w_X2_allDiffer_L2   (Post : Int32 → Ob → Prop) : Nat → Int32 → Ob → Prop
  | 0, _, _ => False
  | n2 + 1, p1_2, o_2 => (((o_2.2.1 1) ≤ p1_2) → Post 1 o_2) ∧ (¬ ((o_2.2.1 1) ≤ p1_2) → ∃ n12, w_X2_allDiffer_L12 p1_2 (fun (o_k38 : Ob) => w_X2_allDiffer_L2   Post n2 (p1_2 + 1) o_k38) Post n12 0 o_2)
def w_X2_allDiffer  (o : Ob) (Post : Int32 → Ob → Prop) : Prop := ∃ n2, w_X2_allDiffer_L2   Post n2 1 o
set_option maxRecDepth 100000 in
set_option maxHeartbeats 4000000 in
theorem c_X2_allDiffer (l : Launch) (D : va_G) (E : Nat → ClassId) (a : Nat → Nat)  (o : Ob)  {Post : Int32 → Ob → Prop} (h : w_X2_allDiffer  o Post) : CtI l yX2_allDiffer cX2_allDiffer 3 .boolean ({ frames := 1, cells := 0, slots := 0, locals := 21 } : Room) D E [.ref (a 0)] (List.flatten [bX2 a E o]) (fun u : Ob => List.flatten [bX2 a E u]) Post 0 0 := by
  refine enI (by decide +kernel) (Nat.le_of_ble_eq_true rfl) ?_
  intro p e s m args below meth c Q A ls hx hb hml hown hT hK hA hret hh hl
  have hl : lv_has ls 3 [(0, .ref (a 0))] := hl
  unfold w_X2_allDiffer at h
  refine lv_iconst (v := 1) hx hb dX2_allDiffer_0 (by decide) ?_
  refine lv_istore_n (lv' := [(1, .int (1)), (0, .ref (a 0))]) hx hb dX2_allDiffer_1 rfl hl (by decide) rfl (fun ls hl => ?_)
  have hw2 : ∀   (n : Nat) (p1_2 : Int32) (o_2 : Ob) (H : Heap) (locs : List Loc) (ls : Array Slot), w_X2_allDiffer_L2   Post n p1_2 o_2 → Wh D A s.heap ((List.flatten [bX2 a E o_2])) H locs → lv_has ls 3 [(0, .ref (a 0)), (1, .int (p1_2))] → W p l e ({ frames := 1, cells := 0, slots := 0, locals := 21 } : Room) s m args below meth c H locs 0 0 Q (F0 m 2 ls []) := by
    intro   n
    induction n with
    | zero => intro p1_2 o_2 H locs ls h hh hl; exact False.elim h
    | succ n ih =>
      intro p1_2 o_2 H locs ls h hh hl
      refine lv_iload_n hx hb dX2_allDiffer_2 rfl (lv_at hl 1 rfl) ?_
      refine lv_aload_n hx hb dX2_allDiffer_3 rfl (lv_at hl 0 rfl) ?_
      refine G_X2_15 [] [] hx hb hT hown hK hh (v := o_2.2.1 1) rfl dX2_allDiffer_4 ?_
      refine lv_icmp_ge (tgt := 44) hx hb dX2_allDiffer_7 (by decide) (fun c1 => ?_) (fun c1 => ?_)
      · have h := h.1 c1
        refine lv_iconst (v := 1) hx hb dX2_allDiffer_44 (by decide) ?_
        exact hret _ _ _ _ _ o_2 dX2_allDiffer_45 rfl h hh
      · have h := h.2 c1
        refine lv_iconst (v := 0) hx hb dX2_allDiffer_10 (by decide) ?_
        refine lv_istore_n (lv' := [(2, .int (0)), (0, .ref (a 0)), (1, .int (p1_2))]) hx hb dX2_allDiffer_11 rfl hl (by decide) rfl (fun ls hl => ?_)
        have hw12 : ∀ (K38_12 : Ob → Prop) (hK38_12 : ∀ (o_k38 : Ob) (H : Heap) (locs : List Loc) (ls : Array Slot), K38_12 o_k38 → Wh D A s.heap ((List.flatten [bX2 a E o_k38])) H locs → lv_has ls 3 [(0, .ref (a 0)), (1, .int (p1_2))] → W p l e ({ frames := 1, cells := 0, slots := 0, locals := 21 } : Room) s m args below meth c H locs 0 0 Q (F0 m 38 ls [])) (n : Nat) (p2_12 : Int32) (o_12 : Ob) (H : Heap) (locs : List Loc) (ls : Array Slot), w_X2_allDiffer_L12 p1_2 K38_12 Post n p2_12 o_12 → Wh D A s.heap ((List.flatten [bX2 a E o_12])) H locs → lv_has ls 3 [(0, .ref (a 0)), (1, .int (p1_2)), (2, .int (p2_12))] → W p l e ({ frames := 1, cells := 0, slots := 0, locals := 21 } : Room) s m args below meth c H locs 0 0 Q (F0 m 12 ls []) := by
          intro K38_12 hK38_12 n
          induction n with
          | zero => intro p2_12 o_12 H locs ls h hh hl; exact False.elim h
          | succ n ih =>
            intro p2_12 o_12 H locs ls h hh hl
            refine lv_iload_n hx hb dX2_allDiffer_12 rfl (lv_at hl 2 rfl) ?_
            refine lv_iload_n hx hb dX2_allDiffer_13 rfl (lv_at hl 1 rfl) ?_
            refine lv_icmp_ge (tgt := 38) hx hb dX2_allDiffer_14 (by decide) (fun c2 => ?_) (fun c2 => ?_)
            · have h := h.1 c2
              exact hK38_12 o_12 _ _ _ h hh (lv_sub hl [0, 1] rfl)
            · have h := h.2 c2
              refine lv_aload_n hx hb dX2_allDiffer_17 rfl (lv_at hl 0 rfl) ?_
              refine lv_iload_n hx hb dX2_allDiffer_18 rfl (lv_at hl 1 rfl) ?_
              refine kI hh.ap0 hA (rnV hx hb hml hown hT hK hh.ap0 (c_X2_get l D E a  o_12 p1_2 h _) mf_X2_get kml_X2_19 ⟨rfl, rfl, Nat.le_of_ble_eq_true rfl, Nat.le_of_ble_eq_true rfl⟩ ⟨Nat.le_of_ble_eq_true rfl, Nat.le_of_ble_eq_true rfl⟩ 2 0 rfl rfl hl.1 rfl dX2_allDiffer_19 (Nat.le_of_ble_eq_true rfl) rfl) (fun r3 o_4 H locs h hh => ?_)
              have hh : Wh D A s.heap ((List.flatten [bX2 a E o_4])) _ _ := hh.un0
              refine lv_aload_n hx hb dX2_allDiffer_22 rfl (lv_at hl 0 rfl) ?_
              refine lv_iload_n hx hb dX2_allDiffer_23 rfl (lv_at hl 2 rfl) ?_
              refine kI hh.ap0 hA (rnV hx hb hml hown hT hK hh.ap0 (c_X2_get l D E a  o_4 p2_12 h _) mf_X2_get kml_X2_19 ⟨rfl, rfl, Nat.le_of_ble_eq_true rfl, Nat.le_of_ble_eq_true rfl⟩ ⟨Nat.le_of_ble_eq_true rfl, Nat.le_of_ble_eq_true rfl⟩ 2 0 rfl rfl hl.1 rfl dX2_allDiffer_24 (Nat.le_of_ble_eq_true rfl) rfl) (fun r5 o_6 H locs h hh => ?_)
              have hh : Wh D A s.heap ((List.flatten [bX2 a E o_6])) _ _ := hh.un0
              refine lv_icmp_ne (tgt := 32) hx hb dX2_allDiffer_27 (by decide) (fun c7 => ?_) (fun c7 => ?_)
              · have h := h.1 c7
                refine lv_iinc (v := p2_12 + 1) (lv' := [(2, .int (p2_12 + 1)), (0, .ref (a 0)), (1, .int (p1_2))]) hx hb dX2_allDiffer_32 hl (k := 2) rfl (by rfl) (by decide) rfl (fun ls hl => ?_)
                refine lv_goto (tgt := 12) hx hb dX2_allDiffer_35 (by decide) ?_
                exact ih (p2_12 + 1) o_6 _ _ _ h hh (lv_sub hl [1, 2, 0] rfl)
              · have h := h.2 c7
                refine lv_iconst (v := 0) hx hb dX2_allDiffer_30 (by decide) ?_
                exact hret _ _ _ _ _ o_6 dX2_allDiffer_31 rfl h hh
        obtain ⟨n, h⟩ := h
        refine hw12 _ (fun o_k38 H locs ls h hh hl => ?_) n 0 o_2 _ _ _ h hh (lv_sub hl [1, 2, 0] rfl)
        refine lv_iinc (v := p1_2 + 1) (lv' := [(1, .int (p1_2 + 1)), (0, .ref (a 0))]) hx hb dX2_allDiffer_38 hl (k := 1) rfl (by rfl) (by decide) rfl (fun ls hl => ?_)
        refine lv_goto (tgt := 2) hx hb dX2_allDiffer_41 (by decide) ?_
        exact ih (p1_2 + 1) o_k38 _ _ _ h hh (lv_sub hl [1, 0] rfl)
  obtain ⟨n, h⟩ := h
  refine hw2   n 1 o _ _ _ h hh (lv_sub hl [1, 0] rfl)

def w_X2_noQuotientSeven_L2 (f1_2 : Int32)  (Post : Int32 → Ob → Prop) : Nat → Int32 → Ob → Prop
  | 0, _, _ => False
  | n2 + 1, p2_2, o_2 => (((o_2.2.1 1) ≤ p2_2) → Post 1 o_2) ∧ (¬ ((o_2.2.1 1) ≤ p2_2) → w_X2_get  p2_2 o_2 (fun (r2 : Int32) (o_3 : Ob) => ((¬ (r2 - f1_2) = 0) → ¬ (r2 - f1_2) = 0 ∧ (((¬ (1000 / (r2 - f1_2)) = 7) → w_X2_noQuotientSeven_L2 f1_2  Post n2 (p2_2 + 1) o_3) ∧ (((1000 / (r2 - f1_2)) = 7) → Post 0 o_3))) ∧ (((r2 - f1_2) = 0) → Post ((-1)) o_3)))
def w_X2_noQuotientSeven (x1 : Int32) (o : Ob) (Post : Int32 → Ob → Prop) : Prop := ∃ n2, w_X2_noQuotientSeven_L2 x1  Post n2 0 o
set_option maxRecDepth 100000 in
set_option maxHeartbeats 4000000 in
theorem c_X2_noQuotientSeven (l : Launch) (D : va_G) (E : Nat → ClassId) (a : Nat → Nat)  (o : Ob) (x1 : Int32) {Post : Int32 → Ob → Prop} (h : w_X2_noQuotientSeven x1 o Post) : CtI l yX2_noQuotientSeven cX2_noQuotientSeven 4 .int ({ frames := 1, cells := 0, slots := 0, locals := 21 } : Room) D E [.ref (a 0), .int (x1)] (List.flatten [bX2 a E o]) (fun u : Ob => List.flatten [bX2 a E u]) Post 0 0 := by
  refine enI (by decide +kernel) (Nat.le_of_ble_eq_true rfl) ?_
  intro p e s m args below meth c Q A ls hx hb hml hown hT hK hA hret hh hl
  have hl : lv_has ls 4 [(0, .ref (a 0)), (1, .int (x1))] := hl
  unfold w_X2_noQuotientSeven at h
  refine lv_iconst (v := 0) hx hb dX2_noQuotientSeven_0 (by decide) ?_
  refine lv_istore_n (lv' := [(2, .int (0)), (0, .ref (a 0)), (1, .int (x1))]) hx hb dX2_noQuotientSeven_1 rfl hl (by decide) rfl (fun ls hl => ?_)
  have hw2 : ∀   (n : Nat) (p2_2 : Int32) (o_2 : Ob) (H : Heap) (locs : List Loc) (ls : Array Slot), w_X2_noQuotientSeven_L2 x1  Post n p2_2 o_2 → Wh D A s.heap ((List.flatten [bX2 a E o_2])) H locs → lv_has ls 4 [(0, .ref (a 0)), (1, .int (x1)), (2, .int (p2_2))] → W p l e ({ frames := 1, cells := 0, slots := 0, locals := 21 } : Room) s m args below meth c H locs 0 0 Q (F0 m 2 ls []) := by
    intro   n
    induction n with
    | zero => intro p2_2 o_2 H locs ls h hh hl; exact False.elim h
    | succ n ih =>
      intro p2_2 o_2 H locs ls h hh hl
      refine lv_iload_n hx hb dX2_noQuotientSeven_2 rfl (lv_at hl 2 rfl) ?_
      refine lv_aload_n hx hb dX2_noQuotientSeven_3 rfl (lv_at hl 0 rfl) ?_
      refine G_X2_15 [] [] hx hb hT hown hK hh (v := o_2.2.1 1) rfl dX2_noQuotientSeven_4 ?_
      refine lv_icmp_ge (tgt := 42) hx hb dX2_noQuotientSeven_7 (by decide) (fun c1 => ?_) (fun c1 => ?_)
      · have h := h.1 c1
        refine lv_iconst (v := 1) hx hb dX2_noQuotientSeven_42 (by decide) ?_
        exact hret _ _ _ _ _ o_2 dX2_noQuotientSeven_43 rfl h hh
      · have h := h.2 c1
        refine lv_aload_n hx hb dX2_noQuotientSeven_10 rfl (lv_at hl 0 rfl) ?_
        refine lv_iload_n hx hb dX2_noQuotientSeven_11 rfl (lv_at hl 2 rfl) ?_
        refine kI hh.ap0 hA (rnV hx hb hml hown hT hK hh.ap0 (c_X2_get l D E a  o_2 p2_2 h _) mf_X2_get kml_X2_19 ⟨rfl, rfl, Nat.le_of_ble_eq_true rfl, Nat.le_of_ble_eq_true rfl⟩ ⟨Nat.le_of_ble_eq_true rfl, Nat.le_of_ble_eq_true rfl⟩ 2 0 rfl rfl hl.1 rfl dX2_noQuotientSeven_12 (Nat.le_of_ble_eq_true rfl) rfl) (fun r2 o_3 H locs h hh => ?_)
        have hh : Wh D A s.heap ((List.flatten [bX2 a E o_3])) _ _ := hh.un0
        refine lv_iload_n hx hb dX2_noQuotientSeven_15 rfl (lv_at hl 1 rfl) ?_
        refine lv_isub hx hb dX2_noQuotientSeven_16 ?_
        refine lv_istore_n (lv' := [(3, .int (r2 - x1)), (0, .ref (a 0)), (1, .int (x1)), (2, .int (p2_2))]) hx hb dX2_noQuotientSeven_17 rfl hl (by decide) rfl (fun ls hl => ?_)
        refine lv_iload_n hx hb dX2_noQuotientSeven_18 rfl (lv_at hl 0 rfl) ?_
        refine lv_if_ne (tgt := 24) hx hb dX2_noQuotientSeven_19 (by decide) (fun c4 => ?_) (fun c4 => ?_)
        · have h := h.1 c4
          refine lv_sipush (v := 1000) hx hb dX2_noQuotientSeven_24 (by decide) ?_
          refine lv_iload_n hx hb dX2_noQuotientSeven_27 rfl (lv_at hl 0 rfl) ?_
          obtain ⟨g5, h⟩ := h
          refine lv_idiv hx hb dX2_noQuotientSeven_28 g5 ?_
          refine lv_bipush (v := 7) hx hb dX2_noQuotientSeven_29 (by decide) ?_
          refine lv_icmp_ne (tgt := 36) hx hb dX2_noQuotientSeven_31 (by decide) (fun c6 => ?_) (fun c6 => ?_)
          · have h := h.1 c6
            refine lv_iinc (v := p2_2 + 1) (lv' := [(2, .int (p2_2 + 1)), (3, .int (r2 - x1)), (0, .ref (a 0)), (1, .int (x1))]) hx hb dX2_noQuotientSeven_36 hl (k := 3) rfl (by rfl) (by decide) rfl (fun ls hl => ?_)
            refine lv_goto (tgt := 2) hx hb dX2_noQuotientSeven_39 (by decide) ?_
            exact ih (p2_2 + 1) o_3 _ _ _ h hh (lv_sub hl [2, 3, 0] rfl)
          · have h := h.2 c6
            refine lv_iconst (v := 0) hx hb dX2_noQuotientSeven_34 (by decide) ?_
            exact hret _ _ _ _ _ o_3 dX2_noQuotientSeven_35 rfl h hh
        · have h := h.2 c4
          refine lv_iconst (v := (-1)) hx hb dX2_noQuotientSeven_22 (by decide) ?_
          exact hret _ _ _ _ _ o_3 dX2_noQuotientSeven_23 rfl h hh
  obtain ⟨n, h⟩ := h
  refine hw2   n 0 o _ _ _ h hh (lv_sub hl [1, 2, 0] rfl)

def w_X2_noneTellsOf_L2 (f1_2 : Int32)  (Post : Int32 → Ob → Prop) : Nat → Int32 → Ob → Prop
  | 0, _, _ => False
  | n2 + 1, p2_2, o_2 => (((o_2.2.1 1) ≤ p2_2) → Post 1 o_2) ∧ (¬ ((o_2.2.1 1) ≤ p2_2) → w_X2_get  p2_2 o_2 (fun (r2 : Int32) (o_3 : Ob) => ((r2 < 0) → Post ((-2)) o_3) ∧ (¬ (r2 < 0) → ((r2 < (o_3.2.1 1)) → w_X2_get  r2 o_3 (fun (r6 : Int32) (o_7 : Ob) => ((¬ r6 = f1_2) → w_X2_noneTellsOf_L2 f1_2  Post n2 (p2_2 + 1) o_7) ∧ ((r6 = f1_2) → Post 0 o_7))) ∧ (¬ (r2 < (o_3.2.1 1)) → Post ((-2)) o_3))))
def w_X2_noneTellsOf (x1 : Int32) (o : Ob) (Post : Int32 → Ob → Prop) : Prop := ∃ n2, w_X2_noneTellsOf_L2 x1  Post n2 0 o
set_option maxRecDepth 100000 in
set_option maxHeartbeats 4000000 in
theorem c_X2_noneTellsOf (l : Launch) (D : va_G) (E : Nat → ClassId) (a : Nat → Nat)  (o : Ob) (x1 : Int32) {Post : Int32 → Ob → Prop} (h : w_X2_noneTellsOf x1 o Post) : CtI l yX2_noneTellsOf cX2_noneTellsOf 4 .int ({ frames := 1, cells := 0, slots := 0, locals := 21 } : Room) D E [.ref (a 0), .int (x1)] (List.flatten [bX2 a E o]) (fun u : Ob => List.flatten [bX2 a E u]) Post 0 0 := by
  refine enI (by decide +kernel) (Nat.le_of_ble_eq_true rfl) ?_
  intro p e s m args below meth c Q A ls hx hb hml hown hT hK hA hret hh hl
  have hl : lv_has ls 4 [(0, .ref (a 0)), (1, .int (x1))] := hl
  unfold w_X2_noneTellsOf at h
  refine lv_iconst (v := 0) hx hb dX2_noneTellsOf_0 (by decide) ?_
  refine lv_istore_n (lv' := [(2, .int (0)), (0, .ref (a 0)), (1, .int (x1))]) hx hb dX2_noneTellsOf_1 rfl hl (by decide) rfl (fun ls hl => ?_)
  have hw2 : ∀   (n : Nat) (p2_2 : Int32) (o_2 : Ob) (H : Heap) (locs : List Loc) (ls : Array Slot), w_X2_noneTellsOf_L2 x1  Post n p2_2 o_2 → Wh D A s.heap ((List.flatten [bX2 a E o_2])) H locs → lv_has ls 4 [(0, .ref (a 0)), (1, .int (x1)), (2, .int (p2_2))] → W p l e ({ frames := 1, cells := 0, slots := 0, locals := 21 } : Room) s m args below meth c H locs 0 0 Q (F0 m 2 ls []) := by
    intro   n
    induction n with
    | zero => intro p2_2 o_2 H locs ls h hh hl; exact False.elim h
    | succ n ih =>
      intro p2_2 o_2 H locs ls h hh hl
      refine lv_iload_n hx hb dX2_noneTellsOf_2 rfl (lv_at hl 2 rfl) ?_
      refine lv_aload_n hx hb dX2_noneTellsOf_3 rfl (lv_at hl 0 rfl) ?_
      refine G_X2_15 [] [] hx hb hT hown hK hh (v := o_2.2.1 1) rfl dX2_noneTellsOf_4 ?_
      refine lv_icmp_ge (tgt := 48) hx hb dX2_noneTellsOf_7 (by decide) (fun c1 => ?_) (fun c1 => ?_)
      · have h := h.1 c1
        refine lv_iconst (v := 1) hx hb dX2_noneTellsOf_48 (by decide) ?_
        exact hret _ _ _ _ _ o_2 dX2_noneTellsOf_49 rfl h hh
      · have h := h.2 c1
        refine lv_aload_n hx hb dX2_noneTellsOf_10 rfl (lv_at hl 0 rfl) ?_
        refine lv_iload_n hx hb dX2_noneTellsOf_11 rfl (lv_at hl 2 rfl) ?_
        refine kI hh.ap0 hA (rnV hx hb hml hown hT hK hh.ap0 (c_X2_get l D E a  o_2 p2_2 h _) mf_X2_get kml_X2_19 ⟨rfl, rfl, Nat.le_of_ble_eq_true rfl, Nat.le_of_ble_eq_true rfl⟩ ⟨Nat.le_of_ble_eq_true rfl, Nat.le_of_ble_eq_true rfl⟩ 2 0 rfl rfl hl.1 rfl dX2_noneTellsOf_12 (Nat.le_of_ble_eq_true rfl) rfl) (fun r2 o_3 H locs h hh => ?_)
        have hh : Wh D A s.heap ((List.flatten [bX2 a E o_3])) _ _ := hh.un0
        refine lv_istore_n (lv' := [(3, .int (r2)), (0, .ref (a 0)), (1, .int (x1)), (2, .int (p2_2))]) hx hb dX2_noneTellsOf_15 rfl hl (by decide) rfl (fun ls hl => ?_)
        refine lv_iload_n hx hb dX2_noneTellsOf_16 rfl (lv_at hl 0 rfl) ?_
        refine lv_if_lt (tgt := 28) hx hb dX2_noneTellsOf_17 (by decide) (fun c4 => ?_) (fun c4 => ?_)
        · have h := h.1 c4
          refine lv_bipush (v := (-2)) hx hb dX2_noneTellsOf_28 (by decide) ?_
          exact hret _ _ _ _ _ o_3 dX2_noneTellsOf_30 rfl h hh
        · have h := h.2 c4
          refine lv_iload_n hx hb dX2_noneTellsOf_20 rfl (lv_at hl 0 rfl) ?_
          refine lv_aload_n hx hb dX2_noneTellsOf_21 rfl (lv_at hl 1 rfl) ?_
          refine G_X2_15 [] [] hx hb hT hown hK hh (v := o_3.2.1 1) rfl dX2_noneTellsOf_22 ?_
          refine lv_icmp_lt (tgt := 31) hx hb dX2_noneTellsOf_25 (by decide) (fun c5 => ?_) (fun c5 => ?_)
          · have h := h.1 c5
            refine lv_aload_n hx hb dX2_noneTellsOf_31 rfl (lv_at hl 1 rfl) ?_
            refine lv_iload_n hx hb dX2_noneTellsOf_32 rfl (lv_at hl 0 rfl) ?_
            refine kI hh.ap0 hA (rnV hx hb hml hown hT hK hh.ap0 (c_X2_get l D E a  o_3 r2 h _) mf_X2_get kml_X2_19 ⟨rfl, rfl, Nat.le_of_ble_eq_true rfl, Nat.le_of_ble_eq_true rfl⟩ ⟨Nat.le_of_ble_eq_true rfl, Nat.le_of_ble_eq_true rfl⟩ 2 0 rfl rfl hl.1 rfl dX2_noneTellsOf_33 (Nat.le_of_ble_eq_true rfl) rfl) (fun r6 o_7 H locs h hh => ?_)
            have hh : Wh D A s.heap ((List.flatten [bX2 a E o_7])) _ _ := hh.un0
            refine lv_iload_n hx hb dX2_noneTellsOf_36 rfl (lv_at hl 2 rfl) ?_
            refine lv_icmp_ne (tgt := 42) hx hb dX2_noneTellsOf_37 (by decide) (fun c8 => ?_) (fun c8 => ?_)
            · have h := h.1 c8
              refine lv_iinc (v := p2_2 + 1) (lv' := [(2, .int (p2_2 + 1)), (3, .int (r2)), (0, .ref (a 0)), (1, .int (x1))]) hx hb dX2_noneTellsOf_42 hl (k := 3) rfl (by rfl) (by decide) rfl (fun ls hl => ?_)
              refine lv_goto (tgt := 2) hx hb dX2_noneTellsOf_45 (by decide) ?_
              exact ih (p2_2 + 1) o_7 _ _ _ h hh (lv_sub hl [2, 3, 0] rfl)
            · have h := h.2 c8
              refine lv_iconst (v := 0) hx hb dX2_noneTellsOf_40 (by decide) ?_
              exact hret _ _ _ _ _ o_7 dX2_noneTellsOf_41 rfl h hh
          · have h := h.2 c5
            refine lv_bipush (v := (-2)) hx hb dX2_noneTellsOf_28 (by decide) ?_
            exact hret _ _ _ _ _ o_3 dX2_noneTellsOf_30 rfl h hh
  obtain ⟨n, h⟩ := h
  refine hw2   n 0 o _ _ _ h hh (lv_sub hl [1, 2, 0] rfl)

def w_X3_start (x1 : Int32) (x2 : Int32) (o : Ob) (Post : Ob → Prop) : Prop := Post ((o.1, (upd (upd (upd (upd o.2.1 2 x1) 3 x2) 1 ((0 : Int32))) 4 ((0 : Int32))), o.2.2))
set_option maxRecDepth 100000 in
set_option maxHeartbeats 4000000 in
theorem c_X3_start (l : Launch) (D : va_G) (E : Nat → ClassId) (a : Nat → Nat)  (o : Ob) (x1 : Int32) (x2 : Int32) {Post : Ob → Prop} (h : w_X3_start x1 x2 o Post) : CtV l yX3_start cX3_start 3 ({ frames := 0, cells := 0, slots := 0, locals := 0 } : Room) D E [.ref (a 0), .int (x1), .int (x2)] (List.flatten [bX3 a E o]) (fun u : Ob => List.flatten [bX3 a E u]) Post 0 0 := by
  refine enV (by decide +kernel) (Nat.le_of_ble_eq_true rfl) ?_
  intro p e s m args below meth c Q A ls hx hb hml hown hT hK hA hin0 hret hh hl
  have hl : lv_has ls 3 [(0, .ref (a 0)), (1, .int (x1)), (2, .int (x2))] := hl
  unfold w_X3_start at h
  refine lv_aload_n hx hb dX3_start_0 rfl (lv_at hl 0 rfl) ?_
  refine lv_iload_n hx hb dX3_start_1 rfl (lv_at hl 1 rfl) ?_
  refine P_X3_19 [] [] hx hb hT hown hK hh dX3_start_2 (fun H locs (hh : Wh D A s.heap ((List.flatten [bX3 a E ((o.1, (upd o.2.1 2 x1), o.2.2))])) H locs) => ?_)
  refine lv_aload_n hx hb dX3_start_5 rfl (lv_at hl 0 rfl) ?_
  refine lv_iload_n hx hb dX3_start_6 rfl (lv_at hl 2 rfl) ?_
  refine P_X3_22 [] [] hx hb hT hown hK hh dX3_start_7 (fun H locs (hh : Wh D A s.heap ((List.flatten [bX3 a E ((o.1, (upd (upd o.2.1 2 x1) 3 x2), o.2.2))])) H locs) => ?_)
  refine lv_aload_n hx hb dX3_start_10 rfl (lv_at hl 0 rfl) ?_
  refine lv_iconst (v := 0) hx hb dX3_start_11 (by decide) ?_
  refine P_X3_15 [] [] hx hb hT hown hK hh dX3_start_12 (fun H locs (hh : Wh D A s.heap ((List.flatten [bX3 a E ((o.1, (upd (upd (upd o.2.1 2 x1) 3 x2) 1 ((0 : Int32))), o.2.2))])) H locs) => ?_)
  refine lv_aload_n hx hb dX3_start_15 rfl (lv_at hl 0 rfl) ?_
  refine lv_iconst (v := 0) hx hb dX3_start_16 (by decide) ?_
  refine P_X3_25 [] [] hx hb hT hown hK hh (by decide) dX3_start_17 (fun H locs (hh : Wh D A s.heap ((List.flatten [bX3 a E ((o.1, (upd (upd (upd (upd o.2.1 2 x1) 3 x2) 1 ((0 : Int32))) 4 ((0 : Int32))), o.2.2))])) H locs) => ?_)
  exact hret _ _ _ _ (o.1, (upd (upd (upd (upd o.2.1 2 x1) 3 x2) 1 ((0 : Int32))) 4 ((0 : Int32))), o.2.2) dX3_start_20 h hh

def w_X3_put_L21 (f1_21 : Int32) (K65_21 : Int32 → Ob → Prop) (Post : Ob → Prop) : Nat → Int32 → Ob → Prop
  | 0, _, _ => False
  | n21 + 1, p2_21, o_21 => ((¬ (o_21.2.1 2) = 2) → K65_21 p2_21 o_21) ∧ (((o_21.2.1 2) = 2) → ((p2_21 ≤ 0) → K65_21 p2_21 o_21) ∧ (¬ (p2_21 ≤ 0) → vp_in (p2_21 - 1) 5 ∧ (((((o_21.2.2 0) (p2_21 - 1).toNatClampNeg) ≤ f1_21) → K65_21 p2_21 o_21) ∧ (¬ (((o_21.2.2 0) (p2_21 - 1).toNatClampNeg) ≤ f1_21) → vp_in (p2_21 - 1) 5 ∧ (vp_in p2_21 5 ∧ (w_X3_put_L21 f1_21 K65_21 Post n21 (p2_21 + (-1)) ((o_21.1, o_21.2.1, (sa o_21.2.2 0 (upd (o_21.2.2 0) p2_21.toNatClampNeg ((o_21.2.2 0) (p2_21 - 1).toNatClampNeg)))))))))))
def w_X3_put (x1 : Int32) (o : Ob) (Post : Ob → Prop) : Prop := (((o.2.1 1) < 0) → Post o) ∧ (¬ ((o.2.1 1) < 0) → (((o.2.1 1) < 5) → ∃ n21, w_X3_put_L21 x1 (fun (k2_65 : Int32) (o_k65 : Ob) => vp_in k2_65 5 ∧ (Post ((o_k65.1, (upd o_k65.2.1 1 (((o_k65.2.1 1) + 1))), (sa o_k65.2.2 0 (upd (o_k65.2.2 0) k2_65.toNatClampNeg x1)))))) Post n21 (o.2.1 1) o) ∧ (¬ ((o.2.1 1) < 5) → Post o))
set_option maxRecDepth 100000 in
set_option maxHeartbeats 4000000 in
theorem c_X3_put (l : Launch) (D : va_G) (E : Nat → ClassId) (a : Nat → Nat)  (o : Ob) (x1 : Int32) {Post : Ob → Prop} (h : w_X3_put x1 o Post) : CtV l yX3_put cX3_put 3 ({ frames := 0, cells := 0, slots := 0, locals := 0 } : Room) D E [.ref (a 0), .int (x1)] (List.flatten [bX3 a E o]) (fun u : Ob => List.flatten [bX3 a E u]) Post 0 0 := by
  refine enV (by decide +kernel) (Nat.le_of_ble_eq_true rfl) ?_
  intro p e s m args below meth c Q A ls hx hb hml hown hT hK hA hin0 hret hh hl
  have hl : lv_has ls 3 [(0, .ref (a 0)), (1, .int (x1))] := hl
  unfold w_X3_put at h
  refine lv_aload_n hx hb dX3_put_0 rfl (lv_at hl 0 rfl) ?_
  refine G_X3_15 [] [] hx hb hT hown hK hh (v := o.2.1 1) rfl dX3_put_1 ?_
  refine lv_if_lt (tgt := 15) hx hb dX3_put_4 (by decide) (fun c1 => ?_) (fun c1 => ?_)
  · have h := h.1 c1
    exact hret _ _ _ _ o dX3_put_15 h hh
  · have h := h.2 c1
    refine lv_aload_n hx hb dX3_put_7 rfl (lv_at hl 0 rfl) ?_
    refine G_X3_15 [] [] hx hb hT hown hK hh (v := o.2.1 1) rfl dX3_put_8 ?_
    refine lv_iconst (v := 5) hx hb dX3_put_11 (by decide) ?_
    refine lv_icmp_lt (tgt := 16) hx hb dX3_put_12 (by decide) (fun c2 => ?_) (fun c2 => ?_)
    · have h := h.1 c2
      refine lv_aload_n hx hb dX3_put_16 rfl (lv_at hl 0 rfl) ?_
      refine G_X3_15 [] [] hx hb hT hown hK hh (v := o.2.1 1) rfl dX3_put_17 ?_
      refine lv_istore_n (lv' := [(2, .int (o.2.1 1)), (0, .ref (a 0)), (1, .int (x1))]) hx hb dX3_put_20 rfl hl (by decide) rfl (fun ls hl => ?_)
      have hw21 : ∀ (K65_21 : Int32 → Ob → Prop) (hK65_21 : ∀ (k2_65 : Int32) (o_k65 : Ob) (H : Heap) (locs : List Loc) (ls : Array Slot), K65_21 k2_65 o_k65 → Wh D A s.heap ((List.flatten [bX3 a E o_k65])) H locs → lv_has ls 3 [(0, .ref (a 0)), (1, .int (x1)), (2, .int (k2_65))] → W p l e ({ frames := 0, cells := 0, slots := 0, locals := 0 } : Room) s m args below meth c H locs 0 0 Q (F0 m 65 ls [])) (n : Nat) (p2_21 : Int32) (o_21 : Ob) (H : Heap) (locs : List Loc) (ls : Array Slot), w_X3_put_L21 x1 K65_21 Post n p2_21 o_21 → Wh D A s.heap ((List.flatten [bX3 a E o_21])) H locs → lv_has ls 3 [(0, .ref (a 0)), (1, .int (x1)), (2, .int (p2_21))] → W p l e ({ frames := 0, cells := 0, slots := 0, locals := 0 } : Room) s m args below meth c H locs 0 0 Q (F0 m 21 ls []) := by
        intro K65_21 hK65_21 n
        induction n with
        | zero => intro p2_21 o_21 H locs ls h hh hl; exact False.elim h
        | succ n ih =>
          intro p2_21 o_21 H locs ls h hh hl
          refine lv_aload_n hx hb dX3_put_21 rfl (lv_at hl 0 rfl) ?_
          refine G_X3_19 [] [] hx hb hT hown hK hh (v := o_21.2.1 2) rfl dX3_put_22 ?_
          refine lv_iconst (v := 2) hx hb dX3_put_25 (by decide) ?_
          refine lv_icmp_ne (tgt := 65) hx hb dX3_put_26 (by decide) (fun c3 => ?_) (fun c3 => ?_)
          · have h := h.1 c3
            exact hK65_21 p2_21 o_21 _ _ _ h hh (lv_sub hl [0, 1, 2] rfl)
          · have h := h.2 c3
            refine lv_iload_n hx hb dX3_put_29 rfl (lv_at hl 2 rfl) ?_
            refine lv_if_le (tgt := 65) hx hb dX3_put_30 (by decide) (fun c4 => ?_) (fun c4 => ?_)
            · have h := h.1 c4
              exact hK65_21 p2_21 o_21 _ _ _ h hh (lv_sub hl [0, 1, 2] rfl)
            · have h := h.2 c4
              refine lv_aload_n hx hb dX3_put_33 rfl (lv_at hl 0 rfl) ?_
              refine G_X3_9 [] [] hx hb hT hown hK hh dX3_put_34 ?_
              refine lv_iload_n hx hb dX3_put_37 rfl (lv_at hl 2 rfl) ?_
              refine lv_iconst (v := 1) hx hb dX3_put_38 (by decide) ?_
              refine lv_isub hx hb dX3_put_39 ?_
              obtain ⟨g5, h⟩ := h
              refine A_X3_0 [] [] hx hb hK hh (v := (o_21.2.2 0) (p2_21 - 1).toNatClampNeg) g5 rfl dX3_put_40 ?_
              refine lv_iload_n hx hb dX3_put_41 rfl (lv_at hl 1 rfl) ?_
              refine lv_icmp_le (tgt := 65) hx hb dX3_put_42 (by decide) (fun c6 => ?_) (fun c6 => ?_)
              · have h := h.1 c6
                exact hK65_21 p2_21 o_21 _ _ _ h hh (lv_sub hl [0, 1, 2] rfl)
              · have h := h.2 c6
                refine lv_aload_n hx hb dX3_put_45 rfl (lv_at hl 0 rfl) ?_
                refine G_X3_9 [] [] hx hb hT hown hK hh dX3_put_46 ?_
                refine lv_iload_n hx hb dX3_put_49 rfl (lv_at hl 2 rfl) ?_
                refine lv_aload_n hx hb dX3_put_50 rfl (lv_at hl 0 rfl) ?_
                refine G_X3_9 [] [] hx hb hT hown hK hh dX3_put_51 ?_
                refine lv_iload_n hx hb dX3_put_54 rfl (lv_at hl 2 rfl) ?_
                refine lv_iconst (v := 1) hx hb dX3_put_55 (by decide) ?_
                refine lv_isub hx hb dX3_put_56 ?_
                obtain ⟨g7, h⟩ := h
                refine A_X3_0 [] [] hx hb hK hh (v := (o_21.2.2 0) (p2_21 - 1).toNatClampNeg) g7 rfl dX3_put_57 ?_
                obtain ⟨g8, h⟩ := h
                refine S_X3_0 [] [] hx hb hK hh g8 dX3_put_58 (fun H locs (hh : Wh D A s.heap ((List.flatten [bX3 a E ((o_21.1, o_21.2.1, (sa o_21.2.2 0 (upd (o_21.2.2 0) p2_21.toNatClampNeg ((o_21.2.2 0) (p2_21 - 1).toNatClampNeg)))))])) H locs) => ?_)
                refine lv_iinc (v := p2_21 + (-1)) (lv' := [(2, .int (p2_21 + (-1))), (0, .ref (a 0)), (1, .int (x1))]) hx hb dX3_put_59 hl (k := 2) rfl (by rfl) (by decide) rfl (fun ls hl => ?_)
                refine lv_goto (tgt := 21) hx hb dX3_put_62 (by decide) ?_
                exact ih (p2_21 + (-1)) ((o_21.1, o_21.2.1, (sa o_21.2.2 0 (upd (o_21.2.2 0) p2_21.toNatClampNeg ((o_21.2.2 0) (p2_21 - 1).toNatClampNeg))))) _ _ _ h hh (lv_sub hl [1, 2, 0] rfl)
      obtain ⟨n, h⟩ := h
      refine hw21 _ (fun k2_65 o_k65 H locs ls h hh hl => ?_) n (o.2.1 1) o _ _ _ h hh (lv_sub hl [1, 2, 0] rfl)
      refine lv_aload_n hx hb dX3_put_65 rfl (lv_at hl 0 rfl) ?_
      refine G_X3_9 [] [] hx hb hT hown hK hh dX3_put_66 ?_
      refine lv_iload_n hx hb dX3_put_69 rfl (lv_at hl 2 rfl) ?_
      refine lv_iload_n hx hb dX3_put_70 rfl (lv_at hl 1 rfl) ?_
      obtain ⟨g9, h⟩ := h
      refine S_X3_0 [] [] hx hb hK hh g9 dX3_put_71 (fun H locs (hh : Wh D A s.heap ((List.flatten [bX3 a E ((o_k65.1, o_k65.2.1, (sa o_k65.2.2 0 (upd (o_k65.2.2 0) k2_65.toNatClampNeg x1))))])) H locs) => ?_)
      refine lv_aload_n hx hb dX3_put_72 rfl (lv_at hl 0 rfl) ?_
      refine lv_dup hx hb dX3_put_73 rfl ?_
      refine G_X3_15 [] [] hx hb hT hown hK hh (v := o_k65.2.1 1) rfl dX3_put_74 ?_
      refine lv_iconst (v := 1) hx hb dX3_put_77 (by decide) ?_
      refine lv_iadd hx hb dX3_put_78 ?_
      refine P_X3_15 [] [] hx hb hT hown hK hh dX3_put_79 (fun H locs (hh : Wh D A s.heap ((List.flatten [bX3 a E ((o_k65.1, (upd o_k65.2.1 1 (((o_k65.2.1 1) + 1))), (sa o_k65.2.2 0 (upd (o_k65.2.2 0) k2_65.toNatClampNeg x1))))])) H locs) => ?_)
      exact hret _ _ _ _ (o_k65.1, (upd o_k65.2.1 1 (((o_k65.2.1 1) + 1))), (sa o_k65.2.2 0 (upd (o_k65.2.2 0) k2_65.toNatClampNeg x1))) dX3_put_82 h hh
    · have h := h.2 c2
      exact hret _ _ _ _ o dX3_put_15 h hh

def w_X3_take_L28 (f2_28 : Int32) (K63_28 : Ob → Prop) (Post : Int32 → Ob → Prop) : Nat → Int32 → Ob → Prop
  | 0, _, _ => False
  | n28 + 1, p3_28, o_28 => ((((o_28.2.1 1) - 1) ≤ p3_28) → K63_28 o_28) ∧ (¬ (((o_28.2.1 1) - 1) ≤ p3_28) → ((4 ≤ p3_28) → K63_28 o_28) ∧ (¬ (4 ≤ p3_28) → vp_in (p3_28 + 1) 5 ∧ (vp_in p3_28 5 ∧ (w_X3_take_L28 f2_28 K63_28 Post n28 (p3_28 + 1) ((o_28.1, o_28.2.1, (sa o_28.2.2 0 (upd (o_28.2.2 0) p3_28.toNatClampNeg ((o_28.2.2 0) (p3_28 + 1).toNatClampNeg)))))))))
def w_X3_take (x1 : Int32) (o : Ob) (Post : Int32 → Ob → Prop) : Prop := ((x1 < 0) → Post ((-1)) o) ∧ (¬ (x1 < 0) → (((o.2.1 1) ≤ x1) → Post ((-1)) o) ∧ (¬ ((o.2.1 1) ≤ x1) → ((x1 < 5) → vp_in x1 5 ∧ (∃ n28, w_X3_take_L28 ((o.2.2 0) x1.toNatClampNeg) (fun (o_k63 : Ob) => Post ((o.2.2 0) x1.toNatClampNeg) ((o_k63.1, (upd o_k63.2.1 1 (((o_k63.2.1 1) - 1))), o_k63.2.2))) Post n28 x1 o)) ∧ (¬ (x1 < 5) → Post ((-1)) o)))
set_option maxRecDepth 100000 in
set_option maxHeartbeats 4000000 in
theorem c_X3_take (l : Launch) (D : va_G) (E : Nat → ClassId) (a : Nat → Nat)  (o : Ob) (x1 : Int32) {Post : Int32 → Ob → Prop} (h : w_X3_take x1 o Post) : CtI l yX3_take cX3_take 4 .int ({ frames := 0, cells := 0, slots := 0, locals := 0 } : Room) D E [.ref (a 0), .int (x1)] (List.flatten [bX3 a E o]) (fun u : Ob => List.flatten [bX3 a E u]) Post 0 0 := by
  refine enI (by decide +kernel) (Nat.le_of_ble_eq_true rfl) ?_
  intro p e s m args below meth c Q A ls hx hb hml hown hT hK hA hret hh hl
  have hl : lv_has ls 4 [(0, .ref (a 0)), (1, .int (x1))] := hl
  unfold w_X3_take at h
  refine lv_iload_n hx hb dX3_take_0 rfl (lv_at hl 1 rfl) ?_
  refine lv_if_lt (tgt := 17) hx hb dX3_take_1 (by decide) (fun c1 => ?_) (fun c1 => ?_)
  · have h := h.1 c1
    refine lv_iconst (v := (-1)) hx hb dX3_take_17 (by decide) ?_
    exact hret _ _ _ _ _ o dX3_take_18 rfl h hh
  · have h := h.2 c1
    refine lv_iload_n hx hb dX3_take_4 rfl (lv_at hl 1 rfl) ?_
    refine lv_aload_n hx hb dX3_take_5 rfl (lv_at hl 0 rfl) ?_
    refine G_X3_15 [] [] hx hb hT hown hK hh (v := o.2.1 1) rfl dX3_take_6 ?_
    refine lv_icmp_ge (tgt := 17) hx hb dX3_take_9 (by decide) (fun c2 => ?_) (fun c2 => ?_)
    · have h := h.1 c2
      refine lv_iconst (v := (-1)) hx hb dX3_take_17 (by decide) ?_
      exact hret _ _ _ _ _ o dX3_take_18 rfl h hh
    · have h := h.2 c2
      refine lv_iload_n hx hb dX3_take_12 rfl (lv_at hl 1 rfl) ?_
      refine lv_iconst (v := 5) hx hb dX3_take_13 (by decide) ?_
      refine lv_icmp_lt (tgt := 19) hx hb dX3_take_14 (by decide) (fun c3 => ?_) (fun c3 => ?_)
      · have h := h.1 c3
        refine lv_aload_n hx hb dX3_take_19 rfl (lv_at hl 0 rfl) ?_
        refine G_X3_9 [] [] hx hb hT hown hK hh dX3_take_20 ?_
        refine lv_iload_n hx hb dX3_take_23 rfl (lv_at hl 1 rfl) ?_
        obtain ⟨g4, h⟩ := h
        refine A_X3_0 [] [] hx hb hK hh (v := (o.2.2 0) x1.toNatClampNeg) g4 rfl dX3_take_24 ?_
        refine lv_istore_n (lv' := [(2, .int ((o.2.2 0) x1.toNatClampNeg)), (0, .ref (a 0)), (1, .int (x1))]) hx hb dX3_take_25 rfl hl (by decide) rfl (fun ls hl => ?_)
        refine lv_iload_n hx hb dX3_take_26 rfl (lv_at hl 2 rfl) ?_
        refine lv_istore_n (lv' := [(3, .int (x1)), (2, .int ((o.2.2 0) x1.toNatClampNeg)), (0, .ref (a 0)), (1, .int (x1))]) hx hb dX3_take_27 rfl hl (by decide) rfl (fun ls hl => ?_)
        have hw28 : ∀ (K63_28 : Ob → Prop) (hK63_28 : ∀ (o_k63 : Ob) (H : Heap) (locs : List Loc) (ls : Array Slot), K63_28 o_k63 → Wh D A s.heap ((List.flatten [bX3 a E o_k63])) H locs → lv_has ls 4 [(0, .ref (a 0)), (2, .int ((o.2.2 0) x1.toNatClampNeg))] → W p l e ({ frames := 0, cells := 0, slots := 0, locals := 0 } : Room) s m args below meth c H locs 0 0 Q (F0 m 63 ls [])) (n : Nat) (p3_28 : Int32) (o_28 : Ob) (H : Heap) (locs : List Loc) (ls : Array Slot), w_X3_take_L28 ((o.2.2 0) x1.toNatClampNeg) K63_28 Post n p3_28 o_28 → Wh D A s.heap ((List.flatten [bX3 a E o_28])) H locs → lv_has ls 4 [(0, .ref (a 0)), (2, .int ((o.2.2 0) x1.toNatClampNeg)), (3, .int (p3_28))] → W p l e ({ frames := 0, cells := 0, slots := 0, locals := 0 } : Room) s m args below meth c H locs 0 0 Q (F0 m 28 ls []) := by
          intro K63_28 hK63_28 n
          induction n with
          | zero => intro p3_28 o_28 H locs ls h hh hl; exact False.elim h
          | succ n ih =>
            intro p3_28 o_28 H locs ls h hh hl
            refine lv_iload_n hx hb dX3_take_28 rfl (lv_at hl 2 rfl) ?_
            refine lv_aload_n hx hb dX3_take_29 rfl (lv_at hl 0 rfl) ?_
            refine G_X3_15 [] [] hx hb hT hown hK hh (v := o_28.2.1 1) rfl dX3_take_30 ?_
            refine lv_iconst (v := 1) hx hb dX3_take_33 (by decide) ?_
            refine lv_isub hx hb dX3_take_34 ?_
            refine lv_icmp_ge (tgt := 63) hx hb dX3_take_35 (by decide) (fun c5 => ?_) (fun c5 => ?_)
            · have h := h.1 c5
              exact hK63_28 o_28 _ _ _ h hh (lv_sub hl [0, 1] rfl)
            · have h := h.2 c5
              refine lv_iload_n hx hb dX3_take_38 rfl (lv_at hl 2 rfl) ?_
              refine lv_iconst (v := 4) hx hb dX3_take_39 (by decide) ?_
              refine lv_icmp_ge (tgt := 63) hx hb dX3_take_40 (by decide) (fun c6 => ?_) (fun c6 => ?_)
              · have h := h.1 c6
                exact hK63_28 o_28 _ _ _ h hh (lv_sub hl [0, 1] rfl)
              · have h := h.2 c6
                refine lv_aload_n hx hb dX3_take_43 rfl (lv_at hl 0 rfl) ?_
                refine G_X3_9 [] [] hx hb hT hown hK hh dX3_take_44 ?_
                refine lv_iload_n hx hb dX3_take_47 rfl (lv_at hl 2 rfl) ?_
                refine lv_aload_n hx hb dX3_take_48 rfl (lv_at hl 0 rfl) ?_
                refine G_X3_9 [] [] hx hb hT hown hK hh dX3_take_49 ?_
                refine lv_iload_n hx hb dX3_take_52 rfl (lv_at hl 2 rfl) ?_
                refine lv_iconst (v := 1) hx hb dX3_take_53 (by decide) ?_
                refine lv_iadd hx hb dX3_take_54 ?_
                obtain ⟨g7, h⟩ := h
                refine A_X3_0 [] [] hx hb hK hh (v := (o_28.2.2 0) (p3_28 + 1).toNatClampNeg) g7 rfl dX3_take_55 ?_
                obtain ⟨g8, h⟩ := h
                refine S_X3_0 [] [] hx hb hK hh g8 dX3_take_56 (fun H locs (hh : Wh D A s.heap ((List.flatten [bX3 a E ((o_28.1, o_28.2.1, (sa o_28.2.2 0 (upd (o_28.2.2 0) p3_28.toNatClampNeg ((o_28.2.2 0) (p3_28 + 1).toNatClampNeg)))))])) H locs) => ?_)
                refine lv_iinc (v := p3_28 + 1) (lv' := [(3, .int (p3_28 + 1)), (0, .ref (a 0)), (2, .int (((o.2.2 0) x1.toNatClampNeg)))]) hx hb dX3_take_57 hl (k := 2) rfl (by rfl) (by decide) rfl (fun ls hl => ?_)
                refine lv_goto (tgt := 28) hx hb dX3_take_60 (by decide) ?_
                exact ih (p3_28 + 1) ((o_28.1, o_28.2.1, (sa o_28.2.2 0 (upd (o_28.2.2 0) p3_28.toNatClampNeg ((o_28.2.2 0) (p3_28 + 1).toNatClampNeg))))) _ _ _ h hh (lv_sub hl [1, 2, 0] rfl)
        obtain ⟨n, h⟩ := h
        refine hw28 _ (fun o_k63 H locs ls h hh hl => ?_) n x1 o _ _ _ h hh (lv_sub hl [2, 1, 0] rfl)
        refine lv_aload_n hx hb dX3_take_63 rfl (lv_at hl 0 rfl) ?_
        refine lv_dup hx hb dX3_take_64 rfl ?_
        refine G_X3_15 [] [] hx hb hT hown hK hh (v := o_k63.2.1 1) rfl dX3_take_65 ?_
        refine lv_iconst (v := 1) hx hb dX3_take_68 (by decide) ?_
        refine lv_isub hx hb dX3_take_69 ?_
        refine P_X3_15 [] [] hx hb hT hown hK hh dX3_take_70 (fun H locs (hh : Wh D A s.heap ((List.flatten [bX3 a E ((o_k63.1, (upd o_k63.2.1 1 (((o_k63.2.1 1) - 1))), o_k63.2.2))])) H locs) => ?_)
        refine lv_iload_n hx hb dX3_take_73 rfl (lv_at hl 1 rfl) ?_
        exact hret _ _ _ _ _ (o_k63.1, (upd o_k63.2.1 1 (((o_k63.2.1 1) - 1))), o_k63.2.2) dX3_take_74 rfl h hh
      · have h := h.2 c3
        refine lv_iconst (v := (-1)) hx hb dX3_take_17 (by decide) ?_
        exact hret _ _ _ _ _ o dX3_take_18 rfl h hh

def w_X3_howManyLike_L4 (f1_4 : Int32)  (Post : Int32 → Ob → Prop) : Nat → Int32 → Int32 → Ob → Prop
  | 0, _, _, _ => False
  | n4 + 1, p2_4, p3_4, o_4 => (((o_4.2.1 1) ≤ p3_4) → Post p2_4 o_4) ∧ (¬ ((o_4.2.1 1) ≤ p3_4) → ((5 ≤ p3_4) → Post p2_4 o_4) ∧ (¬ (5 ≤ p3_4) → vp_in p3_4 5 ∧ (jn (fun J30 : Int32 → Ob → Prop => ((¬ ((o_4.2.2 0) p3_4.toNatClampNeg) = f1_4) → J30 p2_4 o_4) ∧ ((((o_4.2.2 0) p3_4.toNatClampNeg) = f1_4) → J30 (p2_4 + 1) o_4)) (fun (y2_30 : Int32) (o_30 : Ob) => w_X3_howManyLike_L4 f1_4  Post n4 y2_30 (p3_4 + 1) o_30))))
def w_X3_howManyLike (x1 : Int32) (o : Ob) (Post : Int32 → Ob → Prop) : Prop := ∃ n4, w_X3_howManyLike_L4 x1  Post n4 0 0 o
set_option maxRecDepth 100000 in
set_option maxHeartbeats 4000000 in
theorem c_X3_howManyLike (l : Launch) (D : va_G) (E : Nat → ClassId) (a : Nat → Nat)  (o : Ob) (x1 : Int32) {Post : Int32 → Ob → Prop} (h : w_X3_howManyLike x1 o Post) : CtI l yX3_howManyLike cX3_howManyLike 4 .int ({ frames := 0, cells := 0, slots := 0, locals := 0 } : Room) D E [.ref (a 0), .int (x1)] (List.flatten [bX3 a E o]) (fun u : Ob => List.flatten [bX3 a E u]) Post 0 0 := by
  refine enI (by decide +kernel) (Nat.le_of_ble_eq_true rfl) ?_
  intro p e s m args below meth c Q A ls hx hb hml hown hT hK hA hret hh hl
  have hl : lv_has ls 4 [(0, .ref (a 0)), (1, .int (x1))] := hl
  unfold w_X3_howManyLike at h
  refine lv_iconst (v := 0) hx hb dX3_howManyLike_0 (by decide) ?_
  refine lv_istore_n (lv' := [(2, .int (0)), (0, .ref (a 0)), (1, .int (x1))]) hx hb dX3_howManyLike_1 rfl hl (by decide) rfl (fun ls hl => ?_)
  refine lv_iconst (v := 0) hx hb dX3_howManyLike_2 (by decide) ?_
  refine lv_istore_n (lv' := [(3, .int (0)), (2, .int (0)), (0, .ref (a 0)), (1, .int (x1))]) hx hb dX3_howManyLike_3 rfl hl (by decide) rfl (fun ls hl => ?_)
  have hw4 : ∀   (n : Nat) (p2_4 : Int32) (p3_4 : Int32) (o_4 : Ob) (H : Heap) (locs : List Loc) (ls : Array Slot), w_X3_howManyLike_L4 x1  Post n p2_4 p3_4 o_4 → Wh D A s.heap ((List.flatten [bX3 a E o_4])) H locs → lv_has ls 4 [(0, .ref (a 0)), (1, .int (x1)), (2, .int (p2_4)), (3, .int (p3_4))] → W p l e ({ frames := 0, cells := 0, slots := 0, locals := 0 } : Room) s m args below meth c H locs 0 0 Q (F0 m 4 ls []) := by
    intro   n
    induction n with
    | zero => intro p2_4 p3_4 o_4 H locs ls h hh hl; exact False.elim h
    | succ n ih =>
      intro p2_4 p3_4 o_4 H locs ls h hh hl
      refine lv_iload_n hx hb dX3_howManyLike_4 rfl (lv_at hl 3 rfl) ?_
      refine lv_aload_n hx hb dX3_howManyLike_5 rfl (lv_at hl 0 rfl) ?_
      refine G_X3_15 [] [] hx hb hT hown hK hh (v := o_4.2.1 1) rfl dX3_howManyLike_6 ?_
      refine lv_icmp_ge (tgt := 36) hx hb dX3_howManyLike_9 (by decide) (fun c1 => ?_) (fun c1 => ?_)
      · have h := h.1 c1
        refine lv_iload_n hx hb dX3_howManyLike_36 rfl (lv_at hl 2 rfl) ?_
        exact hret _ _ _ _ _ o_4 dX3_howManyLike_37 rfl h hh
      · have h := h.2 c1
        refine lv_iload_n hx hb dX3_howManyLike_12 rfl (lv_at hl 3 rfl) ?_
        refine lv_iconst (v := 5) hx hb dX3_howManyLike_13 (by decide) ?_
        refine lv_icmp_ge (tgt := 36) hx hb dX3_howManyLike_14 (by decide) (fun c2 => ?_) (fun c2 => ?_)
        · have h := h.1 c2
          refine lv_iload_n hx hb dX3_howManyLike_36 rfl (lv_at hl 2 rfl) ?_
          exact hret _ _ _ _ _ o_4 dX3_howManyLike_37 rfl h hh
        · have h := h.2 c2
          refine lv_aload_n hx hb dX3_howManyLike_17 rfl (lv_at hl 0 rfl) ?_
          refine G_X3_9 [] [] hx hb hT hown hK hh dX3_howManyLike_18 ?_
          refine lv_iload_n hx hb dX3_howManyLike_21 rfl (lv_at hl 3 rfl) ?_
          obtain ⟨g3, h⟩ := h
          refine A_X3_0 [] [] hx hb hK hh (v := (o_4.2.2 0) p3_4.toNatClampNeg) g3 rfl dX3_howManyLike_22 ?_
          refine lv_iload_n hx hb dX3_howManyLike_23 rfl (lv_at hl 1 rfl) ?_
          refine jn_elim h (fun J30 hJ30 h => ?_)
          have kJ30 : ∀ (y2_30 : Int32) (o_30 : Ob) (H : Heap) (locs : List Loc) (ls : Array Slot), J30 y2_30 o_30 → Wh D A s.heap ((List.flatten [bX3 a E o_30])) H locs → lv_has ls 4 [(0, .ref (a 0)), (1, .int (x1)), (2, .int (y2_30)), (3, .int (p3_4))] → W p l e ({ frames := 0, cells := 0, slots := 0, locals := 0 } : Room) s m args below meth c H locs 0 0 Q (F0 m 30 ls []) := by
            intro y2_30 o_30 H locs ls h hh hl
            rw [hJ30] at h
            refine lv_iinc (v := p3_4 + 1) (lv' := [(3, .int (p3_4 + 1)), (0, .ref (a 0)), (1, .int (x1)), (2, .int (y2_30))]) hx hb dX3_howManyLike_30 hl (k := 3) rfl (by rfl) (by decide) rfl (fun ls hl => ?_)
            refine lv_goto (tgt := 4) hx hb dX3_howManyLike_33 (by decide) ?_
            exact ih y2_30 (p3_4 + 1) o_30 _ _ _ h hh (lv_sub hl [1, 2, 3, 0] rfl)
          refine lv_icmp_ne (tgt := 30) hx hb dX3_howManyLike_24 (by decide) (fun c4 => ?_) (fun c4 => ?_)
          · have h := h.1 c4
            exact kJ30 p2_4 o_4 _ _ _ h hh (lv_sub hl [0, 1, 2, 3] rfl)
          · have h := h.2 c4
            refine lv_iinc (v := p2_4 + 1) (lv' := [(2, .int (p2_4 + 1)), (0, .ref (a 0)), (1, .int (x1)), (3, .int (p3_4))]) hx hb dX3_howManyLike_27 hl (k := 2) rfl (by rfl) (by decide) rfl (fun ls hl => ?_)
            exact kJ30 (p2_4 + 1) o_4 _ _ _ h hh (lv_sub hl [1, 2, 0, 3] rfl)
  obtain ⟨n, h⟩ := h
  refine hw4   n 0 0 o _ _ _ h hh (lv_sub hl [2, 3, 1, 0] rfl)

def w_X3_answer (x1 : Int32) (x2 : Int32) (o : Ob) (Post : Int32 → Ob → Prop) : Prop := jn (fun J17 : Int32 → Ob → Prop => ((¬ (o.2.1 2) = 0) → J17 0 o) ∧ (((o.2.1 2) = 0) → J17 ((o.2.1 1) - 1) o)) (fun (z_17 : Int32) (o_17 : Ob) => ((x1 = 0) → ((5 ≤ (o_17.2.1 1)) → jn (fun J73 : Int32 → Ob → Prop => ((¬ (o_17.2.1 3) = 3) → J73 0 o_17) ∧ (((o_17.2.1 3) = 3) → J73 1 o_17)) (fun (z_73 : Int32) (o_73 : Ob) => (z_73 = 0 ∨ z_73 = 1) ∧ (((¬ (o_73.2.1 3) = 1) → Post 0 ((o_73.1, (upd o_73.2.1 4 z_73), o_73.2.2))) ∧ (((o_73.2.1 3) = 1) → jn (fun J103 : Int32 → Ob → Prop => ((¬ (o_73.2.1 2) = 2) → J103 0 ((o_73.1, (upd o_73.2.1 4 z_73), o_73.2.2))) ∧ (((o_73.2.1 2) = 2) → J103 ((o_73.2.1 1) - 1) ((o_73.1, (upd o_73.2.1 4 z_73), o_73.2.2)))) (fun (z_103 : Int32) (o_103 : Ob) => w_X3_take  z_103 o_103 (fun (r7 : Int32) (o_8 : Ob) => w_X3_put  x2 o_8 (fun (o_10 : Ob) => Post 1 o_10))))))) ∧ (¬ (5 ≤ (o_17.2.1 1)) → w_X3_put  x2 o_17 (fun (o_12 : Ob) => Post 1 o_12))) ∧ ((x1 = 1) → jn (fun J135 : Ob → Prop => ((¬ (o_17.2.1 1) = 0) → J135 o_17) ∧ (((o_17.2.1 1) = 0) → ((¬ (o_17.2.1 3) = 2) → J135 o_17) ∧ (((o_17.2.1 3) = 2) → Post 0 o_17))) (fun (o_135 : Ob) => w_X3_take  z_17 o_135 (fun (r16 : Int32) (o_17 : Ob) => Post r16 o_17))) ∧ ((x1 = 2) → ((¬ (o_17.2.1 2) = 2) → ((z_17 < 0) → Post ((-1)) o_17) ∧ (¬ (z_17 < 0) → (((o_17.2.1 1) ≤ z_17) → Post ((-1)) o_17) ∧ (¬ ((o_17.2.1 1) ≤ z_17) → ((5 ≤ z_17) → Post ((-1)) o_17) ∧ (¬ (5 ≤ z_17) → vp_in z_17 5 ∧ (Post ((o_17.2.2 0) z_17.toNatClampNeg) o_17))))) ∧ (((o_17.2.1 2) = 2) → w_X3_howManyLike  x2 o_17 (fun (r24 : Int32) (o_25 : Ob) => Post r24 o_25))) ∧ ((¬ x1 = 0 ∧ ¬ x1 = 1 ∧ ¬ x1 = 2) → Post (o_17.2.1 1) o_17))
set_option maxRecDepth 100000 in
set_option maxHeartbeats 4000000 in
theorem c_X3_answer (l : Launch) (D : va_G) (E : Nat → ClassId) (a : Nat → Nat)  (o : Ob) (x1 : Int32) (x2 : Int32) {Post : Int32 → Ob → Prop} (h : w_X3_answer x1 x2 o Post) : CtI l yX3_answer cX3_answer 4 .int ({ frames := 1, cells := 0, slots := 0, locals := 23 } : Room) D E [.ref (a 0), .int (x1), .int (x2)] (List.flatten [bX3 a E o]) (fun u : Ob => List.flatten [bX3 a E u]) Post 0 0 := by
  refine enI (by decide +kernel) (Nat.le_of_ble_eq_true rfl) ?_
  intro p e s m args below meth c Q A ls hx hb hml hown hT hK hA hret hh hl
  have hl : lv_has ls 4 [(0, .ref (a 0)), (1, .int (x1)), (2, .int (x2))] := hl
  unfold w_X3_answer at h
  refine lv_aload_n hx hb dX3_answer_0 rfl (lv_at hl 0 rfl) ?_
  refine G_X3_19 [] [] hx hb hT hown hK hh (v := o.2.1 2) rfl dX3_answer_1 ?_
  refine jn_elim h (fun J17 hJ17 h => ?_)
  have kJ17 : ∀ (z_17 : Int32) (o_17 : Ob) (H : Heap) (locs : List Loc) (ls : Array Slot), J17 z_17 o_17 → Wh D A s.heap ((List.flatten [bX3 a E o_17])) H locs → lv_has ls 4 [(0, .ref (a 0)), (1, .int (x1)), (2, .int (x2))] → W p l e ({ frames := 1, cells := 0, slots := 0, locals := 23 } : Room) s m args below meth c H locs 0 0 Q (F0 m 17 ls [.int (z_17)]) := by
    intro z_17 o_17 H locs ls h hh hl
    rw [hJ17] at h
    refine lv_istore_n (lv' := [(3, .int (z_17)), (0, .ref (a 0)), (1, .int (x1)), (2, .int (x2))]) hx hb dX3_answer_17 rfl hl (by decide) rfl (fun ls hl => ?_)
    refine lv_iload_n hx hb dX3_answer_18 rfl (lv_at hl 2 rfl) ?_
    by_cases c13 : x1 = 0
    · have h := h.1 c13
      refine lv_tableIn (off := 25) (tgt := 44) hx hb dX3_answer_19 (by rw [c13]; decide) (by rw [c13]; decide) (by rw [c13]; rfl) (by decide) ?_
      refine lv_aload_n hx hb dX3_answer_44 rfl (lv_at hl 1 rfl) ?_
      refine G_X3_15 [] [] hx hb hT hown hK hh (v := o_17.2.1 1) rfl dX3_answer_45 ?_
      refine lv_iconst (v := 5) hx hb dX3_answer_48 (by decide) ?_
      refine lv_icmp_ge (tgt := 59) hx hb dX3_answer_49 (by decide) (fun c2 => ?_) (fun c2 => ?_)
      · have h := h.1 c2
        refine lv_aload_n hx hb dX3_answer_59 rfl (lv_at hl 1 rfl) ?_
        refine lv_aload_n hx hb dX3_answer_60 rfl (lv_at hl 1 rfl) ?_
        refine G_X3_22 [] [] hx hb hT hown hK hh (v := o_17.2.1 3) rfl dX3_answer_61 ?_
        refine lv_iconst (v := 3) hx hb dX3_answer_64 (by decide) ?_
        refine jn_elim h (fun J73 hJ73 h => ?_)
        have kJ73 : ∀ (z_73 : Int32) (o_73 : Ob) (H : Heap) (locs : List Loc) (ls : Array Slot), J73 z_73 o_73 → Wh D A s.heap ((List.flatten [bX3 a E o_73])) H locs → lv_has ls 4 [(0, .ref (a 0)), (2, .int (x2))] → W p l e ({ frames := 1, cells := 0, slots := 0, locals := 23 } : Room) s m args below meth c H locs 0 0 Q (F0 m 73 ls [.int (z_73), .ref (a 0)]) := by
          intro z_73 o_73 H locs ls h hh hl
          rw [hJ73] at h
          obtain ⟨g4, h⟩ := h
          refine P_X3_25 [] [] hx hb hT hown hK hh g4 dX3_answer_73 (fun H locs (hh : Wh D A s.heap ((List.flatten [bX3 a E ((o_73.1, (upd o_73.2.1 4 z_73), o_73.2.2))])) H locs) => ?_)
          refine lv_aload_n hx hb dX3_answer_76 rfl (lv_at hl 0 rfl) ?_
          refine G_X3_22 [] [] hx hb hT hown hK hh (v := o_73.2.1 3) rfl dX3_answer_77 ?_
          refine lv_iconst (v := 1) hx hb dX3_answer_80 (by decide) ?_
          refine lv_icmp_ne (tgt := 114) hx hb dX3_answer_81 (by decide) (fun c5 => ?_) (fun c5 => ?_)
          · have h := h.1 c5
            refine lv_iconst (v := 0) hx hb dX3_answer_114 (by decide) ?_
            exact hret _ _ _ _ _ (o_73.1, (upd o_73.2.1 4 z_73), o_73.2.2) dX3_answer_115 rfl h hh
          · have h := h.2 c5
            refine lv_aload_n hx hb dX3_answer_84 rfl (lv_at hl 0 rfl) ?_
            refine lv_aload_n hx hb dX3_answer_85 rfl (lv_at hl 0 rfl) ?_
            refine G_X3_19 [] [] hx hb hT hown hK hh (v := o_73.2.1 2) rfl dX3_answer_86 ?_
            refine lv_iconst (v := 2) hx hb dX3_answer_89 (by decide) ?_
            refine jn_elim h (fun J103 hJ103 h => ?_)
            have kJ103 : ∀ (z_103 : Int32) (o_103 : Ob) (H : Heap) (locs : List Loc) (ls : Array Slot), J103 z_103 o_103 → Wh D A s.heap ((List.flatten [bX3 a E o_103])) H locs → lv_has ls 4 [(0, .ref (a 0)), (2, .int (x2))] → W p l e ({ frames := 1, cells := 0, slots := 0, locals := 23 } : Room) s m args below meth c H locs 0 0 Q (F0 m 103 ls [.int (z_103), .ref (a 0)]) := by
              intro z_103 o_103 H locs ls h hh hl
              rw [hJ103] at h
              refine kI hh.ap0 hA (rnV hx hb hml hown hT hK hh.ap0 (c_X3_take l D E a  o_103 z_103 h _) mf_X3_take kml_X3_33 ⟨rfl, rfl, Nat.le_of_ble_eq_true rfl, Nat.le_of_ble_eq_true rfl⟩ ⟨Nat.le_of_ble_eq_true rfl, Nat.le_of_ble_eq_true rfl⟩ 3 0 rfl rfl hl.1 rfl dX3_answer_103 (Nat.le_of_ble_eq_true rfl) rfl) (fun r7 o_8 H locs h hh => ?_)
              have hh : Wh D A s.heap ((List.flatten [bX3 a E o_8])) _ _ := hh.un0
              refine lv_pop hx hb dX3_answer_106 rfl ?_
              refine lv_aload_n hx hb dX3_answer_107 rfl (lv_at hl 0 rfl) ?_
              refine lv_iload_n hx hb dX3_answer_108 rfl (lv_at hl 1 rfl) ?_
              refine kV hh.ap0 hA (rnV hx hb hml hown hT hK hh.ap0 (c_X3_put l D E a  o_8 x2 h _) mf_X3_put kml_X3_29 ⟨rfl, rfl, Nat.le_of_ble_eq_true rfl, Nat.le_of_ble_eq_true rfl⟩ ⟨Nat.le_of_ble_eq_true rfl, Nat.le_of_ble_eq_true rfl⟩ 3 0 rfl rfl hl.1 rfl dX3_answer_109 (Nat.le_of_ble_eq_true rfl) rfl) (fun o_10 H locs h hh => ?_)
              have hh : Wh D A s.heap ((List.flatten [bX3 a E o_10])) _ _ := hh.un0
              refine lv_iconst (v := 1) hx hb dX3_answer_112 (by decide) ?_
              exact hret _ _ _ _ _ o_10 dX3_answer_113 rfl h hh
            refine lv_icmp_ne (tgt := 102) hx hb dX3_answer_90 (by decide) (fun c6 => ?_) (fun c6 => ?_)
            · have h := h.1 c6
              refine lv_iconst (v := 0) hx hb dX3_answer_102 (by decide) ?_
              exact kJ103 0 ((o_73.1, (upd o_73.2.1 4 z_73), o_73.2.2)) _ _ _ h hh (lv_sub hl [0, 1] rfl)
            · have h := h.2 c6
              refine lv_aload_n hx hb dX3_answer_93 rfl (lv_at hl 0 rfl) ?_
              refine G_X3_15 [] [] hx hb hT hown hK hh (v := o_73.2.1 1) rfl dX3_answer_94 ?_
              refine lv_iconst (v := 1) hx hb dX3_answer_97 (by decide) ?_
              refine lv_isub hx hb dX3_answer_98 ?_
              refine lv_goto (tgt := 103) hx hb dX3_answer_99 (by decide) ?_
              exact kJ103 ((o_73.2.1 1) - 1) ((o_73.1, (upd o_73.2.1 4 z_73), o_73.2.2)) _ _ _ h hh (lv_sub hl [0, 1] rfl)
        refine lv_icmp_ne (tgt := 72) hx hb dX3_answer_65 (by decide) (fun c3 => ?_) (fun c3 => ?_)
        · have h := h.1 c3
          refine lv_iconst (v := 0) hx hb dX3_answer_72 (by decide) ?_
          exact kJ73 0 o_17 _ _ _ h hh (lv_sub hl [1, 3] rfl)
        · have h := h.2 c3
          refine lv_iconst (v := 1) hx hb dX3_answer_68 (by decide) ?_
          refine lv_goto (tgt := 73) hx hb dX3_answer_69 (by decide) ?_
          exact kJ73 1 o_17 _ _ _ h hh (lv_sub hl [1, 3] rfl)
      · have h := h.2 c2
        refine lv_aload_n hx hb dX3_answer_52 rfl (lv_at hl 1 rfl) ?_
        refine lv_iload_n hx hb dX3_answer_53 rfl (lv_at hl 3 rfl) ?_
        refine kV hh.ap0 hA (rnV hx hb hml hown hT hK hh.ap0 (c_X3_put l D E a  o_17 x2 h _) mf_X3_put kml_X3_29 ⟨rfl, rfl, Nat.le_of_ble_eq_true rfl, Nat.le_of_ble_eq_true rfl⟩ ⟨Nat.le_of_ble_eq_true rfl, Nat.le_of_ble_eq_true rfl⟩ 3 0 rfl rfl hl.1 rfl dX3_answer_54 (Nat.le_of_ble_eq_true rfl) rfl) (fun o_12 H locs h hh => ?_)
        have hh : Wh D A s.heap ((List.flatten [bX3 a E o_12])) _ _ := hh.un0
        refine lv_iconst (v := 1) hx hb dX3_answer_57 (by decide) ?_
        exact hret _ _ _ _ _ o_12 dX3_answer_58 rfl h hh
    · by_cases c18 : x1 = 1
      · have h := h.2.1 c18
        refine lv_tableIn (off := 97) (tgt := 116) hx hb dX3_answer_19 (by rw [c18]; decide) (by rw [c18]; decide) (by rw [c18]; rfl) (by decide) ?_
        refine lv_aload_n hx hb dX3_answer_116 rfl (lv_at hl 1 rfl) ?_
        refine G_X3_15 [] [] hx hb hT hown hK hh (v := o_17.2.1 1) rfl dX3_answer_117 ?_
        refine jn_elim h (fun J135 hJ135 h => ?_)
        have kJ135 : ∀ (o_135 : Ob) (H : Heap) (locs : List Loc) (ls : Array Slot), J135 o_135 → Wh D A s.heap ((List.flatten [bX3 a E o_135])) H locs → lv_has ls 4 [(0, .ref (a 0)), (3, .int (z_17))] → W p l e ({ frames := 1, cells := 0, slots := 0, locals := 23 } : Room) s m args below meth c H locs 0 0 Q (F0 m 135 ls []) := by
          intro o_135 H locs ls h hh hl
          rw [hJ135] at h
          refine lv_aload_n hx hb dX3_answer_135 rfl (lv_at hl 0 rfl) ?_
          refine lv_iload_n hx hb dX3_answer_136 rfl (lv_at hl 1 rfl) ?_
          refine kI hh.ap0 hA (rnV hx hb hml hown hT hK hh.ap0 (c_X3_take l D E a  o_135 z_17 h _) mf_X3_take kml_X3_33 ⟨rfl, rfl, Nat.le_of_ble_eq_true rfl, Nat.le_of_ble_eq_true rfl⟩ ⟨Nat.le_of_ble_eq_true rfl, Nat.le_of_ble_eq_true rfl⟩ 3 0 rfl rfl hl.1 rfl dX3_answer_137 (Nat.le_of_ble_eq_true rfl) rfl) (fun r16 o_17 H locs h hh => ?_)
          have hh : Wh D A s.heap ((List.flatten [bX3 a E o_17])) _ _ := hh.un0
          exact hret _ _ _ _ _ o_17 dX3_answer_140 rfl h hh
        refine lv_if_ne (tgt := 135) hx hb dX3_answer_120 (by decide) (fun c14 => ?_) (fun c14 => ?_)
        · have h := h.1 c14
          exact kJ135 o_17 _ _ _ h hh (lv_sub hl [1, 0] rfl)
        · have h := h.2 c14
          refine lv_aload_n hx hb dX3_answer_123 rfl (lv_at hl 1 rfl) ?_
          refine G_X3_22 [] [] hx hb hT hown hK hh (v := o_17.2.1 3) rfl dX3_answer_124 ?_
          refine lv_iconst (v := 2) hx hb dX3_answer_127 (by decide) ?_
          refine lv_icmp_ne (tgt := 135) hx hb dX3_answer_128 (by decide) (fun c15 => ?_) (fun c15 => ?_)
          · have h := h.1 c15
            exact kJ135 o_17 _ _ _ h hh (lv_sub hl [1, 0] rfl)
          · have h := h.2 c15
            refine lv_iconst (v := 0) hx hb dX3_answer_131 (by decide) ?_
            refine lv_goto (tgt := 140) hx hb dX3_answer_132 (by decide) ?_
            exact hret _ _ _ _ _ o_17 dX3_answer_140 rfl h hh
      · by_cases c26 : x1 = 2
        · have h := h.2.2.1 c26
          refine lv_tableIn (off := 122) (tgt := 141) hx hb dX3_answer_19 (by rw [c26]; decide) (by rw [c26]; decide) (by rw [c26]; rfl) (by decide) ?_
          refine lv_aload_n hx hb dX3_answer_141 rfl (lv_at hl 1 rfl) ?_
          refine G_X3_19 [] [] hx hb hT hown hK hh (v := o_17.2.1 2) rfl dX3_answer_142 ?_
          refine lv_iconst (v := 2) hx hb dX3_answer_145 (by decide) ?_
          refine lv_icmp_ne (tgt := 155) hx hb dX3_answer_146 (by decide) (fun c19 => ?_) (fun c19 => ?_)
          · have h := h.1 c19
            refine lv_iload_n hx hb dX3_answer_155 rfl (lv_at hl 0 rfl) ?_
            refine lv_if_lt (tgt := 181) hx hb dX3_answer_156 (by decide) (fun c20 => ?_) (fun c20 => ?_)
            · have h := h.1 c20
              refine lv_iconst (v := (-1)) hx hb dX3_answer_181 (by decide) ?_
              exact hret _ _ _ _ _ o_17 dX3_answer_182 rfl h hh
            · have h := h.2 c20
              refine lv_iload_n hx hb dX3_answer_159 rfl (lv_at hl 0 rfl) ?_
              refine lv_aload_n hx hb dX3_answer_160 rfl (lv_at hl 1 rfl) ?_
              refine G_X3_15 [] [] hx hb hT hown hK hh (v := o_17.2.1 1) rfl dX3_answer_161 ?_
              refine lv_icmp_ge (tgt := 181) hx hb dX3_answer_164 (by decide) (fun c21 => ?_) (fun c21 => ?_)
              · have h := h.1 c21
                refine lv_iconst (v := (-1)) hx hb dX3_answer_181 (by decide) ?_
                exact hret _ _ _ _ _ o_17 dX3_answer_182 rfl h hh
              · have h := h.2 c21
                refine lv_iload_n hx hb dX3_answer_167 rfl (lv_at hl 0 rfl) ?_
                refine lv_iconst (v := 5) hx hb dX3_answer_168 (by decide) ?_
                refine lv_icmp_ge (tgt := 181) hx hb dX3_answer_169 (by decide) (fun c22 => ?_) (fun c22 => ?_)
                · have h := h.1 c22
                  refine lv_iconst (v := (-1)) hx hb dX3_answer_181 (by decide) ?_
                  exact hret _ _ _ _ _ o_17 dX3_answer_182 rfl h hh
                · have h := h.2 c22
                  refine lv_aload_n hx hb dX3_answer_172 rfl (lv_at hl 1 rfl) ?_
                  refine G_X3_9 [] [] hx hb hT hown hK hh dX3_answer_173 ?_
                  refine lv_iload_n hx hb dX3_answer_176 rfl (lv_at hl 0 rfl) ?_
                  obtain ⟨g23, h⟩ := h
                  refine A_X3_0 [] [] hx hb hK hh (v := (o_17.2.2 0) z_17.toNatClampNeg) g23 rfl dX3_answer_177 ?_
                  refine lv_goto (tgt := 182) hx hb dX3_answer_178 (by decide) ?_
                  exact hret _ _ _ _ _ o_17 dX3_answer_182 rfl h hh
          · have h := h.2 c19
            refine lv_aload_n hx hb dX3_answer_149 rfl (lv_at hl 1 rfl) ?_
            refine lv_iload_n hx hb dX3_answer_150 rfl (lv_at hl 3 rfl) ?_
            refine kI hh.ap0 hA (rnV hx hb hml hown hT hK hh.ap0 (c_X3_howManyLike l D E a  o_17 x2 h _) mf_X3_howManyLike kml_X3_37 ⟨rfl, rfl, Nat.le_of_ble_eq_true rfl, Nat.le_of_ble_eq_true rfl⟩ ⟨Nat.le_of_ble_eq_true rfl, Nat.le_of_ble_eq_true rfl⟩ 3 0 rfl rfl hl.1 rfl dX3_answer_151 (Nat.le_of_ble_eq_true rfl) rfl) (fun r24 o_25 H locs h hh => ?_)
            have hh : Wh D A s.heap ((List.flatten [bX3 a E o_25])) _ _ := hh.un0
            exact hret _ _ _ _ _ o_25 dX3_answer_154 rfl h hh
        · have h := h.2.2.2 ⟨c13, c18, c26⟩
          refine q_swD (tgt := 183) hx hb dX3_answer_19 (fun i h1 h2 he => (show i = 0 ∨ i = 1 ∨ i = 2 by omega).elim (fun z => absurd (q_oi he z (by decide)) c13) (fun z => z.elim (fun z => absurd (q_oi he z (by decide)) c18) (fun z => absurd (q_oi he z (by decide)) c26))) (by decide) ?_
          refine lv_aload_n hx hb dX3_answer_183 rfl (lv_at hl 1 rfl) ?_
          refine G_X3_15 [] [] hx hb hT hown hK hh (v := o_17.2.1 1) rfl dX3_answer_184 ?_
          exact hret _ _ _ _ _ o_17 dX3_answer_187 rfl h hh
  refine lv_if_ne (tgt := 16) hx hb dX3_answer_4 (by decide) (fun c1 => ?_) (fun c1 => ?_)
  · have h := h.1 c1
    refine lv_iconst (v := 0) hx hb dX3_answer_16 (by decide) ?_
    exact kJ17 0 o _ _ _ h hh (lv_sub hl [0, 1, 2] rfl)
  · have h := h.2 c1
    refine lv_aload_n hx hb dX3_answer_7 rfl (lv_at hl 0 rfl) ?_
    refine G_X3_15 [] [] hx hb hT hown hK hh (v := o.2.1 1) rfl dX3_answer_8 ?_
    refine lv_iconst (v := 1) hx hb dX3_answer_11 (by decide) ?_
    refine lv_isub hx hb dX3_answer_12 ?_
    refine lv_goto (tgt := 17) hx hb dX3_answer_13 (by decide) ?_
    exact kJ17 ((o.2.1 1) - 1) o _ _ _ h hh (lv_sub hl [0, 1, 2] rfl)

def w_X6_addLabel (x1 : Int32) (o : Ob) (Post : Int32 → Ob → Prop) : Prop := (((o.2.1 3) < 0) → Post ((-4)) o) ∧ (¬ ((o.2.1 3) < 0) → (((o.2.1 3) < 3) → vp_in (o.2.1 3) 3 ∧ (Post (((o.2.1 3) + 1)) ((o.1, (upd o.2.1 3 (((o.2.1 3) + 1))), (sa o.2.2 2 (upd (o.2.2 2) (o.2.1 3).toNatClampNeg x1)))))) ∧ (¬ ((o.2.1 3) < 3) → Post ((-4)) o))
set_option maxRecDepth 100000 in
set_option maxHeartbeats 4000000 in
theorem c_X6_addLabel (l : Launch) (D : va_G) (E : Nat → ClassId) (a : Nat → Nat)  (o : Ob) (x1 : Int32) {Post : Int32 → Ob → Prop} (h : w_X6_addLabel x1 o Post) : CtI l yX6_addLabel cX6_addLabel 2 .int ({ frames := 0, cells := 0, slots := 0, locals := 0 } : Room) D E [.ref (a 0), .int (x1)] (List.flatten [bX6 a E o]) (fun u : Ob => List.flatten [bX6 a E u]) Post 0 0 := by
  refine enI (by decide +kernel) (Nat.le_of_ble_eq_true rfl) ?_
  intro p e s m args below meth c Q A ls hx hb hml hown hT hK hA hret hh hl
  have hl : lv_has ls 2 [(0, .ref (a 0)), (1, .int (x1))] := hl
  unfold w_X6_addLabel at h
  refine lv_aload_n hx hb dX6_addLabel_0 rfl (lv_at hl 0 rfl) ?_
  refine G_X6_15 [] [] hx hb hT hown hK hh (v := o.2.1 3) rfl dX6_addLabel_1 ?_
  refine lv_if_lt (tgt := 15) hx hb dX6_addLabel_4 (by decide) (fun c1 => ?_) (fun c1 => ?_)
  · have h := h.1 c1
    refine lv_bipush (v := (-4)) hx hb dX6_addLabel_15 (by decide) ?_
    exact hret _ _ _ _ _ o dX6_addLabel_17 rfl h hh
  · have h := h.2 c1
    refine lv_aload_n hx hb dX6_addLabel_7 rfl (lv_at hl 0 rfl) ?_
    refine G_X6_15 [] [] hx hb hT hown hK hh (v := o.2.1 3) rfl dX6_addLabel_8 ?_
    refine lv_iconst (v := 3) hx hb dX6_addLabel_11 (by decide) ?_
    refine lv_icmp_lt (tgt := 18) hx hb dX6_addLabel_12 (by decide) (fun c2 => ?_) (fun c2 => ?_)
    · have h := h.1 c2
      refine lv_aload_n hx hb dX6_addLabel_18 rfl (lv_at hl 0 rfl) ?_
      refine G_X6_9 [] [] hx hb hT hown hK hh dX6_addLabel_19 ?_
      refine lv_aload_n hx hb dX6_addLabel_22 rfl (lv_at hl 0 rfl) ?_
      refine G_X6_15 [] [] hx hb hT hown hK hh (v := o.2.1 3) rfl dX6_addLabel_23 ?_
      refine lv_iload_n hx hb dX6_addLabel_26 rfl (lv_at hl 1 rfl) ?_
      obtain ⟨g3, h⟩ := h
      refine S_X6_2 [] [] hx hb hK hh g3 dX6_addLabel_27 (fun H locs (hh : Wh D A s.heap ((List.flatten [bX6 a E ((o.1, o.2.1, (sa o.2.2 2 (upd (o.2.2 2) (o.2.1 3).toNatClampNeg x1))))])) H locs) => ?_)
      refine lv_aload_n hx hb dX6_addLabel_28 rfl (lv_at hl 0 rfl) ?_
      refine lv_dup hx hb dX6_addLabel_29 rfl ?_
      refine G_X6_15 [] [] hx hb hT hown hK hh (v := o.2.1 3) rfl dX6_addLabel_30 ?_
      refine lv_iconst (v := 1) hx hb dX6_addLabel_33 (by decide) ?_
      refine lv_iadd hx hb dX6_addLabel_34 ?_
      refine P_X6_15 [] [] hx hb hT hown hK hh dX6_addLabel_35 (fun H locs (hh : Wh D A s.heap ((List.flatten [bX6 a E ((o.1, (upd o.2.1 3 (((o.2.1 3) + 1))), (sa o.2.2 2 (upd (o.2.2 2) (o.2.1 3).toNatClampNeg x1))))])) H locs) => ?_)
      refine lv_aload_n hx hb dX6_addLabel_38 rfl (lv_at hl 0 rfl) ?_
      refine G_X6_15 [] [] hx hb hT hown hK hh (v := ((o.2.1 3) + 1)) rfl dX6_addLabel_39 ?_
      exact hret _ _ _ _ _ (o.1, (upd o.2.1 3 (((o.2.1 3) + 1))), (sa o.2.2 2 (upd (o.2.2 2) (o.2.1 3).toNatClampNeg x1))) dX6_addLabel_42 rfl h hh
    · have h := h.2 c2
      refine lv_bipush (v := (-4)) hx hb dX6_addLabel_15 (by decide) ?_
      exact hret _ _ _ _ _ o dX6_addLabel_17 rfl h hh

def w_X8_isLeaf (x0 : Int32)  (Post : Int32 → Prop) : Prop := ((x0 = 0) → Post 1) ∧ (¬ (x0 = 0) → ((x0 = 8) → Post 1) ∧ (¬ (x0 = 8) → ((¬ x0 = 9) → Post 0) ∧ ((x0 = 9) → Post 1)))
set_option maxRecDepth 100000 in
set_option maxHeartbeats 4000000 in
theorem c_X8_isLeaf (l : Launch) (D : va_G) (E : Nat → ClassId)    (x0 : Int32) {Post : Int32 → Prop} (h : w_X8_isLeaf x0  Post) : CtI l yX8_isLeaf cX8_isLeaf 1 .boolean ({ frames := 0, cells := 0, slots := 0, locals := 0 } : Room) D E [.int (x0)] [] (fun _ : Unit => []) (fun (r : Int32) (u : Unit) => Post r ) 0 0 := by
  refine enI (by decide +kernel) (Nat.le_of_ble_eq_true rfl) ?_
  intro p e s m args below meth c Q A ls hx hb hml hown hT hK hA hret hh hl
  have hl : lv_has ls 1 [(0, .int (x0))] := hl
  unfold w_X8_isLeaf at h
  refine lv_iload_n hx hb dX8_isLeaf_0 rfl (lv_at hl 0 rfl) ?_
  refine lv_if_eq (tgt := 16) hx hb dX8_isLeaf_1 (by decide) (fun c1 => ?_) (fun c1 => ?_)
  · have h := h.1 c1
    refine lv_iconst (v := 1) hx hb dX8_isLeaf_16 (by decide) ?_
    refine lv_goto (tgt := 21) hx hb dX8_isLeaf_17 (by decide) ?_
    exact hret _ _ _ _ _ () dX8_isLeaf_21 rfl h hh
  · have h := h.2 c1
    refine lv_iload_n hx hb dX8_isLeaf_4 rfl (lv_at hl 0 rfl) ?_
    refine lv_bipush (v := 8) hx hb dX8_isLeaf_5 (by decide) ?_
    refine lv_icmp_eq (tgt := 16) hx hb dX8_isLeaf_7 (by decide) (fun c2 => ?_) (fun c2 => ?_)
    · have h := h.1 c2
      refine lv_iconst (v := 1) hx hb dX8_isLeaf_16 (by decide) ?_
      refine lv_goto (tgt := 21) hx hb dX8_isLeaf_17 (by decide) ?_
      exact hret _ _ _ _ _ () dX8_isLeaf_21 rfl h hh
    · have h := h.2 c2
      refine lv_iload_n hx hb dX8_isLeaf_10 rfl (lv_at hl 0 rfl) ?_
      refine lv_bipush (v := 9) hx hb dX8_isLeaf_11 (by decide) ?_
      refine lv_icmp_ne (tgt := 20) hx hb dX8_isLeaf_13 (by decide) (fun c3 => ?_) (fun c3 => ?_)
      · have h := h.1 c3
        refine lv_iconst (v := 0) hx hb dX8_isLeaf_20 (by decide) ?_
        exact hret _ _ _ _ _ () dX8_isLeaf_21 rfl h hh
      · have h := h.2 c3
        refine lv_iconst (v := 1) hx hb dX8_isLeaf_16 (by decide) ?_
        refine lv_goto (tgt := 21) hx hb dX8_isLeaf_17 (by decide) ?_
        exact hret _ _ _ _ _ () dX8_isLeaf_21 rfl h hh

def w_X8_isRow (x0 : Int32)  (Post : Int32 → Prop) : Prop := ((x0 = 1) → Post 1) ∧ (¬ (x0 = 1) → ((x0 = 2) → Post 1) ∧ (¬ (x0 = 2) → ((x0 = 6) → Post 1) ∧ (¬ (x0 = 6) → ((¬ x0 = 7) → Post 0) ∧ ((x0 = 7) → Post 1))))
set_option maxRecDepth 100000 in
set_option maxHeartbeats 4000000 in
theorem c_X8_isRow (l : Launch) (D : va_G) (E : Nat → ClassId)    (x0 : Int32) {Post : Int32 → Prop} (h : w_X8_isRow x0  Post) : CtI l yX8_isRow cX8_isRow 1 .boolean ({ frames := 0, cells := 0, slots := 0, locals := 0 } : Room) D E [.int (x0)] [] (fun _ : Unit => []) (fun (r : Int32) (u : Unit) => Post r ) 0 0 := by
  refine enI (by decide +kernel) (Nat.le_of_ble_eq_true rfl) ?_
  intro p e s m args below meth c Q A ls hx hb hml hown hT hK hA hret hh hl
  have hl : lv_has ls 1 [(0, .int (x0))] := hl
  unfold w_X8_isRow at h
  refine lv_iload_n hx hb dX8_isRow_0 rfl (lv_at hl 0 rfl) ?_
  refine lv_iconst (v := 1) hx hb dX8_isRow_1 (by decide) ?_
  refine lv_icmp_eq (tgt := 22) hx hb dX8_isRow_2 (by decide) (fun c1 => ?_) (fun c1 => ?_)
  · have h := h.1 c1
    refine lv_iconst (v := 1) hx hb dX8_isRow_22 (by decide) ?_
    refine lv_goto (tgt := 27) hx hb dX8_isRow_23 (by decide) ?_
    exact hret _ _ _ _ _ () dX8_isRow_27 rfl h hh
  · have h := h.2 c1
    refine lv_iload_n hx hb dX8_isRow_5 rfl (lv_at hl 0 rfl) ?_
    refine lv_iconst (v := 2) hx hb dX8_isRow_6 (by decide) ?_
    refine lv_icmp_eq (tgt := 22) hx hb dX8_isRow_7 (by decide) (fun c2 => ?_) (fun c2 => ?_)
    · have h := h.1 c2
      refine lv_iconst (v := 1) hx hb dX8_isRow_22 (by decide) ?_
      refine lv_goto (tgt := 27) hx hb dX8_isRow_23 (by decide) ?_
      exact hret _ _ _ _ _ () dX8_isRow_27 rfl h hh
    · have h := h.2 c2
      refine lv_iload_n hx hb dX8_isRow_10 rfl (lv_at hl 0 rfl) ?_
      refine lv_bipush (v := 6) hx hb dX8_isRow_11 (by decide) ?_
      refine lv_icmp_eq (tgt := 22) hx hb dX8_isRow_13 (by decide) (fun c3 => ?_) (fun c3 => ?_)
      · have h := h.1 c3
        refine lv_iconst (v := 1) hx hb dX8_isRow_22 (by decide) ?_
        refine lv_goto (tgt := 27) hx hb dX8_isRow_23 (by decide) ?_
        exact hret _ _ _ _ _ () dX8_isRow_27 rfl h hh
      · have h := h.2 c3
        refine lv_iload_n hx hb dX8_isRow_16 rfl (lv_at hl 0 rfl) ?_
        refine lv_bipush (v := 7) hx hb dX8_isRow_17 (by decide) ?_
        refine lv_icmp_ne (tgt := 26) hx hb dX8_isRow_19 (by decide) (fun c4 => ?_) (fun c4 => ?_)
        · have h := h.1 c4
          refine lv_iconst (v := 0) hx hb dX8_isRow_26 (by decide) ?_
          exact hret _ _ _ _ _ () dX8_isRow_27 rfl h hh
        · have h := h.2 c4
          refine lv_iconst (v := 1) hx hb dX8_isRow_22 (by decide) ?_
          refine lv_goto (tgt := 27) hx hb dX8_isRow_23 (by decide) ?_
          exact hret _ _ _ _ _ () dX8_isRow_27 rfl h hh

def w_X8_has (x1 : Int32) (o : Ob) (Post : Int32 → Ob → Prop) : Prop := ((x1 < 0) → Post 0 o) ∧ (¬ (x1 < 0) → (((o.2.1 6) ≤ x1) → Post 0 o) ∧ (¬ ((o.2.1 6) ≤ x1) → ((744 ≤ x1) → Post 0 o) ∧ (¬ (744 ≤ x1) → Post 1 o)))
set_option maxRecDepth 100000 in
set_option maxHeartbeats 4000000 in
theorem c_X8_has (l : Launch) (D : va_G) (E : Nat → ClassId) (a : Nat → Nat)  (o : Ob) (x1 : Int32) {Post : Int32 → Ob → Prop} (h : w_X8_has x1 o Post) : CtI l yX8_has cX8_has 2 .boolean ({ frames := 0, cells := 0, slots := 0, locals := 0 } : Room) D E [.ref (a 0), .int (x1)] (List.flatten [bX8 a E o]) (fun u : Ob => List.flatten [bX8 a E u]) Post 0 0 := by
  refine enI (by decide +kernel) (Nat.le_of_ble_eq_true rfl) ?_
  intro p e s m args below meth c Q A ls hx hb hml hown hT hK hA hret hh hl
  have hl : lv_has ls 2 [(0, .ref (a 0)), (1, .int (x1))] := hl
  unfold w_X8_has at h
  refine lv_iload_n hx hb dX8_has_0 rfl (lv_at hl 1 rfl) ?_
  refine lv_if_lt (tgt := 23) hx hb dX8_has_1 (by decide) (fun c1 => ?_) (fun c1 => ?_)
  · have h := h.1 c1
    refine lv_iconst (v := 0) hx hb dX8_has_23 (by decide) ?_
    exact hret _ _ _ _ _ o dX8_has_24 rfl h hh
  · have h := h.2 c1
    refine lv_iload_n hx hb dX8_has_4 rfl (lv_at hl 1 rfl) ?_
    refine lv_aload_n hx hb dX8_has_5 rfl (lv_at hl 0 rfl) ?_
    refine G_X8_30 [] [] hx hb hT hown hK hh (v := o.2.1 6) rfl dX8_has_6 ?_
    refine lv_icmp_ge (tgt := 23) hx hb dX8_has_9 (by decide) (fun c2 => ?_) (fun c2 => ?_)
    · have h := h.1 c2
      refine lv_iconst (v := 0) hx hb dX8_has_23 (by decide) ?_
      exact hret _ _ _ _ _ o dX8_has_24 rfl h hh
    · have h := h.2 c2
      refine lv_iload_n hx hb dX8_has_12 rfl (lv_at hl 1 rfl) ?_
      refine lv_sipush (v := 744) hx hb dX8_has_13 (by decide) ?_
      refine lv_icmp_ge (tgt := 23) hx hb dX8_has_16 (by decide) (fun c3 => ?_) (fun c3 => ?_)
      · have h := h.1 c3
        refine lv_iconst (v := 0) hx hb dX8_has_23 (by decide) ?_
        exact hret _ _ _ _ _ o dX8_has_24 rfl h hh
      · have h := h.2 c3
        refine lv_iconst (v := 1) hx hb dX8_has_19 (by decide) ?_
        refine lv_goto (tgt := 24) hx hb dX8_has_20 (by decide) ?_
        exact hret _ _ _ _ _ o dX8_has_24 rfl h hh

def w_X8_kind (x1 : Int32) (o : Ob) (Post : Int32 → Ob → Prop) : Prop := w_X8_has  x1 o (fun (r1 : Int32) (o_2 : Ob) => ((r1 = 0) → Post ((-1)) o_2) ∧ (¬ (r1 = 0) → vp_in x1 744 ∧ (Post ((o_2.2.2 0) x1.toNatClampNeg) o_2)))
set_option maxRecDepth 100000 in
set_option maxHeartbeats 4000000 in
theorem c_X8_kind (l : Launch) (D : va_G) (E : Nat → ClassId) (a : Nat → Nat)  (o : Ob) (x1 : Int32) {Post : Int32 → Ob → Prop} (h : w_X8_kind x1 o Post) : CtI l yX8_kind cX8_kind 2 .int ({ frames := 1, cells := 0, slots := 0, locals := 21 } : Room) D E [.ref (a 0), .int (x1)] (List.flatten [bX8 a E o]) (fun u : Ob => List.flatten [bX8 a E u]) Post 0 0 := by
  refine enI (by decide +kernel) (Nat.le_of_ble_eq_true rfl) ?_
  intro p e s m args below meth c Q A ls hx hb hml hown hT hK hA hret hh hl
  have hl : lv_has ls 2 [(0, .ref (a 0)), (1, .int (x1))] := hl
  unfold w_X8_kind at h
  refine lv_aload_n hx hb dX8_kind_0 rfl (lv_at hl 0 rfl) ?_
  refine lv_iload_n hx hb dX8_kind_1 rfl (lv_at hl 1 rfl) ?_
  refine kI hh.ap0 hA (rnV hx hb hml hown hT hK hh.ap0 (c_X8_has l D E a  o x1 h _) mf_X8_has kml_X8_34 ⟨rfl, rfl, Nat.le_of_ble_eq_true rfl, Nat.le_of_ble_eq_true rfl⟩ ⟨Nat.le_of_ble_eq_true rfl, Nat.le_of_ble_eq_true rfl⟩ 8 0 rfl rfl hl.1 rfl dX8_kind_2 (Nat.le_of_ble_eq_true rfl) rfl) (fun r1 o_2 H locs h hh => ?_)
  have hh : Wh D A s.heap ((List.flatten [bX8 a E o_2])) _ _ := hh.un0
  refine lv_if_eq (tgt := 17) hx hb dX8_kind_5 (by decide) (fun c3 => ?_) (fun c3 => ?_)
  · have h := h.1 c3
    refine lv_iconst (v := (-1)) hx hb dX8_kind_17 (by decide) ?_
    exact hret _ _ _ _ _ o_2 dX8_kind_18 rfl h hh
  · have h := h.2 c3
    refine lv_aload_n hx hb dX8_kind_8 rfl (lv_at hl 0 rfl) ?_
    refine G_X8_9 [] [] hx hb hT hown hK hh dX8_kind_9 ?_
    refine lv_iload_n hx hb dX8_kind_12 rfl (lv_at hl 1 rfl) ?_
    obtain ⟨g4, h⟩ := h
    refine A_X8_0 [] [] hx hb hK hh (v := (o_2.2.2 0) x1.toNatClampNeg) g4 rfl dX8_kind_13 ?_
    refine lv_goto (tgt := 18) hx hb dX8_kind_14 (by decide) ?_
    exact hret _ _ _ _ _ o_2 dX8_kind_18 rfl h hh

def w_X8_value (x1 : Int32) (o : Ob) (Post : Int32 → Ob → Prop) : Prop := w_X8_has  x1 o (fun (r1 : Int32) (o_2 : Ob) => ((r1 = 0) → Post 0 o_2) ∧ (¬ (r1 = 0) → vp_in x1 744 ∧ (Post ((o_2.2.2 1) x1.toNatClampNeg) o_2)))
set_option maxRecDepth 100000 in
set_option maxHeartbeats 4000000 in
theorem c_X8_value (l : Launch) (D : va_G) (E : Nat → ClassId) (a : Nat → Nat)  (o : Ob) (x1 : Int32) {Post : Int32 → Ob → Prop} (h : w_X8_value x1 o Post) : CtI l yX8_value cX8_value 2 .int ({ frames := 1, cells := 0, slots := 0, locals := 21 } : Room) D E [.ref (a 0), .int (x1)] (List.flatten [bX8 a E o]) (fun u : Ob => List.flatten [bX8 a E u]) Post 0 0 := by
  refine enI (by decide +kernel) (Nat.le_of_ble_eq_true rfl) ?_
  intro p e s m args below meth c Q A ls hx hb hml hown hT hK hA hret hh hl
  have hl : lv_has ls 2 [(0, .ref (a 0)), (1, .int (x1))] := hl
  unfold w_X8_value at h
  refine lv_aload_n hx hb dX8_value_0 rfl (lv_at hl 0 rfl) ?_
  refine lv_iload_n hx hb dX8_value_1 rfl (lv_at hl 1 rfl) ?_
  refine kI hh.ap0 hA (rnV hx hb hml hown hT hK hh.ap0 (c_X8_has l D E a  o x1 h _) mf_X8_has kml_X8_34 ⟨rfl, rfl, Nat.le_of_ble_eq_true rfl, Nat.le_of_ble_eq_true rfl⟩ ⟨Nat.le_of_ble_eq_true rfl, Nat.le_of_ble_eq_true rfl⟩ 8 0 rfl rfl hl.1 rfl dX8_value_2 (Nat.le_of_ble_eq_true rfl) rfl) (fun r1 o_2 H locs h hh => ?_)
  have hh : Wh D A s.heap ((List.flatten [bX8 a E o_2])) _ _ := hh.un0
  refine lv_if_eq (tgt := 17) hx hb dX8_value_5 (by decide) (fun c3 => ?_) (fun c3 => ?_)
  · have h := h.1 c3
    refine lv_iconst (v := 0) hx hb dX8_value_17 (by decide) ?_
    exact hret _ _ _ _ _ o_2 dX8_value_18 rfl h hh
  · have h := h.2 c3
    refine lv_aload_n hx hb dX8_value_8 rfl (lv_at hl 0 rfl) ?_
    refine G_X8_15 [] [] hx hb hT hown hK hh dX8_value_9 ?_
    refine lv_iload_n hx hb dX8_value_12 rfl (lv_at hl 1 rfl) ?_
    obtain ⟨g4, h⟩ := h
    refine A_X8_1 [] [] hx hb hK hh (v := (o_2.2.2 1) x1.toNatClampNeg) g4 rfl dX8_value_13 ?_
    refine lv_goto (tgt := 18) hx hb dX8_value_14 (by decide) ?_
    exact hret _ _ _ _ _ o_2 dX8_value_18 rfl h hh

def w_X8_goal (x1 : Int32) (o : Ob) (Post : Int32 → Ob → Prop) : Prop := w_X8_has  x1 o (fun (r1 : Int32) (o_2 : Ob) => ((r1 = 0) → Post 0 o_2) ∧ (¬ (r1 = 0) → vp_in x1 744 ∧ (Post ((o_2.2.2 2) x1.toNatClampNeg) o_2)))
set_option maxRecDepth 100000 in
set_option maxHeartbeats 4000000 in
theorem c_X8_goal (l : Launch) (D : va_G) (E : Nat → ClassId) (a : Nat → Nat)  (o : Ob) (x1 : Int32) {Post : Int32 → Ob → Prop} (h : w_X8_goal x1 o Post) : CtI l yX8_goal cX8_goal 2 .int ({ frames := 1, cells := 0, slots := 0, locals := 21 } : Room) D E [.ref (a 0), .int (x1)] (List.flatten [bX8 a E o]) (fun u : Ob => List.flatten [bX8 a E u]) Post 0 0 := by
  refine enI (by decide +kernel) (Nat.le_of_ble_eq_true rfl) ?_
  intro p e s m args below meth c Q A ls hx hb hml hown hT hK hA hret hh hl
  have hl : lv_has ls 2 [(0, .ref (a 0)), (1, .int (x1))] := hl
  unfold w_X8_goal at h
  refine lv_aload_n hx hb dX8_goal_0 rfl (lv_at hl 0 rfl) ?_
  refine lv_iload_n hx hb dX8_goal_1 rfl (lv_at hl 1 rfl) ?_
  refine kI hh.ap0 hA (rnV hx hb hml hown hT hK hh.ap0 (c_X8_has l D E a  o x1 h _) mf_X8_has kml_X8_34 ⟨rfl, rfl, Nat.le_of_ble_eq_true rfl, Nat.le_of_ble_eq_true rfl⟩ ⟨Nat.le_of_ble_eq_true rfl, Nat.le_of_ble_eq_true rfl⟩ 8 0 rfl rfl hl.1 rfl dX8_goal_2 (Nat.le_of_ble_eq_true rfl) rfl) (fun r1 o_2 H locs h hh => ?_)
  have hh : Wh D A s.heap ((List.flatten [bX8 a E o_2])) _ _ := hh.un0
  refine lv_if_eq (tgt := 17) hx hb dX8_goal_5 (by decide) (fun c3 => ?_) (fun c3 => ?_)
  · have h := h.1 c3
    refine lv_iconst (v := 0) hx hb dX8_goal_17 (by decide) ?_
    exact hret _ _ _ _ _ o_2 dX8_goal_18 rfl h hh
  · have h := h.2 c3
    refine lv_aload_n hx hb dX8_goal_8 rfl (lv_at hl 0 rfl) ?_
    refine G_X8_18 [] [] hx hb hT hown hK hh dX8_goal_9 ?_
    refine lv_iload_n hx hb dX8_goal_12 rfl (lv_at hl 1 rfl) ?_
    obtain ⟨g4, h⟩ := h
    refine A_X8_2 [] [] hx hb hK hh (v := (o_2.2.2 2) x1.toNatClampNeg) g4 rfl dX8_goal_13 ?_
    refine lv_goto (tgt := 18) hx hb dX8_goal_14 (by decide) ?_
    exact hret _ _ _ _ _ o_2 dX8_goal_18 rfl h hh

def w_X8_parent (x1 : Int32) (o : Ob) (Post : Int32 → Ob → Prop) : Prop := w_X8_has  x1 o (fun (r1 : Int32) (o_2 : Ob) => ((r1 = 0) → Post ((-1)) o_2) ∧ (¬ (r1 = 0) → vp_in x1 744 ∧ (Post ((o_2.2.2 3) x1.toNatClampNeg) o_2)))
set_option maxRecDepth 100000 in
set_option maxHeartbeats 4000000 in
theorem c_X8_parent (l : Launch) (D : va_G) (E : Nat → ClassId) (a : Nat → Nat)  (o : Ob) (x1 : Int32) {Post : Int32 → Ob → Prop} (h : w_X8_parent x1 o Post) : CtI l yX8_parent cX8_parent 2 .int ({ frames := 1, cells := 0, slots := 0, locals := 21 } : Room) D E [.ref (a 0), .int (x1)] (List.flatten [bX8 a E o]) (fun u : Ob => List.flatten [bX8 a E u]) Post 0 0 := by
  refine enI (by decide +kernel) (Nat.le_of_ble_eq_true rfl) ?_
  intro p e s m args below meth c Q A ls hx hb hml hown hT hK hA hret hh hl
  have hl : lv_has ls 2 [(0, .ref (a 0)), (1, .int (x1))] := hl
  unfold w_X8_parent at h
  refine lv_aload_n hx hb dX8_parent_0 rfl (lv_at hl 0 rfl) ?_
  refine lv_iload_n hx hb dX8_parent_1 rfl (lv_at hl 1 rfl) ?_
  refine kI hh.ap0 hA (rnV hx hb hml hown hT hK hh.ap0 (c_X8_has l D E a  o x1 h _) mf_X8_has kml_X8_34 ⟨rfl, rfl, Nat.le_of_ble_eq_true rfl, Nat.le_of_ble_eq_true rfl⟩ ⟨Nat.le_of_ble_eq_true rfl, Nat.le_of_ble_eq_true rfl⟩ 8 0 rfl rfl hl.1 rfl dX8_parent_2 (Nat.le_of_ble_eq_true rfl) rfl) (fun r1 o_2 H locs h hh => ?_)
  have hh : Wh D A s.heap ((List.flatten [bX8 a E o_2])) _ _ := hh.un0
  refine lv_if_eq (tgt := 17) hx hb dX8_parent_5 (by decide) (fun c3 => ?_) (fun c3 => ?_)
  · have h := h.1 c3
    refine lv_iconst (v := (-1)) hx hb dX8_parent_17 (by decide) ?_
    exact hret _ _ _ _ _ o_2 dX8_parent_18 rfl h hh
  · have h := h.2 c3
    refine lv_aload_n hx hb dX8_parent_8 rfl (lv_at hl 0 rfl) ?_
    refine G_X8_21 [] [] hx hb hT hown hK hh dX8_parent_9 ?_
    refine lv_iload_n hx hb dX8_parent_12 rfl (lv_at hl 1 rfl) ?_
    obtain ⟨g4, h⟩ := h
    refine A_X8_3 [] [] hx hb hK hh (v := (o_2.2.2 3) x1.toNatClampNeg) g4 rfl dX8_parent_13 ?_
    refine lv_goto (tgt := 18) hx hb dX8_parent_14 (by decide) ?_
    exact hret _ _ _ _ _ o_2 dX8_parent_18 rfl h hh

def w_X8_end (x1 : Int32) (o : Ob) (Post : Int32 → Ob → Prop) : Prop := w_X8_has  x1 o (fun (r1 : Int32) (o_2 : Ob) => ((r1 = 0) → Post (o_2.2.1 6) o_2) ∧ (¬ (r1 = 0) → vp_in x1 744 ∧ (Post ((o_2.2.2 4) x1.toNatClampNeg) o_2)))
set_option maxRecDepth 100000 in
set_option maxHeartbeats 4000000 in
theorem c_X8_end (l : Launch) (D : va_G) (E : Nat → ClassId) (a : Nat → Nat)  (o : Ob) (x1 : Int32) {Post : Int32 → Ob → Prop} (h : w_X8_end x1 o Post) : CtI l yX8_end cX8_end 2 .int ({ frames := 1, cells := 0, slots := 0, locals := 21 } : Room) D E [.ref (a 0), .int (x1)] (List.flatten [bX8 a E o]) (fun u : Ob => List.flatten [bX8 a E u]) Post 0 0 := by
  refine enI (by decide +kernel) (Nat.le_of_ble_eq_true rfl) ?_
  intro p e s m args below meth c Q A ls hx hb hml hown hT hK hA hret hh hl
  have hl : lv_has ls 2 [(0, .ref (a 0)), (1, .int (x1))] := hl
  unfold w_X8_end at h
  refine lv_aload_n hx hb dX8_end_0 rfl (lv_at hl 0 rfl) ?_
  refine lv_iload_n hx hb dX8_end_1 rfl (lv_at hl 1 rfl) ?_
  refine kI hh.ap0 hA (rnV hx hb hml hown hT hK hh.ap0 (c_X8_has l D E a  o x1 h _) mf_X8_has kml_X8_34 ⟨rfl, rfl, Nat.le_of_ble_eq_true rfl, Nat.le_of_ble_eq_true rfl⟩ ⟨Nat.le_of_ble_eq_true rfl, Nat.le_of_ble_eq_true rfl⟩ 8 0 rfl rfl hl.1 rfl dX8_end_2 (Nat.le_of_ble_eq_true rfl) rfl) (fun r1 o_2 H locs h hh => ?_)
  have hh : Wh D A s.heap ((List.flatten [bX8 a E o_2])) _ _ := hh.un0
  refine lv_if_eq (tgt := 17) hx hb dX8_end_5 (by decide) (fun c3 => ?_) (fun c3 => ?_)
  · have h := h.1 c3
    refine lv_aload_n hx hb dX8_end_17 rfl (lv_at hl 0 rfl) ?_
    refine G_X8_30 [] [] hx hb hT hown hK hh (v := o_2.2.1 6) rfl dX8_end_18 ?_
    exact hret _ _ _ _ _ o_2 dX8_end_21 rfl h hh
  · have h := h.2 c3
    refine lv_aload_n hx hb dX8_end_8 rfl (lv_at hl 0 rfl) ?_
    refine G_X8_24 [] [] hx hb hT hown hK hh dX8_end_9 ?_
    refine lv_iload_n hx hb dX8_end_12 rfl (lv_at hl 1 rfl) ?_
    obtain ⟨g4, h⟩ := h
    refine A_X8_4 [] [] hx hb hK hh (v := (o_2.2.2 4) x1.toNatClampNeg) g4 rfl dX8_end_13 ?_
    refine lv_goto (tgt := 21) hx hb dX8_end_14 (by decide) ?_
    exact hret _ _ _ _ _ o_2 dX8_end_21 rfl h hh

def w_X8_add (x1 : Int32) (x2 : Int32) (x3 : Int32) (o : Ob) (Post : Int32 → Ob → Prop) : Prop := (((o.2.1 6) < 0) → Post ((-1)) o) ∧ (¬ ((o.2.1 6) < 0) → (((o.2.1 6) < 744) → vp_in (o.2.1 6) 744 ∧ (vp_in (o.2.1 6) 744 ∧ (vp_in (o.2.1 6) 744 ∧ (vp_in (o.2.1 6) 744 ∧ (vp_in ((((o.2.1 6) + 1)) - 1) 744 ∧ (Post ((((o.2.1 6) + 1)) - 1) ((o.1, (upd o.2.1 6 (((o.2.1 6) + 1))), (sa (sa (sa (sa (sa o.2.2 0 (upd (o.2.2 0) (o.2.1 6).toNatClampNeg x1)) 1 (upd (o.2.2 1) (o.2.1 6).toNatClampNeg x2)) 2 (upd (o.2.2 2) (o.2.1 6).toNatClampNeg (0 : Int32))) 3 (upd (o.2.2 3) (o.2.1 6).toNatClampNeg x3)) 4 (upd (o.2.2 4) ((((o.2.1 6) + 1)) - 1).toNatClampNeg (((o.2.1 6) + 1)))))))))))) ∧ (¬ ((o.2.1 6) < 744) → Post ((-1)) o))
set_option maxRecDepth 100000 in
set_option maxHeartbeats 4000000 in
theorem c_X8_add (l : Launch) (D : va_G) (E : Nat → ClassId) (a : Nat → Nat)  (o : Ob) (x1 : Int32) (x2 : Int32) (x3 : Int32) {Post : Int32 → Ob → Prop} (h : w_X8_add x1 x2 x3 o Post) : CtI l yX8_add cX8_add 4 .int ({ frames := 0, cells := 0, slots := 0, locals := 0 } : Room) D E [.ref (a 0), .int (x1), .int (x2), .int (x3)] (List.flatten [bX8 a E o]) (fun u : Ob => List.flatten [bX8 a E u]) Post 0 0 := by
  refine enI (by decide +kernel) (Nat.le_of_ble_eq_true rfl) ?_
  intro p e s m args below meth c Q A ls hx hb hml hown hT hK hA hret hh hl
  have hl : lv_has ls 4 [(0, .ref (a 0)), (1, .int (x1)), (2, .int (x2)), (3, .int (x3))] := hl
  unfold w_X8_add at h
  refine lv_aload_n hx hb dX8_add_0 rfl (lv_at hl 0 rfl) ?_
  refine G_X8_30 [] [] hx hb hT hown hK hh (v := o.2.1 6) rfl dX8_add_1 ?_
  refine lv_if_lt (tgt := 17) hx hb dX8_add_4 (by decide) (fun c1 => ?_) (fun c1 => ?_)
  · have h := h.1 c1
    refine lv_iconst (v := (-1)) hx hb dX8_add_17 (by decide) ?_
    exact hret _ _ _ _ _ o dX8_add_18 rfl h hh
  · have h := h.2 c1
    refine lv_aload_n hx hb dX8_add_7 rfl (lv_at hl 0 rfl) ?_
    refine G_X8_30 [] [] hx hb hT hown hK hh (v := o.2.1 6) rfl dX8_add_8 ?_
    refine lv_sipush (v := 744) hx hb dX8_add_11 (by decide) ?_
    refine lv_icmp_lt (tgt := 19) hx hb dX8_add_14 (by decide) (fun c2 => ?_) (fun c2 => ?_)
    · have h := h.1 c2
      refine lv_aload_n hx hb dX8_add_19 rfl (lv_at hl 0 rfl) ?_
      refine G_X8_9 [] [] hx hb hT hown hK hh dX8_add_20 ?_
      refine lv_aload_n hx hb dX8_add_23 rfl (lv_at hl 0 rfl) ?_
      refine G_X8_30 [] [] hx hb hT hown hK hh (v := o.2.1 6) rfl dX8_add_24 ?_
      refine lv_iload_n hx hb dX8_add_27 rfl (lv_at hl 1 rfl) ?_
      obtain ⟨g3, h⟩ := h
      refine S_X8_0 [] [] hx hb hK hh g3 dX8_add_28 (fun H locs (hh : Wh D A s.heap ((List.flatten [bX8 a E ((o.1, o.2.1, (sa o.2.2 0 (upd (o.2.2 0) (o.2.1 6).toNatClampNeg x1))))])) H locs) => ?_)
      refine lv_aload_n hx hb dX8_add_29 rfl (lv_at hl 0 rfl) ?_
      refine G_X8_15 [] [] hx hb hT hown hK hh dX8_add_30 ?_
      refine lv_aload_n hx hb dX8_add_33 rfl (lv_at hl 0 rfl) ?_
      refine G_X8_30 [] [] hx hb hT hown hK hh (v := o.2.1 6) rfl dX8_add_34 ?_
      refine lv_iload_n hx hb dX8_add_37 rfl (lv_at hl 2 rfl) ?_
      obtain ⟨g4, h⟩ := h
      refine S_X8_1 [] [] hx hb hK hh g4 dX8_add_38 (fun H locs (hh : Wh D A s.heap ((List.flatten [bX8 a E ((o.1, o.2.1, (sa (sa o.2.2 0 (upd (o.2.2 0) (o.2.1 6).toNatClampNeg x1)) 1 (upd (o.2.2 1) (o.2.1 6).toNatClampNeg x2))))])) H locs) => ?_)
      refine lv_aload_n hx hb dX8_add_39 rfl (lv_at hl 0 rfl) ?_
      refine G_X8_18 [] [] hx hb hT hown hK hh dX8_add_40 ?_
      refine lv_aload_n hx hb dX8_add_43 rfl (lv_at hl 0 rfl) ?_
      refine G_X8_30 [] [] hx hb hT hown hK hh (v := o.2.1 6) rfl dX8_add_44 ?_
      refine lv_iconst (v := 0) hx hb dX8_add_47 (by decide) ?_
      obtain ⟨g5, h⟩ := h
      refine S_X8_2 [] [] hx hb hK hh g5 dX8_add_48 (fun H locs (hh : Wh D A s.heap ((List.flatten [bX8 a E ((o.1, o.2.1, (sa (sa (sa o.2.2 0 (upd (o.2.2 0) (o.2.1 6).toNatClampNeg x1)) 1 (upd (o.2.2 1) (o.2.1 6).toNatClampNeg x2)) 2 (upd (o.2.2 2) (o.2.1 6).toNatClampNeg (0 : Int32)))))])) H locs) => ?_)
      refine lv_aload_n hx hb dX8_add_49 rfl (lv_at hl 0 rfl) ?_
      refine G_X8_21 [] [] hx hb hT hown hK hh dX8_add_50 ?_
      refine lv_aload_n hx hb dX8_add_53 rfl (lv_at hl 0 rfl) ?_
      refine G_X8_30 [] [] hx hb hT hown hK hh (v := o.2.1 6) rfl dX8_add_54 ?_
      refine lv_iload_n hx hb dX8_add_57 rfl (lv_at hl 3 rfl) ?_
      obtain ⟨g6, h⟩ := h
      refine S_X8_3 [] [] hx hb hK hh g6 dX8_add_58 (fun H locs (hh : Wh D A s.heap ((List.flatten [bX8 a E ((o.1, o.2.1, (sa (sa (sa (sa o.2.2 0 (upd (o.2.2 0) (o.2.1 6).toNatClampNeg x1)) 1 (upd (o.2.2 1) (o.2.1 6).toNatClampNeg x2)) 2 (upd (o.2.2 2) (o.2.1 6).toNatClampNeg (0 : Int32))) 3 (upd (o.2.2 3) (o.2.1 6).toNatClampNeg x3))))])) H locs) => ?_)
      refine lv_aload_n hx hb dX8_add_59 rfl (lv_at hl 0 rfl) ?_
      refine lv_dup hx hb dX8_add_60 rfl ?_
      refine G_X8_30 [] [] hx hb hT hown hK hh (v := o.2.1 6) rfl dX8_add_61 ?_
      refine lv_iconst (v := 1) hx hb dX8_add_64 (by decide) ?_
      refine lv_iadd hx hb dX8_add_65 ?_
      refine P_X8_30 [] [] hx hb hT hown hK hh dX8_add_66 (fun H locs (hh : Wh D A s.heap ((List.flatten [bX8 a E ((o.1, (upd o.2.1 6 (((o.2.1 6) + 1))), (sa (sa (sa (sa o.2.2 0 (upd (o.2.2 0) (o.2.1 6).toNatClampNeg x1)) 1 (upd (o.2.2 1) (o.2.1 6).toNatClampNeg x2)) 2 (upd (o.2.2 2) (o.2.1 6).toNatClampNeg (0 : Int32))) 3 (upd (o.2.2 3) (o.2.1 6).toNatClampNeg x3))))])) H locs) => ?_)
      refine lv_aload_n hx hb dX8_add_69 rfl (lv_at hl 0 rfl) ?_
      refine G_X8_24 [] [] hx hb hT hown hK hh dX8_add_70 ?_
      refine lv_aload_n hx hb dX8_add_73 rfl (lv_at hl 0 rfl) ?_
      refine G_X8_30 [] [] hx hb hT hown hK hh (v := ((o.2.1 6) + 1)) rfl dX8_add_74 ?_
      refine lv_iconst (v := 1) hx hb dX8_add_77 (by decide) ?_
      refine lv_isub hx hb dX8_add_78 ?_
      refine lv_aload_n hx hb dX8_add_79 rfl (lv_at hl 0 rfl) ?_
      refine G_X8_30 [] [] hx hb hT hown hK hh (v := ((o.2.1 6) + 1)) rfl dX8_add_80 ?_
      obtain ⟨g7, h⟩ := h
      refine S_X8_4 [] [] hx hb hK hh g7 dX8_add_83 (fun H locs (hh : Wh D A s.heap ((List.flatten [bX8 a E ((o.1, (upd o.2.1 6 (((o.2.1 6) + 1))), (sa (sa (sa (sa (sa o.2.2 0 (upd (o.2.2 0) (o.2.1 6).toNatClampNeg x1)) 1 (upd (o.2.2 1) (o.2.1 6).toNatClampNeg x2)) 2 (upd (o.2.2 2) (o.2.1 6).toNatClampNeg (0 : Int32))) 3 (upd (o.2.2 3) (o.2.1 6).toNatClampNeg x3)) 4 (upd (o.2.2 4) ((((o.2.1 6) + 1)) - 1).toNatClampNeg (((o.2.1 6) + 1))))))])) H locs) => ?_)
      refine lv_aload_n hx hb dX8_add_84 rfl (lv_at hl 0 rfl) ?_
      refine G_X8_30 [] [] hx hb hT hown hK hh (v := ((o.2.1 6) + 1)) rfl dX8_add_85 ?_
      refine lv_iconst (v := 1) hx hb dX8_add_88 (by decide) ?_
      refine lv_isub hx hb dX8_add_89 ?_
      exact hret _ _ _ _ _ (o.1, (upd o.2.1 6 (((o.2.1 6) + 1))), (sa (sa (sa (sa (sa o.2.2 0 (upd (o.2.2 0) (o.2.1 6).toNatClampNeg x1)) 1 (upd (o.2.2 1) (o.2.1 6).toNatClampNeg x2)) 2 (upd (o.2.2 2) (o.2.1 6).toNatClampNeg (0 : Int32))) 3 (upd (o.2.2 3) (o.2.1 6).toNatClampNeg x3)) 4 (upd (o.2.2 4) ((((o.2.1 6) + 1)) - 1).toNatClampNeg (((o.2.1 6) + 1))))) dX8_add_90 rfl h hh
    · have h := h.2 c2
      refine lv_iconst (v := (-1)) hx hb dX8_add_17 (by decide) ?_
      exact hret _ _ _ _ _ o dX8_add_18 rfl h hh

def w_X8_setValue (x1 : Int32) (x2 : Int32) (o : Ob) (Post : Ob → Prop) : Prop := w_X8_has  x1 o (fun (r1 : Int32) (o_2 : Ob) => ((r1 = 0) → Post o_2) ∧ (¬ (r1 = 0) → vp_in x1 744 ∧ (Post ((o_2.1, o_2.2.1, (sa o_2.2.2 1 (upd (o_2.2.2 1) x1.toNatClampNeg x2)))))))
set_option maxRecDepth 100000 in
set_option maxHeartbeats 4000000 in
theorem c_X8_setValue (l : Launch) (D : va_G) (E : Nat → ClassId) (a : Nat → Nat)  (o : Ob) (x1 : Int32) (x2 : Int32) {Post : Ob → Prop} (h : w_X8_setValue x1 x2 o Post) : CtV l yX8_setValue cX8_setValue 3 ({ frames := 1, cells := 0, slots := 0, locals := 21 } : Room) D E [.ref (a 0), .int (x1), .int (x2)] (List.flatten [bX8 a E o]) (fun u : Ob => List.flatten [bX8 a E u]) Post 0 0 := by
  refine enV (by decide +kernel) (Nat.le_of_ble_eq_true rfl) ?_
  intro p e s m args below meth c Q A ls hx hb hml hown hT hK hA hin0 hret hh hl
  have hl : lv_has ls 3 [(0, .ref (a 0)), (1, .int (x1)), (2, .int (x2))] := hl
  unfold w_X8_setValue at h
  refine lv_aload_n hx hb dX8_setValue_0 rfl (lv_at hl 0 rfl) ?_
  refine lv_iload_n hx hb dX8_setValue_1 rfl (lv_at hl 1 rfl) ?_
  refine kI hh.ap0 hA (rnV hx hb hml hown hT hK hh.ap0 (c_X8_has l D E a  o x1 h _) mf_X8_has kml_X8_34 ⟨rfl, rfl, Nat.le_of_ble_eq_true rfl, Nat.le_of_ble_eq_true rfl⟩ ⟨Nat.le_of_ble_eq_true rfl, Nat.le_of_ble_eq_true rfl⟩ 8 0 rfl rfl hl.1 rfl dX8_setValue_2 (Nat.le_of_ble_eq_true rfl) rfl) (fun r1 o_2 H locs h hh => ?_)
  have hh : Wh D A s.heap ((List.flatten [bX8 a E o_2])) _ _ := hh.un0
  refine lv_if_eq (tgt := 15) hx hb dX8_setValue_5 (by decide) (fun c3 => ?_) (fun c3 => ?_)
  · have h := h.1 c3
    exact hret _ _ _ _ o_2 dX8_setValue_15 h hh
  · have h := h.2 c3
    refine lv_aload_n hx hb dX8_setValue_8 rfl (lv_at hl 0 rfl) ?_
    refine G_X8_15 [] [] hx hb hT hown hK hh dX8_setValue_9 ?_
    refine lv_iload_n hx hb dX8_setValue_12 rfl (lv_at hl 1 rfl) ?_
    refine lv_iload_n hx hb dX8_setValue_13 rfl (lv_at hl 2 rfl) ?_
    obtain ⟨g4, h⟩ := h
    refine S_X8_1 [] [] hx hb hK hh g4 dX8_setValue_14 (fun H locs (hh : Wh D A s.heap ((List.flatten [bX8 a E ((o_2.1, o_2.2.1, (sa o_2.2.2 1 (upd (o_2.2.2 1) x1.toNatClampNeg x2))))])) H locs) => ?_)
    exact hret _ _ _ _ (o_2.1, o_2.2.1, (sa o_2.2.2 1 (upd (o_2.2.2 1) x1.toNatClampNeg x2))) dX8_setValue_15 h hh

def w_X8_setGoal (x1 : Int32) (x2 : Int32) (o : Ob) (Post : Ob → Prop) : Prop := w_X8_has  x1 o (fun (r1 : Int32) (o_2 : Ob) => ((r1 = 0) → Post o_2) ∧ (¬ (r1 = 0) → vp_in x1 744 ∧ (Post ((o_2.1, o_2.2.1, (sa o_2.2.2 2 (upd (o_2.2.2 2) x1.toNatClampNeg x2)))))))
set_option maxRecDepth 100000 in
set_option maxHeartbeats 4000000 in
theorem c_X8_setGoal (l : Launch) (D : va_G) (E : Nat → ClassId) (a : Nat → Nat)  (o : Ob) (x1 : Int32) (x2 : Int32) {Post : Ob → Prop} (h : w_X8_setGoal x1 x2 o Post) : CtV l yX8_setGoal cX8_setGoal 3 ({ frames := 1, cells := 0, slots := 0, locals := 21 } : Room) D E [.ref (a 0), .int (x1), .int (x2)] (List.flatten [bX8 a E o]) (fun u : Ob => List.flatten [bX8 a E u]) Post 0 0 := by
  refine enV (by decide +kernel) (Nat.le_of_ble_eq_true rfl) ?_
  intro p e s m args below meth c Q A ls hx hb hml hown hT hK hA hin0 hret hh hl
  have hl : lv_has ls 3 [(0, .ref (a 0)), (1, .int (x1)), (2, .int (x2))] := hl
  unfold w_X8_setGoal at h
  refine lv_aload_n hx hb dX8_setGoal_0 rfl (lv_at hl 0 rfl) ?_
  refine lv_iload_n hx hb dX8_setGoal_1 rfl (lv_at hl 1 rfl) ?_
  refine kI hh.ap0 hA (rnV hx hb hml hown hT hK hh.ap0 (c_X8_has l D E a  o x1 h _) mf_X8_has kml_X8_34 ⟨rfl, rfl, Nat.le_of_ble_eq_true rfl, Nat.le_of_ble_eq_true rfl⟩ ⟨Nat.le_of_ble_eq_true rfl, Nat.le_of_ble_eq_true rfl⟩ 8 0 rfl rfl hl.1 rfl dX8_setGoal_2 (Nat.le_of_ble_eq_true rfl) rfl) (fun r1 o_2 H locs h hh => ?_)
  have hh : Wh D A s.heap ((List.flatten [bX8 a E o_2])) _ _ := hh.un0
  refine lv_if_eq (tgt := 15) hx hb dX8_setGoal_5 (by decide) (fun c3 => ?_) (fun c3 => ?_)
  · have h := h.1 c3
    exact hret _ _ _ _ o_2 dX8_setGoal_15 h hh
  · have h := h.2 c3
    refine lv_aload_n hx hb dX8_setGoal_8 rfl (lv_at hl 0 rfl) ?_
    refine G_X8_18 [] [] hx hb hT hown hK hh dX8_setGoal_9 ?_
    refine lv_iload_n hx hb dX8_setGoal_12 rfl (lv_at hl 1 rfl) ?_
    refine lv_iload_n hx hb dX8_setGoal_13 rfl (lv_at hl 2 rfl) ?_
    obtain ⟨g4, h⟩ := h
    refine S_X8_2 [] [] hx hb hK hh g4 dX8_setGoal_14 (fun H locs (hh : Wh D A s.heap ((List.flatten [bX8 a E ((o_2.1, o_2.2.1, (sa o_2.2.2 2 (upd (o_2.2.2 2) x1.toNatClampNeg x2))))])) H locs) => ?_)
    exact hret _ _ _ _ (o_2.1, o_2.2.1, (sa o_2.2.2 2 (upd (o_2.2.2 2) x1.toNatClampNeg x2))) dX8_setGoal_15 h hh

def w_X8_close (x1 : Int32) (o : Ob) (Post : Ob → Prop) : Prop := w_X8_has  x1 o (fun (r1 : Int32) (o_2 : Ob) => ((r1 = 0) → Post o_2) ∧ (¬ (r1 = 0) → vp_in x1 744 ∧ (Post ((o_2.1, o_2.2.1, (sa o_2.2.2 4 (upd (o_2.2.2 4) x1.toNatClampNeg (o_2.2.1 6))))))))
set_option maxRecDepth 100000 in
set_option maxHeartbeats 4000000 in
theorem c_X8_close (l : Launch) (D : va_G) (E : Nat → ClassId) (a : Nat → Nat)  (o : Ob) (x1 : Int32) {Post : Ob → Prop} (h : w_X8_close x1 o Post) : CtV l yX8_close cX8_close 2 ({ frames := 1, cells := 0, slots := 0, locals := 21 } : Room) D E [.ref (a 0), .int (x1)] (List.flatten [bX8 a E o]) (fun u : Ob => List.flatten [bX8 a E u]) Post 0 0 := by
  refine enV (by decide +kernel) (Nat.le_of_ble_eq_true rfl) ?_
  intro p e s m args below meth c Q A ls hx hb hml hown hT hK hA hin0 hret hh hl
  have hl : lv_has ls 2 [(0, .ref (a 0)), (1, .int (x1))] := hl
  unfold w_X8_close at h
  refine lv_aload_n hx hb dX8_close_0 rfl (lv_at hl 0 rfl) ?_
  refine lv_iload_n hx hb dX8_close_1 rfl (lv_at hl 1 rfl) ?_
  refine kI hh.ap0 hA (rnV hx hb hml hown hT hK hh.ap0 (c_X8_has l D E a  o x1 h _) mf_X8_has kml_X8_34 ⟨rfl, rfl, Nat.le_of_ble_eq_true rfl, Nat.le_of_ble_eq_true rfl⟩ ⟨Nat.le_of_ble_eq_true rfl, Nat.le_of_ble_eq_true rfl⟩ 8 0 rfl rfl hl.1 rfl dX8_close_2 (Nat.le_of_ble_eq_true rfl) rfl) (fun r1 o_2 H locs h hh => ?_)
  have hh : Wh D A s.heap ((List.flatten [bX8 a E o_2])) _ _ := hh.un0
  refine lv_if_eq (tgt := 18) hx hb dX8_close_5 (by decide) (fun c3 => ?_) (fun c3 => ?_)
  · have h := h.1 c3
    exact hret _ _ _ _ o_2 dX8_close_18 h hh
  · have h := h.2 c3
    refine lv_aload_n hx hb dX8_close_8 rfl (lv_at hl 0 rfl) ?_
    refine G_X8_24 [] [] hx hb hT hown hK hh dX8_close_9 ?_
    refine lv_iload_n hx hb dX8_close_12 rfl (lv_at hl 1 rfl) ?_
    refine lv_aload_n hx hb dX8_close_13 rfl (lv_at hl 0 rfl) ?_
    refine G_X8_30 [] [] hx hb hT hown hK hh (v := o_2.2.1 6) rfl dX8_close_14 ?_
    obtain ⟨g4, h⟩ := h
    refine S_X8_4 [] [] hx hb hK hh g4 dX8_close_17 (fun H locs (hh : Wh D A s.heap ((List.flatten [bX8 a E ((o_2.1, o_2.2.1, (sa o_2.2.2 4 (upd (o_2.2.2 4) x1.toNatClampNeg (o_2.2.1 6)))))])) H locs) => ?_)
    exact hret _ _ _ _ (o_2.1, o_2.2.1, (sa o_2.2.2 4 (upd (o_2.2.2 4) x1.toNatClampNeg (o_2.2.1 6)))) dX8_close_18 h hh

def w_X8_cut (x1 : Int32) (o : Ob) (Post : Ob → Prop) : Prop := ((x1 < 0) → Post o) ∧ (¬ (x1 < 0) → (((o.2.1 6) ≤ x1) → Post o) ∧ (¬ ((o.2.1 6) ≤ x1) → Post ((o.1, (upd o.2.1 6 x1), o.2.2))))
set_option maxRecDepth 100000 in
set_option maxHeartbeats 4000000 in
theorem c_X8_cut (l : Launch) (D : va_G) (E : Nat → ClassId) (a : Nat → Nat)  (o : Ob) (x1 : Int32) {Post : Ob → Prop} (h : w_X8_cut x1 o Post) : CtV l yX8_cut cX8_cut 2 ({ frames := 0, cells := 0, slots := 0, locals := 0 } : Room) D E [.ref (a 0), .int (x1)] (List.flatten [bX8 a E o]) (fun u : Ob => List.flatten [bX8 a E u]) Post 0 0 := by
  refine enV (by decide +kernel) (Nat.le_of_ble_eq_true rfl) ?_
  intro p e s m args below meth c Q A ls hx hb hml hown hT hK hA hin0 hret hh hl
  have hl : lv_has ls 2 [(0, .ref (a 0)), (1, .int (x1))] := hl
  unfold w_X8_cut at h
  refine lv_iload_n hx hb dX8_cut_0 rfl (lv_at hl 1 rfl) ?_
  refine lv_if_lt (tgt := 17) hx hb dX8_cut_1 (by decide) (fun c1 => ?_) (fun c1 => ?_)
  · have h := h.1 c1
    exact hret _ _ _ _ o dX8_cut_17 h hh
  · have h := h.2 c1
    refine lv_iload_n hx hb dX8_cut_4 rfl (lv_at hl 1 rfl) ?_
    refine lv_aload_n hx hb dX8_cut_5 rfl (lv_at hl 0 rfl) ?_
    refine G_X8_30 [] [] hx hb hT hown hK hh (v := o.2.1 6) rfl dX8_cut_6 ?_
    refine lv_icmp_ge (tgt := 17) hx hb dX8_cut_9 (by decide) (fun c2 => ?_) (fun c2 => ?_)
    · have h := h.1 c2
      exact hret _ _ _ _ o dX8_cut_17 h hh
    · have h := h.2 c2
      refine lv_aload_n hx hb dX8_cut_12 rfl (lv_at hl 0 rfl) ?_
      refine lv_iload_n hx hb dX8_cut_13 rfl (lv_at hl 1 rfl) ?_
      refine P_X8_30 [] [] hx hb hT hown hK hh dX8_cut_14 (fun H locs (hh : Wh D A s.heap ((List.flatten [bX8 a E ((o.1, (upd o.2.1 6 x1), o.2.2))])) H locs) => ?_)
      exact hret _ _ _ _ (o.1, (upd o.2.1 6 x1), o.2.2) dX8_cut_17 h hh

def w_X8_exchange (x1 : Int32) (x2 : Int32) (o : Ob) (Post : Ob → Prop) : Prop := w_X8_value  x1 o (fun (r1 : Int32) (o_2 : Ob) => w_X8_value  x2 o_2 (fun (r3 : Int32) (o_4 : Ob) => w_X8_setValue  x1 r3 o_4 (fun (o_6 : Ob) => w_X8_setValue  x2 r1 o_6 (fun (o_8 : Ob) => Post o_8))))
set_option maxRecDepth 100000 in
set_option maxHeartbeats 4000000 in
theorem c_X8_exchange (l : Launch) (D : va_G) (E : Nat → ClassId) (a : Nat → Nat)  (o : Ob) (x1 : Int32) (x2 : Int32) {Post : Ob → Prop} (h : w_X8_exchange x1 x2 o Post) : CtV l yX8_exchange cX8_exchange 4 ({ frames := 2, cells := 0, slots := 0, locals := 43 } : Room) D E [.ref (a 0), .int (x1), .int (x2)] (List.flatten [bX8 a E o]) (fun u : Ob => List.flatten [bX8 a E u]) Post 0 0 := by
  refine enV (by decide +kernel) (Nat.le_of_ble_eq_true rfl) ?_
  intro p e s m args below meth c Q A ls hx hb hml hown hT hK hA hin0 hret hh hl
  have hl : lv_has ls 4 [(0, .ref (a 0)), (1, .int (x1)), (2, .int (x2))] := hl
  unfold w_X8_exchange at h
  refine lv_aload_n hx hb dX8_exchange_0 rfl (lv_at hl 0 rfl) ?_
  refine lv_iload_n hx hb dX8_exchange_1 rfl (lv_at hl 1 rfl) ?_
  refine kI hh.ap0 hA (rnV hx hb hml hown hT hK hh.ap0 (c_X8_value l D E a  o x1 h _) mf_X8_value kml_X8_38 ⟨rfl, rfl, Nat.le_of_ble_eq_true rfl, Nat.le_of_ble_eq_true rfl⟩ ⟨Nat.le_of_ble_eq_true rfl, Nat.le_of_ble_eq_true rfl⟩ 8 0 rfl rfl hl.1 rfl dX8_exchange_2 (Nat.le_of_ble_eq_true rfl) rfl) (fun r1 o_2 H locs h hh => ?_)
  have hh : Wh D A s.heap ((List.flatten [bX8 a E o_2])) _ _ := hh.un0
  refine lv_istore_n (lv' := [(3, .int (r1)), (0, .ref (a 0)), (1, .int (x1)), (2, .int (x2))]) hx hb dX8_exchange_5 rfl hl (by decide) rfl (fun ls hl => ?_)
  refine lv_aload_n hx hb dX8_exchange_6 rfl (lv_at hl 1 rfl) ?_
  refine lv_iload_n hx hb dX8_exchange_7 rfl (lv_at hl 2 rfl) ?_
  refine lv_aload_n hx hb dX8_exchange_8 rfl (lv_at hl 1 rfl) ?_
  refine lv_iload_n hx hb dX8_exchange_9 rfl (lv_at hl 3 rfl) ?_
  refine kI hh.ap0 hA (rnV hx hb hml hown hT hK hh.ap0 (c_X8_value l D E a  o_2 x2 h _) mf_X8_value kml_X8_38 ⟨rfl, rfl, Nat.le_of_ble_eq_true rfl, Nat.le_of_ble_eq_true rfl⟩ ⟨Nat.le_of_ble_eq_true rfl, Nat.le_of_ble_eq_true rfl⟩ 8 0 rfl rfl hl.1 rfl dX8_exchange_10 (Nat.le_of_ble_eq_true rfl) rfl) (fun r3 o_4 H locs h hh => ?_)
  have hh : Wh D A s.heap ((List.flatten [bX8 a E o_4])) _ _ := hh.un0
  refine kV hh.ap0 hA (rnV hx hb hml hown hT hK hh.ap0 (c_X8_setValue l D E a  o_4 x1 r3 h _) mf_X8_setValue kml_X8_42 ⟨rfl, rfl, Nat.le_of_ble_eq_true rfl, Nat.le_of_ble_eq_true rfl⟩ ⟨Nat.le_of_ble_eq_true rfl, Nat.le_of_ble_eq_true rfl⟩ 8 0 rfl rfl hl.1 rfl dX8_exchange_13 (Nat.le_of_ble_eq_true rfl) rfl) (fun o_6 H locs h hh => ?_)
  have hh : Wh D A s.heap ((List.flatten [bX8 a E o_6])) _ _ := hh.un0
  refine lv_aload_n hx hb dX8_exchange_16 rfl (lv_at hl 1 rfl) ?_
  refine lv_iload_n hx hb dX8_exchange_17 rfl (lv_at hl 3 rfl) ?_
  refine lv_iload_n hx hb dX8_exchange_18 rfl (lv_at hl 0 rfl) ?_
  refine kV hh.ap0 hA (rnV hx hb hml hown hT hK hh.ap0 (c_X8_setValue l D E a  o_6 x2 r1 h _) mf_X8_setValue kml_X8_42 ⟨rfl, rfl, Nat.le_of_ble_eq_true rfl, Nat.le_of_ble_eq_true rfl⟩ ⟨Nat.le_of_ble_eq_true rfl, Nat.le_of_ble_eq_true rfl⟩ 8 0 rfl rfl hl.1 rfl dX8_exchange_19 (Nat.le_of_ble_eq_true rfl) rfl) (fun o_8 H locs h hh => ?_)
  have hh : Wh D A s.heap ((List.flatten [bX8 a E o_8])) _ _ := hh.un0
  exact hret _ _ _ _ o_8 dX8_exchange_22 h hh

def w_X8_copy  (o : Ob) (f : Ob) (Post : Ob → Ob → Prop) : Prop := w_J9_min_7cf53  (f.2.1 6) (744 : Int32)  (fun (r1 : Int32) => w_J9_max_7cf53  (0 : Int32) r1  (fun (r2 : Int32) => ¬ (0 : Int32) < 0 ∧ ¬ (0 : Int32) < 0 ∧ ¬ r2 < 0 ∧ (0 : Int32).toNatClampNeg + r2.toNatClampNeg ≤ 744 ∧ (0 : Int32).toNatClampNeg + r2.toNatClampNeg ≤ 744 ∧ (¬ (0 : Int32) < 0 ∧ ¬ (0 : Int32) < 0 ∧ ¬ r2 < 0 ∧ (0 : Int32).toNatClampNeg + r2.toNatClampNeg ≤ 744 ∧ (0 : Int32).toNatClampNeg + r2.toNatClampNeg ≤ 744 ∧ (¬ (0 : Int32) < 0 ∧ ¬ (0 : Int32) < 0 ∧ ¬ r2 < 0 ∧ (0 : Int32).toNatClampNeg + r2.toNatClampNeg ≤ 744 ∧ (0 : Int32).toNatClampNeg + r2.toNatClampNeg ≤ 744 ∧ (¬ (0 : Int32) < 0 ∧ ¬ (0 : Int32) < 0 ∧ ¬ r2 < 0 ∧ (0 : Int32).toNatClampNeg + r2.toNatClampNeg ≤ 744 ∧ (0 : Int32).toNatClampNeg + r2.toNatClampNeg ≤ 744 ∧ (¬ (0 : Int32) < 0 ∧ ¬ (0 : Int32) < 0 ∧ ¬ r2 < 0 ∧ (0 : Int32).toNatClampNeg + r2.toNatClampNeg ≤ 744 ∧ (0 : Int32).toNatClampNeg + r2.toNatClampNeg ≤ 744 ∧ (Post ((o.1, (upd o.2.1 6 r2), (sa (sa (sa (sa (sa o.2.2 0 (va_cpy (f.2.2 0) (o.2.2 0) (0 : Int32).toNatClampNeg (0 : Int32).toNatClampNeg r2.toNatClampNeg)) 1 (va_cpy (f.2.2 1) (o.2.2 1) (0 : Int32).toNatClampNeg (0 : Int32).toNatClampNeg r2.toNatClampNeg)) 2 (va_cpy (f.2.2 2) (o.2.2 2) (0 : Int32).toNatClampNeg (0 : Int32).toNatClampNeg r2.toNatClampNeg)) 3 (va_cpy (f.2.2 3) (o.2.2 3) (0 : Int32).toNatClampNeg (0 : Int32).toNatClampNeg r2.toNatClampNeg)) 4 (va_cpy (f.2.2 4) (o.2.2 4) (0 : Int32).toNatClampNeg (0 : Int32).toNatClampNeg r2.toNatClampNeg)))) f)))))))
set_option maxRecDepth 100000 in
set_option maxHeartbeats 4000000 in
theorem c_X8_copy (l : Launch) (D : va_G) (E : Nat → ClassId) (a : Nat → Nat) (a2 : Nat → Nat)  (o : Ob) (f : Ob)  {Post : Ob → Ob → Prop} (h : w_X8_copy  o f Post) : CtV l yX8_copy cX8_copy 2 ({ frames := 1, cells := 0, slots := 0, locals := 40 } : Room) D E [.ref (a 0), .ref (a2 0)] (List.flatten [bX8 a E o, bX8 a2 E f]) (fun u : Ob × Ob => List.flatten [bX8 a E u.1, bX8 a2 E u.2]) (fun u : Ob × Ob => Post u.1 u.2) 0 0 := by
  refine enV (by decide +kernel) (Nat.le_of_ble_eq_true rfl) ?_
  intro p e s m args below meth c Q A ls hx hb hml hown hT hK hA hin0 hret hh hl
  have hl : lv_has ls 2 [(0, .ref (a 0)), (1, .ref (a2 0))] := hl
  unfold w_X8_copy at h
  refine lv_aload_n hx hb dX8_copy_0 rfl (lv_at hl 0 rfl) ?_
  refine lv_iconst (v := 0) hx hb dX8_copy_1 (by decide) ?_
  refine lv_aload_n hx hb dX8_copy_2 rfl (lv_at hl 1 rfl) ?_
  refine G_X8_30 [_] [] hx hb hT hown hK hh (v := f.2.1 6) rfl dX8_copy_3 ?_
  refine lv_sipush (v := 744) hx hb dX8_copy_6 (by decide) ?_
  refine kI hh.none hA (rnS hx hb hml hown hT hK hh.none (c_J9_min_7cf53 l D E    (f.2.1 6) (744 : Int32) h _) mf_J9_min_7cf53 kml_X8_46 ⟨rfl, rfl, Nat.le_of_ble_eq_true rfl, Nat.le_of_ble_eq_true rfl⟩ ⟨Nat.le_of_ble_eq_true rfl, Nat.le_of_ble_eq_true rfl⟩ hl.1 rfl dX8_copy_9 (Nat.le_of_ble_eq_true rfl) rfl) (fun r1 u H locs h hh => ?_)
  have hh : Wh D A s.heap ((List.flatten [bX8 a E o, bX8 a2 E f])) _ _ := hh.unone
  refine kI hh.none hA (rnS hx hb hml hown hT hK hh.none (c_J9_max_7cf53 l D E    (0 : Int32) r1 h _) mf_J9_max_7cf53 kml_X8_52 ⟨rfl, rfl, Nat.le_of_ble_eq_true rfl, Nat.le_of_ble_eq_true rfl⟩ ⟨Nat.le_of_ble_eq_true rfl, Nat.le_of_ble_eq_true rfl⟩ hl.1 rfl dX8_copy_12 (Nat.le_of_ble_eq_true rfl) rfl) (fun r2 u H locs h hh => ?_)
  have hh : Wh D A s.heap ((List.flatten [bX8 a E o, bX8 a2 E f])) _ _ := hh.unone
  refine P_X8_30 [] [_] hx hb hT hown hK hh dX8_copy_15 (fun H locs (hh : Wh D A s.heap ((List.flatten [bX8 a E ((o.1, (upd o.2.1 6 r2), o.2.2)), bX8 a2 E f])) H locs) => ?_)
  refine lv_aload_n hx hb dX8_copy_18 rfl (lv_at hl 1 rfl) ?_
  refine G_X8_9 [_] [] hx hb hT hown hK hh dX8_copy_19 ?_
  refine lv_iconst (v := 0) hx hb dX8_copy_22 (by decide) ?_
  refine lv_aload_n hx hb dX8_copy_23 rfl (lv_at hl 0 rfl) ?_
  refine G_X8_9 [] [_] hx hb hT hown hK hh dX8_copy_24 ?_
  refine lv_iconst (v := 0) hx hb dX8_copy_27 (by decide) ?_
  refine lv_aload_n hx hb dX8_copy_28 rfl (lv_at hl 0 rfl) ?_
  refine G_X8_30 [] [_] hx hb hT hown hK hh (v := r2) rfl dX8_copy_29 ?_
  obtain ⟨g3, g4, g5, g6, g7, h⟩ := h
  refine va_copyi hx hb (hml.trans hl.1.symm) hown (hT _ kml_X8_55) (hT _ kna_acopy) (hT _ kst_acopy) (hT _ kit_J10) hK.1 hh.1 hh.2.1 hh.2.2 8 1 0 0 rfl rfl rfl rfl rfl g3 g4 g5 g6 g7 (fun _ _ => rfl) (Nat.le_of_ble_eq_true rfl) (Nat.le_of_ble_eq_true rfl) dX8_copy_32 (fun H locs h1 h2 h3 => ?_)
  have hh : Wh D A s.heap ((List.flatten [bX8 a E ((o.1, (upd o.2.1 6 r2), (sa o.2.2 0 (va_cpy (f.2.2 0) (o.2.2 0) (0 : Int32).toNatClampNeg (0 : Int32).toNatClampNeg r2.toNatClampNeg)))), bX8 a2 E f])) _ _ := ⟨h1, h2, h3⟩
  refine lv_aload_n hx hb dX8_copy_35 rfl (lv_at hl 1 rfl) ?_
  refine G_X8_15 [_] [] hx hb hT hown hK hh dX8_copy_36 ?_
  refine lv_iconst (v := 0) hx hb dX8_copy_39 (by decide) ?_
  refine lv_aload_n hx hb dX8_copy_40 rfl (lv_at hl 0 rfl) ?_
  refine G_X8_15 [] [_] hx hb hT hown hK hh dX8_copy_41 ?_
  refine lv_iconst (v := 0) hx hb dX8_copy_44 (by decide) ?_
  refine lv_aload_n hx hb dX8_copy_45 rfl (lv_at hl 0 rfl) ?_
  refine G_X8_30 [] [_] hx hb hT hown hK hh (v := r2) rfl dX8_copy_46 ?_
  obtain ⟨g8, g9, g10, g11, g12, h⟩ := h
  refine va_copyi hx hb (hml.trans hl.1.symm) hown (hT _ kml_X8_55) (hT _ kna_acopy) (hT _ kst_acopy) (hT _ kit_J10) hK.1 hh.1 hh.2.1 hh.2.2 9 2 0 0 rfl rfl rfl rfl rfl g8 g9 g10 g11 g12 (fun _ _ => rfl) (Nat.le_of_ble_eq_true rfl) (Nat.le_of_ble_eq_true rfl) dX8_copy_49 (fun H locs h1 h2 h3 => ?_)
  have hh : Wh D A s.heap ((List.flatten [bX8 a E ((o.1, (upd o.2.1 6 r2), (sa (sa o.2.2 0 (va_cpy (f.2.2 0) (o.2.2 0) (0 : Int32).toNatClampNeg (0 : Int32).toNatClampNeg r2.toNatClampNeg)) 1 (va_cpy (f.2.2 1) (o.2.2 1) (0 : Int32).toNatClampNeg (0 : Int32).toNatClampNeg r2.toNatClampNeg)))), bX8 a2 E f])) _ _ := ⟨h1, h2, h3⟩
  refine lv_aload_n hx hb dX8_copy_52 rfl (lv_at hl 1 rfl) ?_
  refine G_X8_18 [_] [] hx hb hT hown hK hh dX8_copy_53 ?_
  refine lv_iconst (v := 0) hx hb dX8_copy_56 (by decide) ?_
  refine lv_aload_n hx hb dX8_copy_57 rfl (lv_at hl 0 rfl) ?_
  refine G_X8_18 [] [_] hx hb hT hown hK hh dX8_copy_58 ?_
  refine lv_iconst (v := 0) hx hb dX8_copy_61 (by decide) ?_
  refine lv_aload_n hx hb dX8_copy_62 rfl (lv_at hl 0 rfl) ?_
  refine G_X8_30 [] [_] hx hb hT hown hK hh (v := r2) rfl dX8_copy_63 ?_
  obtain ⟨g13, g14, g15, g16, g17, h⟩ := h
  refine va_copyi hx hb (hml.trans hl.1.symm) hown (hT _ kml_X8_55) (hT _ kna_acopy) (hT _ kst_acopy) (hT _ kit_J10) hK.1 hh.1 hh.2.1 hh.2.2 10 3 0 0 rfl rfl rfl rfl rfl g13 g14 g15 g16 g17 (fun _ _ => rfl) (Nat.le_of_ble_eq_true rfl) (Nat.le_of_ble_eq_true rfl) dX8_copy_66 (fun H locs h1 h2 h3 => ?_)
  have hh : Wh D A s.heap ((List.flatten [bX8 a E ((o.1, (upd o.2.1 6 r2), (sa (sa (sa o.2.2 0 (va_cpy (f.2.2 0) (o.2.2 0) (0 : Int32).toNatClampNeg (0 : Int32).toNatClampNeg r2.toNatClampNeg)) 1 (va_cpy (f.2.2 1) (o.2.2 1) (0 : Int32).toNatClampNeg (0 : Int32).toNatClampNeg r2.toNatClampNeg)) 2 (va_cpy (f.2.2 2) (o.2.2 2) (0 : Int32).toNatClampNeg (0 : Int32).toNatClampNeg r2.toNatClampNeg)))), bX8 a2 E f])) _ _ := ⟨h1, h2, h3⟩
  refine lv_aload_n hx hb dX8_copy_69 rfl (lv_at hl 1 rfl) ?_
  refine G_X8_21 [_] [] hx hb hT hown hK hh dX8_copy_70 ?_
  refine lv_iconst (v := 0) hx hb dX8_copy_73 (by decide) ?_
  refine lv_aload_n hx hb dX8_copy_74 rfl (lv_at hl 0 rfl) ?_
  refine G_X8_21 [] [_] hx hb hT hown hK hh dX8_copy_75 ?_
  refine lv_iconst (v := 0) hx hb dX8_copy_78 (by decide) ?_
  refine lv_aload_n hx hb dX8_copy_79 rfl (lv_at hl 0 rfl) ?_
  refine G_X8_30 [] [_] hx hb hT hown hK hh (v := r2) rfl dX8_copy_80 ?_
  obtain ⟨g18, g19, g20, g21, g22, h⟩ := h
  refine va_copyi hx hb (hml.trans hl.1.symm) hown (hT _ kml_X8_55) (hT _ kna_acopy) (hT _ kst_acopy) (hT _ kit_J10) hK.1 hh.1 hh.2.1 hh.2.2 11 4 0 0 rfl rfl rfl rfl rfl g18 g19 g20 g21 g22 (fun _ _ => rfl) (Nat.le_of_ble_eq_true rfl) (Nat.le_of_ble_eq_true rfl) dX8_copy_83 (fun H locs h1 h2 h3 => ?_)
  have hh : Wh D A s.heap ((List.flatten [bX8 a E ((o.1, (upd o.2.1 6 r2), (sa (sa (sa (sa o.2.2 0 (va_cpy (f.2.2 0) (o.2.2 0) (0 : Int32).toNatClampNeg (0 : Int32).toNatClampNeg r2.toNatClampNeg)) 1 (va_cpy (f.2.2 1) (o.2.2 1) (0 : Int32).toNatClampNeg (0 : Int32).toNatClampNeg r2.toNatClampNeg)) 2 (va_cpy (f.2.2 2) (o.2.2 2) (0 : Int32).toNatClampNeg (0 : Int32).toNatClampNeg r2.toNatClampNeg)) 3 (va_cpy (f.2.2 3) (o.2.2 3) (0 : Int32).toNatClampNeg (0 : Int32).toNatClampNeg r2.toNatClampNeg)))), bX8 a2 E f])) _ _ := ⟨h1, h2, h3⟩
  refine lv_aload_n hx hb dX8_copy_86 rfl (lv_at hl 1 rfl) ?_
  refine G_X8_24 [_] [] hx hb hT hown hK hh dX8_copy_87 ?_
  refine lv_iconst (v := 0) hx hb dX8_copy_90 (by decide) ?_
  refine lv_aload_n hx hb dX8_copy_91 rfl (lv_at hl 0 rfl) ?_
  refine G_X8_24 [] [_] hx hb hT hown hK hh dX8_copy_92 ?_
  refine lv_iconst (v := 0) hx hb dX8_copy_95 (by decide) ?_
  refine lv_aload_n hx hb dX8_copy_96 rfl (lv_at hl 0 rfl) ?_
  refine G_X8_30 [] [_] hx hb hT hown hK hh (v := r2) rfl dX8_copy_97 ?_
  obtain ⟨g23, g24, g25, g26, g27, h⟩ := h
  refine va_copyi hx hb (hml.trans hl.1.symm) hown (hT _ kml_X8_55) (hT _ kna_acopy) (hT _ kst_acopy) (hT _ kit_J10) hK.1 hh.1 hh.2.1 hh.2.2 12 5 0 0 rfl rfl rfl rfl rfl g23 g24 g25 g26 g27 (fun _ _ => rfl) (Nat.le_of_ble_eq_true rfl) (Nat.le_of_ble_eq_true rfl) dX8_copy_100 (fun H locs h1 h2 h3 => ?_)
  have hh : Wh D A s.heap ((List.flatten [bX8 a E ((o.1, (upd o.2.1 6 r2), (sa (sa (sa (sa (sa o.2.2 0 (va_cpy (f.2.2 0) (o.2.2 0) (0 : Int32).toNatClampNeg (0 : Int32).toNatClampNeg r2.toNatClampNeg)) 1 (va_cpy (f.2.2 1) (o.2.2 1) (0 : Int32).toNatClampNeg (0 : Int32).toNatClampNeg r2.toNatClampNeg)) 2 (va_cpy (f.2.2 2) (o.2.2 2) (0 : Int32).toNatClampNeg (0 : Int32).toNatClampNeg r2.toNatClampNeg)) 3 (va_cpy (f.2.2 3) (o.2.2 3) (0 : Int32).toNatClampNeg (0 : Int32).toNatClampNeg r2.toNatClampNeg)) 4 (va_cpy (f.2.2 4) (o.2.2 4) (0 : Int32).toNatClampNeg (0 : Int32).toNatClampNeg r2.toNatClampNeg)))), bX8 a2 E f])) _ _ := ⟨h1, h2, h3⟩
  exact hret _ _ _ _ ((o.1, (upd o.2.1 6 r2), (sa (sa (sa (sa (sa o.2.2 0 (va_cpy (f.2.2 0) (o.2.2 0) (0 : Int32).toNatClampNeg (0 : Int32).toNatClampNeg r2.toNatClampNeg)) 1 (va_cpy (f.2.2 1) (o.2.2 1) (0 : Int32).toNatClampNeg (0 : Int32).toNatClampNeg r2.toNatClampNeg)) 2 (va_cpy (f.2.2 2) (o.2.2 2) (0 : Int32).toNatClampNeg (0 : Int32).toNatClampNeg r2.toNatClampNeg)) 3 (va_cpy (f.2.2 3) (o.2.2 3) (0 : Int32).toNatClampNeg (0 : Int32).toNatClampNeg r2.toNatClampNeg)) 4 (va_cpy (f.2.2 4) (o.2.2 4) (0 : Int32).toNatClampNeg (0 : Int32).toNatClampNeg r2.toNatClampNeg))), f) dX8_copy_103 h hh
