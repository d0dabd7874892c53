def w_grow (ck mk : Nat → Ob) : Nat → Int32 → Int32 → Int32 → Ob → Ob → Ob → Ob → Ob → Ob → (Int32 → Ob → Ob → Ob → Ob → Ob → Ob → Prop) → Prop
  | 0 => fun _ _ _ _ _ _ _ _ _ _ => False
  | dd + 1 => fun x1 x2 x3 k kt kl j mc md Post => w_X5_grow ck mk (w_grow ck mk dd) x1 x2 x3 k kt kl j mc md Post
theorem c_grow (l : Launch) (D : va_G) (E : Nat → ClassId) (ad : Nat → Nat → Nat) (ck mk : Nat → Ob) (dd : Nat) : ∀ (G : Int32 → Int32 → Int32 → Ob → Ob → Ob → Ob → Ob → Ob → (Int32 → Ob → Ob → Ob → Ob → Ob → Ob → Prop) → Prop), G = w_grow ck mk dd → ∀ (x1 x2 x3 : Int32) (k kt kl j mc md : Ob) (Post : Int32 → Ob → Ob → Ob → Ob → Ob → Ob → Prop), G x1 x2 x3 k kt kl j mc md Post → CtI l yX5_grow cX5_grow 8 .int (rmG dd) D E [.ref (ad 4 0), .int (x1), .int (x2), .int (x3)] (List.flatten [bX5 ad E k, bX8 (ad 5) E kt, bX2 (ad 6) E kl, bX1 ad E j, bX3 (ad 2) E mc, bX3 (ad 3) E md, dC ad E ck (j.2.1 1).toNatClampNeg, dK ad E mk (k.2.1 1).toNatClampNeg]) (fun u : Ob × Ob × Ob × Ob × Ob × Ob => List.flatten [bX5 ad E u.1, bX8 (ad 5) E u.2.1, bX2 (ad 6) E u.2.2.1, bX1 ad E u.2.2.2.1, bX3 (ad 2) E u.2.2.2.2.1, bX3 (ad 3) E u.2.2.2.2.2, dC ad E ck (u.2.2.2.1.2.1 1).toNatClampNeg, dK ad E mk (u.1.2.1 1).toNatClampNeg]) (fun (r : Int32) (u : Ob × Ob × Ob × Ob × Ob × Ob) => Post r u.1 u.2.1 u.2.2.1 u.2.2.2.1 u.2.2.2.2.1 u.2.2.2.2.2) 0 0 := by
  induction dd with
  | zero => intro G hG x1 x2 x3 k kt kl j mc md Post h; subst hG; exact False.elim h
  | succ dd ih =>
    intro G hG x1 x2 x3 k kt kl j mc md Post h
    subst hG
    exact c_X5_grow l D E ad ck mk (w_grow ck mk dd) (ih _ rfl) k kt kl j mc md x1 x2 x3 h

def w_X7_start  (sk : Ob) (sb : Ob) (f : Ob) (Post : Ob → Ob → Ob → Prop) : Prop := w_X8_copy   sb f (fun (sb_2 : Ob) (f_3 : Ob) => Post ((sk.1, (upd (upd sk.2.1 4 ((0 : Int32))) 5 ((0 : Int32))), sk.2.2)) sb_2 f_3)
set_option maxRecDepth 100000 in
set_option maxHeartbeats 4000000 in
theorem c_X7_start (l : Launch) (D : va_G) (E : Nat → ClassId) (ad : Nat → Nat → Nat) (a2 : Nat → Nat)  (sk : Ob) (sb : Ob) (f : Ob)  {Post : Ob → Ob → Ob → Prop} (h : w_X7_start  sk sb f Post) : CtV l yX7_start cX7_start 2 ({ frames := 2, cells := 0, slots := 0, locals := 61 } : Room) D E [.ref (ad 7 0), .ref (a2 0)] (List.flatten [bX7 ad E sk, bX8 (ad 9) E sb, bX8 a2 E f]) (fun u : Ob × Ob × Ob => List.flatten [bX7 ad E u.1, bX8 (ad 9) E u.2.1, bX8 a2 E u.2.2]) (fun u : Ob × Ob × Ob => Post u.1 u.2.1 u.2.2) 0 0 := by
  refine enV (by decide +kernel) (Nat.le_of_ble_eq_true rfl) ?_
  intro p e s m args below meth c Q A ls hx hb hml hown hT hK hA hin0 hret hh hl
  have hl : lv_has ls 2 [(0, .ref (ad 7 0)), (1, .ref (a2 0))] := hl
  unfold w_X7_start at h
  refine lv_aload_n hx hb dX7_start_0 rfl (lv_at hl 0 rfl) ?_
  refine G_X7_21 [] [_, _] hx hb hT hown hK hh dX7_start_1 ?_
  refine lv_aload_n hx hb dX7_start_4 rfl (lv_at hl 1 rfl) ?_
  have hc := hh.cut [_, _] [_] [1, 2, 0] 3 rfl (by decide) rfl
  refine kV hc hA (rnVN hx hb hml hown hT hK hc (c_X8_copy l D E (ad 9) a2  sb f  h _) mf_X8_copy nml_X7_39 ⟨rfl, rfl, Nat.le_of_ble_eq_true rfl, Nat.le_of_ble_eq_true rfl⟩ ⟨Nat.le_of_ble_eq_true rfl, Nat.le_of_ble_eq_true rfl⟩ 8 0 rfl rfl hl.1 rfl dX7_start_5 (Nat.le_of_ble_eq_true rfl) rfl) (fun u H locs h hh => ?_)
  obtain ⟨sb_2, f_3⟩ := u
  have hh : Wh D A s.heap ((List.flatten [bX7 ad E sk, bX8 (ad 9) E sb_2, bX8 a2 E f_3])) _ _ := Wh.back (cs := [_, _]) (rs := [_]) _ [2, 0, 1] 3 rfl (by decide) rfl hh
  refine lv_aload_n hx hb dX7_start_8 rfl (lv_at hl 0 rfl) ?_
  refine lv_iconst (v := 0) hx hb dX7_start_9 (by decide) ?_
  refine P_X7_28 [] [_, _] hx hb hT hown hK hh dX7_start_10 (fun H locs (hh : Wh D A s.heap ((List.flatten [bX7 ad E ((sk.1, (upd sk.2.1 4 ((0 : Int32))), sk.2.2)), bX8 (ad 9) E sb_2, bX8 a2 E f_3])) H locs) => ?_)
  refine lv_aload_n hx hb dX7_start_13 rfl (lv_at hl 0 rfl) ?_
  refine lv_iconst (v := 0) hx hb dX7_start_14 (by decide) ?_
  refine P_X7_32 [] [_, _] hx hb hT hown hK hh dX7_start_15 (fun H locs (hh : Wh D A s.heap ((List.flatten [bX7 ad E ((sk.1, (upd (upd sk.2.1 4 ((0 : Int32))) 5 ((0 : Int32))), sk.2.2)), bX8 (ad 9) E sb_2, bX8 a2 E f_3])) H locs) => ?_)
  exact hret _ _ _ _ ((sk.1, (upd (upd sk.2.1 4 ((0 : Int32))) 5 ((0 : Int32))), sk.2.2), sb_2, f_3) dX7_start_18 h hh

def w_X7_moveNearer_L28 (f1_28 : Int32) (K50_28 : Int32 → Ob → Ob → Ob → Prop) (Post : Int32 → Ob → Ob → Ob → Prop) : Nat → Int32 → Int32 → Ob → Ob → Ob → Prop
  | 0, _, _, _, _, _ => False
  | n28 + 1, p2_28, p3_28, sk_28, sb_28, sn_28 => (((sk_28.2.1 5) ≤ p3_28) → K50_28 p2_28 sk_28 sb_28 sn_28) ∧ (¬ ((sk_28.2.1 5) ≤ p3_28) → ((p2_28 = 0) → K50_28 p2_28 sk_28 sb_28 sn_28) ∧ (¬ (p2_28 = 0) → w_X7_moveNearer_L28 f1_28 K50_28 Post n28 (p2_28 / 2) (p3_28 + 1) sk_28 sb_28 sn_28))
def w_X7_moveNearer  (sk : Ob) (sb : Ob) (sn : Ob) (Post : Int32 → Ob → Ob → Ob → Prop) : Prop := w_X8_value  (sk.2.1 4) sb (fun (r1 : Int32) (sb_2 : Ob) => w_X8_goal  (sk.2.1 4) sb_2 (fun (r3 : Int32) (sb_4 : Ob) => ∃ n28, w_X7_moveNearer_L28 r1 (fun (k2_50 : Int32) (sk_k50 : Ob) (sb_k50 : Ob) (sn_k50 : Ob) => ((¬ k2_50 = 0) → w_X8_copy   sn_k50 sb_k50 (fun (sn_9 : Ob) (sb_10 : Ob) => w_X8_setValue  (sk_k50.2.1 4) (r1 - k2_50) sn_9 (fun (sn_12 : Ob) => Post 1 sk_k50 sb_10 sn_12))) ∧ ((k2_50 = 0) → Post 0 sk_k50 sb_k50 sn_k50)) Post n28 (r1 - r3) 0 sk sb_4 sn))
set_option maxRecDepth 100000 in
set_option maxHeartbeats 4000000 in
theorem c_X7_moveNearer (l : Launch) (D : va_G) (E : Nat → ClassId) (ad : Nat → Nat → Nat)  (sk : Ob) (sb : Ob) (sn : Ob)  {Post : Int32 → Ob → Ob → Ob → Prop} (h : w_X7_moveNearer  sk sb sn Post) : CtI l yX7_moveNearer cX7_moveNearer 4 .boolean ({ frames := 2, cells := 0, slots := 0, locals := 61 } : Room) D E [.ref (ad 7 0)] (List.flatten [bX7 ad E sk, bX8 (ad 9) E sb, bX8 (ad 10) E sn]) (fun u : Ob × Ob × Ob => List.flatten [bX7 ad E u.1, bX8 (ad 9) E u.2.1, bX8 (ad 10) E u.2.2]) (fun (r : Int32) (u : Ob × Ob × Ob) => Post r u.1 u.2.1 u.2.2) 0 0 := by
  refine enI (by decide +kernel) (Nat.le_of_ble_eq_true rfl) ?_
  intro p e s m args below meth c Q A ls hx hb hml hown hT hK hA hret hh hl
  have hl : lv_has ls 4 [(0, .ref (ad 7 0))] := hl
  unfold w_X7_moveNearer at h
  refine lv_aload_n hx hb dX7_moveNearer_0 rfl (lv_at hl 0 rfl) ?_
  refine G_X7_21 [] [_, _] hx hb hT hown hK hh dX7_moveNearer_1 ?_
  refine lv_aload_n hx hb dX7_moveNearer_4 rfl (lv_at hl 0 rfl) ?_
  refine G_X7_28 [] [_, _] hx hb hT hown hK hh (v := sk.2.1 4) rfl dX7_moveNearer_5 ?_
  have hc := hh.cut [_] [_, _] [1, 0, 2] 3 rfl (by decide) rfl
  refine kI hc hA (rnVN hx hb hml hown hT hK hc (c_X8_value l D E (ad 9)  sb (sk.2.1 4) h _) mf_X8_value nml_X7_68 ⟨rfl, rfl, Nat.le_of_ble_eq_true rfl, Nat.le_of_ble_eq_true rfl⟩ ⟨Nat.le_of_ble_eq_true rfl, Nat.le_of_ble_eq_true rfl⟩ 8 0 rfl rfl hl.1 rfl dX7_moveNearer_8 (Nat.le_of_ble_eq_true rfl) rfl) (fun r1 sb_2 H locs h hh => ?_)
  have hh : Wh D A s.heap ((List.flatten [bX7 ad E sk, bX8 (ad 9) E sb_2, bX8 (ad 10) E sn])) _ _ := Wh.back (cs := [_]) (rs := [_, _]) _ [1, 0, 2] 3 rfl (by decide) rfl hh
  refine lv_istore_n (lv' := [(1, .int (r1)), (0, .ref (ad 7 0))]) hx hb dX7_moveNearer_11 rfl hl (by decide) rfl (fun ls hl => ?_)
  refine lv_iload_n hx hb dX7_moveNearer_12 rfl (lv_at hl 0 rfl) ?_
  refine lv_aload_n hx hb dX7_moveNearer_13 rfl (lv_at hl 1 rfl) ?_
  refine G_X7_21 [] [_, _] hx hb hT hown hK hh dX7_moveNearer_14 ?_
  refine lv_aload_n hx hb dX7_moveNearer_17 rfl (lv_at hl 1 rfl) ?_
  refine G_X7_28 [] [_, _] hx hb hT hown hK hh (v := sk.2.1 4) rfl dX7_moveNearer_18 ?_
  have hc := hh.cut [_] [_, _] [1, 0, 2] 3 rfl (by decide) rfl
  refine kI hc hA (rnVN hx hb hml hown hT hK hc (c_X8_goal l D E (ad 9)  sb_2 (sk.2.1 4) h _) mf_X8_goal nml_X7_71 ⟨rfl, rfl, Nat.le_of_ble_eq_true rfl, Nat.le_of_ble_eq_true rfl⟩ ⟨Nat.le_of_ble_eq_true rfl, Nat.le_of_ble_eq_true rfl⟩ 8 0 rfl rfl hl.1 rfl dX7_moveNearer_21 (Nat.le_of_ble_eq_true rfl) rfl) (fun r3 sb_4 H locs h hh => ?_)
  have hh : Wh D A s.heap ((List.flatten [bX7 ad E sk, bX8 (ad 9) E sb_4, bX8 (ad 10) E sn])) _ _ := Wh.back (cs := [_]) (rs := [_, _]) _ [1, 0, 2] 3 rfl (by decide) rfl hh
  refine lv_isub hx hb dX7_moveNearer_24 ?_
  refine lv_istore_n (lv' := [(2, .int (r1 - r3)), (1, .int (r1)), (0, .ref (ad 7 0))]) hx hb dX7_moveNearer_25 rfl hl (by decide) rfl (fun ls hl => ?_)
  refine lv_iconst (v := 0) hx hb dX7_moveNearer_26 (by decide) ?_
  refine lv_istore_n (lv' := [(3, .int (0)), (2, .int (r1 - r3)), (1, .int (r1)), (0, .ref (ad 7 0))]) hx hb dX7_moveNearer_27 rfl hl (by decide) rfl (fun ls hl => ?_)
  have hw28 : ∀ (K50_28 : Int32 → Ob → Ob → Ob → Prop) (hK50_28 : ∀ (k2_50 : Int32) (sk_k50 : Ob) (sb_k50 : Ob) (sn_k50 : Ob) (H : Heap) (locs : List Loc) (ls : Array Slot), K50_28 k2_50 sk_k50 sb_k50 sn_k50 → Wh D A s.heap ((List.flatten [bX7 ad E sk_k50, bX8 (ad 9) E sb_k50, bX8 (ad 10) E sn_k50])) H locs → lv_has ls 4 [(0, .ref (ad 7 0)), (1, .int (r1)), (2, .int (k2_50))] → W p l e ({ frames := 2, cells := 0, slots := 0, locals := 61 } : Room) s m args below meth c H locs 0 0 Q (F0 m 50 ls [])) (n : Nat) (p2_28 : Int32) (p3_28 : Int32) (sk_28 : Ob) (sb_28 : Ob) (sn_28 : Ob) (H : Heap) (locs : List Loc) (ls : Array Slot), w_X7_moveNearer_L28 r1 K50_28 Post n p2_28 p3_28 sk_28 sb_28 sn_28 → Wh D A s.heap ((List.flatten [bX7 ad E sk_28, bX8 (ad 9) E sb_28, bX8 (ad 10) E sn_28])) H locs → lv_has ls 4 [(0, .ref (ad 7 0)), (1, .int (r1)), (2, .int (p2_28)), (3, .int (p3_28))] → W p l e ({ frames := 2, cells := 0, slots := 0, locals := 61 } : Room) s m args below meth c H locs 0 0 Q (F0 m 28 ls []) := by
    intro K50_28 hK50_28 n
    induction n with
    | zero => intro p2_28 p3_28 sk_28 sb_28 sn_28 H locs ls h hh hl; exact False.elim h
    | succ n ih =>
      intro p2_28 p3_28 sk_28 sb_28 sn_28 H locs ls h hh hl
      refine lv_iload_n hx hb dX7_moveNearer_28 rfl (lv_at hl 3 rfl) ?_
      refine lv_aload_n hx hb dX7_moveNearer_29 rfl (lv_at hl 0 rfl) ?_
      refine G_X7_32 [] [_, _] hx hb hT hown hK hh (v := sk_28.2.1 5) rfl dX7_moveNearer_30 ?_
      refine lv_icmp_ge (tgt := 50) hx hb dX7_moveNearer_33 (by decide) (fun c5 => ?_) (fun c5 => ?_)
      · have h := h.1 c5
        exact hK50_28 p2_28 sk_28 sb_28 sn_28 _ _ _ h hh (lv_sub hl [0, 1, 2] rfl)
      · have h := h.2 c5
        refine lv_iload_n hx hb dX7_moveNearer_36 rfl (lv_at hl 2 rfl) ?_
        refine lv_if_eq (tgt := 50) hx hb dX7_moveNearer_37 (by decide) (fun c6 => ?_) (fun c6 => ?_)
        · have h := h.1 c6
          exact hK50_28 p2_28 sk_28 sb_28 sn_28 _ _ _ h hh (lv_sub hl [0, 1, 2] rfl)
        · have h := h.2 c6
          refine lv_iload_n hx hb dX7_moveNearer_40 rfl (lv_at hl 2 rfl) ?_
          refine lv_iconst (v := 2) hx hb dX7_moveNearer_41 (by decide) ?_
          refine lv_idiv hx hb dX7_moveNearer_42 (by decide) ?_
          refine lv_istore_n (lv' := [(2, .int (p2_28 / 2)), (0, .ref (ad 7 0)), (1, .int (r1)), (3, .int (p3_28))]) hx hb dX7_moveNearer_43 rfl hl (by decide) rfl (fun ls hl => ?_)
          refine lv_iinc (v := p3_28 + 1) (lv' := [(3, .int (p3_28 + 1)), (2, .int (p2_28 / 2)), (0, .ref (ad 7 0)), (1, .int (r1))]) hx hb dX7_moveNearer_44 hl (k := 3) rfl (by rfl) (by decide) rfl (fun ls hl => ?_)
          refine lv_goto (tgt := 28) hx hb dX7_moveNearer_47 (by decide) ?_
          exact ih (p2_28 / 2) (p3_28 + 1) sk_28 sb_28 sn_28 _ _ _ h hh (lv_sub hl [2, 3, 1, 0] rfl)
  obtain ⟨n, h⟩ := h
  refine hw28 _ (fun k2_50 sk_k50 sb_k50 sn_k50 H locs ls h hh hl => ?_) n (r1 - r3) 0 sk sb_4 sn _ _ _ h hh (lv_sub hl [3, 2, 1, 0] rfl)
  refine lv_iload_n hx hb dX7_moveNearer_50 rfl (lv_at hl 2 rfl) ?_
  refine lv_if_ne (tgt := 56) hx hb dX7_moveNearer_51 (by decide) (fun c7 => ?_) (fun c7 => ?_)
  · have h := h.1 c7
    refine lv_aload_n hx hb dX7_moveNearer_56 rfl (lv_at hl 0 rfl) ?_
    refine G_X7_25 [] [_, _] hx hb hT hown hK hh dX7_moveNearer_57 ?_
    refine lv_aload_n hx hb dX7_moveNearer_60 rfl (lv_at hl 0 rfl) ?_
    refine G_X7_21 [] [_, _] hx hb hT hown hK hh dX7_moveNearer_61 ?_
    have hc := hh.cut [_, _] [_] [2, 1, 0] 3 rfl (by decide) rfl
    refine kV hc hA (rnVN hx hb hml hown hT hK hc (c_X8_copy l D E (ad 10) (ad 9)  sn_k50 sb_k50  h _) mf_X8_copy nml_X7_39 ⟨rfl, rfl, Nat.le_of_ble_eq_true rfl, Nat.le_of_ble_eq_true rfl⟩ ⟨Nat.le_of_ble_eq_true rfl, Nat.le_of_ble_eq_true rfl⟩ 8 0 rfl rfl hl.1 rfl dX7_moveNearer_64 (Nat.le_of_ble_eq_true rfl) rfl) (fun u H locs h hh => ?_)
    obtain ⟨sn_9, sb_10⟩ := u
    have hh : Wh D A s.heap ((List.flatten [bX7 ad E sk_k50, bX8 (ad 9) E sb_10, bX8 (ad 10) E sn_9])) _ _ := Wh.back (cs := [_, _]) (rs := [_]) _ [2, 1, 0] 3 rfl (by decide) rfl hh
    refine lv_aload_n hx hb dX7_moveNearer_67 rfl (lv_at hl 0 rfl) ?_
    refine G_X7_25 [] [_, _] hx hb hT hown hK hh dX7_moveNearer_68 ?_
    refine lv_aload_n hx hb dX7_moveNearer_71 rfl (lv_at hl 0 rfl) ?_
    refine G_X7_28 [] [_, _] hx hb hT hown hK hh (v := sk_k50.2.1 4) rfl dX7_moveNearer_72 ?_
    refine lv_iload_n hx hb dX7_moveNearer_75 rfl (lv_at hl 1 rfl) ?_
    refine lv_iload_n hx hb dX7_moveNearer_76 rfl (lv_at hl 2 rfl) ?_
    refine lv_isub hx hb dX7_moveNearer_77 ?_
    have hc := hh.cut [_] [_, _] [2, 0, 1] 3 rfl (by decide) rfl
    refine kV hc hA (rnVN hx hb hml hown hT hK hc (c_X8_setValue l D E (ad 10)  sn_9 (sk_k50.2.1 4) (r1 - k2_50) h _) mf_X8_setValue nml_X7_74 ⟨rfl, rfl, Nat.le_of_ble_eq_true rfl, Nat.le_of_ble_eq_true rfl⟩ ⟨Nat.le_of_ble_eq_true rfl, Nat.le_of_ble_eq_true rfl⟩ 8 0 rfl rfl hl.1 rfl dX7_moveNearer_78 (Nat.le_of_ble_eq_true rfl) rfl) (fun sn_12 H locs h hh => ?_)
    have hh : Wh D A s.heap ((List.flatten [bX7 ad E sk_k50, bX8 (ad 9) E sb_10, bX8 (ad 10) E sn_12])) _ _ := Wh.back (cs := [_]) (rs := [_, _]) _ [1, 2, 0] 3 rfl (by decide) rfl hh
    refine lv_iconst (v := 1) hx hb dX7_moveNearer_81 (by decide) ?_
    exact hret _ _ _ _ _ (sk_k50, sb_10, sn_12) dX7_moveNearer_82 rfl h hh
  · have h := h.2 c7
    refine lv_iconst (v := 0) hx hb dX7_moveNearer_54 (by decide) ?_
    exact hret _ _ _ _ _ (sk_k50, sb_k50, sn_k50) dX7_moveNearer_55 rfl h hh

def w_X7_shorten_L19 (f1_19 : Int32) (K43_19 : Int32 → Int32 → Ob → Ob → Ob → Prop) (Post : Int32 → Ob → Ob → Ob → Prop) : Nat → Int32 → Int32 → Ob → Ob → Ob → Prop
  | 0, _, _, _, _, _ => False
  | n19 + 1, p2_19, p3_19, sk_19, sb_19, sn_19 => ((p2_19 ≤ 0) → K43_19 p2_19 p3_19 sk_19 sb_19 sn_19) ∧ (¬ (p2_19 ≤ 0) → ¬ p2_19 = 0 ∧ (((p3_19 < (f1_19 / p2_19)) → K43_19 p2_19 p3_19 sk_19 sb_19 sn_19) ∧ (¬ (p3_19 < (f1_19 / p2_19)) → ¬ p2_19 = 0 ∧ (w_X7_shorten_L19 f1_19 K43_19 Post n19 (p2_19 / 2) (p3_19 - (f1_19 / p2_19)) sk_19 sb_19 sn_19))))
def w_X7_shorten  (sk : Ob) (sb : Ob) (sn : Ob) (Post : Int32 → Ob → Ob → Ob → Prop) : Prop := w_X8_value  (sk.2.1 4) sb (fun (r1 : Int32) (sb_2 : Ob) => ∃ n19, w_X7_shorten_L19 r1 (fun (k2_43 : Int32) (k3_43 : Int32) (sk_k43 : Ob) (sb_k43 : Ob) (sn_k43 : Ob) => ((0 < k2_43) → w_X8_copy   sn_k43 sb_k43 (fun (sn_9 : Ob) (sb_10 : Ob) => w_X8_dropFromRow  (sk_k43.2.1 4) (k3_43 * k2_43) k2_43 sn_9 (fun (sn_12 : Ob) => Post 1 sk_k43 sb_10 sn_12))) ∧ (¬ (0 < k2_43) → Post 0 sk_k43 sb_k43 sn_k43)) Post n19 r1 (sk.2.1 5) sk sb_2 sn)
set_option maxRecDepth 100000 in
set_option maxHeartbeats 4000000 in
theorem c_X7_shorten (l : Launch) (D : va_G) (E : Nat → ClassId) (ad : Nat → Nat → Nat)  (sk : Ob) (sb : Ob) (sn : Ob)  {Post : Int32 → Ob → Ob → Ob → Prop} (h : w_X7_shorten  sk sb sn Post) : CtI l yX7_shorten cX7_shorten 4 .boolean ({ frames := 3, cells := 0, slots := 0, locals := 69 } : Room) D E [.ref (ad 7 0)] (List.flatten [bX7 ad E sk, bX8 (ad 9) E sb, bX8 (ad 10) E sn]) (fun u : Ob × Ob × Ob => List.flatten [bX7 ad E u.1, bX8 (ad 9) E u.2.1, bX8 (ad 10) E u.2.2]) (fun (r : Int32) (u : Ob × Ob × Ob) => Post r u.1 u.2.1 u.2.2) 0 0 := by
  refine enI (by decide +kernel) (Nat.le_of_ble_eq_true rfl) ?_
  intro p e s m args below meth c Q A ls hx hb hml hown hT hK hA hret hh hl
  have hl : lv_has ls 4 [(0, .ref (ad 7 0))] := hl
  unfold w_X7_shorten at h
  refine lv_aload_n hx hb dX7_shorten_0 rfl (lv_at hl 0 rfl) ?_
  refine G_X7_21 [] [_, _] hx hb hT hown hK hh dX7_shorten_1 ?_
  refine lv_aload_n hx hb dX7_shorten_4 rfl (lv_at hl 0 rfl) ?_
  refine G_X7_28 [] [_, _] hx hb hT hown hK hh (v := sk.2.1 4) rfl dX7_shorten_5 ?_
  have hc := hh.cut [_] [_, _] [1, 0, 2] 3 rfl (by decide) rfl
  refine kI hc hA (rnVN hx hb hml hown hT hK hc (c_X8_value l D E (ad 9)  sb (sk.2.1 4) h _) mf_X8_value nml_X7_68 ⟨rfl, rfl, Nat.le_of_ble_eq_true rfl, Nat.le_of_ble_eq_true rfl⟩ ⟨Nat.le_of_ble_eq_true rfl, Nat.le_of_ble_eq_true rfl⟩ 8 0 rfl rfl hl.1 rfl dX7_shorten_8 (Nat.le_of_ble_eq_true rfl) rfl) (fun r1 sb_2 H locs h hh => ?_)
  have hh : Wh D A s.heap ((List.flatten [bX7 ad E sk, bX8 (ad 9) E sb_2, bX8 (ad 10) E sn])) _ _ := Wh.back (cs := [_]) (rs := [_, _]) _ [1, 0, 2] 3 rfl (by decide) rfl hh
  refine lv_istore_n (lv' := [(1, .int (r1)), (0, .ref (ad 7 0))]) hx hb dX7_shorten_11 rfl hl (by decide) rfl (fun ls hl => ?_)
  refine lv_iload_n hx hb dX7_shorten_12 rfl (lv_at hl 0 rfl) ?_
  refine lv_istore_n (lv' := [(2, .int (r1)), (1, .int (r1)), (0, .ref (ad 7 0))]) hx hb dX7_shorten_13 rfl hl (by decide) rfl (fun ls hl => ?_)
  refine lv_aload_n hx hb dX7_shorten_14 rfl (lv_at hl 2 rfl) ?_
  refine G_X7_32 [] [_, _] hx hb hT hown hK hh (v := sk.2.1 5) rfl dX7_shorten_15 ?_
  refine lv_istore_n (lv' := [(3, .int (sk.2.1 5)), (2, .int (r1)), (1, .int (r1)), (0, .ref (ad 7 0))]) hx hb dX7_shorten_18 rfl hl (by decide) rfl (fun ls hl => ?_)
  have hw19 : ∀ (K43_19 : Int32 → Int32 → Ob → Ob → Ob → Prop) (hK43_19 : ∀ (k2_43 : Int32) (k3_43 : Int32) (sk_k43 : Ob) (sb_k43 : Ob) (sn_k43 : Ob) (H : Heap) (locs : List Loc) (ls : Array Slot), K43_19 k2_43 k3_43 sk_k43 sb_k43 sn_k43 → Wh D A s.heap ((List.flatten [bX7 ad E sk_k43, bX8 (ad 9) E sb_k43, bX8 (ad 10) E sn_k43])) H locs → lv_has ls 4 [(0, .ref (ad 7 0)), (2, .int (k2_43)), (3, .int (k3_43))] → W p l e ({ frames := 3, cells := 0, slots := 0, locals := 69 } : Room) s m args below meth c H locs 0 0 Q (F0 m 43 ls [])) (n : Nat) (p2_19 : Int32) (p3_19 : Int32) (sk_19 : Ob) (sb_19 : Ob) (sn_19 : Ob) (H : Heap) (locs : List Loc) (ls : Array Slot), w_X7_shorten_L19 r1 K43_19 Post n p2_19 p3_19 sk_19 sb_19 sn_19 → Wh D A s.heap ((List.flatten [bX7 ad E sk_19, bX8 (ad 9) E sb_19, bX8 (ad 10) E sn_19])) H locs → lv_has ls 4 [(0, .ref (ad 7 0)), (1, .int (r1)), (2, .int (p2_19)), (3, .int (p3_19))] → W p l e ({ frames := 3, cells := 0, slots := 0, locals := 69 } : Room) s m args below meth c H locs 0 0 Q (F0 m 19 ls []) := by
    intro K43_19 hK43_19 n
    induction n with
    | zero => intro p2_19 p3_19 sk_19 sb_19 sn_19 H locs ls h hh hl; exact False.elim h
    | succ n ih =>
      intro p2_19 p3_19 sk_19 sb_19 sn_19 H locs ls h hh hl
      refine lv_iload_n hx hb dX7_shorten_19 rfl (lv_at hl 2 rfl) ?_
      refine lv_if_le (tgt := 43) hx hb dX7_shorten_20 (by decide) (fun c3 => ?_) (fun c3 => ?_)
      · have h := h.1 c3
        exact hK43_19 p2_19 p3_19 sk_19 sb_19 sn_19 _ _ _ h hh (lv_sub hl [0, 2, 3] rfl)
      · have h := h.2 c3
        refine lv_iload_n hx hb dX7_shorten_23 rfl (lv_at hl 3 rfl) ?_
        refine lv_iload_n hx hb dX7_shorten_24 rfl (lv_at hl 1 rfl) ?_
        refine lv_iload_n hx hb dX7_shorten_25 rfl (lv_at hl 2 rfl) ?_
        obtain ⟨g4, h⟩ := h
        refine lv_idiv hx hb dX7_shorten_26 g4 ?_
        refine lv_icmp_lt (tgt := 43) hx hb dX7_shorten_27 (by decide) (fun c5 => ?_) (fun c5 => ?_)
        · have h := h.1 c5
          exact hK43_19 p2_19 p3_19 sk_19 sb_19 sn_19 _ _ _ h hh (lv_sub hl [0, 2, 3] rfl)
        · have h := h.2 c5
          refine lv_iload_n hx hb dX7_shorten_30 rfl (lv_at hl 3 rfl) ?_
          refine lv_iload_n hx hb dX7_shorten_31 rfl (lv_at hl 1 rfl) ?_
          refine lv_iload_n hx hb dX7_shorten_32 rfl (lv_at hl 2 rfl) ?_
          obtain ⟨g6, h⟩ := h
          refine lv_idiv hx hb dX7_shorten_33 g6 ?_
          refine lv_isub hx hb dX7_shorten_34 ?_
          refine lv_istore_n (lv' := [(3, .int (p3_19 - (r1 / p2_19))), (0, .ref (ad 7 0)), (1, .int (r1)), (2, .int (p2_19))]) hx hb dX7_shorten_35 rfl hl (by decide) rfl (fun ls hl => ?_)
          refine lv_iload_n hx hb dX7_shorten_36 rfl (lv_at hl 3 rfl) ?_
          refine lv_iconst (v := 2) hx hb dX7_shorten_37 (by decide) ?_
          refine lv_idiv hx hb dX7_shorten_38 (by decide) ?_
          refine lv_istore_n (lv' := [(2, .int (p2_19 / 2)), (3, .int (p3_19 - (r1 / p2_19))), (0, .ref (ad 7 0)), (1, .int (r1))]) hx hb dX7_shorten_39 rfl hl (by decide) rfl (fun ls hl => ?_)
          refine lv_goto (tgt := 19) hx hb dX7_shorten_40 (by decide) ?_
          exact ih (p2_19 / 2) (p3_19 - (r1 / p2_19)) sk_19 sb_19 sn_19 _ _ _ h hh (lv_sub hl [2, 3, 0, 1] rfl)
  obtain ⟨n, h⟩ := h
  refine hw19 _ (fun k2_43 k3_43 sk_k43 sb_k43 sn_k43 H locs ls h hh hl => ?_) n r1 (sk.2.1 5) sk sb_2 sn _ _ _ h hh (lv_sub hl [3, 2, 1, 0] rfl)
  refine lv_iload_n hx hb dX7_shorten_43 rfl (lv_at hl 1 rfl) ?_
  refine lv_if_gt (tgt := 49) hx hb dX7_shorten_44 (by decide) (fun c7 => ?_) (fun c7 => ?_)
  · have h := h.1 c7
    refine lv_aload_n hx hb dX7_shorten_49 rfl (lv_at hl 0 rfl) ?_
    refine G_X7_25 [] [_, _] hx hb hT hown hK hh dX7_shorten_50 ?_
    refine lv_aload_n hx hb dX7_shorten_53 rfl (lv_at hl 0 rfl) ?_
    refine G_X7_21 [] [_, _] hx hb hT hown hK hh dX7_shorten_54 ?_
    have hc := hh.cut [_, _] [_] [2, 1, 0] 3 rfl (by decide) rfl
    refine kV hc hA (rnVN hx hb hml hown hT hK hc (c_X8_copy l D E (ad 10) (ad 9)  sn_k43 sb_k43  h _) mf_X8_copy nml_X7_39 ⟨rfl, rfl, Nat.le_of_ble_eq_true rfl, Nat.le_of_ble_eq_true rfl⟩ ⟨Nat.le_of_ble_eq_true rfl, Nat.le_of_ble_eq_true rfl⟩ 8 0 rfl rfl hl.1 rfl dX7_shorten_57 (Nat.le_of_ble_eq_true rfl) rfl) (fun u H locs h hh => ?_)
    obtain ⟨sn_9, sb_10⟩ := u
    have hh : Wh D A s.heap ((List.flatten [bX7 ad E sk_k43, bX8 (ad 9) E sb_10, bX8 (ad 10) E sn_9])) _ _ := Wh.back (cs := [_, _]) (rs := [_]) _ [2, 1, 0] 3 rfl (by decide) rfl hh
    refine lv_aload_n hx hb dX7_shorten_60 rfl (lv_at hl 0 rfl) ?_
    refine G_X7_25 [] [_, _] hx hb hT hown hK hh dX7_shorten_61 ?_
    refine lv_aload_n hx hb dX7_shorten_64 rfl (lv_at hl 0 rfl) ?_
    refine G_X7_28 [] [_, _] hx hb hT hown hK hh (v := sk_k43.2.1 4) rfl dX7_shorten_65 ?_
    refine lv_iload_n hx hb dX7_shorten_68 rfl (lv_at hl 2 rfl) ?_
    refine lv_iload_n hx hb dX7_shorten_69 rfl (lv_at hl 1 rfl) ?_
    refine lv_imul hx hb dX7_shorten_70 ?_
    refine lv_iload_n hx hb dX7_shorten_71 rfl (lv_at hl 1 rfl) ?_
    have hc := hh.cut [_] [_, _] [2, 0, 1] 3 rfl (by decide) rfl
    refine kV hc hA (rnVN hx hb hml hown hT hK hc (c_X8_dropFromRow l D E (ad 10)  sn_9 (sk_k43.2.1 4) (k3_43 * k2_43) k2_43 h _) mf_X8_dropFromRow nml_X7_78 ⟨rfl, rfl, Nat.le_of_ble_eq_true rfl, Nat.le_of_ble_eq_true rfl⟩ ⟨Nat.le_of_ble_eq_true rfl, Nat.le_of_ble_eq_true rfl⟩ 8 0 rfl rfl hl.1 rfl dX7_shorten_72 (Nat.le_of_ble_eq_true rfl) rfl) (fun sn_12 H locs h hh => ?_)
    have hh : Wh D A s.heap ((List.flatten [bX7 ad E sk_k43, bX8 (ad 9) E sb_10, bX8 (ad 10) E sn_12])) _ _ := Wh.back (cs := [_]) (rs := [_, _]) _ [1, 2, 0] 3 rfl (by decide) rfl hh
    refine lv_iconst (v := 1) hx hb dX7_shorten_75 (by decide) ?_
    exact hret _ _ _ _ _ (sk_k43, sb_10, sn_12) dX7_shorten_76 rfl h hh
  · have h := h.2 c7
    refine lv_iconst (v := 0) hx hb dX7_shorten_47 (by decide) ?_
    exact hret _ _ _ _ _ (sk_k43, sb_k43, sn_k43) dX7_shorten_48 rfl h hh

def w_X7_exchangeWithNext  (sk : Ob) (sb : Ob) (sn : Ob) (Post : Int32 → Ob → Ob → Ob → Prop) : Prop := w_X8_kind  ((sk.2.1 4) + 1) sb (fun (r1 : Int32) (sb_2 : Ob) => ((¬ r1 = 8) → Post 0 sk sb_2 sn) ∧ ((r1 = 8) → w_X8_value  (sk.2.1 4) sb_2 (fun (r4 : Int32) (sb_5 : Ob) => w_X8_value  ((sk.2.1 4) + 1) sb_5 (fun (r6 : Int32) (sb_7 : Ob) => ((r6 < r4) → w_X8_copy   sn sb_7 (fun (sn_10 : Ob) (sb_11 : Ob) => w_X8_exchange  (sk.2.1 4) ((sk.2.1 4) + 1) sn_10 (fun (sn_13 : Ob) => Post 1 sk sb_11 sn_13))) ∧ (¬ (r6 < r4) → Post 0 sk sb_7 sn)))))
set_option maxRecDepth 100000 in
set_option maxHeartbeats 4000000 in
theorem c_X7_exchangeWithNext (l : Launch) (D : va_G) (E : Nat → ClassId) (ad : Nat → Nat → Nat)  (sk : Ob) (sb : Ob) (sn : Ob)  {Post : Int32 → Ob → Ob → Ob → Prop} (h : w_X7_exchangeWithNext  sk sb sn Post) : CtI l yX7_exchangeWithNext cX7_exchangeWithNext 1 .boolean ({ frames := 3, cells := 0, slots := 0, locals := 66 } : Room) D E [.ref (ad 7 0)] (List.flatten [bX7 ad E sk, bX8 (ad 9) E sb, bX8 (ad 10) E sn]) (fun u : Ob × Ob × Ob => List.flatten [bX7 ad E u.1, bX8 (ad 9) E u.2.1, bX8 (ad 10) E u.2.2]) (fun (r : Int32) (u : Ob × Ob × Ob) => Post r u.1 u.2.1 u.2.2) 0 0 := by
  refine enI (by decide +kernel) (Nat.le_of_ble_eq_true rfl) ?_
  intro p e s m args below meth c Q A ls hx hb hml hown hT hK hA hret hh hl
  have hl : lv_has ls 1 [(0, .ref (ad 7 0))] := hl
  unfold w_X7_exchangeWithNext at h
  refine lv_aload_n hx hb dX7_exchangeWithNext_0 rfl (lv_at hl 0 rfl) ?_
  refine G_X7_21 [] [_, _] hx hb hT hown hK hh dX7_exchangeWithNext_1 ?_
  refine lv_aload_n hx hb dX7_exchangeWithNext_4 rfl (lv_at hl 0 rfl) ?_
  refine G_X7_28 [] [_, _] hx hb hT hown hK hh (v := sk.2.1 4) rfl dX7_exchangeWithNext_5 ?_
  refine lv_iconst (v := 1) hx hb dX7_exchangeWithNext_8 (by decide) ?_
  refine lv_iadd hx hb dX7_exchangeWithNext_9 ?_
  have hc := hh.cut [_] [_, _] [1, 0, 2] 3 rfl (by decide) rfl
  refine kI hc hA (rnVN hx hb hml hown hT hK hc (c_X8_kind l D E (ad 9)  sb ((sk.2.1 4) + 1) h _) mf_X8_kind nml_X7_55 ⟨rfl, rfl, Nat.le_of_ble_eq_true rfl, Nat.le_of_ble_eq_true rfl⟩ ⟨Nat.le_of_ble_eq_true rfl, Nat.le_of_ble_eq_true rfl⟩ 8 0 rfl rfl hl.1 rfl dX7_exchangeWithNext_10 (Nat.le_of_ble_eq_true rfl) rfl) (fun r1 sb_2 H locs h hh => ?_)
  have hh : Wh D A s.heap ((List.flatten [bX7 ad E sk, bX8 (ad 9) E sb_2, bX8 (ad 10) E sn])) _ _ := Wh.back (cs := [_]) (rs := [_, _]) _ [1, 0, 2] 3 rfl (by decide) rfl hh
  refine lv_bipush (v := 8) hx hb dX7_exchangeWithNext_13 (by decide) ?_
  refine lv_icmp_ne (tgt := 45) hx hb dX7_exchangeWithNext_15 (by decide) (fun c3 => ?_) (fun c3 => ?_)
  · have h := h.1 c3
    refine lv_iconst (v := 0) hx hb dX7_exchangeWithNext_45 (by decide) ?_
    exact hret _ _ _ _ _ (sk, sb_2, sn) dX7_exchangeWithNext_46 rfl h hh
  · have h := h.2 c3
    refine lv_aload_n hx hb dX7_exchangeWithNext_18 rfl (lv_at hl 0 rfl) ?_
    refine G_X7_21 [] [_, _] hx hb hT hown hK hh dX7_exchangeWithNext_19 ?_
    refine lv_aload_n hx hb dX7_exchangeWithNext_22 rfl (lv_at hl 0 rfl) ?_
    refine G_X7_28 [] [_, _] hx hb hT hown hK hh (v := sk.2.1 4) rfl dX7_exchangeWithNext_23 ?_
    have hc := hh.cut [_] [_, _] [1, 0, 2] 3 rfl (by decide) rfl
    refine kI hc hA (rnVN hx hb hml hown hT hK hc (c_X8_value l D E (ad 9)  sb_2 (sk.2.1 4) h _) mf_X8_value nml_X7_68 ⟨rfl, rfl, Nat.le_of_ble_eq_true rfl, Nat.le_of_ble_eq_true rfl⟩ ⟨Nat.le_of_ble_eq_true rfl, Nat.le_of_ble_eq_true rfl⟩ 8 0 rfl rfl hl.1 rfl dX7_exchangeWithNext_26 (Nat.le_of_ble_eq_true rfl) rfl) (fun r4 sb_5 H locs h hh => ?_)
    have hh : Wh D A s.heap ((List.flatten [bX7 ad E sk, bX8 (ad 9) E sb_5, bX8 (ad 10) E sn])) _ _ := Wh.back (cs := [_]) (rs := [_, _]) _ [1, 0, 2] 3 rfl (by decide) rfl hh
    refine lv_aload_n hx hb dX7_exchangeWithNext_29 rfl (lv_at hl 0 rfl) ?_
    refine G_X7_21 [] [_, _] hx hb hT hown hK hh dX7_exchangeWithNext_30 ?_
    refine lv_aload_n hx hb dX7_exchangeWithNext_33 rfl (lv_at hl 0 rfl) ?_
    refine G_X7_28 [] [_, _] hx hb hT hown hK hh (v := sk.2.1 4) rfl dX7_exchangeWithNext_34 ?_
    refine lv_iconst (v := 1) hx hb dX7_exchangeWithNext_37 (by decide) ?_
    refine lv_iadd hx hb dX7_exchangeWithNext_38 ?_
    have hc := hh.cut [_] [_, _] [1, 0, 2] 3 rfl (by decide) rfl
    refine kI hc hA (rnVN hx hb hml hown hT hK hc (c_X8_value l D E (ad 9)  sb_5 ((sk.2.1 4) + 1) h _) mf_X8_value nml_X7_68 ⟨rfl, rfl, Nat.le_of_ble_eq_true rfl, Nat.le_of_ble_eq_true rfl⟩ ⟨Nat.le_of_ble_eq_true rfl, Nat.le_of_ble_eq_true rfl⟩ 8 0 rfl rfl hl.1 rfl dX7_exchangeWithNext_39 (Nat.le_of_ble_eq_true rfl) rfl) (fun r6 sb_7 H locs h hh => ?_)
    have hh : Wh D A s.heap ((List.flatten [bX7 ad E sk, bX8 (ad 9) E sb_7, bX8 (ad 10) E sn])) _ _ := Wh.back (cs := [_]) (rs := [_, _]) _ [1, 0, 2] 3 rfl (by decide) rfl hh
    refine lv_icmp_gt (tgt := 47) hx hb dX7_exchangeWithNext_42 (by decide) (fun c8 => ?_) (fun c8 => ?_)
    · have h := h.1 c8
      refine lv_aload_n hx hb dX7_exchangeWithNext_47 rfl (lv_at hl 0 rfl) ?_
      refine G_X7_25 [] [_, _] hx hb hT hown hK hh dX7_exchangeWithNext_48 ?_
      refine lv_aload_n hx hb dX7_exchangeWithNext_51 rfl (lv_at hl 0 rfl) ?_
      refine G_X7_21 [] [_, _] hx hb hT hown hK hh dX7_exchangeWithNext_52 ?_
      have hc := hh.cut [_, _] [_] [2, 1, 0] 3 rfl (by decide) rfl
      refine kV hc hA (rnVN hx hb hml hown hT hK hc (c_X8_copy l D E (ad 10) (ad 9)  sn sb_7  h _) mf_X8_copy nml_X7_39 ⟨rfl, rfl, Nat.le_of_ble_eq_true rfl, Nat.le_of_ble_eq_true rfl⟩ ⟨Nat.le_of_ble_eq_true rfl, Nat.le_of_ble_eq_true rfl⟩ 8 0 rfl rfl hl.1 rfl dX7_exchangeWithNext_55 (Nat.le_of_ble_eq_true rfl) rfl) (fun u H locs h hh => ?_)
      obtain ⟨sn_10, sb_11⟩ := u
      have hh : Wh D A s.heap ((List.flatten [bX7 ad E sk, bX8 (ad 9) E sb_11, bX8 (ad 10) E sn_10])) _ _ := Wh.back (cs := [_, _]) (rs := [_]) _ [2, 1, 0] 3 rfl (by decide) rfl hh
      refine lv_aload_n hx hb dX7_exchangeWithNext_58 rfl (lv_at hl 0 rfl) ?_
      refine G_X7_25 [] [_, _] hx hb hT hown hK hh dX7_exchangeWithNext_59 ?_
      refine lv_aload_n hx hb dX7_exchangeWithNext_62 rfl (lv_at hl 0 rfl) ?_
      refine G_X7_28 [] [_, _] hx hb hT hown hK hh (v := sk.2.1 4) rfl dX7_exchangeWithNext_63 ?_
      refine lv_aload_n hx hb dX7_exchangeWithNext_66 rfl (lv_at hl 0 rfl) ?_
      refine G_X7_28 [] [_, _] hx hb hT hown hK hh (v := sk.2.1 4) rfl dX7_exchangeWithNext_67 ?_
      refine lv_iconst (v := 1) hx hb dX7_exchangeWithNext_70 (by decide) ?_
      refine lv_iadd hx hb dX7_exchangeWithNext_71 ?_
      have hc := hh.cut [_] [_, _] [2, 0, 1] 3 rfl (by decide) rfl
      refine kV hc hA (rnVN hx hb hml hown hT hK hc (c_X8_exchange l D E (ad 10)  sn_10 (sk.2.1 4) ((sk.2.1 4) + 1) h _) mf_X8_exchange nml_X7_82 ⟨rfl, rfl, Nat.le_of_ble_eq_true rfl, Nat.le_of_ble_eq_true rfl⟩ ⟨Nat.le_of_ble_eq_true rfl, Nat.le_of_ble_eq_true rfl⟩ 8 0 rfl rfl hl.1 rfl dX7_exchangeWithNext_72 (Nat.le_of_ble_eq_true rfl) rfl) (fun sn_13 H locs h hh => ?_)
      have hh : Wh D A s.heap ((List.flatten [bX7 ad E sk, bX8 (ad 9) E sb_11, bX8 (ad 10) E sn_13])) _ _ := Wh.back (cs := [_]) (rs := [_, _]) _ [1, 2, 0] 3 rfl (by decide) rfl hh
      refine lv_iconst (v := 1) hx hb dX7_exchangeWithNext_75 (by decide) ?_
      exact hret _ _ _ _ _ (sk, sb_11, sn_13) dX7_exchangeWithNext_76 rfl h hh
    · have h := h.2 c8
      refine lv_iconst (v := 0) hx hb dX7_exchangeWithNext_45 (by decide) ?_
      exact hret _ _ _ _ _ (sk, sb_7, sn) dX7_exchangeWithNext_46 rfl h hh

def w_X7_edit  (sk : Ob) (sb : Ob) (sn : Ob) (Post : Int32 → Ob → Ob → Ob → Prop) : Prop := w_X8_kind  (sk.2.1 4) sb (fun (r1 : Int32) (sb_2 : Ob) => ((r1 = 0 ∨ r1 = 9) → w_X7_moveNearer   sk sb_2 sn (fun (r3 : Int32) (sk_4 : Ob) (sb_5 : Ob) (sn_6 : Ob) => (r3 = 0 ∨ r3 = 1) ∧ (Post r3 sk_4 sb_5 sn_6))) ∧ ((r1 = 1) → w_X7_shorten   sk sb_2 sn (fun (r9 : Int32) (sk_10 : Ob) (sb_11 : Ob) (sn_12 : Ob) => (r9 = 0 ∨ r9 = 1) ∧ (Post r9 sk_10 sb_11 sn_12))) ∧ ((r1 = 8) → ((¬ (sk.2.1 5) = 0) → Post 0 sk sb_2 sn) ∧ (((sk.2.1 5) = 0) → w_X7_exchangeWithNext   sk sb_2 sn (fun (r16 : Int32) (sk_17 : Ob) (sb_18 : Ob) (sn_19 : Ob) => ((r16 = 0) → Post 0 sk_17 sb_18 sn_19) ∧ (¬ (r16 = 0) → Post 1 sk_17 sb_18 sn_19)))) ∧ ((¬ r1 = 0 ∧ ¬ r1 = 9 ∧ ¬ r1 = 1 ∧ ¬ r1 = 8) → Post 0 sk sb_2 sn))
set_option maxRecDepth 100000 in
set_option maxHeartbeats 4000000 in
theorem c_X7_edit (l : Launch) (D : va_G) (E : Nat → ClassId) (ad : Nat → Nat → Nat)  (sk : Ob) (sb : Ob) (sn : Ob)  {Post : Int32 → Ob → Ob → Ob → Prop} (h : w_X7_edit  sk sb sn Post) : CtI l yX7_edit cX7_edit 1 .boolean ({ frames := 4, cells := 0, slots := 0, locals := 92 } : Room) D E [.ref (ad 7 0)] (List.flatten [bX7 ad E sk, bX8 (ad 9) E sb, bX8 (ad 10) E sn]) (fun u : Ob × Ob × Ob => List.flatten [bX7 ad E u.1, bX8 (ad 9) E u.2.1, bX8 (ad 10) E u.2.2]) (fun (r : Int32) (u : Ob × Ob × Ob) => Post r u.1 u.2.1 u.2.2) 0 0 := by
  refine enI (by decide +kernel) (Nat.le_of_ble_eq_true rfl) ?_
  intro p e s m args below meth c Q A ls hx hb hml hown hT hK hA hret hh hl
  have hl : lv_has ls 1 [(0, .ref (ad 7 0))] := hl
  unfold w_X7_edit at h
  refine lv_aload_n hx hb dX7_edit_0 rfl (lv_at hl 0 rfl) ?_
  refine G_X7_21 [] [_, _] hx hb hT hown hK hh dX7_edit_1 ?_
  refine lv_aload_n hx hb dX7_edit_4 rfl (lv_at hl 0 rfl) ?_
  refine G_X7_28 [] [_, _] hx hb hT hown hK hh (v := sk.2.1 4) rfl dX7_edit_5 ?_
  have hc := hh.cut [_] [_, _] [1, 0, 2] 3 rfl (by decide) rfl
  refine kI hc hA (rnVN hx hb hml hown hT hK hc (c_X8_kind l D E (ad 9)  sb (sk.2.1 4) h _) mf_X8_kind nml_X7_55 ⟨rfl, rfl, Nat.le_of_ble_eq_true rfl, Nat.le_of_ble_eq_true rfl⟩ ⟨Nat.le_of_ble_eq_true rfl, Nat.le_of_ble_eq_true rfl⟩ 8 0 rfl rfl hl.1 rfl dX7_edit_8 (Nat.le_of_ble_eq_true rfl) rfl) (fun r1 sb_2 H locs h hh => ?_)
  have hh : Wh D A s.heap ((List.flatten [bX7 ad E sk, bX8 (ad 9) E sb_2, bX8 (ad 10) E sn])) _ _ := Wh.back (cs := [_]) (rs := [_, _]) _ [1, 0, 2] 3 rfl (by decide) rfl hh
  by_cases c8 : r1 = 0 ∨ r1 = 9
  · have h := h.1 c8
    refine q_swIn (tgt := 64) (off := 53) hx hb dX7_edit_11 (by rcases c8 with c8 | c8 <;> rw [c8] <;> decide) (by decide) ?_
    refine lv_aload_n hx hb dX7_edit_64 rfl (lv_at hl 0 rfl) ?_
    refine kI hh.ap0 hA (rnV hx hb hml hown hT hK hh.ap0 (c_X7_moveNearer l D E ad  sk sb_2 sn  h _) mf_X7_moveNearer kml_X7_59 ⟨rfl, rfl, Nat.le_of_ble_eq_true rfl, Nat.le_of_ble_eq_true rfl⟩ ⟨Nat.le_of_ble_eq_true rfl, Nat.le_of_ble_eq_true rfl⟩ 7 0 rfl rfl hl.1 rfl dX7_edit_65 (Nat.le_of_ble_eq_true rfl) rfl) (fun r3 u H locs h hh => ?_)
    obtain ⟨sk_4, sb_5, sn_6⟩ := u
    have hh : Wh D A s.heap ((List.flatten [bX7 ad E sk_4, bX8 (ad 9) E sb_5, bX8 (ad 10) E sn_6])) _ _ := hh.un0
    obtain ⟨g7, h⟩ := h
    exact hret _ _ _ _ _ (sk_4, sb_5, sn_6) dX7_edit_68 (bool_nar g7) h hh
  · by_cases c14 : r1 = 1
    · have h := h.2.1 c14
      refine lv_tableIn (off := 58) (tgt := 69) hx hb dX7_edit_11 (by rw [c14]; decide) (by rw [c14]; decide) (by rw [c14]; rfl) (by decide) ?_
      refine lv_aload_n hx hb dX7_edit_69 rfl (lv_at hl 0 rfl) ?_
      refine kI hh.ap0 hA (rnV hx hb hml hown hT hK hh.ap0 (c_X7_shorten l D E ad  sk sb_2 sn  h _) mf_X7_shorten kml_X7_62 ⟨rfl, rfl, Nat.le_of_ble_eq_true rfl, Nat.le_of_ble_eq_true rfl⟩ ⟨Nat.le_of_ble_eq_true rfl, Nat.le_of_ble_eq_true rfl⟩ 7 0 rfl rfl hl.1 rfl dX7_edit_70 (Nat.le_of_ble_eq_true rfl) rfl) (fun r9 u H locs h hh => ?_)
      obtain ⟨sk_10, sb_11, sn_12⟩ := u
      have hh : Wh D A s.heap ((List.flatten [bX7 ad E sk_10, bX8 (ad 9) E sb_11, bX8 (ad 10) E sn_12])) _ _ := hh.un0
      obtain ⟨g13, h⟩ := h
      exact hret _ _ _ _ _ (sk_10, sb_11, sn_12) dX7_edit_73 (bool_nar g13) h hh
    · by_cases c21 : r1 = 8
      · have h := h.2.2.1 c21
        refine lv_tableIn (off := 63) (tgt := 74) hx hb dX7_edit_11 (by rw [c21]; decide) (by rw [c21]; decide) (by rw [c21]; rfl) (by decide) ?_
        refine lv_aload_n hx hb dX7_edit_74 rfl (lv_at hl 0 rfl) ?_
        refine G_X7_32 [] [_, _] hx hb hT hown hK hh (v := sk.2.1 5) rfl dX7_edit_75 ?_
        refine lv_if_ne (tgt := 92) hx hb dX7_edit_78 (by decide) (fun c15 => ?_) (fun c15 => ?_)
        · have h := h.1 c15
          refine lv_iconst (v := 0) hx hb dX7_edit_92 (by decide) ?_
          exact hret _ _ _ _ _ (sk, sb_2, sn) dX7_edit_93 rfl h hh
        · have h := h.2 c15
          refine lv_aload_n hx hb dX7_edit_81 rfl (lv_at hl 0 rfl) ?_
          refine kI hh.ap0 hA (rnV hx hb hml hown hT hK hh.ap0 (c_X7_exchangeWithNext l D E ad  sk sb_2 sn  h _) mf_X7_exchangeWithNext kml_X7_65 ⟨rfl, rfl, Nat.le_of_ble_eq_true rfl, Nat.le_of_ble_eq_true rfl⟩ ⟨Nat.le_of_ble_eq_true rfl, Nat.le_of_ble_eq_true rfl⟩ 7 0 rfl rfl hl.1 rfl dX7_edit_82 (Nat.le_of_ble_eq_true rfl) rfl) (fun r16 u H locs h hh => ?_)
          obtain ⟨sk_17, sb_18, sn_19⟩ := u
          have hh : Wh D A s.heap ((List.flatten [bX7 ad E sk_17, bX8 (ad 9) E sb_18, bX8 (ad 10) E sn_19])) _ _ := hh.un0
          refine lv_if_eq (tgt := 92) hx hb dX7_edit_85 (by decide) (fun c20 => ?_) (fun c20 => ?_)
          · have h := h.1 c20
            refine lv_iconst (v := 0) hx hb dX7_edit_92 (by decide) ?_
            exact hret _ _ _ _ _ (sk_17, sb_18, sn_19) dX7_edit_93 rfl h hh
          · have h := h.2 c20
            refine lv_iconst (v := 1) hx hb dX7_edit_88 (by decide) ?_
            refine lv_goto (tgt := 93) hx hb dX7_edit_89 (by decide) ?_
            exact hret _ _ _ _ _ (sk_17, sb_18, sn_19) dX7_edit_93 rfl h hh
      · have h := h.2.2.2 ⟨(fun z => c8 (Or.inl z)), (fun z => c8 (Or.inr (z))), c14, c21⟩
        refine q_swD (tgt := 94) hx hb dX7_edit_11 (fun i h1 h2 he => (show i = 0 ∨ i = 1 ∨ i = 2 ∨ i = 3 ∨ i = 4 ∨ i = 5 ∨ i = 6 ∨ i = 7 ∨ i = 8 ∨ i = 9 by omega).elim (fun z => absurd (q_oi he z (by decide)) (fun z => c8 (Or.inl z))) (fun z => z.elim (fun z => absurd (q_oi he z (by decide)) c14) (fun z => z.elim (fun z => by rw [z]; rfl) (fun z => z.elim (fun z => by rw [z]; rfl) (fun z => z.elim (fun z => by rw [z]; rfl) (fun z => z.elim (fun z => by rw [z]; rfl) (fun z => z.elim (fun z => by rw [z]; rfl) (fun z => z.elim (fun z => by rw [z]; rfl) (fun z => z.elim (fun z => absurd (q_oi he z (by decide)) c21) (fun z => absurd (q_oi he z (by decide)) (fun z => c8 (Or.inr (z))))))))))))) (by decide) ?_
        refine lv_iconst (v := 0) hx hb dX7_edit_94 (by decide) ?_
        exact hret _ _ _ _ _ (sk, sb_2, sn) dX7_edit_95 rfl h hh

def w_X7_lowerRest (x1 : Int32) (sk : Ob) (sl : Ob) (sn : Ob) (Post : Ob → Ob → Ob → Prop) : Prop := w_X8_end  x1 sn (fun (r1 : Int32) (sn_2 : Ob) => w_X8_gather  x1 r1 sn_2 sl (fun (sn_4 : Ob) (sl_5 : Ob) => w_X8_value  r1 sn_4 (fun (r6 : Int32) (sn_7 : Ob) => w_X2_sum   sl_5 (fun (r8 : Int32) (sl_9 : Ob) => w_J9_max_7cf53  (0 : Int32) r8  (fun (r10 : Int32) => ((r6 ≤ r10) → Post sk sl_9 sn_7) ∧ (¬ (r6 ≤ r10) → w_X8_setValue  r1 (0 : Int32) sn_7 (fun (sn_13 : Ob) => Post sk sl_9 sn_13)))))))
set_option maxRecDepth 100000 in
set_option maxHeartbeats 4000000 in
theorem c_X7_lowerRest (l : Launch) (D : va_G) (E : Nat → ClassId) (ad : Nat → Nat → Nat)  (sk : Ob) (sl : Ob) (sn : Ob) (x1 : Int32) {Post : Ob → Ob → Ob → Prop} (h : w_X7_lowerRest x1 sk sl sn Post) : CtV l yX7_lowerRest cX7_lowerRest 3 ({ frames := 3, cells := 0, slots := 0, locals := 77 } : Room) D E [.ref (ad 7 0), .int (x1)] (List.flatten [bX7 ad E sk, bX2 (ad 8) E sl, bX8 (ad 10) E sn]) (fun u : Ob × Ob × Ob => List.flatten [bX7 ad E u.1, bX2 (ad 8) E u.2.1, bX8 (ad 10) E u.2.2]) (fun u : Ob × Ob × Ob => Post u.1 u.2.1 u.2.2) 0 0 := by
  refine enV (by decide +kernel) (Nat.le_of_ble_eq_true rfl) ?_
  intro p e s m args below meth c Q A ls hx hb hml hown hT hK hA hin0 hret hh hl
  have hl : lv_has ls 3 [(0, .ref (ad 7 0)), (1, .int (x1))] := hl
  unfold w_X7_lowerRest at h
  refine lv_aload_n hx hb dX7_lowerRest_0 rfl (lv_at hl 0 rfl) ?_
  refine G_X7_25 [] [_, _] hx hb hT hown hK hh dX7_lowerRest_1 ?_
  refine lv_iload_n hx hb dX7_lowerRest_4 rfl (lv_at hl 1 rfl) ?_
  have hc := hh.cut [_] [_, _] [2, 0, 1] 3 rfl (by decide) rfl
  refine kI hc hA (rnVN hx hb hml hown hT hK hc (c_X8_end l D E (ad 10)  sn x1 h _) mf_X8_end nml_X7_97 ⟨rfl, rfl, Nat.le_of_ble_eq_true rfl, Nat.le_of_ble_eq_true rfl⟩ ⟨Nat.le_of_ble_eq_true rfl, Nat.le_of_ble_eq_true rfl⟩ 8 0 rfl rfl hl.1 rfl dX7_lowerRest_5 (Nat.le_of_ble_eq_true rfl) rfl) (fun r1 sn_2 H locs h hh => ?_)
  have hh : Wh D A s.heap ((List.flatten [bX7 ad E sk, bX2 (ad 8) E sl, bX8 (ad 10) E sn_2])) _ _ := Wh.back (cs := [_]) (rs := [_, _]) _ [1, 2, 0] 3 rfl (by decide) rfl hh
  refine lv_istore_n (lv' := [(2, .int (r1)), (0, .ref (ad 7 0)), (1, .int (x1))]) hx hb dX7_lowerRest_8 rfl hl (by decide) rfl (fun ls hl => ?_)
  refine lv_aload_n hx hb dX7_lowerRest_9 rfl (lv_at hl 1 rfl) ?_
  refine G_X7_25 [] [_, _] hx hb hT hown hK hh dX7_lowerRest_10 ?_
  refine lv_iload_n hx hb dX7_lowerRest_13 rfl (lv_at hl 2 rfl) ?_
  refine lv_iload_n hx hb dX7_lowerRest_14 rfl (lv_at hl 0 rfl) ?_
  refine lv_aload_n hx hb dX7_lowerRest_15 rfl (lv_at hl 1 rfl) ?_
  refine G_X7_12 [] [_, _] hx hb hT hown hK hh dX7_lowerRest_16 ?_
  have hc := hh.cut [_, _] [_] [2, 1, 0] 3 rfl (by decide) rfl
  refine kV hc hA (rnVN hx hb hml hown hT hK hc (c_X8_gather l D E (ad 10) (ad 8)  sn_2 sl x1 r1 h _) mf_X8_gather nml_X7_100 ⟨rfl, rfl, Nat.le_of_ble_eq_true rfl, Nat.le_of_ble_eq_true rfl⟩ ⟨Nat.le_of_ble_eq_true rfl, Nat.le_of_ble_eq_true rfl⟩ 8 0 rfl rfl hl.1 rfl dX7_lowerRest_19 (Nat.le_of_ble_eq_true rfl) rfl) (fun u H locs h hh => ?_)
  obtain ⟨sn_4, sl_5⟩ := u
  have hh : Wh D A s.heap ((List.flatten [bX7 ad E sk, bX2 (ad 8) E sl_5, bX8 (ad 10) E sn_4])) _ _ := Wh.back (cs := [_, _]) (rs := [_]) _ [2, 1, 0] 3 rfl (by decide) rfl hh
  refine lv_aload_n hx hb dX7_lowerRest_22 rfl (lv_at hl 1 rfl) ?_
  refine G_X7_25 [] [_, _] hx hb hT hown hK hh dX7_lowerRest_23 ?_
  refine lv_iload_n hx hb dX7_lowerRest_26 rfl (lv_at hl 0 rfl) ?_
  have hc := hh.cut [_] [_, _] [2, 0, 1] 3 rfl (by decide) rfl
  refine kI hc hA (rnVN hx hb hml hown hT hK hc (c_X8_value l D E (ad 10)  sn_4 r1 h _) mf_X8_value nml_X7_68 ⟨rfl, rfl, Nat.le_of_ble_eq_true rfl, Nat.le_of_ble_eq_true rfl⟩ ⟨Nat.le_of_ble_eq_true rfl, Nat.le_of_ble_eq_true rfl⟩ 8 0 rfl rfl hl.1 rfl dX7_lowerRest_27 (Nat.le_of_ble_eq_true rfl) rfl) (fun r6 sn_7 H locs h hh => ?_)
  have hh : Wh D A s.heap ((List.flatten [bX7 ad E sk, bX2 (ad 8) E sl_5, bX8 (ad 10) E sn_7])) _ _ := Wh.back (cs := [_]) (rs := [_, _]) _ [1, 2, 0] 3 rfl (by decide) rfl hh
  refine lv_iconst (v := 0) hx hb dX7_lowerRest_30 (by decide) ?_
  refine lv_aload_n hx hb dX7_lowerRest_31 rfl (lv_at hl 1 rfl) ?_
  refine G_X7_12 [] [_, _] hx hb hT hown hK hh dX7_lowerRest_32 ?_
  have hc := hh.cut [_] [_, _] [1, 0, 2] 3 rfl (by decide) rfl
  refine kI hc hA (rnVN hx hb hml hown hT hK hc (c_X2_sum l D E (ad 8)  sl_5  h _) mf_X2_sum nml_X7_108 ⟨rfl, rfl, Nat.le_of_ble_eq_true rfl, Nat.le_of_ble_eq_true rfl⟩ ⟨Nat.le_of_ble_eq_true rfl, Nat.le_of_ble_eq_true rfl⟩ 2 0 rfl rfl hl.1 rfl dX7_lowerRest_35 (Nat.le_of_ble_eq_true rfl) rfl) (fun r8 sl_9 H locs h hh => ?_)
  have hh : Wh D A s.heap ((List.flatten [bX7 ad E sk, bX2 (ad 8) E sl_9, bX8 (ad 10) E sn_7])) _ _ := Wh.back (cs := [_]) (rs := [_, _]) _ [1, 0, 2] 3 rfl (by decide) rfl hh
  refine kI hh.none hA (rnS hx hb hml hown hT hK hh.none (c_J9_max_7cf53 l D E    (0 : Int32) r8 h _) mf_J9_max_7cf53 kml_X7_111 ⟨rfl, rfl, Nat.le_of_ble_eq_true rfl, Nat.le_of_ble_eq_true rfl⟩ ⟨Nat.le_of_ble_eq_true rfl, Nat.le_of_ble_eq_true rfl⟩ hl.1 rfl dX7_lowerRest_38 (Nat.le_of_ble_eq_true rfl) rfl) (fun r10 u H locs h hh => ?_)
  have hh : Wh D A s.heap ((List.flatten [bX7 ad E sk, bX2 (ad 8) E sl_9, bX8 (ad 10) E sn_7])) _ _ := hh.unone
  refine lv_icmp_le (tgt := 53) hx hb dX7_lowerRest_41 (by decide) (fun c11 => ?_) (fun c11 => ?_)
  · have h := h.1 c11
    exact hret _ _ _ _ (sk, sl_9, sn_7) dX7_lowerRest_53 h hh
  · have h := h.2 c11
    refine lv_aload_n hx hb dX7_lowerRest_44 rfl (lv_at hl 1 rfl) ?_
    refine G_X7_25 [] [_, _] hx hb hT hown hK hh dX7_lowerRest_45 ?_
    refine lv_iload_n hx hb dX7_lowerRest_48 rfl (lv_at hl 0 rfl) ?_
    refine lv_iconst (v := 0) hx hb dX7_lowerRest_49 (by decide) ?_
    have hc := hh.cut [_] [_, _] [2, 0, 1] 3 rfl (by decide) rfl
    refine kV hc hA (rnVN hx hb hml hown hT hK hc (c_X8_setValue l D E (ad 10)  sn_7 r1 (0 : Int32) h _) mf_X8_setValue nml_X7_74 ⟨rfl, rfl, Nat.le_of_ble_eq_true rfl, Nat.le_of_ble_eq_true rfl⟩ ⟨Nat.le_of_ble_eq_true rfl, Nat.le_of_ble_eq_true rfl⟩ 8 0 rfl rfl hl.1 rfl dX7_lowerRest_50 (Nat.le_of_ble_eq_true rfl) rfl) (fun sn_13 H locs h hh => ?_)
    have hh : Wh D A s.heap ((List.flatten [bX7 ad E sk, bX2 (ad 8) E sl_9, bX8 (ad 10) E sn_13])) _ _ := Wh.back (cs := [_]) (rs := [_, _]) _ [1, 2, 0] 3 rfl (by decide) rfl hh
    exact hret _ _ _ _ (sk, sl_9, sn_13) dX7_lowerRest_53 h hh
