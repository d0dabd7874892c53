/-! THE LAW -/
def ux (xs : Nat → Ob) (i : Nat) (ob : Ob) : Nat → Ob := fun k => if k = i then ob else xs k
abbrev LInv : Type := (Nat → Ob) → (Nat → Ob) → (Nat → Ob) → (Nat → Ob) → Ob → Prop
def wL (ad : Nat → Nat → Nat) (a : Nat → Nat) (E : Nat → ClassId) (ck mk pr xs : Nat → Ob) (o : Ob) : List va_W := [bX9 ad E (xs 0), bX1 ad E (xs 1), bX3 (ad 2) E (xs 2), bX3 (ad 3) E (xs 3), bX5 ad E (xs 4), bX8 (ad 5) E (xs 5), bX2 (ad 6) E (xs 6), bX7 ad E (xs 7), bX2 (ad 8) E (xs 8), bX8 (ad 9) E (xs 9), bX8 (ad 10) E (xs 10), bX8 (ad 11) E (xs 11), bX2 (ad 12) E (xs 12), bX8 (ad 13) E (xs 13), bX8 (ad 14) E (xs 14), bX2 (ad 15) E (xs 15), bX10 a E o, dC ad E ck ((xs 1).2.1 1).toNatClampNeg, dK ad E mk ((xs 4).2.1 1).toNatClampNeg, dP ad E pr ((xs 0).2.1 4).toNatClampNeg]
theorem bX7_ag {ad ad' : Nat → Nat → Nat} {E : Nat → ClassId} {o : Ob} (h1 : ad' 1 = ad 1) (h7 : ad' 7 = ad 7) (h8 : ad' 8 = ad 8) (h9 : ad' 9 = ad 9) (h10 : ad' 10 = ad 10) : bX7 ad E o = bX7 ad' E o := by
  unfold bX7; rw [h1, h7, h8, h9, h10]
theorem bX1_ag2 {ad ad' : Nat → Nat → Nat} {E : Nat → ClassId} {o : Ob} (h1 : ad' 1 = ad 1) (h2 : ad' 2 = ad 2) (h3 : ad' 3 = ad 3) (h20 : ad' 20 = ad 20) : bX1 ad E o = bX1 ad' E o := by
  unfold bX1; rw [h1, h2, h3, h20]
theorem bX5_ag2 {ad ad' : Nat → Nat → Nat} {E : Nat → ClassId} {o : Ob} (h1 : ad' 1 = ad 1) (h4 : ad' 4 = ad 4) (h5 : ad' 5 = ad 5) (h6 : ad' 6 = ad 6) (h21 : ad' 21 = ad 21) : bX5 ad E o = bX5 ad' E o := by
  unfold bX5; rw [h1, h4, h5, h6, h21]
theorem dC_ag {ad ad' : Nat → Nat → Nat} {E : Nat → ClassId} {f : Nat → Ob} {n : Nat} (h : ad' 20 = ad 20) : dC ad E f n = dC ad' E f n := by
  unfold dC; rw [h]
theorem dK_ag {ad ad' : Nat → Nat → Nat} {E : Nat → ClassId} {f : Nat → Ob} {n : Nat} (h : ad' 21 = ad 21) : dK ad E f n = dK ad' E f n := by
  unfold dK; rw [h]
theorem bX6_ag {a a' : Nat → Nat} {E : Nat → ClassId} {o : Ob} (h0 : a' 0 = a 0) (h3 : a' 3 = a 3) : bX6 a E o = bX6 a' E o := by
  unfold bX6; rw [h0, h3]
theorem dP_ag {ad ad' : Nat → Nat → Nat} {E : Nat → ClassId} {f : Nat → Ob} {n : Nat} (h : ad' 22 = ad 22) (h3 : ad' 25 = ad 25) : dP ad E f n = dP ad' E f n := by
  unfold dP; rw [List.flatMap_def, List.flatMap_def]; congr 1
  exact List.map_congr_left (fun i _ => bX6_ag (congrFun h i) (congrFun h3 i))
theorem lg_cmp_self (x : Int64) : lg_cmp x x = 0 := by unfold lg_cmp; simp
/-- what stands while the law runs -/
def LC (p : Program) (s : State) (m : MethodId) (c : Code) (D : va_G) (E : Nat → ClassId) (b L : Nat) (xv : Nat → Int32) : Prop := p.tables.exec = Jvm.exec ∧ c.code = code ∧ c.maxLocals = 4 ∧ s.vm.findClass RL = some m.cls ∧ (∀ w ∈ TBL, w.before #[Value.ref b] s = true) ∧ KK D E s ∧ va_X b L xv s s.heap ∧ b < s.heap.size
theorem lw_in {n L k : Nat} (h : n + k < L) (hL : L ≤ 3072) : vp_in (nI n + nI k) L := by rw [nI_add]; exact vp_in_nI h (by omega)
theorem lw_in0 {n L : Nat} (h : n < L) (hL : L ≤ 3072) : vp_in (nI n) L := vp_in_nI h (by omega)
def OK_whole (Inv : LInv) : Prop := ∀ (ck mk pr xs : Nat → Ob) (o : Ob) (v1 : Int32) (v2 : Int32), Inv ck mk pr xs o → w_X9_whole mk v1 v2 (xs 0) (xs 4) (fun (r : Int32) (mk2 : Nat → Ob) (x2 : Ob) (k2 : Ob) => (x2.2.1 4 = (xs 0).2.1 4) ∧ w_X10_whole v1 v2 o (fun (r2 : Int32) (o2 : Ob) => r = r2 ∧ Inv ck mk2 pr (ux (ux xs 0 x2) 4 k2) o2))
set_option maxRecDepth 100000 in
set_option maxHeartbeats 8000000 in
theorem law_whole {p : Program} {l : Launch} {e : Env} {s : State} {m : MethodId} {below : List Frame} {meth : Method} {c : Code} {Q : State → Prop} {D : va_G} {E : Nat → ClassId} {b L : Nat} {xv : Nat → Int32} (Inv : LInv) (hok : OK_whole Inv) (C0 : LC p s m c D E b L xv) (hL : L ≤ 3072) {n : Nat} (hn : n + 6 ≤ L) {ad : Nat → Nat → Nat} {a : Nat → Nat} {ck mk pr xs : Nat → Ob} {o : Ob} {H : Heap} {locs : List Loc} {ls : Array Slot} (hI : Inv ck mk pr xs o) (hh : Wh D (fun q => s.heap.size ≤ q) s.heap (List.flatten (wL ad a E ck mk pr xs o)) H locs) (hl : lv_has ls 4 [(3, .int (nI n)), (0, .ref b), (1, .ref (ad 0 0)), (2, .ref (a 0))])
    (kk : ∀ (ad2 : Nat → Nat → Nat) (ck2 mk2 pr2 xs2 : Nat → Ob) (o2 : Ob) (H : Heap) (locs : List Loc) (ls : Array Slot), Inv ck2 mk2 pr2 xs2 o2 → ad2 0 0 = ad 0 0 → Wh D (fun q => s.heap.size ≤ q) s.heap (List.flatten (wL ad2 a E ck2 mk2 pr2 xs2 o2)) H locs → lv_has ls 4 [(3, .int (nI n)), (0, .ref b), (1, .ref (ad 0 0)), (2, .ref (a 0))] → W p l e room_1 s m #[Value.ref b] below meth c H locs (100 + n + 6) (50000 + 2 * n + 12) Q (F0 m 997 ls [])) :
    W p l e room_1 s m #[Value.ref b] below meth c H locs (100 + n) (50000 + 2 * n) Q (F0 m 140 ls []) := by
  obtain ⟨hx, hb, hml, hown, hT, hK, hX, hbl⟩ := C0
  have hA : ∀ q : Nat, s.heap.size ≤ q → (fun q : Nat => s.heap.size ≤ q) q := fun _ h => h
  have hbA : ¬ (fun q : Nat => s.heap.size ≤ q) b := Nat.not_le.mpr hbl
  have hh : Wh D (fun q => s.heap.size ≤ q) s.heap (List.flatten [bX9 ad E (xs 0), bX1 ad E (xs 1), bX3 (ad 2) E (xs 2), bX3 (ad 3) E (xs 3), bX5 ad E (xs 4), bX8 (ad 5) E (xs 5), bX2 (ad 6) E (xs 6), bX7 ad E (xs 7), bX2 (ad 8) E (xs 8), bX8 (ad 9) E (xs 9), bX8 (ad 10) E (xs 10), bX8 (ad 11) E (xs 11), bX2 (ad 12) E (xs 12), bX8 (ad 13) E (xs 13), bX8 (ad 14) E (xs 14), bX2 (ad 15) E (xs 15), bX10 a E o, dC ad E ck ((xs 1).2.1 1).toNatClampNeg, dK ad E mk ((xs 4).2.1 1).toNatClampNeg, dP ad E pr ((xs 0).2.1 4).toNatClampNeg]) _ _ := hh
  refine lv_aload_n hx hb dL_law_140 rfl (lv_at hl 2 rfl) ?_
  refine lv_aload_n hx hb dL_law_141 rfl (lv_at hl 1 rfl) ?_
  refine lv_iload_n hx hb dL_law_142 rfl (lv_at hl 0 rfl) ?_
  refine lv_iconst (v := 1) hx hb dL_law_143 (by decide) ?_
  refine lv_iadd hx hb dL_law_144 ?_
  refine va_sld hx hb hX hbl hbA hh.2.2 (lw_in (k := 1) (by omega) hL) dL_law_145 ?_
  refine lv_aload_n hx hb dL_law_146 rfl (lv_at hl 1 rfl) ?_
  refine lv_iload_n hx hb dL_law_147 rfl (lv_at hl 0 rfl) ?_
  refine lv_iconst (v := 2) hx hb dL_law_148 (by decide) ?_
  refine lv_iadd hx hb dL_law_149 ?_
  refine va_sld hx hb hX hbl hbA hh.2.2 (lw_in (k := 2) (by omega) hL) dL_law_150 ?_
  have h := hok ck mk pr xs o (xv (nI n + 1).toNatClampNeg) (xv (nI n + 2).toNatClampNeg) hI
  have hc := hh.cut [_, _, _] [_, _, _, _, _, _, _, _, _, _, _, _, _, _, _, _, _] [0, 4, 18, 1, 2, 3, 5, 6, 7, 8, 9, 10, 11, 12, 13, 14, 15, 16, 17, 19] 20 rfl (by decide +kernel) rfl
  refine kI hc hA (rnV hx hb hml hown hT hK hc (c_X9_whole l D E ad mk (xs 0) (xs 4) (xv (nI n + 1).toNatClampNeg) (xv (nI n + 2).toNatClampNeg) h _) mf_X9_whole kml_L_13 ⟨rfl, rfl, Nat.le_of_ble_eq_true rfl, Nat.le_of_ble_eq_true rfl⟩ ⟨by show _ ≤ 600000; omega, by show _ ≤ 7302250; omega⟩ 9 0 rfl rfl hl.1 rfl dL_law_151 (Nat.le_of_ble_eq_true rfl) rfl) (fun r u H locs h hN => ?_)
  obtain ⟨ad2, mk2, x2, k2⟩ := u
  obtain ⟨hag, h⟩ := h
  obtain ⟨g0, h⟩ := h
  rw [← g0] at hN
  have hh : Wh D (fun q => s.heap.size ≤ q) s.heap (List.flatten [bX9 ad2 E x2, bX1 ad E (xs 1), bX3 (ad 2) E (xs 2), bX3 (ad 3) E (xs 3), bX5 ad2 E k2, bX8 (ad 5) E (xs 5), bX2 (ad 6) E (xs 6), bX7 ad E (xs 7), bX2 (ad 8) E (xs 8), bX8 (ad 9) E (xs 9), bX8 (ad 10) E (xs 10), bX8 (ad 11) E (xs 11), bX2 (ad 12) E (xs 12), bX8 (ad 13) E (xs 13), bX8 (ad 14) E (xs 14), bX2 (ad 15) E (xs 15), bX10 a E o, dC ad E ck ((xs 1).2.1 1).toNatClampNeg, dK ad2 E mk2 (k2.2.1 1).toNatClampNeg, dP ad E pr (x2.2.1 4).toNatClampNeg]) _ _ := Wh.back (cs := [_, _, _]) (rs := [_, _, _, _, _, _, _, _, _, _, _, _, _, _, _, _, _]) _ [0, 3, 4, 5, 1, 6, 7, 8, 9, 10, 11, 12, 13, 14, 15, 16, 17, 18, 2, 19] 20 rfl (by decide +kernel) rfl hN
  rw [show bX1 ad E (xs 1) = bX1 ad2 E (xs 1) from bX1_ag2 (hag 1 (by decide)) (hag 2 (by decide)) (hag 3 (by decide)) (hag 20 (by decide)), show ad 2 = ad2 2 from (hag 2 (by decide)).symm, show ad 3 = ad2 3 from (hag 3 (by decide)).symm, show ad 5 = ad2 5 from (hag 5 (by decide)).symm, show ad 6 = ad2 6 from (hag 6 (by decide)).symm, show bX7 ad E (xs 7) = bX7 ad2 E (xs 7) from bX7_ag (hag 1 (by decide)) (hag 7 (by decide)) (hag 8 (by decide)) (hag 9 (by decide)) (hag 10 (by decide)), show ad 8 = ad2 8 from (hag 8 (by decide)).symm, show ad 9 = ad2 9 from (hag 9 (by decide)).symm, show ad 10 = ad2 10 from (hag 10 (by decide)).symm, show ad 11 = ad2 11 from (hag 11 (by decide)).symm, show ad 12 = ad2 12 from (hag 12 (by decide)).symm, show ad 13 = ad2 13 from (hag 13 (by decide)).symm, show ad 14 = ad2 14 from (hag 14 (by decide)).symm, show ad 15 = ad2 15 from (hag 15 (by decide)).symm, show dC ad E ck _ = dC ad2 E ck _ from dC_ag (hag 20 (by decide)), show dP ad E pr _ = dP ad2 E pr _ from dP_ag (hag 22 (by decide)) (hag 25 (by decide))] at hh
  refine lv_aload_n hx hb dL_law_154 rfl (lv_at hl 3 rfl) ?_
  refine lv_aload_n hx hb dL_law_155 rfl (lv_at hl 1 rfl) ?_
  refine lv_iload_n hx hb dL_law_156 rfl (lv_at hl 0 rfl) ?_
  refine lv_iconst (v := 1) hx hb dL_law_157 (by decide) ?_
  refine lv_iadd hx hb dL_law_158 ?_
  refine va_sld hx hb hX hbl hbA hh.2.2 (lw_in (k := 1) (by omega) hL) dL_law_159 ?_
  refine lv_aload_n hx hb dL_law_160 rfl (lv_at hl 1 rfl) ?_
  refine lv_iload_n hx hb dL_law_161 rfl (lv_at hl 0 rfl) ?_
  refine lv_iconst (v := 2) hx hb dL_law_162 (by decide) ?_
  refine lv_iadd hx hb dL_law_163 ?_
  refine va_sld hx hb hX hbl hbA hh.2.2 (lw_in (k := 2) (by omega) hL) dL_law_164 ?_
  have hc := hh.cut [_] [_, _, _, _, _, _, _, _, _, _, _, _, _, _, _, _, _, _, _] [16, 0, 1, 2, 3, 4, 5, 6, 7, 8, 9, 10, 11, 12, 13, 14, 15, 17, 18, 19] 20 rfl (by decide +kernel) rfl
  refine kI hc hA (rnV hx hb hml hown hT hK hc (c_X10_whole l D E a o (xv (nI n + 1).toNatClampNeg) (xv (nI n + 2).toNatClampNeg) h _) mf_X10_whole kml_L_17 ⟨rfl, rfl, Nat.le_of_ble_eq_true rfl, Nat.le_of_ble_eq_true rfl⟩ ⟨by show _ ≤ 600000; omega, by show _ ≤ 7302250; omega⟩ 10 0 rfl rfl hl.1 rfl dL_law_165 (Nat.le_of_ble_eq_true rfl) rfl) (fun r2 o2 H locs h hN => ?_)
  have hh : Wh D (fun q => s.heap.size ≤ q) s.heap (List.flatten [bX9 ad2 E x2, bX1 ad2 E (xs 1), bX3 (ad2 2) E (xs 2), bX3 (ad2 3) E (xs 3), bX5 ad2 E k2, bX8 (ad2 5) E (xs 5), bX2 (ad2 6) E (xs 6), bX7 ad2 E (xs 7), bX2 (ad2 8) E (xs 8), bX8 (ad2 9) E (xs 9), bX8 (ad2 10) E (xs 10), bX8 (ad2 11) E (xs 11), bX2 (ad2 12) E (xs 12), bX8 (ad2 13) E (xs 13), bX8 (ad2 14) E (xs 14), bX2 (ad2 15) E (xs 15), bX10 a E o2, dC ad2 E ck ((xs 1).2.1 1).toNatClampNeg, dK ad2 E mk2 (k2.2.1 1).toNatClampNeg, dP ad2 E pr (x2.2.1 4).toNatClampNeg]) _ _ := Wh.back (cs := [_]) (rs := [_, _, _, _, _, _, _, _, _, _, _, _, _, _, _, _, _, _, _]) _ [1, 2, 3, 4, 5, 6, 7, 8, 9, 10, 11, 12, 13, 14, 15, 16, 0, 17, 18, 19] 20 rfl (by decide +kernel) rfl hN
  obtain ⟨hre, hI⟩ := h
  refine lv_icmp_eq (tgt := 997) hx hb dL_law_168 (by decide) (fun _ => ?_) (fun cc => absurd hre cc)
  refine W.widen (k := 100 + n + 6) (n := 50000 + 2 * n + 12) (by omega) (by omega) ?_
  exact kk ad2 ck mk2 pr (ux (ux xs 0 x2) 4 k2) o2 _ _ _ hI (congrFun (hag 0 (by decide)) 0) hh hl
def OK_listOf (Inv : LInv) : Prop := ∀ (ck mk pr xs : Nat → Ob) (o : Ob) (v1 : Int32) (v2 : Int32), Inv ck mk pr xs o → w_X9_listOf mk v1 v2 (xs 0) (xs 4) (fun (r : Int32) (mk2 : Nat → Ob) (x2 : Ob) (k2 : Ob) => (x2.2.1 4 = (xs 0).2.1 4) ∧ w_X10_listOf v1 v2 o (fun (r2 : Int32) (o2 : Ob) => r = r2 ∧ Inv ck mk2 pr (ux (ux xs 0 x2) 4 k2) o2))
set_option maxRecDepth 100000 in
set_option maxHeartbeats 8000000 in
theorem law_listOf {p : Program} {l : Launch} {e : Env} {s : State} {m : MethodId} {below : List Frame} {meth : Method} {c : Code} {Q : State → Prop} {D : va_G} {E : Nat → ClassId} {b L : Nat} {xv : Nat → Int32} (Inv : LInv) (hok : OK_listOf Inv) (C0 : LC p s m c D E b L xv) (hL : L ≤ 3072) {n : Nat} (hn : n + 6 ≤ L) {ad : Nat → Nat → Nat} {a : Nat → Nat} {ck mk pr xs : Nat → Ob} {o : Ob} {H : Heap} {locs : List Loc} {ls : Array Slot} (hI : Inv ck mk pr xs o) (hh : Wh D (fun q => s.heap.size ≤ q) s.heap (List.flatten (wL ad a E ck mk pr xs o)) H locs) (hl : lv_has ls 4 [(3, .int (nI n)), (0, .ref b), (1, .ref (ad 0 0)), (2, .ref (a 0))])
    (kk : ∀ (ad2 : Nat → Nat → Nat) (ck2 mk2 pr2 xs2 : Nat → Ob) (o2 : Ob) (H : Heap) (locs : List Loc) (ls : Array Slot), Inv ck2 mk2 pr2 xs2 o2 → ad2 0 0 = ad 0 0 → Wh D (fun q => s.heap.size ≤ q) s.heap (List.flatten (wL ad2 a E ck2 mk2 pr2 xs2 o2)) H locs → lv_has ls 4 [(3, .int (nI n)), (0, .ref b), (1, .ref (ad 0 0)), (2, .ref (a 0))] → W p l e room_1 s m #[Value.ref b] below meth c H locs (100 + n + 6) (50000 + 2 * n + 12) Q (F0 m 997 ls [])) :
    W p l e room_1 s m #[Value.ref b] below meth c H locs (100 + n) (50000 + 2 * n) Q (F0 m 173 ls []) := by
  obtain ⟨hx, hb, hml, hown, hT, hK, hX, hbl⟩ := C0
  have hA : ∀ q : Nat, s.heap.size ≤ q → (fun q : Nat => s.heap.size ≤ q) q := fun _ h => h
  have hbA : ¬ (fun q : Nat => s.heap.size ≤ q) b := Nat.not_le.mpr hbl
  have hh : Wh D (fun q => s.heap.size ≤ q) s.heap (List.flatten [bX9 ad E (xs 0), bX1 ad E (xs 1), bX3 (ad 2) E (xs 2), bX3 (ad 3) E (xs 3), bX5 ad E (xs 4), bX8 (ad 5) E (xs 5), bX2 (ad 6) E (xs 6), bX7 ad E (xs 7), bX2 (ad 8) E (xs 8), bX8 (ad 9) E (xs 9), bX8 (ad 10) E (xs 10), bX8 (ad 11) E (xs 11), bX2 (ad 12) E (xs 12), bX8 (ad 13) E (xs 13), bX8 (ad 14) E (xs 14), bX2 (ad 15) E (xs 15), bX10 a E o, dC ad E ck ((xs 1).2.1 1).toNatClampNeg, dK ad E mk ((xs 4).2.1 1).toNatClampNeg, dP ad E pr ((xs 0).2.1 4).toNatClampNeg]) _ _ := hh
  refine lv_aload_n hx hb dL_law_173 rfl (lv_at hl 2 rfl) ?_
  refine lv_aload_n hx hb dL_law_174 rfl (lv_at hl 1 rfl) ?_
  refine lv_iload_n hx hb dL_law_175 rfl (lv_at hl 0 rfl) ?_
  refine lv_iconst (v := 1) hx hb dL_law_176 (by decide) ?_
  refine lv_iadd hx hb dL_law_177 ?_
  refine va_sld hx hb hX hbl hbA hh.2.2 (lw_in (k := 1) (by omega) hL) dL_law_178 ?_
  refine lv_aload_n hx hb dL_law_179 rfl (lv_at hl 1 rfl) ?_
  refine lv_iload_n hx hb dL_law_180 rfl (lv_at hl 0 rfl) ?_
  refine lv_iconst (v := 2) hx hb dL_law_181 (by decide) ?_
  refine lv_iadd hx hb dL_law_182 ?_
  refine va_sld hx hb hX hbl hbA hh.2.2 (lw_in (k := 2) (by omega) hL) dL_law_183 ?_
  have h := hok ck mk pr xs o (xv (nI n + 1).toNatClampNeg) (xv (nI n + 2).toNatClampNeg) hI
  have hc := hh.cut [_, _, _] [_, _, _, _, _, _, _, _, _, _, _, _, _, _, _, _, _] [0, 4, 18, 1, 2, 3, 5, 6, 7, 8, 9, 10, 11, 12, 13, 14, 15, 16, 17, 19] 20 rfl (by decide +kernel) rfl
  refine kI hc hA (rnV hx hb hml hown hT hK hc (c_X9_listOf l D E ad mk (xs 0) (xs 4) (xv (nI n + 1).toNatClampNeg) (xv (nI n + 2).toNatClampNeg) h _) mf_X9_listOf kml_L_18 ⟨rfl, rfl, Nat.le_of_ble_eq_true rfl, Nat.le_of_ble_eq_true rfl⟩ ⟨by show _ ≤ 600000; omega, by show _ ≤ 7302250; omega⟩ 9 0 rfl rfl hl.1 rfl dL_law_184 (Nat.le_of_ble_eq_true rfl) rfl) (fun r u H locs h hN => ?_)
  obtain ⟨ad2, mk2, x2, k2⟩ := u
  obtain ⟨hag, h⟩ := h
  obtain ⟨g0, h⟩ := h
  rw [← g0] at hN
  have hh : Wh D (fun q => s.heap.size ≤ q) s.heap (List.flatten [bX9 ad2 E x2, bX1 ad E (xs 1), bX3 (ad 2) E (xs 2), bX3 (ad 3) E (xs 3), bX5 ad2 E k2, bX8 (ad 5) E (xs 5), bX2 (ad 6) E (xs 6), bX7 ad E (xs 7), bX2 (ad 8) E (xs 8), bX8 (ad 9) E (xs 9), bX8 (ad 10) E (xs 10), bX8 (ad 11) E (xs 11), bX2 (ad 12) E (xs 12), bX8 (ad 13) E (xs 13), bX8 (ad 14) E (xs 14), bX2 (ad 15) E (xs 15), bX10 a E o, dC ad E ck ((xs 1).2.1 1).toNatClampNeg, dK ad2 E mk2 (k2.2.1 1).toNatClampNeg, dP ad E pr (x2.2.1 4).toNatClampNeg]) _ _ := Wh.back (cs := [_, _, _]) (rs := [_, _, _, _, _, _, _, _, _, _, _, _, _, _, _, _, _]) _ [0, 3, 4, 5, 1, 6, 7, 8, 9, 10, 11, 12, 13, 14, 15, 16, 17, 18, 2, 19] 20 rfl (by decide +kernel) rfl hN
  rw [show bX1 ad E (xs 1) = bX1 ad2 E (xs 1) from bX1_ag2 (hag 1 (by decide)) (hag 2 (by decide)) (hag 3 (by decide)) (hag 20 (by decide)), show ad 2 = ad2 2 from (hag 2 (by decide)).symm, show ad 3 = ad2 3 from (hag 3 (by decide)).symm, show ad 5 = ad2 5 from (hag 5 (by decide)).symm, show ad 6 = ad2 6 from (hag 6 (by decide)).symm, show bX7 ad E (xs 7) = bX7 ad2 E (xs 7) from bX7_ag (hag 1 (by decide)) (hag 7 (by decide)) (hag 8 (by decide)) (hag 9 (by decide)) (hag 10 (by decide)), show ad 8 = ad2 8 from (hag 8 (by decide)).symm, show ad 9 = ad2 9 from (hag 9 (by decide)).symm, show ad 10 = ad2 10 from (hag 10 (by decide)).symm, show ad 11 = ad2 11 from (hag 11 (by decide)).symm, show ad 12 = ad2 12 from (hag 12 (by decide)).symm, show ad 13 = ad2 13 from (hag 13 (by decide)).symm, show ad 14 = ad2 14 from (hag 14 (by decide)).symm, show ad 15 = ad2 15 from (hag 15 (by decide)).symm, show dC ad E ck _ = dC ad2 E ck _ from dC_ag (hag 20 (by decide)), show dP ad E pr _ = dP ad2 E pr _ from dP_ag (hag 22 (by decide)) (hag 25 (by decide))] at hh
  refine lv_aload_n hx hb dL_law_187 rfl (lv_at hl 3 rfl) ?_
  refine lv_aload_n hx hb dL_law_188 rfl (lv_at hl 1 rfl) ?_
  refine lv_iload_n hx hb dL_law_189 rfl (lv_at hl 0 rfl) ?_
  refine lv_iconst (v := 1) hx hb dL_law_190 (by decide) ?_
  refine lv_iadd hx hb dL_law_191 ?_
  refine va_sld hx hb hX hbl hbA hh.2.2 (lw_in (k := 1) (by omega) hL) dL_law_192 ?_
  refine lv_aload_n hx hb dL_law_193 rfl (lv_at hl 1 rfl) ?_
  refine lv_iload_n hx hb dL_law_194 rfl (lv_at hl 0 rfl) ?_
  refine lv_iconst (v := 2) hx hb dL_law_195 (by decide) ?_
  refine lv_iadd hx hb dL_law_196 ?_
  refine va_sld hx hb hX hbl hbA hh.2.2 (lw_in (k := 2) (by omega) hL) dL_law_197 ?_
  have hc := hh.cut [_] [_, _, _, _, _, _, _, _, _, _, _, _, _, _, _, _, _, _, _] [16, 0, 1, 2, 3, 4, 5, 6, 7, 8, 9, 10, 11, 12, 13, 14, 15, 17, 18, 19] 20 rfl (by decide +kernel) rfl
  refine kI hc hA (rnV hx hb hml hown hT hK hc (c_X10_listOf l D E a o (xv (nI n + 1).toNatClampNeg) (xv (nI n + 2).toNatClampNeg) h _) mf_X10_listOf kml_L_21 ⟨rfl, rfl, Nat.le_of_ble_eq_true rfl, Nat.le_of_ble_eq_true rfl⟩ ⟨by show _ ≤ 600000; omega, by show _ ≤ 7302250; omega⟩ 10 0 rfl rfl hl.1 rfl dL_law_198 (Nat.le_of_ble_eq_true rfl) rfl) (fun r2 o2 H locs h hN => ?_)
  have hh : Wh D (fun q => s.heap.size ≤ q) s.heap (List.flatten [bX9 ad2 E x2, bX1 ad2 E (xs 1), bX3 (ad2 2) E (xs 2), bX3 (ad2 3) E (xs 3), bX5 ad2 E k2, bX8 (ad2 5) E (xs 5), bX2 (ad2 6) E (xs 6), bX7 ad2 E (xs 7), bX2 (ad2 8) E (xs 8), bX8 (ad2 9) E (xs 9), bX8 (ad2 10) E (xs 10), bX8 (ad2 11) E (xs 11), bX2 (ad2 12) E (xs 12), bX8 (ad2 13) E (xs 13), bX8 (ad2 14) E (xs 14), bX2 (ad2 15) E (xs 15), bX10 a E o2, dC ad2 E ck ((xs 1).2.1 1).toNatClampNeg, dK ad2 E mk2 (k2.2.1 1).toNatClampNeg, dP ad2 E pr (x2.2.1 4).toNatClampNeg]) _ _ := Wh.back (cs := [_]) (rs := [_, _, _, _, _, _, _, _, _, _, _, _, _, _, _, _, _, _, _]) _ [1, 2, 3, 4, 5, 6, 7, 8, 9, 10, 11, 12, 13, 14, 15, 16, 0, 17, 18, 19] 20 rfl (by decide +kernel) rfl hN
  obtain ⟨hre, hI⟩ := h
  refine lv_icmp_eq (tgt := 997) hx hb dL_law_201 (by decide) (fun _ => ?_) (fun cc => absurd hre cc)
  refine W.widen (k := 100 + n + 6) (n := 50000 + 2 * n + 12) (by omega) (by omega) ?_
  exact kk ad2 ck mk2 pr (ux (ux xs 0 x2) 4 k2) o2 _ _ _ hI (congrFun (hag 0 (by decide)) 0) hh hl
def OK_pair (Inv : LInv) : Prop := ∀ (ck mk pr xs : Nat → Ob) (o : Ob) (v1 : Int32) (v2 : Int32), Inv ck mk pr xs o → w_X9_pair mk v1 v2 (xs 0) (xs 4) (fun (r : Int32) (mk2 : Nat → Ob) (x2 : Ob) (k2 : Ob) => (x2.2.1 4 = (xs 0).2.1 4) ∧ w_X10_pair v1 v2 o (fun (r2 : Int32) (o2 : Ob) => r = r2 ∧ Inv ck mk2 pr (ux (ux xs 0 x2) 4 k2) o2))
set_option maxRecDepth 100000 in
set_option maxHeartbeats 8000000 in
theorem law_pair {p : Program} {l : Launch} {e : Env} {s : State} {m : MethodId} {below : List Frame} {meth : Method} {c : Code} {Q : State → Prop} {D : va_G} {E : Nat → ClassId} {b L : Nat} {xv : Nat → Int32} (Inv : LInv) (hok : OK_pair Inv) (C0 : LC p s m c D E b L xv) (hL : L ≤ 3072) {n : Nat} (hn : n + 6 ≤ L) {ad : Nat → Nat → Nat} {a : Nat → Nat} {ck mk pr xs : Nat → Ob} {o : Ob} {H : Heap} {locs : List Loc} {ls : Array Slot} (hI : Inv ck mk pr xs o) (hh : Wh D (fun q => s.heap.size ≤ q) s.heap (List.flatten (wL ad a E ck mk pr xs o)) H locs) (hl : lv_has ls 4 [(3, .int (nI n)), (0, .ref b), (1, .ref (ad 0 0)), (2, .ref (a 0))])
    (kk : ∀ (ad2 : Nat → Nat → Nat) (ck2 mk2 pr2 xs2 : Nat → Ob) (o2 : Ob) (H : Heap) (locs : List Loc) (ls : Array Slot), Inv ck2 mk2 pr2 xs2 o2 → ad2 0 0 = ad 0 0 → Wh D (fun q => s.heap.size ≤ q) s.heap (List.flatten (wL ad2 a E ck2 mk2 pr2 xs2 o2)) H locs → lv_has ls 4 [(3, .int (nI n)), (0, .ref b), (1, .ref (ad 0 0)), (2, .ref (a 0))] → W p l e room_1 s m #[Value.ref b] below meth c H locs (100 + n + 6) (50000 + 2 * n + 12) Q (F0 m 997 ls [])) :
    W p l e room_1 s m #[Value.ref b] below meth c H locs (100 + n) (50000 + 2 * n) Q (F0 m 206 ls []) := by
  obtain ⟨hx, hb, hml, hown, hT, hK, hX, hbl⟩ := C0
  have hA : ∀ q : Nat, s.heap.size ≤ q → (fun q : Nat => s.heap.size ≤ q) q := fun _ h => h
  have hbA : ¬ (fun q : Nat => s.heap.size ≤ q) b := Nat.not_le.mpr hbl
  have hh : Wh D (fun q => s.heap.size ≤ q) s.heap (List.flatten [bX9 ad E (xs 0), bX1 ad E (xs 1), bX3 (ad 2) E (xs 2), bX3 (ad 3) E (xs 3), bX5 ad E (xs 4), bX8 (ad 5) E (xs 5), bX2 (ad 6) E (xs 6), bX7 ad E (xs 7), bX2 (ad 8) E (xs 8), bX8 (ad 9) E (xs 9), bX8 (ad 10) E (xs 10), bX8 (ad 11) E (xs 11), bX2 (ad 12) E (xs 12), bX8 (ad 13) E (xs 13), bX8 (ad 14) E (xs 14), bX2 (ad 15) E (xs 15), bX10 a E o, dC ad E ck ((xs 1).2.1 1).toNatClampNeg, dK ad E mk ((xs 4).2.1 1).toNatClampNeg, dP ad E pr ((xs 0).2.1 4).toNatClampNeg]) _ _ := hh
  refine lv_aload_n hx hb dL_law_206 rfl (lv_at hl 2 rfl) ?_
  refine lv_aload_n hx hb dL_law_207 rfl (lv_at hl 1 rfl) ?_
  refine lv_iload_n hx hb dL_law_208 rfl (lv_at hl 0 rfl) ?_
  refine lv_iconst (v := 1) hx hb dL_law_209 (by decide) ?_
  refine lv_iadd hx hb dL_law_210 ?_
  refine va_sld hx hb hX hbl hbA hh.2.2 (lw_in (k := 1) (by omega) hL) dL_law_211 ?_
  refine lv_aload_n hx hb dL_law_212 rfl (lv_at hl 1 rfl) ?_
  refine lv_iload_n hx hb dL_law_213 rfl (lv_at hl 0 rfl) ?_
  refine lv_iconst (v := 2) hx hb dL_law_214 (by decide) ?_
  refine lv_iadd hx hb dL_law_215 ?_
  refine va_sld hx hb hX hbl hbA hh.2.2 (lw_in (k := 2) (by omega) hL) dL_law_216 ?_
  have h := hok ck mk pr xs o (xv (nI n + 1).toNatClampNeg) (xv (nI n + 2).toNatClampNeg) hI
  have hc := hh.cut [_, _, _] [_, _, _, _, _, _, _, _, _, _, _, _, _, _, _, _, _] [0, 4, 18, 1, 2, 3, 5, 6, 7, 8, 9, 10, 11, 12, 13, 14, 15, 16, 17, 19] 20 rfl (by decide +kernel) rfl
  refine kI hc hA (rnV hx hb hml hown hT hK hc (c_X9_pair l D E ad mk (xs 0) (xs 4) (xv (nI n + 1).toNatClampNeg) (xv (nI n + 2).toNatClampNeg) h _) mf_X9_pair kml_L_22 ⟨rfl, rfl, Nat.le_of_ble_eq_true rfl, Nat.le_of_ble_eq_true rfl⟩ ⟨by show _ ≤ 600000; omega, by show _ ≤ 7302250; omega⟩ 9 0 rfl rfl hl.1 rfl dL_law_217 (Nat.le_of_ble_eq_true rfl) rfl) (fun r u H locs h hN => ?_)
  obtain ⟨ad2, mk2, x2, k2⟩ := u
  obtain ⟨hag, h⟩ := h
  obtain ⟨g0, h⟩ := h
  rw [← g0] at hN
  have hh : Wh D (fun q => s.heap.size ≤ q) s.heap (List.flatten [bX9 ad2 E x2, bX1 ad E (xs 1), bX3 (ad 2) E (xs 2), bX3 (ad 3) E (xs 3), bX5 ad2 E k2, bX8 (ad 5) E (xs 5), bX2 (ad 6) E (xs 6), bX7 ad E (xs 7), bX2 (ad 8) E (xs 8), bX8 (ad 9) E (xs 9), bX8 (ad 10) E (xs 10), bX8 (ad 11) E (xs 11), bX2 (ad 12) E (xs 12), bX8 (ad 13) E (xs 13), bX8 (ad 14) E (xs 14), bX2 (ad 15) E (xs 15), bX10 a E o, dC ad E ck ((xs 1).2.1 1).toNatClampNeg, dK ad2 E mk2 (k2.2.1 1).toNatClampNeg, dP ad E pr (x2.2.1 4).toNatClampNeg]) _ _ := Wh.back (cs := [_, _, _]) (rs := [_, _, _, _, _, _, _, _, _, _, _, _, _, _, _, _, _]) _ [0, 3, 4, 5, 1, 6, 7, 8, 9, 10, 11, 12, 13, 14, 15, 16, 17, 18, 2, 19] 20 rfl (by decide +kernel) rfl hN
  rw [show bX1 ad E (xs 1) = bX1 ad2 E (xs 1) from bX1_ag2 (hag 1 (by decide)) (hag 2 (by decide)) (hag 3 (by decide)) (hag 20 (by decide)), show ad 2 = ad2 2 from (hag 2 (by decide)).symm, show ad 3 = ad2 3 from (hag 3 (by decide)).symm, show ad 5 = ad2 5 from (hag 5 (by decide)).symm, show ad 6 = ad2 6 from (hag 6 (by decide)).symm, show bX7 ad E (xs 7) = bX7 ad2 E (xs 7) from bX7_ag (hag 1 (by decide)) (hag 7 (by decide)) (hag 8 (by decide)) (hag 9 (by decide)) (hag 10 (by decide)), show ad 8 = ad2 8 from (hag 8 (by decide)).symm, show ad 9 = ad2 9 from (hag 9 (by decide)).symm, show ad 10 = ad2 10 from (hag 10 (by decide)).symm, show ad 11 = ad2 11 from (hag 11 (by decide)).symm, show ad 12 = ad2 12 from (hag 12 (by decide)).symm, show ad 13 = ad2 13 from (hag 13 (by decide)).symm, show ad 14 = ad2 14 from (hag 14 (by decide)).symm, show ad 15 = ad2 15 from (hag 15 (by decide)).symm, show dC ad E ck _ = dC ad2 E ck _ from dC_ag (hag 20 (by decide)), show dP ad E pr _ = dP ad2 E pr _ from dP_ag (hag 22 (by decide)) (hag 25 (by decide))] at hh
  refine lv_aload_n hx hb dL_law_220 rfl (lv_at hl 3 rfl) ?_
  refine lv_aload_n hx hb dL_law_221 rfl (lv_at hl 1 rfl) ?_
  refine lv_iload_n hx hb dL_law_222 rfl (lv_at hl 0 rfl) ?_
  refine lv_iconst (v := 1) hx hb dL_law_223 (by decide) ?_
  refine lv_iadd hx hb dL_law_224 ?_
  refine va_sld hx hb hX hbl hbA hh.2.2 (lw_in (k := 1) (by omega) hL) dL_law_225 ?_
  refine lv_aload_n hx hb dL_law_226 rfl (lv_at hl 1 rfl) ?_
  refine lv_iload_n hx hb dL_law_227 rfl (lv_at hl 0 rfl) ?_
  refine lv_iconst (v := 2) hx hb dL_law_228 (by decide) ?_
  refine lv_iadd hx hb dL_law_229 ?_
  refine va_sld hx hb hX hbl hbA hh.2.2 (lw_in (k := 2) (by omega) hL) dL_law_230 ?_
  have hc := hh.cut [_] [_, _, _, _, _, _, _, _, _, _, _, _, _, _, _, _, _, _, _] [16, 0, 1, 2, 3, 4, 5, 6, 7, 8, 9, 10, 11, 12, 13, 14, 15, 17, 18, 19] 20 rfl (by decide +kernel) rfl
  refine kI hc hA (rnV hx hb hml hown hT hK hc (c_X10_pair l D E a o (xv (nI n + 1).toNatClampNeg) (xv (nI n + 2).toNatClampNeg) h _) mf_X10_pair kml_L_25 ⟨rfl, rfl, Nat.le_of_ble_eq_true rfl, Nat.le_of_ble_eq_true rfl⟩ ⟨by show _ ≤ 600000; omega, by show _ ≤ 7302250; omega⟩ 10 0 rfl rfl hl.1 rfl dL_law_231 (Nat.le_of_ble_eq_true rfl) rfl) (fun r2 o2 H locs h hN => ?_)
  have hh : Wh D (fun q => s.heap.size ≤ q) s.heap (List.flatten [bX9 ad2 E x2, bX1 ad2 E (xs 1), bX3 (ad2 2) E (xs 2), bX3 (ad2 3) E (xs 3), bX5 ad2 E k2, bX8 (ad2 5) E (xs 5), bX2 (ad2 6) E (xs 6), bX7 ad2 E (xs 7), bX2 (ad2 8) E (xs 8), bX8 (ad2 9) E (xs 9), bX8 (ad2 10) E (xs 10), bX8 (ad2 11) E (xs 11), bX2 (ad2 12) E (xs 12), bX8 (ad2 13) E (xs 13), bX8 (ad2 14) E (xs 14), bX2 (ad2 15) E (xs 15), bX10 a E o2, dC ad2 E ck ((xs 1).2.1 1).toNatClampNeg, dK ad2 E mk2 (k2.2.1 1).toNatClampNeg, dP ad2 E pr (x2.2.1 4).toNatClampNeg]) _ _ := Wh.back (cs := [_]) (rs := [_, _, _, _, _, _, _, _, _, _, _, _, _, _, _, _, _, _, _]) _ [1, 2, 3, 4, 5, 6, 7, 8, 9, 10, 11, 12, 13, 14, 15, 16, 0, 17, 18, 19] 20 rfl (by decide +kernel) rfl hN
  obtain ⟨hre, hI⟩ := h
  refine lv_icmp_eq (tgt := 997) hx hb dL_law_234 (by decide) (fun _ => ?_) (fun cc => absurd hre cc)
  refine W.widen (k := 100 + n + 6) (n := 50000 + 2 * n + 12) (by omega) (by omega) ?_
  exact kk ad2 ck mk2 pr (ux (ux xs 0 x2) 4 k2) o2 _ _ _ hI (congrFun (hag 0 (by decide)) 0) hh hl
def OK_oneOf (Inv : LInv) : Prop := ∀ (ck mk pr xs : Nat → Ob) (o : Ob) (v1 : Int32) (v2 : Int32) (v3 : Int32) (v4 : Int32), Inv ck mk pr xs o → w_X9_oneOf mk v1 v2 v3 v4 (xs 0) (xs 4) (fun (r : Int32) (mk2 : Nat → Ob) (x2 : Ob) (k2 : Ob) => (x2.2.1 4 = (xs 0).2.1 4) ∧ w_X10_oneOf v1 v2 v3 v4 o (fun (r2 : Int32) (o2 : Ob) => r = r2 ∧ Inv ck mk2 pr (ux (ux xs 0 x2) 4 k2) o2))
set_option maxRecDepth 100000 in
set_option maxHeartbeats 8000000 in
theorem law_oneOf {p : Program} {l : Launch} {e : Env} {s : State} {m : MethodId} {below : List Frame} {meth : Method} {c : Code} {Q : State → Prop} {D : va_G} {E : Nat → ClassId} {b L : Nat} {xv : Nat → Int32} (Inv : LInv) (hok : OK_oneOf Inv) (C0 : LC p s m c D E b L xv) (hL : L ≤ 3072) {n : Nat} (hn : n + 6 ≤ L) {ad : Nat → Nat → Nat} {a : Nat → Nat} {ck mk pr xs : Nat → Ob} {o : Ob} {H : Heap} {locs : List Loc} {ls : Array Slot} (hI : Inv ck mk pr xs o) (hh : Wh D (fun q => s.heap.size ≤ q) s.heap (List.flatten (wL ad a E ck mk pr xs o)) H locs) (hl : lv_has ls 4 [(3, .int (nI n)), (0, .ref b), (1, .ref (ad 0 0)), (2, .ref (a 0))])
    (kk : ∀ (ad2 : Nat → Nat → Nat) (ck2 mk2 pr2 xs2 : Nat → Ob) (o2 : Ob) (H : Heap) (locs : List Loc) (ls : Array Slot), Inv ck2 mk2 pr2 xs2 o2 → ad2 0 0 = ad 0 0 → Wh D (fun q => s.heap.size ≤ q) s.heap (List.flatten (wL ad2 a E ck2 mk2 pr2 xs2 o2)) H locs → lv_has ls 4 [(3, .int (nI n)), (0, .ref b), (1, .ref (ad 0 0)), (2, .ref (a 0))] → W p l e room_1 s m #[Value.ref b] below meth c H locs (100 + n + 6) (50000 + 2 * n + 12) Q (F0 m 997 ls [])) :
    W p l e room_1 s m #[Value.ref b] below meth c H locs (100 + n) (50000 + 2 * n) Q (F0 m 239 ls []) := by
  obtain ⟨hx, hb, hml, hown, hT, hK, hX, hbl⟩ := C0
  have hA : ∀ q : Nat, s.heap.size ≤ q → (fun q : Nat => s.heap.size ≤ q) q := fun _ h => h
  have hbA : ¬ (fun q : Nat => s.heap.size ≤ q) b := Nat.not_le.mpr hbl
  have hh : Wh D (fun q => s.heap.size ≤ q) s.heap (List.flatten [bX9 ad E (xs 0), bX1 ad E (xs 1), bX3 (ad 2) E (xs 2), bX3 (ad 3) E (xs 3), bX5 ad E (xs 4), bX8 (ad 5) E (xs 5), bX2 (ad 6) E (xs 6), bX7 ad E (xs 7), bX2 (ad 8) E (xs 8), bX8 (ad 9) E (xs 9), bX8 (ad 10) E (xs 10), bX8 (ad 11) E (xs 11), bX2 (ad 12) E (xs 12), bX8 (ad 13) E (xs 13), bX8 (ad 14) E (xs 14), bX2 (ad 15) E (xs 15), bX10 a E o, dC ad E ck ((xs 1).2.1 1).toNatClampNeg, dK ad E mk ((xs 4).2.1 1).toNatClampNeg, dP ad E pr ((xs 0).2.1 4).toNatClampNeg]) _ _ := hh
  refine lv_aload_n hx hb dL_law_239 rfl (lv_at hl 2 rfl) ?_
  refine lv_aload_n hx hb dL_law_240 rfl (lv_at hl 1 rfl) ?_
  refine lv_iload_n hx hb dL_law_241 rfl (lv_at hl 0 rfl) ?_
  refine lv_iconst (v := 1) hx hb dL_law_242 (by decide) ?_
  refine lv_iadd hx hb dL_law_243 ?_
  refine va_sld hx hb hX hbl hbA hh.2.2 (lw_in (k := 1) (by omega) hL) dL_law_244 ?_
  refine lv_aload_n hx hb dL_law_245 rfl (lv_at hl 1 rfl) ?_
  refine lv_iload_n hx hb dL_law_246 rfl (lv_at hl 0 rfl) ?_
  refine lv_iconst (v := 2) hx hb dL_law_247 (by decide) ?_
  refine lv_iadd hx hb dL_law_248 ?_
  refine va_sld hx hb hX hbl hbA hh.2.2 (lw_in (k := 2) (by omega) hL) dL_law_249 ?_
  refine lv_aload_n hx hb dL_law_250 rfl (lv_at hl 1 rfl) ?_
  refine lv_iload_n hx hb dL_law_251 rfl (lv_at hl 0 rfl) ?_
  refine lv_iconst (v := 3) hx hb dL_law_252 (by decide) ?_
  refine lv_iadd hx hb dL_law_253 ?_
  refine va_sld hx hb hX hbl hbA hh.2.2 (lw_in (k := 3) (by omega) hL) dL_law_254 ?_
  refine lv_aload_n hx hb dL_law_255 rfl (lv_at hl 1 rfl) ?_
  refine lv_iload_n hx hb dL_law_256 rfl (lv_at hl 0 rfl) ?_
  refine lv_iconst (v := 4) hx hb dL_law_257 (by decide) ?_
  refine lv_iadd hx hb dL_law_258 ?_
  refine va_sld hx hb hX hbl hbA hh.2.2 (lw_in (k := 4) (by omega) hL) dL_law_259 ?_
  have h := hok ck mk pr xs o (xv (nI n + 1).toNatClampNeg) (xv (nI n + 2).toNatClampNeg) (xv (nI n + 3).toNatClampNeg) (xv (nI n + 4).toNatClampNeg) hI
  have hc := hh.cut [_, _, _] [_, _, _, _, _, _, _, _, _, _, _, _, _, _, _, _, _] [0, 4, 18, 1, 2, 3, 5, 6, 7, 8, 9, 10, 11, 12, 13, 14, 15, 16, 17, 19] 20 rfl (by decide +kernel) rfl
  refine kI hc hA (rnV hx hb hml hown hT hK hc (c_X9_oneOf l D E ad mk (xs 0) (xs 4) (xv (nI n + 1).toNatClampNeg) (xv (nI n + 2).toNatClampNeg) (xv (nI n + 3).toNatClampNeg) (xv (nI n + 4).toNatClampNeg) h _) mf_X9_oneOf kml_L_26 ⟨rfl, rfl, Nat.le_of_ble_eq_true rfl, Nat.le_of_ble_eq_true rfl⟩ ⟨by show _ ≤ 600000; omega, by show _ ≤ 7302250; omega⟩ 9 0 rfl rfl hl.1 rfl dL_law_260 (Nat.le_of_ble_eq_true rfl) rfl) (fun r u H locs h hN => ?_)
  obtain ⟨ad2, mk2, x2, k2⟩ := u
  obtain ⟨hag, h⟩ := h
  obtain ⟨g0, h⟩ := h
  rw [← g0] at hN
  have hh : Wh D (fun q => s.heap.size ≤ q) s.heap (List.flatten [bX9 ad2 E x2, bX1 ad E (xs 1), bX3 (ad 2) E (xs 2), bX3 (ad 3) E (xs 3), bX5 ad2 E k2, bX8 (ad 5) E (xs 5), bX2 (ad 6) E (xs 6), bX7 ad E (xs 7), bX2 (ad 8) E (xs 8), bX8 (ad 9) E (xs 9), bX8 (ad 10) E (xs 10), bX8 (ad 11) E (xs 11), bX2 (ad 12) E (xs 12), bX8 (ad 13) E (xs 13), bX8 (ad 14) E (xs 14), bX2 (ad 15) E (xs 15), bX10 a E o, dC ad E ck ((xs 1).2.1 1).toNatClampNeg, dK ad2 E mk2 (k2.2.1 1).toNatClampNeg, dP ad E pr (x2.2.1 4).toNatClampNeg]) _ _ := Wh.back (cs := [_, _, _]) (rs := [_, _, _, _, _, _, _, _, _, _, _, _, _, _, _, _, _]) _ [0, 3, 4, 5, 1, 6, 7, 8, 9, 10, 11, 12, 13, 14, 15, 16, 17, 18, 2, 19] 20 rfl (by decide +kernel) rfl hN
  rw [show bX1 ad E (xs 1) = bX1 ad2 E (xs 1) from bX1_ag2 (hag 1 (by decide)) (hag 2 (by decide)) (hag 3 (by decide)) (hag 20 (by decide)), show ad 2 = ad2 2 from (hag 2 (by decide)).symm, show ad 3 = ad2 3 from (hag 3 (by decide)).symm, show ad 5 = ad2 5 from (hag 5 (by decide)).symm, show ad 6 = ad2 6 from (hag 6 (by decide)).symm, show bX7 ad E (xs 7) = bX7 ad2 E (xs 7) from bX7_ag (hag 1 (by decide)) (hag 7 (by decide)) (hag 8 (by decide)) (hag 9 (by decide)) (hag 10 (by decide)), show ad 8 = ad2 8 from (hag 8 (by decide)).symm, show ad 9 = ad2 9 from (hag 9 (by decide)).symm, show ad 10 = ad2 10 from (hag 10 (by decide)).symm, show ad 11 = ad2 11 from (hag 11 (by decide)).symm, show ad 12 = ad2 12 from (hag 12 (by decide)).symm, show ad 13 = ad2 13 from (hag 13 (by decide)).symm, show ad 14 = ad2 14 from (hag 14 (by decide)).symm, show ad 15 = ad2 15 from (hag 15 (by decide)).symm, show dC ad E ck _ = dC ad2 E ck _ from dC_ag (hag 20 (by decide)), show dP ad E pr _ = dP ad2 E pr _ from dP_ag (hag 22 (by decide)) (hag 25 (by decide))] at hh
  refine lv_aload_n hx hb dL_law_263 rfl (lv_at hl 3 rfl) ?_
  refine lv_aload_n hx hb dL_law_264 rfl (lv_at hl 1 rfl) ?_
  refine lv_iload_n hx hb dL_law_265 rfl (lv_at hl 0 rfl) ?_
  refine lv_iconst (v := 1) hx hb dL_law_266 (by decide) ?_
  refine lv_iadd hx hb dL_law_267 ?_
  refine va_sld hx hb hX hbl hbA hh.2.2 (lw_in (k := 1) (by omega) hL) dL_law_268 ?_
  refine lv_aload_n hx hb dL_law_269 rfl (lv_at hl 1 rfl) ?_
  refine lv_iload_n hx hb dL_law_270 rfl (lv_at hl 0 rfl) ?_
  refine lv_iconst (v := 2) hx hb dL_law_271 (by decide) ?_
  refine lv_iadd hx hb dL_law_272 ?_
  refine va_sld hx hb hX hbl hbA hh.2.2 (lw_in (k := 2) (by omega) hL) dL_law_273 ?_
  refine lv_aload_n hx hb dL_law_274 rfl (lv_at hl 1 rfl) ?_
  refine lv_iload_n hx hb dL_law_275 rfl (lv_at hl 0 rfl) ?_
  refine lv_iconst (v := 3) hx hb dL_law_276 (by decide) ?_
  refine lv_iadd hx hb dL_law_277 ?_
  refine va_sld hx hb hX hbl hbA hh.2.2 (lw_in (k := 3) (by omega) hL) dL_law_278 ?_
  refine lv_aload_n hx hb dL_law_279 rfl (lv_at hl 1 rfl) ?_
  refine lv_iload_n hx hb dL_law_280 rfl (lv_at hl 0 rfl) ?_
  refine lv_iconst (v := 4) hx hb dL_law_281 (by decide) ?_
  refine lv_iadd hx hb dL_law_282 ?_
  refine va_sld hx hb hX hbl hbA hh.2.2 (lw_in (k := 4) (by omega) hL) dL_law_283 ?_
  have hc := hh.cut [_] [_, _, _, _, _, _, _, _, _, _, _, _, _, _, _, _, _, _, _] [16, 0, 1, 2, 3, 4, 5, 6, 7, 8, 9, 10, 11, 12, 13, 14, 15, 17, 18, 19] 20 rfl (by decide +kernel) rfl
  refine kI hc hA (rnV hx hb hml hown hT hK hc (c_X10_oneOf l D E a o (xv (nI n + 1).toNatClampNeg) (xv (nI n + 2).toNatClampNeg) (xv (nI n + 3).toNatClampNeg) (xv (nI n + 4).toNatClampNeg) h _) mf_X10_oneOf kml_L_30 ⟨rfl, rfl, Nat.le_of_ble_eq_true rfl, Nat.le_of_ble_eq_true rfl⟩ ⟨by show _ ≤ 600000; omega, by show _ ≤ 7302250; omega⟩ 10 0 rfl rfl hl.1 rfl dL_law_284 (Nat.le_of_ble_eq_true rfl) rfl) (fun r2 o2 H locs h hN => ?_)
  have hh : Wh D (fun q => s.heap.size ≤ q) s.heap (List.flatten [bX9 ad2 E x2, bX1 ad2 E (xs 1), bX3 (ad2 2) E (xs 2), bX3 (ad2 3) E (xs 3), bX5 ad2 E k2, bX8 (ad2 5) E (xs 5), bX2 (ad2 6) E (xs 6), bX7 ad2 E (xs 7), bX2 (ad2 8) E (xs 8), bX8 (ad2 9) E (xs 9), bX8 (ad2 10) E (xs 10), bX8 (ad2 11) E (xs 11), bX2 (ad2 12) E (xs 12), bX8 (ad2 13) E (xs 13), bX8 (ad2 14) E (xs 14), bX2 (ad2 15) E (xs 15), bX10 a E o2, dC ad2 E ck ((xs 1).2.1 1).toNatClampNeg, dK ad2 E mk2 (k2.2.1 1).toNatClampNeg, dP ad2 E pr (x2.2.1 4).toNatClampNeg]) _ _ := Wh.back (cs := [_]) (rs := [_, _, _, _, _, _, _, _, _, _, _, _, _, _, _, _, _, _, _]) _ [1, 2, 3, 4, 5, 6, 7, 8, 9, 10, 11, 12, 13, 14, 15, 16, 0, 17, 18, 19] 20 rfl (by decide +kernel) rfl hN
  obtain ⟨hre, hI⟩ := h
  refine lv_icmp_eq (tgt := 997) hx hb dL_law_287 (by decide) (fun _ => ?_) (fun cc => absurd hre cc)
  refine W.widen (k := 100 + n + 6) (n := 50000 + 2 * n + 12) (by omega) (by omega) ?_
  exact kk ad2 ck mk2 pr (ux (ux xs 0 x2) 4 k2) o2 _ _ _ hI (congrFun (hag 0 (by decide)) 0) hh hl
def OK_mapped (Inv : LInv) : Prop := ∀ (ck mk pr xs : Nat → Ob) (o : Ob) (v1 : Int32) (v2 : Int32), Inv ck mk pr xs o → w_X9_mapped mk v1 v2 (xs 0) (xs 4) (fun (r : Int32) (mk2 : Nat → Ob) (x2 : Ob) (k2 : Ob) => (x2.2.1 4 = (xs 0).2.1 4) ∧ w_X10_mapped v1 v2 o (fun (r2 : Int32) (o2 : Ob) => r = r2 ∧ Inv ck mk2 pr (ux (ux xs 0 x2) 4 k2) o2))
set_option maxRecDepth 100000 in
set_option maxHeartbeats 8000000 in
theorem law_mapped {p : Program} {l : Launch} {e : Env} {s : State} {m : MethodId} {below : List Frame} {meth : Method} {c : Code} {Q : State → Prop} {D : va_G} {E : Nat → ClassId} {b L : Nat} {xv : Nat → Int32} (Inv : LInv) (hok : OK_mapped Inv) (C0 : LC p s m c D E b L xv) (hL : L ≤ 3072) {n : Nat} (hn : n + 6 ≤ L) {ad : Nat → Nat → Nat} {a : Nat → Nat} {ck mk pr xs : Nat → Ob} {o : Ob} {H : Heap} {locs : List Loc} {ls : Array Slot} (hI : Inv ck mk pr xs o) (hh : Wh D (fun q => s.heap.size ≤ q) s.heap (List.flatten (wL ad a E ck mk pr xs o)) H locs) (hl : lv_has ls 4 [(3, .int (nI n)), (0, .ref b), (1, .ref (ad 0 0)), (2, .ref (a 0))])
    (kk : ∀ (ad2 : Nat → Nat → Nat) (ck2 mk2 pr2 xs2 : Nat → Ob) (o2 : Ob) (H : Heap) (locs : List Loc) (ls : Array Slot), Inv ck2 mk2 pr2 xs2 o2 → ad2 0 0 = ad 0 0 → Wh D (fun q => s.heap.size ≤ q) s.heap (List.flatten (wL ad2 a E ck2 mk2 pr2 xs2 o2)) H locs → lv_has ls 4 [(3, .int (nI n)), (0, .ref b), (1, .ref (ad 0 0)), (2, .ref (a 0))] → W p l e room_1 s m #[Value.ref b] below meth c H locs (100 + n + 6) (50000 + 2 * n + 12) Q (F0 m 997 ls [])) :
    W p l e room_1 s m #[Value.ref b] below meth c H locs (100 + n) (50000 + 2 * n) Q (F0 m 292 ls []) := by
  obtain ⟨hx, hb, hml, hown, hT, hK, hX, hbl⟩ := C0
  have hA : ∀ q : Nat, s.heap.size ≤ q → (fun q : Nat => s.heap.size ≤ q) q := fun _ h => h
  have hbA : ¬ (fun q : Nat => s.heap.size ≤ q) b := Nat.not_le.mpr hbl
  have hh : Wh D (fun q => s.heap.size ≤ q) s.heap (List.flatten [bX9 ad E (xs 0), bX1 ad E (xs 1), bX3 (ad 2) E (xs 2), bX3 (ad 3) E (xs 3), bX5 ad E (xs 4), bX8 (ad 5) E (xs 5), bX2 (ad 6) E (xs 6), bX7 ad E (xs 7), bX2 (ad 8) E (xs 8), bX8 (ad 9) E (xs 9), bX8 (ad 10) E (xs 10), bX8 (ad 11) E (xs 11), bX2 (ad 12) E (xs 12), bX8 (ad 13) E (xs 13), bX8 (ad 14) E (xs 14), bX2 (ad 15) E (xs 15), bX10 a E o, dC ad E ck ((xs 1).2.1 1).toNatClampNeg, dK ad E mk ((xs 4).2.1 1).toNatClampNeg, dP ad E pr ((xs 0).2.1 4).toNatClampNeg]) _ _ := hh
  refine lv_aload_n hx hb dL_law_292 rfl (lv_at hl 2 rfl) ?_
  refine lv_aload_n hx hb dL_law_293 rfl (lv_at hl 1 rfl) ?_
  refine lv_iload_n hx hb dL_law_294 rfl (lv_at hl 0 rfl) ?_
  refine lv_iconst (v := 1) hx hb dL_law_295 (by decide) ?_
  refine lv_iadd hx hb dL_law_296 ?_
  refine va_sld hx hb hX hbl hbA hh.2.2 (lw_in (k := 1) (by omega) hL) dL_law_297 ?_
  refine lv_aload_n hx hb dL_law_298 rfl (lv_at hl 1 rfl) ?_
  refine lv_iload_n hx hb dL_law_299 rfl (lv_at hl 0 rfl) ?_
  refine lv_iconst (v := 2) hx hb dL_law_300 (by decide) ?_
  refine lv_iadd hx hb dL_law_301 ?_
  refine va_sld hx hb hX hbl hbA hh.2.2 (lw_in (k := 2) (by omega) hL) dL_law_302 ?_
  have h := hok ck mk pr xs o (xv (nI n + 1).toNatClampNeg) (xv (nI n + 2).toNatClampNeg) hI
  have hc := hh.cut [_, _, _] [_, _, _, _, _, _, _, _, _, _, _, _, _, _, _, _, _] [0, 4, 18, 1, 2, 3, 5, 6, 7, 8, 9, 10, 11, 12, 13, 14, 15, 16, 17, 19] 20 rfl (by decide +kernel) rfl
  refine kI hc hA (rnV hx hb hml hown hT hK hc (c_X9_mapped l D E ad mk (xs 0) (xs 4) (xv (nI n + 1).toNatClampNeg) (xv (nI n + 2).toNatClampNeg) h _) mf_X9_mapped kml_L_31 ⟨rfl, rfl, Nat.le_of_ble_eq_true rfl, Nat.le_of_ble_eq_true rfl⟩ ⟨by show _ ≤ 600000; omega, by show _ ≤ 7302250; omega⟩ 9 0 rfl rfl hl.1 rfl dL_law_303 (Nat.le_of_ble_eq_true rfl) rfl) (fun r u H locs h hN => ?_)
  obtain ⟨ad2, mk2, x2, k2⟩ := u
  obtain ⟨hag, h⟩ := h
  obtain ⟨g0, h⟩ := h
  rw [← g0] at hN
  have hh : Wh D (fun q => s.heap.size ≤ q) s.heap (List.flatten [bX9 ad2 E x2, bX1 ad E (xs 1), bX3 (ad 2) E (xs 2), bX3 (ad 3) E (xs 3), bX5 ad2 E k2, bX8 (ad 5) E (xs 5), bX2 (ad 6) E (xs 6), bX7 ad E (xs 7), bX2 (ad 8) E (xs 8), bX8 (ad 9) E (xs 9), bX8 (ad 10) E (xs 10), bX8 (ad 11) E (xs 11), bX2 (ad 12) E (xs 12), bX8 (ad 13) E (xs 13), bX8 (ad 14) E (xs 14), bX2 (ad 15) E (xs 15), bX10 a E o, dC ad E ck ((xs 1).2.1 1).toNatClampNeg, dK ad2 E mk2 (k2.2.1 1).toNatClampNeg, dP ad E pr (x2.2.1 4).toNatClampNeg]) _ _ := Wh.back (cs := [_, _, _]) (rs := [_, _, _, _, _, _, _, _, _, _, _, _, _, _, _, _, _]) _ [0, 3, 4, 5, 1, 6, 7, 8, 9, 10, 11, 12, 13, 14, 15, 16, 17, 18, 2, 19] 20 rfl (by decide +kernel) rfl hN
  rw [show bX1 ad E (xs 1) = bX1 ad2 E (xs 1) from bX1_ag2 (hag 1 (by decide)) (hag 2 (by decide)) (hag 3 (by decide)) (hag 20 (by decide)), show ad 2 = ad2 2 from (hag 2 (by decide)).symm, show ad 3 = ad2 3 from (hag 3 (by decide)).symm, show ad 5 = ad2 5 from (hag 5 (by decide)).symm, show ad 6 = ad2 6 from (hag 6 (by decide)).symm, show bX7 ad E (xs 7) = bX7 ad2 E (xs 7) from bX7_ag (hag 1 (by decide)) (hag 7 (by decide)) (hag 8 (by decide)) (hag 9 (by decide)) (hag 10 (by decide)), show ad 8 = ad2 8 from (hag 8 (by decide)).symm, show ad 9 = ad2 9 from (hag 9 (by decide)).symm, show ad 10 = ad2 10 from (hag 10 (by decide)).symm, show ad 11 = ad2 11 from (hag 11 (by decide)).symm, show ad 12 = ad2 12 from (hag 12 (by decide)).symm, show ad 13 = ad2 13 from (hag 13 (by decide)).symm, show ad 14 = ad2 14 from (hag 14 (by decide)).symm, show ad 15 = ad2 15 from (hag 15 (by decide)).symm, show dC ad E ck _ = dC ad2 E ck _ from dC_ag (hag 20 (by decide)), show dP ad E pr _ = dP ad2 E pr _ from dP_ag (hag 22 (by decide)) (hag 25 (by decide))] at hh
  refine lv_aload_n hx hb dL_law_306 rfl (lv_at hl 3 rfl) ?_
  refine lv_aload_n hx hb dL_law_307 rfl (lv_at hl 1 rfl) ?_
  refine lv_iload_n hx hb dL_law_308 rfl (lv_at hl 0 rfl) ?_
  refine lv_iconst (v := 1) hx hb dL_law_309 (by decide) ?_
  refine lv_iadd hx hb dL_law_310 ?_
  refine va_sld hx hb hX hbl hbA hh.2.2 (lw_in (k := 1) (by omega) hL) dL_law_311 ?_
  refine lv_aload_n hx hb dL_law_312 rfl (lv_at hl 1 rfl) ?_
  refine lv_iload_n hx hb dL_law_313 rfl (lv_at hl 0 rfl) ?_
  refine lv_iconst (v := 2) hx hb dL_law_314 (by decide) ?_
  refine lv_iadd hx hb dL_law_315 ?_
  refine va_sld hx hb hX hbl hbA hh.2.2 (lw_in (k := 2) (by omega) hL) dL_law_316 ?_
  have hc := hh.cut [_] [_, _, _, _, _, _, _, _, _, _, _, _, _, _, _, _, _, _, _] [16, 0, 1, 2, 3, 4, 5, 6, 7, 8, 9, 10, 11, 12, 13, 14, 15, 17, 18, 19] 20 rfl (by decide +kernel) rfl
  refine kI hc hA (rnV hx hb hml hown hT hK hc (c_X10_mapped l D E a o (xv (nI n + 1).toNatClampNeg) (xv (nI n + 2).toNatClampNeg) h _) mf_X10_mapped kml_L_34 ⟨rfl, rfl, Nat.le_of_ble_eq_true rfl, Nat.le_of_ble_eq_true rfl⟩ ⟨by show _ ≤ 600000; omega, by show _ ≤ 7302250; omega⟩ 10 0 rfl rfl hl.1 rfl dL_law_317 (Nat.le_of_ble_eq_true rfl) rfl) (fun r2 o2 H locs h hN => ?_)
  have hh : Wh D (fun q => s.heap.size ≤ q) s.heap (List.flatten [bX9 ad2 E x2, bX1 ad2 E (xs 1), bX3 (ad2 2) E (xs 2), bX3 (ad2 3) E (xs 3), bX5 ad2 E k2, bX8 (ad2 5) E (xs 5), bX2 (ad2 6) E (xs 6), bX7 ad2 E (xs 7), bX2 (ad2 8) E (xs 8), bX8 (ad2 9) E (xs 9), bX8 (ad2 10) E (xs 10), bX8 (ad2 11) E (xs 11), bX2 (ad2 12) E (xs 12), bX8 (ad2 13) E (xs 13), bX8 (ad2 14) E (xs 14), bX2 (ad2 15) E (xs 15), bX10 a E o2, dC ad2 E ck ((xs 1).2.1 1).toNatClampNeg, dK ad2 E mk2 (k2.2.1 1).toNatClampNeg, dP ad2 E pr (x2.2.1 4).toNatClampNeg]) _ _ := Wh.back (cs := [_]) (rs := [_, _, _, _, _, _, _, _, _, _, _, _, _, _, _, _, _, _, _]) _ [1, 2, 3, 4, 5, 6, 7, 8, 9, 10, 11, 12, 13, 14, 15, 16, 0, 17, 18, 19] 20 rfl (by decide +kernel) rfl hN
  obtain ⟨hre, hI⟩ := h
  refine lv_icmp_eq (tgt := 997) hx hb dL_law_320 (by decide) (fun _ => ?_) (fun cc => absurd hre cc)
  refine W.widen (k := 100 + n + 6) (n := 50000 + 2 * n + 12) (by omega) (by omega) ?_
  exact kk ad2 ck mk2 pr (ux (ux xs 0 x2) 4 k2) o2 _ _ _ hI (congrFun (hag 0 (by decide)) 0) hh hl
def OK_picked (Inv : LInv) : Prop := ∀ (ck mk pr xs : Nat → Ob) (o : Ob) (v1 : Int32) (v2 : Int32), Inv ck mk pr xs o → w_X9_picked mk v1 v2 (xs 0) (xs 4) (xs 1) (fun (r : Int32) (mk2 : Nat → Ob) (x2 : Ob) (k2 : Ob) (j2 : Ob) => (j2.2.1 1 = (xs 1).2.1 1) ∧ (x2.2.1 4 = (xs 0).2.1 4) ∧ w_X10_picked v1 v2 o (fun (r2 : Int32) (o2 : Ob) => r = r2 ∧ Inv ck mk2 pr (ux (ux (ux xs 0 x2) 4 k2) 1 j2) o2))
set_option maxRecDepth 100000 in
set_option maxHeartbeats 8000000 in
theorem law_picked {p : Program} {l : Launch} {e : Env} {s : State} {m : MethodId} {below : List Frame} {meth : Method} {c : Code} {Q : State → Prop} {D : va_G} {E : Nat → ClassId} {b L : Nat} {xv : Nat → Int32} (Inv : LInv) (hok : OK_picked Inv) (C0 : LC p s m c D E b L xv) (hL : L ≤ 3072) {n : Nat} (hn : n + 6 ≤ L) {ad : Nat → Nat → Nat} {a : Nat → Nat} {ck mk pr xs : Nat → Ob} {o : Ob} {H : Heap} {locs : List Loc} {ls : Array Slot} (hI : Inv ck mk pr xs o) (hh : Wh D (fun q => s.heap.size ≤ q) s.heap (List.flatten (wL ad a E ck mk pr xs o)) H locs) (hl : lv_has ls 4 [(3, .int (nI n)), (0, .ref b), (1, .ref (ad 0 0)), (2, .ref (a 0))])
    (kk : ∀ (ad2 : Nat → Nat → Nat) (ck2 mk2 pr2 xs2 : Nat → Ob) (o2 : Ob) (H : Heap) (locs : List Loc) (ls : Array Slot), Inv ck2 mk2 pr2 xs2 o2 → ad2 0 0 = ad 0 0 → Wh D (fun q => s.heap.size ≤ q) s.heap (List.flatten (wL ad2 a E ck2 mk2 pr2 xs2 o2)) H locs → lv_has ls 4 [(3, .int (nI n)), (0, .ref b), (1, .ref (ad 0 0)), (2, .ref (a 0))] → W p l e room_1 s m #[Value.ref b] below meth c H locs (100 + n + 6) (50000 + 2 * n + 12) Q (F0 m 997 ls [])) :
    W p l e room_1 s m #[Value.ref b] below meth c H locs (100 + n) (50000 + 2 * n) Q (F0 m 325 ls []) := by
  obtain ⟨hx, hb, hml, hown, hT, hK, hX, hbl⟩ := C0
  have hA : ∀ q : Nat, s.heap.size ≤ q → (fun q : Nat => s.heap.size ≤ q) q := fun _ h => h
  have hbA : ¬ (fun q : Nat => s.heap.size ≤ q) b := Nat.not_le.mpr hbl
  have hh : Wh D (fun q => s.heap.size ≤ q) s.heap (List.flatten [bX9 ad E (xs 0), bX1 ad E (xs 1), bX3 (ad 2) E (xs 2), bX3 (ad 3) E (xs 3), bX5 ad E (xs 4), bX8 (ad 5) E (xs 5), bX2 (ad 6) E (xs 6), bX7 ad E (xs 7), bX2 (ad 8) E (xs 8), bX8 (ad 9) E (xs 9), bX8 (ad 10) E (xs 10), bX8 (ad 11) E (xs 11), bX2 (ad 12) E (xs 12), bX8 (ad 13) E (xs 13), bX8 (ad 14) E (xs 14), bX2 (ad 15) E (xs 15), bX10 a E o, dC ad E ck ((xs 1).2.1 1).toNatClampNeg, dK ad E mk ((xs 4).2.1 1).toNatClampNeg, dP ad E pr ((xs 0).2.1 4).toNatClampNeg]) _ _ := hh
  refine lv_aload_n hx hb dL_law_325 rfl (lv_at hl 2 rfl) ?_
  refine lv_aload_n hx hb dL_law_326 rfl (lv_at hl 1 rfl) ?_
  refine lv_iload_n hx hb dL_law_327 rfl (lv_at hl 0 rfl) ?_
  refine lv_iconst (v := 1) hx hb dL_law_328 (by decide) ?_
  refine lv_iadd hx hb dL_law_329 ?_
  refine va_sld hx hb hX hbl hbA hh.2.2 (lw_in (k := 1) (by omega) hL) dL_law_330 ?_
  refine lv_aload_n hx hb dL_law_331 rfl (lv_at hl 1 rfl) ?_
  refine lv_iload_n hx hb dL_law_332 rfl (lv_at hl 0 rfl) ?_
  refine lv_iconst (v := 2) hx hb dL_law_333 (by decide) ?_
  refine lv_iadd hx hb dL_law_334 ?_
  refine va_sld hx hb hX hbl hbA hh.2.2 (lw_in (k := 2) (by omega) hL) dL_law_335 ?_
  have h := hok ck mk pr xs o (xv (nI n + 1).toNatClampNeg) (xv (nI n + 2).toNatClampNeg) hI
  have hc := hh.cut [_, _, _, _] [_, _, _, _, _, _, _, _, _, _, _, _, _, _, _, _] [0, 4, 1, 18, 2, 3, 5, 6, 7, 8, 9, 10, 11, 12, 13, 14, 15, 16, 17, 19] 20 rfl (by decide +kernel) rfl
  refine kI hc hA (rnV hx hb hml hown hT hK hc (c_X9_picked l D E ad mk (xs 0) (xs 4) (xs 1) (xv (nI n + 1).toNatClampNeg) (xv (nI n + 2).toNatClampNeg) h _) mf_X9_picked kml_L_35 ⟨rfl, rfl, Nat.le_of_ble_eq_true rfl, Nat.le_of_ble_eq_true rfl⟩ ⟨by show _ ≤ 600000; omega, by show _ ≤ 7302250; omega⟩ 9 0 rfl rfl hl.1 rfl dL_law_336 (Nat.le_of_ble_eq_true rfl) rfl) (fun r u H locs h hN => ?_)
  obtain ⟨ad2, mk2, x2, k2, j2⟩ := u
  obtain ⟨hag, h⟩ := h
  obtain ⟨g0, h⟩ := h
  rw [← g0] at hN
  obtain ⟨g1, h⟩ := h
  rw [← g1] at hN
  have hh : Wh D (fun q => s.heap.size ≤ q) s.heap (List.flatten [bX9 ad2 E x2, bX1 ad2 E j2, bX3 (ad 2) E (xs 2), bX3 (ad 3) E (xs 3), bX5 ad2 E k2, bX8 (ad 5) E (xs 5), bX2 (ad 6) E (xs 6), bX7 ad E (xs 7), bX2 (ad 8) E (xs 8), bX8 (ad 9) E (xs 9), bX8 (ad 10) E (xs 10), bX8 (ad 11) E (xs 11), bX2 (ad 12) E (xs 12), bX8 (ad 13) E (xs 13), bX8 (ad 14) E (xs 14), bX2 (ad 15) E (xs 15), bX10 a E o, dC ad E ck (j2.2.1 1).toNatClampNeg, dK ad2 E mk2 (k2.2.1 1).toNatClampNeg, dP ad E pr (x2.2.1 4).toNatClampNeg]) _ _ := Wh.back (cs := [_, _, _, _]) (rs := [_, _, _, _, _, _, _, _, _, _, _, _, _, _, _, _]) _ [0, 2, 4, 5, 1, 6, 7, 8, 9, 10, 11, 12, 13, 14, 15, 16, 17, 18, 3, 19] 20 rfl (by decide +kernel) rfl hN
  rw [show ad 2 = ad2 2 from (hag 2 (by decide)).symm, show ad 3 = ad2 3 from (hag 3 (by decide)).symm, show ad 5 = ad2 5 from (hag 5 (by decide)).symm, show ad 6 = ad2 6 from (hag 6 (by decide)).symm, show bX7 ad E (xs 7) = bX7 ad2 E (xs 7) from bX7_ag (hag 1 (by decide)) (hag 7 (by decide)) (hag 8 (by decide)) (hag 9 (by decide)) (hag 10 (by decide)), show ad 8 = ad2 8 from (hag 8 (by decide)).symm, show ad 9 = ad2 9 from (hag 9 (by decide)).symm, show ad 10 = ad2 10 from (hag 10 (by decide)).symm, show ad 11 = ad2 11 from (hag 11 (by decide)).symm, show ad 12 = ad2 12 from (hag 12 (by decide)).symm, show ad 13 = ad2 13 from (hag 13 (by decide)).symm, show ad 14 = ad2 14 from (hag 14 (by decide)).symm, show ad 15 = ad2 15 from (hag 15 (by decide)).symm, show dC ad E ck _ = dC ad2 E ck _ from dC_ag (hag 20 (by decide)), show dP ad E pr _ = dP ad2 E pr _ from dP_ag (hag 22 (by decide)) (hag 25 (by decide))] at hh
  refine lv_aload_n hx hb dL_law_339 rfl (lv_at hl 3 rfl) ?_
  refine lv_aload_n hx hb dL_law_340 rfl (lv_at hl 1 rfl) ?_
  refine lv_iload_n hx hb dL_law_341 rfl (lv_at hl 0 rfl) ?_
  refine lv_iconst (v := 1) hx hb dL_law_342 (by decide) ?_
  refine lv_iadd hx hb dL_law_343 ?_
  refine va_sld hx hb hX hbl hbA hh.2.2 (lw_in (k := 1) (by omega) hL) dL_law_344 ?_
  refine lv_aload_n hx hb dL_law_345 rfl (lv_at hl 1 rfl) ?_
  refine lv_iload_n hx hb dL_law_346 rfl (lv_at hl 0 rfl) ?_
  refine lv_iconst (v := 2) hx hb dL_law_347 (by decide) ?_
  refine lv_iadd hx hb dL_law_348 ?_
  refine va_sld hx hb hX hbl hbA hh.2.2 (lw_in (k := 2) (by omega) hL) dL_law_349 ?_
  have hc := hh.cut [_] [_, _, _, _, _, _, _, _, _, _, _, _, _, _, _, _, _, _, _] [16, 0, 1, 2, 3, 4, 5, 6, 7, 8, 9, 10, 11, 12, 13, 14, 15, 17, 18, 19] 20 rfl (by decide +kernel) rfl
  refine kI hc hA (rnV hx hb hml hown hT hK hc (c_X10_picked l D E a o (xv (nI n + 1).toNatClampNeg) (xv (nI n + 2).toNatClampNeg) h _) mf_X10_picked kml_L_38 ⟨rfl, rfl, Nat.le_of_ble_eq_true rfl, Nat.le_of_ble_eq_true rfl⟩ ⟨by show _ ≤ 600000; omega, by show _ ≤ 7302250; omega⟩ 10 0 rfl rfl hl.1 rfl dL_law_350 (Nat.le_of_ble_eq_true rfl) rfl) (fun r2 o2 H locs h hN => ?_)
  have hh : Wh D (fun q => s.heap.size ≤ q) s.heap (List.flatten [bX9 ad2 E x2, bX1 ad2 E j2, bX3 (ad2 2) E (xs 2), bX3 (ad2 3) E (xs 3), bX5 ad2 E k2, bX8 (ad2 5) E (xs 5), bX2 (ad2 6) E (xs 6), bX7 ad2 E (xs 7), bX2 (ad2 8) E (xs 8), bX8 (ad2 9) E (xs 9), bX8 (ad2 10) E (xs 10), bX8 (ad2 11) E (xs 11), bX2 (ad2 12) E (xs 12), bX8 (ad2 13) E (xs 13), bX8 (ad2 14) E (xs 14), bX2 (ad2 15) E (xs 15), bX10 a E o2, dC ad2 E ck (j2.2.1 1).toNatClampNeg, dK ad2 E mk2 (k2.2.1 1).toNatClampNeg, dP ad2 E pr (x2.2.1 4).toNatClampNeg]) _ _ := Wh.back (cs := [_]) (rs := [_, _, _, _, _, _, _, _, _, _, _, _, _, _, _, _, _, _, _]) _ [1, 2, 3, 4, 5, 6, 7, 8, 9, 10, 11, 12, 13, 14, 15, 16, 0, 17, 18, 19] 20 rfl (by decide +kernel) rfl hN
  obtain ⟨hre, hI⟩ := h
  refine lv_icmp_eq (tgt := 997) hx hb dL_law_353 (by decide) (fun _ => ?_) (fun cc => absurd hre cc)
  refine W.widen (k := 100 + n + 6) (n := 50000 + 2 * n + 12) (by omega) (by omega) ?_
  exact kk ad2 ck mk2 pr (ux (ux (ux xs 0 x2) 4 k2) 1 j2) o2 _ _ _ hI (congrFun (hag 0 (by decide)) 0) hh hl
def OK_shuffled (Inv : LInv) : Prop := ∀ (ck mk pr xs : Nat → Ob) (o : Ob) (v1 : Int32), Inv ck mk pr xs o → w_X9_shuffled mk v1 (xs 0) (xs 4) (fun (r : Int32) (mk2 : Nat → Ob) (x2 : Ob) (k2 : Ob) => (x2.2.1 4 = (xs 0).2.1 4) ∧ w_X10_shuffled v1 o (fun (r2 : Int32) (o2 : Ob) => r = r2 ∧ Inv ck mk2 pr (ux (ux xs 0 x2) 4 k2) o2))
set_option maxRecDepth 100000 in
set_option maxHeartbeats 8000000 in
theorem law_shuffled {p : Program} {l : Launch} {e : Env} {s : State} {m : MethodId} {below : List Frame} {meth : Method} {c : Code} {Q : State → Prop} {D : va_G} {E : Nat → ClassId} {b L : Nat} {xv : Nat → Int32} (Inv : LInv) (hok : OK_shuffled Inv) (C0 : LC p s m c D E b L xv) (hL : L ≤ 3072) {n : Nat} (hn : n + 6 ≤ L) {ad : Nat → Nat → Nat} {a : Nat → Nat} {ck mk pr xs : Nat → Ob} {o : Ob} {H : Heap} {locs : List Loc} {ls : Array Slot} (hI : Inv ck mk pr xs o) (hh : Wh D (fun q => s.heap.size ≤ q) s.heap (List.flatten (wL ad a E ck mk pr xs o)) H locs) (hl : lv_has ls 4 [(3, .int (nI n)), (0, .ref b), (1, .ref (ad 0 0)), (2, .ref (a 0))])
    (kk : ∀ (ad2 : Nat → Nat → Nat) (ck2 mk2 pr2 xs2 : Nat → Ob) (o2 : Ob) (H : Heap) (locs : List Loc) (ls : Array Slot), Inv ck2 mk2 pr2 xs2 o2 → ad2 0 0 = ad 0 0 → Wh D (fun q => s.heap.size ≤ q) s.heap (List.flatten (wL ad2 a E ck2 mk2 pr2 xs2 o2)) H locs → lv_has ls 4 [(3, .int (nI n)), (0, .ref b), (1, .ref (ad 0 0)), (2, .ref (a 0))] → W p l e room_1 s m #[Value.ref b] below meth c H locs (100 + n + 6) (50000 + 2 * n + 12) Q (F0 m 997 ls [])) :
    W p l e room_1 s m #[Value.ref b] below meth c H locs (100 + n) (50000 + 2 * n) Q (F0 m 358 ls []) := by
  obtain ⟨hx, hb, hml, hown, hT, hK, hX, hbl⟩ := C0
  have hA : ∀ q : Nat, s.heap.size ≤ q → (fun q : Nat => s.heap.size ≤ q) q := fun _ h => h
  have hbA : ¬ (fun q : Nat => s.heap.size ≤ q) b := Nat.not_le.mpr hbl
  have hh : Wh D (fun q => s.heap.size ≤ q) s.heap (List.flatten [bX9 ad E (xs 0), bX1 ad E (xs 1), bX3 (ad 2) E (xs 2), bX3 (ad 3) E (xs 3), bX5 ad E (xs 4), bX8 (ad 5) E (xs 5), bX2 (ad 6) E (xs 6), bX7 ad E (xs 7), bX2 (ad 8) E (xs 8), bX8 (ad 9) E (xs 9), bX8 (ad 10) E (xs 10), bX8 (ad 11) E (xs 11), bX2 (ad 12) E (xs 12), bX8 (ad 13) E (xs 13), bX8 (ad 14) E (xs 14), bX2 (ad 15) E (xs 15), bX10 a E o, dC ad E ck ((xs 1).2.1 1).toNatClampNeg, dK ad E mk ((xs 4).2.1 1).toNatClampNeg, dP ad E pr ((xs 0).2.1 4).toNatClampNeg]) _ _ := hh
  refine lv_aload_n hx hb dL_law_358 rfl (lv_at hl 2 rfl) ?_
  refine lv_aload_n hx hb dL_law_359 rfl (lv_at hl 1 rfl) ?_
  refine lv_iload_n hx hb dL_law_360 rfl (lv_at hl 0 rfl) ?_
  refine lv_iconst (v := 1) hx hb dL_law_361 (by decide) ?_
  refine lv_iadd hx hb dL_law_362 ?_
  refine va_sld hx hb hX hbl hbA hh.2.2 (lw_in (k := 1) (by omega) hL) dL_law_363 ?_
  have h := hok ck mk pr xs o (xv (nI n + 1).toNatClampNeg) hI
  have hc := hh.cut [_, _, _] [_, _, _, _, _, _, _, _, _, _, _, _, _, _, _, _, _] [0, 4, 18, 1, 2, 3, 5, 6, 7, 8, 9, 10, 11, 12, 13, 14, 15, 16, 17, 19] 20 rfl (by decide +kernel) rfl
  refine kI hc hA (rnV hx hb hml hown hT hK hc (c_X9_shuffled l D E ad mk (xs 0) (xs 4) (xv (nI n + 1).toNatClampNeg) h _) mf_X9_shuffled kml_L_39 ⟨rfl, rfl, Nat.le_of_ble_eq_true rfl, Nat.le_of_ble_eq_true rfl⟩ ⟨by show _ ≤ 600000; omega, by show _ ≤ 7302250; omega⟩ 9 0 rfl rfl hl.1 rfl dL_law_364 (Nat.le_of_ble_eq_true rfl) rfl) (fun r u H locs h hN => ?_)
  obtain ⟨ad2, mk2, x2, k2⟩ := u
  obtain ⟨hag, h⟩ := h
  obtain ⟨g0, h⟩ := h
  rw [← g0] at hN
  have hh : Wh D (fun q => s.heap.size ≤ q) s.heap (List.flatten [bX9 ad2 E x2, bX1 ad E (xs 1), bX3 (ad 2) E (xs 2), bX3 (ad 3) E (xs 3), bX5 ad2 E k2, bX8 (ad 5) E (xs 5), bX2 (ad 6) E (xs 6), bX7 ad E (xs 7), bX2 (ad 8) E (xs 8), bX8 (ad 9) E (xs 9), bX8 (ad 10) E (xs 10), bX8 (ad 11) E (xs 11), bX2 (ad 12) E (xs 12), bX8 (ad 13) E (xs 13), bX8 (ad 14) E (xs 14), bX2 (ad 15) E (xs 15), bX10 a E o, dC ad E ck ((xs 1).2.1 1).toNatClampNeg, dK ad2 E mk2 (k2.2.1 1).toNatClampNeg, dP ad E pr (x2.2.1 4).toNatClampNeg]) _ _ := Wh.back (cs := [_, _, _]) (rs := [_, _, _, _, _, _, _, _, _, _, _, _, _, _, _, _, _]) _ [0, 3, 4, 5, 1, 6, 7, 8, 9, 10, 11, 12, 13, 14, 15, 16, 17, 18, 2, 19] 20 rfl (by decide +kernel) rfl hN
  rw [show bX1 ad E (xs 1) = bX1 ad2 E (xs 1) from bX1_ag2 (hag 1 (by decide)) (hag 2 (by decide)) (hag 3 (by decide)) (hag 20 (by decide)), show ad 2 = ad2 2 from (hag 2 (by decide)).symm, show ad 3 = ad2 3 from (hag 3 (by decide)).symm, show ad 5 = ad2 5 from (hag 5 (by decide)).symm, show ad 6 = ad2 6 from (hag 6 (by decide)).symm, show bX7 ad E (xs 7) = bX7 ad2 E (xs 7) from bX7_ag (hag 1 (by decide)) (hag 7 (by decide)) (hag 8 (by decide)) (hag 9 (by decide)) (hag 10 (by decide)), show ad 8 = ad2 8 from (hag 8 (by decide)).symm, show ad 9 = ad2 9 from (hag 9 (by decide)).symm, show ad 10 = ad2 10 from (hag 10 (by decide)).symm, show ad 11 = ad2 11 from (hag 11 (by decide)).symm, show ad 12 = ad2 12 from (hag 12 (by decide)).symm, show ad 13 = ad2 13 from (hag 13 (by decide)).symm, show ad 14 = ad2 14 from (hag 14 (by decide)).symm, show ad 15 = ad2 15 from (hag 15 (by decide)).symm, show dC ad E ck _ = dC ad2 E ck _ from dC_ag (hag 20 (by decide)), show dP ad E pr _ = dP ad2 E pr _ from dP_ag (hag 22 (by decide)) (hag 25 (by decide))] at hh
  refine lv_aload_n hx hb dL_law_367 rfl (lv_at hl 3 rfl) ?_
  refine lv_aload_n hx hb dL_law_368 rfl (lv_at hl 1 rfl) ?_
  refine lv_iload_n hx hb dL_law_369 rfl (lv_at hl 0 rfl) ?_
  refine lv_iconst (v := 1) hx hb dL_law_370 (by decide) ?_
  refine lv_iadd hx hb dL_law_371 ?_
  refine va_sld hx hb hX hbl hbA hh.2.2 (lw_in (k := 1) (by omega) hL) dL_law_372 ?_
  have hc := hh.cut [_] [_, _, _, _, _, _, _, _, _, _, _, _, _, _, _, _, _, _, _] [16, 0, 1, 2, 3, 4, 5, 6, 7, 8, 9, 10, 11, 12, 13, 14, 15, 17, 18, 19] 20 rfl (by decide +kernel) rfl
  refine kI hc hA (rnV hx hb hml hown hT hK hc (c_X10_shuffled l D E a o (xv (nI n + 1).toNatClampNeg) h _) mf_X10_shuffled kml_L_43 ⟨rfl, rfl, Nat.le_of_ble_eq_true rfl, Nat.le_of_ble_eq_true rfl⟩ ⟨by show _ ≤ 600000; omega, by show _ ≤ 7302250; omega⟩ 10 0 rfl rfl hl.1 rfl dL_law_373 (Nat.le_of_ble_eq_true rfl) rfl) (fun r2 o2 H locs h hN => ?_)
  have hh : Wh D (fun q => s.heap.size ≤ q) s.heap (List.flatten [bX9 ad2 E x2, bX1 ad2 E (xs 1), bX3 (ad2 2) E (xs 2), bX3 (ad2 3) E (xs 3), bX5 ad2 E k2, bX8 (ad2 5) E (xs 5), bX2 (ad2 6) E (xs 6), bX7 ad2 E (xs 7), bX2 (ad2 8) E (xs 8), bX8 (ad2 9) E (xs 9), bX8 (ad2 10) E (xs 10), bX8 (ad2 11) E (xs 11), bX2 (ad2 12) E (xs 12), bX8 (ad2 13) E (xs 13), bX8 (ad2 14) E (xs 14), bX2 (ad2 15) E (xs 15), bX10 a E o2, dC ad2 E ck ((xs 1).2.1 1).toNatClampNeg, dK ad2 E mk2 (k2.2.1 1).toNatClampNeg, dP ad2 E pr (x2.2.1 4).toNatClampNeg]) _ _ := Wh.back (cs := [_]) (rs := [_, _, _, _, _, _, _, _, _, _, _, _, _, _, _, _, _, _, _]) _ [1, 2, 3, 4, 5, 6, 7, 8, 9, 10, 11, 12, 13, 14, 15, 16, 0, 17, 18, 19] 20 rfl (by decide +kernel) rfl hN
  obtain ⟨hre, hI⟩ := h
  refine lv_icmp_eq (tgt := 997) hx hb dL_law_376 (by decide) (fun _ => ?_) (fun cc => absurd hre cc)
  refine W.widen (k := 100 + n + 6) (n := 50000 + 2 * n + 12) (by omega) (by omega) ?_
  exact kk ad2 ck mk2 pr (ux (ux xs 0 x2) 4 k2) o2 _ _ _ hI (congrFun (hag 0 (by decide)) 0) hh hl
def OK_below (Inv : LInv) : Prop := ∀ (ck mk pr xs : Nat → Ob) (o : Ob) (v1 : Int32), Inv ck mk pr xs o → w_X9_below mk v1 (xs 0) (xs 4) (fun (r : Int32) (mk2 : Nat → Ob) (x2 : Ob) (k2 : Ob) => (x2.2.1 4 = (xs 0).2.1 4) ∧ w_X10_below v1 o (fun (r2 : Int32) (o2 : Ob) => r = r2 ∧ Inv ck mk2 pr (ux (ux xs 0 x2) 4 k2) o2))
set_option maxRecDepth 100000 in
set_option maxHeartbeats 8000000 in
theorem law_below {p : Program} {l : Launch} {e : Env} {s : State} {m : MethodId} {below : List Frame} {meth : Method} {c : Code} {Q : State → Prop} {D : va_G} {E : Nat → ClassId} {b L : Nat} {xv : Nat → Int32} (Inv : LInv) (hok : OK_below Inv) (C0 : LC p s m c D E b L xv) (hL : L ≤ 3072) {n : Nat} (hn : n + 6 ≤ L) {ad : Nat → Nat → Nat} {a : Nat → Nat} {ck mk pr xs : Nat → Ob} {o : Ob} {H : Heap} {locs : List Loc} {ls : Array Slot} (hI : Inv ck mk pr xs o) (hh : Wh D (fun q => s.heap.size ≤ q) s.heap (List.flatten (wL ad a E ck mk pr xs o)) H locs) (hl : lv_has ls 4 [(3, .int (nI n)), (0, .ref b), (1, .ref (ad 0 0)), (2, .ref (a 0))])
    (kk : ∀ (ad2 : Nat → Nat → Nat) (ck2 mk2 pr2 xs2 : Nat → Ob) (o2 : Ob) (H : Heap) (locs : List Loc) (ls : Array Slot), Inv ck2 mk2 pr2 xs2 o2 → ad2 0 0 = ad 0 0 → Wh D (fun q => s.heap.size ≤ q) s.heap (List.flatten (wL ad2 a E ck2 mk2 pr2 xs2 o2)) H locs → lv_has ls 4 [(3, .int (nI n)), (0, .ref b), (1, .ref (ad 0 0)), (2, .ref (a 0))] → W p l e room_1 s m #[Value.ref b] below meth c H locs (100 + n + 6) (50000 + 2 * n + 12) Q (F0 m 997 ls [])) :
    W p l e room_1 s m #[Value.ref b] below meth c H locs (100 + n) (50000 + 2 * n) Q (F0 m 381 ls []) := by
  obtain ⟨hx, hb, hml, hown, hT, hK, hX, hbl⟩ := C0
  have hA : ∀ q : Nat, s.heap.size ≤ q → (fun q : Nat => s.heap.size ≤ q) q := fun _ h => h
  have hbA : ¬ (fun q : Nat => s.heap.size ≤ q) b := Nat.not_le.mpr hbl
  have hh : Wh D (fun q => s.heap.size ≤ q) s.heap (List.flatten [bX9 ad E (xs 0), bX1 ad E (xs 1), bX3 (ad 2) E (xs 2), bX3 (ad 3) E (xs 3), bX5 ad E (xs 4), bX8 (ad 5) E (xs 5), bX2 (ad 6) E (xs 6), bX7 ad E (xs 7), bX2 (ad 8) E (xs 8), bX8 (ad 9) E (xs 9), bX8 (ad 10) E (xs 10), bX8 (ad 11) E (xs 11), bX2 (ad 12) E (xs 12), bX8 (ad 13) E (xs 13), bX8 (ad 14) E (xs 14), bX2 (ad 15) E (xs 15), bX10 a E o, dC ad E ck ((xs 1).2.1 1).toNatClampNeg, dK ad E mk ((xs 4).2.1 1).toNatClampNeg, dP ad E pr ((xs 0).2.1 4).toNatClampNeg]) _ _ := hh
  refine lv_aload_n hx hb dL_law_381 rfl (lv_at hl 2 rfl) ?_
  refine lv_aload_n hx hb dL_law_382 rfl (lv_at hl 1 rfl) ?_
  refine lv_iload_n hx hb dL_law_383 rfl (lv_at hl 0 rfl) ?_
  refine lv_iconst (v := 1) hx hb dL_law_384 (by decide) ?_
  refine lv_iadd hx hb dL_law_385 ?_
  refine va_sld hx hb hX hbl hbA hh.2.2 (lw_in (k := 1) (by omega) hL) dL_law_386 ?_
  have h := hok ck mk pr xs o (xv (nI n + 1).toNatClampNeg) hI
  have hc := hh.cut [_, _, _] [_, _, _, _, _, _, _, _, _, _, _, _, _, _, _, _, _] [0, 4, 18, 1, 2, 3, 5, 6, 7, 8, 9, 10, 11, 12, 13, 14, 15, 16, 17, 19] 20 rfl (by decide +kernel) rfl
  refine kI hc hA (rnV hx hb hml hown hT hK hc (c_X9_below l D E ad mk (xs 0) (xs 4) (xv (nI n + 1).toNatClampNeg) h _) mf_X9_below kml_L_44 ⟨rfl, rfl, Nat.le_of_ble_eq_true rfl, Nat.le_of_ble_eq_true rfl⟩ ⟨by show _ ≤ 600000; omega, by show _ ≤ 7302250; omega⟩ 9 0 rfl rfl hl.1 rfl dL_law_387 (Nat.le_of_ble_eq_true rfl) rfl) (fun r u H locs h hN => ?_)
  obtain ⟨ad2, mk2, x2, k2⟩ := u
  obtain ⟨hag, h⟩ := h
  obtain ⟨g0, h⟩ := h
  rw [← g0] at hN
  have hh : Wh D (fun q => s.heap.size ≤ q) s.heap (List.flatten [bX9 ad2 E x2, bX1 ad E (xs 1), bX3 (ad 2) E (xs 2), bX3 (ad 3) E (xs 3), bX5 ad2 E k2, bX8 (ad 5) E (xs 5), bX2 (ad 6) E (xs 6), bX7 ad E (xs 7), bX2 (ad 8) E (xs 8), bX8 (ad 9) E (xs 9), bX8 (ad 10) E (xs 10), bX8 (ad 11) E (xs 11), bX2 (ad 12) E (xs 12), bX8 (ad 13) E (xs 13), bX8 (ad 14) E (xs 14), bX2 (ad 15) E (xs 15), bX10 a E o, dC ad E ck ((xs 1).2.1 1).toNatClampNeg, dK ad2 E mk2 (k2.2.1 1).toNatClampNeg, dP ad E pr (x2.2.1 4).toNatClampNeg]) _ _ := Wh.back (cs := [_, _, _]) (rs := [_, _, _, _, _, _, _, _, _, _, _, _, _, _, _, _, _]) _ [0, 3, 4, 5, 1, 6, 7, 8, 9, 10, 11, 12, 13, 14, 15, 16, 17, 18, 2, 19] 20 rfl (by decide +kernel) rfl hN
  rw [show bX1 ad E (xs 1) = bX1 ad2 E (xs 1) from bX1_ag2 (hag 1 (by decide)) (hag 2 (by decide)) (hag 3 (by decide)) (hag 20 (by decide)), show ad 2 = ad2 2 from (hag 2 (by decide)).symm, show ad 3 = ad2 3 from (hag 3 (by decide)).symm, show ad 5 = ad2 5 from (hag 5 (by decide)).symm, show ad 6 = ad2 6 from (hag 6 (by decide)).symm, show bX7 ad E (xs 7) = bX7 ad2 E (xs 7) from bX7_ag (hag 1 (by decide)) (hag 7 (by decide)) (hag 8 (by decide)) (hag 9 (by decide)) (hag 10 (by decide)), show ad 8 = ad2 8 from (hag 8 (by decide)).symm, show ad 9 = ad2 9 from (hag 9 (by decide)).symm, show ad 10 = ad2 10 from (hag 10 (by decide)).symm, show ad 11 = ad2 11 from (hag 11 (by decide)).symm, show ad 12 = ad2 12 from (hag 12 (by decide)).symm, show ad 13 = ad2 13 from (hag 13 (by decide)).symm, show ad 14 = ad2 14 from (hag 14 (by decide)).symm, show ad 15 = ad2 15 from (hag 15 (by decide)).symm, show dC ad E ck _ = dC ad2 E ck _ from dC_ag (hag 20 (by decide)), show dP ad E pr _ = dP ad2 E pr _ from dP_ag (hag 22 (by decide)) (hag 25 (by decide))] at hh
  refine lv_aload_n hx hb dL_law_390 rfl (lv_at hl 3 rfl) ?_
  refine lv_aload_n hx hb dL_law_391 rfl (lv_at hl 1 rfl) ?_
  refine lv_iload_n hx hb dL_law_392 rfl (lv_at hl 0 rfl) ?_
  refine lv_iconst (v := 1) hx hb dL_law_393 (by decide) ?_
  refine lv_iadd hx hb dL_law_394 ?_
  refine va_sld hx hb hX hbl hbA hh.2.2 (lw_in (k := 1) (by omega) hL) dL_law_395 ?_
  have hc := hh.cut [_] [_, _, _, _, _, _, _, _, _, _, _, _, _, _, _, _, _, _, _] [16, 0, 1, 2, 3, 4, 5, 6, 7, 8, 9, 10, 11, 12, 13, 14, 15, 17, 18, 19] 20 rfl (by decide +kernel) rfl
  refine kI hc hA (rnV hx hb hml hown hT hK hc (c_X10_below l D E a o (xv (nI n + 1).toNatClampNeg) h _) mf_X10_below kml_L_47 ⟨rfl, rfl, Nat.le_of_ble_eq_true rfl, Nat.le_of_ble_eq_true rfl⟩ ⟨by show _ ≤ 600000; omega, by show _ ≤ 7302250; omega⟩ 10 0 rfl rfl hl.1 rfl dL_law_396 (Nat.le_of_ble_eq_true rfl) rfl) (fun r2 o2 H locs h hN => ?_)
  have hh : Wh D (fun q => s.heap.size ≤ q) s.heap (List.flatten [bX9 ad2 E x2, bX1 ad2 E (xs 1), bX3 (ad2 2) E (xs 2), bX3 (ad2 3) E (xs 3), bX5 ad2 E k2, bX8 (ad2 5) E (xs 5), bX2 (ad2 6) E (xs 6), bX7 ad2 E (xs 7), bX2 (ad2 8) E (xs 8), bX8 (ad2 9) E (xs 9), bX8 (ad2 10) E (xs 10), bX8 (ad2 11) E (xs 11), bX2 (ad2 12) E (xs 12), bX8 (ad2 13) E (xs 13), bX8 (ad2 14) E (xs 14), bX2 (ad2 15) E (xs 15), bX10 a E o2, dC ad2 E ck ((xs 1).2.1 1).toNatClampNeg, dK ad2 E mk2 (k2.2.1 1).toNatClampNeg, dP ad2 E pr (x2.2.1 4).toNatClampNeg]) _ _ := Wh.back (cs := [_]) (rs := [_, _, _, _, _, _, _, _, _, _, _, _, _, _, _, _, _, _, _]) _ [1, 2, 3, 4, 5, 6, 7, 8, 9, 10, 11, 12, 13, 14, 15, 16, 0, 17, 18, 19] 20 rfl (by decide +kernel) rfl hN
  obtain ⟨hre, hI⟩ := h
  refine lv_icmp_eq (tgt := 997) hx hb dL_law_399 (by decide) (fun _ => ?_) (fun cc => absurd hre cc)
  refine W.widen (k := 100 + n + 6) (n := 50000 + 2 * n + 12) (by omega) (by omega) ?_
  exact kk ad2 ck mk2 pr (ux (ux xs 0 x2) 4 k2) o2 _ _ _ hI (congrFun (hag 0 (by decide)) 0) hh hl
def OK_maker (Inv : LInv) : Prop := ∀ (ck mk pr xs : Nat → Ob) (o : Ob) (v1 : Int32) (v2 : Int32), Inv ck mk pr xs o → w_X9_maker mk v1 v2 (xs 0) (xs 4) (fun (r : Int32) (x2 : Ob) (k2 : Ob) => (x2.2.1 4 = (xs 0).2.1 4) ∧ w_X10_maker v1 v2 o (fun (r2 : Int32) (o2 : Ob) => r = r2 ∧ Inv ck mk pr (ux (ux xs 0 x2) 4 k2) o2))
set_option maxRecDepth 100000 in
set_option maxHeartbeats 8000000 in
theorem law_maker {p : Program} {l : Launch} {e : Env} {s : State} {m : MethodId} {below : List Frame} {meth : Method} {c : Code} {Q : State → Prop} {D : va_G} {E : Nat → ClassId} {b L : Nat} {xv : Nat → Int32} (Inv : LInv) (hok : OK_maker Inv) (C0 : LC p s m c D E b L xv) (hL : L ≤ 3072) {n : Nat} (hn : n + 6 ≤ L) {ad : Nat → Nat → Nat} {a : Nat → Nat} {ck mk pr xs : Nat → Ob} {o : Ob} {H : Heap} {locs : List Loc} {ls : Array Slot} (hI : Inv ck mk pr xs o) (hh : Wh D (fun q => s.heap.size ≤ q) s.heap (List.flatten (wL ad a E ck mk pr xs o)) H locs) (hl : lv_has ls 4 [(3, .int (nI n)), (0, .ref b), (1, .ref (ad 0 0)), (2, .ref (a 0))])
    (kk : ∀ (ad2 : Nat → Nat → Nat) (ck2 mk2 pr2 xs2 : Nat → Ob) (o2 : Ob) (H : Heap) (locs : List Loc) (ls : Array Slot), Inv ck2 mk2 pr2 xs2 o2 → ad2 0 0 = ad 0 0 → Wh D (fun q => s.heap.size ≤ q) s.heap (List.flatten (wL ad2 a E ck2 mk2 pr2 xs2 o2)) H locs → lv_has ls 4 [(3, .int (nI n)), (0, .ref b), (1, .ref (ad 0 0)), (2, .ref (a 0))] → W p l e room_1 s m #[Value.ref b] below meth c H locs (100 + n + 6) (50000 + 2 * n + 12) Q (F0 m 997 ls [])) :
    W p l e room_1 s m #[Value.ref b] below meth c H locs (100 + n) (50000 + 2 * n) Q (F0 m 404 ls []) := by
  obtain ⟨hx, hb, hml, hown, hT, hK, hX, hbl⟩ := C0
  have hA : ∀ q : Nat, s.heap.size ≤ q → (fun q : Nat => s.heap.size ≤ q) q := fun _ h => h
  have hbA : ¬ (fun q : Nat => s.heap.size ≤ q) b := Nat.not_le.mpr hbl
  have hh : Wh D (fun q => s.heap.size ≤ q) s.heap (List.flatten [bX9 ad E (xs 0), bX1 ad E (xs 1), bX3 (ad 2) E (xs 2), bX3 (ad 3) E (xs 3), bX5 ad E (xs 4), bX8 (ad 5) E (xs 5), bX2 (ad 6) E (xs 6), bX7 ad E (xs 7), bX2 (ad 8) E (xs 8), bX8 (ad 9) E (xs 9), bX8 (ad 10) E (xs 10), bX8 (ad 11) E (xs 11), bX2 (ad 12) E (xs 12), bX8 (ad 13) E (xs 13), bX8 (ad 14) E (xs 14), bX2 (ad 15) E (xs 15), bX10 a E o, dC ad E ck ((xs 1).2.1 1).toNatClampNeg, dK ad E mk ((xs 4).2.1 1).toNatClampNeg, dP ad E pr ((xs 0).2.1 4).toNatClampNeg]) _ _ := hh
  refine lv_aload_n hx hb dL_law_404 rfl (lv_at hl 2 rfl) ?_
  refine lv_aload_n hx hb dL_law_405 rfl (lv_at hl 1 rfl) ?_
  refine lv_iload_n hx hb dL_law_406 rfl (lv_at hl 0 rfl) ?_
  refine lv_iconst (v := 1) hx hb dL_law_407 (by decide) ?_
  refine lv_iadd hx hb dL_law_408 ?_
  refine va_sld hx hb hX hbl hbA hh.2.2 (lw_in (k := 1) (by omega) hL) dL_law_409 ?_
  refine lv_aload_n hx hb dL_law_410 rfl (lv_at hl 1 rfl) ?_
  refine lv_iload_n hx hb dL_law_411 rfl (lv_at hl 0 rfl) ?_
  refine lv_iconst (v := 2) hx hb dL_law_412 (by decide) ?_
  refine lv_iadd hx hb dL_law_413 ?_
  refine va_sld hx hb hX hbl hbA hh.2.2 (lw_in (k := 2) (by omega) hL) dL_law_414 ?_
  have h := hok ck mk pr xs o (xv (nI n + 1).toNatClampNeg) (xv (nI n + 2).toNatClampNeg) hI
  have hc := hh.cut [_, _, _] [_, _, _, _, _, _, _, _, _, _, _, _, _, _, _, _, _] [0, 4, 18, 1, 2, 3, 5, 6, 7, 8, 9, 10, 11, 12, 13, 14, 15, 16, 17, 19] 20 rfl (by decide +kernel) rfl
  refine kI hc hA (rnV hx hb hml hown hT hK hc (c_X9_maker l D E ad mk (xs 0) (xs 4) (xv (nI n + 1).toNatClampNeg) (xv (nI n + 2).toNatClampNeg) h _) mf_X9_maker kml_L_48 ⟨rfl, rfl, Nat.le_of_ble_eq_true rfl, Nat.le_of_ble_eq_true rfl⟩ ⟨by show _ ≤ 600000; omega, by show _ ≤ 7302250; omega⟩ 9 0 rfl rfl hl.1 rfl dL_law_415 (Nat.le_of_ble_eq_true rfl) rfl) (fun r u H locs h hN => ?_)
  obtain ⟨x2, k2⟩ := u
  obtain ⟨g0, h⟩ := h
  rw [← g0] at hN
  have hh : Wh D (fun q => s.heap.size ≤ q) s.heap (List.flatten [bX9 ad E x2, bX1 ad E (xs 1), bX3 (ad 2) E (xs 2), bX3 (ad 3) E (xs 3), bX5 ad E k2, bX8 (ad 5) E (xs 5), bX2 (ad 6) E (xs 6), bX7 ad E (xs 7), bX2 (ad 8) E (xs 8), bX8 (ad 9) E (xs 9), bX8 (ad 10) E (xs 10), bX8 (ad 11) E (xs 11), bX2 (ad 12) E (xs 12), bX8 (ad 13) E (xs 13), bX8 (ad 14) E (xs 14), bX2 (ad 15) E (xs 15), bX10 a E o, dC ad E ck ((xs 1).2.1 1).toNatClampNeg, dK ad E mk (k2.2.1 1).toNatClampNeg, dP ad E pr (x2.2.1 4).toNatClampNeg]) _ _ := Wh.back (cs := [_, _, _]) (rs := [_, _, _, _, _, _, _, _, _, _, _, _, _, _, _, _, _]) _ [0, 3, 4, 5, 1, 6, 7, 8, 9, 10, 11, 12, 13, 14, 15, 16, 17, 18, 2, 19] 20 rfl (by decide +kernel) rfl hN
  refine lv_aload_n hx hb dL_law_418 rfl (lv_at hl 3 rfl) ?_
  refine lv_aload_n hx hb dL_law_419 rfl (lv_at hl 1 rfl) ?_
  refine lv_iload_n hx hb dL_law_420 rfl (lv_at hl 0 rfl) ?_
  refine lv_iconst (v := 1) hx hb dL_law_421 (by decide) ?_
  refine lv_iadd hx hb dL_law_422 ?_
  refine va_sld hx hb hX hbl hbA hh.2.2 (lw_in (k := 1) (by omega) hL) dL_law_423 ?_
  refine lv_aload_n hx hb dL_law_424 rfl (lv_at hl 1 rfl) ?_
  refine lv_iload_n hx hb dL_law_425 rfl (lv_at hl 0 rfl) ?_
  refine lv_iconst (v := 2) hx hb dL_law_426 (by decide) ?_
  refine lv_iadd hx hb dL_law_427 ?_
  refine va_sld hx hb hX hbl hbA hh.2.2 (lw_in (k := 2) (by omega) hL) dL_law_428 ?_
  have hc := hh.cut [_] [_, _, _, _, _, _, _, _, _, _, _, _, _, _, _, _, _, _, _] [16, 0, 1, 2, 3, 4, 5, 6, 7, 8, 9, 10, 11, 12, 13, 14, 15, 17, 18, 19] 20 rfl (by decide +kernel) rfl
  refine kI hc hA (rnV hx hb hml hown hT hK hc (c_X10_maker l D E a o (xv (nI n + 1).toNatClampNeg) (xv (nI n + 2).toNatClampNeg) h _) mf_X10_maker kml_L_51 ⟨rfl, rfl, Nat.le_of_ble_eq_true rfl, Nat.le_of_ble_eq_true rfl⟩ ⟨by show _ ≤ 600000; omega, by show _ ≤ 7302250; omega⟩ 10 0 rfl rfl hl.1 rfl dL_law_429 (Nat.le_of_ble_eq_true rfl) rfl) (fun r2 o2 H locs h hN => ?_)
  have hh : Wh D (fun q => s.heap.size ≤ q) s.heap (List.flatten [bX9 ad E x2, bX1 ad E (xs 1), bX3 (ad 2) E (xs 2), bX3 (ad 3) E (xs 3), bX5 ad E k2, bX8 (ad 5) E (xs 5), bX2 (ad 6) E (xs 6), bX7 ad E (xs 7), bX2 (ad 8) E (xs 8), bX8 (ad 9) E (xs 9), bX8 (ad 10) E (xs 10), bX8 (ad 11) E (xs 11), bX2 (ad 12) E (xs 12), bX8 (ad 13) E (xs 13), bX8 (ad 14) E (xs 14), bX2 (ad 15) E (xs 15), bX10 a E o2, dC ad E ck ((xs 1).2.1 1).toNatClampNeg, dK ad E mk (k2.2.1 1).toNatClampNeg, dP ad E pr (x2.2.1 4).toNatClampNeg]) _ _ := Wh.back (cs := [_]) (rs := [_, _, _, _, _, _, _, _, _, _, _, _, _, _, _, _, _, _, _]) _ [1, 2, 3, 4, 5, 6, 7, 8, 9, 10, 11, 12, 13, 14, 15, 16, 0, 17, 18, 19] 20 rfl (by decide +kernel) rfl hN
  obtain ⟨hre, hI⟩ := h
  refine lv_icmp_eq (tgt := 997) hx hb dL_law_432 (by decide) (fun _ => ?_) (fun cc => absurd hre cc)
  refine W.widen (k := 100 + n + 6) (n := 50000 + 2 * n + 12) (by omega) (by omega) ?_
  exact kk ad ck mk pr (ux (ux xs 0 x2) 4 k2) o2 _ _ _ hI rfl hh hl
def OK_check (Inv : LInv) : Prop := ∀ (ck mk pr xs : Nat → Ob) (o : Ob) (v1 : Int32) (v2 : Int32) (v3 : Int32), Inv ck mk pr xs o → w_X9_check ck v1 v2 v3 (xs 0) (xs 1) (fun (r : Int32) (ck2 : Nat → Ob) (x2 : Ob) (j2 : Ob) => (x2.2.1 4 = (xs 0).2.1 4) ∧ w_X10_check v1 v2 v3 o (fun (r2 : Int32) (o2 : Ob) => r = r2 ∧ Inv ck2 mk pr (ux (ux xs 0 x2) 1 j2) o2))
set_option maxRecDepth 100000 in
set_option maxHeartbeats 8000000 in
theorem law_check {p : Program} {l : Launch} {e : Env} {s : State} {m : MethodId} {below : List Frame} {meth : Method} {c : Code} {Q : State → Prop} {D : va_G} {E : Nat → ClassId} {b L : Nat} {xv : Nat → Int32} (Inv : LInv) (hok : OK_check Inv) (C0 : LC p s m c D E b L xv) (hL : L ≤ 3072) {n : Nat} (hn : n + 6 ≤ L) {ad : Nat → Nat → Nat} {a : Nat → Nat} {ck mk pr xs : Nat → Ob} {o : Ob} {H : Heap} {locs : List Loc} {ls : Array Slot} (hI : Inv ck mk pr xs o) (hh : Wh D (fun q => s.heap.size ≤ q) s.heap (List.flatten (wL ad a E ck mk pr xs o)) H locs) (hl : lv_has ls 4 [(3, .int (nI n)), (0, .ref b), (1, .ref (ad 0 0)), (2, .ref (a 0))])
    (kk : ∀ (ad2 : Nat → Nat → Nat) (ck2 mk2 pr2 xs2 : Nat → Ob) (o2 : Ob) (H : Heap) (locs : List Loc) (ls : Array Slot), Inv ck2 mk2 pr2 xs2 o2 → ad2 0 0 = ad 0 0 → Wh D (fun q => s.heap.size ≤ q) s.heap (List.flatten (wL ad2 a E ck2 mk2 pr2 xs2 o2)) H locs → lv_has ls 4 [(3, .int (nI n)), (0, .ref b), (1, .ref (ad 0 0)), (2, .ref (a 0))] → W p l e room_1 s m #[Value.ref b] below meth c H locs (100 + n + 6) (50000 + 2 * n + 12) Q (F0 m 997 ls [])) :
    W p l e room_1 s m #[Value.ref b] below meth c H locs (100 + n) (50000 + 2 * n) Q (F0 m 437 ls []) := by
  obtain ⟨hx, hb, hml, hown, hT, hK, hX, hbl⟩ := C0
  have hA : ∀ q : Nat, s.heap.size ≤ q → (fun q : Nat => s.heap.size ≤ q) q := fun _ h => h
  have hbA : ¬ (fun q : Nat => s.heap.size ≤ q) b := Nat.not_le.mpr hbl
  have hh : Wh D (fun q => s.heap.size ≤ q) s.heap (List.flatten [bX9 ad E (xs 0), bX1 ad E (xs 1), bX3 (ad 2) E (xs 2), bX3 (ad 3) E (xs 3), bX5 ad E (xs 4), bX8 (ad 5) E (xs 5), bX2 (ad 6) E (xs 6), bX7 ad E (xs 7), bX2 (ad 8) E (xs 8), bX8 (ad 9) E (xs 9), bX8 (ad 10) E (xs 10), bX8 (ad 11) E (xs 11), bX2 (ad 12) E (xs 12), bX8 (ad 13) E (xs 13), bX8 (ad 14) E (xs 14), bX2 (ad 15) E (xs 15), bX10 a E o, dC ad E ck ((xs 1).2.1 1).toNatClampNeg, dK ad E mk ((xs 4).2.1 1).toNatClampNeg, dP ad E pr ((xs 0).2.1 4).toNatClampNeg]) _ _ := hh
  refine lv_aload_n hx hb dL_law_437 rfl (lv_at hl 2 rfl) ?_
  refine lv_aload_n hx hb dL_law_438 rfl (lv_at hl 1 rfl) ?_
  refine lv_iload_n hx hb dL_law_439 rfl (lv_at hl 0 rfl) ?_
  refine lv_iconst (v := 1) hx hb dL_law_440 (by decide) ?_
  refine lv_iadd hx hb dL_law_441 ?_
  refine va_sld hx hb hX hbl hbA hh.2.2 (lw_in (k := 1) (by omega) hL) dL_law_442 ?_
  refine lv_aload_n hx hb dL_law_443 rfl (lv_at hl 1 rfl) ?_
  refine lv_iload_n hx hb dL_law_444 rfl (lv_at hl 0 rfl) ?_
  refine lv_iconst (v := 2) hx hb dL_law_445 (by decide) ?_
  refine lv_iadd hx hb dL_law_446 ?_
  refine va_sld hx hb hX hbl hbA hh.2.2 (lw_in (k := 2) (by omega) hL) dL_law_447 ?_
  refine lv_aload_n hx hb dL_law_448 rfl (lv_at hl 1 rfl) ?_
  refine lv_iload_n hx hb dL_law_449 rfl (lv_at hl 0 rfl) ?_
  refine lv_iconst (v := 3) hx hb dL_law_450 (by decide) ?_
  refine lv_iadd hx hb dL_law_451 ?_
  refine va_sld hx hb hX hbl hbA hh.2.2 (lw_in (k := 3) (by omega) hL) dL_law_452 ?_
  have h := hok ck mk pr xs o (xv (nI n + 1).toNatClampNeg) (xv (nI n + 2).toNatClampNeg) (xv (nI n + 3).toNatClampNeg) hI
  have hc := hh.cut [_, _, _] [_, _, _, _, _, _, _, _, _, _, _, _, _, _, _, _, _] [0, 1, 17, 2, 3, 4, 5, 6, 7, 8, 9, 10, 11, 12, 13, 14, 15, 16, 18, 19] 20 rfl (by decide +kernel) rfl
  refine kI hc hA (rnV hx hb hml hown hT hK hc (c_X9_check l D E ad ck (xs 0) (xs 1) (xv (nI n + 1).toNatClampNeg) (xv (nI n + 2).toNatClampNeg) (xv (nI n + 3).toNatClampNeg) h _) mf_X9_check kml_L_52 ⟨rfl, rfl, Nat.le_of_ble_eq_true rfl, Nat.le_of_ble_eq_true rfl⟩ ⟨by show _ ≤ 600000; omega, by show _ ≤ 7302250; omega⟩ 9 0 rfl rfl hl.1 rfl dL_law_453 (Nat.le_of_ble_eq_true rfl) rfl) (fun r u H locs h hN => ?_)
  obtain ⟨ad2, ck2, x2, j2⟩ := u
  obtain ⟨hag, h⟩ := h
  obtain ⟨g0, h⟩ := h
  rw [← g0] at hN
  have hh : Wh D (fun q => s.heap.size ≤ q) s.heap (List.flatten [bX9 ad2 E x2, bX1 ad2 E j2, bX3 (ad 2) E (xs 2), bX3 (ad 3) E (xs 3), bX5 ad E (xs 4), bX8 (ad 5) E (xs 5), bX2 (ad 6) E (xs 6), bX7 ad E (xs 7), bX2 (ad 8) E (xs 8), bX8 (ad 9) E (xs 9), bX8 (ad 10) E (xs 10), bX8 (ad 11) E (xs 11), bX2 (ad 12) E (xs 12), bX8 (ad 13) E (xs 13), bX8 (ad 14) E (xs 14), bX2 (ad 15) E (xs 15), bX10 a E o, dC ad2 E ck2 (j2.2.1 1).toNatClampNeg, dK ad E mk ((xs 4).2.1 1).toNatClampNeg, dP ad E pr (x2.2.1 4).toNatClampNeg]) _ _ := Wh.back (cs := [_, _, _]) (rs := [_, _, _, _, _, _, _, _, _, _, _, _, _, _, _, _, _]) _ [0, 1, 3, 4, 5, 6, 7, 8, 9, 10, 11, 12, 13, 14, 15, 16, 17, 2, 18, 19] 20 rfl (by decide +kernel) rfl hN
  rw [show ad 2 = ad2 2 from (hag 2 (by decide)).symm, show ad 3 = ad2 3 from (hag 3 (by decide)).symm, show bX5 ad E (xs 4) = bX5 ad2 E (xs 4) from bX5_ag2 (hag 1 (by decide)) (hag 4 (by decide)) (hag 5 (by decide)) (hag 6 (by decide)) (hag 21 (by decide)), show ad 5 = ad2 5 from (hag 5 (by decide)).symm, show ad 6 = ad2 6 from (hag 6 (by decide)).symm, show bX7 ad E (xs 7) = bX7 ad2 E (xs 7) from bX7_ag (hag 1 (by decide)) (hag 7 (by decide)) (hag 8 (by decide)) (hag 9 (by decide)) (hag 10 (by decide)), show ad 8 = ad2 8 from (hag 8 (by decide)).symm, show ad 9 = ad2 9 from (hag 9 (by decide)).symm, show ad 10 = ad2 10 from (hag 10 (by decide)).symm, show ad 11 = ad2 11 from (hag 11 (by decide)).symm, show ad 12 = ad2 12 from (hag 12 (by decide)).symm, show ad 13 = ad2 13 from (hag 13 (by decide)).symm, show ad 14 = ad2 14 from (hag 14 (by decide)).symm, show ad 15 = ad2 15 from (hag 15 (by decide)).symm, show dK ad E mk _ = dK ad2 E mk _ from dK_ag (hag 21 (by decide)), show dP ad E pr _ = dP ad2 E pr _ from dP_ag (hag 22 (by decide)) (hag 25 (by decide))] at hh
  refine lv_aload_n hx hb dL_law_456 rfl (lv_at hl 3 rfl) ?_
  refine lv_aload_n hx hb dL_law_457 rfl (lv_at hl 1 rfl) ?_
  refine lv_iload_n hx hb dL_law_458 rfl (lv_at hl 0 rfl) ?_
  refine lv_iconst (v := 1) hx hb dL_law_459 (by decide) ?_
  refine lv_iadd hx hb dL_law_460 ?_
  refine va_sld hx hb hX hbl hbA hh.2.2 (lw_in (k := 1) (by omega) hL) dL_law_461 ?_
  refine lv_aload_n hx hb dL_law_462 rfl (lv_at hl 1 rfl) ?_
  refine lv_iload_n hx hb dL_law_463 rfl (lv_at hl 0 rfl) ?_
  refine lv_iconst (v := 2) hx hb dL_law_464 (by decide) ?_
  refine lv_iadd hx hb dL_law_465 ?_
  refine va_sld hx hb hX hbl hbA hh.2.2 (lw_in (k := 2) (by omega) hL) dL_law_466 ?_
  refine lv_aload_n hx hb dL_law_467 rfl (lv_at hl 1 rfl) ?_
  refine lv_iload_n hx hb dL_law_468 rfl (lv_at hl 0 rfl) ?_
  refine lv_iconst (v := 3) hx hb dL_law_469 (by decide) ?_
  refine lv_iadd hx hb dL_law_470 ?_
  refine va_sld hx hb hX hbl hbA hh.2.2 (lw_in (k := 3) (by omega) hL) dL_law_471 ?_
  have hc := hh.cut [_] [_, _, _, _, _, _, _, _, _, _, _, _, _, _, _, _, _, _, _] [16, 0, 1, 2, 3, 4, 5, 6, 7, 8, 9, 10, 11, 12, 13, 14, 15, 17, 18, 19] 20 rfl (by decide +kernel) rfl
  refine kI hc hA (rnV hx hb hml hown hT hK hc (c_X10_check l D E a o (xv (nI n + 1).toNatClampNeg) (xv (nI n + 2).toNatClampNeg) (xv (nI n + 3).toNatClampNeg) h _) mf_X10_check kml_L_56 ⟨rfl, rfl, Nat.le_of_ble_eq_true rfl, Nat.le_of_ble_eq_true rfl⟩ ⟨by show _ ≤ 600000; omega, by show _ ≤ 7302250; omega⟩ 10 0 rfl rfl hl.1 rfl dL_law_472 (Nat.le_of_ble_eq_true rfl) rfl) (fun r2 o2 H locs h hN => ?_)
  have hh : Wh D (fun q => s.heap.size ≤ q) s.heap (List.flatten [bX9 ad2 E x2, bX1 ad2 E j2, bX3 (ad2 2) E (xs 2), bX3 (ad2 3) E (xs 3), bX5 ad2 E (xs 4), bX8 (ad2 5) E (xs 5), bX2 (ad2 6) E (xs 6), bX7 ad2 E (xs 7), bX2 (ad2 8) E (xs 8), bX8 (ad2 9) E (xs 9), bX8 (ad2 10) E (xs 10), bX8 (ad2 11) E (xs 11), bX2 (ad2 12) E (xs 12), bX8 (ad2 13) E (xs 13), bX8 (ad2 14) E (xs 14), bX2 (ad2 15) E (xs 15), bX10 a E o2, dC ad2 E ck2 (j2.2.1 1).toNatClampNeg, dK ad2 E mk ((xs 4).2.1 1).toNatClampNeg, dP ad2 E pr (x2.2.1 4).toNatClampNeg]) _ _ := Wh.back (cs := [_]) (rs := [_, _, _, _, _, _, _, _, _, _, _, _, _, _, _, _, _, _, _]) _ [1, 2, 3, 4, 5, 6, 7, 8, 9, 10, 11, 12, 13, 14, 15, 16, 0, 17, 18, 19] 20 rfl (by decide +kernel) rfl hN
  obtain ⟨hre, hI⟩ := h
  refine lv_icmp_eq (tgt := 997) hx hb dL_law_475 (by decide) (fun _ => ?_) (fun cc => absurd hre cc)
  refine W.widen (k := 100 + n + 6) (n := 50000 + 2 * n + 12) (by omega) (by omega) ?_
  exact kk ad2 ck2 mk pr (ux (ux xs 0 x2) 1 j2) o2 _ _ _ hI (congrFun (hag 0 (by decide)) 0) hh hl
def OK_make (Inv : LInv) : Prop := ∀ (ck mk pr xs : Nat → Ob) (o : Ob) (v1 : Int32) (v2 : Int64) (v3 : Int32), Inv ck mk pr xs o → w_X9_make ck mk v1 v2 v3 (xs 0) (xs 4) (xs 5) (xs 6) (xs 1) (xs 2) (xs 3) (xs 11) (xs 12) (fun (r : Int32) (x2 : Ob) (k2 : Ob) (kt2 : Ob) (kl2 : Ob) (j2 : Ob) (mc2 : Ob) (md2 : Ob) (sh2 : Ob) (shl2 : Ob) => (x2.2.1 4 = (xs 0).2.1 4) ∧ w_X10_make v1 v2 v3 o (fun (r2 : Int32) (o2 : Ob) => r = r2 ∧ Inv ck mk pr (ux (ux (ux (ux (ux (ux (ux (ux (ux xs 0 x2) 4 k2) 5 kt2) 6 kl2) 1 j2) 2 mc2) 3 md2) 11 sh2) 12 shl2) o2))
set_option maxRecDepth 100000 in
set_option maxHeartbeats 8000000 in
theorem law_make {p : Program} {l : Launch} {e : Env} {s : State} {m : MethodId} {below : List Frame} {meth : Method} {c : Code} {Q : State → Prop} {D : va_G} {E : Nat → ClassId} {b L : Nat} {xv : Nat → Int32} (Inv : LInv) (hok : OK_make Inv) (C0 : LC p s m c D E b L xv) (hL : L ≤ 3072) {n : Nat} (hn : n + 6 ≤ L) {ad : Nat → Nat → Nat} {a : Nat → Nat} {ck mk pr xs : Nat → Ob} {o : Ob} {H : Heap} {locs : List Loc} {ls : Array Slot} (hI : Inv ck mk pr xs o) (hh : Wh D (fun q => s.heap.size ≤ q) s.heap (List.flatten (wL ad a E ck mk pr xs o)) H locs) (hl : lv_has ls 4 [(3, .int (nI n)), (0, .ref b), (1, .ref (ad 0 0)), (2, .ref (a 0))])
    (kk : ∀ (ad2 : Nat → Nat → Nat) (ck2 mk2 pr2 xs2 : Nat → Ob) (o2 : Ob) (H : Heap) (locs : List Loc) (ls : Array Slot), Inv ck2 mk2 pr2 xs2 o2 → ad2 0 0 = ad 0 0 → Wh D (fun q => s.heap.size ≤ q) s.heap (List.flatten (wL ad2 a E ck2 mk2 pr2 xs2 o2)) H locs → lv_has ls 4 [(3, .int (nI n)), (0, .ref b), (1, .ref (ad 0 0)), (2, .ref (a 0))] → W p l e room_1 s m #[Value.ref b] below meth c H locs (100 + n + 6) (50000 + 2 * n + 12) Q (F0 m 997 ls [])) :
    W p l e room_1 s m #[Value.ref b] below meth c H locs (100 + n) (50000 + 2 * n) Q (F0 m 480 ls []) := by
  obtain ⟨hx, hb, hml, hown, hT, hK, hX, hbl⟩ := C0
  have hA : ∀ q : Nat, s.heap.size ≤ q → (fun q : Nat => s.heap.size ≤ q) q := fun _ h => h
  have hbA : ¬ (fun q : Nat => s.heap.size ≤ q) b := Nat.not_le.mpr hbl
  have hh : Wh D (fun q => s.heap.size ≤ q) s.heap (List.flatten [bX9 ad E (xs 0), bX1 ad E (xs 1), bX3 (ad 2) E (xs 2), bX3 (ad 3) E (xs 3), bX5 ad E (xs 4), bX8 (ad 5) E (xs 5), bX2 (ad 6) E (xs 6), bX7 ad E (xs 7), bX2 (ad 8) E (xs 8), bX8 (ad 9) E (xs 9), bX8 (ad 10) E (xs 10), bX8 (ad 11) E (xs 11), bX2 (ad 12) E (xs 12), bX8 (ad 13) E (xs 13), bX8 (ad 14) E (xs 14), bX2 (ad 15) E (xs 15), bX10 a E o, dC ad E ck ((xs 1).2.1 1).toNatClampNeg, dK ad E mk ((xs 4).2.1 1).toNatClampNeg, dP ad E pr ((xs 0).2.1 4).toNatClampNeg]) _ _ := hh
  refine lv_aload_n hx hb dL_law_480 rfl (lv_at hl 2 rfl) ?_
  refine lv_aload_n hx hb dL_law_481 rfl (lv_at hl 1 rfl) ?_
  refine lv_iload_n hx hb dL_law_482 rfl (lv_at hl 0 rfl) ?_
  refine lv_iconst (v := 1) hx hb dL_law_483 (by decide) ?_
  refine lv_iadd hx hb dL_law_484 ?_
  refine va_sld hx hb hX hbl hbA hh.2.2 (lw_in (k := 1) (by omega) hL) dL_law_485 ?_
  refine lv_aload_n hx hb dL_law_486 rfl (lv_at hl 1 rfl) ?_
  refine lv_iload_n hx hb dL_law_487 rfl (lv_at hl 0 rfl) ?_
  refine lv_iconst (v := 2) hx hb dL_law_488 (by decide) ?_
  refine lv_iadd hx hb dL_law_489 ?_
  refine va_sld hx hb hX hbl hbA hh.2.2 (lw_in (k := 2) (by omega) hL) dL_law_490 ?_
  refine lv_i2l (v := (xv (nI n + 2).toNatClampNeg).toInt64) hx hb dL_law_491 rfl ?_
  refine lv_bipush (v := 32) hx hb dL_law_492 (by decide) ?_
  refine lv_lshl (v := (xv (nI n + 2).toNatClampNeg).toInt64 <<< ((32 : Int32).toInt64 &&& 63)) hx hb dL_law_494 rfl ?_
  refine lv_aload_n hx hb dL_law_495 rfl (lv_at hl 1 rfl) ?_
  refine lv_iload_n hx hb dL_law_496 rfl (lv_at hl 0 rfl) ?_
  refine lv_iconst (v := 3) hx hb dL_law_497 (by decide) ?_
  refine lv_iadd hx hb dL_law_498 ?_
  refine va_sld hx hb hX hbl hbA hh.2.2 (lw_in (k := 3) (by omega) hL) dL_law_499 ?_
  refine lv_i2l (v := (xv (nI n + 3).toNatClampNeg).toInt64) hx hb dL_law_500 rfl ?_
  refine lv_ldc2 (v := 4294967295) hx hb hown (hT _ kcL_L_57) dL_law_501 ?_
  refine lv_land hx hb dL_law_504 ?_
  refine lv_lor hx hb dL_law_505 ?_
  refine lv_aload_n hx hb dL_law_506 rfl (lv_at hl 1 rfl) ?_
  refine lv_iload_n hx hb dL_law_507 rfl (lv_at hl 0 rfl) ?_
  refine lv_iconst (v := 4) hx hb dL_law_508 (by decide) ?_
  refine lv_iadd hx hb dL_law_509 ?_
  refine va_sld hx hb hX hbl hbA hh.2.2 (lw_in (k := 4) (by omega) hL) dL_law_510 ?_
  have h := hok ck mk pr xs o (xv (nI n + 1).toNatClampNeg) ((((xv (nI n + 2).toNatClampNeg).toInt64 <<< ((32 : Int32).toInt64 &&& 63)) ||| ((xv (nI n + 3).toNatClampNeg).toInt64 &&& 4294967295))) (xv (nI n + 4).toNatClampNeg) hI
  have hc := hh.cut [_, _, _, _, _, _, _, _, _, _, _] [_, _, _, _, _, _, _, _, _] [0, 4, 5, 6, 1, 2, 3, 11, 12, 17, 18, 7, 8, 9, 10, 13, 14, 15, 16, 19] 20 rfl (by decide +kernel) rfl
  refine kI hc hA (rnV hx hb hml hown hT hK hc (c_X9_make l D E ad ck mk (xs 0) (xs 4) (xs 5) (xs 6) (xs 1) (xs 2) (xs 3) (xs 11) (xs 12) (xv (nI n + 1).toNatClampNeg) ((((xv (nI n + 2).toNatClampNeg).toInt64 <<< ((32 : Int32).toInt64 &&& 63)) ||| ((xv (nI n + 3).toNatClampNeg).toInt64 &&& 4294967295))) (xv (nI n + 4).toNatClampNeg) h _) mf_X9_make kml_L_59 ⟨rfl, rfl, Nat.le_of_ble_eq_true rfl, Nat.le_of_ble_eq_true rfl⟩ ⟨by show _ ≤ 600000; omega, by show _ ≤ 7302250; omega⟩ 9 0 rfl rfl hl.1 rfl dL_law_511 (Nat.le_of_ble_eq_true rfl) rfl) (fun r u H locs h hN => ?_)
  obtain ⟨x2, k2, kt2, kl2, j2, mc2, md2, sh2, shl2⟩ := u
  obtain ⟨g0, h⟩ := h
  rw [← g0] at hN
  have hh : Wh D (fun q => s.heap.size ≤ q) s.heap (List.flatten [bX9 ad E x2, bX1 ad E j2, bX3 (ad 2) E mc2, bX3 (ad 3) E md2, bX5 ad E k2, bX8 (ad 5) E kt2, bX2 (ad 6) E kl2, bX7 ad E (xs 7), bX2 (ad 8) E (xs 8), bX8 (ad 9) E (xs 9), bX8 (ad 10) E (xs 10), bX8 (ad 11) E sh2, bX2 (ad 12) E shl2, bX8 (ad 13) E (xs 13), bX8 (ad 14) E (xs 14), bX2 (ad 15) E (xs 15), bX10 a E o, dC ad E ck (j2.2.1 1).toNatClampNeg, dK ad E mk (k2.2.1 1).toNatClampNeg, dP ad E pr (x2.2.1 4).toNatClampNeg]) _ _ := Wh.back (cs := [_, _, _, _, _, _, _, _, _, _, _]) (rs := [_, _, _, _, _, _, _, _, _]) _ [0, 4, 5, 6, 1, 2, 3, 11, 12, 13, 14, 7, 8, 15, 16, 17, 18, 9, 10, 19] 20 rfl (by decide +kernel) rfl hN
  refine lv_aload_n hx hb dL_law_514 rfl (lv_at hl 3 rfl) ?_
  refine lv_aload_n hx hb dL_law_515 rfl (lv_at hl 1 rfl) ?_
  refine lv_iload_n hx hb dL_law_516 rfl (lv_at hl 0 rfl) ?_
  refine lv_iconst (v := 1) hx hb dL_law_517 (by decide) ?_
  refine lv_iadd hx hb dL_law_518 ?_
  refine va_sld hx hb hX hbl hbA hh.2.2 (lw_in (k := 1) (by omega) hL) dL_law_519 ?_
  refine lv_aload_n hx hb dL_law_520 rfl (lv_at hl 1 rfl) ?_
  refine lv_iload_n hx hb dL_law_521 rfl (lv_at hl 0 rfl) ?_
  refine lv_iconst (v := 2) hx hb dL_law_522 (by decide) ?_
  refine lv_iadd hx hb dL_law_523 ?_
  refine va_sld hx hb hX hbl hbA hh.2.2 (lw_in (k := 2) (by omega) hL) dL_law_524 ?_
  refine lv_i2l (v := (xv (nI n + 2).toNatClampNeg).toInt64) hx hb dL_law_525 rfl ?_
  refine lv_bipush (v := 32) hx hb dL_law_526 (by decide) ?_
  refine lv_lshl (v := (xv (nI n + 2).toNatClampNeg).toInt64 <<< ((32 : Int32).toInt64 &&& 63)) hx hb dL_law_528 rfl ?_
  refine lv_aload_n hx hb dL_law_529 rfl (lv_at hl 1 rfl) ?_
  refine lv_iload_n hx hb dL_law_530 rfl (lv_at hl 0 rfl) ?_
  refine lv_iconst (v := 3) hx hb dL_law_531 (by decide) ?_
  refine lv_iadd hx hb dL_law_532 ?_
  refine va_sld hx hb hX hbl hbA hh.2.2 (lw_in (k := 3) (by omega) hL) dL_law_533 ?_
  refine lv_i2l (v := (xv (nI n + 3).toNatClampNeg).toInt64) hx hb dL_law_534 rfl ?_
  refine lv_ldc2 (v := 4294967295) hx hb hown (hT _ kcL_L_57) dL_law_535 ?_
  refine lv_land hx hb dL_law_538 ?_
  refine lv_lor hx hb dL_law_539 ?_
  refine lv_aload_n hx hb dL_law_540 rfl (lv_at hl 1 rfl) ?_
  refine lv_iload_n hx hb dL_law_541 rfl (lv_at hl 0 rfl) ?_
  refine lv_iconst (v := 4) hx hb dL_law_542 (by decide) ?_
  refine lv_iadd hx hb dL_law_543 ?_
  refine va_sld hx hb hX hbl hbA hh.2.2 (lw_in (k := 4) (by omega) hL) dL_law_544 ?_
  have hc := hh.cut [_] [_, _, _, _, _, _, _, _, _, _, _, _, _, _, _, _, _, _, _] [16, 0, 1, 2, 3, 4, 5, 6, 7, 8, 9, 10, 11, 12, 13, 14, 15, 17, 18, 19] 20 rfl (by decide +kernel) rfl
  refine kI hc hA (rnV hx hb hml hown hT hK hc (c_X10_make l D E a o (xv (nI n + 1).toNatClampNeg) ((((xv (nI n + 2).toNatClampNeg).toInt64 <<< ((32 : Int32).toInt64 &&& 63)) ||| ((xv (nI n + 3).toNatClampNeg).toInt64 &&& 4294967295))) (xv (nI n + 4).toNatClampNeg) h _) mf_X10_make kml_L_63 ⟨rfl, rfl, Nat.le_of_ble_eq_true rfl, Nat.le_of_ble_eq_true rfl⟩ ⟨by show _ ≤ 600000; omega, by show _ ≤ 7302250; omega⟩ 10 0 rfl rfl hl.1 rfl dL_law_545 (Nat.le_of_ble_eq_true rfl) rfl) (fun r2 o2 H locs h hN => ?_)
  have hh : Wh D (fun q => s.heap.size ≤ q) s.heap (List.flatten [bX9 ad E x2, bX1 ad E j2, bX3 (ad 2) E mc2, bX3 (ad 3) E md2, bX5 ad E k2, bX8 (ad 5) E kt2, bX2 (ad 6) E kl2, bX7 ad E (xs 7), bX2 (ad 8) E (xs 8), bX8 (ad 9) E (xs 9), bX8 (ad 10) E (xs 10), bX8 (ad 11) E sh2, bX2 (ad 12) E shl2, bX8 (ad 13) E (xs 13), bX8 (ad 14) E (xs 14), bX2 (ad 15) E (xs 15), bX10 a E o2, dC ad E ck (j2.2.1 1).toNatClampNeg, dK ad E mk (k2.2.1 1).toNatClampNeg, dP ad E pr (x2.2.1 4).toNatClampNeg]) _ _ := Wh.back (cs := [_]) (rs := [_, _, _, _, _, _, _, _, _, _, _, _, _, _, _, _, _, _, _]) _ [1, 2, 3, 4, 5, 6, 7, 8, 9, 10, 11, 12, 13, 14, 15, 16, 0, 17, 18, 19] 20 rfl (by decide +kernel) rfl hN
  obtain ⟨hre, hI⟩ := h
  refine lv_icmp_eq (tgt := 997) hx hb dL_law_548 (by decide) (fun _ => ?_) (fun cc => absurd hre cc)
  refine W.widen (k := 100 + n + 6) (n := 50000 + 2 * n + 12) (by omega) (by omega) ?_
  exact kk ad ck mk pr (ux (ux (ux (ux (ux (ux (ux (ux (ux xs 0 x2) 4 k2) 5 kt2) 6 kl2) 1 j2) 2 mc2) 3 md2) 11 sh2) 12 shl2) o2 _ _ _ hI rfl hh hl
def OK_smaller (Inv : LInv) : Prop := ∀ (ck mk pr xs : Nat → Ob) (o : Ob) (v1 : Int32), Inv ck mk pr xs o → w_X9_smaller ck v1 (xs 0) (xs 7) (xs 8) (xs 9) (xs 10) (xs 1) (xs 2) (xs 3) (xs 11) (xs 12) (fun (r : Int32) (x2 : Ob) (sk2 : Ob) (sl2 : Ob) (sb2 : Ob) (sn2 : Ob) (j2 : Ob) (mc2 : Ob) (md2 : Ob) (sh2 : Ob) (shl2 : Ob) => (x2.2.1 4 = (xs 0).2.1 4) ∧ w_X10_smaller v1 o (fun (r2 : Int32) (o2 : Ob) => r = r2 ∧ Inv ck mk pr (ux (ux (ux (ux (ux (ux (ux (ux (ux (ux xs 0 x2) 7 sk2) 8 sl2) 9 sb2) 10 sn2) 1 j2) 2 mc2) 3 md2) 11 sh2) 12 shl2) o2))
set_option maxRecDepth 100000 in
set_option maxHeartbeats 8000000 in
theorem law_smaller {p : Program} {l : Launch} {e : Env} {s : State} {m : MethodId} {below : List Frame} {meth : Method} {c : Code} {Q : State → Prop} {D : va_G} {E : Nat → ClassId} {b L : Nat} {xv : Nat → Int32} (Inv : LInv) (hok : OK_smaller Inv) (C0 : LC p s m c D E b L xv) (hL : L ≤ 3072) {n : Nat} (hn : n + 6 ≤ L) {ad : Nat → Nat → Nat} {a : Nat → Nat} {ck mk pr xs : Nat → Ob} {o : Ob} {H : Heap} {locs : List Loc} {ls : Array Slot} (hI : Inv ck mk pr xs o) (hh : Wh D (fun q => s.heap.size ≤ q) s.heap (List.flatten (wL ad a E ck mk pr xs o)) H locs) (hl : lv_has ls 4 [(3, .int (nI n)), (0, .ref b), (1, .ref (ad 0 0)), (2, .ref (a 0))])
    (kk : ∀ (ad2 : Nat → Nat → Nat) (ck2 mk2 pr2 xs2 : Nat → Ob) (o2 : Ob) (H : Heap) (locs : List Loc) (ls : Array Slot), Inv ck2 mk2 pr2 xs2 o2 → ad2 0 0 = ad 0 0 → Wh D (fun q => s.heap.size ≤ q) s.heap (List.flatten (wL ad2 a E ck2 mk2 pr2 xs2 o2)) H locs → lv_has ls 4 [(3, .int (nI n)), (0, .ref b), (1, .ref (ad 0 0)), (2, .ref (a 0))] → W p l e room_1 s m #[Value.ref b] below meth c H locs (100 + n + 6) (50000 + 2 * n + 12) Q (F0 m 997 ls [])) :
    W p l e room_1 s m #[Value.ref b] below meth c H locs (100 + n) (50000 + 2 * n) Q (F0 m 553 ls []) := by
  obtain ⟨hx, hb, hml, hown, hT, hK, hX, hbl⟩ := C0
  have hA : ∀ q : Nat, s.heap.size ≤ q → (fun q : Nat => s.heap.size ≤ q) q := fun _ h => h
  have hbA : ¬ (fun q : Nat => s.heap.size ≤ q) b := Nat.not_le.mpr hbl
  have hh : Wh D (fun q => s.heap.size ≤ q) s.heap (List.flatten [bX9 ad E (xs 0), bX1 ad E (xs 1), bX3 (ad 2) E (xs 2), bX3 (ad 3) E (xs 3), bX5 ad E (xs 4), bX8 (ad 5) E (xs 5), bX2 (ad 6) E (xs 6), bX7 ad E (xs 7), bX2 (ad 8) E (xs 8), bX8 (ad 9) E (xs 9), bX8 (ad 10) E (xs 10), bX8 (ad 11) E (xs 11), bX2 (ad 12) E (xs 12), bX8 (ad 13) E (xs 13), bX8 (ad 14) E (xs 14), bX2 (ad 15) E (xs 15), bX10 a E o, dC ad E ck ((xs 1).2.1 1).toNatClampNeg, dK ad E mk ((xs 4).2.1 1).toNatClampNeg, dP ad E pr ((xs 0).2.1 4).toNatClampNeg]) _ _ := hh
  refine lv_aload_n hx hb dL_law_553 rfl (lv_at hl 2 rfl) ?_
  refine lv_aload_n hx hb dL_law_554 rfl (lv_at hl 1 rfl) ?_
  refine lv_iload_n hx hb dL_law_555 rfl (lv_at hl 0 rfl) ?_
  refine lv_iconst (v := 1) hx hb dL_law_556 (by decide) ?_
  refine lv_iadd hx hb dL_law_557 ?_
  refine va_sld hx hb hX hbl hbA hh.2.2 (lw_in (k := 1) (by omega) hL) dL_law_558 ?_
  have h := hok ck mk pr xs o (xv (nI n + 1).toNatClampNeg) hI
  have hc := hh.cut [_, _, _, _, _, _, _, _, _, _, _] [_, _, _, _, _, _, _, _, _] [0, 7, 8, 9, 10, 1, 2, 3, 11, 12, 17, 4, 5, 6, 13, 14, 15, 16, 18, 19] 20 rfl (by decide +kernel) rfl
  refine kI hc hA (rnV hx hb hml hown hT hK hc (c_X9_smaller l D E ad ck (xs 0) (xs 7) (xs 8) (xs 9) (xs 10) (xs 1) (xs 2) (xs 3) (xs 11) (xs 12) (xv (nI n + 1).toNatClampNeg) h _) mf_X9_smaller kml_L_64 ⟨rfl, rfl, Nat.le_of_ble_eq_true rfl, Nat.le_of_ble_eq_true rfl⟩ ⟨by show _ ≤ 600000; omega, by show _ ≤ 7302250; omega⟩ 9 0 rfl rfl hl.1 rfl dL_law_559 (Nat.le_of_ble_eq_true rfl) rfl) (fun r u H locs h hN => ?_)
  obtain ⟨x2, sk2, sl2, sb2, sn2, j2, mc2, md2, sh2, shl2⟩ := u
  obtain ⟨g0, h⟩ := h
  rw [← g0] at hN
  have hh : Wh D (fun q => s.heap.size ≤ q) s.heap (List.flatten [bX9 ad E x2, bX1 ad E j2, bX3 (ad 2) E mc2, bX3 (ad 3) E md2, bX5 ad E (xs 4), bX8 (ad 5) E (xs 5), bX2 (ad 6) E (xs 6), bX7 ad E sk2, bX2 (ad 8) E sl2, bX8 (ad 9) E sb2, bX8 (ad 10) E sn2, bX8 (ad 11) E sh2, bX2 (ad 12) E shl2, bX8 (ad 13) E (xs 13), bX8 (ad 14) E (xs 14), bX2 (ad 15) E (xs 15), bX10 a E o, dC ad E ck (j2.2.1 1).toNatClampNeg, dK ad E mk ((xs 4).2.1 1).toNatClampNeg, dP ad E pr (x2.2.1 4).toNatClampNeg]) _ _ := Wh.back (cs := [_, _, _, _, _, _, _, _, _, _, _]) (rs := [_, _, _, _, _, _, _, _, _]) _ [0, 5, 6, 7, 11, 12, 13, 1, 2, 3, 4, 8, 9, 14, 15, 16, 17, 10, 18, 19] 20 rfl (by decide +kernel) rfl hN
  refine lv_aload_n hx hb dL_law_562 rfl (lv_at hl 3 rfl) ?_
  refine lv_aload_n hx hb dL_law_563 rfl (lv_at hl 1 rfl) ?_
  refine lv_iload_n hx hb dL_law_564 rfl (lv_at hl 0 rfl) ?_
  refine lv_iconst (v := 1) hx hb dL_law_565 (by decide) ?_
  refine lv_iadd hx hb dL_law_566 ?_
  refine va_sld hx hb hX hbl hbA hh.2.2 (lw_in (k := 1) (by omega) hL) dL_law_567 ?_
  have hc := hh.cut [_] [_, _, _, _, _, _, _, _, _, _, _, _, _, _, _, _, _, _, _] [16, 0, 1, 2, 3, 4, 5, 6, 7, 8, 9, 10, 11, 12, 13, 14, 15, 17, 18, 19] 20 rfl (by decide +kernel) rfl
  refine kI hc hA (rnV hx hb hml hown hT hK hc (c_X10_smaller l D E a o (xv (nI n + 1).toNatClampNeg) h _) mf_X10_smaller kml_L_67 ⟨rfl, rfl, Nat.le_of_ble_eq_true rfl, Nat.le_of_ble_eq_true rfl⟩ ⟨by show _ ≤ 600000; omega, by show _ ≤ 7302250; omega⟩ 10 0 rfl rfl hl.1 rfl dL_law_568 (Nat.le_of_ble_eq_true rfl) rfl) (fun r2 o2 H locs h hN => ?_)
  have hh : Wh D (fun q => s.heap.size ≤ q) s.heap (List.flatten [bX9 ad E x2, bX1 ad E j2, bX3 (ad 2) E mc2, bX3 (ad 3) E md2, bX5 ad E (xs 4), bX8 (ad 5) E (xs 5), bX2 (ad 6) E (xs 6), bX7 ad E sk2, bX2 (ad 8) E sl2, bX8 (ad 9) E sb2, bX8 (ad 10) E sn2, bX8 (ad 11) E sh2, bX2 (ad 12) E shl2, bX8 (ad 13) E (xs 13), bX8 (ad 14) E (xs 14), bX2 (ad 15) E (xs 15), bX10 a E o2, dC ad E ck (j2.2.1 1).toNatClampNeg, dK ad E mk ((xs 4).2.1 1).toNatClampNeg, dP ad E pr (x2.2.1 4).toNatClampNeg]) _ _ := Wh.back (cs := [_]) (rs := [_, _, _, _, _, _, _, _, _, _, _, _, _, _, _, _, _, _, _]) _ [1, 2, 3, 4, 5, 6, 7, 8, 9, 10, 11, 12, 13, 14, 15, 16, 0, 17, 18, 19] 20 rfl (by decide +kernel) rfl hN
  obtain ⟨hre, hI⟩ := h
  refine lv_icmp_eq (tgt := 997) hx hb dL_law_571 (by decide) (fun _ => ?_) (fun cc => absurd hre cc)
  refine W.widen (k := 100 + n + 6) (n := 50000 + 2 * n + 12) (by omega) (by omega) ?_
  exact kk ad ck mk pr (ux (ux (ux (ux (ux (ux (ux (ux (ux (ux xs 0 x2) 7 sk2) 8 sl2) 9 sb2) 10 sn2) 1 j2) 2 mc2) 3 md2) 11 sh2) 12 shl2) o2 _ _ _ hI rfl hh hl
def OK_sign (Inv : LInv) : Prop := ∀ (ck mk pr xs : Nat → Ob) (o : Ob) (v1 : Int32), Inv ck mk pr xs o → w_X9_sign  v1 (xs 0) (xs 11) (xs 12) (fun (r : Int64) (x2 : Ob) (sh2 : Ob) (shl2 : Ob) => (x2.2.1 4 = (xs 0).2.1 4) ∧ w_X10_sign v1 o (fun (r2 : Int64) (o2 : Ob) => r = r2 ∧ Inv ck mk pr (ux (ux (ux xs 0 x2) 11 sh2) 12 shl2) o2))
set_option maxRecDepth 100000 in
set_option maxHeartbeats 8000000 in
theorem law_sign {p : Program} {l : Launch} {e : Env} {s : State} {m : MethodId} {below : List Frame} {meth : Method} {c : Code} {Q : State → Prop} {D : va_G} {E : Nat → ClassId} {b L : Nat} {xv : Nat → Int32} (Inv : LInv) (hok : OK_sign Inv) (C0 : LC p s m c D E b L xv) (hL : L ≤ 3072) {n : Nat} (hn : n + 6 ≤ L) {ad : Nat → Nat → Nat} {a : Nat → Nat} {ck mk pr xs : Nat → Ob} {o : Ob} {H : Heap} {locs : List Loc} {ls : Array Slot} (hI : Inv ck mk pr xs o) (hh : Wh D (fun q => s.heap.size ≤ q) s.heap (List.flatten (wL ad a E ck mk pr xs o)) H locs) (hl : lv_has ls 4 [(3, .int (nI n)), (0, .ref b), (1, .ref (ad 0 0)), (2, .ref (a 0))])
    (kk : ∀ (ad2 : Nat → Nat → Nat) (ck2 mk2 pr2 xs2 : Nat → Ob) (o2 : Ob) (H : Heap) (locs : List Loc) (ls : Array Slot), Inv ck2 mk2 pr2 xs2 o2 → ad2 0 0 = ad 0 0 → Wh D (fun q => s.heap.size ≤ q) s.heap (List.flatten (wL ad2 a E ck2 mk2 pr2 xs2 o2)) H locs → lv_has ls 4 [(3, .int (nI n)), (0, .ref b), (1, .ref (ad 0 0)), (2, .ref (a 0))] → W p l e room_1 s m #[Value.ref b] below meth c H locs (100 + n + 6) (50000 + 2 * n + 12) Q (F0 m 997 ls [])) :
    W p l e room_1 s m #[Value.ref b] below meth c H locs (100 + n) (50000 + 2 * n) Q (F0 m 576 ls []) := by
  obtain ⟨hx, hb, hml, hown, hT, hK, hX, hbl⟩ := C0
  have hA : ∀ q : Nat, s.heap.size ≤ q → (fun q : Nat => s.heap.size ≤ q) q := fun _ h => h
  have hbA : ¬ (fun q : Nat => s.heap.size ≤ q) b := Nat.not_le.mpr hbl
  have hh : Wh D (fun q => s.heap.size ≤ q) s.heap (List.flatten [bX9 ad E (xs 0), bX1 ad E (xs 1), bX3 (ad 2) E (xs 2), bX3 (ad 3) E (xs 3), bX5 ad E (xs 4), bX8 (ad 5) E (xs 5), bX2 (ad 6) E (xs 6), bX7 ad E (xs 7), bX2 (ad 8) E (xs 8), bX8 (ad 9) E (xs 9), bX8 (ad 10) E (xs 10), bX8 (ad 11) E (xs 11), bX2 (ad 12) E (xs 12), bX8 (ad 13) E (xs 13), bX8 (ad 14) E (xs 14), bX2 (ad 15) E (xs 15), bX10 a E o, dC ad E ck ((xs 1).2.1 1).toNatClampNeg, dK ad E mk ((xs 4).2.1 1).toNatClampNeg, dP ad E pr ((xs 0).2.1 4).toNatClampNeg]) _ _ := hh
  refine lv_aload_n hx hb dL_law_576 rfl (lv_at hl 2 rfl) ?_
  refine lv_aload_n hx hb dL_law_577 rfl (lv_at hl 1 rfl) ?_
  refine lv_iload_n hx hb dL_law_578 rfl (lv_at hl 0 rfl) ?_
  refine lv_iconst (v := 1) hx hb dL_law_579 (by decide) ?_
  refine lv_iadd hx hb dL_law_580 ?_
  refine va_sld hx hb hX hbl hbA hh.2.2 (lw_in (k := 1) (by omega) hL) dL_law_581 ?_
  have h := hok ck mk pr xs o (xv (nI n + 1).toNatClampNeg) hI
  have hc := hh.cut [_, _, _] [_, _, _, _, _, _, _, _, _, _, _, _, _, _, _, _, _] [0, 11, 12, 1, 2, 3, 4, 5, 6, 7, 8, 9, 10, 13, 14, 15, 16, 17, 18, 19] 20 rfl (by decide +kernel) rfl
  refine kL hc hA (rnV hx hb hml hown hT hK hc (c_X9_sign l D E ad  (xs 0) (xs 11) (xs 12) (xv (nI n + 1).toNatClampNeg) h _) mf_X9_sign kml_L_68 ⟨rfl, rfl, Nat.le_of_ble_eq_true rfl, Nat.le_of_ble_eq_true rfl⟩ ⟨by show _ ≤ 600000; omega, by show _ ≤ 7302250; omega⟩ 9 0 rfl rfl hl.1 rfl dL_law_582 (Nat.le_of_ble_eq_true rfl) rfl) (fun r u H locs h hN => ?_)
  obtain ⟨x2, sh2, shl2⟩ := u
  obtain ⟨g0, h⟩ := h
  rw [← g0] at hN
  have hh : Wh D (fun q => s.heap.size ≤ q) s.heap (List.flatten [bX9 ad E x2, bX1 ad E (xs 1), bX3 (ad 2) E (xs 2), bX3 (ad 3) E (xs 3), bX5 ad E (xs 4), bX8 (ad 5) E (xs 5), bX2 (ad 6) E (xs 6), bX7 ad E (xs 7), bX2 (ad 8) E (xs 8), bX8 (ad 9) E (xs 9), bX8 (ad 10) E (xs 10), bX8 (ad 11) E sh2, bX2 (ad 12) E shl2, bX8 (ad 13) E (xs 13), bX8 (ad 14) E (xs 14), bX2 (ad 15) E (xs 15), bX10 a E o, dC ad E ck ((xs 1).2.1 1).toNatClampNeg, dK ad E mk ((xs 4).2.1 1).toNatClampNeg, dP ad E pr (x2.2.1 4).toNatClampNeg]) _ _ := Wh.back (cs := [_, _, _]) (rs := [_, _, _, _, _, _, _, _, _, _, _, _, _, _, _, _, _]) _ [0, 3, 4, 5, 6, 7, 8, 9, 10, 11, 12, 1, 2, 13, 14, 15, 16, 17, 18, 19] 20 rfl (by decide +kernel) rfl hN
  refine lv_aload_n hx hb dL_law_585 rfl (lv_at hl 3 rfl) ?_
  refine lv_aload_n hx hb dL_law_586 rfl (lv_at hl 1 rfl) ?_
  refine lv_iload_n hx hb dL_law_587 rfl (lv_at hl 0 rfl) ?_
  refine lv_iconst (v := 1) hx hb dL_law_588 (by decide) ?_
  refine lv_iadd hx hb dL_law_589 ?_
  refine va_sld hx hb hX hbl hbA hh.2.2 (lw_in (k := 1) (by omega) hL) dL_law_590 ?_
  have hc := hh.cut [_] [_, _, _, _, _, _, _, _, _, _, _, _, _, _, _, _, _, _, _] [16, 0, 1, 2, 3, 4, 5, 6, 7, 8, 9, 10, 11, 12, 13, 14, 15, 17, 18, 19] 20 rfl (by decide +kernel) rfl
  refine kL hc hA (rnV hx hb hml hown hT hK hc (c_X10_sign l D E a o (xv (nI n + 1).toNatClampNeg) h _) mf_X10_sign kml_L_72 ⟨rfl, rfl, Nat.le_of_ble_eq_true rfl, Nat.le_of_ble_eq_true rfl⟩ ⟨by show _ ≤ 600000; omega, by show _ ≤ 7302250; omega⟩ 10 0 rfl rfl hl.1 rfl dL_law_591 (Nat.le_of_ble_eq_true rfl) rfl) (fun r2 o2 H locs h hN => ?_)
  have hh : Wh D (fun q => s.heap.size ≤ q) s.heap (List.flatten [bX9 ad E x2, bX1 ad E (xs 1), bX3 (ad 2) E (xs 2), bX3 (ad 3) E (xs 3), bX5 ad E (xs 4), bX8 (ad 5) E (xs 5), bX2 (ad 6) E (xs 6), bX7 ad E (xs 7), bX2 (ad 8) E (xs 8), bX8 (ad 9) E (xs 9), bX8 (ad 10) E (xs 10), bX8 (ad 11) E sh2, bX2 (ad 12) E shl2, bX8 (ad 13) E (xs 13), bX8 (ad 14) E (xs 14), bX2 (ad 15) E (xs 15), bX10 a E o2, dC ad E ck ((xs 1).2.1 1).toNatClampNeg, dK ad E mk ((xs 4).2.1 1).toNatClampNeg, dP ad E pr (x2.2.1 4).toNatClampNeg]) _ _ := Wh.back (cs := [_]) (rs := [_, _, _, _, _, _, _, _, _, _, _, _, _, _, _, _, _, _, _]) _ [1, 2, 3, 4, 5, 6, 7, 8, 9, 10, 11, 12, 13, 14, 15, 16, 0, 17, 18, 19] 20 rfl (by decide +kernel) rfl hN
  obtain ⟨hre, hI⟩ := h
  refine W.lcmp hx hb dL_law_594 ?_
  refine lv_if_eq (tgt := 997) hx hb dL_law_595 (by decide) (fun _ => ?_) (fun cc => absurd (by rw [hre]; exact lg_cmp_self _) cc)
  refine W.widen (k := 100 + n + 6) (n := 50000 + 2 * n + 12) (by omega) (by omega) ?_
  exact kk ad ck mk pr (ux (ux (ux xs 0 x2) 11 sh2) 12 shl2) o2 _ _ _ hI rfl hh hl
def OK_holds (Inv : LInv) : Prop := ∀ (ck mk pr xs : Nat → Ob) (o : Ob) (v1 : Int32), Inv ck mk pr xs o → w_X9_holds ck v1 (xs 0) (xs 1) (xs 2) (xs 3) (xs 12) (fun (r : Int32) (x2 : Ob) (j2 : Ob) (mc2 : Ob) (md2 : Ob) (shl2 : Ob) => (x2.2.1 4 = (xs 0).2.1 4) ∧ w_X10_holds v1 o (fun (r2 : Int32) (o2 : Ob) => r = r2 ∧ Inv ck mk pr (ux (ux (ux (ux (ux xs 0 x2) 1 j2) 2 mc2) 3 md2) 12 shl2) o2))
set_option maxRecDepth 100000 in
set_option maxHeartbeats 8000000 in
theorem law_holds {p : Program} {l : Launch} {e : Env} {s : State} {m : MethodId} {below : List Frame} {meth : Method} {c : Code} {Q : State → Prop} {D : va_G} {E : Nat → ClassId} {b L : Nat} {xv : Nat → Int32} (Inv : LInv) (hok : OK_holds Inv) (C0 : LC p s m c D E b L xv) (hL : L ≤ 3072) {n : Nat} (hn : n + 6 ≤ L) {ad : Nat → Nat → Nat} {a : Nat → Nat} {ck mk pr xs : Nat → Ob} {o : Ob} {H : Heap} {locs : List Loc} {ls : Array Slot} (hI : Inv ck mk pr xs o) (hh : Wh D (fun q => s.heap.size ≤ q) s.heap (List.flatten (wL ad a E ck mk pr xs o)) H locs) (hl : lv_has ls 4 [(3, .int (nI n)), (0, .ref b), (1, .ref (ad 0 0)), (2, .ref (a 0))])
    (kk : ∀ (ad2 : Nat → Nat → Nat) (ck2 mk2 pr2 xs2 : Nat → Ob) (o2 : Ob) (H : Heap) (locs : List Loc) (ls : Array Slot), Inv ck2 mk2 pr2 xs2 o2 → ad2 0 0 = ad 0 0 → Wh D (fun q => s.heap.size ≤ q) s.heap (List.flatten (wL ad2 a E ck2 mk2 pr2 xs2 o2)) H locs → lv_has ls 4 [(3, .int (nI n)), (0, .ref b), (1, .ref (ad 0 0)), (2, .ref (a 0))] → W p l e room_1 s m #[Value.ref b] below meth c H locs (100 + n + 6) (50000 + 2 * n + 12) Q (F0 m 997 ls [])) :
    W p l e room_1 s m #[Value.ref b] below meth c H locs (100 + n) (50000 + 2 * n) Q (F0 m 600 ls []) := by
  obtain ⟨hx, hb, hml, hown, hT, hK, hX, hbl⟩ := C0
  have hA : ∀ q : Nat, s.heap.size ≤ q → (fun q : Nat => s.heap.size ≤ q) q := fun _ h => h
  have hbA : ¬ (fun q : Nat => s.heap.size ≤ q) b := Nat.not_le.mpr hbl
  have hh : Wh D (fun q => s.heap.size ≤ q) s.heap (List.flatten [bX9 ad E (xs 0), bX1 ad E (xs 1), bX3 (ad 2) E (xs 2), bX3 (ad 3) E (xs 3), bX5 ad E (xs 4), bX8 (ad 5) E (xs 5), bX2 (ad 6) E (xs 6), bX7 ad E (xs 7), bX2 (ad 8) E (xs 8), bX8 (ad 9) E (xs 9), bX8 (ad 10) E (xs 10), bX8 (ad 11) E (xs 11), bX2 (ad 12) E (xs 12), bX8 (ad 13) E (xs 13), bX8 (ad 14) E (xs 14), bX2 (ad 15) E (xs 15), bX10 a E o, dC ad E ck ((xs 1).2.1 1).toNatClampNeg, dK ad E mk ((xs 4).2.1 1).toNatClampNeg, dP ad E pr ((xs 0).2.1 4).toNatClampNeg]) _ _ := hh
  refine lv_aload_n hx hb dL_law_600 rfl (lv_at hl 2 rfl) ?_
  refine lv_aload_n hx hb dL_law_601 rfl (lv_at hl 1 rfl) ?_
  refine lv_iload_n hx hb dL_law_602 rfl (lv_at hl 0 rfl) ?_
  refine lv_iconst (v := 1) hx hb dL_law_603 (by decide) ?_
  refine lv_iadd hx hb dL_law_604 ?_
  refine va_sld hx hb hX hbl hbA hh.2.2 (lw_in (k := 1) (by omega) hL) dL_law_605 ?_
  have h := hok ck mk pr xs o (xv (nI n + 1).toNatClampNeg) hI
  have hc := hh.cut [_, _, _, _, _, _] [_, _, _, _, _, _, _, _, _, _, _, _, _, _] [0, 1, 2, 3, 12, 17, 4, 5, 6, 7, 8, 9, 10, 11, 13, 14, 15, 16, 18, 19] 20 rfl (by decide +kernel) rfl
  refine kI hc hA (rnV hx hb hml hown hT hK hc (c_X9_holds l D E ad ck (xs 0) (xs 1) (xs 2) (xs 3) (xs 12) (xv (nI n + 1).toNatClampNeg) h _) mf_X9_holds kml_L_73 ⟨rfl, rfl, Nat.le_of_ble_eq_true rfl, Nat.le_of_ble_eq_true rfl⟩ ⟨by show _ ≤ 600000; omega, by show _ ≤ 7302250; omega⟩ 9 0 rfl rfl hl.1 rfl dL_law_606 (Nat.le_of_ble_eq_true rfl) rfl) (fun r u H locs h hN => ?_)
  obtain ⟨x2, j2, mc2, md2, shl2⟩ := u
  obtain ⟨g0, h⟩ := h
  rw [← g0] at hN
  have hh : Wh D (fun q => s.heap.size ≤ q) s.heap (List.flatten [bX9 ad E x2, bX1 ad E j2, bX3 (ad 2) E mc2, bX3 (ad 3) E md2, bX5 ad E (xs 4), bX8 (ad 5) E (xs 5), bX2 (ad 6) E (xs 6), bX7 ad E (xs 7), bX2 (ad 8) E (xs 8), bX8 (ad 9) E (xs 9), bX8 (ad 10) E (xs 10), bX8 (ad 11) E (xs 11), bX2 (ad 12) E shl2, bX8 (ad 13) E (xs 13), bX8 (ad 14) E (xs 14), bX2 (ad 15) E (xs 15), bX10 a E o, dC ad E ck (j2.2.1 1).toNatClampNeg, dK ad E mk ((xs 4).2.1 1).toNatClampNeg, dP ad E pr (x2.2.1 4).toNatClampNeg]) _ _ := Wh.back (cs := [_, _, _, _, _, _]) (rs := [_, _, _, _, _, _, _, _, _, _, _, _, _, _]) _ [0, 1, 2, 3, 6, 7, 8, 9, 10, 11, 12, 13, 4, 14, 15, 16, 17, 5, 18, 19] 20 rfl (by decide +kernel) rfl hN
  refine lv_aload_n hx hb dL_law_609 rfl (lv_at hl 3 rfl) ?_
  refine lv_aload_n hx hb dL_law_610 rfl (lv_at hl 1 rfl) ?_
  refine lv_iload_n hx hb dL_law_611 rfl (lv_at hl 0 rfl) ?_
  refine lv_iconst (v := 1) hx hb dL_law_612 (by decide) ?_
  refine lv_iadd hx hb dL_law_613 ?_
  refine va_sld hx hb hX hbl hbA hh.2.2 (lw_in (k := 1) (by omega) hL) dL_law_614 ?_
  have hc := hh.cut [_] [_, _, _, _, _, _, _, _, _, _, _, _, _, _, _, _, _, _, _] [16, 0, 1, 2, 3, 4, 5, 6, 7, 8, 9, 10, 11, 12, 13, 14, 15, 17, 18, 19] 20 rfl (by decide +kernel) rfl
  refine kI hc hA (rnV hx hb hml hown hT hK hc (c_X10_holds l D E a o (xv (nI n + 1).toNatClampNeg) h _) mf_X10_holds kml_L_76 ⟨rfl, rfl, Nat.le_of_ble_eq_true rfl, Nat.le_of_ble_eq_true rfl⟩ ⟨by show _ ≤ 600000; omega, by show _ ≤ 7302250; omega⟩ 10 0 rfl rfl hl.1 rfl dL_law_615 (Nat.le_of_ble_eq_true rfl) rfl) (fun r2 o2 H locs h hN => ?_)
  have hh : Wh D (fun q => s.heap.size ≤ q) s.heap (List.flatten [bX9 ad E x2, bX1 ad E j2, bX3 (ad 2) E mc2, bX3 (ad 3) E md2, bX5 ad E (xs 4), bX8 (ad 5) E (xs 5), bX2 (ad 6) E (xs 6), bX7 ad E (xs 7), bX2 (ad 8) E (xs 8), bX8 (ad 9) E (xs 9), bX8 (ad 10) E (xs 10), bX8 (ad 11) E (xs 11), bX2 (ad 12) E shl2, bX8 (ad 13) E (xs 13), bX8 (ad 14) E (xs 14), bX2 (ad 15) E (xs 15), bX10 a E o2, dC ad E ck (j2.2.1 1).toNatClampNeg, dK ad E mk ((xs 4).2.1 1).toNatClampNeg, dP ad E pr (x2.2.1 4).toNatClampNeg]) _ _ := Wh.back (cs := [_]) (rs := [_, _, _, _, _, _, _, _, _, _, _, _, _, _, _, _, _, _, _]) _ [1, 2, 3, 4, 5, 6, 7, 8, 9, 10, 11, 12, 13, 14, 15, 16, 0, 17, 18, 19] 20 rfl (by decide +kernel) rfl hN
  obtain ⟨hre, hI⟩ := h
  refine lv_icmp_eq (tgt := 997) hx hb dL_law_618 (by decide) (fun _ => ?_) (fun cc => absurd hre cc)
  refine W.widen (k := 100 + n + 6) (n := 50000 + 2 * n + 12) (by omega) (by omega) ?_
  exact kk ad ck mk pr (ux (ux (ux (ux (ux xs 0 x2) 1 j2) 2 mc2) 3 md2) 12 shl2) o2 _ _ _ hI rfl hh hl
def OK_script (Inv : LInv) : Prop := ∀ (ck mk pr xs : Nat → Ob) (o : Ob) (v1 : Int32) (v2 : Int32) (v3 : Int32) (v4 : Int32), Inv ck mk pr xs o → w_X9_script  v1 v2 v3 v4 (xs 0) (xs 1) (xs 2) (xs 12) (fun (r : Int64) (x2 : Ob) (j2 : Ob) (mc2 : Ob) (shl2 : Ob) => (j2.2.1 1 = (xs 1).2.1 1) ∧ (x2.2.1 4 = (xs 0).2.1 4) ∧ w_X10_script v1 v2 v3 v4 o (fun (r2 : Int64) (o2 : Ob) => r = r2 ∧ Inv ck mk pr (ux (ux (ux (ux xs 0 x2) 1 j2) 2 mc2) 12 shl2) o2))
set_option maxRecDepth 100000 in
set_option maxHeartbeats 8000000 in
theorem law_script {p : Program} {l : Launch} {e : Env} {s : State} {m : MethodId} {below : List Frame} {meth : Method} {c : Code} {Q : State → Prop} {D : va_G} {E : Nat → ClassId} {b L : Nat} {xv : Nat → Int32} (Inv : LInv) (hok : OK_script Inv) (C0 : LC p s m c D E b L xv) (hL : L ≤ 3072) {n : Nat} (hn : n + 6 ≤ L) {ad : Nat → Nat → Nat} {a : Nat → Nat} {ck mk pr xs : Nat → Ob} {o : Ob} {H : Heap} {locs : List Loc} {ls : Array Slot} (hI : Inv ck mk pr xs o) (hh : Wh D (fun q => s.heap.size ≤ q) s.heap (List.flatten (wL ad a E ck mk pr xs o)) H locs) (hl : lv_has ls 4 [(3, .int (nI n)), (0, .ref b), (1, .ref (ad 0 0)), (2, .ref (a 0))])
    (kk : ∀ (ad2 : Nat → Nat → Nat) (ck2 mk2 pr2 xs2 : Nat → Ob) (o2 : Ob) (H : Heap) (locs : List Loc) (ls : Array Slot), Inv ck2 mk2 pr2 xs2 o2 → ad2 0 0 = ad 0 0 → Wh D (fun q => s.heap.size ≤ q) s.heap (List.flatten (wL ad2 a E ck2 mk2 pr2 xs2 o2)) H locs → lv_has ls 4 [(3, .int (nI n)), (0, .ref b), (1, .ref (ad 0 0)), (2, .ref (a 0))] → W p l e room_1 s m #[Value.ref b] below meth c H locs (100 + n + 6) (50000 + 2 * n + 12) Q (F0 m 997 ls [])) :
    W p l e room_1 s m #[Value.ref b] below meth c H locs (100 + n) (50000 + 2 * n) Q (F0 m 623 ls []) := by
  obtain ⟨hx, hb, hml, hown, hT, hK, hX, hbl⟩ := C0
  have hA : ∀ q : Nat, s.heap.size ≤ q → (fun q : Nat => s.heap.size ≤ q) q := fun _ h => h
  have hbA : ¬ (fun q : Nat => s.heap.size ≤ q) b := Nat.not_le.mpr hbl
  have hh : Wh D (fun q => s.heap.size ≤ q) s.heap (List.flatten [bX9 ad E (xs 0), bX1 ad E (xs 1), bX3 (ad 2) E (xs 2), bX3 (ad 3) E (xs 3), bX5 ad E (xs 4), bX8 (ad 5) E (xs 5), bX2 (ad 6) E (xs 6), bX7 ad E (xs 7), bX2 (ad 8) E (xs 8), bX8 (ad 9) E (xs 9), bX8 (ad 10) E (xs 10), bX8 (ad 11) E (xs 11), bX2 (ad 12) E (xs 12), bX8 (ad 13) E (xs 13), bX8 (ad 14) E (xs 14), bX2 (ad 15) E (xs 15), bX10 a E o, dC ad E ck ((xs 1).2.1 1).toNatClampNeg, dK ad E mk ((xs 4).2.1 1).toNatClampNeg, dP ad E pr ((xs 0).2.1 4).toNatClampNeg]) _ _ := hh
  refine lv_aload_n hx hb dL_law_623 rfl (lv_at hl 2 rfl) ?_
  refine lv_aload_n hx hb dL_law_624 rfl (lv_at hl 1 rfl) ?_
  refine lv_iload_n hx hb dL_law_625 rfl (lv_at hl 0 rfl) ?_
  refine lv_iconst (v := 1) hx hb dL_law_626 (by decide) ?_
  refine lv_iadd hx hb dL_law_627 ?_
  refine va_sld hx hb hX hbl hbA hh.2.2 (lw_in (k := 1) (by omega) hL) dL_law_628 ?_
  refine lv_aload_n hx hb dL_law_629 rfl (lv_at hl 1 rfl) ?_
  refine lv_iload_n hx hb dL_law_630 rfl (lv_at hl 0 rfl) ?_
  refine lv_iconst (v := 2) hx hb dL_law_631 (by decide) ?_
  refine lv_iadd hx hb dL_law_632 ?_
  refine va_sld hx hb hX hbl hbA hh.2.2 (lw_in (k := 2) (by omega) hL) dL_law_633 ?_
  refine lv_aload_n hx hb dL_law_634 rfl (lv_at hl 1 rfl) ?_
  refine lv_iload_n hx hb dL_law_635 rfl (lv_at hl 0 rfl) ?_
  refine lv_iconst (v := 3) hx hb dL_law_636 (by decide) ?_
  refine lv_iadd hx hb dL_law_637 ?_
  refine va_sld hx hb hX hbl hbA hh.2.2 (lw_in (k := 3) (by omega) hL) dL_law_638 ?_
  refine lv_aload_n hx hb dL_law_639 rfl (lv_at hl 1 rfl) ?_
  refine lv_iload_n hx hb dL_law_640 rfl (lv_at hl 0 rfl) ?_
  refine lv_iconst (v := 4) hx hb dL_law_641 (by decide) ?_
  refine lv_iadd hx hb dL_law_642 ?_
  refine va_sld hx hb hX hbl hbA hh.2.2 (lw_in (k := 4) (by omega) hL) dL_law_643 ?_
  have h := hok ck mk pr xs o (xv (nI n + 1).toNatClampNeg) (xv (nI n + 2).toNatClampNeg) (xv (nI n + 3).toNatClampNeg) (xv (nI n + 4).toNatClampNeg) hI
  have hc := hh.cut [_, _, _, _] [_, _, _, _, _, _, _, _, _, _, _, _, _, _, _, _] [0, 1, 2, 12, 3, 4, 5, 6, 7, 8, 9, 10, 11, 13, 14, 15, 16, 17, 18, 19] 20 rfl (by decide +kernel) rfl
  refine kL hc hA (rnV hx hb hml hown hT hK hc (c_X9_script l D E ad  (xs 0) (xs 1) (xs 2) (xs 12) (xv (nI n + 1).toNatClampNeg) (xv (nI n + 2).toNatClampNeg) (xv (nI n + 3).toNatClampNeg) (xv (nI n + 4).toNatClampNeg) h _) mf_X9_script kml_L_77 ⟨rfl, rfl, Nat.le_of_ble_eq_true rfl, Nat.le_of_ble_eq_true rfl⟩ ⟨by show _ ≤ 600000; omega, by show _ ≤ 7302250; omega⟩ 9 0 rfl rfl hl.1 rfl dL_law_644 (Nat.le_of_ble_eq_true rfl) rfl) (fun r u H locs h hN => ?_)
  obtain ⟨x2, j2, mc2, shl2⟩ := u
  obtain ⟨g0, h⟩ := h
  rw [← g0] at hN
  obtain ⟨g1, h⟩ := h
  rw [← g1] at hN
  have hh : Wh D (fun q => s.heap.size ≤ q) s.heap (List.flatten [bX9 ad E x2, bX1 ad E j2, bX3 (ad 2) E mc2, bX3 (ad 3) E (xs 3), bX5 ad E (xs 4), bX8 (ad 5) E (xs 5), bX2 (ad 6) E (xs 6), bX7 ad E (xs 7), bX2 (ad 8) E (xs 8), bX8 (ad 9) E (xs 9), bX8 (ad 10) E (xs 10), bX8 (ad 11) E (xs 11), bX2 (ad 12) E shl2, bX8 (ad 13) E (xs 13), bX8 (ad 14) E (xs 14), bX2 (ad 15) E (xs 15), bX10 a E o, dC ad E ck (j2.2.1 1).toNatClampNeg, dK ad E mk ((xs 4).2.1 1).toNatClampNeg, dP ad E pr (x2.2.1 4).toNatClampNeg]) _ _ := Wh.back (cs := [_, _, _, _]) (rs := [_, _, _, _, _, _, _, _, _, _, _, _, _, _, _, _]) _ [0, 1, 2, 4, 5, 6, 7, 8, 9, 10, 11, 12, 3, 13, 14, 15, 16, 17, 18, 19] 20 rfl (by decide +kernel) rfl hN
  refine lv_aload_n hx hb dL_law_647 rfl (lv_at hl 3 rfl) ?_
  refine lv_aload_n hx hb dL_law_648 rfl (lv_at hl 1 rfl) ?_
  refine lv_iload_n hx hb dL_law_649 rfl (lv_at hl 0 rfl) ?_
  refine lv_iconst (v := 1) hx hb dL_law_650 (by decide) ?_
  refine lv_iadd hx hb dL_law_651 ?_
  refine va_sld hx hb hX hbl hbA hh.2.2 (lw_in (k := 1) (by omega) hL) dL_law_652 ?_
  refine lv_aload_n hx hb dL_law_653 rfl (lv_at hl 1 rfl) ?_
  refine lv_iload_n hx hb dL_law_654 rfl (lv_at hl 0 rfl) ?_
  refine lv_iconst (v := 2) hx hb dL_law_655 (by decide) ?_
  refine lv_iadd hx hb dL_law_656 ?_
  refine va_sld hx hb hX hbl hbA hh.2.2 (lw_in (k := 2) (by omega) hL) dL_law_657 ?_
  refine lv_aload_n hx hb dL_law_658 rfl (lv_at hl 1 rfl) ?_
  refine lv_iload_n hx hb dL_law_659 rfl (lv_at hl 0 rfl) ?_
  refine lv_iconst (v := 3) hx hb dL_law_660 (by decide) ?_
  refine lv_iadd hx hb dL_law_661 ?_
  refine va_sld hx hb hX hbl hbA hh.2.2 (lw_in (k := 3) (by omega) hL) dL_law_662 ?_
  refine lv_aload_n hx hb dL_law_663 rfl (lv_at hl 1 rfl) ?_
  refine lv_iload_n hx hb dL_law_664 rfl (lv_at hl 0 rfl) ?_
  refine lv_iconst (v := 4) hx hb dL_law_665 (by decide) ?_
  refine lv_iadd hx hb dL_law_666 ?_
  refine va_sld hx hb hX hbl hbA hh.2.2 (lw_in (k := 4) (by omega) hL) dL_law_667 ?_
  have hc := hh.cut [_] [_, _, _, _, _, _, _, _, _, _, _, _, _, _, _, _, _, _, _] [16, 0, 1, 2, 3, 4, 5, 6, 7, 8, 9, 10, 11, 12, 13, 14, 15, 17, 18, 19] 20 rfl (by decide +kernel) rfl
  refine kL hc hA (rnV hx hb hml hown hT hK hc (c_X10_script l D E a o (xv (nI n + 1).toNatClampNeg) (xv (nI n + 2).toNatClampNeg) (xv (nI n + 3).toNatClampNeg) (xv (nI n + 4).toNatClampNeg) h _) mf_X10_script kml_L_81 ⟨rfl, rfl, Nat.le_of_ble_eq_true rfl, Nat.le_of_ble_eq_true rfl⟩ ⟨by show _ ≤ 600000; omega, by show _ ≤ 7302250; omega⟩ 10 0 rfl rfl hl.1 rfl dL_law_668 (Nat.le_of_ble_eq_true rfl) rfl) (fun r2 o2 H locs h hN => ?_)
  have hh : Wh D (fun q => s.heap.size ≤ q) s.heap (List.flatten [bX9 ad E x2, bX1 ad E j2, bX3 (ad 2) E mc2, bX3 (ad 3) E (xs 3), bX5 ad E (xs 4), bX8 (ad 5) E (xs 5), bX2 (ad 6) E (xs 6), bX7 ad E (xs 7), bX2 (ad 8) E (xs 8), bX8 (ad 9) E (xs 9), bX8 (ad 10) E (xs 10), bX8 (ad 11) E (xs 11), bX2 (ad 12) E shl2, bX8 (ad 13) E (xs 13), bX8 (ad 14) E (xs 14), bX2 (ad 15) E (xs 15), bX10 a E o2, dC ad E ck (j2.2.1 1).toNatClampNeg, dK ad E mk ((xs 4).2.1 1).toNatClampNeg, dP ad E pr (x2.2.1 4).toNatClampNeg]) _ _ := Wh.back (cs := [_]) (rs := [_, _, _, _, _, _, _, _, _, _, _, _, _, _, _, _, _, _, _]) _ [1, 2, 3, 4, 5, 6, 7, 8, 9, 10, 11, 12, 13, 14, 15, 16, 0, 17, 18, 19] 20 rfl (by decide +kernel) rfl hN
  obtain ⟨hre, hI⟩ := h
  refine W.lcmp hx hb dL_law_671 ?_
  refine lv_if_eq (tgt := 997) hx hb dL_law_672 (by decide) (fun _ => ?_) (fun cc => absurd (by rw [hre]; exact lg_cmp_self _) cc)
  refine W.widen (k := 100 + n + 6) (n := 50000 + 2 * n + 12) (by omega) (by omega) ?_
  exact kk ad ck mk pr (ux (ux (ux (ux xs 0 x2) 1 j2) 2 mc2) 12 shl2) o2 _ _ _ hI rfl hh hl
def OK_draw (Inv : LInv) : Prop := ∀ (ck mk pr xs : Nat → Ob) (o : Ob) (v1 : Int64) (v2 : Int32) (v3 : Int32), Inv ck mk pr xs o → w_X9_draw  v1 v2 v3 (xs 0) (fun (r : Int32) (x2 : Ob) => (x2.2.1 4 = (xs 0).2.1 4) ∧ w_X10_draw v1 v2 v3 o (fun (r2 : Int32) (o2 : Ob) => r = r2 ∧ Inv ck mk pr (ux xs 0 x2) o2))
set_option maxRecDepth 100000 in
set_option maxHeartbeats 8000000 in
theorem law_draw {p : Program} {l : Launch} {e : Env} {s : State} {m : MethodId} {below : List Frame} {meth : Method} {c : Code} {Q : State → Prop} {D : va_G} {E : Nat → ClassId} {b L : Nat} {xv : Nat → Int32} (Inv : LInv) (hok : OK_draw Inv) (C0 : LC p s m c D E b L xv) (hL : L ≤ 3072) {n : Nat} (hn : n + 6 ≤ L) {ad : Nat → Nat → Nat} {a : Nat → Nat} {ck mk pr xs : Nat → Ob} {o : Ob} {H : Heap} {locs : List Loc} {ls : Array Slot} (hI : Inv ck mk pr xs o) (hh : Wh D (fun q => s.heap.size ≤ q) s.heap (List.flatten (wL ad a E ck mk pr xs o)) H locs) (hl : lv_has ls 4 [(3, .int (nI n)), (0, .ref b), (1, .ref (ad 0 0)), (2, .ref (a 0))])
    (kk : ∀ (ad2 : Nat → Nat → Nat) (ck2 mk2 pr2 xs2 : Nat → Ob) (o2 : Ob) (H : Heap) (locs : List Loc) (ls : Array Slot), Inv ck2 mk2 pr2 xs2 o2 → ad2 0 0 = ad 0 0 → Wh D (fun q => s.heap.size ≤ q) s.heap (List.flatten (wL ad2 a E ck2 mk2 pr2 xs2 o2)) H locs → lv_has ls 4 [(3, .int (nI n)), (0, .ref b), (1, .ref (ad 0 0)), (2, .ref (a 0))] → W p l e room_1 s m #[Value.ref b] below meth c H locs (100 + n + 6) (50000 + 2 * n + 12) Q (F0 m 997 ls [])) :
    W p l e room_1 s m #[Value.ref b] below meth c H locs (100 + n) (50000 + 2 * n) Q (F0 m 677 ls []) := by
  obtain ⟨hx, hb, hml, hown, hT, hK, hX, hbl⟩ := C0
  have hA : ∀ q : Nat, s.heap.size ≤ q → (fun q : Nat => s.heap.size ≤ q) q := fun _ h => h
  have hbA : ¬ (fun q : Nat => s.heap.size ≤ q) b := Nat.not_le.mpr hbl
  have hh : Wh D (fun q => s.heap.size ≤ q) s.heap (List.flatten [bX9 ad E (xs 0), bX1 ad E (xs 1), bX3 (ad 2) E (xs 2), bX3 (ad 3) E (xs 3), bX5 ad E (xs 4), bX8 (ad 5) E (xs 5), bX2 (ad 6) E (xs 6), bX7 ad E (xs 7), bX2 (ad 8) E (xs 8), bX8 (ad 9) E (xs 9), bX8 (ad 10) E (xs 10), bX8 (ad 11) E (xs 11), bX2 (ad 12) E (xs 12), bX8 (ad 13) E (xs 13), bX8 (ad 14) E (xs 14), bX2 (ad 15) E (xs 15), bX10 a E o, dC ad E ck ((xs 1).2.1 1).toNatClampNeg, dK ad E mk ((xs 4).2.1 1).toNatClampNeg, dP ad E pr ((xs 0).2.1 4).toNatClampNeg]) _ _ := hh
  refine lv_aload_n hx hb dL_law_677 rfl (lv_at hl 2 rfl) ?_
  refine lv_aload_n hx hb dL_law_678 rfl (lv_at hl 1 rfl) ?_
  refine lv_iload_n hx hb dL_law_679 rfl (lv_at hl 0 rfl) ?_
  refine lv_iconst (v := 1) hx hb dL_law_680 (by decide) ?_
  refine lv_iadd hx hb dL_law_681 ?_
  refine va_sld hx hb hX hbl hbA hh.2.2 (lw_in (k := 1) (by omega) hL) dL_law_682 ?_
  refine lv_i2l (v := (xv (nI n + 1).toNatClampNeg).toInt64) hx hb dL_law_683 rfl ?_
  refine lv_bipush (v := 32) hx hb dL_law_684 (by decide) ?_
  refine lv_lshl (v := (xv (nI n + 1).toNatClampNeg).toInt64 <<< ((32 : Int32).toInt64 &&& 63)) hx hb dL_law_686 rfl ?_
  refine lv_aload_n hx hb dL_law_687 rfl (lv_at hl 1 rfl) ?_
  refine lv_iload_n hx hb dL_law_688 rfl (lv_at hl 0 rfl) ?_
  refine lv_iconst (v := 2) hx hb dL_law_689 (by decide) ?_
  refine lv_iadd hx hb dL_law_690 ?_
  refine va_sld hx hb hX hbl hbA hh.2.2 (lw_in (k := 2) (by omega) hL) dL_law_691 ?_
  refine lv_i2l (v := (xv (nI n + 2).toNatClampNeg).toInt64) hx hb dL_law_692 rfl ?_
  refine lv_ldc2 (v := 4294967295) hx hb hown (hT _ kcL_L_57) dL_law_693 ?_
  refine lv_land hx hb dL_law_696 ?_
  refine lv_lor hx hb dL_law_697 ?_
  refine lv_aload_n hx hb dL_law_698 rfl (lv_at hl 1 rfl) ?_
  refine lv_iload_n hx hb dL_law_699 rfl (lv_at hl 0 rfl) ?_
  refine lv_iconst (v := 3) hx hb dL_law_700 (by decide) ?_
  refine lv_iadd hx hb dL_law_701 ?_
  refine va_sld hx hb hX hbl hbA hh.2.2 (lw_in (k := 3) (by omega) hL) dL_law_702 ?_
  refine lv_aload_n hx hb dL_law_703 rfl (lv_at hl 1 rfl) ?_
  refine lv_iload_n hx hb dL_law_704 rfl (lv_at hl 0 rfl) ?_
  refine lv_iconst (v := 4) hx hb dL_law_705 (by decide) ?_
  refine lv_iadd hx hb dL_law_706 ?_
  refine va_sld hx hb hX hbl hbA hh.2.2 (lw_in (k := 4) (by omega) hL) dL_law_707 ?_
  have h := hok ck mk pr xs o ((((xv (nI n + 1).toNatClampNeg).toInt64 <<< ((32 : Int32).toInt64 &&& 63)) ||| ((xv (nI n + 2).toNatClampNeg).toInt64 &&& 4294967295))) (xv (nI n + 3).toNatClampNeg) (xv (nI n + 4).toNatClampNeg) hI
  have hc := hh.cut [_] [_, _, _, _, _, _, _, _, _, _, _, _, _, _, _, _, _, _, _] [0, 1, 2, 3, 4, 5, 6, 7, 8, 9, 10, 11, 12, 13, 14, 15, 16, 17, 18, 19] 20 rfl (by decide +kernel) rfl
  refine kI hc hA (rnV hx hb hml hown hT hK hc (c_X9_draw l D E ad  (xs 0) ((((xv (nI n + 1).toNatClampNeg).toInt64 <<< ((32 : Int32).toInt64 &&& 63)) ||| ((xv (nI n + 2).toNatClampNeg).toInt64 &&& 4294967295))) (xv (nI n + 3).toNatClampNeg) (xv (nI n + 4).toNatClampNeg) h _) mf_X9_draw kml_L_82 ⟨rfl, rfl, Nat.le_of_ble_eq_true rfl, Nat.le_of_ble_eq_true rfl⟩ ⟨by show _ ≤ 600000; omega, by show _ ≤ 7302250; omega⟩ 9 0 rfl rfl hl.1 rfl dL_law_708 (Nat.le_of_ble_eq_true rfl) rfl) (fun r u H locs h hN => ?_)
  obtain ⟨x2, rfl⟩ : ∃ z, z = u := ⟨_, rfl⟩
  obtain ⟨g0, h⟩ := h
  rw [← g0] at hN
  have hh : Wh D (fun q => s.heap.size ≤ q) s.heap (List.flatten [bX9 ad E x2, bX1 ad E (xs 1), bX3 (ad 2) E (xs 2), bX3 (ad 3) E (xs 3), bX5 ad E (xs 4), bX8 (ad 5) E (xs 5), bX2 (ad 6) E (xs 6), bX7 ad E (xs 7), bX2 (ad 8) E (xs 8), bX8 (ad 9) E (xs 9), bX8 (ad 10) E (xs 10), bX8 (ad 11) E (xs 11), bX2 (ad 12) E (xs 12), bX8 (ad 13) E (xs 13), bX8 (ad 14) E (xs 14), bX2 (ad 15) E (xs 15), bX10 a E o, dC ad E ck ((xs 1).2.1 1).toNatClampNeg, dK ad E mk ((xs 4).2.1 1).toNatClampNeg, dP ad E pr (x2.2.1 4).toNatClampNeg]) _ _ := Wh.back (cs := [_]) (rs := [_, _, _, _, _, _, _, _, _, _, _, _, _, _, _, _, _, _, _]) _ [0, 1, 2, 3, 4, 5, 6, 7, 8, 9, 10, 11, 12, 13, 14, 15, 16, 17, 18, 19] 20 rfl (by decide +kernel) rfl hN
  refine lv_aload_n hx hb dL_law_711 rfl (lv_at hl 3 rfl) ?_
  refine lv_aload_n hx hb dL_law_712 rfl (lv_at hl 1 rfl) ?_
  refine lv_iload_n hx hb dL_law_713 rfl (lv_at hl 0 rfl) ?_
  refine lv_iconst (v := 1) hx hb dL_law_714 (by decide) ?_
  refine lv_iadd hx hb dL_law_715 ?_
  refine va_sld hx hb hX hbl hbA hh.2.2 (lw_in (k := 1) (by omega) hL) dL_law_716 ?_
  refine lv_i2l (v := (xv (nI n + 1).toNatClampNeg).toInt64) hx hb dL_law_717 rfl ?_
  refine lv_bipush (v := 32) hx hb dL_law_718 (by decide) ?_
  refine lv_lshl (v := (xv (nI n + 1).toNatClampNeg).toInt64 <<< ((32 : Int32).toInt64 &&& 63)) hx hb dL_law_720 rfl ?_
  refine lv_aload_n hx hb dL_law_721 rfl (lv_at hl 1 rfl) ?_
  refine lv_iload_n hx hb dL_law_722 rfl (lv_at hl 0 rfl) ?_
  refine lv_iconst (v := 2) hx hb dL_law_723 (by decide) ?_
  refine lv_iadd hx hb dL_law_724 ?_
  refine va_sld hx hb hX hbl hbA hh.2.2 (lw_in (k := 2) (by omega) hL) dL_law_725 ?_
  refine lv_i2l (v := (xv (nI n + 2).toNatClampNeg).toInt64) hx hb dL_law_726 rfl ?_
  refine lv_ldc2 (v := 4294967295) hx hb hown (hT _ kcL_L_57) dL_law_727 ?_
  refine lv_land hx hb dL_law_730 ?_
  refine lv_lor hx hb dL_law_731 ?_
  refine lv_aload_n hx hb dL_law_732 rfl (lv_at hl 1 rfl) ?_
  refine lv_iload_n hx hb dL_law_733 rfl (lv_at hl 0 rfl) ?_
  refine lv_iconst (v := 3) hx hb dL_law_734 (by decide) ?_
  refine lv_iadd hx hb dL_law_735 ?_
  refine va_sld hx hb hX hbl hbA hh.2.2 (lw_in (k := 3) (by omega) hL) dL_law_736 ?_
  refine lv_aload_n hx hb dL_law_737 rfl (lv_at hl 1 rfl) ?_
  refine lv_iload_n hx hb dL_law_738 rfl (lv_at hl 0 rfl) ?_
  refine lv_iconst (v := 4) hx hb dL_law_739 (by decide) ?_
  refine lv_iadd hx hb dL_law_740 ?_
  refine va_sld hx hb hX hbl hbA hh.2.2 (lw_in (k := 4) (by omega) hL) dL_law_741 ?_
  have hc := hh.cut [_] [_, _, _, _, _, _, _, _, _, _, _, _, _, _, _, _, _, _, _] [16, 0, 1, 2, 3, 4, 5, 6, 7, 8, 9, 10, 11, 12, 13, 14, 15, 17, 18, 19] 20 rfl (by decide +kernel) rfl
  refine kI hc hA (rnV hx hb hml hown hT hK hc (c_X10_draw l D E a o ((((xv (nI n + 1).toNatClampNeg).toInt64 <<< ((32 : Int32).toInt64 &&& 63)) ||| ((xv (nI n + 2).toNatClampNeg).toInt64 &&& 4294967295))) (xv (nI n + 3).toNatClampNeg) (xv (nI n + 4).toNatClampNeg) h _) mf_X10_draw kml_L_86 ⟨rfl, rfl, Nat.le_of_ble_eq_true rfl, Nat.le_of_ble_eq_true rfl⟩ ⟨by show _ ≤ 600000; omega, by show _ ≤ 7302250; omega⟩ 10 0 rfl rfl hl.1 rfl dL_law_742 (Nat.le_of_ble_eq_true rfl) rfl) (fun r2 o2 H locs h hN => ?_)
  have hh : Wh D (fun q => s.heap.size ≤ q) s.heap (List.flatten [bX9 ad E x2, bX1 ad E (xs 1), bX3 (ad 2) E (xs 2), bX3 (ad 3) E (xs 3), bX5 ad E (xs 4), bX8 (ad 5) E (xs 5), bX2 (ad 6) E (xs 6), bX7 ad E (xs 7), bX2 (ad 8) E (xs 8), bX8 (ad 9) E (xs 9), bX8 (ad 10) E (xs 10), bX8 (ad 11) E (xs 11), bX2 (ad 12) E (xs 12), bX8 (ad 13) E (xs 13), bX8 (ad 14) E (xs 14), bX2 (ad 15) E (xs 15), bX10 a E o2, dC ad E ck ((xs 1).2.1 1).toNatClampNeg, dK ad E mk ((xs 4).2.1 1).toNatClampNeg, dP ad E pr (x2.2.1 4).toNatClampNeg]) _ _ := Wh.back (cs := [_]) (rs := [_, _, _, _, _, _, _, _, _, _, _, _, _, _, _, _, _, _, _]) _ [1, 2, 3, 4, 5, 6, 7, 8, 9, 10, 11, 12, 13, 14, 15, 16, 0, 17, 18, 19] 20 rfl (by decide +kernel) rfl hN
  obtain ⟨hre, hI⟩ := h
  refine lv_icmp_eq (tgt := 997) hx hb dL_law_745 (by decide) (fun _ => ?_) (fun cc => absurd hre cc)
  refine W.widen (k := 100 + n + 6) (n := 50000 + 2 * n + 12) (by omega) (by omega) ?_
  exact kk ad ck mk pr (ux xs 0 x2) o2 _ _ _ hI rfl hh hl
def OK_property (Inv : LInv) : Prop := ∀ (ck mk pr xs : Nat → Ob) (o : Ob) (v1 : Int32) (v2 : Int32), Inv ck mk pr xs o → w_X9_property pr v1 v2 (xs 0) (xs 4) (xs 1) (fun (r : Int32) (pr2 : Nat → Ob) (x2 : Ob) (k2 : Ob) (j2 : Ob) => (j2.2.1 1 = (xs 1).2.1 1) ∧ (k2.2.1 1 = (xs 4).2.1 1) ∧ w_X10_property v1 v2 o (fun (r2 : Int32) (o2 : Ob) => r = r2 ∧ Inv ck mk pr2 (ux (ux (ux xs 0 x2) 4 k2) 1 j2) o2))
set_option maxRecDepth 100000 in
set_option maxHeartbeats 8000000 in
theorem law_property {p : Program} {l : Launch} {e : Env} {s : State} {m : MethodId} {below : List Frame} {meth : Method} {c : Code} {Q : State → Prop} {D : va_G} {E : Nat → ClassId} {b L : Nat} {xv : Nat → Int32} (Inv : LInv) (hok : OK_property Inv) (C0 : LC p s m c D E b L xv) (hL : L ≤ 3072) {n : Nat} (hn : n + 6 ≤ L) {ad : Nat → Nat → Nat} {a : Nat → Nat} {ck mk pr xs : Nat → Ob} {o : Ob} {H : Heap} {locs : List Loc} {ls : Array Slot} (hI : Inv ck mk pr xs o) (hh : Wh D (fun q => s.heap.size ≤ q) s.heap (List.flatten (wL ad a E ck mk pr xs o)) H locs) (hl : lv_has ls 4 [(3, .int (nI n)), (0, .ref b), (1, .ref (ad 0 0)), (2, .ref (a 0))])
    (kk : ∀ (ad2 : Nat → Nat → Nat) (ck2 mk2 pr2 xs2 : Nat → Ob) (o2 : Ob) (H : Heap) (locs : List Loc) (ls : Array Slot), Inv ck2 mk2 pr2 xs2 o2 → ad2 0 0 = ad 0 0 → Wh D (fun q => s.heap.size ≤ q) s.heap (List.flatten (wL ad2 a E ck2 mk2 pr2 xs2 o2)) H locs → lv_has ls 4 [(3, .int (nI n)), (0, .ref b), (1, .ref (ad 0 0)), (2, .ref (a 0))] → W p l e room_1 s m #[Value.ref b] below meth c H locs (100 + n + 6) (50000 + 2 * n + 12) Q (F0 m 997 ls [])) :
    W p l e room_1 s m #[Value.ref b] below meth c H locs (100 + n) (50000 + 2 * n) Q (F0 m 750 ls []) := by
  obtain ⟨hx, hb, hml, hown, hT, hK, hX, hbl⟩ := C0
  have hA : ∀ q : Nat, s.heap.size ≤ q → (fun q : Nat => s.heap.size ≤ q) q := fun _ h => h
  have hbA : ¬ (fun q : Nat => s.heap.size ≤ q) b := Nat.not_le.mpr hbl
  have hh : Wh D (fun q => s.heap.size ≤ q) s.heap (List.flatten [bX9 ad E (xs 0), bX1 ad E (xs 1), bX3 (ad 2) E (xs 2), bX3 (ad 3) E (xs 3), bX5 ad E (xs 4), bX8 (ad 5) E (xs 5), bX2 (ad 6) E (xs 6), bX7 ad E (xs 7), bX2 (ad 8) E (xs 8), bX8 (ad 9) E (xs 9), bX8 (ad 10) E (xs 10), bX8 (ad 11) E (xs 11), bX2 (ad 12) E (xs 12), bX8 (ad 13) E (xs 13), bX8 (ad 14) E (xs 14), bX2 (ad 15) E (xs 15), bX10 a E o, dC ad E ck ((xs 1).2.1 1).toNatClampNeg, dK ad E mk ((xs 4).2.1 1).toNatClampNeg, dP ad E pr ((xs 0).2.1 4).toNatClampNeg]) _ _ := hh
  refine lv_aload_n hx hb dL_law_750 rfl (lv_at hl 2 rfl) ?_
  refine lv_aload_n hx hb dL_law_751 rfl (lv_at hl 1 rfl) ?_
  refine lv_iload_n hx hb dL_law_752 rfl (lv_at hl 0 rfl) ?_
  refine lv_iconst (v := 1) hx hb dL_law_753 (by decide) ?_
  refine lv_iadd hx hb dL_law_754 ?_
  refine va_sld hx hb hX hbl hbA hh.2.2 (lw_in (k := 1) (by omega) hL) dL_law_755 ?_
  refine lv_aload_n hx hb dL_law_756 rfl (lv_at hl 1 rfl) ?_
  refine lv_iload_n hx hb dL_law_757 rfl (lv_at hl 0 rfl) ?_
  refine lv_iconst (v := 2) hx hb dL_law_758 (by decide) ?_
  refine lv_iadd hx hb dL_law_759 ?_
  refine va_sld hx hb hX hbl hbA hh.2.2 (lw_in (k := 2) (by omega) hL) dL_law_760 ?_
  have h := hok ck mk pr xs o (xv (nI n + 1).toNatClampNeg) (xv (nI n + 2).toNatClampNeg) hI
  have hc := hh.cut [_, _, _, _] [_, _, _, _, _, _, _, _, _, _, _, _, _, _, _, _] [0, 4, 1, 19, 2, 3, 5, 6, 7, 8, 9, 10, 11, 12, 13, 14, 15, 16, 17, 18] 20 rfl (by decide +kernel) rfl
  refine kI hc hA (rnV hx hb hml hown hT hK hc (c_X9_property l D E ad pr (xs 0) (xs 4) (xs 1) (xv (nI n + 1).toNatClampNeg) (xv (nI n + 2).toNatClampNeg) h _) mf_X9_property kml_L_87 ⟨rfl, rfl, Nat.le_of_ble_eq_true rfl, Nat.le_of_ble_eq_true rfl⟩ ⟨by show _ ≤ 600000; omega, by show _ ≤ 7302250; omega⟩ 9 0 rfl rfl hl.1 rfl dL_law_761 (Nat.le_of_ble_eq_true rfl) rfl) (fun r u H locs h hN => ?_)
  obtain ⟨ad2, pr2, x2, k2, j2⟩ := u
  obtain ⟨hag, h⟩ := h
  obtain ⟨g0, h⟩ := h
  rw [← g0] at hN
  obtain ⟨g1, h⟩ := h
  rw [← g1] at hN
  have hh : Wh D (fun q => s.heap.size ≤ q) s.heap (List.flatten [bX9 ad2 E x2, bX1 ad2 E j2, bX3 (ad 2) E (xs 2), bX3 (ad 3) E (xs 3), bX5 ad2 E k2, bX8 (ad 5) E (xs 5), bX2 (ad 6) E (xs 6), bX7 ad E (xs 7), bX2 (ad 8) E (xs 8), bX8 (ad 9) E (xs 9), bX8 (ad 10) E (xs 10), bX8 (ad 11) E (xs 11), bX2 (ad 12) E (xs 12), bX8 (ad 13) E (xs 13), bX8 (ad 14) E (xs 14), bX2 (ad 15) E (xs 15), bX10 a E o, dC ad E ck (j2.2.1 1).toNatClampNeg, dK ad E mk (k2.2.1 1).toNatClampNeg, dP ad2 E pr2 (x2.2.1 4).toNatClampNeg]) _ _ := Wh.back (cs := [_, _, _, _]) (rs := [_, _, _, _, _, _, _, _, _, _, _, _, _, _, _, _]) _ [0, 2, 4, 5, 1, 6, 7, 8, 9, 10, 11, 12, 13, 14, 15, 16, 17, 18, 19, 3] 20 rfl (by decide +kernel) rfl hN
  rw [show ad 2 = ad2 2 from (hag 2 (by decide) (by decide)).symm, show ad 3 = ad2 3 from (hag 3 (by decide) (by decide)).symm, show ad 5 = ad2 5 from (hag 5 (by decide) (by decide)).symm, show ad 6 = ad2 6 from (hag 6 (by decide) (by decide)).symm, show bX7 ad E (xs 7) = bX7 ad2 E (xs 7) from bX7_ag (hag 1 (by decide) (by decide)) (hag 7 (by decide) (by decide)) (hag 8 (by decide) (by decide)) (hag 9 (by decide) (by decide)) (hag 10 (by decide) (by decide)), show ad 8 = ad2 8 from (hag 8 (by decide) (by decide)).symm, show ad 9 = ad2 9 from (hag 9 (by decide) (by decide)).symm, show ad 10 = ad2 10 from (hag 10 (by decide) (by decide)).symm, show ad 11 = ad2 11 from (hag 11 (by decide) (by decide)).symm, show ad 12 = ad2 12 from (hag 12 (by decide) (by decide)).symm, show ad 13 = ad2 13 from (hag 13 (by decide) (by decide)).symm, show ad 14 = ad2 14 from (hag 14 (by decide) (by decide)).symm, show ad 15 = ad2 15 from (hag 15 (by decide) (by decide)).symm, show dC ad E ck _ = dC ad2 E ck _ from dC_ag (hag 20 (by decide) (by decide)), show dK ad E mk _ = dK ad2 E mk _ from dK_ag (hag 21 (by decide) (by decide))] at hh
  refine lv_aload_n hx hb dL_law_764 rfl (lv_at hl 3 rfl) ?_
  refine lv_aload_n hx hb dL_law_765 rfl (lv_at hl 1 rfl) ?_
  refine lv_iload_n hx hb dL_law_766 rfl (lv_at hl 0 rfl) ?_
  refine lv_iconst (v := 1) hx hb dL_law_767 (by decide) ?_
  refine lv_iadd hx hb dL_law_768 ?_
  refine va_sld hx hb hX hbl hbA hh.2.2 (lw_in (k := 1) (by omega) hL) dL_law_769 ?_
  refine lv_aload_n hx hb dL_law_770 rfl (lv_at hl 1 rfl) ?_
  refine lv_iload_n hx hb dL_law_771 rfl (lv_at hl 0 rfl) ?_
  refine lv_iconst (v := 2) hx hb dL_law_772 (by decide) ?_
  refine lv_iadd hx hb dL_law_773 ?_
  refine va_sld hx hb hX hbl hbA hh.2.2 (lw_in (k := 2) (by omega) hL) dL_law_774 ?_
  have hc := hh.cut [_] [_, _, _, _, _, _, _, _, _, _, _, _, _, _, _, _, _, _, _] [16, 0, 1, 2, 3, 4, 5, 6, 7, 8, 9, 10, 11, 12, 13, 14, 15, 17, 18, 19] 20 rfl (by decide +kernel) rfl
  refine kI hc hA (rnV hx hb hml hown hT hK hc (c_X10_property l D E a o (xv (nI n + 1).toNatClampNeg) (xv (nI n + 2).toNatClampNeg) h _) mf_X10_property kml_L_90 ⟨rfl, rfl, Nat.le_of_ble_eq_true rfl, Nat.le_of_ble_eq_true rfl⟩ ⟨by show _ ≤ 600000; omega, by show _ ≤ 7302250; omega⟩ 10 0 rfl rfl hl.1 rfl dL_law_775 (Nat.le_of_ble_eq_true rfl) rfl) (fun r2 o2 H locs h hN => ?_)
  have hh : Wh D (fun q => s.heap.size ≤ q) s.heap (List.flatten [bX9 ad2 E x2, bX1 ad2 E j2, bX3 (ad2 2) E (xs 2), bX3 (ad2 3) E (xs 3), bX5 ad2 E k2, bX8 (ad2 5) E (xs 5), bX2 (ad2 6) E (xs 6), bX7 ad2 E (xs 7), bX2 (ad2 8) E (xs 8), bX8 (ad2 9) E (xs 9), bX8 (ad2 10) E (xs 10), bX8 (ad2 11) E (xs 11), bX2 (ad2 12) E (xs 12), bX8 (ad2 13) E (xs 13), bX8 (ad2 14) E (xs 14), bX2 (ad2 15) E (xs 15), bX10 a E o2, dC ad2 E ck (j2.2.1 1).toNatClampNeg, dK ad2 E mk (k2.2.1 1).toNatClampNeg, dP ad2 E pr2 (x2.2.1 4).toNatClampNeg]) _ _ := Wh.back (cs := [_]) (rs := [_, _, _, _, _, _, _, _, _, _, _, _, _, _, _, _, _, _, _]) _ [1, 2, 3, 4, 5, 6, 7, 8, 9, 10, 11, 12, 13, 14, 15, 16, 0, 17, 18, 19] 20 rfl (by decide +kernel) rfl hN
  obtain ⟨hre, hI⟩ := h
  refine lv_icmp_eq (tgt := 997) hx hb dL_law_778 (by decide) (fun _ => ?_) (fun cc => absurd hre cc)
  refine W.widen (k := 100 + n + 6) (n := 50000 + 2 * n + 12) (by omega) (by omega) ?_
  exact kk ad2 ck mk pr2 (ux (ux (ux xs 0 x2) 4 k2) 1 j2) o2 _ _ _ hI (congrFun (hag 0 (by decide) (by decide)) 0) hh hl
def OK_label (Inv : LInv) : Prop := ∀ (ck mk pr xs : Nat → Ob) (o : Ob) (v1 : Int32) (v2 : Int32), Inv ck mk pr xs o → w_X9_label pr v1 v2 (xs 0) (xs 1) (fun (r : Int32) (pr2 : Nat → Ob) (x2 : Ob) (j2 : Ob) => (j2.2.1 1 = (xs 1).2.1 1) ∧ w_X10_label v1 v2 o (fun (r2 : Int32) (o2 : Ob) => r = r2 ∧ Inv ck mk pr2 (ux (ux xs 0 x2) 1 j2) o2))
set_option maxRecDepth 100000 in
set_option maxHeartbeats 8000000 in
theorem law_label {p : Program} {l : Launch} {e : Env} {s : State} {m : MethodId} {below : List Frame} {meth : Method} {c : Code} {Q : State → Prop} {D : va_G} {E : Nat → ClassId} {b L : Nat} {xv : Nat → Int32} (Inv : LInv) (hok : OK_label Inv) (C0 : LC p s m c D E b L xv) (hL : L ≤ 3072) {n : Nat} (hn : n + 6 ≤ L) {ad : Nat → Nat → Nat} {a : Nat → Nat} {ck mk pr xs : Nat → Ob} {o : Ob} {H : Heap} {locs : List Loc} {ls : Array Slot} (hI : Inv ck mk pr xs o) (hh : Wh D (fun q => s.heap.size ≤ q) s.heap (List.flatten (wL ad a E ck mk pr xs o)) H locs) (hl : lv_has ls 4 [(3, .int (nI n)), (0, .ref b), (1, .ref (ad 0 0)), (2, .ref (a 0))])
    (kk : ∀ (ad2 : Nat → Nat → Nat) (ck2 mk2 pr2 xs2 : Nat → Ob) (o2 : Ob) (H : Heap) (locs : List Loc) (ls : Array Slot), Inv ck2 mk2 pr2 xs2 o2 → ad2 0 0 = ad 0 0 → Wh D (fun q => s.heap.size ≤ q) s.heap (List.flatten (wL ad2 a E ck2 mk2 pr2 xs2 o2)) H locs → lv_has ls 4 [(3, .int (nI n)), (0, .ref b), (1, .ref (ad 0 0)), (2, .ref (a 0))] → W p l e room_1 s m #[Value.ref b] below meth c H locs (100 + n + 6) (50000 + 2 * n + 12) Q (F0 m 997 ls [])) :
    W p l e room_1 s m #[Value.ref b] below meth c H locs (100 + n) (50000 + 2 * n) Q (F0 m 783 ls []) := by
  obtain ⟨hx, hb, hml, hown, hT, hK, hX, hbl⟩ := C0
  have hA : ∀ q : Nat, s.heap.size ≤ q → (fun q : Nat => s.heap.size ≤ q) q := fun _ h => h
  have hbA : ¬ (fun q : Nat => s.heap.size ≤ q) b := Nat.not_le.mpr hbl
  have hh : Wh D (fun q => s.heap.size ≤ q) s.heap (List.flatten [bX9 ad E (xs 0), bX1 ad E (xs 1), bX3 (ad 2) E (xs 2), bX3 (ad 3) E (xs 3), bX5 ad E (xs 4), bX8 (ad 5) E (xs 5), bX2 (ad 6) E (xs 6), bX7 ad E (xs 7), bX2 (ad 8) E (xs 8), bX8 (ad 9) E (xs 9), bX8 (ad 10) E (xs 10), bX8 (ad 11) E (xs 11), bX2 (ad 12) E (xs 12), bX8 (ad 13) E (xs 13), bX8 (ad 14) E (xs 14), bX2 (ad 15) E (xs 15), bX10 a E o, dC ad E ck ((xs 1).2.1 1).toNatClampNeg, dK ad E mk ((xs 4).2.1 1).toNatClampNeg, dP ad E pr ((xs 0).2.1 4).toNatClampNeg]) _ _ := hh
  refine lv_aload_n hx hb dL_law_783 rfl (lv_at hl 2 rfl) ?_
  refine lv_aload_n hx hb dL_law_784 rfl (lv_at hl 1 rfl) ?_
  refine lv_iload_n hx hb dL_law_785 rfl (lv_at hl 0 rfl) ?_
  refine lv_iconst (v := 1) hx hb dL_law_786 (by decide) ?_
  refine lv_iadd hx hb dL_law_787 ?_
  refine va_sld hx hb hX hbl hbA hh.2.2 (lw_in (k := 1) (by omega) hL) dL_law_788 ?_
  refine lv_aload_n hx hb dL_law_789 rfl (lv_at hl 1 rfl) ?_
  refine lv_iload_n hx hb dL_law_790 rfl (lv_at hl 0 rfl) ?_
  refine lv_iconst (v := 2) hx hb dL_law_791 (by decide) ?_
  refine lv_iadd hx hb dL_law_792 ?_
  refine va_sld hx hb hX hbl hbA hh.2.2 (lw_in (k := 2) (by omega) hL) dL_law_793 ?_
  have h := hok ck mk pr xs o (xv (nI n + 1).toNatClampNeg) (xv (nI n + 2).toNatClampNeg) hI
  have hc := hh.cut [_, _, _] [_, _, _, _, _, _, _, _, _, _, _, _, _, _, _, _, _] [0, 1, 19, 2, 3, 4, 5, 6, 7, 8, 9, 10, 11, 12, 13, 14, 15, 16, 17, 18] 20 rfl (by decide +kernel) rfl
  refine kI hc hA (rnV hx hb hml hown hT hK hc (c_X9_label l D E ad pr (xs 0) (xs 1) (xv (nI n + 1).toNatClampNeg) (xv (nI n + 2).toNatClampNeg) h _) mf_X9_label kml_L_91 ⟨rfl, rfl, Nat.le_of_ble_eq_true rfl, Nat.le_of_ble_eq_true rfl⟩ ⟨by show _ ≤ 600000; omega, by show _ ≤ 7302250; omega⟩ 9 0 rfl rfl hl.1 rfl dL_law_794 (Nat.le_of_ble_eq_true rfl) rfl) (fun r u H locs h hN => ?_)
  obtain ⟨ad2, pr2, x2, j2⟩ := u
  obtain ⟨hag, h⟩ := h
  obtain ⟨g0, h⟩ := h
  rw [← g0] at hN
  have hh : Wh D (fun q => s.heap.size ≤ q) s.heap (List.flatten [bX9 ad2 E x2, bX1 ad2 E j2, bX3 (ad 2) E (xs 2), bX3 (ad 3) E (xs 3), bX5 ad E (xs 4), bX8 (ad 5) E (xs 5), bX2 (ad 6) E (xs 6), bX7 ad E (xs 7), bX2 (ad 8) E (xs 8), bX8 (ad 9) E (xs 9), bX8 (ad 10) E (xs 10), bX8 (ad 11) E (xs 11), bX2 (ad 12) E (xs 12), bX8 (ad 13) E (xs 13), bX8 (ad 14) E (xs 14), bX2 (ad 15) E (xs 15), bX10 a E o, dC ad E ck (j2.2.1 1).toNatClampNeg, dK ad E mk ((xs 4).2.1 1).toNatClampNeg, dP ad2 E pr2 (x2.2.1 4).toNatClampNeg]) _ _ := Wh.back (cs := [_, _, _]) (rs := [_, _, _, _, _, _, _, _, _, _, _, _, _, _, _, _, _]) _ [0, 1, 3, 4, 5, 6, 7, 8, 9, 10, 11, 12, 13, 14, 15, 16, 17, 18, 19, 2] 20 rfl (by decide +kernel) rfl hN
  rw [show ad 2 = ad2 2 from (hag 2 (by decide) (by decide)).symm, show ad 3 = ad2 3 from (hag 3 (by decide) (by decide)).symm, show bX5 ad E (xs 4) = bX5 ad2 E (xs 4) from bX5_ag2 (hag 1 (by decide) (by decide)) (hag 4 (by decide) (by decide)) (hag 5 (by decide) (by decide)) (hag 6 (by decide) (by decide)) (hag 21 (by decide) (by decide)), show ad 5 = ad2 5 from (hag 5 (by decide) (by decide)).symm, show ad 6 = ad2 6 from (hag 6 (by decide) (by decide)).symm, show bX7 ad E (xs 7) = bX7 ad2 E (xs 7) from bX7_ag (hag 1 (by decide) (by decide)) (hag 7 (by decide) (by decide)) (hag 8 (by decide) (by decide)) (hag 9 (by decide) (by decide)) (hag 10 (by decide) (by decide)), show ad 8 = ad2 8 from (hag 8 (by decide) (by decide)).symm, show ad 9 = ad2 9 from (hag 9 (by decide) (by decide)).symm, show ad 10 = ad2 10 from (hag 10 (by decide) (by decide)).symm, show ad 11 = ad2 11 from (hag 11 (by decide) (by decide)).symm, show ad 12 = ad2 12 from (hag 12 (by decide) (by decide)).symm, show ad 13 = ad2 13 from (hag 13 (by decide) (by decide)).symm, show ad 14 = ad2 14 from (hag 14 (by decide) (by decide)).symm, show ad 15 = ad2 15 from (hag 15 (by decide) (by decide)).symm, show dC ad E ck _ = dC ad2 E ck _ from dC_ag (hag 20 (by decide) (by decide)), show dK ad E mk _ = dK ad2 E mk _ from dK_ag (hag 21 (by decide) (by decide))] at hh
  refine lv_aload_n hx hb dL_law_797 rfl (lv_at hl 3 rfl) ?_
  refine lv_aload_n hx hb dL_law_798 rfl (lv_at hl 1 rfl) ?_
  refine lv_iload_n hx hb dL_law_799 rfl (lv_at hl 0 rfl) ?_
  refine lv_iconst (v := 1) hx hb dL_law_800 (by decide) ?_
  refine lv_iadd hx hb dL_law_801 ?_
  refine va_sld hx hb hX hbl hbA hh.2.2 (lw_in (k := 1) (by omega) hL) dL_law_802 ?_
  refine lv_aload_n hx hb dL_law_803 rfl (lv_at hl 1 rfl) ?_
  refine lv_iload_n hx hb dL_law_804 rfl (lv_at hl 0 rfl) ?_
  refine lv_iconst (v := 2) hx hb dL_law_805 (by decide) ?_
  refine lv_iadd hx hb dL_law_806 ?_
  refine va_sld hx hb hX hbl hbA hh.2.2 (lw_in (k := 2) (by omega) hL) dL_law_807 ?_
  have hc := hh.cut [_] [_, _, _, _, _, _, _, _, _, _, _, _, _, _, _, _, _, _, _] [16, 0, 1, 2, 3, 4, 5, 6, 7, 8, 9, 10, 11, 12, 13, 14, 15, 17, 18, 19] 20 rfl (by decide +kernel) rfl
  refine kI hc hA (rnV hx hb hml hown hT hK hc (c_X10_label l D E a o (xv (nI n + 1).toNatClampNeg) (xv (nI n + 2).toNatClampNeg) h _) mf_X10_label kml_L_94 ⟨rfl, rfl, Nat.le_of_ble_eq_true rfl, Nat.le_of_ble_eq_true rfl⟩ ⟨by show _ ≤ 600000; omega, by show _ ≤ 7302250; omega⟩ 10 0 rfl rfl hl.1 rfl dL_law_808 (Nat.le_of_ble_eq_true rfl) rfl) (fun r2 o2 H locs h hN => ?_)
  have hh : Wh D (fun q => s.heap.size ≤ q) s.heap (List.flatten [bX9 ad2 E x2, bX1 ad2 E j2, bX3 (ad2 2) E (xs 2), bX3 (ad2 3) E (xs 3), bX5 ad2 E (xs 4), bX8 (ad2 5) E (xs 5), bX2 (ad2 6) E (xs 6), bX7 ad2 E (xs 7), bX2 (ad2 8) E (xs 8), bX8 (ad2 9) E (xs 9), bX8 (ad2 10) E (xs 10), bX8 (ad2 11) E (xs 11), bX2 (ad2 12) E (xs 12), bX8 (ad2 13) E (xs 13), bX8 (ad2 14) E (xs 14), bX2 (ad2 15) E (xs 15), bX10 a E o2, dC ad2 E ck (j2.2.1 1).toNatClampNeg, dK ad2 E mk ((xs 4).2.1 1).toNatClampNeg, dP ad2 E pr2 (x2.2.1 4).toNatClampNeg]) _ _ := Wh.back (cs := [_]) (rs := [_, _, _, _, _, _, _, _, _, _, _, _, _, _, _, _, _, _, _]) _ [1, 2, 3, 4, 5, 6, 7, 8, 9, 10, 11, 12, 13, 14, 15, 16, 0, 17, 18, 19] 20 rfl (by decide +kernel) rfl hN
  obtain ⟨hre, hI⟩ := h
  refine lv_icmp_eq (tgt := 997) hx hb dL_law_811 (by decide) (fun _ => ?_) (fun cc => absurd hre cc)
  refine W.widen (k := 100 + n + 6) (n := 50000 + 2 * n + 12) (by omega) (by omega) ?_
  exact kk ad2 ck mk pr2 (ux (ux xs 0 x2) 1 j2) o2 _ _ _ hI (congrFun (hag 0 (by decide) (by decide)) 0) hh hl
def OK_run (Inv : LInv) : Prop := ∀ (ck mk pr xs : Nat → Ob) (o : Ob) (v1 : Int32) (v2 : Int64) (v3 : Int32) (v4 : Int32), Inv ck mk pr xs o → w_X9_run ck mk pr v1 v2 v3 v4 (xs 0) (xs 4) (xs 5) (xs 6) (xs 1) (xs 2) (xs 3) (xs 15) (xs 13) (xs 14) (xs 7) (xs 8) (xs 9) (xs 10) (fun (r : Int32) (x2 : Ob) (k2 : Ob) (kt2 : Ob) (kl2 : Ob) (j2 : Ob) (mc2 : Ob) (md2 : Ob) (tr2 : Ob) (ff2 : Ob) (fl2 : Ob) (sk2 : Ob) (sl2 : Ob) (sb2 : Ob) (sn2 : Ob) => w_X10_run v1 v2 v3 v4 o (fun (r2 : Int32) (o2 : Ob) => r = r2 ∧ Inv ck mk pr (ux (ux (ux (ux (ux (ux (ux (ux (ux (ux (ux (ux (ux (ux xs 0 x2) 4 k2) 5 kt2) 6 kl2) 1 j2) 2 mc2) 3 md2) 15 tr2) 13 ff2) 14 fl2) 7 sk2) 8 sl2) 9 sb2) 10 sn2) o2))
set_option maxRecDepth 100000 in
set_option maxHeartbeats 8000000 in
theorem law_run {p : Program} {l : Launch} {e : Env} {s : State} {m : MethodId} {below : List Frame} {meth : Method} {c : Code} {Q : State → Prop} {D : va_G} {E : Nat → ClassId} {b L : Nat} {xv : Nat → Int32} (Inv : LInv) (hok : OK_run Inv) (C0 : LC p s m c D E b L xv) (hL : L ≤ 3072) {n : Nat} (hn : n + 6 ≤ L) {ad : Nat → Nat → Nat} {a : Nat → Nat} {ck mk pr xs : Nat → Ob} {o : Ob} {H : Heap} {locs : List Loc} {ls : Array Slot} (hI : Inv ck mk pr xs o) (hh : Wh D (fun q => s.heap.size ≤ q) s.heap (List.flatten (wL ad a E ck mk pr xs o)) H locs) (hl : lv_has ls 4 [(3, .int (nI n)), (0, .ref b), (1, .ref (ad 0 0)), (2, .ref (a 0))])
    (kk : ∀ (ad2 : Nat → Nat → Nat) (ck2 mk2 pr2 xs2 : Nat → Ob) (o2 : Ob) (H : Heap) (locs : List Loc) (ls : Array Slot), Inv ck2 mk2 pr2 xs2 o2 → ad2 0 0 = ad 0 0 → Wh D (fun q => s.heap.size ≤ q) s.heap (List.flatten (wL ad2 a E ck2 mk2 pr2 xs2 o2)) H locs → lv_has ls 4 [(3, .int (nI n)), (0, .ref b), (1, .ref (ad 0 0)), (2, .ref (a 0))] → W p l e room_1 s m #[Value.ref b] below meth c H locs (100 + n + 6) (50000 + 2 * n + 12) Q (F0 m 997 ls [])) :
    W p l e room_1 s m #[Value.ref b] below meth c H locs (100 + n) (50000 + 2 * n) Q (F0 m 816 ls []) := by
  obtain ⟨hx, hb, hml, hown, hT, hK, hX, hbl⟩ := C0
  have hA : ∀ q : Nat, s.heap.size ≤ q → (fun q : Nat => s.heap.size ≤ q) q := fun _ h => h
  have hbA : ¬ (fun q : Nat => s.heap.size ≤ q) b := Nat.not_le.mpr hbl
  have hh : Wh D (fun q => s.heap.size ≤ q) s.heap (List.flatten [bX9 ad E (xs 0), bX1 ad E (xs 1), bX3 (ad 2) E (xs 2), bX3 (ad 3) E (xs 3), bX5 ad E (xs 4), bX8 (ad 5) E (xs 5), bX2 (ad 6) E (xs 6), bX7 ad E (xs 7), bX2 (ad 8) E (xs 8), bX8 (ad 9) E (xs 9), bX8 (ad 10) E (xs 10), bX8 (ad 11) E (xs 11), bX2 (ad 12) E (xs 12), bX8 (ad 13) E (xs 13), bX8 (ad 14) E (xs 14), bX2 (ad 15) E (xs 15), bX10 a E o, dC ad E ck ((xs 1).2.1 1).toNatClampNeg, dK ad E mk ((xs 4).2.1 1).toNatClampNeg, dP ad E pr ((xs 0).2.1 4).toNatClampNeg]) _ _ := hh
  refine lv_aload_n hx hb dL_law_816 rfl (lv_at hl 2 rfl) ?_
  refine lv_aload_n hx hb dL_law_817 rfl (lv_at hl 1 rfl) ?_
  refine lv_iload_n hx hb dL_law_818 rfl (lv_at hl 0 rfl) ?_
  refine lv_iconst (v := 1) hx hb dL_law_819 (by decide) ?_
  refine lv_iadd hx hb dL_law_820 ?_
  refine va_sld hx hb hX hbl hbA hh.2.2 (lw_in (k := 1) (by omega) hL) dL_law_821 ?_
  refine lv_aload_n hx hb dL_law_822 rfl (lv_at hl 1 rfl) ?_
  refine lv_iload_n hx hb dL_law_823 rfl (lv_at hl 0 rfl) ?_
  refine lv_iconst (v := 2) hx hb dL_law_824 (by decide) ?_
  refine lv_iadd hx hb dL_law_825 ?_
  refine va_sld hx hb hX hbl hbA hh.2.2 (lw_in (k := 2) (by omega) hL) dL_law_826 ?_
  refine lv_i2l (v := (xv (nI n + 2).toNatClampNeg).toInt64) hx hb dL_law_827 rfl ?_
  refine lv_bipush (v := 32) hx hb dL_law_828 (by decide) ?_
  refine lv_lshl (v := (xv (nI n + 2).toNatClampNeg).toInt64 <<< ((32 : Int32).toInt64 &&& 63)) hx hb dL_law_830 rfl ?_
  refine lv_aload_n hx hb dL_law_831 rfl (lv_at hl 1 rfl) ?_
  refine lv_iload_n hx hb dL_law_832 rfl (lv_at hl 0 rfl) ?_
  refine lv_iconst (v := 3) hx hb dL_law_833 (by decide) ?_
  refine lv_iadd hx hb dL_law_834 ?_
  refine va_sld hx hb hX hbl hbA hh.2.2 (lw_in (k := 3) (by omega) hL) dL_law_835 ?_
  refine lv_i2l (v := (xv (nI n + 3).toNatClampNeg).toInt64) hx hb dL_law_836 rfl ?_
  refine lv_ldc2 (v := 4294967295) hx hb hown (hT _ kcL_L_57) dL_law_837 ?_
  refine lv_land hx hb dL_law_840 ?_
  refine lv_lor hx hb dL_law_841 ?_
  refine lv_aload_n hx hb dL_law_842 rfl (lv_at hl 1 rfl) ?_
  refine lv_iload_n hx hb dL_law_843 rfl (lv_at hl 0 rfl) ?_
  refine lv_iconst (v := 4) hx hb dL_law_844 (by decide) ?_
  refine lv_iadd hx hb dL_law_845 ?_
  refine va_sld hx hb hX hbl hbA hh.2.2 (lw_in (k := 4) (by omega) hL) dL_law_846 ?_
  refine lv_aload_n hx hb dL_law_847 rfl (lv_at hl 1 rfl) ?_
  refine lv_iload_n hx hb dL_law_848 rfl (lv_at hl 0 rfl) ?_
  refine lv_iconst (v := 5) hx hb dL_law_849 (by decide) ?_
  refine lv_iadd hx hb dL_law_850 ?_
  refine va_sld hx hb hX hbl hbA hh.2.2 (lw_in (k := 5) (by omega) hL) dL_law_851 ?_
  have h := hok ck mk pr xs o (xv (nI n + 1).toNatClampNeg) ((((xv (nI n + 2).toNatClampNeg).toInt64 <<< ((32 : Int32).toInt64 &&& 63)) ||| ((xv (nI n + 3).toNatClampNeg).toInt64 &&& 4294967295))) (xv (nI n + 4).toNatClampNeg) (xv (nI n + 5).toNatClampNeg) hI
  have hc := hh.cut [_, _, _, _, _, _, _, _, _, _, _, _, _, _, _, _, _] [_, _, _] [0, 4, 5, 6, 1, 2, 3, 15, 13, 14, 7, 8, 9, 10, 17, 18, 19, 11, 12, 16] 20 rfl (by decide +kernel) rfl
  refine kI hc hA (rnV hx hb hml hown hT hK hc (c_X9_run l D E ad ck mk pr (xs 0) (xs 4) (xs 5) (xs 6) (xs 1) (xs 2) (xs 3) (xs 15) (xs 13) (xs 14) (xs 7) (xs 8) (xs 9) (xs 10) (xv (nI n + 1).toNatClampNeg) ((((xv (nI n + 2).toNatClampNeg).toInt64 <<< ((32 : Int32).toInt64 &&& 63)) ||| ((xv (nI n + 3).toNatClampNeg).toInt64 &&& 4294967295))) (xv (nI n + 4).toNatClampNeg) (xv (nI n + 5).toNatClampNeg) h _) mf_X9_run kml_L_95 ⟨rfl, rfl, Nat.le_of_ble_eq_true rfl, Nat.le_of_ble_eq_true rfl⟩ ⟨by show _ ≤ 600000; omega, by show _ ≤ 7302250; omega⟩ 9 0 rfl rfl hl.1 rfl dL_law_852 (Nat.le_of_ble_eq_true rfl) rfl) (fun r u H locs h hN => ?_)
  obtain ⟨x2, k2, kt2, kl2, j2, mc2, md2, tr2, ff2, fl2, sk2, sl2, sb2, sn2⟩ := u
  have hh : Wh D (fun q => s.heap.size ≤ q) s.heap (List.flatten [bX9 ad E x2, bX1 ad E j2, bX3 (ad 2) E mc2, bX3 (ad 3) E md2, bX5 ad E k2, bX8 (ad 5) E kt2, bX2 (ad 6) E kl2, bX7 ad E sk2, bX2 (ad 8) E sl2, bX8 (ad 9) E sb2, bX8 (ad 10) E sn2, bX8 (ad 11) E (xs 11), bX2 (ad 12) E (xs 12), bX8 (ad 13) E ff2, bX8 (ad 14) E fl2, bX2 (ad 15) E tr2, bX10 a E o, dC ad E ck (j2.2.1 1).toNatClampNeg, dK ad E mk (k2.2.1 1).toNatClampNeg, dP ad E pr (x2.2.1 4).toNatClampNeg]) _ _ := Wh.back (cs := [_, _, _, _, _, _, _, _, _, _, _, _, _, _, _, _, _]) (rs := [_, _, _]) _ [0, 4, 5, 6, 1, 2, 3, 10, 11, 12, 13, 17, 18, 8, 9, 7, 19, 14, 15, 16] 20 rfl (by decide +kernel) rfl hN
  refine lv_aload_n hx hb dL_law_855 rfl (lv_at hl 3 rfl) ?_
  refine lv_aload_n hx hb dL_law_856 rfl (lv_at hl 1 rfl) ?_
  refine lv_iload_n hx hb dL_law_857 rfl (lv_at hl 0 rfl) ?_
  refine lv_iconst (v := 1) hx hb dL_law_858 (by decide) ?_
  refine lv_iadd hx hb dL_law_859 ?_
  refine va_sld hx hb hX hbl hbA hh.2.2 (lw_in (k := 1) (by omega) hL) dL_law_860 ?_
  refine lv_aload_n hx hb dL_law_861 rfl (lv_at hl 1 rfl) ?_
  refine lv_iload_n hx hb dL_law_862 rfl (lv_at hl 0 rfl) ?_
  refine lv_iconst (v := 2) hx hb dL_law_863 (by decide) ?_
  refine lv_iadd hx hb dL_law_864 ?_
  refine va_sld hx hb hX hbl hbA hh.2.2 (lw_in (k := 2) (by omega) hL) dL_law_865 ?_
  refine lv_i2l (v := (xv (nI n + 2).toNatClampNeg).toInt64) hx hb dL_law_866 rfl ?_
  refine lv_bipush (v := 32) hx hb dL_law_867 (by decide) ?_
  refine lv_lshl (v := (xv (nI n + 2).toNatClampNeg).toInt64 <<< ((32 : Int32).toInt64 &&& 63)) hx hb dL_law_869 rfl ?_
  refine lv_aload_n hx hb dL_law_870 rfl (lv_at hl 1 rfl) ?_
  refine lv_iload_n hx hb dL_law_871 rfl (lv_at hl 0 rfl) ?_
  refine lv_iconst (v := 3) hx hb dL_law_872 (by decide) ?_
  refine lv_iadd hx hb dL_law_873 ?_
  refine va_sld hx hb hX hbl hbA hh.2.2 (lw_in (k := 3) (by omega) hL) dL_law_874 ?_
  refine lv_i2l (v := (xv (nI n + 3).toNatClampNeg).toInt64) hx hb dL_law_875 rfl ?_
  refine lv_ldc2 (v := 4294967295) hx hb hown (hT _ kcL_L_57) dL_law_876 ?_
  refine lv_land hx hb dL_law_879 ?_
  refine lv_lor hx hb dL_law_880 ?_
  refine lv_aload_n hx hb dL_law_881 rfl (lv_at hl 1 rfl) ?_
  refine lv_iload_n hx hb dL_law_882 rfl (lv_at hl 0 rfl) ?_
  refine lv_iconst (v := 4) hx hb dL_law_883 (by decide) ?_
  refine lv_iadd hx hb dL_law_884 ?_
  refine va_sld hx hb hX hbl hbA hh.2.2 (lw_in (k := 4) (by omega) hL) dL_law_885 ?_
  refine lv_aload_n hx hb dL_law_886 rfl (lv_at hl 1 rfl) ?_
  refine lv_iload_n hx hb dL_law_887 rfl (lv_at hl 0 rfl) ?_
  refine lv_iconst (v := 5) hx hb dL_law_888 (by decide) ?_
  refine lv_iadd hx hb dL_law_889 ?_
  refine va_sld hx hb hX hbl hbA hh.2.2 (lw_in (k := 5) (by omega) hL) dL_law_890 ?_
  have hc := hh.cut [_] [_, _, _, _, _, _, _, _, _, _, _, _, _, _, _, _, _, _, _] [16, 0, 1, 2, 3, 4, 5, 6, 7, 8, 9, 10, 11, 12, 13, 14, 15, 17, 18, 19] 20 rfl (by decide +kernel) rfl
  refine kI hc hA (rnV hx hb hml hown hT hK hc (c_X10_run l D E a o (xv (nI n + 1).toNatClampNeg) ((((xv (nI n + 2).toNatClampNeg).toInt64 <<< ((32 : Int32).toInt64 &&& 63)) ||| ((xv (nI n + 3).toNatClampNeg).toInt64 &&& 4294967295))) (xv (nI n + 4).toNatClampNeg) (xv (nI n + 5).toNatClampNeg) h _) mf_X10_run kml_L_99 ⟨rfl, rfl, Nat.le_of_ble_eq_true rfl, Nat.le_of_ble_eq_true rfl⟩ ⟨by show _ ≤ 600000; omega, by show _ ≤ 7302250; omega⟩ 10 0 rfl rfl hl.1 rfl dL_law_891 (Nat.le_of_ble_eq_true rfl) rfl) (fun r2 o2 H locs h hN => ?_)
  have hh : Wh D (fun q => s.heap.size ≤ q) s.heap (List.flatten [bX9 ad E x2, bX1 ad E j2, bX3 (ad 2) E mc2, bX3 (ad 3) E md2, bX5 ad E k2, bX8 (ad 5) E kt2, bX2 (ad 6) E kl2, bX7 ad E sk2, bX2 (ad 8) E sl2, bX8 (ad 9) E sb2, bX8 (ad 10) E sn2, bX8 (ad 11) E (xs 11), bX2 (ad 12) E (xs 12), bX8 (ad 13) E ff2, bX8 (ad 14) E fl2, bX2 (ad 15) E tr2, bX10 a E o2, dC ad E ck (j2.2.1 1).toNatClampNeg, dK ad E mk (k2.2.1 1).toNatClampNeg, dP ad E pr (x2.2.1 4).toNatClampNeg]) _ _ := Wh.back (cs := [_]) (rs := [_, _, _, _, _, _, _, _, _, _, _, _, _, _, _, _, _, _, _]) _ [1, 2, 3, 4, 5, 6, 7, 8, 9, 10, 11, 12, 13, 14, 15, 16, 0, 17, 18, 19] 20 rfl (by decide +kernel) rfl hN
  obtain ⟨hre, hI⟩ := h
  refine lv_icmp_eq (tgt := 997) hx hb dL_law_894 (by decide) (fun _ => ?_) (fun cc => absurd hre cc)
  refine W.widen (k := 100 + n + 6) (n := 50000 + 2 * n + 12) (by omega) (by omega) ?_
  exact kk ad ck mk pr (ux (ux (ux (ux (ux (ux (ux (ux (ux (ux (ux (ux (ux (ux xs 0 x2) 4 k2) 5 kt2) 6 kl2) 1 j2) 2 mc2) 3 md2) 15 tr2) 13 ff2) 14 fl2) 7 sk2) 8 sl2) 9 sb2) 10 sn2) o2 _ _ _ hI rfl hh hl
def OK_ran (Inv : LInv) : Prop := ∀ (ck mk pr xs : Nat → Ob) (o : Ob) (v1 : Int32), Inv ck mk pr xs o → w_X9_ran  v1 (xs 0) (fun (r : Int32) (x2 : Ob) => (x2.2.1 4 = (xs 0).2.1 4) ∧ w_X10_ran v1 o (fun (r2 : Int32) (o2 : Ob) => r = r2 ∧ Inv ck mk pr (ux xs 0 x2) o2))
set_option maxRecDepth 100000 in
set_option maxHeartbeats 8000000 in
theorem law_ran {p : Program} {l : Launch} {e : Env} {s : State} {m : MethodId} {below : List Frame} {meth : Method} {c : Code} {Q : State → Prop} {D : va_G} {E : Nat → ClassId} {b L : Nat} {xv : Nat → Int32} (Inv : LInv) (hok : OK_ran Inv) (C0 : LC p s m c D E b L xv) (hL : L ≤ 3072) {n : Nat} (hn : n + 6 ≤ L) {ad : Nat → Nat → Nat} {a : Nat → Nat} {ck mk pr xs : Nat → Ob} {o : Ob} {H : Heap} {locs : List Loc} {ls : Array Slot} (hI : Inv ck mk pr xs o) (hh : Wh D (fun q => s.heap.size ≤ q) s.heap (List.flatten (wL ad a E ck mk pr xs o)) H locs) (hl : lv_has ls 4 [(3, .int (nI n)), (0, .ref b), (1, .ref (ad 0 0)), (2, .ref (a 0))])
    (kk : ∀ (ad2 : Nat → Nat → Nat) (ck2 mk2 pr2 xs2 : Nat → Ob) (o2 : Ob) (H : Heap) (locs : List Loc) (ls : Array Slot), Inv ck2 mk2 pr2 xs2 o2 → ad2 0 0 = ad 0 0 → Wh D (fun q => s.heap.size ≤ q) s.heap (List.flatten (wL ad2 a E ck2 mk2 pr2 xs2 o2)) H locs → lv_has ls 4 [(3, .int (nI n)), (0, .ref b), (1, .ref (ad 0 0)), (2, .ref (a 0))] → W p l e room_1 s m #[Value.ref b] below meth c H locs (100 + n + 6) (50000 + 2 * n + 12) Q (F0 m 997 ls [])) :
    W p l e room_1 s m #[Value.ref b] below meth c H locs (100 + n) (50000 + 2 * n) Q (F0 m 899 ls []) := by
  obtain ⟨hx, hb, hml, hown, hT, hK, hX, hbl⟩ := C0
  have hA : ∀ q : Nat, s.heap.size ≤ q → (fun q : Nat => s.heap.size ≤ q) q := fun _ h => h
  have hbA : ¬ (fun q : Nat => s.heap.size ≤ q) b := Nat.not_le.mpr hbl
  have hh : Wh D (fun q => s.heap.size ≤ q) s.heap (List.flatten [bX9 ad E (xs 0), bX1 ad E (xs 1), bX3 (ad 2) E (xs 2), bX3 (ad 3) E (xs 3), bX5 ad E (xs 4), bX8 (ad 5) E (xs 5), bX2 (ad 6) E (xs 6), bX7 ad E (xs 7), bX2 (ad 8) E (xs 8), bX8 (ad 9) E (xs 9), bX8 (ad 10) E (xs 10), bX8 (ad 11) E (xs 11), bX2 (ad 12) E (xs 12), bX8 (ad 13) E (xs 13), bX8 (ad 14) E (xs 14), bX2 (ad 15) E (xs 15), bX10 a E o, dC ad E ck ((xs 1).2.1 1).toNatClampNeg, dK ad E mk ((xs 4).2.1 1).toNatClampNeg, dP ad E pr ((xs 0).2.1 4).toNatClampNeg]) _ _ := hh
  refine lv_aload_n hx hb dL_law_899 rfl (lv_at hl 2 rfl) ?_
  refine lv_aload_n hx hb dL_law_900 rfl (lv_at hl 1 rfl) ?_
  refine lv_iload_n hx hb dL_law_901 rfl (lv_at hl 0 rfl) ?_
  refine lv_iconst (v := 1) hx hb dL_law_902 (by decide) ?_
  refine lv_iadd hx hb dL_law_903 ?_
  refine va_sld hx hb hX hbl hbA hh.2.2 (lw_in (k := 1) (by omega) hL) dL_law_904 ?_
  have h := hok ck mk pr xs o (xv (nI n + 1).toNatClampNeg) hI
  have hc := hh.cut [_] [_, _, _, _, _, _, _, _, _, _, _, _, _, _, _, _, _, _, _] [0, 1, 2, 3, 4, 5, 6, 7, 8, 9, 10, 11, 12, 13, 14, 15, 16, 17, 18, 19] 20 rfl (by decide +kernel) rfl
  refine kI hc hA (rnV hx hb hml hown hT hK hc (c_X9_ran l D E ad  (xs 0) (xv (nI n + 1).toNatClampNeg) h _) mf_X9_ran kml_L_100 ⟨rfl, rfl, Nat.le_of_ble_eq_true rfl, Nat.le_of_ble_eq_true rfl⟩ ⟨by show _ ≤ 600000; omega, by show _ ≤ 7302250; omega⟩ 9 0 rfl rfl hl.1 rfl dL_law_905 (Nat.le_of_ble_eq_true rfl) rfl) (fun r u H locs h hN => ?_)
  obtain ⟨x2, rfl⟩ : ∃ z, z = u := ⟨_, rfl⟩
  obtain ⟨g0, h⟩ := h
  rw [← g0] at hN
  have hh : Wh D (fun q => s.heap.size ≤ q) s.heap (List.flatten [bX9 ad E x2, bX1 ad E (xs 1), bX3 (ad 2) E (xs 2), bX3 (ad 3) E (xs 3), bX5 ad E (xs 4), bX8 (ad 5) E (xs 5), bX2 (ad 6) E (xs 6), bX7 ad E (xs 7), bX2 (ad 8) E (xs 8), bX8 (ad 9) E (xs 9), bX8 (ad 10) E (xs 10), bX8 (ad 11) E (xs 11), bX2 (ad 12) E (xs 12), bX8 (ad 13) E (xs 13), bX8 (ad 14) E (xs 14), bX2 (ad 15) E (xs 15), bX10 a E o, dC ad E ck ((xs 1).2.1 1).toNatClampNeg, dK ad E mk ((xs 4).2.1 1).toNatClampNeg, dP ad E pr (x2.2.1 4).toNatClampNeg]) _ _ := Wh.back (cs := [_]) (rs := [_, _, _, _, _, _, _, _, _, _, _, _, _, _, _, _, _, _, _]) _ [0, 1, 2, 3, 4, 5, 6, 7, 8, 9, 10, 11, 12, 13, 14, 15, 16, 17, 18, 19] 20 rfl (by decide +kernel) rfl hN
  refine lv_aload_n hx hb dL_law_908 rfl (lv_at hl 3 rfl) ?_
  refine lv_aload_n hx hb dL_law_909 rfl (lv_at hl 1 rfl) ?_
  refine lv_iload_n hx hb dL_law_910 rfl (lv_at hl 0 rfl) ?_
  refine lv_iconst (v := 1) hx hb dL_law_911 (by decide) ?_
  refine lv_iadd hx hb dL_law_912 ?_
  refine va_sld hx hb hX hbl hbA hh.2.2 (lw_in (k := 1) (by omega) hL) dL_law_913 ?_
  have hc := hh.cut [_] [_, _, _, _, _, _, _, _, _, _, _, _, _, _, _, _, _, _, _] [16, 0, 1, 2, 3, 4, 5, 6, 7, 8, 9, 10, 11, 12, 13, 14, 15, 17, 18, 19] 20 rfl (by decide +kernel) rfl
  refine kI hc hA (rnV hx hb hml hown hT hK hc (c_X10_ran l D E a o (xv (nI n + 1).toNatClampNeg) h _) mf_X10_ran kml_L_103 ⟨rfl, rfl, Nat.le_of_ble_eq_true rfl, Nat.le_of_ble_eq_true rfl⟩ ⟨by show _ ≤ 600000; omega, by show _ ≤ 7302250; omega⟩ 10 0 rfl rfl hl.1 rfl dL_law_914 (Nat.le_of_ble_eq_true rfl) rfl) (fun r2 o2 H locs h hN => ?_)
  have hh : Wh D (fun q => s.heap.size ≤ q) s.heap (List.flatten [bX9 ad E x2, bX1 ad E (xs 1), bX3 (ad 2) E (xs 2), bX3 (ad 3) E (xs 3), bX5 ad E (xs 4), bX8 (ad 5) E (xs 5), bX2 (ad 6) E (xs 6), bX7 ad E (xs 7), bX2 (ad 8) E (xs 8), bX8 (ad 9) E (xs 9), bX8 (ad 10) E (xs 10), bX8 (ad 11) E (xs 11), bX2 (ad 12) E (xs 12), bX8 (ad 13) E (xs 13), bX8 (ad 14) E (xs 14), bX2 (ad 15) E (xs 15), bX10 a E o2, dC ad E ck ((xs 1).2.1 1).toNatClampNeg, dK ad E mk ((xs 4).2.1 1).toNatClampNeg, dP ad E pr (x2.2.1 4).toNatClampNeg]) _ _ := Wh.back (cs := [_]) (rs := [_, _, _, _, _, _, _, _, _, _, _, _, _, _, _, _, _, _, _]) _ [1, 2, 3, 4, 5, 6, 7, 8, 9, 10, 11, 12, 13, 14, 15, 16, 0, 17, 18, 19] 20 rfl (by decide +kernel) rfl hN
  obtain ⟨hre, hI⟩ := h
  refine lv_icmp_eq (tgt := 997) hx hb dL_law_917 (by decide) (fun _ => ?_) (fun cc => absurd hre cc)
  refine W.widen (k := 100 + n + 6) (n := 50000 + 2 * n + 12) (by omega) (by omega) ?_
  exact kk ad ck mk pr (ux xs 0 x2) o2 _ _ _ hI rfl hh hl
def OK_show (Inv : LInv) : Prop := ∀ (ck mk pr xs : Nat → Ob) (o : Ob) (v1 : Int32), (v1 = 0 ∨ v1 = 1) → Inv ck mk pr xs o → w_X9_show  v1 (xs 0) (xs 11) (xs 12) (xs 13) (xs 14) (fun (r : Int32) (x2 : Ob) (sh2 : Ob) (shl2 : Ob) (ff2 : Ob) (fl2 : Ob) => (x2.2.1 4 = (xs 0).2.1 4) ∧ w_X10_show v1 o (fun (r2 : Int32) (o2 : Ob) => r = r2 ∧ Inv ck mk pr (ux (ux (ux (ux (ux xs 0 x2) 11 sh2) 12 shl2) 13 ff2) 14 fl2) o2))
set_option maxRecDepth 100000 in
set_option maxHeartbeats 8000000 in
theorem law_show {p : Program} {l : Launch} {e : Env} {s : State} {m : MethodId} {below : List Frame} {meth : Method} {c : Code} {Q : State → Prop} {D : va_G} {E : Nat → ClassId} {b L : Nat} {xv : Nat → Int32} (Inv : LInv) (hok : OK_show Inv) (C0 : LC p s m c D E b L xv) (hL : L ≤ 3072) {n : Nat} (hn : n + 6 ≤ L) {ad : Nat → Nat → Nat} {a : Nat → Nat} {ck mk pr xs : Nat → Ob} {o : Ob} {H : Heap} {locs : List Loc} {ls : Array Slot} (hI : Inv ck mk pr xs o) (hh : Wh D (fun q => s.heap.size ≤ q) s.heap (List.flatten (wL ad a E ck mk pr xs o)) H locs) (hl : lv_has ls 4 [(3, .int (nI n)), (0, .ref b), (1, .ref (ad 0 0)), (2, .ref (a 0))])
    (kk : ∀ (ad2 : Nat → Nat → Nat) (ck2 mk2 pr2 xs2 : Nat → Ob) (o2 : Ob) (H : Heap) (locs : List Loc) (ls : Array Slot), Inv ck2 mk2 pr2 xs2 o2 → ad2 0 0 = ad 0 0 → Wh D (fun q => s.heap.size ≤ q) s.heap (List.flatten (wL ad2 a E ck2 mk2 pr2 xs2 o2)) H locs → lv_has ls 4 [(3, .int (nI n)), (0, .ref b), (1, .ref (ad 0 0)), (2, .ref (a 0))] → W p l e room_1 s m #[Value.ref b] below meth c H locs (100 + n + 6) (50000 + 2 * n + 12) Q (F0 m 997 ls [])) :
    W p l e room_1 s m #[Value.ref b] below meth c H locs (100 + n) (50000 + 2 * n) Q (F0 m 922 ls []) := by
  obtain ⟨hx, hb, hml, hown, hT, hK, hX, hbl⟩ := C0
  have hA : ∀ q : Nat, s.heap.size ≤ q → (fun q : Nat => s.heap.size ≤ q) q := fun _ h => h
  have hbA : ¬ (fun q : Nat => s.heap.size ≤ q) b := Nat.not_le.mpr hbl
  have hh : Wh D (fun q => s.heap.size ≤ q) s.heap (List.flatten [bX9 ad E (xs 0), bX1 ad E (xs 1), bX3 (ad 2) E (xs 2), bX3 (ad 3) E (xs 3), bX5 ad E (xs 4), bX8 (ad 5) E (xs 5), bX2 (ad 6) E (xs 6), bX7 ad E (xs 7), bX2 (ad 8) E (xs 8), bX8 (ad 9) E (xs 9), bX8 (ad 10) E (xs 10), bX8 (ad 11) E (xs 11), bX2 (ad 12) E (xs 12), bX8 (ad 13) E (xs 13), bX8 (ad 14) E (xs 14), bX2 (ad 15) E (xs 15), bX10 a E o, dC ad E ck ((xs 1).2.1 1).toNatClampNeg, dK ad E mk ((xs 4).2.1 1).toNatClampNeg, dP ad E pr ((xs 0).2.1 4).toNatClampNeg]) _ _ := hh
  refine lv_aload_n hx hb dL_law_922 rfl (lv_at hl 2 rfl) ?_
  refine lv_aload_n hx hb dL_law_923 rfl (lv_at hl 1 rfl) ?_
  refine lv_iload_n hx hb dL_law_924 rfl (lv_at hl 0 rfl) ?_
  refine lv_iconst (v := 1) hx hb dL_law_925 (by decide) ?_
  refine lv_iadd hx hb dL_law_926 ?_
  refine va_sld hx hb hX hbl hbA hh.2.2 (lw_in (k := 1) (by omega) hL) dL_law_927 ?_
  refine lv_if_eq (tgt := 935) hx hb dL_law_928 (by decide) (fun cz => ?_) (fun cz => ?_)
  · refine lv_iconst (v := 0) hx hb dL_law_935 (by decide) ?_
    have h := hok ck mk pr xs o (0 : Int32) (by decide) hI
    have hc := hh.cut [_, _, _, _, _] [_, _, _, _, _, _, _, _, _, _, _, _, _, _, _] [0, 11, 12, 13, 14, 1, 2, 3, 4, 5, 6, 7, 8, 9, 10, 15, 16, 17, 18, 19] 20 rfl (by decide +kernel) rfl
    refine kI hc hA (rnV hx hb hml hown hT hK hc (c_X9_show l D E ad  (xs 0) (xs 11) (xs 12) (xs 13) (xs 14) (0 : Int32) h _) mf_X9_show kml_L_104 ⟨rfl, rfl, Nat.le_of_ble_eq_true rfl, Nat.le_of_ble_eq_true rfl⟩ ⟨by show _ ≤ 600000; omega, by show _ ≤ 7302250; omega⟩ 9 0 rfl rfl hl.1 rfl dL_law_936 (Nat.le_of_ble_eq_true rfl) rfl) (fun r u H locs h hN => ?_)
    obtain ⟨x2, sh2, shl2, ff2, fl2⟩ := u
    obtain ⟨g0, h⟩ := h
    rw [← g0] at hN
    have hh : Wh D (fun q => s.heap.size ≤ q) s.heap (List.flatten [bX9 ad E x2, bX1 ad E (xs 1), bX3 (ad 2) E (xs 2), bX3 (ad 3) E (xs 3), bX5 ad E (xs 4), bX8 (ad 5) E (xs 5), bX2 (ad 6) E (xs 6), bX7 ad E (xs 7), bX2 (ad 8) E (xs 8), bX8 (ad 9) E (xs 9), bX8 (ad 10) E (xs 10), bX8 (ad 11) E sh2, bX2 (ad 12) E shl2, bX8 (ad 13) E ff2, bX8 (ad 14) E fl2, bX2 (ad 15) E (xs 15), bX10 a E o, dC ad E ck ((xs 1).2.1 1).toNatClampNeg, dK ad E mk ((xs 4).2.1 1).toNatClampNeg, dP ad E pr (x2.2.1 4).toNatClampNeg]) _ _ := Wh.back (cs := [_, _, _, _, _]) (rs := [_, _, _, _, _, _, _, _, _, _, _, _, _, _, _]) _ [0, 5, 6, 7, 8, 9, 10, 11, 12, 13, 14, 1, 2, 3, 4, 15, 16, 17, 18, 19] 20 rfl (by decide +kernel) rfl hN
    refine lv_aload_n hx hb dL_law_939 rfl (lv_at hl 3 rfl) ?_
    refine lv_aload_n hx hb dL_law_940 rfl (lv_at hl 1 rfl) ?_
    refine lv_iload_n hx hb dL_law_941 rfl (lv_at hl 0 rfl) ?_
    refine lv_iconst (v := 1) hx hb dL_law_942 (by decide) ?_
    refine lv_iadd hx hb dL_law_943 ?_
    refine va_sld hx hb hX hbl hbA hh.2.2 (lw_in (k := 1) (by omega) hL) dL_law_944 ?_
    refine lv_if_eq (tgt := 952) hx hb dL_law_945 (by decide) (fun _ => ?_) (fun cq => absurd cz cq)
    refine lv_iconst (v := 0) hx hb dL_law_952 (by decide) ?_
    have hc := hh.cut [_] [_, _, _, _, _, _, _, _, _, _, _, _, _, _, _, _, _, _, _] [16, 0, 1, 2, 3, 4, 5, 6, 7, 8, 9, 10, 11, 12, 13, 14, 15, 17, 18, 19] 20 rfl (by decide +kernel) rfl
    refine kI hc hA (rnV hx hb hml hown hT hK hc (c_X10_show l D E a o (0 : Int32) h _) mf_X10_show kml_L_108 ⟨rfl, rfl, Nat.le_of_ble_eq_true rfl, Nat.le_of_ble_eq_true rfl⟩ ⟨by show _ ≤ 600000; omega, by show _ ≤ 7302250; omega⟩ 10 0 rfl rfl hl.1 rfl dL_law_953 (Nat.le_of_ble_eq_true rfl) rfl) (fun r2 o2 H locs h hN => ?_)
    have hh : Wh D (fun q => s.heap.size ≤ q) s.heap (List.flatten [bX9 ad E x2, bX1 ad E (xs 1), bX3 (ad 2) E (xs 2), bX3 (ad 3) E (xs 3), bX5 ad E (xs 4), bX8 (ad 5) E (xs 5), bX2 (ad 6) E (xs 6), bX7 ad E (xs 7), bX2 (ad 8) E (xs 8), bX8 (ad 9) E (xs 9), bX8 (ad 10) E (xs 10), bX8 (ad 11) E sh2, bX2 (ad 12) E shl2, bX8 (ad 13) E ff2, bX8 (ad 14) E fl2, bX2 (ad 15) E (xs 15), bX10 a E o2, dC ad E ck ((xs 1).2.1 1).toNatClampNeg, dK ad E mk ((xs 4).2.1 1).toNatClampNeg, dP ad E pr (x2.2.1 4).toNatClampNeg]) _ _ := Wh.back (cs := [_]) (rs := [_, _, _, _, _, _, _, _, _, _, _, _, _, _, _, _, _, _, _]) _ [1, 2, 3, 4, 5, 6, 7, 8, 9, 10, 11, 12, 13, 14, 15, 16, 0, 17, 18, 19] 20 rfl (by decide +kernel) rfl hN
    obtain ⟨hre, hI⟩ := h
    refine lv_icmp_eq (tgt := 997) hx hb dL_law_956 (by decide) (fun _ => ?_) (fun cc => absurd hre cc)
    refine W.widen (k := 100 + n + 6) (n := 50000 + 2 * n + 12) (by omega) (by omega) ?_
    exact kk ad ck mk pr (ux (ux (ux (ux (ux xs 0 x2) 11 sh2) 12 shl2) 13 ff2) 14 fl2) o2 _ _ _ hI rfl hh hl
  · refine lv_iconst (v := 1) hx hb dL_law_931 (by decide) ?_
    refine lv_goto (tgt := 936) hx hb dL_law_932 (by decide) ?_
    have h := hok ck mk pr xs o (1 : Int32) (by decide) hI
    have hc := hh.cut [_, _, _, _, _] [_, _, _, _, _, _, _, _, _, _, _, _, _, _, _] [0, 11, 12, 13, 14, 1, 2, 3, 4, 5, 6, 7, 8, 9, 10, 15, 16, 17, 18, 19] 20 rfl (by decide +kernel) rfl
    refine kI hc hA (rnV hx hb hml hown hT hK hc (c_X9_show l D E ad  (xs 0) (xs 11) (xs 12) (xs 13) (xs 14) (1 : Int32) h _) mf_X9_show kml_L_104 ⟨rfl, rfl, Nat.le_of_ble_eq_true rfl, Nat.le_of_ble_eq_true rfl⟩ ⟨by show _ ≤ 600000; omega, by show _ ≤ 7302250; omega⟩ 9 0 rfl rfl hl.1 rfl dL_law_936 (Nat.le_of_ble_eq_true rfl) rfl) (fun r u H locs h hN => ?_)
    obtain ⟨x2, sh2, shl2, ff2, fl2⟩ := u
    obtain ⟨g0, h⟩ := h
    rw [← g0] at hN
    have hh : Wh D (fun q => s.heap.size ≤ q) s.heap (List.flatten [bX9 ad E x2, bX1 ad E (xs 1), bX3 (ad 2) E (xs 2), bX3 (ad 3) E (xs 3), bX5 ad E (xs 4), bX8 (ad 5) E (xs 5), bX2 (ad 6) E (xs 6), bX7 ad E (xs 7), bX2 (ad 8) E (xs 8), bX8 (ad 9) E (xs 9), bX8 (ad 10) E (xs 10), bX8 (ad 11) E sh2, bX2 (ad 12) E shl2, bX8 (ad 13) E ff2, bX8 (ad 14) E fl2, bX2 (ad 15) E (xs 15), bX10 a E o, dC ad E ck ((xs 1).2.1 1).toNatClampNeg, dK ad E mk ((xs 4).2.1 1).toNatClampNeg, dP ad E pr (x2.2.1 4).toNatClampNeg]) _ _ := Wh.back (cs := [_, _, _, _, _]) (rs := [_, _, _, _, _, _, _, _, _, _, _, _, _, _, _]) _ [0, 5, 6, 7, 8, 9, 10, 11, 12, 13, 14, 1, 2, 3, 4, 15, 16, 17, 18, 19] 20 rfl (by decide +kernel) rfl hN
    refine lv_aload_n hx hb dL_law_939 rfl (lv_at hl 3 rfl) ?_
    refine lv_aload_n hx hb dL_law_940 rfl (lv_at hl 1 rfl) ?_
    refine lv_iload_n hx hb dL_law_941 rfl (lv_at hl 0 rfl) ?_
    refine lv_iconst (v := 1) hx hb dL_law_942 (by decide) ?_
    refine lv_iadd hx hb dL_law_943 ?_
    refine va_sld hx hb hX hbl hbA hh.2.2 (lw_in (k := 1) (by omega) hL) dL_law_944 ?_
    refine lv_if_eq (tgt := 952) hx hb dL_law_945 (by decide) (fun cq => absurd cq cz) (fun _ => ?_)
    refine lv_iconst (v := 1) hx hb dL_law_948 (by decide) ?_
    refine lv_goto (tgt := 953) hx hb dL_law_949 (by decide) ?_
    have hc := hh.cut [_] [_, _, _, _, _, _, _, _, _, _, _, _, _, _, _, _, _, _, _] [16, 0, 1, 2, 3, 4, 5, 6, 7, 8, 9, 10, 11, 12, 13, 14, 15, 17, 18, 19] 20 rfl (by decide +kernel) rfl
    refine kI hc hA (rnV hx hb hml hown hT hK hc (c_X10_show l D E a o (1 : Int32) h _) mf_X10_show kml_L_108 ⟨rfl, rfl, Nat.le_of_ble_eq_true rfl, Nat.le_of_ble_eq_true rfl⟩ ⟨by show _ ≤ 600000; omega, by show _ ≤ 7302250; omega⟩ 10 0 rfl rfl hl.1 rfl dL_law_953 (Nat.le_of_ble_eq_true rfl) rfl) (fun r2 o2 H locs h hN => ?_)
    have hh : Wh D (fun q => s.heap.size ≤ q) s.heap (List.flatten [bX9 ad E x2, bX1 ad E (xs 1), bX3 (ad 2) E (xs 2), bX3 (ad 3) E (xs 3), bX5 ad E (xs 4), bX8 (ad 5) E (xs 5), bX2 (ad 6) E (xs 6), bX7 ad E (xs 7), bX2 (ad 8) E (xs 8), bX8 (ad 9) E (xs 9), bX8 (ad 10) E (xs 10), bX8 (ad 11) E sh2, bX2 (ad 12) E shl2, bX8 (ad 13) E ff2, bX8 (ad 14) E fl2, bX2 (ad 15) E (xs 15), bX10 a E o2, dC ad E ck ((xs 1).2.1 1).toNatClampNeg, dK ad E mk ((xs 4).2.1 1).toNatClampNeg, dP ad E pr (x2.2.1 4).toNatClampNeg]) _ _ := Wh.back (cs := [_]) (rs := [_, _, _, _, _, _, _, _, _, _, _, _, _, _, _, _, _, _, _]) _ [1, 2, 3, 4, 5, 6, 7, 8, 9, 10, 11, 12, 13, 14, 15, 16, 0, 17, 18, 19] 20 rfl (by decide +kernel) rfl hN
    obtain ⟨hre, hI⟩ := h
    refine lv_icmp_eq (tgt := 997) hx hb dL_law_956 (by decide) (fun _ => ?_) (fun cc => absurd hre cc)
    refine W.widen (k := 100 + n + 6) (n := 50000 + 2 * n + 12) (by omega) (by omega) ?_
    exact kk ad ck mk pr (ux (ux (ux (ux (ux xs 0 x2) 11 sh2) 12 shl2) 13 ff2) 14 fl2) o2 _ _ _ hI rfl hh hl
def OK_effort (Inv : LInv) : Prop := ∀ (ck mk pr xs : Nat → Ob) (o : Ob) , Inv ck mk pr xs o → w_X9_effort   (xs 0) (xs 1) (fun (r : Int32) (x2 : Ob) (j2 : Ob) => (j2.2.1 1 = (xs 1).2.1 1) ∧ (x2.2.1 4 = (xs 0).2.1 4) ∧ w_X10_effort  o (fun (r2 : Int32) (o2 : Ob) => r = r2 ∧ Inv ck mk pr (ux (ux xs 0 x2) 1 j2) o2))
set_option maxRecDepth 100000 in
set_option maxHeartbeats 8000000 in
theorem law_effort {p : Program} {l : Launch} {e : Env} {s : State} {m : MethodId} {below : List Frame} {meth : Method} {c : Code} {Q : State → Prop} {D : va_G} {E : Nat → ClassId} {b L : Nat} {xv : Nat → Int32} (Inv : LInv) (hok : OK_effort Inv) (C0 : LC p s m c D E b L xv) (hL : L ≤ 3072) {n : Nat} (hn : n + 6 ≤ L) {ad : Nat → Nat → Nat} {a : Nat → Nat} {ck mk pr xs : Nat → Ob} {o : Ob} {H : Heap} {locs : List Loc} {ls : Array Slot} (hI : Inv ck mk pr xs o) (hh : Wh D (fun q => s.heap.size ≤ q) s.heap (List.flatten (wL ad a E ck mk pr xs o)) H locs) (hl : lv_has ls 4 [(3, .int (nI n)), (0, .ref b), (1, .ref (ad 0 0)), (2, .ref (a 0))])
    (kk : ∀ (ad2 : Nat → Nat → Nat) (ck2 mk2 pr2 xs2 : Nat → Ob) (o2 : Ob) (H : Heap) (locs : List Loc) (ls : Array Slot), Inv ck2 mk2 pr2 xs2 o2 → ad2 0 0 = ad 0 0 → Wh D (fun q => s.heap.size ≤ q) s.heap (List.flatten (wL ad2 a E ck2 mk2 pr2 xs2 o2)) H locs → lv_has ls 4 [(3, .int (nI n)), (0, .ref b), (1, .ref (ad 0 0)), (2, .ref (a 0))] → W p l e room_1 s m #[Value.ref b] below meth c H locs (100 + n + 6) (50000 + 2 * n + 12) Q (F0 m 997 ls [])) :
    W p l e room_1 s m #[Value.ref b] below meth c H locs (100 + n) (50000 + 2 * n) Q (F0 m 961 ls []) := by
  obtain ⟨hx, hb, hml, hown, hT, hK, hX, hbl⟩ := C0
  have hA : ∀ q : Nat, s.heap.size ≤ q → (fun q : Nat => s.heap.size ≤ q) q := fun _ h => h
  have hbA : ¬ (fun q : Nat => s.heap.size ≤ q) b := Nat.not_le.mpr hbl
  have hh : Wh D (fun q => s.heap.size ≤ q) s.heap (List.flatten [bX9 ad E (xs 0), bX1 ad E (xs 1), bX3 (ad 2) E (xs 2), bX3 (ad 3) E (xs 3), bX5 ad E (xs 4), bX8 (ad 5) E (xs 5), bX2 (ad 6) E (xs 6), bX7 ad E (xs 7), bX2 (ad 8) E (xs 8), bX8 (ad 9) E (xs 9), bX8 (ad 10) E (xs 10), bX8 (ad 11) E (xs 11), bX2 (ad 12) E (xs 12), bX8 (ad 13) E (xs 13), bX8 (ad 14) E (xs 14), bX2 (ad 15) E (xs 15), bX10 a E o, dC ad E ck ((xs 1).2.1 1).toNatClampNeg, dK ad E mk ((xs 4).2.1 1).toNatClampNeg, dP ad E pr ((xs 0).2.1 4).toNatClampNeg]) _ _ := hh
  refine lv_aload_n hx hb dL_law_961 rfl (lv_at hl 2 rfl) ?_
  have h := hok ck mk pr xs o  hI
  have hc := hh.cut [_, _] [_, _, _, _, _, _, _, _, _, _, _, _, _, _, _, _, _, _] [0, 1, 2, 3, 4, 5, 6, 7, 8, 9, 10, 11, 12, 13, 14, 15, 16, 17, 18, 19] 20 rfl (by decide +kernel) rfl
  refine kI hc hA (rnV hx hb hml hown hT hK hc (c_X9_effort l D E ad  (xs 0) (xs 1)  h _) mf_X9_effort kml_L_109 ⟨rfl, rfl, Nat.le_of_ble_eq_true rfl, Nat.le_of_ble_eq_true rfl⟩ ⟨by show _ ≤ 600000; omega, by show _ ≤ 7302250; omega⟩ 9 0 rfl rfl hl.1 rfl dL_law_962 (Nat.le_of_ble_eq_true rfl) rfl) (fun r u H locs h hN => ?_)
  obtain ⟨x2, j2⟩ := u
  obtain ⟨g0, h⟩ := h
  rw [← g0] at hN
  obtain ⟨g1, h⟩ := h
  rw [← g1] at hN
  have hh : Wh D (fun q => s.heap.size ≤ q) s.heap (List.flatten [bX9 ad E x2, bX1 ad E j2, bX3 (ad 2) E (xs 2), bX3 (ad 3) E (xs 3), bX5 ad E (xs 4), bX8 (ad 5) E (xs 5), bX2 (ad 6) E (xs 6), bX7 ad E (xs 7), bX2 (ad 8) E (xs 8), bX8 (ad 9) E (xs 9), bX8 (ad 10) E (xs 10), bX8 (ad 11) E (xs 11), bX2 (ad 12) E (xs 12), bX8 (ad 13) E (xs 13), bX8 (ad 14) E (xs 14), bX2 (ad 15) E (xs 15), bX10 a E o, dC ad E ck (j2.2.1 1).toNatClampNeg, dK ad E mk ((xs 4).2.1 1).toNatClampNeg, dP ad E pr (x2.2.1 4).toNatClampNeg]) _ _ := Wh.back (cs := [_, _]) (rs := [_, _, _, _, _, _, _, _, _, _, _, _, _, _, _, _, _, _]) _ [0, 1, 2, 3, 4, 5, 6, 7, 8, 9, 10, 11, 12, 13, 14, 15, 16, 17, 18, 19] 20 rfl (by decide +kernel) rfl hN
  refine lv_aload_n hx hb dL_law_965 rfl (lv_at hl 3 rfl) ?_
  have hc := hh.cut [_] [_, _, _, _, _, _, _, _, _, _, _, _, _, _, _, _, _, _, _] [16, 0, 1, 2, 3, 4, 5, 6, 7, 8, 9, 10, 11, 12, 13, 14, 15, 17, 18, 19] 20 rfl (by decide +kernel) rfl
  refine kI hc hA (rnV hx hb hml hown hT hK hc (c_X10_effort l D E a o  h _) mf_X10_effort kml_L_113 ⟨rfl, rfl, Nat.le_of_ble_eq_true rfl, Nat.le_of_ble_eq_true rfl⟩ ⟨by show _ ≤ 600000; omega, by show _ ≤ 7302250; omega⟩ 10 0 rfl rfl hl.1 rfl dL_law_966 (Nat.le_of_ble_eq_true rfl) rfl) (fun r2 o2 H locs h hN => ?_)
  have hh : Wh D (fun q => s.heap.size ≤ q) s.heap (List.flatten [bX9 ad E x2, bX1 ad E j2, bX3 (ad 2) E (xs 2), bX3 (ad 3) E (xs 3), bX5 ad E (xs 4), bX8 (ad 5) E (xs 5), bX2 (ad 6) E (xs 6), bX7 ad E (xs 7), bX2 (ad 8) E (xs 8), bX8 (ad 9) E (xs 9), bX8 (ad 10) E (xs 10), bX8 (ad 11) E (xs 11), bX2 (ad 12) E (xs 12), bX8 (ad 13) E (xs 13), bX8 (ad 14) E (xs 14), bX2 (ad 15) E (xs 15), bX10 a E o2, dC ad E ck (j2.2.1 1).toNatClampNeg, dK ad E mk ((xs 4).2.1 1).toNatClampNeg, dP ad E pr (x2.2.1 4).toNatClampNeg]) _ _ := Wh.back (cs := [_]) (rs := [_, _, _, _, _, _, _, _, _, _, _, _, _, _, _, _, _, _, _]) _ [1, 2, 3, 4, 5, 6, 7, 8, 9, 10, 11, 12, 13, 14, 15, 16, 0, 17, 18, 19] 20 rfl (by decide +kernel) rfl hN
  obtain ⟨hre, hI⟩ := h
  refine lv_icmp_eq (tgt := 997) hx hb dL_law_969 (by decide) (fun _ => ?_) (fun cc => absurd hre cc)
  refine W.widen (k := 100 + n + 6) (n := 50000 + 2 * n + 12) (by omega) (by omega) ?_
  exact kk ad ck mk pr (ux (ux xs 0 x2) 1 j2) o2 _ _ _ hI rfl hh hl
def OK_told (Inv : LInv) : Prop := ∀ (ck mk pr xs : Nat → Ob) (o : Ob) (v1 : Int32), Inv ck mk pr xs o → w_X9_told  v1 (xs 0) (xs 4) (xs 1) (xs 12) (fun (r : Int32) (x2 : Ob) (k2 : Ob) (j2 : Ob) (shl2 : Ob) => (j2.2.1 1 = (xs 1).2.1 1) ∧ (k2.2.1 1 = (xs 4).2.1 1) ∧ (x2.2.1 4 = (xs 0).2.1 4) ∧ w_X10_told v1 o (fun (r2 : Int32) (o2 : Ob) => r = r2 ∧ Inv ck mk pr (ux (ux (ux (ux xs 0 x2) 4 k2) 1 j2) 12 shl2) o2))
set_option maxRecDepth 100000 in
set_option maxHeartbeats 8000000 in
theorem law_told {p : Program} {l : Launch} {e : Env} {s : State} {m : MethodId} {below : List Frame} {meth : Method} {c : Code} {Q : State → Prop} {D : va_G} {E : Nat → ClassId} {b L : Nat} {xv : Nat → Int32} (Inv : LInv) (hok : OK_told Inv) (C0 : LC p s m c D E b L xv) (hL : L ≤ 3072) {n : Nat} (hn : n + 6 ≤ L) {ad : Nat → Nat → Nat} {a : Nat → Nat} {ck mk pr xs : Nat → Ob} {o : Ob} {H : Heap} {locs : List Loc} {ls : Array Slot} (hI : Inv ck mk pr xs o) (hh : Wh D (fun q => s.heap.size ≤ q) s.heap (List.flatten (wL ad a E ck mk pr xs o)) H locs) (hl : lv_has ls 4 [(3, .int (nI n)), (0, .ref b), (1, .ref (ad 0 0)), (2, .ref (a 0))])
    (kk : ∀ (ad2 : Nat → Nat → Nat) (ck2 mk2 pr2 xs2 : Nat → Ob) (o2 : Ob) (H : Heap) (locs : List Loc) (ls : Array Slot), Inv ck2 mk2 pr2 xs2 o2 → ad2 0 0 = ad 0 0 → Wh D (fun q => s.heap.size ≤ q) s.heap (List.flatten (wL ad2 a E ck2 mk2 pr2 xs2 o2)) H locs → lv_has ls 4 [(3, .int (nI n)), (0, .ref b), (1, .ref (ad 0 0)), (2, .ref (a 0))] → W p l e room_1 s m #[Value.ref b] below meth c H locs (100 + n + 6) (50000 + 2 * n + 12) Q (F0 m 997 ls [])) :
    W p l e room_1 s m #[Value.ref b] below meth c H locs (100 + n) (50000 + 2 * n) Q (F0 m 974 ls []) := by
  obtain ⟨hx, hb, hml, hown, hT, hK, hX, hbl⟩ := C0
  have hA : ∀ q : Nat, s.heap.size ≤ q → (fun q : Nat => s.heap.size ≤ q) q := fun _ h => h
  have hbA : ¬ (fun q : Nat => s.heap.size ≤ q) b := Nat.not_le.mpr hbl
  have hh : Wh D (fun q => s.heap.size ≤ q) s.heap (List.flatten [bX9 ad E (xs 0), bX1 ad E (xs 1), bX3 (ad 2) E (xs 2), bX3 (ad 3) E (xs 3), bX5 ad E (xs 4), bX8 (ad 5) E (xs 5), bX2 (ad 6) E (xs 6), bX7 ad E (xs 7), bX2 (ad 8) E (xs 8), bX8 (ad 9) E (xs 9), bX8 (ad 10) E (xs 10), bX8 (ad 11) E (xs 11), bX2 (ad 12) E (xs 12), bX8 (ad 13) E (xs 13), bX8 (ad 14) E (xs 14), bX2 (ad 15) E (xs 15), bX10 a E o, dC ad E ck ((xs 1).2.1 1).toNatClampNeg, dK ad E mk ((xs 4).2.1 1).toNatClampNeg, dP ad E pr ((xs 0).2.1 4).toNatClampNeg]) _ _ := hh
  refine lv_aload_n hx hb dL_law_974 rfl (lv_at hl 2 rfl) ?_
  refine lv_aload_n hx hb dL_law_975 rfl (lv_at hl 1 rfl) ?_
  refine lv_iload_n hx hb dL_law_976 rfl (lv_at hl 0 rfl) ?_
  refine lv_iconst (v := 1) hx hb dL_law_977 (by decide) ?_
  refine lv_iadd hx hb dL_law_978 ?_
  refine va_sld hx hb hX hbl hbA hh.2.2 (lw_in (k := 1) (by omega) hL) dL_law_979 ?_
  have h := hok ck mk pr xs o (xv (nI n + 1).toNatClampNeg) hI
  have hc := hh.cut [_, _, _, _] [_, _, _, _, _, _, _, _, _, _, _, _, _, _, _, _] [0, 4, 1, 12, 2, 3, 5, 6, 7, 8, 9, 10, 11, 13, 14, 15, 16, 17, 18, 19] 20 rfl (by decide +kernel) rfl
  refine kI hc hA (rnV hx hb hml hown hT hK hc (c_X9_told l D E ad  (xs 0) (xs 4) (xs 1) (xs 12) (xv (nI n + 1).toNatClampNeg) h _) mf_X9_told kml_L_114 ⟨rfl, rfl, Nat.le_of_ble_eq_true rfl, Nat.le_of_ble_eq_true rfl⟩ ⟨by show _ ≤ 600000; omega, by show _ ≤ 7302250; omega⟩ 9 0 rfl rfl hl.1 rfl dL_law_980 (Nat.le_of_ble_eq_true rfl) rfl) (fun r u H locs h hN => ?_)
  obtain ⟨x2, k2, j2, shl2⟩ := u
  obtain ⟨g0, h⟩ := h
  rw [← g0] at hN
  obtain ⟨g1, h⟩ := h
  rw [← g1] at hN
  obtain ⟨g2, h⟩ := h
  rw [← g2] at hN
  have hh : Wh D (fun q => s.heap.size ≤ q) s.heap (List.flatten [bX9 ad E x2, bX1 ad E j2, bX3 (ad 2) E (xs 2), bX3 (ad 3) E (xs 3), bX5 ad E k2, bX8 (ad 5) E (xs 5), bX2 (ad 6) E (xs 6), bX7 ad E (xs 7), bX2 (ad 8) E (xs 8), bX8 (ad 9) E (xs 9), bX8 (ad 10) E (xs 10), bX8 (ad 11) E (xs 11), bX2 (ad 12) E shl2, bX8 (ad 13) E (xs 13), bX8 (ad 14) E (xs 14), bX2 (ad 15) E (xs 15), bX10 a E o, dC ad E ck (j2.2.1 1).toNatClampNeg, dK ad E mk (k2.2.1 1).toNatClampNeg, dP ad E pr (x2.2.1 4).toNatClampNeg]) _ _ := Wh.back (cs := [_, _, _, _]) (rs := [_, _, _, _, _, _, _, _, _, _, _, _, _, _, _, _]) _ [0, 2, 4, 5, 1, 6, 7, 8, 9, 10, 11, 12, 3, 13, 14, 15, 16, 17, 18, 19] 20 rfl (by decide +kernel) rfl hN
  refine lv_aload_n hx hb dL_law_983 rfl (lv_at hl 3 rfl) ?_
  refine lv_aload_n hx hb dL_law_984 rfl (lv_at hl 1 rfl) ?_
  refine lv_iload_n hx hb dL_law_985 rfl (lv_at hl 0 rfl) ?_
  refine lv_iconst (v := 1) hx hb dL_law_986 (by decide) ?_
  refine lv_iadd hx hb dL_law_987 ?_
  refine va_sld hx hb hX hbl hbA hh.2.2 (lw_in (k := 1) (by omega) hL) dL_law_988 ?_
  have hc := hh.cut [_] [_, _, _, _, _, _, _, _, _, _, _, _, _, _, _, _, _, _, _] [16, 0, 1, 2, 3, 4, 5, 6, 7, 8, 9, 10, 11, 12, 13, 14, 15, 17, 18, 19] 20 rfl (by decide +kernel) rfl
  refine kI hc hA (rnV hx hb hml hown hT hK hc (c_X10_told l D E a o (xv (nI n + 1).toNatClampNeg) h _) mf_X10_told kml_L_117 ⟨rfl, rfl, Nat.le_of_ble_eq_true rfl, Nat.le_of_ble_eq_true rfl⟩ ⟨by show _ ≤ 600000; omega, by show _ ≤ 7302250; omega⟩ 10 0 rfl rfl hl.1 rfl dL_law_989 (Nat.le_of_ble_eq_true rfl) rfl) (fun r2 o2 H locs h hN => ?_)
  have hh : Wh D (fun q => s.heap.size ≤ q) s.heap (List.flatten [bX9 ad E x2, bX1 ad E j2, bX3 (ad 2) E (xs 2), bX3 (ad 3) E (xs 3), bX5 ad E k2, bX8 (ad 5) E (xs 5), bX2 (ad 6) E (xs 6), bX7 ad E (xs 7), bX2 (ad 8) E (xs 8), bX8 (ad 9) E (xs 9), bX8 (ad 10) E (xs 10), bX8 (ad 11) E (xs 11), bX2 (ad 12) E shl2, bX8 (ad 13) E (xs 13), bX8 (ad 14) E (xs 14), bX2 (ad 15) E (xs 15), bX10 a E o2, dC ad E ck (j2.2.1 1).toNatClampNeg, dK ad E mk (k2.2.1 1).toNatClampNeg, dP ad E pr (x2.2.1 4).toNatClampNeg]) _ _ := Wh.back (cs := [_]) (rs := [_, _, _, _, _, _, _, _, _, _, _, _, _, _, _, _, _, _, _]) _ [1, 2, 3, 4, 5, 6, 7, 8, 9, 10, 11, 12, 13, 14, 15, 16, 0, 17, 18, 19] 20 rfl (by decide +kernel) rfl hN
  obtain ⟨hre, hI⟩ := h
  refine lv_icmp_eq (tgt := 997) hx hb dL_law_992 (by decide) (fun _ => ?_) (fun cc => absurd hre cc)
  refine W.widen (k := 100 + n + 6) (n := 50000 + 2 * n + 12) (by omega) (by omega) ?_
  exact kk ad ck mk pr (ux (ux (ux (ux xs 0 x2) 4 k2) 1 j2) 12 shl2) o2 _ _ _ hI rfl hh hl
