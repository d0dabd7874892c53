def OKS (Inv : LInv) : Prop := OK_whole Inv ∧ OK_listOf Inv ∧ OK_pair Inv ∧ OK_oneOf Inv ∧ OK_mapped Inv ∧ OK_picked Inv ∧ OK_shuffled Inv ∧ OK_below Inv ∧ OK_maker Inv ∧ OK_check Inv ∧ OK_make Inv ∧ OK_smaller Inv ∧ OK_sign Inv ∧ OK_holds Inv ∧ OK_script Inv ∧ OK_draw Inv ∧ OK_property Inv ∧ OK_label Inv ∧ OK_run Inv ∧ OK_ran Inv ∧ OK_show Inv ∧ OK_effort Inv ∧ OK_told Inv
set_option maxRecDepth 100000 in
set_option maxHeartbeats 8000000 in
theorem law_loop {p : Program} {l : Launch} {e : Env} {s : State} {m : MethodId} {below : List Frame} {meth : Method} {c : Code} {D : va_G} {E : Nat → ClassId} {b L : Nat} {xv : Nat → Int32} (Inv : LInv) (hok : OKS Inv) (C0 : LC p s m c D E b L xv) (hr : meth.sig.returnType = ret) (hlocks : meth.locks = false) (hL : L ≤ 3072) (a : Nat → Nat) : ∀ (k n : Nat) (ad : Nat → Nat → Nat) (ck mk pr xs : Nat → Ob) (o : Ob) (H : Heap) (locs : List Loc) (ls : Array Slot), L + 6 ≤ n + k → n ≤ L → Inv ck mk pr xs o → Wh D (fun q => s.heap.size ≤ q) s.heap (List.flatten (wL ad a E ck mk pr xs o)) H locs → lv_has ls 4 [(3, .int (nI n)), (0, .ref b), (1, .ref (ad 0 0)), (2, .ref (a 0))] → W p l e room_1 s m #[Value.ref b] below meth c H locs (100 + n) (50000 + 2 * n) (lw_Z below #[Value.ref b] s) (F0 m 18 ls []) := by
  have C1 := C0
  obtain ⟨hx, hb, hml, hown, hT, hK, hX, hbl⟩ := C1
  have hA : ∀ q : Nat, s.heap.size ≤ q → (fun q : Nat => s.heap.size ≤ q) q := fun _ h => h
  have hbA : ¬ (fun q : Nat => s.heap.size ≤ q) b := Nat.not_le.mpr hbl
  intro k
  induction k with
  | zero => intro n ad ck mk pr xs o H locs ls h1 h2; omega
  | succ k ih =>
    intro n ad ck mk pr xs o H locs ls h1 h2 hI hh hl
    refine lv_iload_n hx hb dL_law_18 rfl (lv_at hl 0 rfl) ?_
    refine lv_aload_n hx hb dL_law_19 rfl (lv_at hl 1 rfl) ?_
    refine va_slen hx hb hX hbl hbA hh.2.2 dL_law_20 ?_
    refine lv_bipush (v := 6) hx hb dL_law_21 (by decide) ?_
    refine lv_isub hx hb dL_law_23 ?_
    refine lv_icmp_gt (tgt := 1003) hx hb dL_law_24 (by decide) (fun cg => ?_) (fun cg => ?_)
    · refine lv_iconst (v := 1) hx hb dL_law_1003 (by decide) ?_
      refine va_forget (fun q hq => hh.2.2.2.2 q hq) ?_
      refine W.widen (k := 600000) (n := 7302250) (by omega) (by omega) ?_
      exact lw_ret hx hb hr hlocks dL_law_1004
    · have hn : n + 6 ≤ L := by
        rcases Nat.lt_or_ge L 6 with q | q
        · refine absurd ?_ cg
          have h6 : nI L - nI 6 < 0 := pk_sneg (by omega) q
          exact Int32.lt_of_lt_of_le h6 (nI_pos' (by omega))
        · have h6 : nI L - nI 6 = nI (L - 6) := pk_sub q
          have h7 : ¬ nI (L - 6) < nI n := by rw [← h6]; exact cg
          rw [nI_ltI (by omega) (by omega)] at h7
          omega
      refine lv_aload_n hx hb dL_law_27 rfl (lv_at hl 1 rfl) ?_
      refine lv_iload_n hx hb dL_law_28 rfl (lv_at hl 0 rfl) ?_
      refine va_sld hx hb hX hbl hbA hh.2.2 (lw_in0 (by omega) hL) dL_law_29 ?_
      refine lv_bipush (v := 31) hx hb dL_law_30 (by decide) ?_
      refine lv_iand hx hb dL_law_32 ?_
      have hk : ∀ (ad2 : Nat → Nat → Nat) (ck2 mk2 pr2 xs2 : Nat → Ob) (o2 : Ob) (H : Heap) (locs : List Loc) (ls : Array Slot), Inv ck2 mk2 pr2 xs2 o2 → ad2 0 0 = ad 0 0 → Wh D (fun q => s.heap.size ≤ q) s.heap (List.flatten (wL ad2 a E ck2 mk2 pr2 xs2 o2)) H locs → lv_has ls 4 [(3, .int (nI n)), (0, .ref b), (1, .ref (ad 0 0)), (2, .ref (a 0))] → W p l e room_1 s m #[Value.ref b] below meth c H locs (100 + n + 6) (50000 + 2 * n + 12) (lw_Z below #[Value.ref b] s) (F0 m 997 ls []) := by
        intro ad2 ck2 mk2 pr2 xs2 o2 H locs ls hI he hh hl
        rw [← he] at hl
        refine lv_iinc (v := nI (n + 6)) (lv' := [(3, .int (nI (n + 6))), (0, .ref b), (1, .ref (ad2 0 0)), (2, .ref (a 0))]) hx hb dL_law_997 hl (k := 0) rfl (nI_add n 6) (by decide) rfl (fun ls hl => ?_)
        refine lv_goto (tgt := 18) hx hb dL_law_1000 (by decide) ?_
        have h := ih (n + 6) ad2 ck2 mk2 pr2 xs2 o2 H locs ls (by omega) hn hI hh hl
        rw [show 100 + (n + 6) = 100 + n + 6 by omega, show 50000 + 2 * (n + 6) = 50000 + 2 * n + 12 by omega] at h
        exact h
      generalize xv (nI n).toNatClampNeg &&& 31 = v
      by_cases c0 : v = 0
      · refine lv_tableIn (off := 107) (tgt := 140) hx hb dL_law_33 (by rw [c0]; decide) (by rw [c0]; decide) (by rw [c0]; rfl) (by decide) ?_
        exact law_whole Inv hok.1 C0 hL hn hI hh hl hk
      · by_cases c1 : v = 1
        · refine lv_tableIn (off := 140) (tgt := 173) hx hb dL_law_33 (by rw [c1]; decide) (by rw [c1]; decide) (by rw [c1]; rfl) (by decide) ?_
          exact law_listOf Inv hok.2.1 C0 hL hn hI hh hl hk
        · by_cases c2 : v = 2
          · refine lv_tableIn (off := 173) (tgt := 206) hx hb dL_law_33 (by rw [c2]; decide) (by rw [c2]; decide) (by rw [c2]; rfl) (by decide) ?_
            exact law_pair Inv hok.2.2.1 C0 hL hn hI hh hl hk
          · by_cases c3 : v = 3
            · refine lv_tableIn (off := 206) (tgt := 239) hx hb dL_law_33 (by rw [c3]; decide) (by rw [c3]; decide) (by rw [c3]; rfl) (by decide) ?_
              exact law_oneOf Inv hok.2.2.2.1 C0 hL hn hI hh hl hk
            · by_cases c4 : v = 4
              · refine lv_tableIn (off := 259) (tgt := 292) hx hb dL_law_33 (by rw [c4]; decide) (by rw [c4]; decide) (by rw [c4]; rfl) (by decide) ?_
                exact law_mapped Inv hok.2.2.2.2.1 C0 hL hn hI hh hl hk
              · by_cases c5 : v = 5
                · refine lv_tableIn (off := 292) (tgt := 325) hx hb dL_law_33 (by rw [c5]; decide) (by rw [c5]; decide) (by rw [c5]; rfl) (by decide) ?_
                  exact law_picked Inv hok.2.2.2.2.2.1 C0 hL hn hI hh hl hk
                · by_cases c6 : v = 6
                  · refine lv_tableIn (off := 325) (tgt := 358) hx hb dL_law_33 (by rw [c6]; decide) (by rw [c6]; decide) (by rw [c6]; rfl) (by decide) ?_
                    exact law_shuffled Inv hok.2.2.2.2.2.2.1 C0 hL hn hI hh hl hk
                  · by_cases c7 : v = 7
                    · refine lv_tableIn (off := 348) (tgt := 381) hx hb dL_law_33 (by rw [c7]; decide) (by rw [c7]; decide) (by rw [c7]; rfl) (by decide) ?_
                      exact law_below Inv hok.2.2.2.2.2.2.2.1 C0 hL hn hI hh hl hk
                    · by_cases c8 : v = 8
                      · refine lv_tableIn (off := 371) (tgt := 404) hx hb dL_law_33 (by rw [c8]; decide) (by rw [c8]; decide) (by rw [c8]; rfl) (by decide) ?_
                        exact law_maker Inv hok.2.2.2.2.2.2.2.2.1 C0 hL hn hI hh hl hk
                      · by_cases c9 : v = 9
                        · refine lv_tableIn (off := 404) (tgt := 437) hx hb dL_law_33 (by rw [c9]; decide) (by rw [c9]; decide) (by rw [c9]; rfl) (by decide) ?_
                          exact law_check Inv hok.2.2.2.2.2.2.2.2.2.1 C0 hL hn hI hh hl hk
                        · by_cases c10 : v = 10
                          · refine lv_tableIn (off := 447) (tgt := 480) hx hb dL_law_33 (by rw [c10]; decide) (by rw [c10]; decide) (by rw [c10]; rfl) (by decide) ?_
                            exact law_make Inv hok.2.2.2.2.2.2.2.2.2.2.1 C0 hL hn hI hh hl hk
                          · by_cases c11 : v = 11
                            · refine lv_tableIn (off := 520) (tgt := 553) hx hb dL_law_33 (by rw [c11]; decide) (by rw [c11]; decide) (by rw [c11]; rfl) (by decide) ?_
                              exact law_smaller Inv hok.2.2.2.2.2.2.2.2.2.2.2.1 C0 hL hn hI hh hl hk
                            · by_cases c12 : v = 12
                              · refine lv_tableIn (off := 543) (tgt := 576) hx hb dL_law_33 (by rw [c12]; decide) (by rw [c12]; decide) (by rw [c12]; rfl) (by decide) ?_
                                exact law_sign Inv hok.2.2.2.2.2.2.2.2.2.2.2.2.1 C0 hL hn hI hh hl hk
                              · by_cases c13 : v = 13
                                · refine lv_tableIn (off := 567) (tgt := 600) hx hb dL_law_33 (by rw [c13]; decide) (by rw [c13]; decide) (by rw [c13]; rfl) (by decide) ?_
                                  exact law_holds Inv hok.2.2.2.2.2.2.2.2.2.2.2.2.2.1 C0 hL hn hI hh hl hk
                                · by_cases c14 : v = 14
                                  · refine lv_tableIn (off := 590) (tgt := 623) hx hb dL_law_33 (by rw [c14]; decide) (by rw [c14]; decide) (by rw [c14]; rfl) (by decide) ?_
                                    exact law_script Inv hok.2.2.2.2.2.2.2.2.2.2.2.2.2.2.1 C0 hL hn hI hh hl hk
                                  · by_cases c15 : v = 15
                                    · refine lv_tableIn (off := 644) (tgt := 677) hx hb dL_law_33 (by rw [c15]; decide) (by rw [c15]; decide) (by rw [c15]; rfl) (by decide) ?_
                                      exact law_draw Inv hok.2.2.2.2.2.2.2.2.2.2.2.2.2.2.2.1 C0 hL hn hI hh hl hk
                                    · by_cases c16 : v = 16
                                      · refine lv_tableIn (off := 717) (tgt := 750) hx hb dL_law_33 (by rw [c16]; decide) (by rw [c16]; decide) (by rw [c16]; rfl) (by decide) ?_
                                        exact law_property Inv hok.2.2.2.2.2.2.2.2.2.2.2.2.2.2.2.2.1 C0 hL hn hI hh hl hk
                                      · by_cases c17 : v = 17
                                        · refine lv_tableIn (off := 750) (tgt := 783) hx hb dL_law_33 (by rw [c17]; decide) (by rw [c17]; decide) (by rw [c17]; rfl) (by decide) ?_
                                          exact law_label Inv hok.2.2.2.2.2.2.2.2.2.2.2.2.2.2.2.2.2.1 C0 hL hn hI hh hl hk
                                        · by_cases c18 : v = 18
                                          · refine lv_tableIn (off := 783) (tgt := 816) hx hb dL_law_33 (by rw [c18]; decide) (by rw [c18]; decide) (by rw [c18]; rfl) (by decide) ?_
                                            exact law_run Inv hok.2.2.2.2.2.2.2.2.2.2.2.2.2.2.2.2.2.2.1 C0 hL hn hI hh hl hk
                                          · by_cases c19 : v = 19
                                            · refine lv_tableIn (off := 866) (tgt := 899) hx hb dL_law_33 (by rw [c19]; decide) (by rw [c19]; decide) (by rw [c19]; rfl) (by decide) ?_
                                              exact law_ran Inv hok.2.2.2.2.2.2.2.2.2.2.2.2.2.2.2.2.2.2.2.1 C0 hL hn hI hh hl hk
                                            · by_cases c20 : v = 20
                                              · refine lv_tableIn (off := 889) (tgt := 922) hx hb dL_law_33 (by rw [c20]; decide) (by rw [c20]; decide) (by rw [c20]; rfl) (by decide) ?_
                                                exact law_show Inv hok.2.2.2.2.2.2.2.2.2.2.2.2.2.2.2.2.2.2.2.2.1 C0 hL hn hI hh hl hk
                                              · by_cases c21 : v = 21
                                                · refine lv_tableIn (off := 928) (tgt := 961) hx hb dL_law_33 (by rw [c21]; decide) (by rw [c21]; decide) (by rw [c21]; rfl) (by decide) ?_
                                                  exact law_effort Inv hok.2.2.2.2.2.2.2.2.2.2.2.2.2.2.2.2.2.2.2.2.2.1 C0 hL hn hI hh hl hk
                                                · by_cases c22 : v = 22
                                                  · refine lv_tableIn (off := 941) (tgt := 974) hx hb dL_law_33 (by rw [c22]; decide) (by rw [c22]; decide) (by rw [c22]; rfl) (by decide) ?_
                                                    exact law_told Inv hok.2.2.2.2.2.2.2.2.2.2.2.2.2.2.2.2.2.2.2.2.2.2 C0 hL hn hI hh hl hk
                                                  · refine q_swD (tgt := 997) hx hb dL_law_33 (fun i h1 h2 he => (show i = 0 ∨ i = 1 ∨ i = 2 ∨ i = 3 ∨ i = 4 ∨ i = 5 ∨ i = 6 ∨ i = 7 ∨ i = 8 ∨ i = 9 ∨ i = 10 ∨ i = 11 ∨ i = 12 ∨ i = 13 ∨ i = 14 ∨ i = 15 ∨ i = 16 ∨ i = 17 ∨ i = 18 ∨ i = 19 ∨ i = 20 ∨ i = 21 ∨ i = 22 by omega).elim (fun z => absurd (q_oi he z (by decide)) c0) (fun z => z.elim (fun z => absurd (q_oi he z (by decide)) c1) (fun z => z.elim (fun z => absurd (q_oi he z (by decide)) c2) (fun z => z.elim (fun z => absurd (q_oi he z (by decide)) c3) (fun z => z.elim (fun z => absurd (q_oi he z (by decide)) c4) (fun z => z.elim (fun z => absurd (q_oi he z (by decide)) c5) (fun z => z.elim (fun z => absurd (q_oi he z (by decide)) c6) (fun z => z.elim (fun z => absurd (q_oi he z (by decide)) c7) (fun z => z.elim (fun z => absurd (q_oi he z (by decide)) c8) (fun z => z.elim (fun z => absurd (q_oi he z (by decide)) c9) (fun z => z.elim (fun z => absurd (q_oi he z (by decide)) c10) (fun z => z.elim (fun z => absurd (q_oi he z (by decide)) c11) (fun z => z.elim (fun z => absurd (q_oi he z (by decide)) c12) (fun z => z.elim (fun z => absurd (q_oi he z (by decide)) c13) (fun z => z.elim (fun z => absurd (q_oi he z (by decide)) c14) (fun z => z.elim (fun z => absurd (q_oi he z (by decide)) c15) (fun z => z.elim (fun z => absurd (q_oi he z (by decide)) c16) (fun z => z.elim (fun z => absurd (q_oi he z (by decide)) c17) (fun z => z.elim (fun z => absurd (q_oi he z (by decide)) c18) (fun z => z.elim (fun z => absurd (q_oi he z (by decide)) c19) (fun z => z.elim (fun z => absurd (q_oi he z (by decide)) c20) (fun z => z.elim (fun z => absurd (q_oi he z (by decide)) c21) (fun z => absurd (q_oi he z (by decide)) c22))))))))))))))))))))))) (by decide) ?_
                                                    refine W.widen (k := 100 + n + 6) (n := 50000 + 2 * n + 12) (by omega) (by omega) ?_
                                                    exact hk ad ck mk pr xs o _ _ _ hI rfl hh hl
theorem dC_0 {ad : Nat → Nat → Nat} {E : Nat → ClassId} {f : Nat → Ob} {n : Int32} (h : n = 0) : dC ad E f n.toNatClampNeg = [] := by subst h; rfl
theorem dK_0 {ad : Nat → Nat → Nat} {E : Nat → ClassId} {f : Nat → Ob} {n : Int32} (h : n = 0) : dK ad E f n.toNatClampNeg = [] := by subst h; rfl
theorem dP_0 {ad : Nat → Nat → Nat} {E : Nat → ClassId} {f : Nat → Ob} {n : Int32} (h : n = 0) : dP ad E f n.toNatClampNeg = [] := by subst h; rfl
def xs0 : Nat → Ob := fun i => if i = 1 then jOb0 else ob0
theorem start_K {s : State} {b : Nat} (hts : ∀ w ∈ lw_tbl, w.before #[Value.ref b] s = true) : ∃ (D : va_G) (E : Nat → ClassId), KK D E s := by
  have hT : ∀ w ∈ TBL, w.before #[Value.ref b] s = true := fun w hw => hts w (List.mem_filter.mp hw).1
  obtain ⟨c0, i0, K0⟩ := u_known (C := RX0) (T := TX0) (N := 3) (n := 3) hT inT0 (hT _ kis_X0)
  obtain ⟨c1, i1, K1⟩ := u_known (C := RX1) (T := TX1) (N := 7) (n := 7) hT inT1 (hT _ kis_X1)
  obtain ⟨c2, i2, K2⟩ := u_known (C := RX2) (T := TX2) (N := 2) (n := 2) hT inT2 (hT _ kis_X2)
  obtain ⟨c3, i3, K3⟩ := u_known (C := RX3) (T := TX3) (N := 5) (n := 5) hT inT3 (hT _ kis_X3)
  obtain ⟨c4, i4, K4⟩ := u_known (C := RX4) (T := TX4) (N := 7) (n := 7) hT inT4 (hT _ kis_X4)
  obtain ⟨c5, i5, K5⟩ := u_known (C := RX5) (T := TX5) (N := 7) (n := 7) hT inT5 (hT _ kis_X5)
  obtain ⟨c6, i6, K6⟩ := u_known (C := RX6) (T := TX6) (N := 4) (n := 4) hT inT6 (hT _ kis_X6)
  obtain ⟨c7, i7, K7⟩ := u_known (C := RX7) (T := TX7) (N := 6) (n := 6) hT inT7 (hT _ kis_X7)
  obtain ⟨c8, i8, K8⟩ := u_known (C := RX8) (T := TX8) (N := 7) (n := 7) hT inT8 (hT _ kis_X8)
  obtain ⟨c9, i9, K9⟩ := u_known (C := RX9) (T := TX9) (N := 13) (n := 13) hT inT9 (hT _ kis_X9)
  obtain ⟨c10, i10, K10⟩ := u_known (C := RX10) (T := TX10) (N := 57) (n := 57) hT inT10 (hT _ kis_X10)
  have kN : ∀ w ∈ NL, va_Nw w s := by
    intro w hw
    have h1 := hts w (List.mem_filter.mp hw).1
    have h2 := (List.mem_filter.mp hw).2
    cases w <;> first | exact absurd h2 Bool.false_ne_true | exact va_Nw.of rfl h1
  have a0 := hts (.arrayOver (.object "CaseTrials$Check")) (List.mem_of_getElem? (i := 143) (by decide +kernel))
  have a1 := hts (.arrayOver (.object "CaseTrials$Maker")) (List.mem_of_getElem? (i := 200) (by decide +kernel))
  have a2 := hts (.arrayOver (.object "CaseTrials$Property")) (List.mem_of_getElem? (i := 303) (by decide +kernel))
  obtain ⟨e0, k0, p0, h01, h02, h03⟩ := Cond.arrayClass_spec (hT _ kac_int)
  obtain ⟨e1, k1, p1, h11, h12, h13⟩ := Cond.arrayClass_spec (hT _ kac_boolean)
  obtain ⟨p2, e2, k2, f21, f22, f23, f24, f25⟩ := Cond.arrayOver_spec a0
  obtain ⟨p3, e3, k3, f31, f32, f33, f34, f35⟩ := Cond.arrayOver_spec a1
  obtain ⟨p4, e4, k4, f41, f42, f43, f44, f45⟩ := Cond.arrayOver_spec a2
  refine ⟨(fun k => if k = 0 then c0 else if k = 1 then c1 else if k = 2 then c2 else if k = 3 then c3 else if k = 4 then c4 else if k = 5 then c5 else if k = 6 then c6 else if k = 7 then c7 else if k = 8 then c8 else if k = 9 then c9 else c10, fun k => if k = 0 then i0 else if k = 1 then i1 else if k = 2 then i2 else if k = 3 then i3 else if k = 4 then i4 else if k = 5 then i5 else if k = 6 then i6 else if k = 7 then i7 else if k = 8 then i8 else if k = 9 then i9 else i10), fun k => if k = 0 then e0 else if k = 1 then e1 else if k = 2 then e2 else if k = 3 then e3 else e4, ⟨fun k q hq => ?_, fun k q hq => ?_⟩, kN, fun C hC => ?_⟩
  · match k, hq with
    | 0, hq => cases hq; exact K0
    | 1, hq => cases hq; exact K1
    | 2, hq => cases hq; exact K2
    | 3, hq => cases hq; exact K3
    | 4, hq => cases hq; exact K4
    | 5, hq => cases hq; exact K5
    | 6, hq => cases hq; exact K6
    | 7, hq => cases hq; exact K7
    | 8, hq => cases hq; exact K8
    | 9, hq => cases hq; exact K9
    | 10, hq => cases hq; exact K10
    | k + 11, hq => simp [vwCl] at hq
  · match k, hq with
    | 0, hq => cases hq; exact ⟨fun n z => ⟨fun k h => (by cases h), k0, h02, p0, h03⟩, h01⟩
    | 1, hq => cases hq; exact ⟨fun n z => ⟨fun k h => (by cases h), k1, h12, p1, h13⟩, h11⟩
    | 2, hq => cases hq; exact ⟨fun n z => ⟨fun k h => (by cases h), k2, f23, p2, f24⟩, k2, p2, f23, f24, f21, f25⟩
    | 3, hq => cases hq; exact ⟨fun n z => ⟨fun k h => (by cases h), k3, f33, p3, f34⟩, k3, p3, f33, f34, f31, f35⟩
    | 4, hq => cases hq; exact ⟨fun n z => ⟨fun k h => (by cases h), k4, f43, p4, f44⟩, k4, p4, f43, f44, f41, f45⟩
    | k + 5, hq => simp [tysE] at hq
  · simp only [List.mem_cons, List.not_mem_nil, or_false] at hC
    rcases hC with rfl | rfl | rfl
    · exact va_AO.of a0
    · exact va_AO.of a1
    · exact va_AO.of a2
set_option maxRecDepth 100000 in
set_option maxHeartbeats 8000000 in
/-- THE LAW, from its entry, out of what is owed of the pure words -/
theorem whole_of {p : Program} {e : Env} {s : State} {m : MethodId} {below : List Frame} {meth : Method} {c : Code} (Inv : LInv) (hok : OKS Inv) (hI0 : Inv (fun _ => ob0) (fun _ => ob0) (fun _ => ob0) xs0 mOb0) (l : Launch) {b L : Nat} {xs : Nat → Int32} (hL : L ≤ 3072) (C0 : lw_At p s m meth c b L xs) : W p l e room_1 s m #[Value.ref b] below meth c s.heap [] 0 0 (lw_Z below #[Value.ref b] s) (entryFrame m ([Value.ref b] : List Value).toArray 4) := by
  obtain ⟨hx, hb, hr, hml, hown0, hts, hX, hbl, hlocks, hgv⟩ := C0
  have hown : s.vm.findClass RL = some m.cls := hown0
  have hT : ∀ w ∈ TBL, w.before #[Value.ref b] s = true := fun w hw => hts w (List.mem_filter.mp hw).1
  obtain ⟨D, E, hK⟩ := start_K hts
  have hA : ∀ q : Nat, s.heap.size ≤ q → (fun q : Nat => s.heap.size ≤ q) q := fun _ h => h
  have hh : Wh D (fun q => s.heap.size ≤ q) s.heap [] s.heap [] := ⟨fun k q h => by simp at h, ⟨fun i j p q h => by simp at h, fun k q h => by simp at h⟩, va_S.rf⟩
  have hl := lv_entry ([.ref b]) (n := 4) (Nat.le_of_ble_eq_true rfl)
  rw [lg_entry_eq]
  generalize (lg_sl ([.ref b]) ++ List.replicate (4 - (lg_sl ([.ref b])).length) Slot.unset).toArray = ls at hl ⊢
  have hl : lv_has ls 4 [(0, .ref b)] := hl
  refine N_L_7 hx hb hT hown hK hh hA (Nat.le_of_ble_eq_true rfl) (Nat.le_of_ble_eq_true rfl) dL_law_0 (fun q1 H hh => ?_)
  have hh : Wh D (fun q => s.heap.size ≤ q) s.heap (List.flatten [[(q1, Sum.inr (9, [.null, .null, .null, .null, .int 0, .null, .null, .int 0, .null, .int 0, .null, .null, .null]))]]) _ _ := hh
  refine lv_dup hx hb dL_law_3 rfl ?_
  refine kV hh.ap0 hA (rnI hx hb hml hown hT hK hh.ap0 (c_X9_init l D E q1 _) mf_X9_init kml_L_9 ⟨rfl, rfl, Nat.le_of_ble_eq_true rfl, Nat.le_of_ble_eq_true rfl⟩ ⟨Nat.le_of_ble_eq_true rfl, Nat.le_of_ble_eq_true rfl⟩ hl.1 rfl dL_law_4 (Nat.le_of_ble_eq_true rfl) rfl) (fun u H locs hp hN => ?_)
  have hN := hN.un0
  subst hp
  refine lv_astore_n (lv' := [(1, .ref (u 0 0)), (0, .ref b)]) hx hb dL_law_7 rfl hl (by decide) rfl (fun ls hl => ?_)
  refine N_L_10 hx hb hT hown hK hN hA (Nat.le_of_ble_eq_true rfl) (Nat.le_of_ble_eq_true rfl) dL_law_8 (fun q2 H hN2 => ?_)
  have hN3 := hN2.snoc
  have hN4 : Wh D (fun q => s.heap.size ≤ q) s.heap (List.flatten [bX9 u E ob0, bX1 u E jOb0, bX3 (u 2) E ob0, bX3 (u 3) E ob0, bX5 u E ob0, bX8 (u 5) E ob0, bX2 (u 6) E ob0, bX7 u E ob0, bX2 (u 8) E ob0, bX8 (u 9) E ob0, bX8 (u 10) E ob0, bX8 (u 11) E ob0, bX2 (u 12) E ob0, bX8 (u 13) E ob0, bX8 (u 14) E ob0, bX2 (u 15) E ob0, [(q2, Sum.inr (10, [.int 0, .null, .null, .null, .null, .null, .null, .null, .null, .null, .null, .int 0, .null, .null, .int 0, .null, .null, .int 0, .null, .null, .null, .int 0, .null, .null, .null, .null, .null, .null, .int 0, .int 0, .int 0, .int 0, .int 0, .long 0, .int 0, .int 0, .null, .null, .null, .null, .null, .int 0, .int 0, .int 0, .int 0, .int 0, .null, .null, .null, .null, .int 0, .int 0, .int 0, .int 0, .int 0, .int 0, .null]))]]) _ _ := hN3
  refine lv_dup hx hb dL_law_11 rfl ?_
  have hc := hN4.cut [_] [_, _, _, _, _, _, _, _, _, _, _, _, _, _, _, _] [16, 0, 1, 2, 3, 4, 5, 6, 7, 8, 9, 10, 11, 12, 13, 14, 15] 17 rfl (by decide +kernel) rfl
  refine kV hc hA (rnI hx hb hml hown hT hK hc (c_X10_init l D E q2 _) mf_X10_init kml_L_12 ⟨rfl, rfl, Nat.le_of_ble_eq_true rfl, Nat.le_of_ble_eq_true rfl⟩ ⟨Nat.le_of_ble_eq_true rfl, Nat.le_of_ble_eq_true rfl⟩ hl.1 rfl dL_law_12 (Nat.le_of_ble_eq_true rfl) rfl) (fun a H locs hp hN5 => ?_)
  subst hp
  refine lv_astore_n (lv' := [(2, .ref (a 0)), (1, .ref (u 0 0)), (0, .ref b)]) hx hb dL_law_15 rfl hl (by decide) rfl (fun ls hl => ?_)
  refine lv_iconst (v := 0) hx hb dL_law_16 (by decide) ?_
  refine lv_istore_n (lv' := [(3, .int 0), (2, .ref (a 0)), (1, .ref (u 0 0)), (0, .ref b)]) hx hb dL_law_17 rfl hl (by decide) rfl (fun ls hl => ?_)
  have hw : Wh D (fun q => s.heap.size ≤ q) s.heap (List.flatten [bX9 u E ob0, bX1 u E jOb0, bX3 (u 2) E ob0, bX3 (u 3) E ob0, bX5 u E ob0, bX8 (u 5) E ob0, bX2 (u 6) E ob0, bX7 u E ob0, bX2 (u 8) E ob0, bX8 (u 9) E ob0, bX8 (u 10) E ob0, bX8 (u 11) E ob0, bX2 (u 12) E ob0, bX8 (u 13) E ob0, bX8 (u 14) E ob0, bX2 (u 15) E ob0, bX10 a E mOb0]) _ _ := Wh.back (cs := [_]) (rs := [_, _, _, _, _, _, _, _, _, _, _, _, _, _, _, _]) _ [1, 2, 3, 4, 5, 6, 7, 8, 9, 10, 11, 12, 13, 14, 15, 16, 0] 17 rfl (by decide +kernel) rfl hN5
  have ew : List.flatten (wL u a E (fun _ => ob0) (fun _ => ob0) (fun _ => ob0) xs0 mOb0) = List.flatten [bX9 u E ob0, bX1 u E jOb0, bX3 (u 2) E ob0, bX3 (u 3) E ob0, bX5 u E ob0, bX8 (u 5) E ob0, bX2 (u 6) E ob0, bX7 u E ob0, bX2 (u 8) E ob0, bX8 (u 9) E ob0, bX8 (u 10) E ob0, bX8 (u 11) E ob0, bX2 (u 12) E ob0, bX8 (u 13) E ob0, bX8 (u 14) E ob0, bX2 (u 15) E ob0, bX10 a E mOb0] := by
    unfold wL
    rw [dC_0 (n := (xs0 1).2.1 1) rfl, dK_0 (n := (xs0 4).2.1 1) rfl, dP_0 (n := (xs0 0).2.1 4) rfl]
    rfl
  rw [← ew] at hw
  refine W.widen (k := 100 + 0) (n := 50000 + 2 * 0) (Nat.le_of_ble_eq_true rfl) (Nat.le_of_ble_eq_true rfl) ?_
  exact law_loop Inv hok ⟨hx, hb, hml, hown, hT, hK, hX, hbl⟩ hr hlocks hL a (L + 6) 0 u _ _ _ _ _ _ _ ls (by omega) (Nat.zero_le L) hI0 hw (lv_sub hl [0, 3, 2, 1] rfl)
