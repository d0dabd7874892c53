/-! MAKING in the reference: picked -/
section
variable {ck : Nat → Ob} {tb : Tb} {nm nc : Nat} {w : Int32}
theorem mV_1 {v : Int32} (h : VS v) : mV v = 1 ↔ v = 1 := by
  rcases h with rfl | rfl | rfl | rfl | rfl <;> decide
theorem mV_n {v : Int32} (h : VS v) : mV v < 0 ↔ ¬ v = 1 ∧ ¬ v = 0 := by
  rcases h with rfl | rfl | rfl | rfl | rfl <;> decide
set_option maxHeartbeats 4000000 in
/-- the end of a node of PICKED -/
theorem r_end5 (hw : ∀ m, m < nm → MkWF tb nc m) (hn : nm ≤ 30) (hnc : nc ≤ 40) {h m i p n a c t : Nat} {s : Int64} {e : Nat} {o : Ob} {L1 : List Nd} {Post : Int32 → Ob → Prop} (M : MS ck tb nc o (h + 1) p s e) (F : FF o h m i (nI 0) (nI t)) (hh : h < 60) (hm : m < 30) (q : tb 0 m = 5) (ha : a < nm) (ec : tb 2 m = nI c) (hc : c < nc) (h1 : CF tb L1 [some a]) (N : NdS o 4 (i + 1) L1) (hp : p = i + 1 + L1.length) (hi : p ≤ 1000) (ht : t < 8) (he : e < 2000)
    (k6 : e = 0 → ∀ o2, KR h p o o2 → o2.2.1 34 = nI 0 → w_X10_makes_L25 w Post n (-6) o2)
    (kF : ∀ e1, e = e1 + 1 → vdL ck tb L1 c = 1 → ∀ o2, KR h p o o2 → MS ck tb nc o2 h p s e1 → w_X10_makes_L25 w Post n 0 o2)
    (kT : ∀ e1, e = e1 + 1 → ¬ vdL ck tb L1 c = 1 → (¬ vdL ck tb L1 c = 0 ∨ t + 1 = 8) → ∀ o2, KR h p o o2 → o2.2.1 34 = nI e1 → w_X10_makes_L25 w Post n (-5) o2)
    (kA : ∀ e1, e = e1 + 1 → vdL ck tb L1 c = 0 → t + 1 < 8 → ∀ o2, KR h (i + 1) o o2 → MS ck tb nc o2 (h + 1) (i + 1) s e1 → FF o2 h m i (nI 1) (nI (t + 1)) → w_X10_makes_L25 w Post n 0 o2) : w_X10_makes_L25 w Post (n + 1) 0 o := by
  obtain ⟨T, C, m3, m4, m5, m8⟩ := M
  obtain ⟨f1, f2, f3, f4, f5⟩ := F
  have hB := CF_BN hw hn ha h1
  obtain ⟨b3, b4, b5⟩ := CF_b1 hn hw h1 ha hB
  refine mk_end m5 hh f5 (by rw [f3]; decide) ?_
  have k0 : o.2.2 1 m = tb 0 m := congrFun (T 0 (by omega)) m
  have k2 : o.2.2 3 m = tb 2 m := congrFun (T 2 (by omega)) m
  have vh : vp_in (nI h) 64 := vp_in_nI (by omega) (by omega)
  have vm : vp_in (nI m) 30 := vp_in_nI (by omega) (by omega)
  unfold w_X10_endNode
  rw [nI_clamp (show h < 2 ^ 31 by omega), f1, nI_clamp (show m < 2 ^ 31 by omega), k0, clit4, m8, f2, idx4]
  refine ⟨vh, vh, vm, jn_mk ⟨fun _ => ⟨vm, fun z => absurd (k0.trans q) z, fun _ => ⟨fun z34 => ?_, fun z34 => ?_⟩⟩, fun z => absurd (q.symm.trans z) (by decide)⟩⟩
  · cases e with
    | zero => exact absurd m4 z34
    | succ e1 =>
    rw [m4, nI_pred, nI_1, m8, hp]
    have F0 : Fm [34] [] o (o.1, upd o.2.1 34 (nI e1), o.2.2) := Fm.i (fun k hk => un_of (S := [34]) (by decide) hk)
    refine m_reckon (o := (o.1, upd o.2.1 34 (nI e1), o.2.2)) hw hn (t := 4) T h1 hB (N.keep F0 (by decide) (by decide)) (by omega) (by omega) (by omega) b4 (by have := sgC_len (cenc tb L1); omega) (fun o6 f6 d6 => ⟨vm, ?_⟩)
    have f06 : Fm ([34] ++ rkS) rkA o o6 := (F0.mono (by decide) (by decide)).tr (f6.mono (fun k hk => List.mem_append_right _ hk) (fun k hk => hk))
    rw [f06.2.2 3 (by decide), k2, ec]
    have C6 : CT ck nc o6 := fun j hj => by rw [f06.2.2 22 (by decide), f06.2.2 23 (by decide), f06.2.2 24 (by decide)]; exact C j hj
    refine m_result C6 hnc hc (d6.g b4) (fun o7 f7 => ?_)
    have f07 : Fm ([34] ++ rkS ++ runS) (rkA ++ [25, 26, 27]) o o7 := (f06.mono (fun k hk => List.mem_append_left _ hk) (fun k hk => List.mem_append_left _ hk)).tr (f7.mono (fun k hk => List.mem_append_right _ hk) (fun k hk => List.mem_append_right _ hk))
    have K7 : KR h p o o7 := f07.kr (by decide) (by decide) (by decide)
    have VV : VS (vdL ck tb L1 c) := vF_VS (fun i hi => (C i hi).1) hnc c hc
    have e34 : o7.2.1 34 = nI e1 := by
      rw [f7.2.1 34 (by decide), f6.2.1 34 (by decide)]
      show upd o.2.1 34 (nI e1) 34 = _
      exact pk_us
    have e39 : o7.2.2 39 h = nI t := by rw [f07.2.2 39 (by decide)]; exact f4
    show ((¬ mV (vdL ck tb L1 c) = 1) → _) ∧ ((mV (vdL ck tb L1 c) = 1) → _)
    rw [e39, nI_1]
    refine ⟨fun n1 => ⟨vh, vh, fun z0 => ?_, fun z0 => ⟨vh, fun n8 => ⟨vh, ?_⟩, fun y8 => ?_⟩⟩, fun y1 => ?_⟩
    · have F8 : Fr [] [39] o7 (o7.1, o7.2.1, sa o7.2.2 39 (upd (o7.2.2 39) h (nI (t + 1)))) := ⟨fun _ _ => rfl, fun k hk => sa_un (S := [39]) (by decide) hk⟩
      have K8 : KR h p o7 (o7.1, o7.2.1, sa o7.2.2 39 (upd (o7.2.2 39) h (nI (t + 1)))) := ⟨F8.mono (by decide) (by decide), fun t _ => RK.of_fr F8 (by decide) (by decide) (by decide), fun g hg f h2 h3 => by
        show sa o7.2.2 39 (upd (o7.2.2 39) h (nI (t + 1))) f g = _
        by_cases q : f = 39
        · subst q; rw [sa_us, pk_un (by omega)]
        · rw [sa_ne q], fun i hi => by rw [F8.2 9 (by decide), F8.2 10 (by decide)]; exact ⟨rfl, rfl⟩⟩
      exact kT e1 rfl ((mV_n VV).mp z0).1 (Or.inl ((mV_n VV).mp z0).2) _ (K7.tr K8 (Nat.le_refl _) (Nat.le_refl _)) e34
    · have v0 : vdL ck tb L1 c = 0 := Classical.byContradiction (fun z => z0 ((mV_n VV).mpr ⟨fun y => n1 ((mV_1 VV).mpr y), z⟩))
      have h8 : ¬ nI (t + 1) = 8 := by
        have n8 : ¬ upd (o7.2.2 39) h (nI (t + 1)) h = 8 := n8
        rw [pk_us] at n8; exact n8
      have ht8 : t + 1 < 8 := by
        rcases Nat.lt_or_ge (t + 1) 8 with y | y
        · exact y
        · exact absurd (by rw [show t + 1 = 8 by omega]; rfl) h8
      have key : ∀ X : Ob, X = (o7.1, o7.2.1, sa (sa (sa o7.2.2 39 (upd (o7.2.2 39) h (nI (t + 1)))) 8 (upd (o7.2.2 8) 4 (nI (i + 1)))) 38 (upd (o7.2.2 38) h 1)) → w_X10_makes_L25 w Post n 0 X := by
        intro X hX
        have x0 : X.1 = o7.1 := by rw [hX]
        have x1 : X.2.1 = o7.2.1 := by rw [hX]
        have x2 : X.2.2 = sa (sa (sa o7.2.2 39 (upd (o7.2.2 39) h (nI (t + 1)))) 8 (upd (o7.2.2 8) 4 (nI (i + 1)))) 38 (upd (o7.2.2 38) h 1) := by rw [hX]
        have xo : ∀ f, f ≠ 39 → f ≠ 8 → f ≠ 38 → X.2.2 f = o7.2.2 f := fun f h1 h2 h3 => by rw [x2, sa_ne h3, sa_ne h2, sa_ne h1]
        have xq : ∀ f g, g ≠ h → f ≠ 8 → X.2.2 f g = o7.2.2 f g := fun f g hg h8 => by
          rw [x2]
          by_cases q38 : f = 38
          · subst q38; rw [sa_us, pk_un hg]
          · rw [sa_ne q38, sa_ne h8]
            by_cases q39 : f = 39
            · subst q39; rw [sa_us, pk_un hg]
            · rw [sa_ne q39]
        have x8 : ∀ t', t' ≠ 4 → X.2.2 8 t' = o7.2.2 8 t' := fun t' ht' => by rw [x2, sa_ne (by omega), sa_us, pk_un ht']
        have K8 : KR h (i + 1) o7 X := by
          refine ⟨⟨fun k _ => by rw [x1], fun k hk => ?_⟩, fun t' ht' => ⟨x8 t' (by omega), fun j hj => by rw [xo 9 (by omega) (by omega) (by omega), xo 10 (by omega) (by omega) (by omega)]; exact ⟨rfl, rfl⟩⟩, fun g hg f h2 h3 => xq f g (by omega) (by omega), fun j hj => by rw [xo 9 (by omega) (by omega) (by omega), xo 10 (by omega) (by omega) (by omega)]; exact ⟨rfl, rfl⟩⟩
          exact xo k (fun z => hk (by subst z; decide)) (fun z => hk (by subst z; decide)) (fun z => hk (by subst z; decide))
        have KK : KR h (i + 1) o X := (K7.le (Nat.le_refl _) (by omega)).tr K8 (Nat.le_refl _) (Nat.le_refl _)
        refine kA e1 rfl v0 ht8 X KK ⟨KK.HT T, KK.CT C, ?_, ?_, ?_, ?_⟩ ⟨?_, ?_, ?_, ?_, ?_⟩
        · rw [x0, f07.1]; exact m3
        · rw [x1]; exact e34
        · rw [x1, f07.2.1 35 (by decide)]; exact m5
        · rw [x2, sa_ne (by omega), sa_us, pk_us]
        · rw [xo 36 (by omega) (by omega) (by omega), f07.2.2 36 (by decide)]; exact f1
        · rw [xo 37 (by omega) (by omega) (by omega), f07.2.2 37 (by decide)]; exact f2
        · rw [x2, sa_us, pk_us]; rfl
        · rw [x2, sa_ne (by omega), sa_ne (by omega), sa_us, pk_us]
        · rw [xo 40 (by omega) (by omega) (by omega), f07.2.2 40 (by decide)]; exact f5
      exact key _ rfl
    · have F8 : Fr [] [39] o7 (o7.1, o7.2.1, sa o7.2.2 39 (upd (o7.2.2 39) h (nI (t + 1)))) := ⟨fun _ _ => rfl, fun k hk => sa_un (S := [39]) (by decide) hk⟩
      have K8 : KR h p o7 (o7.1, o7.2.1, sa o7.2.2 39 (upd (o7.2.2 39) h (nI (t + 1)))) := ⟨F8.mono (by decide) (by decide), fun t _ => RK.of_fr F8 (by decide) (by decide) (by decide), fun g hg f h2 h3 => by
        show sa o7.2.2 39 (upd (o7.2.2 39) h (nI (t + 1))) f g = _
        by_cases q : f = 39
        · subst q; rw [sa_us, pk_un (by omega)]
        · rw [sa_ne q], fun i hi => by rw [F8.2 9 (by decide), F8.2 10 (by decide)]; exact ⟨rfl, rfl⟩⟩
      have h8 : nI (t + 1) = 8 := by
        have y8 : upd (o7.2.2 39) h (nI (t + 1)) h = 8 := y8
        rw [pk_us] at y8; exact y8
      have ht8 : t + 1 = 8 := (nI_eq (a := t + 1) (b := 8) (by omega) (by omega)).mp h8
      exact kT e1 rfl (fun y => n1 ((mV_1 VV).mpr y)) (Or.inr ht8) _ (K7.tr K8 (Nat.le_refl _) (Nat.le_refl _)) e34
    · have F8 : Fr [35] [] o7 (o7.1, upd o7.2.1 35 (o7.2.1 35 - 1), o7.2.2) := ⟨fun k hk => un_of (S := [35]) (by decide) hk, fun _ _ => rfl⟩
      have K8 : KR h p o7 (o7.1, upd o7.2.1 35 (o7.2.1 35 - 1), o7.2.2) := KR.of F8 (by decide) (by decide) (by decide)
      have KK := K7.tr K8 (Nat.le_refl _) (Nat.le_refl _)
      refine kF e1 rfl ((mV_1 VV).mp y1) _ KK ⟨KK.HT T, KK.CT C, ?_, (F8.1 34 (by decide)).trans e34, ?_, ?_⟩
      · show o7.1 33 = s
        rw [f07.1]; exact m3
      · show upd o7.2.1 35 (o7.2.1 35 - 1) 35 = _
        rw [pk_us, f07.2.1 35 (by decide), m5, nI_pred]
      · show o7.2.2 8 4 = nI p
        rw [f07.2.2 8 (by decide)]; exact m8
  · have e0 : e = 0 := by
      rcases Nat.eq_zero_or_pos e with z | z
      · exact z
      · rw [m4] at z34; exact absurd z34 (nI_ne0 z (by omega))
    subst e0
    exact k6 rfl o KR.rf m4
def PkR (ck : Nat → Ob) (tb : Tb) (nm nc : Nat) (w : Int32) (m t : Nat) (s : Int64) (e : Nat) (r : Int32) (L : List Nd) (s2 : Int64) (e2 : Nat) : Prop := ∃ c : Nat, ∀ (h p n : Nat) (o : Ob) (Post : Int32 → Ob → Prop), h + m < 59 → p + wtN tb m * (m + 2) ≤ 744 → MS ck tb nc o (h + 1) (p + 1) s e → FF o h m p (nI 1) (nI t) → o.2.2 10 (4000 + p) = 0 →
  (r = 1 → ∀ o2, KR h (p + 1) o o2 → MS ck tb nc o2 h (p + 1 + L.length) s2 e2 → NdS o2 4 (p + 1) L → w_X10_makes_L25 w Post (n + 1) 0 o2) → (¬ r = 1 → ∀ o2, KR h (p + 1) o o2 → o2.2.1 34 = nI e2 → Post r o2) → w_X10_makes_L25 w Post (n + 1 + c) 0 o
theorem okX5 {m : Nat} (hm : m < nm) (q : tb 0 m = 5) : okX tb nm (some m, 0) := fun m2 e2 => by cases e2; exact ⟨hm, fun z => absurd (q.symm.trans z) (by decide), fun z => absurd (q.symm.trans z) (by decide)⟩
theorem pr_fail (hw : ∀ m, m < nm → MkWF tb nc m) (hn : nm ≤ 30) {m a t : Nat} (hm : m < nm) (q : tb 0 m = 5) (ha : a < m) (ea : tb 1 m = nI a) {s s1 s2 : Int64} {e e1 : Nat} {r1 : Int32} {L1 L : List Nd} (g1 : GrR ck tb nm nc w a s e r1 L1 s1 e1) (n1 : ¬ r1 = 1) (n0 : ¬ r1 = 0) : PkR ck tb nm nc w m t s e r1 L s2 e1 := by
  obtain ⟨c, g⟩ := r_kid g1 n0
  refine ⟨c, fun h p n o Post hh hp M F hv k1 kN => ?_⟩
  have kb := kb_one hw hn (okX5 hm q) (show kidsT tb (some m, 0) = [some a] by rw [kids_5 q, oneN_eq (by omega) ea])
  exact g h (p + 1) n m p 0 0 (nI t) o Post (by omega) (by omega) (by omega) (by omega) (by omega) M F hv ⟨fun z => absurd (q.symm.trans z) (by decide), fun z => absurd (q.symm.trans z) (by decide), fun _ _ => ea⟩ (fun y => absurd y n1) (fun y => kN n1)
/-- a try whose part was made -/
theorem pr_ask (hw : ∀ m, m < nm → MkWF tb nc m) (hn : nm ≤ 30) (hnc : nc ≤ 40) {m a c t : Nat} (hm : m < nm) (q : tb 0 m = 5) (ha : a < m) (ea : tb 1 m = nI a) (ec : tb 2 m = nI c) (hc : c < nc) (ht : t < 8) {s s1 s2 : Int64} {e e1 e2 : Nat} {r : Int32} {L1 L : List Nd} (he : e1 < 2000) (g1 : GrR ck tb nm nc w a s e 1 L1 s1 e1) (h1 : CF tb L1 [some a])
    (c6 : e1 = 0 → r = -6 ∧ e2 = 0) (cF : ∀ e', e1 = e' + 1 → vdL ck tb L1 c = 1 → r = 1 ∧ L = L1 ∧ s2 = s1 ∧ e2 = e') (cT : ∀ e', e1 = e' + 1 → ¬ vdL ck tb L1 c = 1 → (¬ vdL ck tb L1 c = 0 ∨ t + 1 = 8) → r = -5 ∧ e2 = e') (cA : ∀ e', e1 = e' + 1 → vdL ck tb L1 c = 0 → t + 1 < 8 → PkR ck tb nm nc w m (t + 1) s1 e' r L s2 e2) : PkR ck tb nm nc w m t s e r L s2 e2 := by
  obtain ⟨cg, g⟩ := r_kid g1 (by decide)
  obtain ⟨d, hd0, hd⟩ : ∃ d : Nat, (vdL ck tb L1 c = 1 → d = 0) ∧ ∀ e', e1 = e' + 1 → vdL ck tb L1 c = 0 → t + 1 < 8 → ∀ (h p n : Nat) (o : Ob) (Post : Int32 → Ob → Prop), h + m < 59 → p + wtN tb m * (m + 2) ≤ 744 → MS ck tb nc o (h + 1) (p + 1) s1 e' → FF o h m p (nI 1) (nI (t + 1)) → o.2.2 10 (4000 + p) = 0 → (r = 1 → ∀ o2, KR h (p + 1) o o2 → MS ck tb nc o2 h (p + 1 + L.length) s2 e2 → NdS o2 4 (p + 1) L → w_X10_makes_L25 w Post (n + 1) 0 o2) → (¬ r = 1 → ∀ o2, KR h (p + 1) o o2 → o2.2.1 34 = nI e2 → Post r o2) → w_X10_makes_L25 w Post (n + 1 + d) 0 o := by
    by_cases q' : ∃ e', e1 = e' + 1 ∧ vdL ck tb L1 c = 0 ∧ t + 1 < 8
    · obtain ⟨e', q1, q2, q3⟩ := q'
      obtain ⟨d, hd⟩ := cA e' q1 q2 q3
      exact ⟨d, fun z => absurd (z.symm.trans q2) (by decide), fun e'' q4 _ _ => by rw [show e'' = e' by omega]; exact hd⟩
    · exact ⟨0, fun _ => rfl, fun e' q1 q2 q3 => absurd ⟨e', q1, q2, q3⟩ q'⟩
  refine ⟨d + 1 + cg, fun h p n o Post hh hp M F hv k1 kN => ?_⟩
  have kb := kb_one hw hn (okX5 hm q) (show kidsT tb (some m, 0) = [some a] by rw [kids_5 q, oneN_eq (by omega) ea])
  have hB := CF_BN hw hn (show a < nm by omega) h1
  obtain ⟨b3, b4, b5⟩ := CF_b1 hn hw h1 (show a < nm by omega) hB
  obtain ⟨b1, -⟩ := CF_len hw hn (show a < nm by omega) h1
  rw [show n + 1 + (d + 1 + cg) = (n + 1 + d) + 1 + cg by omega]
  refine g h (p + 1) (n + 1 + d) m p 0 0 (nI t) o Post (by omega) (by omega) (by omega) (by omega) (by omega) M F hv ⟨fun z => absurd (q.symm.trans z) (by decide), fun z => absurd (q.symm.trans z) (by decide), fun _ _ => ea⟩ (fun _ o2 K2 M2 F2 N2 => ?_) (fun y => absurd rfl y)
  refine r_end5 hw hn hnc M2 F2 (by omega) (by omega) q (show a < nm by omega) ec hc h1 N2 rfl (by omega) ht he (fun z o3 K3 e3 => ?_) (fun e' z1 z2 o3 K3 M3 => ?_) (fun e' z1 z2 z3 o3 K3 e3 => ?_) (fun e' z1 z2 z3 o3 K3 M3 F3 => ?_)
  · obtain ⟨rfl, rfl⟩ := c6 z
    rw [show n + 1 + d = n + d + 1 by omega]
    exact mk_fail (by decide) (kN (by decide) o3 (K2.tr K3 (Nat.le_refl _) (by omega)) e3)
  · obtain ⟨rfl, rfl, rfl, rfl⟩ := cF e' z1 z2
    rw [hd0 z2]
    exact k1 rfl o3 (K2.tr K3 (Nat.le_refl _) (by omega)) M3 (K3.nd N2 (Nat.le_refl _))
  · obtain ⟨rfl, rfl⟩ := cT e' z1 z2 z3
    rw [show n + 1 + d = n + d + 1 by omega]
    exact mk_fail (by decide) (kN (by decide) o3 (K2.tr K3 (Nat.le_refl _) (by omega)) e3)
  · exact hd e' z1 z2 z3 h p n o3 Post hh hp M3 F3 (by rw [(K3.2.2.2 p (by omega)).2, (K2.2.2.2 p (by omega)).2]; exact hv) (fun y o4 K4 M4 N4 => k1 y o4 ((K2.tr (K3.le (Nat.le_refl _) (Nat.le_refl _)) (Nat.le_refl _) (Nat.le_refl _)).tr K4 (Nat.le_refl _) (Nat.le_refl _)) M4 N4) (fun y o4 K4 e4 => kN y o4 ((K2.tr (K3.le (Nat.le_refl _) (Nat.le_refl _)) (Nat.le_refl _) (Nat.le_refl _)).tr K4 (Nat.le_refl _) (Nat.le_refl _)) e4)
end
