/-! THE CALL make -/
section
variable {ck mk : Nat → Ob} {tb : Tb} {nm nc : Nat} {w : Int32}
theorem c_make {m e e2 : Nat} {s s2 : Int64} {r : Int32} {L : List Nd} {k kt kl j mc md : Ob} {B : Ob → Ob → Prop} {P : PC} (g : GrC ck mk tb nm nc w m s e r L s2 e2) (hw : MkWF tb nc m) (hm : m < 30) (hk : k.2.1 1 = nI nm) (h6 : ¬ kt.2.1 6 < 0) (hj : JC nc e j) (hl : r = 1 → (cenc tb L).length ≤ 744)
    (kk : ∀ k2 kt2 kl2 j2 mc2 md2, KC nm w k2 → JC nc e2 j2 → ¬ kt2.2.1 6 < 0 → (r = 1 → TreeC kt2 (cenc tb L)) → P r k2 kt2 kl2 j2 mc2 md2) (hB : ∀ k8 kt9, k8.2.1 1 = k.2.1 1 → w_grow ck mk 32 (nI m) (-1) 0 k8 kt9 kl j mc md P → B k8 kt9) : w_X5_begin s w k kt B := by
  have W : wtN tb m * (m + 2) ≤ 24 * 31 := Nat.mul_le_mul (wt_pos hw).2 (by omega)
  have go : ∀ kt2 : Ob, kt2.2.1 6 = nI 0 → B (sl k.1 5 s, upd k.2.1 6 w, k.2.2) kt2 := by
    intro kt2 h0
    have e1 : (sl k.1 5 s, upd k.2.1 6 w, k.2.2).2.1 1 = k.2.1 1 := (show upd k.2.1 6 w 1 = _ from pk_un (by decide))
    refine hB _ _ e1 ?_
    refine g 32 0 0 (-1) _ kt2 kl j mc md P (by omega) (by omega) (by omega) ⟨e1.trans hk, (show upd k.2.1 6 w 6 = _ from pk_us)⟩ (show sl k.1 5 s 5 = s from if_pos rfl) h0 hj (fun k2 kt3 kl2 j2 mc2 md2 f1 f2 f3 f4 f5 => kk k2 kt3 kl2 j2 mc2 md2 f1 f3 f4 (fun y => ?_))
    obtain ⟨t6, -, tF⟩ := f5 y
    rw [Nat.zero_add] at t6
    exact tF.top t6 (hl y)
  refine ⟨fun c => absurd c (by decide), fun _ => ⟨fun c => ?_, fun c => go _ (show upd kt.2.1 6 0 6 = nI 0 from pk_us)⟩⟩
  exact go kt (Int32.le_antisymm c (Int32.not_lt.mp h6))
theorem NdS.rowM {o : Ob} {t : Nat} {L : List Nd} (n : NdS o t 0 L) (h8 : o.2.2 8 t = nI L.length) (hl : L.length ≤ 744) : RowM o t L := ⟨h8, hl, fun i x hx => by have := n i x hx; rwa [Nat.add_zero] at this⟩
theorem m_make {m e e2 : Nat} {s s2 : Int64} {r : Int32} {L : List Nd} {o : Ob} {P : Int32 → Ob → Prop} (g : GrR ck tb nm nc w m s e r L s2 e2) (hw : MkWF tb nc m) (hm : m < 30) (T : HT tb o) (C : CT ck nc o) (h34 : o.2.1 34 = nI e) (hl : r = 1 → L.length ≤ 744)
    (k1 : r = 1 → ∀ o2, Fr mkS mkA o o2 → (∀ t, t < 4 → RK t o o2) → o2.2.1 34 = nI e2 → RowM o2 4 L → P 0 o2) (kN : ¬ r = 1 → ∀ o2, Fr mkS mkA o o2 → (∀ t, t < 4 → RK t o o2) → o2.2.1 34 = nI e2 → P r o2) : w_X10_makes (nI m) s w o P := by
  obtain ⟨c, g⟩ := g
  have W : wtN tb m * (m + 2) ≤ 24 * 31 := Nat.mul_le_mul (wt_pos hw).2 (by omega)
  unfold w_X10_makes
  rw [clit4]
  have key : ∀ X : Ob, X = (sl o.1 33 s, upd o.2.1 35 0, sa o.2.2 8 (upd (o.2.2 8) 4 0)) → w_X10_goInto (nI m) X (fun (o_2 : Ob) => ∃ n25, w_X10_makes_L25 w P n25 0 o_2) := by
    intro X hX
    have x0 : X.1 33 = s := by rw [hX]; exact sl33 (f := o.1) (x := s)
    have x1 : X.2.1 = upd o.2.1 35 0 := by rw [hX]
    have x2 : X.2.2 = sa o.2.2 8 (upd (o.2.2 8) 4 0) := by rw [hX]
    have xf : ∀ f, f ≠ 8 → X.2.2 f = o.2.2 f := fun f hf => by rw [x2, sa_ne hf]
    refine m_into (g := 0) (by rw [x1, pk_us]; rfl) (by omega) (fun o2 c1 c2 c3 c4 c5 c6 c7 c8 => ⟨0 + 1 + c, ?_⟩)
    have F : Fr mkS mkA o o2 := by
      refine ⟨fun k hk => ?_, fun k hk => ?_⟩
      · rw [c2 k (fun z => hk (by subst z; decide)), x1, pk_un (fun z => hk (by subst z; decide))]
      · rw [c4 k (fun z => hk (by subst z; decide)) (fun z => hk (by subst z; decide)) (fun z => hk (by subst z; decide)), xf k (fun z => hk (by subst z; decide))]
    have R : ∀ t, t < 4 → RK t o o2 := fun t ht => ⟨by rw [c4 8 (by omega) (by omega) (by omega), x2, sa_us, pk_un (by omega)], fun i hi => by
      rw [c4 9 (by omega) (by omega) (by omega), c4 10 (by omega) (by omega) (by omega), xf 9 (by omega), xf 10 (by omega)]; exact ⟨rfl, rfl⟩⟩
    have K : KR 0 0 o o2 := ⟨F, R, fun q hq => absurd hq (Nat.not_lt_zero _), fun q hq => absurd hq (Nat.not_lt_zero _)⟩
    refine g 0 0 0 o2 P (by omega) (by omega) ⟨K.HT T, K.CT C, by rw [c1]; exact x0, ?_, c3, ?_⟩ c6 c7 c8 ⟨fun y o3 K3 M3 N3 => ?_, fun y o3 K3 e3 => ?_⟩
    · rw [c2 34 (by omega), x1, pk_un (by omega)]; exact h34
    · rw [c4 8 (by omega) (by omega) (by omega), x2, sa_us, pk_us]; rfl
    · have K' := K.tr K3 (Nat.le_refl _) (Nat.le_refl _)
      obtain ⟨-, -, -, m4, m5, m8⟩ := M3
      refine mk_done m5 (k1 y o3 K'.1 K'.2.1 m4 (N3.rowM ?_ (hl y)))
      rw [Nat.zero_add] at m8; exact m8
    · have K' := K.tr K3 (Nat.le_refl _) (Nat.le_refl _)
      exact kN y o3 K'.1 K'.2.1 e3
  exact key _ rfl
end
theorem IvT.CT {nm nc np : Nat} {ck mk pr xs : Nat → Ob} {o : Ob} (h : IvT nm nc np ck mk pr xs o) : CT ck nc o := fun i hi => h.2.2.2.2.2.1 i hi
/-- a change of effort, of the made row and of what is reckoned -/
theorem Iv_eff {ck mk pr xs xs2 : Nat → Ob} {o o2 : Ob} {S A : List Nat} {nm nc np : Nat} (hT : IvT nm nc np ck mk pr xs o) (hS : IvS nm xs o) (hR : IvR nm xs o) (f : Fr S A o o2) (hSS : ∀ k ∈ [0, 21, 45, 50, 51, 52, 53, 54, 55], k ∉ S) (hA : ∀ k ∈ [1, 2, 3, 4, 5, 6, 7, 22, 23, 24, 46, 47, 48, 49, 56], k ∉ A) (rk : ∀ t, t < 3 → RK t o o2) (hE2 : IvE xs2 o2)
    (e0 : (xs2 0).2 = (xs 0).2) (e1 : (xs2 1).2.1 1 = (xs 1).2.1 1) (e4 : (xs2 4).2.1 1 = (xs 4).2.1 1) (e11 : ∀ C, TreeC (xs 11) C → TreeC (xs2 11) C) (e12 : ∀ ls, LvC (xs 12) ls → LvC (xs2 12) ls) (e13 : ∀ C, TreeC (xs 13) C → TreeC (xs2 13) C) (e14 : ∀ C, TreeC (xs 14) C → TreeC (xs2 14) C) : Iv ck mk pr xs2 o2 := by
  have ii : ∀ k ∈ [0, 21, 45, 50, 51, 52, 53, 54, 55], o2.2.1 k = o.2.1 k := fun k hk => f.1 k (hSS k hk)
  have aa : ∀ k ∈ [1, 2, 3, 4, 5, 6, 7, 22, 23, 24, 46, 47, 48, 49, 56], o2.2.2 k = o.2.2 k := fun k hk => f.2 k (hA k hk)
  have et : tbO o2 = tbO o := tbO_keep (fun k hk => aa k (by
    simp only [List.mem_cons, List.not_mem_nil, or_false] at hk ⊢; omega))
  have hte : TbEq nm (tbO o) (tbO o2) := by rw [et]; exact TbEq.rf
  have hw : ∀ m, m < nm → MkWF (tbO o) nc m := fun m hm => (hT.2.2.2.2.1 m hm).1
  have hn1 := hT.1.1
  refine ⟨nm, nc, np, hT.keep (fun k hk => ii k ?_) (fun k hk => aa k ?_) (by rw [e0]) e1 e4, hE2, hS.keep hte hw hn1 (Nat.le_refl _) (rk 0 (by omega)) (by rw [e0]) e11 e12, hR.keep hte hw hn1 (Nat.le_refl _) (rk 1 (by omega)) (rk 2 (by omega)) (fun k hk => ii k ?_) (aa 56 (by decide)) (by rw [e0]) (by rw [e0]) e13 e14⟩
  · simp only [List.mem_cons, List.not_mem_nil, or_false] at hk ⊢; omega
  · simp only [List.mem_cons, List.not_mem_nil, or_false] at hk ⊢; omega
  · simp only [List.mem_cons, List.not_mem_nil, or_false] at hk ⊢; omega
theorem Iv_bringF {ck mk pr xs xs2 : Nat → Ob} {o o2 : Ob} {S A : List Nat} {nm nc np m : Nat} {R : List Nd} (hT : IvT nm nc np ck mk pr xs o) (hR : IvR nm xs o) (f : Fr S A o o2) (hS : ∀ k ∈ [0, 21, 45, 50, 51, 52, 53, 54, 55], k ∉ S) (hA : ∀ k ∈ [1, 2, 3, 4, 5, 6, 7, 22, 23, 24, 46, 47, 48, 49, 56], k ∉ A) (rk : ∀ t, t = 1 ∨ t = 2 → RK t o o2)
    (hE2 : IvE xs2 o2) (e0 : xs2 0 = ((xs 0).1, upd (xs 0).2.1 7 1, (xs 0).2.2)) (e1 : (xs2 1).2.1 1 = (xs 1).2.1 1) (e4 : (xs2 4).2.1 1 = (xs 4).2.1 1) (hm : m < nm) (hc : CF (tbO o) R [some m]) (hr : RowM o2 0 R) (h11 : TreeC (xs2 11) (cenc (tbO o) R)) (h12 : LvC (xs2 12) (evR (tbO o) R)) (e13 : ∀ C, TreeC (xs 13) C → TreeC (xs2 13) C) (e14 : ∀ C, TreeC (xs 14) C → TreeC (xs2 14) C) : Iv ck mk pr xs2 o2 :=
  Iv_long (o := (o.1, o2.2)) rfl (Iv_bring (o2 := (o.1, o2.2)) hT hR (⟨rfl, f⟩ : Fm S A o (o.1, o2.2)) hS hA rk hE2 e0 e1 e4 hm hc hr h11 h12 e13 e14)
theorem k_size {x : Int32} {P : Int32 → Prop} (h0 : (∀ n : Nat, n ≤ 24 → x ≠ nI n) → P 0) (h1 : ∀ n : Nat, n ≤ 24 → x = nI n → P 1) : w_X9_isSize x P := by
  refine ⟨fun c => h0 (fun n hn e => nI_pos (by omega) (e ▸ c)), fun c => ⟨fun d => h0 (fun n hn e => ?_), fun d => ?_⟩⟩
  · rw [e, show (24 : Int32) = nI 24 from rfl, nI_ltI (by omega) (by omega)] at d; omega
  · obtain ⟨j, hj, rfl⟩ := nI_of c
    rw [show (24 : Int32) = nI 24 from rfl, nI_ltI (by omega) hj] at d
    exact h1 j (by omega) rfl
theorem r_size {x : Int32} {P : Int32 → Prop} (h0 : (∀ n : Nat, n ≤ 24 → x ≠ nI n) → P 0) (h1 : ∀ n : Nat, n ≤ 24 → x = nI n → P 1) : w_X10_in x 0 24 P := by
  have := (in_N (x := x) (n := 25) (by omega))
  rw [show (nI 25 : Int32) - 1 = 24 from rfl] at this
  refine r_in (fun z => h0 (fun n hn => this.mp z n (by omega))) (fun a b => ?_)
  obtain ⟨j, hj, rfl⟩ := nI_of a
  rw [show (24 : Int32) = nI 24 from rfl, nI_ltI (by omega) hj] at b
  exact h1 j (by omega) rfl
theorem mkS_ok : (∀ k ∈ [0, 21, 45, 50, 51, 52, 53, 54, 55], k ∉ mkS) ∧ ∀ k ∈ [1, 2, 3, 4, 5, 6, 7, 22, 23, 24, 46, 47, 48, 49, 56], k ∉ mkA := by decide
set_option maxHeartbeats 4000000 in
theorem ok_make : OK_make Iv := by
  intro ck mk pr xs o v1 v2 v3 hI
  obtain ⟨nm, nc, np, hT, hE, hS, hR⟩ := id hI
  have hn := hT.1.1
  have hnc := hT.1.2.1
  have hw : ∀ m, m < nm → MkWF (tbO o) nc m := fun m hm => (hT.2.2.2.2.1 m hm).1
  have hr : ∀ m, m < nm → MkRel (tbO o) (mk m) m := fun m hm => (hT.2.2.2.2.1 m hm).2
  have hck : ∀ i, i < nc → CkWF (ck i) i := fun i hi => (hT.2.2.2.2.2.1 i hi).1
  have e0 := hT.2.1.1
  have e4 := hT.2.1.2
  have e1 := hT.2.2.1.2
  have same : ∀ (mc2 md2 : Ob), Iv ck mk pr (ux (ux (ux (ux (ux (ux (ux (ux (ux xs 0 (xs 0)) 4 (xs 4)) 5 (xs 5)) 6 (xs 6)) 1 (xs 1)) 2 mc2) 3 md2) 11 (xs 11)) 12 (xs 12)) o := fun mc2 md2 =>
    Iv_keep hI (S := []) (A := []) Fm.rf (by decide) (by decide) rfl rfl rfl rfl (fun C h => h) (fun C h => h) (fun C h => h) (fun C h => h)
  refine k_at e4 hn (fun m hm em => ⟨rfl, fun z => (nomatch z), fun i ei => ?_⟩) (fun hno => ⟨rfl, fun _ => ⟨rfl, r_noMaker_n e0 hn hno ⟨fun z => absurd z (by decide), fun _ => ⟨rfl, same _ _⟩⟩⟩, fun i z => (nomatch z)⟩)
  cases ei
  refine k_size (fun hs => ⟨fun z => absurd rfl z, fun _ => ⟨rfl, r_noMaker_y e0 hn hm em ⟨fun _ => r_size (fun _ => ⟨fun z => absurd rfl z, fun _ => ⟨rfl, same _ _⟩⟩) (fun n hn' e => absurd e (hs n hn')), fun z => absurd rfl z⟩⟩⟩) (fun wn hwn ew => ⟨fun _ => ?_, fun z => absurd z (by decide)⟩)
  obtain ⟨ef, hef, q1, q2, q5⟩ := id hE
  obtain ⟨r, L, s2, e2, k1, k2, k3, g1, g2⟩ := mk_all hw hr hn hck hnc hwn ew (m + 1) m (Nat.lt_succ_self m) hm v2 ef hef
  have cl : r = 1 → (cenc (tbO o) L).length ≤ 744 ∧ L.length ≤ 744 := fun y => by
    obtain ⟨b1, b2, b3⟩ := CF_b1 hn hw (k3 y) hm (CF_BN hw hn hm (k3 y))
    exact ⟨b1, by omega⟩
  subst em
  refine c_make g1 (hw m hm) (by omega) e4 q5 ⟨e1, q2⟩ (fun y => (cl y).1) (P := fun (r11 : Int32) (k_12 : Ob) (kt_13 : Ob) (kl_14 : Ob) (j_15 : Ob) (mc_16 : Ob) (md_17 : Ob) => ((¬ r11 = 1) → _) ∧ ((r11 = 1) → _)) (fun k2' kt2 kl2 j2 mc2 md2 f1 f2 f3 f4 => ?_) (fun k8 kt9 a b => ⟨a, b⟩)
  have hE2 : ∀ (o2 x2 sh2 shl2 kt3 : Ob), ¬ kt3.2.1 6 < 0 → o2.2.1 34 = nI e2 → IvE (ux (ux (ux (ux (ux (ux (ux (ux (ux xs 0 x2) 4 k2') 5 kt3) 6 kl2) 1 j2) 2 mc2) 3 md2) 11 sh2) 12 shl2) o2 := fun o2 x2 sh2 shl2 kt3 h5 h34 => ⟨e2, by omega, h34, f2.2, h5⟩
  refine ⟨fun y => ⟨rfl, ?_⟩, fun y => ?_⟩
  · refine r_noMaker_y e0 hn hm rfl ⟨fun _ => r_size (fun hs => absurd ew (hs wn hwn)) (fun n hn' e => ⟨fun _ => ?_, fun z => absurd z (by decide)⟩), fun z => absurd rfl z⟩
    refine m_make g2 (hw m hm) (by omega) HT_o hT.CT q1 (fun y => (cl y).2) (fun y1 => absurd y1 y) (fun _ o2 F2 R2 h34 => ⟨fun z => absurd z ?_, fun _ => ⟨rfl, ?_⟩⟩)
    · rcases k2 with rfl | rfl | rfl
      · exact absurd rfl y
      · decide
      · decide
    · exact Iv_eff hT hS hR F2 mkS_ok.1 mkS_ok.2 (fun t ht => R2 t (by omega)) (hE2 o2 (xs 0) (xs 11) (xs 12) kt2 f3 h34) rfl (f2.1.trans e1.symm) (f1.1.trans e4.symm) (fun C h => h) (fun C h => h) (fun C h => h) (fun C h => h)
  · subst y
    have hcf := k3 rfl
    have T4 := f4 rfl
    have done : ∀ sh2 shl2, TreeC sh2 (cenc (tbO o) L) → LvC shl2 (evR (tbO o) L) → w_X10_make (nI m) v2 v3 o (fun (r2 : Int32) (o2 : Ob) => nI (2 * (sgC (cenc (tbO o) L)).length) = r2 ∧ Iv ck mk pr (ux (ux (ux (ux (ux (ux (ux (ux (ux xs 0 ((xs 0).1, upd (xs 0).2.1 7 1, (xs 0).2.2)) 4 k2') 5 kt2) 6 kl2) 1 j2) 2 mc2) 3 md2) 11 sh2) 12 shl2) o2) := by
      intro sh2 shl2 h1 h2
      refine r_noMaker_y e0 hn hm rfl ⟨fun _ => r_size (fun hs => absurd ew (hs wn hwn)) (fun n hn' e => ⟨fun _ => ?_, fun z => absurd z (by decide)⟩), fun z => absurd rfl z⟩
      refine m_make g2 (hw m hm) (by omega) HT_o hT.CT q1 (fun y => (cl y).2) (fun _ o2 F2 R2 h34 r4 => ⟨fun _ => ?_, fun z => absurd (by decide) z⟩) (fun y => absurd rfl y)
      have et : tbO o2 = tbO o := tbO_keep (fun k hk => F2.2 k (by
        simp only [List.mem_cons, List.not_mem_nil, or_false] at hk
        rcases hk with rfl | rfl | rfl | rfl | rfl | rfl | rfl <;> decide))
      refine m_shows (nm := nm) (nc := nc) (o := o2) (t := 4) (R := L) (m := m) (by rw [et]; exact hw) hn (by omega) (by omega) hm (by rw [et]; exact hcf) (CF_BN hw hn hm hcf) r4 (fun o3 f3' rk3 r3 => ⟨by rw [et], ?_⟩)
      have F3 : Fr (mkS ++ rkS) (mkA ++ (rkA ++ [8, 9, 10])) o o3 := (F2.mono (fun k hk => List.mem_append_left _ hk) (fun k hk => List.mem_append_left _ hk)).tr (f3'.2.mono (fun k hk => List.mem_append_right _ hk) (fun k hk => List.mem_append_right _ hk))
      exact Iv_bringF hT hR F3 (by decide) (by decide) (fun t ht => (R2 t (by omega)).tr (rk3 t (by omega))) (hE2 o3 _ sh2 shl2 kt2 f3 ((f3'.2.1 34 (by decide)).trans h34)) rfl (f2.1.trans e1.symm) (f1.1.trans e4.symm) hm hcf r3 h1 h2 (fun C h => h) (fun C h => h)
    have hB := CF_BN hw hn hm hcf
    obtain ⟨b1, b2, b3⟩ := CF_b1 hn hw hcf hm hB
    have hev := evC_cenc hw L _ hcf hB
    exact c_bring T4 (by rw [← evC_len, hev]; exact b2) (maps_ok hw L hB) (fun sh2 shl2 h1 h2 => ⟨(show upd (xs 0).2.1 7 1 4 = _ from pk_un (by decide)), done sh2 shl2 h1 (by rw [← hev]; exact h2)⟩)
