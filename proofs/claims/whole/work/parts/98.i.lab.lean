/-! RUN: the labels, both sides -/
noncomputable def LA (ck : Nat → Ob) (n : Nat) (f : Nat → Int32) (nl : Nat) (lb : Nat → Nat) (A : Nat → Int32) (i : Nat) : Int32 := if i < nl ∧ vF ck n f (lb i) = 1 then A i + 1 else A i
theorem LA_no {ck : Nat → Ob} {n : Nat} {f : Nat → Int32} {nl : Nat} {lb : Nat → Nat} {A : Nat → Int32} {i : Nat} (h : nl ≤ i) : LA ck n f nl lb A i = A i := by
  unfold LA; rw [if_neg (fun z => by omega)]
section
variable {ck mk pr : Nat → Ob} {tb : Tb} {nm nc : Nat}
theorem c_lab (hck : ∀ i, i < nc → CkWF (ck i) i) (hnc : nc ≤ 40) {q nl e n : Nat} {f : Nat → Int32} {lb : Nat → Nat} {A : Nat → Int32} (p3 : (pr q).2.1 3 = nI nl) (hnl : nl ≤ 3) (plb : ∀ l, l < nl → lb l < nc ∧ (pr q).2.2 2 l = nI (lb l)) {K : Ob → Ob → Ob → Ob → Ob → Ob → Ob → Ob → Ob → Ob → Prop} {Post : Int32 → Ob → Ob → Ob → Ob → Ob → Ob → Ob → Ob → Ob → Ob → Prop} {k kt kl tr ff fl x0 : Ob} (L : LvF tr n f) (KK : ∀ x2 j2 mc2 md2, xF [5, 6, 7] x0 x2 → (∀ i, i < 3 → x2.2.2 8 (5 + i) = LA ck n f nl lb A i) → JC nc e j2 → K x2 k kt kl j2 mc2 md2 tr ff fl) : ∀ (D l : Nat) (x j mc md : Ob), l + D = nl → q < (x0.2.1 4).toNatClampNeg → JC nc e j → xF [5, 6, 7] x0 x → (∀ i, i < 3 → x.2.2 8 (5 + i) = if i < l then LA ck n f nl lb A i else A i) → w_X9_tryCase_L82 ck mk pr q K Post (D + 1) (nI l) x k kt kl j mc md tr ff fl := by
  intro D
  induction D with
  | zero =>
    intro l x j mc md hD hq hj hx hA
    have hD : l = nl := hD
    have kk := KK x j mc md hx (fun i hi => by
      rw [hA i hi]
      by_cases c : i < l
      · rw [if_pos c]
      · rw [if_neg c, LA_no (by omega)]) hj
    refine ⟨fun _ => kk, fun _ => ⟨by rw [hx.1]; exact hq, fun _ => kk, fun z => absurd (show (pr q).2.1 3 ≤ nI l by rw [p3, hD]; exact Int32.le_refl _) z⟩⟩
  | succ D ih =>
    intro l x j mc md hD hq hj hx hA
    have hl : l < nl := by omega
    obtain ⟨w1, w2⟩ := plb l hl
    have hq' : q < (x.2.1 4).toNatClampNeg := by rw [hx.1]; exact hq
    refine ⟨fun z => absurd z (by rw [show (3 : Int32) = nI 3 from rfl, nI_leI (by omega) (by omega)]; omega), fun _ => ⟨hq', fun z => absurd z (by rw [p3, nI_leI (by omega) (by omega)]; omega), fun _ => ⟨hq', hq', vp_in_nI (by omega) (by omega), ?_⟩⟩⟩
    rw [nI_clamp (by omega), w2, show (5 : Int32) + nI l = nI (5 + l) by rw [show (5 : Int32) = nI 5 from rfl, nI_add], nI_clamp (by omega), nI_1]
    refine c_verdict hck hnc w1 hj.1 L (fun j2 mc2 md2 fj => ?_)
    have hj2 : JC nc e j2 := ⟨(fj.2.1 1 (by simp)).trans hj.1, (fj.2.1 2 (by simp)).trans hj.2⟩
    refine jn_mk ⟨fun v => ?_, fun v => ⟨vp_in_nI (by omega) (by omega), vp_in_nI (by omega) (by omega), ?_⟩⟩
    · refine ih (l + 1) x j2 mc2 md2 (by omega) hq hj2 hx (fun i hi => ?_)
      rw [hA i hi]
      by_cases c : i < l
      · rw [if_pos c, if_pos (by omega)]
      · rw [if_neg c]
        by_cases c2 : i = l
        · rw [if_pos (by omega), c2]; unfold LA; rw [if_neg (fun z => v z.2)]
        · rw [if_neg (by omega)]
    · have key : ∀ X : Ob, X = (x.1, x.2.1, sa x.2.2 8 (upd (x.2.2 8) (5 + l) (x.2.2 8 (5 + l) + 1))) → w_X9_tryCase_L82 ck mk pr q K Post (D + 1) (nI (l + 1)) X k kt kl j2 mc2 md2 tr ff fl := by
        intro X hX
        have y1 : X.2.1 = x.2.1 := by rw [hX]
        have y2 : X.2.2 = sa x.2.2 8 (upd (x.2.2 8) (5 + l) (x.2.2 8 (5 + l) + 1)) := by rw [hX]
        have y8 : X.2.2 8 = upd (x.2.2 8) (5 + l) (x.2.2 8 (5 + l) + 1) := by rw [y2, sa_us]
        have fx : xF [5, 6, 7] x X := ⟨y1, fun g hg => by rw [y2, sa_ne hg], fun i hi => by
          rw [y8, pk_un (fun z => hi (by
            have : i = 5 ∨ i = 6 ∨ i = 7 := by omega
            rcases this with rfl | rfl | rfl <;> decide))]⟩
        refine ih (l + 1) X j2 mc2 md2 (by omega) hq hj2 (hx.tr fx) (fun i hi => ?_)
        rw [y8]
        by_cases c2 : i = l
        · rw [c2, pk_us, if_pos (by omega), hA l (by omega), if_neg (by omega)]; unfold LA; rw [if_pos ⟨hl, v⟩]
        · rw [pk_un (by omega), hA i hi]
          by_cases c : i < l
          · rw [if_pos c, if_pos (by omega)]
          · rw [if_neg c, if_neg (by omega)]
      exact key _ rfl
theorem m_lab (hck : ∀ i, i < nc → CkWF (ck i) i) (hnc : nc ≤ 40) {q nl n : Nat} {f : Nat → Int32} {lb : Nat → Nat} {A : Nat → Int32} (hq : q < 20) (hnl : nl ≤ 3) {f2 : Int64} {f4 f5 f6 f7 : Int32} {K : Ob → Prop} {Post : Int32 → Ob → Prop} {o0 : Ob} (plb : ∀ l, l < nl → lb l < nc ∧ o0.2.2 49 (3 * q + l) = nI (lb l)) (h48 : o0.2.2 48 q = nI nl) (C : CT ck nc o0) (L : LvG o0 n f) (KK : ∀ o2, Fr runS [25, 26, 27, 56] o0 o2 → (∀ i, i < 3 → o2.2.2 56 i = LA ck n f nl lb A i) → K o2) : ∀ (D l : Nat) (o : Ob), l + D = nl → Fr runS [25, 26, 27, 56] o0 o → (∀ i, i < 3 → o.2.2 56 i = if i < l then LA ck n f nl lb A i else A i) → w_X10_run_L194 (nI q) f2 f4 f5 f6 f7 K Post (D + 1) (nI l) o := by
  intro D
  induction D with
  | zero =>
    intro l o hD F hA
    have hD : l = nl := hD
    have e48 : o.2.2 48 q = nI nl := by rw [F.2 48 (by decide)]; exact h48
    refine ⟨vp_in_nI hq (by omega), fun _ => KK o F (fun i hi => by
      rw [hA i hi]
      by_cases c : i < l
      · rw [if_pos c]
      · rw [if_neg c, LA_no (by omega)]), fun z => absurd ?_ z⟩
    rw [nI_clamp (by omega), e48, hD]; exact Int32.le_refl _
  | succ D ih =>
    intro l o hD F hA
    have hl : l < nl := by omega
    obtain ⟨w1, w2⟩ := plb l hl
    have e48 : o.2.2 48 q = nI nl := by rw [F.2 48 (by decide)]; exact h48
    have e49 : o.2.2 49 (3 * q + l) = nI (lb l) := by rw [F.2 49 (by decide)]; exact w2
    have L2 : LvG o n f := ⟨by rw [F.1 14 (by decide)]; exact L.1, L.2.1, fun i hi => by rw [F.2 15 (by decide)]; exact L.2.2 i hi⟩
    have C2 : CT ck nc o := F.ct C (by decide) (by decide) (by decide)
    have e3 : (3 : Int32) * nI q + nI l = nI (3 * q + l) := by rw [show (3 : Int32) = nI 3 from rfl, mul_nI, nI_add]
    refine ⟨vp_in_nI hq (by omega), fun z => absurd z ?_, fun _ => ⟨vp_in_nI (by omega) (by omega), ?_, ?_⟩⟩
    · rw [nI_clamp (by omega), e48, nI_leI (by omega) (by omega)]; omega
    · rw [e3]; exact vp_in_nI (by omega) (by omega)
    rw [e3, nI_clamp (by omega), nI_clamp (by omega), e49, nI_1]
    refine m_result (ck := ck) C2 hnc w1 L2 (fun o2 f2' => ?_)
    obtain ⟨v1, -⟩ := VS_1 (vF_VS (f := f) (n := n) hck hnc (lb l) w1)
    have fin : ∀ z : Int32, o.2.2 56 l + z = LA ck n f nl lb A l → ∀ X : Ob, X = (o2.1, o2.2.1, sa o2.2.2 56 (upd (o2.2.2 56) l (o.2.2 56 l + z))) → w_X10_run_L194 (nI q) f2 f4 f5 f6 f7 K Post (D + 1) (nI (l + 1)) X := by
      intro z hz X hX
      have y1 : X.2.1 = o2.2.1 := by rw [hX]
      have y2 : X.2.2 = sa o2.2.2 56 (upd (o2.2.2 56) l (o.2.2 56 l + z)) := by rw [hX]
      have F2 : Fr [] [56] o2 X := ⟨fun k _ => by rw [y1], fun k hk => by rw [y2, sa_ne (fun y => hk (by subst y; decide))]⟩
      refine ih (l + 1) X (by omega) ((F.tr (f2'.2.mono (fun k hk => hk) (by decide))).tr (F2.mono (fun k hk => absurd hk List.not_mem_nil) (by decide))) (fun i hi => ?_)
      rw [y2, sa_us]
      by_cases c2 : i = l
      · rw [c2, pk_us, if_pos (by omega)]; exact hz
      · rw [pk_un c2, f2'.2.2 56 (by decide), hA i hi]
        by_cases c : i < l
        · rw [if_pos c, if_pos (by omega)]
        · rw [if_neg c, if_neg (by omega)]
    have base : o.2.2 56 l = A l := by rw [hA l (by omega), if_neg (by omega)]
    refine jn_mk (jn_mk ⟨fun v => ?_, fun v => ?_⟩)
    · refine ⟨vp_in_nI (by omega) (by omega), fin 0 ?_ _ rfl⟩
      unfold LA
      rw [if_neg (fun z => v (v1.mpr z.2)), base, Int32.add_zero]
    · refine ⟨vp_in_nI (by omega) (by omega), fin 1 ?_ _ rfl⟩
      unfold LA
      rw [if_pos ⟨hl, v1.mp v⟩, base]
end
