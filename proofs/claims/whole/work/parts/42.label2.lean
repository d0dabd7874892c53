theorem x_pat_y {x : Int32} {np i : Nat} {k : Ob} {Post : Option Nat → Ob → Prop} (hc : k.2.1 4 = nI np) (hn : np ≤ 20) (hi : i < np) (e : x = nI i) (h : Post (some i) k) : w_X9_propertyAt x k Post := by
  subst e
  unfold w_X9_propertyAt
  rw [hc]
  refine ⟨fun z => absurd z (nI_pos (by omega)), fun _ => ⟨fun z => ?_, fun _ => ⟨fun z => ?_, fun _ => ⟨vp_in_nI (by omega) (by omega), ?_⟩⟩⟩⟩
  · rw [nI_leI (by omega) (by omega)] at z; omega
  · rw [show (20 : Int32) = nI 20 from rfl, nI_leI (by omega) (by omega)] at z; omega
  · rw [nI_clamp (by omega), nI_clamp (by omega)]
    exact ⟨fun _ => h, fun z => absurd hi z⟩
theorem x_pat_n {x : Int32} {np : Nat} {k : Ob} {Post : Option Nat → Ob → Prop} (hc : k.2.1 4 = nI np) (hn : np ≤ 20) (hx : ∀ i, i < np → x ≠ nI i) (h : Post none k) : w_X9_propertyAt x k Post := by
  unfold w_X9_propertyAt
  rw [hc]
  refine ⟨fun _ => h, fun a => ⟨fun _ => h, fun b => ?_⟩⟩
  obtain ⟨m, hm, e⟩ := lt0_or (by omega) a b
  exact absurd e (hx m hm)
theorem um_id {f : Nat → Ob} {n : Nat} : um f n (f n) = f := by
  funext j; unfold um; by_cases h : j = n
  · rw [if_pos h, h]
  · rw [if_neg h]
theorem ux2 {xs : Nat → Ob} : ux (ux xs 0 (xs 0)) 1 (xs 1) = xs := by rw [ux_self, ux_self]
set_option maxHeartbeats 2000000 in
theorem ok_label : OK_label Iv := by
  intro ck mk pr xs o v1 v2 hI
  obtain ⟨nm, nc, np, hT, hE, hS, hR⟩ := id hI
  have hnc := hT.1.2.1
  have hnp := hT.1.2.2
  have f0 := hT.2.2.1.1
  have f1 := hT.2.2.1.2
  have g0 := hT.2.2.2.1.1
  have g1 := hT.2.2.2.1.2
  have fin : Iv ck mk pr (ux (ux xs 0 (xs 0)) 1 (xs 1)) o := by rw [ux2]; exact hI
  rcases ix_cases v1 np with ⟨i, hi, rfl⟩ | hno
  · have hin : ∀ {P : Int32 → Prop}, P 1 → w_X10_in (nI i) 0 (o.2.1 45 - 1) P := by
      intro P h
      rw [g0]
      refine r_in_y (nI_pos (by omega)) (fun z => ?_) h
      exact absurd rfl ((in_n (x := nI i) (n := np) (by omega)).mp (Or.inr z) i hi)
    refine x_pat_y g1 hnp hi rfl ⟨rfl, fun z => (nomatch z), fun k e => ?_⟩
    cases e
    rcases ix_cases v2 nc with ⟨c, hc, rfl⟩ | hnk
    · refine k_knows_y f1 hnc hc rfl ⟨fun _ => ⟨by rw [g1, nI_clamp (by omega)]; exact hi, ?_⟩, fun z => absurd z (by decide)⟩
      obtain ⟨p1, p2, l, hl, q1, q2, q3⟩ := hT.2.2.2.2.2.2 i hi
      have hv : vp_in (nI i) 20 := vp_in_nI (by omega) (by omega)
      unfold w_X6_addLabel
      rw [q1]
      refine ⟨fun z => absurd z (nI_pos (by omega)), fun _ => ⟨fun z => ?_, fun z => ?_⟩⟩
      · rw [show (3 : Int32) = nI 3 from rfl, nI_ltI (by omega) (by omega)] at z
        refine ⟨vp_in_nI z (by omega), rfl, hin ⟨fun z => absurd z (by decide), fun _ => r_noCheck_y f0 hnc hc rfl ⟨fun _ => ⟨hv, ?_⟩, fun z => absurd rfl z⟩⟩⟩
        rw [nI_clamp (show i < 2 ^ 31 by omega), q2]
        rw [show (3 : Int32) * nI i + nI l = nI (3 * i + l) from by rw [show (3 : Int32) = nI 3 from rfl, mul_nI, nI_add], nI_clamp (show 3 * i + l < 2 ^ 31 by omega), nI_clamp (show l < 2 ^ 31 by omega), nI_1]
        refine ⟨fun _ => ⟨hv, vp_in_nI (by omega) (by omega), hv, hv, hv, pk_us.symm, ?_⟩, fun y => ?_⟩
        · rw [ux2]
          exact Iv_addL hT hE hS hR hi hc z q1 q2
        · rw [show (3 : Int32) = nI 3 from rfl, nI_eq (by omega) (by omega)] at y; omega
      · rw [show (3 : Int32) = nI 3 from rfl, nI_ltI (by omega) (by omega)] at z
        refine ⟨rfl, hin ⟨fun z => absurd z (by decide), fun _ => r_noCheck_y f0 hnc hc rfl ⟨fun _ => ⟨hv, ?_⟩, fun z => absurd rfl z⟩⟩⟩
        rw [nI_clamp (show i < 2 ^ 31 by omega), q2]
        exact ⟨fun y => absurd (by rw [show l = 3 by omega]; rfl) y, fun _ => ⟨rfl, by rw [um_id]; exact fin⟩⟩
    · exact k_knows_n f1 hnc hnk ⟨fun z => absurd rfl z, fun _ => ⟨rfl, hin ⟨fun z => absurd z (by decide), fun _ => r_noCheck_n f0 hnc hnk ⟨fun z => absurd z (by decide), fun _ => ⟨rfl, fin⟩⟩⟩⟩⟩
  · refine x_pat_n g1 hnp hno ⟨rfl, fun _ => ⟨rfl, ?_⟩, fun i z => (nomatch z)⟩
    unfold w_X10_label
    rw [g0]
    exact r_in_n ((in_n (by omega)).mpr hno) ⟨fun _ => ⟨rfl, fin⟩, fun z => absurd rfl z⟩
