theorem Iv_addP {ck mk pr xs : Nat → Ob} {o : Ob} {nm nc np m c : Nat} (hT : IvT nm nc np ck mk pr xs o) (hE : IvE xs o) (hS : IvS nm xs o) (hR : IvR nm xs o) (hn : np < 20) (hm : m < nm) (hc : c < nc) :
    Iv ck mk (um pr np (prOb (nI m) (nI c))) (ux xs 0 ((xs 0).1, upd (xs 0).2.1 4 (nI (np + 1)), (xs 0).2.2)) (o.1, upd o.2.1 45 (nI (np + 1)), sa (sa (sa o.2.2 46 (upd (o.2.2 46) np (nI m))) 47 (upd (o.2.2 47) np (nI c))) 48 (upd (o.2.2 48) np 0)) := by
  obtain ⟨⟨hn1, hn2, hn3⟩, ⟨a1, a2⟩, ⟨b1, b2⟩, ⟨c1, c2⟩, hM, hC, hP⟩ := hT
  have ii : ∀ k, k ≠ 45 → upd o.2.1 45 (nI (np + 1)) k = o.2.1 k := fun k h => pk_un h
  have aa : ∀ k, k ≠ 46 → k ≠ 47 → k ≠ 48 → sa (sa (sa o.2.2 46 (upd (o.2.2 46) np (nI m))) 47 (upd (o.2.2 47) np (nI c))) 48 (upd (o.2.2 48) np 0) k = o.2.2 k := fun k h1 h2 h3 => by rw [sa_n h3, sa_n h2, sa_n h1]
  have et : tbO (o.1, upd o.2.1 45 (nI (np + 1)), sa (sa (sa o.2.2 46 (upd (o.2.2 46) np (nI m))) 47 (upd (o.2.2 47) np (nI c))) 48 (upd (o.2.2 48) np 0)) = tbO o := tbO_keep (fun k hk => aa k (by intro z; subst z; exact absurd hk (by decide)) (by intro z; subst z; exact absurd hk (by decide)) (by intro z; subst z; exact absurd hk (by decide)))
  have hw : ∀ m, m < nm → MkWF (tbO o) nc m := fun m hm => (hM m hm).1
  have X : ∀ i, i ≠ 0 → ux xs 0 ((xs 0).1, upd (xs 0).2.1 4 (nI (np + 1)), (xs 0).2.2) i = xs i := fun i h => ux_n h
  have X0 : ux xs 0 ((xs 0).1, upd (xs 0).2.1 4 (nI (np + 1)), (xs 0).2.2) 0 = ((xs 0).1, upd (xs 0).2.1 4 (nI (np + 1)), (xs 0).2.2) := ux_0
  have hte : TbEq nm (tbO o) (tbO (o.1, upd o.2.1 45 (nI (np + 1)), sa (sa (sa o.2.2 46 (upd (o.2.2 46) np (nI m))) 47 (upd (o.2.2 47) np (nI c))) 48 (upd (o.2.2 48) np 0))) := by rw [et]; exact TbEq.rf
  have rk : ∀ t, RK t o (o.1, upd o.2.1 45 (nI (np + 1)), sa (sa (sa o.2.2 46 (upd (o.2.2 46) np (nI m))) 47 (upd (o.2.2 47) np (nI c))) 48 (upd (o.2.2 48) np 0)) := fun t => ⟨congrFun (aa 8 (by decide) (by decide) (by decide)) t, fun i _ => ⟨congrFun (aa 9 (by decide) (by decide) (by decide)) _, congrFun (aa 10 (by decide) (by decide) (by decide)) _⟩⟩
  refine ⟨nm, nc, np + 1, ⟨⟨hn1, hn2, by omega⟩, ⟨(ii 0 (by decide)).trans a1, by rw [X 4 (by decide)]; exact a2⟩, ⟨(ii 21 (by decide)).trans b1, by rw [X 1 (by decide)]; exact b2⟩, ⟨(show upd o.2.1 45 (nI (np + 1)) 45 = _ from pk_us), by rw [X0]; exact (show upd (xs 0).2.1 4 (nI (np + 1)) 4 = _ from pk_us)⟩, fun m hm => by rw [et]; exact hM m hm, fun i hi => ?_, fun i hi => ?_⟩, ?_, ?_, ?_⟩
  · have h := hC i hi
    refine ⟨h.1, h.2.1.trans (congrFun (aa 22 (by decide) (by decide) (by decide)).symm i), h.2.2.1.trans (congrFun (aa 23 (by decide) (by decide) (by decide)).symm i), h.2.2.2.trans (congrFun (aa 24 (by decide) (by decide) (by decide)).symm i)⟩
  · have r46 : (sa (sa (sa o.2.2 46 (upd (o.2.2 46) np (nI m))) 47 (upd (o.2.2 47) np (nI c))) 48 (upd (o.2.2 48) np 0)) 46 = upd (o.2.2 46) np (nI m) := by rw [sa_n (by decide), sa_n (by decide), sa_s]
    have r47 : (sa (sa (sa o.2.2 46 (upd (o.2.2 46) np (nI m))) 47 (upd (o.2.2 47) np (nI c))) 48 (upd (o.2.2 48) np 0)) 47 = upd (o.2.2 47) np (nI c) := by rw [sa_n (by decide), sa_s]
    have r48 : (sa (sa (sa o.2.2 46 (upd (o.2.2 46) np (nI m))) 47 (upd (o.2.2 47) np (nI c))) 48 (upd (o.2.2 48) np 0)) 48 = upd (o.2.2 48) np 0 := sa_s
    dsimp only
    rw [r46, r47, r48, aa 49 (by decide) (by decide) (by decide)]
    rcases Nat.lt_or_ge i np with q | q
    · rw [um_n (by omega), pk_un (show i ≠ np by omega), pk_un (show i ≠ np by omega), pk_un (show i ≠ np by omega)]
      exact hP i q
    · have hi2 : i = np := by omega
      subst hi2
      rw [um_s, pk_us, pk_us, pk_us]
      exact ⟨⟨m, hm, rfl, rfl⟩, ⟨c, hc, rfl, rfl⟩, 0, by omega, rfl, rfl, fun l hl => absurd hl (Nat.not_lt_zero l)⟩
  · obtain ⟨e, he, e1, e2, e5⟩ := hE
    exact ⟨e, he, (ii 34 (by decide)).trans e1, by rw [X 1 (by decide)]; exact e2, e5⟩
  · exact hS.keep hte hw hn1 (Nat.le_refl _) (rk 0) (by rw [X0]; exact (show upd (xs 0).2.1 4 (nI (np + 1)) 7 = _ from pk_un (by decide))) (fun C h => by rw [X 11 (by decide)]; exact h) (fun C h => by rw [X 12 (by decide)]; exact h)
  · exact hR.keep hte hw hn1 (Nat.le_refl _) (rk 1) (rk 2) (fun k hk => ii k (by intro z; subst z; exact absurd hk (by decide))) (aa 56 (by decide) (by decide) (by decide)) (by rw [X0]; exact (show upd (xs 0).2.1 4 (nI (np + 1)) 9 = _ from pk_un (by decide))) (by rw [X0]) (fun C h => by rw [X 13 (by decide)]; exact h) (fun C h => by rw [X 14 (by decide)]; exact h)
theorem ux3 {xs : Nat → Ob} {x : Ob} : ux (ux (ux xs 0 x) 4 (xs 4)) 1 (xs 1) = ux xs 0 x := by
  rw [ux_id (xs := ux xs 0 x) (i := 4) (ux_n (by decide)), ux_id (xs := ux xs 0 x) (i := 1) (ux_n (by decide))]
set_option maxHeartbeats 2000000 in
theorem ok_property : OK_property Iv := by
  intro ck mk pr xs o v1 v2 hI
  obtain ⟨nm, nc, np, hT, hE, hS, hR⟩ := id hI
  have hn := hT.1.1
  have hnc := hT.1.2.1
  have hnp := hT.1.2.2
  have e0 := hT.2.1.1
  have e4 := hT.2.1.2
  have f0 := hT.2.2.1.1
  have f1 := hT.2.2.1.2
  have g0 := hT.2.2.2.1.1
  have g1 := hT.2.2.2.1.2
  have fin : Iv ck mk pr (ux (ux (ux xs 0 (xs 0)) 4 (xs 4)) 1 (xs 1)) o := by rw [ux3, ux_self]; exact hI
  rcases ix_cases v1 nm with ⟨m, hm, rfl⟩ | hno
  · refine k_at_y e4 hn hm rfl ⟨fun z => (nomatch z), fun i e => ?_⟩
    cases e
    rcases ix_cases v2 nc with ⟨c, hc, rfl⟩ | hnk
    · refine k_knows_y f1 hnc hc rfl ⟨fun _ => ?_, fun z => absurd z (by decide)⟩
      rw [g1]
      refine ⟨fun z => absurd z (nI_pos (by omega)), fun _ => ⟨fun z => ?_, fun z => ⟨rfl, rfl, ?_⟩⟩⟩
      · rw [show (20 : Int32) = nI 20 from rfl, nI_ltI (by omega) (by omega)] at z
        refine ⟨vp_in_nI z (by omega), by rw [nI_1, nI_clamp (by omega), nI_clamp (by omega)], rfl, rfl, r_noMaker_y e0 hn hm rfl ⟨fun z => absurd rfl z, fun _ => r_noCheck_y f0 hnc hc rfl ⟨fun _ => ?_, fun z => absurd rfl z⟩⟩⟩
        rw [g0]
        refine ⟨fun _ => ⟨vp_in_nI z (by omega), vp_in_nI z (by omega), vp_in_nI z (by omega), rfl, ?_⟩, fun y => ?_⟩
        · rw [ux3, nI_clamp (by omega), nI_1]
          exact Iv_addP hT hE hS hR z hm hc
        · rw [show (20 : Int32) = nI 20 from rfl, nI_eq (by omega) (by omega)] at y; omega
      · rw [show (20 : Int32) = nI 20 from rfl, nI_ltI (by omega) (by omega)] at z
        refine r_noMaker_y e0 hn hm rfl ⟨fun z => absurd rfl z, fun _ => r_noCheck_y f0 hnc hc rfl ⟨fun _ => ?_, fun z => absurd rfl z⟩⟩
        refine ⟨fun y => absurd (by rw [g0, show np = 20 by omega]; rfl) y, fun _ => ⟨rfl, fin⟩⟩
    · exact k_knows_n f1 hnc hnk ⟨fun z => absurd rfl z, fun _ => ⟨rfl, rfl, r_noMaker_y e0 hn hm rfl ⟨fun z => absurd rfl z, fun _ => r_noCheck_n f0 hnc hnk ⟨fun z => absurd z (by decide), fun _ => ⟨rfl, fin⟩⟩⟩⟩⟩
  · exact k_at_n e4 hn hno ⟨fun _ => ⟨rfl, rfl, r_noMaker_n e0 hn hno ⟨fun _ => ⟨rfl, fin⟩, fun z => absurd z (by decide)⟩⟩, fun i z => (nomatch z)⟩
