theorem Iv_addC {ck mk pr xs : Nat → Ob} {o nw : Ob} {nm nc np : Nat} {x1 x2 x3 : Int32} (hT : IvT nm nc np ck mk pr xs o) (hE : IvE xs o) (hS : IvS nm xs o) (hR : IvR nm xs o) (hn : nc < 40) (hw1 : CkWF nw nc) (n0 : nw.2.1 0 = x1) (n1 : nw.2.1 1 = x2) (n2 : nw.2.1 2 = x3) :
    Iv (um ck nc nw) mk pr (ux xs 1 ((xs 1).1, upd (xs 1).2.1 1 (nI (nc + 1)), (xs 1).2.2)) (o.1, upd o.2.1 21 (nI (nc + 1)), sa (sa (sa o.2.2 22 (upd (o.2.2 22) nc x1)) 23 (upd (o.2.2 23) nc x2)) 24 (upd (o.2.2 24) nc x3)) := by
  obtain ⟨⟨hn1, hn2, hn3⟩, ⟨a1, a2⟩, ⟨b1, b2⟩, ⟨c1, c2⟩, hM, hC, hP⟩ := hT
  have ii : ∀ k, k ≠ 21 → upd o.2.1 21 (nI (nc + 1)) k = o.2.1 k := fun k h => pk_un h
  have aa : ∀ k, k ≠ 22 → k ≠ 23 → k ≠ 24 → sa (sa (sa o.2.2 22 (upd (o.2.2 22) nc x1)) 23 (upd (o.2.2 23) nc x2)) 24 (upd (o.2.2 24) nc x3) k = o.2.2 k := fun k h1 h2 h3 => by rw [sa_n h3, sa_n h2, sa_n h1]
  have et : tbO (o.1, upd o.2.1 21 (nI (nc + 1)), sa (sa (sa o.2.2 22 (upd (o.2.2 22) nc x1)) 23 (upd (o.2.2 23) nc x2)) 24 (upd (o.2.2 24) nc x3)) = tbO o := tbO_keep (fun k hk => aa k (by intro z; subst z; exact absurd hk (by decide)) (by intro z; subst z; exact absurd hk (by decide)) (by intro z; subst z; exact absurd hk (by decide)))
  have hw : ∀ m, m < nm → MkWF (tbO o) nc m := fun m hm => (hM m hm).1
  have X : ∀ i, i ≠ 1 → ux xs 1 ((xs 1).1, upd (xs 1).2.1 1 (nI (nc + 1)), (xs 1).2.2) i = xs i := fun i h => ux_n h
  have X1 : ux xs 1 ((xs 1).1, upd (xs 1).2.1 1 (nI (nc + 1)), (xs 1).2.2) 1 = ((xs 1).1, upd (xs 1).2.1 1 (nI (nc + 1)), (xs 1).2.2) := ux_0
  have hte : TbEq nm (tbO o) (tbO (o.1, upd o.2.1 21 (nI (nc + 1)), sa (sa (sa o.2.2 22 (upd (o.2.2 22) nc x1)) 23 (upd (o.2.2 23) nc x2)) 24 (upd (o.2.2 24) nc x3))) := by rw [et]; exact TbEq.rf
  have rk : ∀ t, RK t o (o.1, upd o.2.1 21 (nI (nc + 1)), sa (sa (sa o.2.2 22 (upd (o.2.2 22) nc x1)) 23 (upd (o.2.2 23) nc x2)) 24 (upd (o.2.2 24) nc x3)) := fun t => ⟨congrFun (aa 8 (by decide) (by decide) (by decide)) t, fun i _ => ⟨congrFun (aa 9 (by decide) (by decide) (by decide)) _, congrFun (aa 10 (by decide) (by decide) (by decide)) _⟩⟩
  refine ⟨nm, nc + 1, np, ⟨⟨hn1, by omega, hn3⟩, ⟨(ii 0 (by decide)).trans a1, by rw [X 4 (by decide)]; exact a2⟩, ⟨(show upd o.2.1 21 (nI (nc + 1)) 21 = _ from pk_us), by rw [X1]; exact (show upd (xs 1).2.1 1 (nI (nc + 1)) 1 = _ from pk_us)⟩, ⟨(ii 45 (by decide)).trans c1, by rw [X 0 (by decide)]; exact c2⟩, fun m hm => by rw [et]; exact ⟨(hM m hm).1.congr TbEq.rf hm (Nat.le_succ _), (hM m hm).2⟩, fun i hi => ?_, fun i hi => ?_⟩, ?_, ?_, ?_⟩
  · have r22 : (sa (sa (sa o.2.2 22 (upd (o.2.2 22) nc x1)) 23 (upd (o.2.2 23) nc x2)) 24 (upd (o.2.2 24) nc x3)) 22 = upd (o.2.2 22) nc x1 := by rw [sa_n (by decide), sa_n (by decide), sa_s]
    have r23 : (sa (sa (sa o.2.2 22 (upd (o.2.2 22) nc x1)) 23 (upd (o.2.2 23) nc x2)) 24 (upd (o.2.2 24) nc x3)) 23 = upd (o.2.2 23) nc x2 := by rw [sa_n (by decide), sa_s]
    have r24 : (sa (sa (sa o.2.2 22 (upd (o.2.2 22) nc x1)) 23 (upd (o.2.2 23) nc x2)) 24 (upd (o.2.2 24) nc x3)) 24 = upd (o.2.2 24) nc x3 := sa_s
    dsimp only
    rw [r22, r23, r24]
    rcases Nat.lt_or_ge i nc with q | q
    · rw [um_n (by omega), pk_un (show i ≠ nc by omega), pk_un (show i ≠ nc by omega), pk_un (show i ≠ nc by omega)]
      exact hC i q
    · have hi2 : i = nc := by omega
      subst hi2
      rw [um_s, pk_us, pk_us, pk_us]
      exact ⟨hw1, n0, n1, n2⟩
  · obtain ⟨p1, ⟨b, hb, y1, y2⟩, c', hc', q1, q2, q3⟩ := hP i hi
    dsimp only
    rw [aa 46 (by decide) (by decide) (by decide), aa 47 (by decide) (by decide) (by decide), aa 48 (by decide) (by decide) (by decide), aa 49 (by decide) (by decide) (by decide)]
    refine ⟨p1, ⟨b, by omega, y1, y2⟩, c', hc', q1, q2, fun l hl => ?_⟩
    obtain ⟨b2, hb2, z1, z2⟩ := q3 l hl
    exact ⟨b2, by omega, z1, z2⟩
  · obtain ⟨e, he, e1, e2, e5⟩ := hE
    exact ⟨e, he, (ii 34 (by decide)).trans e1, by rw [X1]; exact (show upd (xs 1).2.1 1 (nI (nc + 1)) 2 = _ from pk_un (by decide)).trans e2, e5⟩
  · exact hS.keep hte hw hn1 (Nat.le_refl _) (rk 0) (by rw [X 0 (by decide)]) (fun C h => by rw [X 11 (by decide)]; exact h) (fun C h => by rw [X 12 (by decide)]; exact h)
  · exact hR.keep hte hw hn1 (Nat.le_refl _) (rk 1) (rk 2) (fun k hk => ii k (by intro z; subst z; exact absurd hk (by decide))) (aa 56 (by decide) (by decide) (by decide)) (by rw [X 0 (by decide)]) (by rw [X 0 (by decide)]) (fun C h => by rw [X 13 (by decide)]; exact h) (fun C h => by rw [X 14 (by decide)]; exact h)
theorem k_addC {ck : Nat → Ob} {j nw : Ob} {nc : Nat} {Post : Int32 → (Nat → Ob) → Ob → Prop} (hc : j.2.1 1 = nI nc) (hn : nc ≤ 40) (hF : nc = 40 → Post (-4) ck j) (hS : nc < 40 → Post (nI nc) (um ck nc nw) (j.1, upd j.2.1 1 (nI (nc + 1)), j.2.2)) : w_X1_add ck j nw Post := by
  unfold w_X1_add
  rw [hc]
  refine ⟨fun z => absurd z (nI_pos (by omega)), fun _ => ⟨fun z => ?_, fun z => ?_⟩⟩
  · rw [show (40 : Int32) = nI 40 from rfl, nI_ltI (by omega) (by omega)] at z
    have h := hS z
    refine ⟨vp_in_nI z (by omega), by rw [nI_1, nI_clamp (by omega), nI_clamp (by omega)], ?_⟩
    rw [nI_1, nI_clamp (by omega), show nI (nc + 1) - 1 = nI nc from by rw [← nI_1, Int32.add_sub_cancel]]
    exact h
  · rw [show (40 : Int32) = nI 40 from rfl, nI_ltI (by omega) (by omega)] at z
    exact hF (by omega)
