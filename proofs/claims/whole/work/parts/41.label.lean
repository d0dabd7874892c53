theorem Iv_addL {ck mk pr xs : Nat → Ob} {o : Ob} {nm nc np i c l : Nat} (hT : IvT nm nc np ck mk pr xs o) (hE : IvE xs o) (hS : IvS nm xs o) (hR : IvR nm xs o) (hi : i < np) (hc : c < nc) (hl : l < 3) (e1 : (pr i).2.1 3 = nI l) (e2 : o.2.2 48 i = nI l) :
    Iv ck mk (um pr i ((pr i).1, upd (pr i).2.1 3 (nI (l + 1)), sa (pr i).2.2 2 (upd ((pr i).2.2 2) l (nI c)))) xs (o.1, o.2.1, sa (sa o.2.2 49 (upd (o.2.2 49) (3 * i + l) (nI c))) 48 (upd (o.2.2 48) i (nI (l + 1)))) := by
  obtain ⟨⟨hn1, hn2, hn3⟩, ⟨a1, a2⟩, ⟨b1, b2⟩, ⟨c1, c2⟩, hM, hC, hP⟩ := hT
  have aa : ∀ k, k ≠ 49 → k ≠ 48 → sa (sa o.2.2 49 (upd (o.2.2 49) (3 * i + l) (nI c))) 48 (upd (o.2.2 48) i (nI (l + 1))) k = o.2.2 k := fun k h1 h2 => by rw [sa_n h2, sa_n h1]
  have et : tbO (o.1, o.2.1, sa (sa o.2.2 49 (upd (o.2.2 49) (3 * i + l) (nI c))) 48 (upd (o.2.2 48) i (nI (l + 1)))) = tbO o := tbO_keep (fun k hk => aa k (by intro z; subst z; exact absurd hk (by decide)) (by intro z; subst z; exact absurd hk (by decide)))
  have hw : ∀ m, m < nm → MkWF (tbO o) nc m := fun m hm => (hM m hm).1
  have hte : TbEq nm (tbO o) (tbO (o.1, o.2.1, sa (sa o.2.2 49 (upd (o.2.2 49) (3 * i + l) (nI c))) 48 (upd (o.2.2 48) i (nI (l + 1))))) := by rw [et]; exact TbEq.rf
  have rk : ∀ t, RK t o (o.1, o.2.1, sa (sa o.2.2 49 (upd (o.2.2 49) (3 * i + l) (nI c))) 48 (upd (o.2.2 48) i (nI (l + 1)))) := fun t => ⟨congrFun (aa 8 (by decide) (by decide)) t, fun i _ => ⟨congrFun (aa 9 (by decide) (by decide)) _, congrFun (aa 10 (by decide) (by decide)) _⟩⟩
  refine ⟨nm, nc, np, ⟨⟨hn1, hn2, hn3⟩, ⟨a1, a2⟩, ⟨b1, b2⟩, ⟨c1, c2⟩, fun m hm => by rw [et]; exact hM m hm, fun i hi => ?_, fun j hj => ?_⟩, hE, ?_, ?_⟩
  · have h := hC i hi
    refine ⟨h.1, h.2.1.trans (congrFun (aa 22 (by decide) (by decide)).symm i), h.2.2.1.trans (congrFun (aa 23 (by decide) (by decide)).symm i), h.2.2.2.trans (congrFun (aa 24 (by decide) (by decide)).symm i)⟩
  · have r49 : (sa (sa o.2.2 49 (upd (o.2.2 49) (3 * i + l) (nI c))) 48 (upd (o.2.2 48) i (nI (l + 1)))) 49 = upd (o.2.2 49) (3 * i + l) (nI c) := by rw [sa_n (by decide), sa_s]
    have r48 : (sa (sa o.2.2 49 (upd (o.2.2 49) (3 * i + l) (nI c))) 48 (upd (o.2.2 48) i (nI (l + 1)))) 48 = upd (o.2.2 48) i (nI (l + 1)) := sa_s
    dsimp only
    rw [r49, r48, aa 46 (by decide) (by decide), aa 47 (by decide) (by decide)]
    obtain ⟨p1, p2, c', hc', q1, q2, q3⟩ := hP j hj
    by_cases q : j = i
    · subst q
      rw [um_s, pk_us]
      have hcl : c' = l := (nI_eq (by omega) (by omega)).mp (q1.symm.trans e1)
      subst hcl
      refine ⟨?_, ?_, c' + 1, by omega, ?_, rfl, fun l2 hl2 => ?_⟩
      · obtain ⟨a, ha, x1, x2⟩ := p1
        exact ⟨a, ha, (show upd (pr j).2.1 3 (nI (c' + 1)) 0 = (pr j).2.1 0 from pk_un (by decide)).trans x1, x2⟩
      · obtain ⟨a, ha, x1, x2⟩ := p2
        exact ⟨a, ha, (show upd (pr j).2.1 3 (nI (c' + 1)) 1 = (pr j).2.1 1 from pk_un (by decide)).trans x1, x2⟩
      · exact (show upd (pr j).2.1 3 (nI (c' + 1)) 3 = _ from pk_us)
      · have rr : (sa (pr j).2.2 2 (upd ((pr j).2.2 2) c' (nI c))) 2 = upd ((pr j).2.2 2) c' (nI c) := sa_s
        dsimp only
        rw [rr]
        by_cases q2 : l2 = c'
        · subst q2
          rw [pk_us, pk_us]; exact ⟨c, hc, rfl, rfl⟩
        · rw [pk_un q2, pk_un (show 3 * j + l2 ≠ 3 * j + c' by omega)]
          exact q3 l2 (by omega)
    · rw [um_n q, pk_un q]
      refine ⟨p1, p2, c', hc', q1, q2, fun l2 hl2 => ?_⟩
      rw [pk_un (show 3 * j + l2 ≠ 3 * i + l by omega)]
      exact q3 l2 hl2
  · exact hS.keep hte hw hn1 (Nat.le_refl _) (rk 0) rfl (fun C h => h) (fun C h => h)
  · exact hR.keep hte hw hn1 (Nat.le_refl _) (rk 1) (rk 2) (fun k hk => rfl) (aa 56 (by decide) (by decide)) rfl rfl (fun C h => h) (fun C h => h)
