/-! RUN: the call -/
theorem c_prop {x1 : Int32} {x : Ob} {np : Nat} {Post : Option Nat → Ob → Prop} (h4 : x.2.1 4 = nI np) (hn : np ≤ 20) (k1 : ∀ q, q < np → x1 = nI q → Post (some q) x) (k0 : (∀ q, q < np → x1 ≠ nI q) → Post none x) : w_X9_propertyAt x1 x Post := by
  refine ⟨fun c => k0 (fun q hq e => nI_pos (by omega) (e ▸ c)), fun c => ?_⟩
  obtain ⟨q, hq, rfl⟩ := nI_of c
  rw [h4]
  refine ⟨fun d => k0 (fun q2 hq2 e => ?_), fun d => ?_⟩
  · rw [nI_leI (by omega) hq] at d
    have := congrArg Int32.toNatClampNeg e
    rw [nI_clamp (by omega), nI_clamp (by omega)] at this; omega
  · rw [nI_leI (by omega) hq] at d
    refine ⟨fun e => absurd e (by rw [show (20 : Int32) = nI 20 from rfl, nI_leI (by omega) hq]; omega), fun _ => ⟨vp_in_nI (by omega) (by omega), ?_⟩⟩
    rw [nI_clamp (by omega), nI_clamp (by omega)]
    exact ⟨fun _ => k1 q (by omega) rfl, fun z => absurd (show q < np by omega) z⟩
set_option maxHeartbeats 4000000 in
theorem ok_run : OK_run Iv := by
  intro ck mk pr xs o v1 v2 v3 v4 hI
  obtain ⟨nm, nc, np, hT, hE, hS, hR⟩ := id hI
  have hn := hT.1.1
  have hnc := hT.1.2.1
  have hnp := hT.1.2.2
  have hw : ∀ m, m < nm → MkWF (tbO o) nc m := fun m hm => (hT.2.2.2.2.1 m hm).1
  have hr : ∀ m, m < nm → MkRel (tbO o) (mk m) m := fun m hm => (hT.2.2.2.2.1 m hm).2
  have hck : ∀ i, i < nc → CkWF (ck i) i := fun i hi => (hT.2.2.2.2.2.1 i hi).1
  have e4 := hT.2.1.2
  have e1 := hT.2.2.1.2
  have e45 := hT.2.2.2.1.1
  have x4 := hT.2.2.2.1.2
  have same : Iv ck mk pr (ux (ux (ux (ux (ux (ux (ux (ux (ux (ux (ux (ux (ux (ux xs 0 (xs 0)) 4 (xs 4)) 5 (xs 5)) 6 (xs 6)) 1 (xs 1)) 2 (xs 2)) 3 (xs 3)) 15 (xs 15)) 13 (xs 13)) 14 (xs 14)) 7 (xs 7)) 8 (xs 8)) 9 (xs 9)) 10 (xs 10)) o :=
    Iv_keep hI (S := []) (A := []) Fm.rf (by decide) (by decide) rfl rfl rfl rfl (fun C h => h) (fun C h => h) (fun C h => h) (fun C h => h)
  have inp := in_N (x := v1) (n := np) (by omega)
  refine c_prop x4 hnp (fun q hq eq => ⟨rfl, fun z => (nomatch z), fun i4 ei => ?_⟩) (fun hno => ⟨rfl, fun _ => ?_, fun i z => (nomatch z)⟩)
  · cases ei
    have in1 : ∀ P : Int32 → Prop, P 1 → w_X10_in v1 0 (o.2.1 45 - 1) P := by
      intro P hP
      rw [e45]
      refine r_in (fun z => absurd eq (inp.mp z q hq)) (fun _ _ => hP)
    refine ⟨fun c3 => ?_, fun c3 => ⟨fun d3 => ?_, fun d3 => ?_⟩⟩
    · exact in1 _ ⟨fun _ => r_in_n (Or.inl c3) ⟨fun _ => ⟨rfl, same⟩, fun z => absurd rfl z⟩, fun z => absurd z (by decide)⟩
    · exact in1 _ ⟨fun _ => r_in_n (Or.inr d3) ⟨fun _ => ⟨rfl, same⟩, fun z => absurd rfl z⟩, fun z => absurd z (by decide)⟩
    · refine k_size (fun hs => ⟨fun z => absurd rfl z, fun _ => ?_⟩) (fun wn hwn ew => ⟨fun _ => ?_, fun z => absurd z (by decide)⟩)
      · exact in1 _ ⟨fun _ => r_in_y c3 d3 ⟨fun z => absurd z (by decide), fun _ => r_size (fun _ => ⟨fun z => absurd rfl z, fun _ => ⟨rfl, same⟩⟩) (fun n hn' e => absurd e (hs n hn'))⟩, fun z => absurd z (by decide)⟩
      · obtain ⟨cnt, hcnt, ec⟩ : ∃ cnt : Nat, cnt ≤ 50 ∧ v3 = nI cnt := by
          have h0 : ¬ v3 < 0 := fun z => c3 (Int32.lt_of_lt_of_le z (by decide))
          obtain ⟨j, hj, rfl⟩ := nI_of h0
          rw [show (50 : Int32) = nI 50 from rfl, nI_ltI (by omega) hj] at d3
          exact ⟨j, by omega, rfl⟩
        obtain ⟨⟨m, hm, pm, om⟩, ⟨b, hb, pb, ob⟩, nl, hnl, p3, o48, hlb⟩ := hT.2.2.2.2.2.2 q hq
        have plb : ∀ l, l < nl → ((pr q).2.2 2 l).toNatClampNeg < nc ∧ (pr q).2.2 2 l = nI ((pr q).2.2 2 l).toNatClampNeg := by
          intro l hl
          obtain ⟨b', hb', g1, -⟩ := hlb l hl
          have e : ((pr q).2.2 2 l).toNatClampNeg = b' := by rw [g1]; exact nI_clamp (by omega)
          rw [e]; exact ⟨hb', g1⟩
        have olb : ∀ l, l < nl → o.2.2 49 (3 * q + l) = nI ((pr q).2.2 2 l).toNatClampNeg := by
          intro l hl
          obtain ⟨b', hb', g1, g2⟩ := hlb l hl
          have e : ((pr q).2.2 2 l).toNatClampNeg = b' := by rw [g1]; exact nI_clamp (by omega)
          rw [e]; exact g2
        obtain ⟨ef, hef, q1, q2, q5⟩ := id hE
        obtain ⟨st, e', A', R1, R2, g1, g2, g3, ⟨N1, g4⟩, ⟨N2, g5⟩⟩ := run_all (lb := fun l => ((pr q).2.2 2 l).toNatClampNeg) hw hr hn hck hnc (by omega) hm hb hnl pm pb p3 plb hwn ew v2 hcnt cnt 0 ef A0 (by omega) hef
        subst ec
        subst eq
        refine c_report (fun x2 hx2 hA0 => ⟨by rw [hx2]; exact (show upd (xs 0).2.1 9 1 4 = _ from pk_un (by decide)), N1, ?_⟩)
        have hx24 : x2.2.1 4 = nI np := by rw [hx2]; exact (show upd (xs 0).2.1 9 1 4 = _ from pk_un (by decide)).trans x4
        refine g4 _ _ x2 _ _ _ _ _ _ _ _ _ _ _ _ _ e4 q5 ⟨e1, q2⟩ hA0 (by rw [hx24, nI_clamp (by omega)]; exact hq) (fun x3 k2 kt2 kl2 j2 mc2 md2 tr2 ff2 fl2 sk2 sl2 sb2 sn2 c1 c2 c3' c4 c5 c6 => ?_)
        have fin : ∀ o2 : Ob, raF o o2 ∨ (Fr ([50, 51, 52, 53, 54, 55] ++ raS) ([56] ++ raA) o o2 ∧ RK 0 o o2) → o2.2.1 34 = nI e' → OA o2 A' → o2.2.1 50 = nI st → ((st = 1 ∧ o2.2.1 52 = 1 ∧ RowM o2 1 R1 ∧ RowM o2 2 R2) ∨ (st ≠ 1 ∧ o2.2.1 52 = 0)) → Iv ck mk pr (ux (ux (ux (ux (ux (ux (ux (ux (ux (ux (ux (ux (ux (ux xs 0 (x3.1, x3.2.1, (sa x3.2.2 8 (upd (x3.2.2 8) 0 (nI st))))) 4 k2) 5 kt2) 6 kl2) 1 j2) 2 mc2) 3 md2) 15 tr2) 13 ff2) 14 fl2) 7 sk2) 8 sl2) 9 sb2) 10 sn2) o2 := by
          intro o2 hF h34 hA h50 h52
          have F : Fr ([50, 51, 52, 53, 54, 55] ++ raS) ([56] ++ raA) o o2 ∧ RK 0 o o2 := by
            rcases hF with z | z
            · exact ⟨z.1.mono (fun k hk => List.mem_append_right _ hk) (fun k hk => List.mem_append_right _ hk), z.2⟩
            · exact z
          have et : tbO o2 = tbO o := tbO_keep (fun k hk => F.1.2 k (by
            simp only [List.mem_cons, List.not_mem_nil, or_false] at hk
            rcases hk with rfl | rfl | rfl | rfl | rfl | rfl | rfl <;> decide))
          have hte : TbEq nm (tbO o) (tbO o2) := by rw [et]; exact TbEq.rf
          have xi : ∀ k, k ≠ 9 → x3.2.1 k = (xs 0).2.1 k := fun k hk => by rw [c1.1, hx2, pk_un hk]
          have x9 : x3.2.1 9 = 1 := by rw [c1.1, hx2, pk_us]
          have f8 : ∀ i, 1 ≤ i → i < 8 → sa x3.2.2 8 (upd (x3.2.2 8) 0 (nI st)) 8 i = A' i := fun i a b => by rw [sa_us, pk_un (by omega)]; exact c5 i a b
          refine ⟨nm, nc, np, hT.keep (fun k hk => F.1.1 k ?_) (fun k hk => F.1.2 k ?_) (xi 4 (by decide)) (c4.1.trans e1.symm) (c2.trans e4.symm), ⟨e', by omega, h34, c4.2, c3'⟩, hS.keep hte hw hn (Nat.le_refl _) F.2 (xi 7 (by decide)) (fun C h => h) (fun C h => h), Or.inr ⟨x9, ⟨st, g2, h50, ?_⟩, ?_, ?_, ?_, ?_, ?_, ?_⟩⟩
          · simp only [List.mem_cons, List.not_mem_nil, or_false] at hk
            rcases hk with rfl | rfl | rfl <;> decide
          · simp only [List.mem_cons, List.not_mem_nil, or_false] at hk
            rcases hk with rfl | rfl | rfl | rfl | rfl | rfl | rfl | rfl | rfl | rfl | rfl | rfl | rfl | rfl <;> decide
          · show sa x3.2.2 8 (upd (x3.2.2 8) 0 (nI st)) 8 0 = nI st
            rw [sa_us, pk_us]
          · exact hA.1.trans (f8 1 (by omega) (by omega)).symm
          · exact hA.2.1.trans (f8 2 (by omega) (by omega)).symm
          · exact hA.2.2.1.trans (f8 3 (by omega) (by omega)).symm
          · exact hA.2.2.2.1.trans (f8 4 (by omega) (by omega)).symm
          · intro l hl
            exact (hA.2.2.2.2 l hl).trans (f8 (5 + l) (by omega) (by omega)).symm
          · rcases h52 with ⟨h1, h2, h3, h4⟩ | ⟨h1, h2⟩
            · obtain ⟨t1, t2⟩ := c6 h1
              obtain ⟨w1, w2⟩ := g3 h1
              refine Or.inr ⟨h2, by rw [h50, h1]; rfl, ⟨R1, ⟨m, hm, by rw [et]; exact w1⟩, h3, by rw [et]; exact t1⟩, ⟨R2, ⟨m, hm, by rw [et]; exact w2⟩, h4, by rw [et]; exact t2⟩⟩
            · refine Or.inl ⟨h2, fun z => h1 ?_⟩
              have := congrArg Int32.toNatClampNeg (h50.symm.trans z)
              rw [nI_clamp (by omega)] at this
              exact this
        refine in1 _ ⟨fun _ => r_in_y c3 d3 ⟨fun z => absurd z (by decide), fun _ => r_size (fun hs => absurd ew (hs wn hwn)) (fun n hn' e => ⟨fun _ => ⟨vp_in_nI (by omega) (by omega), 4, ?_⟩, fun z => absurd z (by decide)⟩)⟩, fun z => absurd z (by decide)⟩
        rw [nI_clamp (by omega), ob]
        have key : ∀ X : Ob, X = (o.1, (upd (upd (upd (upd (upd (upd o.2.1 51 ((0 : Int32))) 52 ((0 : Int32))) 53 (((-9) : Int32))) 54 ((0 : Int32))) 55 ((0 : Int32))) 50 ((0 : Int32))), o.2.2) → w_X10_run_L83 (nI q) v2 (nI cnt) v4 (nI b) (fun (o_k103 : Ob) => ∃ n106, w_X10_run_L106 (nI q) v2 (nI cnt) v4 (nI b) (fun (k8_148 : Int32) (o_k148 : Ob) => jn (fun J161 : Int32 → Ob → Prop => ((¬ k8_148 = ((-5))) → J161 3 o_k148) ∧ ((k8_148 = ((-5))) → J161 2 o_k148)) (fun (z_161 : Int32) (o_161 : Ob) => (fun (r2 : Int32) (o2 : Ob) => nI st = r2 ∧ Iv ck mk pr (ux (ux (ux (ux (ux (ux (ux (ux (ux (ux (ux (ux (ux (ux xs 0 (x3.1, x3.2.1, (sa x3.2.2 8 (upd (x3.2.2 8) 0 (nI st))))) 4 k2) 5 kt2) 6 kl2) 1 j2) 2 mc2) 3 md2) 15 tr2) 13 ff2) 14 fl2) 7 sk2) 8 sl2) 9 sb2) 10 sn2) o2) z_161 ((o_161.1, (upd o_161.2.1 50 z_161), o_161.2.2)))) (fun (o_k252 : Ob) => (fun (r2 : Int32) (o2 : Ob) => nI st = r2 ∧ Iv ck mk pr (ux (ux (ux (ux (ux (ux (ux (ux (ux (ux (ux (ux (ux (ux xs 0 (x3.1, x3.2.1, (sa x3.2.2 8 (upd (x3.2.2 8) 0 (nI st))))) 4 k2) 5 kt2) 6 kl2) 1 j2) 2 mc2) 3 md2) 15 tr2) 13 ff2) 14 fl2) 7 sk2) 8 sl2) 9 sb2) 10 sn2) o2) 3 ((o_k252.1, (upd o_k252.2.1 50 ((3 : Int32))), o_k252.2.2))) (fun (r2 : Int32) (o2 : Ob) => nI st = r2 ∧ Iv ck mk pr (ux (ux (ux (ux (ux (ux (ux (ux (ux (ux (ux (ux (ux (ux xs 0 (x3.1, x3.2.1, (sa x3.2.2 8 (upd (x3.2.2 8) 0 (nI st))))) 4 k2) 5 kt2) 6 kl2) 1 j2) 2 mc2) 3 md2) 15 tr2) 13 ff2) 14 fl2) 7 sk2) 8 sl2) 9 sb2) 10 sn2) o2) n106 0 o_k103) (fun (r2 : Int32) (o2 : Ob) => nI st = r2 ∧ Iv ck mk pr (ux (ux (ux (ux (ux (ux (ux (ux (ux (ux (ux (ux (ux (ux xs 0 (x3.1, x3.2.1, (sa x3.2.2 8 (upd (x3.2.2 8) 0 (nI st))))) 4 k2) 5 kt2) 6 kl2) 1 j2) 2 mc2) 3 md2) 15 tr2) 13 ff2) 14 fl2) 7 sk2) 8 sl2) 9 sb2) 10 sn2) o2) 4 0 X := by
          intro X hX
          have y1 : X.2.1 = (upd (upd (upd (upd (upd (upd o.2.1 51 ((0 : Int32))) 52 ((0 : Int32))) 53 (((-9) : Int32))) 54 ((0 : Int32))) 55 ((0 : Int32))) 50 ((0 : Int32))) := by rw [hX]
          have y2 : X.2.2 = o.2.2 := by rw [hX]
          have FX : Fr [50, 51, 52, 53, 54, 55] [] o X := ⟨fun k hk => by
            rw [y1, pk_un (fun z => hk (by subst z; decide)), pk_un (fun z => hk (by subst z; decide)), pk_un (fun z => hk (by subst z; decide)), pk_un (fun z => hk (by subst z; decide)), pk_un (fun z => hk (by subst z; decide)), pk_un (fun z => hk (by subst z; decide))], fun k _ => by rw [y2]⟩
          refine m_startL (o0 := X) (fun o3 F3 h56 => ⟨N2, ?_⟩) 3 0 X (by omega) Fr.rf (fun i hi => absurd hi (Nat.not_lt_zero _))
          have F13 : Fr [50, 51, 52, 53, 54, 55] [56] o o3 := (FX.mono (fun k hk => hk) (by decide)).tr (F3.mono (by decide) (fun k hk => hk))
          have i3 : ∀ k, o3.2.1 k = X.2.1 k := fun k => F3.1 k List.not_mem_nil
          refine g5 (fun (r2 : Int32) (o2 : Ob) => nI st = r2 ∧ Iv ck mk pr (ux (ux (ux (ux (ux (ux (ux (ux (ux (ux (ux (ux (ux (ux xs 0 (x3.1, x3.2.1, (sa x3.2.2 8 (upd (x3.2.2 8) 0 (nI st))))) 4 k2) 5 kt2) 6 kl2) 1 j2) 2 mc2) 3 md2) 15 tr2) 13 ff2) 14 fl2) 7 sk2) 8 sl2) 9 sb2) 10 sn2) o2) o3 (F13.ht HT_o (by decide)) (F13.ct hT.CT (by decide) (by decide) (by decide)) ((show PrO o q m b nl (fun l => ((pr q).2.2 2 l).toNatClampNeg) from ⟨om, ob, o48, olb⟩).keep F13 (by decide) (by decide) (by decide) (by decide)) ((F13.1 34 (by decide)).trans q1) ⟨?_, ?_, ?_, ?_, fun i hi => ?_⟩ ?_ ?_ (fun o2 d1 d2 d3' d4 d5 => ⟨rfl, fin o2 (Or.inr ⟨(F13.mono (fun k hk => List.mem_append_left _ hk) (fun k hk => List.mem_append_left _ hk)).tr (d1.1.mono (fun k hk => List.mem_append_right _ hk) (fun k hk => List.mem_append_right _ hk)), (RK.of_fr F13 (by decide) (by decide) (by decide)).tr d1.2⟩) d2 d3' d4 d5⟩)
          · rw [i3, y1, pk_un (by decide), pk_un (by decide), pk_un (by decide), pk_un (by decide), pk_un (by decide), pk_us]; rfl
          · rw [i3, y1, pk_un (by decide), pk_un (by decide), pk_un (by decide), pk_us]; rfl
          · rw [i3, y1, pk_un (by decide), pk_un (by decide), pk_us]; rfl
          · rw [i3, y1, pk_un (by decide), pk_us]; rfl
          · rw [h56 i hi]; unfold A0; rw [if_neg (by omega)]
          · rw [i3, y1, pk_us]
          · rw [i3, y1, pk_un (by decide), pk_un (by decide), pk_un (by decide), pk_un (by decide), pk_us]
        exact key _ rfl
  · exact r_in_n (by rw [e45]; exact inp.mpr hno) ⟨fun z => absurd rfl z, fun _ => ⟨rfl, same⟩⟩
