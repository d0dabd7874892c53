/-! CALLS OF THE SHOWN CASE: script, sign -/
theorem an_a {kd ft : Int32} {f : Nat → Int32} {d i : Nat} {h : List Int32} {a a2 : Int32} : anA kd ft f (d + 1) i h a = anA kd ft f (d + 1) i h a2 := rfl
def ScG (v1 v2 v3 v4 : Int32) (n : Nat) : Prop := ((¬ v1 < 0 ∧ ¬ 2 < v1) ∧ (¬ v2 < 0 ∧ ¬ 3 < v2) ∧ (¬ v4 < 0 ∧ ¬ 3 < v4)) ∧ ∃ q, q < n / 2 ∧ v3 = nI q
theorem ge_of {x y : Int32} {c : Nat} (hy : y = nI c) (hc : c < 1000) (h : ¬ nI (c + 1) ≤ x) : ¬ y < x := by
  rw [hy]
  intro z
  by_cases h0 : x < 0
  · exact absurd (Int32.lt_trans z h0) (nI_pos (by omega))
  · obtain ⟨j, hj, rfl⟩ := nI_of h0
    rw [nI_leI (by omega) hj] at h
    rw [nI_ltI (by omega) hj] at z
    omega
theorem lt_of_lt1 {x : Int32} {c : Nat} (hc : c < 1000) (h : ¬ nI c < x) : ¬ nI (c + 1) ≤ x := by
  intro z
  by_cases h0 : x < 0
  · exact absurd (Int32.lt_of_le_of_lt z h0) (nI_pos (by omega))
  · obtain ⟨j, hj, rfl⟩ := nI_of h0
    rw [nI_leI (by omega) hj] at z
    rw [nI_ltI (by omega) hj] at h
    omega
theorem sc_bad {P R : Prop} (b : P) : ((0 : Int32) = 0 → P) ∧ (¬ (0 : Int32) = 0 → R) := ⟨fun _ => b, fun z => absurd rfl z⟩
section
variable {lv : Ob} {n : Nat} {f : Nat → Int32}
theorem c_ans_of {kd ft : Int32} {q : Nat} {j mc : Ob} {Post : Int64 → Ob → Ob → Ob → Prop} (L : LvF lv n f) (hq : q < n / 2) (k : ∀ mc2, (((anA kd ft f (q + 1) 0 [] 0).1 = 0 → Post ((anA kd ft f (q + 1) 0 [] 0).2).toInt64 j mc2 lv) ∧ (¬ (anA kd ft f (q + 1) 0 [] 0).1 = 0 → Post (-9223372036854775808) j mc2 lv))) : w_X1_answerOf kd ft (nI q) j mc lv Post := by
  refine c_start (fun mc2 R t => ⟨q + 1 + 2, c_anL L rfl hq (q + 1) 0 [] 0 mc2 (by omega) R t (fun mc3 a2 h1 h2 => ⟨fun z => ?_, fun z => ?_⟩)⟩)
  · rw [h1] at z
    rw [h2 z]; exact (k mc3).1 z
  · rw [h1] at z; exact (k mc3).2 z
theorem c_script {v1 v2 v3 v4 : Int32} {x j mc : Ob} {Post : Int64 → Ob → Ob → Ob → Ob → Prop} (L : LvF lv n f) (h7 : ¬ x.2.1 7 = 0) (kb : ¬ ScG v1 v2 v3 v4 n → Post (-9223372036854775808) x j mc lv) (kg : ∀ q : Nat, q < n / 2 → v3 = nI q → ScG v1 v2 v3 v4 n → ∀ mc2, (v4 = 0 → Post (actF (f (2 * q))).toInt64 x j mc2 lv) ∧ (v4 = 1 → Post (f (2 * q + 1)).toInt64 x j mc2 lv) ∧ (v4 = 2 → ((anA v1 v2 f (q + 1) 0 [] 0).1 = 0 → Post ((anA v1 v2 f (q + 1) 0 [] 0).2).toInt64 x j mc2 lv) ∧ (¬ (anA v1 v2 f (q + 1) 0 [] 0).1 = 0 → Post (-9223372036854775808) x j mc2 lv)) ∧ (v4 = 3 → Post ((anA v1 0 f (q + 1) 0 [] 0).2).toInt64 x j mc2 lv)) : w_X9_script v1 v2 v3 v4 x j mc lv Post := by
  have hn := L.2.1
  refine ⟨fun z => absurd z h7, fun _ => ?_⟩
  by_cases m1 : v1 < 0 ∨ 2 < v1
  · have b := kb (fun G => m1.elim G.1.1.1 G.1.1.2)
    refine ⟨fun _ => sc_bad b, fun c => ⟨fun _ => sc_bad b, fun d => absurd (m1.resolve_left c) (ge_of (c := 2) rfl (by omega) d)⟩⟩
  have m1a : ¬ v1 < 0 := fun z => m1 (Or.inl z)
  have m1b : ¬ 2 < v1 := fun z => m1 (Or.inr z)
  by_cases m2 : v2 < 0 ∨ 3 < v2
  · have b := kb (fun G => m2.elim G.1.2.1.1 G.1.2.1.2)
    refine ⟨fun _ => sc_bad b, fun c => ⟨fun _ => sc_bad b, fun d => ⟨fun _ => sc_bad b, fun c2 => ⟨fun _ => sc_bad b, fun d2 => absurd (m2.resolve_left c2) (ge_of (c := 3) rfl (by omega) d2)⟩⟩⟩⟩
  have m2a : ¬ v2 < 0 := fun z => m2 (Or.inl z)
  have m2b : ¬ 3 < v2 := fun z => m2 (Or.inr z)
  refine ⟨fun z => absurd z m1a, fun _ => ⟨fun z => absurd z (lt_of_lt1 (c := 2) (by omega) m1b), fun _ => ⟨fun z => absurd z m2a, fun _ => ⟨fun z => absurd z (lt_of_lt1 (c := 3) (by omega) m2b), fun _ => ⟨fun z => absurd z (by decide), fun _ => ⟨fun z => ?_, fun z => ?_⟩⟩⟩⟩⟩⟩
  · refine kb (fun G => ?_)
    obtain ⟨q, hq, rfl⟩ := G.2
    exact nI_pos (by omega) z
  refine c_acts L ⟨fun c => ?_, fun c => kb (fun G => ?_)⟩
  · obtain ⟨q, hq, rfl⟩ := nI_of z
    rw [nI_ltI hq (by omega)] at c
    have G : ∀ k : Nat, k < 4 → v4 = nI k → ScG v1 v2 (nI q) v4 n := fun k hk e => by
      subst e
      exact ⟨⟨⟨m1a, m1b⟩, ⟨m2a, m2b⟩, nI_pos (by omega), (show ¬ nI 3 < nI k from nI_nlt (by omega) (by omega))⟩, q, c, rfl⟩
    refine ⟨fun e => ?_, fun e => ?_, fun e => ?_, fun e => ?_, fun e => kb (fun G => ?_)⟩
    · exact c_act L (by omega) ((kg q c rfl (G 0 (by omega) e) mc).1 e)
    · exact c_num L (by omega) ((kg q c rfl (G 1 (by omega) e) mc).2.1 e)
    · exact c_ans_of L c (fun mc2 => (kg q c rfl (G 2 (by omega) e) mc2).2.2.1 e)
    · exact c_ans_of L c (fun mc2 => ⟨fun _ => (kg q c rfl (G 3 (by omega) e) mc2).2.2.2 e, fun w => absurd (an_0 _ _ _ _) w⟩)
    · obtain ⟨k, hk, rfl⟩ := nI_of2 (M := 3) (n := 3) (by decide) G.1.2.2.1 (Int32.not_lt.mp G.1.2.2.2)
      rcases (show k = 0 ∨ k = 1 ∨ k = 2 ∨ k = 3 by omega) with rfl | rfl | rfl | rfl
      · exact e.1 rfl
      · exact e.2.1 rfl
      · exact e.2.2.1 rfl
      · exact e.2.2.2 rfl
  · obtain ⟨q, hq, rfl⟩ := G.2
    rw [nI_ltI (by omega) (by omega)] at c
    exact c hq
end
theorem half_m1 {n : Nat} (hn : n ≤ 24) {x : Int32} (h : ¬ ∃ q, q < n / 2 ∧ x = nI q) : x < 0 ∨ nI n / 2 - 1 < x := by
  rw [show (2 : Int32) = nI 2 from rfl, pk_div (by omega) (by omega) (by omega)]
  exact (in_n (n := n / 2) (by omega)).mpr (fun m hm e => h ⟨m, hm, e⟩)
set_option maxHeartbeats 2000000 in
theorem ok_script : OK_script Iv := by
  intro ck mk pr xs o v1 v2 v3 v4 hI
  obtain ⟨nm, nc, np, hT, hE, hS, hR⟩ := id hI
  have hn := hT.1.1
  have hw : ∀ m, m < nm → MkWF (tbO o) nc m := fun m hm => (hT.2.2.2.2.1 m hm).1
  have fin : ∀ (o2 mc2 : Ob) (S A : List Nat), Fm S A o o2 → (∀ k ∈ [0, 21, 45, 34, 50, 51, 52, 53, 54, 55], k ∉ S) → (∀ k ∈ [1, 2, 3, 4, 5, 6, 7, 8, 9, 10, 22, 23, 24, 46, 47, 48, 49, 56], k ∉ A) → Iv ck mk pr (ux (ux (ux (ux xs 0 (xs 0)) 1 (xs 1)) 2 mc2) 12 (xs 12)) o2 := fun o2 mc2 S A f h1 h2 =>
    Iv_keep hI f h1 h2 rfl rfl rfl rfl (fun C h => h) (fun C h => h) (fun C h => h) (fun C h => h)
  rcases hS with ⟨s1, s2⟩ | ⟨s1, R, s2, s3⟩
  · refine ⟨fun _ => ⟨rfl, rfl, jn_mk ⟨fun _ => ⟨rfl, fin o (xs 2) [] [] Fm.rf (by decide) (by decide)⟩, fun z => absurd (show o.2.2 8 (0 : Int32).toNatClampNeg < 0 by rw [clit0, s1]; decide) z⟩⟩, fun z => absurd s2 z⟩
  · have hr := s2.2.1
    obtain ⟨m, hm, hcf, hB, b1, b2, b3, -, -, -, -⟩ := s2.all hw hn
    have h8 : ¬ o.2.2 8 (0 : Int32).toNatClampNeg < 0 := Int32.not_lt.mpr (row_ge hr)
    have fr : ∀ o2, Fm rkS rkA o o2 → Iv ck mk pr (ux (ux (ux (ux xs 0 (xs 0)) 1 (xs 1)) 2 (xs 2)) 12 (xs 12)) o2 := fun o2 f2 => fin o2 (xs 2) _ _ f2 (by decide) (by decide)
    refine c_script s3.f (by rw [s1]; decide) (fun nG => ⟨rfl, rfl, ?_⟩) (fun q hq e3 G mc2 => ?_)
    · have L0 := fr o Fm.rf
      refine jn_mk ⟨fun z => absurd z h8, fun _ => ?_⟩
      by_cases a1 : v1 < 0 ∨ 2 < v1
      · exact r_in_n a1 ⟨fun _ => ⟨rfl, L0⟩, fun z => absurd rfl z⟩
      refine r_in_y (fun z => a1 (Or.inl z)) (fun z => a1 (Or.inr z)) ⟨fun z => absurd z (by decide), fun _ => ?_⟩
      by_cases a2 : v2 < 0 ∨ 3 < v2
      · exact r_in_n a2 ⟨fun _ => ⟨rfl, L0⟩, fun z => absurd rfl z⟩
      refine r_in_y (fun z => a2 (Or.inl z)) (fun z => a2 (Or.inr z)) ⟨fun z => absurd z (by decide), fun _ => ?_⟩
      by_cases a4 : v4 < 0 ∨ 3 < v4
      · exact r_in_n a4 ⟨fun z => absurd rfl z, fun _ => ⟨rfl, L0⟩⟩
      refine r_in_y (fun z => a4 (Or.inl z)) (fun z => a4 (Or.inr z)) ⟨fun _ => ?_, fun z => absurd z (by decide)⟩
      refine m_shown hw hn s2 (fun o2 f2 d2 => ?_)
      rw [d2.1]
      refine r_in_n (half_m1 b2 (fun h3 => nG ⟨⟨⟨fun z => a1 (Or.inl z), fun z => a1 (Or.inr z)⟩, ⟨fun z => a2 (Or.inl z), fun z => a2 (Or.inr z)⟩, fun z => a4 (Or.inl z), fun z => a4 (Or.inr z)⟩, h3⟩)) ⟨fun z => absurd rfl z, fun _ => ⟨rfl, fr o2 f2⟩⟩
    · have ref : ∀ r : Int64, (∀ o3 : Ob, o3.2.1 28 = (anA v1 v2 (hg (evR (tbO o) R)) (q + 1) 0 [] 0).1 → (o3.2.1 28 = 0 → o3.2.1 31 = (anA v1 v2 (hg (evR (tbO o) R)) (q + 1) 0 [] 0).2) → o3.2.1 32 = (anA v1 0 (hg (evR (tbO o) R)) (q + 1) 0 [] 0).2 → o3.2.1 29 = actF (hg (evR (tbO o) R) (2 * q)) → o3.2.1 30 = hg (evR (tbO o) R) (2 * q + 1) → (v4 = 0 → r = (o3.2.1 29).toInt64) ∧ (v4 = 1 → r = (o3.2.1 30).toInt64) ∧ (v4 = 2 → (o3.2.1 28 = 0 → r = (o3.2.1 31).toInt64) ∧ (¬ o3.2.1 28 = 0 → r = -9223372036854775808)) ∧ (v4 = 3 → r = (o3.2.1 32).toInt64)) → ((xs 1).2.1 1 = (xs 1).2.1 1) ∧ ((xs 0).2.1 4 = (xs 0).2.1 4) ∧ w_X10_script v1 v2 v3 v4 o (fun (r2 : Int64) (o2 : Ob) => r = r2 ∧ Iv ck mk pr (ux (ux (ux (ux xs 0 (xs 0)) 1 (xs 1)) 2 mc2) 12 (xs 12)) o2) := by
        intro r hr3
        refine ⟨rfl, rfl, jn_mk ⟨fun z => absurd z h8, fun _ => ?_⟩⟩
        refine r_in_y G.1.1.1 G.1.1.2 ⟨fun z => absurd z (by decide), fun _ => ?_⟩
        refine r_in_y G.1.2.1.1 G.1.2.1.2 ⟨fun z => absurd z (by decide), fun _ => ?_⟩
        refine r_in_y G.1.2.2.1 G.1.2.2.2 ⟨fun _ => ?_, fun z => absurd z (by decide)⟩
        refine m_shown hw hn s2 (fun o2 f2 d2 => ?_)
        have hd := pk_div (a := (evR (tbO o) R).length) (d := 2) (by omega) (by omega) (by omega)
        rw [d2.1, show (2 : Int32) = nI 2 from rfl, hd, e3]
        refine r_in_y (nI_pos (by omega)) (fun z => (in_n (n := (evR (tbO o) R).length / 2) (by omega)).mp (Or.inr z) q hq rfl) ⟨fun _ => ?_, fun z => absurd z (by decide)⟩
        rw [nI_1]
        refine m_runs (d2.g b2) (by omega) (fun o3 l2 hl2 f3 g1 g2 g3 g4 g5 => ?_)
        obtain ⟨g4a, g4b⟩ := g4 (by omega)
        rw [show q + 1 - 1 = q by omega] at g4a g4b
        obtain ⟨t0, t1, t2, t3⟩ := hr3 o3 (g1.trans (congrArg Prod.fst an_a)) (fun z => (g2 z).trans (congrArg Prod.snd an_a)) (g3.trans (congrArg Prod.snd an_a)) g4a g4b
        have fi := fin o3 mc2 (rkS ++ runS) (rkA ++ [26, 27]) ((f2.mono (fun k hk => List.mem_append_left _ hk) (fun k hk => List.mem_append_left _ hk)).tr (f3.mono (fun k hk => List.mem_append_right _ hk) (fun k hk => List.mem_append_right _ hk))) (by decide) (by decide)
        refine ⟨fun n2 => ⟨fun n0 => ⟨fun n1 => ⟨t3 ?_, fi⟩, fun z => ⟨t1 z, fi⟩⟩, fun z => ⟨t0 z, fi⟩⟩, fun z => ⟨fun y => ⟨(t2 z).1 y, fi⟩, fun y => ⟨(t2 z).2 y, fi⟩⟩⟩
        obtain ⟨k, hk, rfl⟩ := nI_of2 (M := 3) (n := 3) (by decide) G.1.2.2.1 (Int32.not_lt.mp G.1.2.2.2)
        rcases (show k = 0 ∨ k = 1 ∨ k = 2 ∨ k = 3 by omega) with rfl | rfl | rfl | rfl
        · exact absurd rfl n0
        · exact absurd rfl n1
        · exact absurd rfl n2
        · rfl
      refine ⟨fun e => ref _ (fun o3 g1 g2 g3 g4 g5 => ?_), fun e => ref _ (fun o3 g1 g2 g3 g4 g5 => ?_), fun e => ⟨fun y => ref _ (fun o3 g1 g2 g3 g4 g5 => ?_), fun y => ref _ (fun o3 g1 g2 g3 g4 g5 => ?_)⟩, fun e => ref _ (fun o3 g1 g2 g3 g4 g5 => ?_)⟩
      · subst e
        exact ⟨fun _ => by rw [g4], fun z => absurd z (by decide), fun z => absurd z (by decide), fun z => absurd z (by decide)⟩
      · subst e
        exact ⟨fun z => absurd z (by decide), fun _ => by rw [g5], fun z => absurd z (by decide), fun z => absurd z (by decide)⟩
      · subst e
        exact ⟨fun z => absurd z (by decide), fun z => absurd z (by decide), fun _ => ⟨fun z => by rw [g2 z], fun z => absurd (g1.trans y) z⟩, fun z => absurd z (by decide)⟩
      · subst e
        exact ⟨fun z => absurd z (by decide), fun z => absurd z (by decide), fun _ => ⟨fun z => absurd (g1.symm.trans z) y, fun _ => rfl⟩, fun z => absurd z (by decide)⟩
      · subst e
        exact ⟨fun z => absurd z (by decide), fun z => absurd z (by decide), fun z => absurd z (by decide), fun _ => by rw [g3]⟩
