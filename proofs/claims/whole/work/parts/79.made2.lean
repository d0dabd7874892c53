/-! MAKING in the reference: a part is gone into, a node is done with -/
def NxP (tb : Tb) (m : Nat) (v : Int32) (l a : Nat) : Prop := (tb 0 m = 2 → (l = 0 → tb 2 m = nI a) ∧ (¬ l = 0 → tb 1 m = nI a)) ∧ (tb 0 m = 3 → (v = 1 → tb 2 m = nI a) ∧ (¬ v = 1 → tb 1 m = nI a)) ∧ (¬ tb 0 m = 2 → ¬ tb 0 m = 3 → tb 1 m = nI a)
section
variable {ck : Nat → Ob} {tb : Tb} {nm nc : Nat} {w : Int32} {Post : Int32 → Ob → Prop}
theorem mk_fail {n : Nat} {r : Int32} {o : Ob} (hr : ¬ r = 0) (P : Post r o) : w_X10_makes_L25 w Post (n + 1) r o := ⟨fun _ => P, fun _ => ⟨fun _ => P, fun z => absurd z hr⟩⟩
theorem mk_done {n : Nat} {o : Ob} (h35 : o.2.1 35 = nI 0) (P : Post 0 o) : w_X10_makes_L25 w Post (n + 1) 0 o := ⟨fun _ => P, fun z => absurd (show o.2.1 35 ≤ 0 by rw [h35]; decide) z⟩
theorem mk_beg {h n : Nat} {o : Ob} (h35 : o.2.1 35 = nI (h + 1)) (hh : h < 60) (h40 : o.2.2 40 h = 0) (k : w_X10_beginNode (nI h) w o (fun o18 => w_X10_makes_L25 w Post n 0 o18)) : w_X10_makes_L25 w Post (n + 1) 0 o := by
  refine ⟨fun z => absurd z (by rw [h35]; exact nI_nle (by omega) (by omega)), fun _ => ⟨fun z => absurd rfl z, fun _ => ?_⟩⟩
  rw [h35, nI_pred, nI_clamp (by omega)]
  exact ⟨vp_in_nI (by omega) (by omega), jn_mk ⟨fun z => absurd h40 z, fun _ => k⟩⟩
theorem mk_end {h n : Nat} {o : Ob} (h35 : o.2.1 35 = nI (h + 1)) (hh : h < 60) (h40 : o.2.2 40 h = 1) (h38 : o.2.2 38 h ≤ 0) (k : w_X10_endNode (nI h) o (fun r o10 => w_X10_makes_L25 w Post n r o10)) : w_X10_makes_L25 w Post (n + 1) 0 o := by
  refine ⟨fun z => absurd z (by rw [h35]; exact nI_nle (by omega) (by omega)), fun _ => ⟨fun z => absurd rfl z, fun _ => ?_⟩⟩
  rw [h35, nI_pred, nI_clamp (by omega)]
  have vh : vp_in (nI h) 64 := vp_in_nI (by omega) (by omega)
  exact ⟨vh, jn_mk ⟨fun _ => ⟨vh, fun _ => k, fun z => absurd h38 z⟩, fun z => absurd (h40.symm.trans z) (by decide)⟩⟩
theorem mk_kid {h n : Nat} {o : Ob} (h35 : o.2.1 35 = nI (h + 1)) (hh : h < 60) (h40 : o.2.2 40 h = 1) (h38 : ¬ o.2.2 38 h ≤ 0) (k : w_X10_nextPart (nI h) (o.1, o.2.1, sa o.2.2 38 (upd (o.2.2 38) h (o.2.2 38 h - 1))) (fun r13 o14 => w_X10_goInto r13 o14 (fun o16 => w_X10_makes_L25 w Post n 0 o16))) : w_X10_makes_L25 w Post (n + 1) 0 o := by
  refine ⟨fun z => absurd z (by rw [h35]; exact nI_nle (by omega) (by omega)), fun _ => ⟨fun z => absurd rfl z, fun _ => ?_⟩⟩
  rw [h35, nI_pred, nI_clamp (by omega)]
  have vh : vp_in (nI h) 64 := vp_in_nI (by omega) (by omega)
  exact ⟨vh, jn_mk ⟨fun _ => ⟨vh, fun z => absurd z h38, fun _ => ⟨vh, vh, k⟩⟩, fun z => absurd (h40.symm.trans z) (by decide)⟩⟩
theorem m_next {o : Ob} {h m i l a : Nat} {v tr : Int32} {P : Int32 → Ob → Prop} (T : HT tb o) (F : FF o h m i (nI l) tr) (hv : o.2.2 10 (4000 + i) = v) (hh : h < 60) (hm : m < 30) (hi : i < 1000) (hl : l < 1000) (hx : NxP tb m v l a) (k : P (nI a) o) : w_X10_nextPart (nI h) o P := by
  obtain ⟨f1, f2, f3, f4, f5⟩ := F
  have k0 : o.2.2 1 m = tb 0 m := congrFun (T 0 (by omega)) m
  have k1 : o.2.2 2 m = tb 1 m := congrFun (T 1 (by omega)) m
  have k2 : o.2.2 3 m = tb 2 m := congrFun (T 2 (by omega)) m
  have vh : vp_in (nI h) 64 := vp_in_nI (by omega) (by omega)
  have vm : vp_in (nI m) 30 := vp_in_nI (by omega) (by omega)
  unfold w_X10_nextPart
  rw [nI_clamp (show h < 2 ^ 31 by omega), f1, nI_clamp (show m < 2 ^ 31 by omega), f2, f3, idx4, nI_clamp (show 4000 + i < 2 ^ 31 by omega), hv, k0]
  obtain ⟨x2, x3, xo⟩ := hx
  have one : tb 1 m = nI a → ((0 : Int32) = 0 → vp_in (nI m) 30 ∧ P (o.2.2 2 m) o) ∧ (¬ (0 : Int32) = 0 → vp_in (nI m) 30 ∧ P (o.2.2 3 m) o) := fun e => ⟨fun _ => ⟨vm, by rw [k1, e]; exact k⟩, fun z => absurd rfl z⟩
  have two : tb 2 m = nI a → ((1 : Int32) = 0 → vp_in (nI m) 30 ∧ P (o.2.2 2 m) o) ∧ (¬ (1 : Int32) = 0 → vp_in (nI m) 30 ∧ P (o.2.2 3 m) o) := fun e => ⟨fun z => absurd z (by decide), fun _ => ⟨vm, by rw [k2, e]; exact k⟩⟩
  refine ⟨vh, vm, jn_mk ⟨fun n2 => ⟨vm, jn_mk ⟨fun n3 => one (xo n2 n3), fun e3 => ⟨vh, vp_in_nI (by omega) (by omega), fun y => one ((x3 e3).2 y), fun y => two ((x3 e3).1 y)⟩⟩⟩, fun e2 => ⟨vh, fun y => one ((x2 e2).2 (fun z => y (by rw [z]; rfl))), fun y => two ((x2 e2).1 ?_)⟩⟩⟩
  rcases Nat.eq_zero_or_pos l with z | z
  · exact z
  · exact absurd y (nI_ne0 z (by omega))
theorem m_into {o : Ob} {g a : Nat} {Q : Ob → Prop} (h35 : o.2.1 35 = nI g) (hg : g < 64) (k : ∀ o2, o2.1 = o.1 → (∀ f, f ≠ 35 → o2.2.1 f = o.2.1 f) → o2.2.1 35 = nI (g + 1) → (∀ f, f ≠ 36 → f ≠ 39 → f ≠ 40 → o2.2.2 f = o.2.2 f) → (∀ f q, q ≠ g → o2.2.2 f q = o.2.2 f q) → o2.2.2 36 g = nI a → o2.2.2 39 g = 0 → o2.2.2 40 g = 0 → Q o2) : w_X10_goInto (nI a) o Q := by
  have vg : vp_in (nI g) 64 := vp_in_nI (by omega) (by omega)
  unfold w_X10_goInto
  rw [h35, nI_clamp (by omega), nI_1]
  refine ⟨vg, vg, vg, k (o.1, upd o.2.1 35 (nI (g + 1)), sa (sa (sa o.2.2 36 (upd (o.2.2 36) g (nI a))) 39 (upd (o.2.2 39) g 0)) 40 (upd (o.2.2 40) g 0)) rfl (fun f hf => ?_) ?_ (fun f h1 h2 h3 => ?_) (fun f q hq => ?_) ?_ ?_ ?_⟩
  · show upd o.2.1 35 (nI (g + 1)) f = _
    exact pk_un hf
  · show upd o.2.1 35 (nI (g + 1)) 35 = _
    exact pk_us
  · show sa (sa (sa o.2.2 36 (upd (o.2.2 36) g (nI a))) 39 (upd (o.2.2 39) g 0)) 40 (upd (o.2.2 40) g 0) f = _
    rw [sa_ne h3, sa_ne h2, sa_ne h1]
  · show sa (sa (sa o.2.2 36 (upd (o.2.2 36) g (nI a))) 39 (upd (o.2.2 39) g 0)) 40 (upd (o.2.2 40) g 0) f q = _
    by_cases c40 : f = 40
    · subst c40; rw [sa_us, pk_un hq]
    · rw [sa_ne c40]
      by_cases c39 : f = 39
      · subst c39; rw [sa_us, pk_un hq]
      · rw [sa_ne c39]
        by_cases c36 : f = 36
        · subst c36; rw [sa_us, pk_un hq]
        · rw [sa_ne c36]
  · show sa (sa (sa o.2.2 36 (upd (o.2.2 36) g (nI a))) 39 (upd (o.2.2 39) g 0)) 40 (upd (o.2.2 40) g 0) 36 g = _
    rw [sa_ne (by omega), sa_ne (by omega), sa_us, pk_us]
  · show sa (sa (sa o.2.2 36 (upd (o.2.2 36) g (nI a))) 39 (upd (o.2.2 39) g 0)) 40 (upd (o.2.2 40) g 0) 39 g = _
    rw [sa_ne (by omega), sa_us, pk_us]
  · show sa (sa (sa o.2.2 36 (upd (o.2.2 36) g (nI a))) 39 (upd (o.2.2 39) g 0)) 40 (upd (o.2.2 40) g 0) 40 g = _
    rw [sa_us, pk_us]
/-- a part is gone into -/
theorem m_kid1 {o : Ob} {h m i l a p n : Nat} {v tr : Int32} {s : Int64} {e : Nat} (M : MS ck tb nc o (h + 1) p s e) (F : FF o h m i (nI (l + 1)) tr) (hv : o.2.2 10 (4000 + i) = v) (hh : h < 60) (hm : m < 30) (hi : i < 1000) (hl : l < 1000) (hx : NxP tb m v l a)
    (k : ∀ o', KR h p o o' → MS ck tb nc o' (h + 1 + 1) p s e → FF o' h m i (nI l) tr → o'.2.2 36 (h + 1) = nI a → o'.2.2 39 (h + 1) = 0 → o'.2.2 40 (h + 1) = 0 → w_X10_makes_L25 w Post n 0 o') : w_X10_makes_L25 w Post (n + 1) 0 o := by
  obtain ⟨T, C, m3, m4, m5, m8⟩ := M
  obtain ⟨f1, f2, f3, f4, f5⟩ := F
  refine mk_kid m5 hh f5 (by rw [f3]; exact nI_nle (by omega) (by omega)) ?_
  rw [f3, nI_pred]
  have z38 : ∀ f, f ≠ 38 → (o.1, o.2.1, sa o.2.2 38 (upd (o.2.2 38) h (nI l))).2.2 f = o.2.2 f := fun f hf => sa_ne hf
  have u38 : (o.1, o.2.1, sa o.2.2 38 (upd (o.2.2 38) h (nI l))).2.2 38 h = nI l := by
    show sa o.2.2 38 (upd (o.2.2 38) h (nI l)) 38 h = _
    rw [sa_us, pk_us]
  have T1 : HT tb (o.1, o.2.1, sa o.2.2 38 (upd (o.2.2 38) h (nI l))) := fun f hf => (z38 _ (by omega)).trans (T f hf)
  have F1 : FF (o.1, o.2.1, sa o.2.2 38 (upd (o.2.2 38) h (nI l))) h m i (nI l) tr := ⟨by rw [z38 36 (by omega)]; exact f1, by rw [z38 37 (by omega)]; exact f2, u38, by rw [z38 39 (by omega)]; exact f4, by rw [z38 40 (by omega)]; exact f5⟩
  refine m_next T1 F1 (by rw [z38 10 (by omega)]; exact hv) hh hm hi hl hx ?_
  refine m_into m5 (by omega) (fun o2 c1 c2 c3 c4 c5 c6 c7 c8 => ?_)
  have zz : ∀ f, f ≠ 36 → f ≠ 38 → f ≠ 39 → f ≠ 40 → o2.2.2 f = o.2.2 f := fun f h1 h2 h3 h4 => (c4 f h1 h3 h4).trans (z38 f h2)
  have K : KR h p o o2 := by
    refine ⟨⟨fun k hk => ?_, fun k hk => ?_⟩, fun t ht => ⟨?_, fun i hi => ⟨?_, ?_⟩⟩, fun q hq f h1 h2 => ?_, fun i hi => ⟨?_, ?_⟩⟩
    · exact c2 k (fun z => hk (by subst z; decide))
    · exact zz k (fun z => hk (by subst z; decide)) (fun z => hk (by subst z; decide)) (fun z => hk (by subst z; decide)) (fun z => hk (by subst z; decide))
    · rw [zz 8 (by omega) (by omega) (by omega) (by omega)]
    · rw [zz 9 (by omega) (by omega) (by omega) (by omega)]
    · rw [zz 10 (by omega) (by omega) (by omega) (by omega)]
    · rw [c5 f q (by omega)]
      by_cases c38 : f = 38
      · subst c38
        show sa o.2.2 38 (upd (o.2.2 38) h (nI l)) 38 q = _
        rw [sa_us, pk_un (by omega)]
      · rw [z38 f c38]
    · rw [zz 9 (by omega) (by omega) (by omega) (by omega)]
    · rw [zz 10 (by omega) (by omega) (by omega) (by omega)]
  refine k o2 K ⟨K.HT T, K.CT C, by rw [c1]; exact m3, (c2 34 (by omega)).trans m4, c3, by rw [zz 8 (by omega) (by omega) (by omega) (by omega)]; exact m8⟩ ⟨?_, ?_, ?_, ?_, ?_⟩ c6 c7 c8
  · rw [c5 36 h (by omega), z38 36 (by omega)]; exact f1
  · rw [c5 37 h (by omega), z38 37 (by omega)]; exact f2
  · rw [c5 38 h (by omega)]; exact u38
  · rw [c5 39 h (by omega), z38 39 (by omega)]; exact f4
  · rw [c5 40 h (by omega), z38 40 (by omega)]; exact f5
end
/-- what follows a forest that was made behind p -/
def FinR (ck : Nat → Ob) (tb : Tb) (nc : Nat) (w : Int32) (h p n : Nat) (o : Ob) (r : Int32) (L : List Nd) (s2 : Int64) (e2 : Nat) (Post : Int32 → Ob → Prop) : Prop := (r = 1 → ∀ o2, KR h p o o2 → MS ck tb nc o2 h (p + L.length) s2 e2 → NdS o2 4 p L → w_X10_makes_L25 w Post (n + 1) 0 o2) ∧ (¬ r = 1 → ∀ o2, KR h p o o2 → o2.2.1 34 = nI e2 → Post r o2)
def GrR (ck : Nat → Ob) (tb : Tb) (nm nc : Nat) (w : Int32) (m : Nat) (s : Int64) (e : Nat) (r : Int32) (L : List Nd) (s2 : Int64) (e2 : Nat) : Prop := ∃ c : Nat, ∀ (h p n : Nat) (o : Ob) (Post : Int32 → Ob → Prop), h + m < 59 → p + wtN tb m * (m + 2) ≤ 744 → MS ck tb nc o (h + 1) p s e → o.2.2 36 h = nI m → o.2.2 39 h = 0 → o.2.2 40 h = 0 → FinR ck tb nc w h p n o r L s2 e2 Post → w_X10_makes_L25 w Post (n + 1 + c) 0 o
section
variable {ck : Nat → Ob} {tb : Tb} {nm nc : Nat} {w : Int32}
/-- one part of a node is made -/
theorem r_kid {a : Nat} {s s1 : Int64} {e e1 : Nat} {r1 : Int32} {L1 : List Nd} (g : GrR ck tb nm nc w a s e r1 L1 s1 e1) (hr1 : ¬ r1 = 0) : ∃ c : Nat, ∀ (h p n m i l : Nat) (v tr : Int32) (o : Ob) (Post : Int32 → Ob → Prop), h + 1 + a < 59 → m < 30 → i < 1000 → l < 1000 → p + wtN tb a * (a + 2) ≤ 744 → MS ck tb nc o (h + 1) p s e → FF o h m i (nI (l + 1)) tr → o.2.2 10 (4000 + i) = v → NxP tb m v l a →
    (r1 = 1 → ∀ o2, KR h p o o2 → MS ck tb nc o2 (h + 1) (p + L1.length) s1 e1 → FF o2 h m i (nI l) tr → NdS o2 4 p L1 → w_X10_makes_L25 w Post (n + 1) 0 o2) → (¬ r1 = 1 → ∀ o2, KR h p o o2 → o2.2.1 34 = nI e1 → Post r1 o2) → w_X10_makes_L25 w Post (n + 1 + c) 0 o := by
  obtain ⟨c, g⟩ := g
  refine ⟨c + 1, fun h p n m i l v tr o Post hh hm hi hl hp M F hv hx k1 kN => ?_⟩
  rw [← Nat.add_assoc]
  refine m_kid1 M F hv (by omega) hm hi hl hx (fun o' K M' F' e36 e39 e40 => ?_)
  exact g (h + 1) p n o' Post (by omega) hp M' e36 e39 e40 ⟨fun y o2 K2 M2 N2 => k1 y o2 (K.tr K2 (by omega) (Nat.le_refl _)) M2 (K2.FF (by omega) F') N2, fun y o2 K2 e2 => kN y o2 (K.tr K2 (by omega) (Nat.le_refl _)) e2⟩
/-- the end of a node that neither lowers nor asks -/
theorem r_end {h m i p n : Nat} {tr : Int32} {s : Int64} {e : Nat} {o : Ob} {Post : Int32 → Ob → Prop} (M : MS ck tb nc o (h + 1) p s e) (F : FF o h m i (nI 0) tr) (hh : h < 60) (hm : m < 30) (h5 : ¬ tb 0 m = 5) (h7 : ¬ tb 0 m = 7) (k : ∀ o2, KR h p o o2 → MS ck tb nc o2 h p s e → w_X10_makes_L25 w Post (n + 1) 0 o2) : w_X10_makes_L25 w Post (n + 1 + 1) 0 o := by
  obtain ⟨T, C, m3, m4, m5, m8⟩ := M
  obtain ⟨f1, f2, f3, f4, f5⟩ := F
  refine mk_end m5 hh f5 (by rw [f3]; decide) ?_
  have k0 : o.2.2 1 m = tb 0 m := congrFun (T 0 (by omega)) m
  have vh : vp_in (nI h) 64 := vp_in_nI (by omega) (by omega)
  have vm : vp_in (nI m) 30 := vp_in_nI (by omega) (by omega)
  unfold w_X10_endNode
  rw [nI_clamp (show h < 2 ^ 31 by omega), f1, nI_clamp (show m < 2 ^ 31 by omega), k0]
  refine ⟨vh, vh, vm, jn_mk ⟨fun _ => ⟨vm, fun _ => ?_, fun z => absurd (k0.symm.trans z) h5⟩, fun z => absurd z h7⟩⟩
  have F0 : Fr [35] [] o (o.1, upd o.2.1 35 (o.2.1 35 - 1), o.2.2) := ⟨fun k hk => un_of (S := [35]) (by decide) hk, fun _ _ => rfl⟩
  have K : KR h p o (o.1, upd o.2.1 35 (o.2.1 35 - 1), o.2.2) := KR.of F0 (by decide) (by decide) (by decide)
  refine k _ K ⟨T, C, m3, (F0.1 34 (by decide)).trans m4, ?_, m8⟩
  show upd o.2.1 35 (o.2.1 35 - 1) 35 = _
  rw [pk_us, m5, nI_pred]
theorem bd_pos {m : Nat} (w0 : MkWF tb nc m) : 2 ≤ wtN tb m * (m + 2) := by
  have := Nat.mul_le_mul (wt_pos w0).1 (show 2 ≤ m + 2 by omega)
  omega
/-- a node is begun -/
theorem r_open {h m p n : Nat} {s : Int64} {e : Nat} {o : Ob} {Post : Int32 → Ob → Prop} (hw : MkWF tb nc m) (hm : m < 30) (n6 : ¬ tb 0 m = 6) (hh : h < 59) (hp : p + wtN tb m * (m + 2) ≤ 744) (M : MS ck tb nc o (h + 1) p s e) (e36 : o.2.2 36 h = nI m) (e39 : o.2.2 39 h = 0) (e40 : o.2.2 40 h = 0) (k : ∀ o1, KR h p o o1 → MS ck tb nc o1 (h + 1) (p + 1) (bgV tb w m s).2.2 e → FF o1 h m p (bgV tb w m s).2.1 0 → o1.2.2 9 (4000 + p) = nI m → o1.2.2 10 (4000 + p) = (bgV tb w m s).1 → w_X10_makes_L25 w Post n 0 o1) : w_X10_makes_L25 w Post (n + 1) 0 o := by
  have := bd_pos hw
  exact mk_beg M.2.2.2.2.1 (by omega) e40 (m_begin hw M (by omega) (by omega) e36 e39 hm (fun _ => k) (fun z => absurd z n6))
theorem bg_0 {m : Nat} {s : Int64} (q : tb 0 m = 0) : bgV tb w m s = (tb 3 m + outD (nxt s) (tb 4 m - tb 3 m + 1), 0, nxt s) := by unfold bgV; rw [if_pos q]
theorem bg_1 {m : Nat} {s : Int64} (q : tb 0 m = 1) : bgV tb w m s = (outD (nxt s) (1 + (if w ≤ tb 3 m then w else tb 3 m)), outD (nxt s) (1 + (if w ≤ tb 3 m then w else tb 3 m)), nxt s) := by unfold bgV; rw [if_neg (by rw [q]; decide), if_pos q]
theorem bg_2 {m : Nat} {s : Int64} (q : tb 0 m = 2) : bgV tb w m s = (0, 2, s) := by unfold bgV; rw [if_neg (by rw [q]; decide), if_neg (by rw [q]; decide), if_pos q]
theorem bg_3 {m : Nat} {s : Int64} (q : tb 0 m = 3) : bgV tb w m s = (if tb 3 m ≤ outD (nxt s) (tb 3 m + tb 4 m) then 1 else 0, 1, nxt s) := by unfold bgV; rw [if_neg (by rw [q]; decide), if_neg (by rw [q]; decide), if_neg (by rw [q]; decide), if_pos q]
theorem bg_o {m : Nat} {s : Int64} (q : tb 0 m = 4 ∨ tb 0 m = 5 ∨ tb 0 m = 7) : bgV tb w m s = (0, 1, s) := by
  unfold bgV
  rcases q with q | q | q <;> rw [if_neg (by rw [q]; decide), if_neg (by rw [q]; decide), if_neg (by rw [q]; decide), if_neg (by rw [q]; decide), if_neg (by rw [q]; decide)]
end
