/-! MAKERS -/
theorem r_noMaker_y {x : Int32} {nm m : Nat} {o : Ob} {Post : Int32 → Ob → Prop} (hc : o.2.1 0 = nI nm) (hn : nm ≤ 30) (hm : m < nm) (e : x = nI m) (h : Post 0 o) : w_X10_noMaker x o Post := r_noMaker hc hn (fun _ _ _ => h) (fun z => absurd e (z m hm))
theorem r_noMaker_n {x : Int32} {nm : Nat} {o : Ob} {Post : Int32 → Ob → Prop} (hc : o.2.1 0 = nI nm) (hn : nm ≤ 30) (hx : ∀ m, m < nm → x ≠ nI m) (h : Post 1 o) : w_X10_noMaker x o Post := r_noMaker hc hn (fun m hm e => absurd e (hx m hm)) (fun _ => h)
theorem r_noCheck_y {x : Int32} {nm m : Nat} {o : Ob} {Post : Int32 → Ob → Prop} (hc : o.2.1 21 = nI nm) (hn : nm ≤ 40) (hm : m < nm) (e : x = nI m) (h : Post 0 o) : w_X10_noCheck x o Post := r_noCheck hc hn (fun _ _ _ => h) (fun z => absurd e (z m hm))
theorem r_noCheck_n {x : Int32} {nm : Nat} {o : Ob} {Post : Int32 → Ob → Prop} (hc : o.2.1 21 = nI nm) (hn : nm ≤ 40) (hx : ∀ m, m < nm → x ≠ nI m) (h : Post 1 o) : w_X10_noCheck x o Post := r_noCheck hc hn (fun m hm e => absurd e (hx m hm)) (fun _ => h)
theorem k_at_y {x : Int32} {nm m : Nat} {k : Ob} {Post : Option Nat → Ob → Prop} (hc : k.2.1 1 = nI nm) (hn : nm ≤ 30) (hm : m < nm) (e : x = nI m) (h : Post (some m) k) : w_X5_at x k Post := k_at hc hn (fun m2 hm2 e2 => by
  have : m2 = m := (nI_eq (by omega) (by omega)).mp (e2.symm.trans e)
  subst this; exact h) (fun z => absurd e (z m hm))
theorem k_at_n {x : Int32} {nm : Nat} {k : Ob} {Post : Option Nat → Ob → Prop} (hc : k.2.1 1 = nI nm) (hn : nm ≤ 30) (hx : ∀ m, m < nm → x ≠ nI m) (h : Post none k) : w_X5_at x k Post := k_at hc hn (fun m hm e => absurd e (hx m hm)) (fun _ => h)
theorem k_knows_y {x : Int32} {nm m : Nat} {j : Ob} {Post : Int32 → Ob → Prop} (hc : j.2.1 1 = nI nm) (hn : nm ≤ 40) (hm : m < nm) (e : x = nI m) (h : Post 1 j) : w_X1_knows x j Post := k_knows hc hn (fun _ _ _ => h) (fun z => absurd e (z m hm))
theorem k_knows_n {x : Int32} {nm : Nat} {j : Ob} {Post : Int32 → Ob → Prop} (hc : j.2.1 1 = nI nm) (hn : nm ≤ 40) (hx : ∀ m, m < nm → x ≠ nI m) (h : Post 0 j) : w_X1_knows x j Post := k_knows hc hn (fun m hm e => absurd e (hx m hm)) (fun _ => h)
theorem r_in_y {x l h : Int32} {Post : Int32 → Prop} (h0 : ¬ x < l) (h1 : ¬ h < x) (k : Post 1) : w_X10_in x l h Post := r_in (fun z => z.elim (fun a => absurd a h0) (fun a => absurd a h1)) (fun _ _ => k)
theorem r_in_n {x l h : Int32} {Post : Int32 → Prop} (h0 : x < l ∨ h < x) (k : Post 0) : w_X10_in x l h Post := r_in (fun _ => k) (fun a b => (h0.elim (fun z => absurd z a) (fun z => absurd z b)))
def addO (o : Ob) (nm : Nat) (x1 x2 x3 x4 x5 x6 x7 : Int32) : Ob := (o.1, upd o.2.1 0 (nI (nm + 1)), sa (sa (sa (sa (sa (sa (sa o.2.2 1 (upd (o.2.2 1) nm x1)) 2 (upd (o.2.2 2) nm x2)) 3 (upd (o.2.2 3) nm x3)) 4 (upd (o.2.2 4) nm x4)) 5 (upd (o.2.2 5) nm x5)) 6 (upd (o.2.2 6) nm x6)) 7 (upd (o.2.2 7) nm x7))
theorem r_added {x1 x2 x3 x4 x5 x6 x7 : Int32} {nm : Nat} {o : Ob} {Post : Int32 → Ob → Prop} (hc : o.2.1 0 = nI nm) (hn : nm ≤ 30) (h7 : x7 = 0 ∨ x7 = 1) (hF : nm = 30 ∨ ¬ x6 ≤ 24 → Post (-4) o) (hS : nm < 30 → x6 ≤ 24 → Post (nI nm) (addO o nm x1 x2 x3 x4 x5 x6 x7)) : w_X10_added x1 x2 x3 x4 x5 x6 x7 o Post := by
  unfold w_X10_added
  rw [hc]
  refine ⟨fun h => hF (Or.inl ?_), fun h => ⟨fun h6 => ?_, fun h6 => hF (Or.inr h6)⟩⟩
  · rw [show (30 : Int32) = nI 30 from rfl, nI_eq (by omega) (by omega)] at h; exact h
  · have hlt : nm < 30 := by
      rcases Nat.lt_or_ge nm 30 with q | q
      · exact q
      · exact absurd (by rw [show nm = 30 by omega]; rfl) h
    have hv : vp_in (nI nm) 30 := vp_in_nI hlt (by omega)
    refine ⟨hv, hv, hv, hv, hv, hv, hv, h7, ?_⟩
    have hk := hS hlt h6
    unfold addO at hk
    rw [nI_clamp (by omega), nI_1, show nI (nm + 1) - 1 = nI nm from by rw [← nI_1, Int32.add_sub_cancel]]
    exact hk
theorem k_add {mk : Nat → Ob} {k nw : Ob} {nm : Nat} {Post : Int32 → (Nat → Ob) → Ob → Prop} (hc : k.2.1 1 = nI nm) (hn : nm ≤ 30) (hF : nm = 30 ∨ ¬ nw.2.1 5 ≤ 24 → Post (-4) mk k) (hS : nm < 30 → nw.2.1 5 ≤ 24 → Post (nI nm) (um mk nm nw) (k.1, upd k.2.1 1 (nI (nm + 1)), k.2.2)) : w_X5_add mk k nw Post := by
  unfold w_X5_add
  rw [hc]
  refine ⟨fun h => absurd h (nI_pos (by omega)), fun _ => ⟨fun h => hF (Or.inl ?_), fun h => ⟨fun h6 => ?_, fun h6 => hF (Or.inr h6)⟩⟩⟩
  · rw [show (30 : Int32) = nI 30 from rfl, nI_leI (by omega) (by omega)] at h; omega
  · rw [show (30 : Int32) = nI 30 from rfl, nI_leI (by omega) (by omega)] at h
    have hlt : nm < 30 := by omega
    have hk := hS hlt h6
    refine ⟨vp_in_nI hlt (by omega), ?_⟩
    rw [nI_1, nI_clamp (by omega), nI_clamp (by omega), show nI (nm + 1) - 1 = nI nm from by rw [← nI_1, Int32.add_sub_cancel]]
    exact ⟨rfl, hk⟩
theorem sa_s {A : Nat → Nat → Int32} {k : Nat} {f : Nat → Int32} : sa A k f k = f := if_pos rfl
theorem sa_n {A : Nat → Nat → Int32} {k j : Nat} {f : Nat → Int32} (h : j ≠ k) : sa A k f j = A j := if_neg h
theorem addO_tb {o : Ob} {nm : Nat} {x1 x2 x3 x4 x5 x6 x7 : Int32} : (tbO (addO o nm x1 x2 x3 x4 x5 x6 x7) 0 nm = x1 ∧ tbO (addO o nm x1 x2 x3 x4 x5 x6 x7) 1 nm = x2 ∧ tbO (addO o nm x1 x2 x3 x4 x5 x6 x7) 2 nm = x3 ∧ tbO (addO o nm x1 x2 x3 x4 x5 x6 x7) 3 nm = x4 ∧ tbO (addO o nm x1 x2 x3 x4 x5 x6 x7) 4 nm = x5 ∧ tbO (addO o nm x1 x2 x3 x4 x5 x6 x7) 5 nm = x6 ∧ tbO (addO o nm x1 x2 x3 x4 x5 x6 x7) 6 nm = x7) ∧ TbEq nm (tbO o) (tbO (addO o nm x1 x2 x3 x4 x5 x6 x7)) := by
  refine ⟨⟨pk_us, pk_us, pk_us, pk_us, pk_us, pk_us, pk_us⟩, fun f a ha => ?_⟩
  have hne : a ≠ nm := by omega
  rcases Nat.lt_or_ge f 7 with hf | hf
  · rcases (show f = 0 ∨ f = 1 ∨ f = 2 ∨ f = 3 ∨ f = 4 ∨ f = 5 ∨ f = 6 by omega) with rfl | rfl | rfl | rfl | rfl | rfl | rfl <;> exact pk_un hne
  · unfold tbO; rw [if_neg (by omega), if_neg (by omega)]
theorem addO_a {o : Ob} {nm : Nat} {x1 x2 x3 x4 x5 x6 x7 : Int32} {k : Nat} (hk : k = 0 ∨ 7 < k) : (addO o nm x1 x2 x3 x4 x5 x6 x7).2.2 k = o.2.2 k := by
  show sa _ _ _ k = _
  rw [sa_n (by omega), sa_n (by omega), sa_n (by omega), sa_n (by omega), sa_n (by omega), sa_n (by omega), sa_n (by omega)]
theorem addO_i {o : Ob} {nm : Nat} {x1 x2 x3 x4 x5 x6 x7 : Int32} {k : Nat} (hk : k ≠ 0) : (addO o nm x1 x2 x3 x4 x5 x6 x7).2.1 k = o.2.1 k := pk_un hk
theorem um_s {f : Nat → Ob} {n : Nat} {o : Ob} : um f n o n = o := if_pos rfl
theorem um_n {f : Nat → Ob} {n j : Nat} {o : Ob} (h : j ≠ n) : um f n o j = f j := if_neg h
/-- a maker more -/
theorem Iv_addM {ck mk pr xs : Nat → Ob} {o nw k2 : Ob} {nm nc np : Nat} {x1 x2 x3 x4 x5 x6 x7 : Int32} (hT : IvT nm nc np ck mk pr xs o) (hE : IvE xs o) (hS : IvS nm xs o) (hR : IvR nm xs o) (hn : nm < 30) (hk2 : k2.2.1 1 = nI (nm + 1))
    (hnew : ∀ tb : Tb, TbEq nm (tbO o) tb → tb 0 nm = x1 → tb 1 nm = x2 → tb 2 nm = x3 → tb 3 nm = x4 → tb 4 nm = x5 → tb 5 nm = x6 → tb 6 nm = x7 → MkWF tb nc nm ∧ MkRel tb nw nm) : Iv ck (um mk nm nw) pr (ux (ux xs 0 (xs 0)) 4 k2) (addO o nm x1 x2 x3 x4 x5 x6 x7) := by
  rw [ux_self]
  obtain ⟨⟨hn1, hn2, hn3⟩, ⟨a1, a2⟩, ⟨b1, b2⟩, ⟨c1, c2⟩, hM, hC, hP⟩ := hT
  obtain ⟨⟨t1, t2, t3, t4, t5, t6, t7⟩, ht⟩ := addO_tb (o := o) (nm := nm) (x1 := x1) (x2 := x2) (x3 := x3) (x4 := x4) (x5 := x5) (x6 := x6) (x7 := x7)
  have hw : ∀ m, m < nm → MkWF (tbO o) nc m := fun m hm => (hM m hm).1
  have X0 : ux xs 4 k2 0 = xs 0 := ux_n (by decide)
  have X1 : ux xs 4 k2 1 = xs 1 := ux_n (by decide)
  have X11 : ux xs 4 k2 11 = xs 11 := ux_n (by decide)
  have X12 : ux xs 4 k2 12 = xs 12 := ux_n (by decide)
  have X13 : ux xs 4 k2 13 = xs 13 := ux_n (by decide)
  have X14 : ux xs 4 k2 14 = xs 14 := ux_n (by decide)
  have ai := fun k hk => addO_i (o := o) (nm := nm) (x1 := x1) (x2 := x2) (x3 := x3) (x4 := x4) (x5 := x5) (x6 := x6) (x7 := x7) (k := k) hk
  have aa := fun k hk => addO_a (o := o) (nm := nm) (x1 := x1) (x2 := x2) (x3 := x3) (x4 := x4) (x5 := x5) (x6 := x6) (x7 := x7) (k := k) hk
  refine ⟨nm + 1, nc, np, ⟨⟨by omega, hn2, hn3⟩, ⟨(show upd o.2.1 0 (nI (nm + 1)) 0 = _ from pk_us), ?_⟩, ⟨(ai 21 (by decide)).trans b1, by rw [X1]; exact b2⟩, ⟨(ai 45 (by decide)).trans c1, by rw [X0]; exact c2⟩, fun m hm => ?_, fun i hi => ?_, fun i hi => ?_⟩, ?_, ?_, ?_⟩
  · rw [show ux xs 4 k2 4 = k2 from ux_0]; exact hk2
  · rcases Nat.lt_or_ge m nm with q | q
    · have h := hM m q
      rw [um_n (by omega)]
      exact ⟨h.1.congr ht q (Nat.le_refl _), h.2.congr ht q⟩
    · rw [show m = nm by omega, um_s]
      exact hnew _ ht t1 t2 t3 t4 t5 t6 t7
  · rw [aa 22 (by omega), aa 23 (by omega), aa 24 (by omega)]; exact hC i hi
  · obtain ⟨⟨a, ha, e1, e2⟩, h2⟩ := hP i hi
    rw [aa 46 (by omega), aa 47 (by omega), aa 48 (by omega), aa 49 (by omega)]
    exact ⟨⟨a, by omega, e1, e2⟩, h2⟩
  · obtain ⟨e, he, e1, e2, e5⟩ := hE
    exact ⟨e, he, (ai 34 (by decide)).trans e1, by rw [X1]; exact e2, e5⟩
  · exact hS.keep ht hw (by omega) (by omega) ⟨by rw [aa 8 (by omega)], fun i _ => ⟨by rw [aa 9 (by omega)], by rw [aa 10 (by omega)]⟩⟩ (by rw [X0]) (fun C h => by rw [X11]; exact h) (fun C h => by rw [X12]; exact h)
  · exact hR.keep ht hw (by omega) (by omega) ⟨by rw [aa 8 (by omega)], fun i _ => ⟨by rw [aa 9 (by omega)], by rw [aa 10 (by omega)]⟩⟩ ⟨by rw [aa 8 (by omega)], fun i _ => ⟨by rw [aa 9 (by omega)], by rw [aa 10 (by omega)]⟩⟩
      (fun k hk => ai k (by intro z; subst z; exact absurd hk (by decide))) (aa 56 (by omega)) (by rw [X0]) (by rw [X0]) (fun C h => by rw [X13]; exact h) (fun C h => by rw [X14]; exact h)

theorem add_both {ck mk pr xs : Nat → Ob} {o nw : Ob} {nm nc np : Nat} {x1 x2 x3 x4 x5 x6 x7 : Int32} (hI : Iv ck mk pr xs o) (hT : IvT nm nc np ck mk pr xs o) (hE : IvE xs o) (hS : IvS nm xs o) (hR : IvR nm xs o) (h7 : x7 = 0 ∨ x7 = 1) (hw : nw.2.1 5 = x6)
    (hnew : x6 ≤ 24 → ∀ tb : Tb, TbEq nm (tbO o) tb → tb 0 nm = x1 → tb 1 nm = x2 → tb 2 nm = x3 → tb 3 nm = x4 → tb 4 nm = x5 → tb 5 nm = x6 → tb 6 nm = x7 → MkWF tb nc nm ∧ MkRel tb nw nm)
    {WM : (Int32 → Ob → Prop) → Prop} (hM : ∀ P, w_X10_added x1 x2 x3 x4 x5 x6 x7 o P → WM P) {G : Int32 → (Nat → Ob) → Ob → Prop} (hG : ∀ r mk2 k2, WM (fun r2 o2 => r = r2 ∧ Iv ck mk2 pr (ux (ux xs 0 (xs 0)) 4 k2) o2) → G r mk2 k2) : w_X5_add mk (xs 4) nw G := by
  have hn := hT.1.1
  have e0 := hT.2.1.1
  have e4 := hT.2.1.2
  have fin : Iv ck mk pr (ux (ux xs 0 (xs 0)) 4 (xs 4)) o := by rw [ux_self, ux_self]; exact hI
  refine k_add e4 hn (fun hf => hG _ _ _ (hM _ (r_added e0 hn h7 (fun _ => ⟨rfl, fin⟩) (fun q1 q2 => ?_)))) (fun hlt h6 => hG _ _ _ (hM _ (r_added e0 hn h7 (fun hf => ?_) (fun q1 q2 => ⟨rfl, Iv_addM hT hE hS hR hlt (show upd (xs 4).2.1 1 (nI (nm + 1)) 1 = nI (nm + 1) from pk_us) (hnew q2)⟩))))
  · rw [hw] at hf; exact absurd hf (by intro z; rcases z with z | z; omega; exact z q2)
  · rw [hw] at h6; exact absurd hf (by intro z; rcases z with z | z; omega; exact z h6)
theorem mkwf_0 {tb : Tb} {nc m w : Nat} (t0 : tb 0 m = 0) (hw : 1 ≤ w) (hw2 : w ≤ 24) (t5 : tb 5 m = nI w) (t6 : tb 6 m = 0 ∨ tb 6 m = 1) (h : tb 3 m ≤ tb 4 m ∧ (-1000000) ≤ tb 3 m ∧ tb 4 m ≤ 1000000) : MkWF tb nc m := by
  refine ⟨⟨0, by omega, t0⟩, ⟨w, hw, hw2, t5⟩, t6, ?_⟩
  rw [t0]; exact ⟨fun _ => h, fun z => absurd z (by decide), fun z => absurd z (by decide), fun z => absurd z (by decide), fun z => absurd z (by decide), fun z => absurd z (by decide), fun z => absurd z (by decide), fun z => absurd z (by decide)⟩
theorem mkrel_0 {tb : Tb} {mo : Ob} {m : Nat} (t0 : tb 0 m = 0) (h0 : mo.2.1 0 = tb 0 m) (h5 : mo.2.1 5 = tb 5 m) (h6 : mo.2.1 6 = tb 6 m) (h : mo.2.1 1 = tb 3 m ∧ mo.2.1 2 = tb 4 m) : MkRel tb mo m := by
  refine ⟨h0, h5, h6, ?_⟩
  rw [t0]; exact ⟨fun _ => h, fun z => absurd z (by decide), fun z => absurd z (by decide), fun z => absurd z (by decide), fun z => absurd z (by decide), fun z => absurd z (by decide), fun z => absurd z (by decide), fun z => absurd z (by decide)⟩
theorem mkwf_1 {tb : Tb} {nc m w : Nat} (t0 : tb 0 m = 1) (hw : 1 ≤ w) (hw2 : w ≤ 24) (t5 : tb 5 m = nI w) (t6 : tb 6 m = 0 ∨ tb 6 m = 1) (h : ∃ a : Nat, a < m ∧ tb 1 m = nI a ∧ ∃ c : Nat, 1 ≤ c ∧ c ≤ 24 ∧ tb 3 m = nI c ∧ wtN tb m = c * wtN tb a) : MkWF tb nc m := by
  refine ⟨⟨1, by omega, t0⟩, ⟨w, hw, hw2, t5⟩, t6, ?_⟩
  rw [t0]; exact ⟨fun z => absurd z (by decide), fun _ => h, fun z => absurd z (by decide), fun z => absurd z (by decide), fun z => absurd z (by decide), fun z => absurd z (by decide), fun z => absurd z (by decide), fun z => absurd z (by decide)⟩
theorem mkrel_1 {tb : Tb} {mo : Ob} {m : Nat} (t0 : tb 0 m = 1) (h0 : mo.2.1 0 = tb 0 m) (h5 : mo.2.1 5 = tb 5 m) (h6 : mo.2.1 6 = tb 6 m) (h : mo.2.1 1 = tb 1 m ∧ mo.2.1 2 = tb 3 m) : MkRel tb mo m := by
  refine ⟨h0, h5, h6, ?_⟩
  rw [t0]; exact ⟨fun z => absurd z (by decide), fun _ => h, fun z => absurd z (by decide), fun z => absurd z (by decide), fun z => absurd z (by decide), fun z => absurd z (by decide), fun z => absurd z (by decide), fun z => absurd z (by decide)⟩
theorem mkwf_2 {tb : Tb} {nc m w : Nat} (t0 : tb 0 m = 2) (hw : 1 ≤ w) (hw2 : w ≤ 24) (t5 : tb 5 m = nI w) (t6 : tb 6 m = 0 ∨ tb 6 m = 1) (h : ∃ a b : Nat, a < m ∧ b < m ∧ tb 1 m = nI a ∧ tb 2 m = nI b ∧ wtN tb m = wtN tb a + wtN tb b) : MkWF tb nc m := by
  refine ⟨⟨2, by omega, t0⟩, ⟨w, hw, hw2, t5⟩, t6, ?_⟩
  rw [t0]; exact ⟨fun z => absurd z (by decide), fun z => absurd z (by decide), fun _ => h, fun z => absurd z (by decide), fun z => absurd z (by decide), fun z => absurd z (by decide), fun z => absurd z (by decide), fun z => absurd z (by decide)⟩
theorem mkrel_2 {tb : Tb} {mo : Ob} {m : Nat} (t0 : tb 0 m = 2) (h0 : mo.2.1 0 = tb 0 m) (h5 : mo.2.1 5 = tb 5 m) (h6 : mo.2.1 6 = tb 6 m) (h : mo.2.1 1 = tb 1 m ∧ mo.2.1 2 = tb 2 m) : MkRel tb mo m := by
  refine ⟨h0, h5, h6, ?_⟩
  rw [t0]; exact ⟨fun z => absurd z (by decide), fun z => absurd z (by decide), fun _ => h, fun z => absurd z (by decide), fun z => absurd z (by decide), fun z => absurd z (by decide), fun z => absurd z (by decide), fun z => absurd z (by decide)⟩
theorem mkwf_3 {tb : Tb} {nc m w : Nat} (t0 : tb 0 m = 3) (hw : 1 ≤ w) (hw2 : w ≤ 24) (t5 : tb 5 m = nI w) (t6 : tb 6 m = 0 ∨ tb 6 m = 1) (h : ∃ a b p q : Nat, a < m ∧ b < m ∧ tb 1 m = nI a ∧ tb 2 m = nI b ∧ 1 ≤ p ∧ p ≤ 100 ∧ 1 ≤ q ∧ q ≤ 100 ∧ tb 3 m = nI p ∧ tb 4 m = nI q ∧ wtN tb a ≤ wtN tb m ∧ wtN tb b ≤ wtN tb m) : MkWF tb nc m := by
  refine ⟨⟨3, by omega, t0⟩, ⟨w, hw, hw2, t5⟩, t6, ?_⟩
  rw [t0]; exact ⟨fun z => absurd z (by decide), fun z => absurd z (by decide), fun z => absurd z (by decide), fun _ => h, fun z => absurd z (by decide), fun z => absurd z (by decide), fun z => absurd z (by decide), fun z => absurd z (by decide)⟩
theorem mkrel_3 {tb : Tb} {mo : Ob} {m : Nat} (t0 : tb 0 m = 3) (h0 : mo.2.1 0 = tb 0 m) (h5 : mo.2.1 5 = tb 5 m) (h6 : mo.2.1 6 = tb 6 m) (h : mo.2.1 1 = tb 1 m ∧ mo.2.1 2 = tb 2 m ∧ mo.2.1 3 = tb 3 m ∧ mo.2.1 4 = tb 4 m) : MkRel tb mo m := by
  refine ⟨h0, h5, h6, ?_⟩
  rw [t0]; exact ⟨fun z => absurd z (by decide), fun z => absurd z (by decide), fun z => absurd z (by decide), fun _ => h, fun z => absurd z (by decide), fun z => absurd z (by decide), fun z => absurd z (by decide), fun z => absurd z (by decide)⟩
theorem mkwf_4 {tb : Tb} {nc m w : Nat} (t0 : tb 0 m = 4) (hw : 1 ≤ w) (hw2 : w ≤ 24) (t5 : tb 5 m = nI w) (t6 : tb 6 m = 0 ∨ tb 6 m = 1) (h : ∃ a f : Nat, a < m ∧ tb 1 m = nI a ∧ f < 5 ∧ tb 3 m = nI f ∧ wtN tb m = wtN tb a + 1) : MkWF tb nc m := by
  refine ⟨⟨4, by omega, t0⟩, ⟨w, hw, hw2, t5⟩, t6, ?_⟩
  rw [t0]; exact ⟨fun z => absurd z (by decide), fun z => absurd z (by decide), fun z => absurd z (by decide), fun z => absurd z (by decide), fun _ => h, fun z => absurd z (by decide), fun z => absurd z (by decide), fun z => absurd z (by decide)⟩
theorem mkrel_4 {tb : Tb} {mo : Ob} {m : Nat} (t0 : tb 0 m = 4) (h0 : mo.2.1 0 = tb 0 m) (h5 : mo.2.1 5 = tb 5 m) (h6 : mo.2.1 6 = tb 6 m) (h : mo.2.1 1 = tb 1 m ∧ mo.2.1 2 = tb 3 m) : MkRel tb mo m := by
  refine ⟨h0, h5, h6, ?_⟩
  rw [t0]; exact ⟨fun z => absurd z (by decide), fun z => absurd z (by decide), fun z => absurd z (by decide), fun z => absurd z (by decide), fun _ => h, fun z => absurd z (by decide), fun z => absurd z (by decide), fun z => absurd z (by decide)⟩
theorem mkwf_5 {tb : Tb} {nc m w : Nat} (t0 : tb 0 m = 5) (hw : 1 ≤ w) (hw2 : w ≤ 24) (t5 : tb 5 m = nI w) (t6 : tb 6 m = 0 ∨ tb 6 m = 1) (h : ∃ a c : Nat, a < m ∧ tb 1 m = nI a ∧ c < nc ∧ tb 2 m = nI c ∧ wtN tb m = wtN tb a + 1) : MkWF tb nc m := by
  refine ⟨⟨5, by omega, t0⟩, ⟨w, hw, hw2, t5⟩, t6, ?_⟩
  rw [t0]; exact ⟨fun z => absurd z (by decide), fun z => absurd z (by decide), fun z => absurd z (by decide), fun z => absurd z (by decide), fun z => absurd z (by decide), fun _ => h, fun z => absurd z (by decide), fun z => absurd z (by decide)⟩
theorem mkrel_5 {tb : Tb} {mo : Ob} {m : Nat} (t0 : tb 0 m = 5) (h0 : mo.2.1 0 = tb 0 m) (h5 : mo.2.1 5 = tb 5 m) (h6 : mo.2.1 6 = tb 6 m) (h : mo.2.1 1 = tb 1 m ∧ mo.2.1 2 = tb 2 m) : MkRel tb mo m := by
  refine ⟨h0, h5, h6, ?_⟩
  rw [t0]; exact ⟨fun z => absurd z (by decide), fun z => absurd z (by decide), fun z => absurd z (by decide), fun z => absurd z (by decide), fun z => absurd z (by decide), fun _ => h, fun z => absurd z (by decide), fun z => absurd z (by decide)⟩
theorem mkwf_6 {tb : Tb} {nc m w : Nat} (t0 : tb 0 m = 6) (hw : 1 ≤ w) (hw2 : w ≤ 24) (t5 : tb 5 m = nI w) (t6 : tb 6 m = 0 ∨ tb 6 m = 1) (h : ∃ n : Nat, 1 ≤ n ∧ n ≤ 24 ∧ tb 3 m = nI n ∧ wtN tb m = n) : MkWF tb nc m := by
  refine ⟨⟨6, by omega, t0⟩, ⟨w, hw, hw2, t5⟩, t6, ?_⟩
  rw [t0]; exact ⟨fun z => absurd z (by decide), fun z => absurd z (by decide), fun z => absurd z (by decide), fun z => absurd z (by decide), fun z => absurd z (by decide), fun z => absurd z (by decide), fun _ => h, fun z => absurd z (by decide)⟩
theorem mkrel_6 {tb : Tb} {mo : Ob} {m : Nat} (t0 : tb 0 m = 6) (h0 : mo.2.1 0 = tb 0 m) (h5 : mo.2.1 5 = tb 5 m) (h6 : mo.2.1 6 = tb 6 m) (h : mo.2.1 1 = tb 3 m) : MkRel tb mo m := by
  refine ⟨h0, h5, h6, ?_⟩
  rw [t0]; exact ⟨fun z => absurd z (by decide), fun z => absurd z (by decide), fun z => absurd z (by decide), fun z => absurd z (by decide), fun z => absurd z (by decide), fun z => absurd z (by decide), fun _ => h, fun z => absurd z (by decide)⟩
theorem mkwf_7 {tb : Tb} {nc m w : Nat} (t0 : tb 0 m = 7) (hw : 1 ≤ w) (hw2 : w ≤ 24) (t5 : tb 5 m = nI w) (t6 : tb 6 m = 0 ∨ tb 6 m = 1) (h : ∃ a : Nat, a < m ∧ tb 1 m = nI a ∧ wtN tb m = wtN tb a + 1) : MkWF tb nc m := by
  refine ⟨⟨7, by omega, t0⟩, ⟨w, hw, hw2, t5⟩, t6, ?_⟩
  rw [t0]; exact ⟨fun z => absurd z (by decide), fun z => absurd z (by decide), fun z => absurd z (by decide), fun z => absurd z (by decide), fun z => absurd z (by decide), fun z => absurd z (by decide), fun z => absurd z (by decide), fun _ => h⟩
theorem mkrel_7 {tb : Tb} {mo : Ob} {m : Nat} (t0 : tb 0 m = 7) (h0 : mo.2.1 0 = tb 0 m) (h5 : mo.2.1 5 = tb 5 m) (h6 : mo.2.1 6 = tb 6 m) (h : mo.2.1 1 = tb 1 m) : MkRel tb mo m := by
  refine ⟨h0, h5, h6, ?_⟩
  rw [t0]; exact ⟨fun z => absurd z (by decide), fun z => absurd z (by decide), fun z => absurd z (by decide), fun z => absurd z (by decide), fun z => absurd z (by decide), fun z => absurd z (by decide), fun z => absurd z (by decide), fun _ => h⟩
theorem nI_lit1 : (1 : Int32) = nI 1 := rfl
theorem le24 {x : Int32} (h0 : ¬ x < 1) (h1 : x ≤ 24) : ∃ c : Nat, 1 ≤ c ∧ c ≤ 24 ∧ x = nI c := by
  have hx : ¬ x < 0 := fun z => h0 (Int32.lt_trans z (by decide))
  obtain ⟨j, hj, rfl⟩ := nI_of hx
  rw [show (24 : Int32) = nI 24 from rfl, nI_leI hj (by omega)] at h1
  rw [show (1 : Int32) = nI 1 from rfl, nI_ltI hj (by omega)] at h0
  exact ⟨j, by omega, h1, rfl⟩
set_option maxHeartbeats 2000000 in
theorem ok_whole : OK_whole Iv := by
  intro ck mk pr xs o v1 v2 hI
  obtain ⟨nm, nc, np, hT, hE, hS, hR⟩ := id hI
  have fin : Iv ck mk pr (ux (ux xs 0 (xs 0)) 4 (xs 4)) o := by rw [ux_self, ux_self]; exact hI
  have out : (v1 < -1000000 ∨ 1000000 < v1) ∨ (v2 < v1 ∨ 1000000 < v2) → ∀ P, P (-2) o → w_X10_whole v1 v2 o P := by
    intro h P hP
    unfold w_X10_whole
    by_cases h1 : v1 < -1000000 ∨ 1000000 < v1
    · exact r_in_n h1 ⟨fun _ => hP, fun z => absurd rfl z⟩
    · have h2 := h.resolve_left h1
      exact r_in_y (fun z => h1 (Or.inl z)) (fun z => h1 (Or.inr z)) ⟨fun z => absurd z (by decide), fun _ => r_in_n h2 ⟨fun z => absurd rfl z, fun _ => hP⟩⟩
  refine ⟨fun c => ⟨rfl, out (Or.inl (Or.inl c)) _ ⟨rfl, fin⟩⟩, fun c => ⟨fun d => ⟨rfl, out (Or.inr (Or.inr d)) _ ⟨rfl, fin⟩⟩, fun d => ⟨fun e => ?_, fun e => ⟨rfl, out (Or.inr (Or.inl (Int32.not_le.mp e))) _ ⟨rfl, fin⟩⟩⟩⟩⟩
  refine ⟨Or.inl rfl, add_both (x1 := 0) (x2 := -1) (x3 := -1) (x4 := v1) (x5 := v2) (x6 := 1) (x7 := 0) hI hT hE hS hR (Or.inl rfl) rfl (fun h6 tb ht t0 t1 t2 t3 t4 t5 t6 => ?_) (WM := w_X10_whole v1 v2 o) (fun P h => ?_) (fun r mk2 k2 h => ⟨rfl, h⟩)⟩
  · have hw : wtN tb nm = 1 := by unfold wtN; rw [t5]; rfl
    refine ⟨⟨⟨0, by omega, t0⟩, ⟨1, by omega, by omega, t5⟩, Or.inl t6, fun _ => by rw [t3, t4]; exact ⟨e, Int32.not_lt.mp c, Int32.not_lt.mp d⟩, ?_⟩, ?_⟩
    · rw [t0]; exact ⟨fun z => absurd z (by decide), fun z => absurd z (by decide), fun z => absurd z (by decide), fun z => absurd z (by decide), fun z => absurd z (by decide), fun z => absurd z (by decide), fun z => absurd z (by decide)⟩
    · unfold MkRel; rw [t0, t3, t4, t5, t6]
      exact ⟨rfl, rfl, rfl, fun _ => ⟨rfl, rfl⟩, fun z => absurd z (by decide), fun z => absurd z (by decide), fun z => absurd z (by decide), fun z => absurd z (by decide), fun z => absurd z (by decide), fun z => absurd z (by decide), fun z => absurd z (by decide)⟩
  · unfold w_X10_whole
    exact r_in_y c (fun z => d (Int32.lt_of_lt_of_le z e)) ⟨fun z => absurd z (by decide), fun _ => r_in_y (Int32.not_lt.mpr e) d ⟨fun _ => h, fun z => absurd z (by decide)⟩⟩

/-- a maker known to both sides -/
theorem mk_known {nm nc np m : Nat} {ck mk pr xs : Nat → Ob} {o : Ob} (hT : IvT nm nc np ck mk pr xs o) (hm : m < nm) : MkWF (tbO o) nc m ∧ MkRel (tbO o) (mk m) m := hT.2.2.2.2.1 m hm
theorem wt_known {nm nc np m : Nat} {ck mk pr xs : Nat → Ob} {o : Ob} (hT : IvT nm nc np ck mk pr xs o) (hm : m < nm) : ∃ w : Nat, 1 ≤ w ∧ w ≤ 24 ∧ (mk m).2.1 5 = nI w ∧ o.2.2 6 m = nI w ∧ wtN (tbO o) m = w := by
  obtain ⟨h1, h2⟩ := mk_known hT hm
  obtain ⟨w, a, b, c⟩ := h1.2.1
  exact ⟨w, a, b, h2.2.1.trans c, c, by unfold wtN; rw [c, nI_clamp (by omega)]⟩
theorem pk_known {nm nc np m : Nat} {ck mk pr xs : Nat → Ob} {o : Ob} (hT : IvT nm nc np ck mk pr xs o) (hm : m < nm) : (mk m).2.1 6 = o.2.2 7 m ∧ (o.2.2 7 m = 0 ∨ o.2.2 7 m = 1) := by
  obtain ⟨h1, h2⟩ := mk_known hT hm
  exact ⟨h2.2.2.1, h1.2.2.1⟩
theorem kd_known {nm nc np m : Nat} {ck mk pr xs : Nat → Ob} {o : Ob} (hT : IvT nm nc np ck mk pr xs o) (hm : m < nm) : (mk m).2.1 0 = o.2.2 1 m := (mk_known hT hm).2.1
theorem wtN_of {tb : Tb} {m w : Nat} (h : tb 5 m = nI w) (hw : w ≤ 100) : wtN tb m = w := by unfold wtN; rw [h, nI_clamp (by omega)]
set_option maxHeartbeats 2000000 in
theorem ok_maker : OK_maker Iv := by
  intro ck mk pr xs o v1 v2 hI
  obtain ⟨nm, nc, np, hT, hE, hS, hR⟩ := id hI
  have hn := hT.1.1
  have e0 := hT.2.1.1
  have e4 := hT.2.1.2
  have fin : Iv ck mk pr (ux (ux xs 0 (xs 0)) 4 (xs 4)) o := by rw [ux_self, ux_self]; exact hI
  rcases ix_cases v1 nm with ⟨m, hm, rfl⟩ | hno
  · have hlt : m < ((xs 4).2.1 1).toNatClampNeg := by rw [e4, nI_clamp (by omega)]; exact hm
    have hv : vp_in (nI m) 30 := vp_in_nI (by omega) (by omega)
    have hp := pk_known hT hm
    refine k_at_y e4 hn hm rfl ⟨rfl, fun z => (nomatch z), fun i e => ?_⟩
    cases e
    refine ⟨fun c => ⟨hlt, rfl, r_noMaker_y e0 hn hm rfl ⟨fun _ => ⟨fun z => absurd c z, fun _ => ⟨hv, ?_, fin⟩⟩, fun z => absurd rfl z⟩⟩, fun c => ⟨hlt, rfl, r_noMaker_y e0 hn hm rfl ⟨fun _ => ⟨fun _ => ⟨fun z => absurd c z, fun _ => ⟨hv, ?_, fin⟩⟩, fun z => absurd (z.symm.trans c) (by decide)⟩, fun z => absurd rfl z⟩⟩, fun c => ⟨hlt, fun d => ⟨rfl, r_noMaker_y e0 hn hm rfl ⟨fun _ => ⟨fun _ => ⟨fun _ => ⟨fun z => absurd c z, fun _ => ⟨hv, fun _ => ⟨rfl, fin⟩, fun z => ?_⟩⟩, fun z => absurd (z.symm.trans c) (by decide)⟩, fun z => absurd (z.symm.trans c) (by decide)⟩, fun z => absurd rfl z⟩⟩, fun d => ⟨rfl, r_noMaker_y e0 hn hm rfl ⟨fun _ => ⟨fun _ => ⟨fun _ => ⟨fun z => absurd c z, fun _ => ⟨hv, fun z => ?_, fun _ => ⟨rfl, fin⟩⟩⟩, fun z => absurd (z.symm.trans c) (by decide)⟩, fun z => absurd (z.symm.trans c) (by decide)⟩, fun z => absurd rfl z⟩⟩⟩, fun c => ⟨rfl, r_noMaker_y e0 hn hm rfl ⟨fun _ => ⟨fun _ => ⟨fun _ => ⟨fun _ => ⟨rfl, fin⟩, fun z => absurd z c.2.2⟩, fun z => absurd z c.2.1⟩, fun z => absurd z c.1⟩, fun z => absurd rfl z⟩⟩⟩
    · rw [nI_clamp (by omega)]; exact kd_known hT hm
    · obtain ⟨w, -, -, q1, q2, -⟩ := wt_known hT hm
      rw [nI_clamp (by omega), q1, q2]
    · rw [nI_clamp (by omega), ← hp.1] at z; exact absurd d z
    · rw [nI_clamp (by omega), ← hp.1] at z; exact absurd z d
  · exact k_at_n e4 hn hno ⟨rfl, fun _ => ⟨rfl, r_noMaker_n e0 hn hno ⟨fun z => absurd z (by decide), fun _ => ⟨rfl, fin⟩⟩⟩, fun i z => (nomatch z)⟩
