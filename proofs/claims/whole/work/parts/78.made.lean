/-! MAKING in the reference: frames, small steps -/
def mkS : List Nat := [11, 14, 17, 28, 29, 30, 31, 32, 34, 35]
def mkA : List Nat := [12, 13, 15, 16, 18, 19, 20, 25, 26, 27, 8, 9, 10, 36, 37, 38, 39, 40]
def CT (ck : Nat → Ob) (nc : Nat) (o : Ob) : Prop := ∀ i, i < nc → CkWF (ck i) i ∧ (ck i).2.1 0 = o.2.2 22 i ∧ (ck i).2.1 1 = o.2.2 23 i ∧ (ck i).2.1 2 = o.2.2 24 i
def KR (h p : Nat) (o o2 : Ob) : Prop := Fr mkS mkA o o2 ∧ (∀ t, t < 4 → RK t o o2) ∧ (∀ q, q < h → ∀ f, 36 ≤ f → f ≤ 40 → o2.2.2 f q = o.2.2 f q) ∧ (∀ i, i < p → o2.2.2 9 (4000 + i) = o.2.2 9 (4000 + i) ∧ o2.2.2 10 (4000 + i) = o.2.2 10 (4000 + i))
theorem KR.rf {h p : Nat} {o : Ob} : KR h p o o := ⟨Fr.rf, fun _ _ => RK.rf, fun _ _ _ _ _ => rfl, fun _ _ => ⟨rfl, rfl⟩⟩
theorem KR.tr {h p h' p' : Nat} {o o2 o3 : Ob} (a : KR h p o o2) (b : KR h' p' o2 o3) (hh : h ≤ h') (hp : p ≤ p') : KR h p o o3 :=
  ⟨a.1.tr b.1, fun t ht => (a.2.1 t ht).tr (b.2.1 t ht), fun q hq f h1 h2 => (b.2.2.1 q (by omega) f h1 h2).trans (a.2.2.1 q hq f h1 h2), fun i hi => ⟨(b.2.2.2 i (by omega)).1.trans (a.2.2.2 i hi).1, (b.2.2.2 i (by omega)).2.trans (a.2.2.2 i hi).2⟩⟩
def MS (ck : Nat → Ob) (tb : Tb) (nc : Nat) (o : Ob) (dp p : Nat) (s : Int64) (e : Nat) : Prop := HT tb o ∧ CT ck nc o ∧ o.1 33 = s ∧ o.2.1 34 = nI e ∧ o.2.1 35 = nI dp ∧ o.2.2 8 4 = nI p
def FF (o : Ob) (h m i : Nat) (left tries : Int32) : Prop := o.2.2 36 h = nI m ∧ o.2.2 37 h = nI i ∧ o.2.2 38 h = left ∧ o.2.2 39 h = tries ∧ o.2.2 40 h = 1
theorem KR.HT {h p : Nat} {o o2 : Ob} {tb : Tb} (k : KR h p o o2) (t : HT tb o) : HT tb o2 := fun f hf => (k.1.2 _ (by
  rcases (show f = 0 ∨ f = 1 ∨ f = 2 ∨ f = 3 ∨ f = 4 ∨ f = 5 ∨ f = 6 by omega) with rfl | rfl | rfl | rfl | rfl | rfl | rfl <;> decide)).trans (t f hf)
theorem KR.CT {h p : Nat} {o o2 : Ob} {ck : Nat → Ob} {nc : Nat} (k : KR h p o o2) (t : CT ck nc o) : CT ck nc o2 := fun i hi => by
  rw [k.1.2 22 (by decide), k.1.2 23 (by decide), k.1.2 24 (by decide)]; exact t i hi
theorem KR.FF {h p g m i : Nat} {o o2 : Ob} {l t : Int32} (k : KR h p o o2) (hg : g < h) (f : FF o g m i l t) : FF o2 g m i l t := by
  obtain ⟨a, b, c, d, e⟩ := f
  exact ⟨(k.2.2.1 g hg 36 (by omega) (by omega)).trans a, (k.2.2.1 g hg 37 (by omega) (by omega)).trans b, (k.2.2.1 g hg 38 (by omega) (by omega)).trans c, (k.2.2.1 g hg 39 (by omega) (by omega)).trans d, (k.2.2.1 g hg 40 (by omega) (by omega)).trans e⟩
theorem KR.nd {h p q : Nat} {o o2 : Ob} {L : List Nd} (k : KR h p o o2) (n : NdS o 4 q L) (hq : q + L.length ≤ p) : NdS o2 4 q L := fun i x hx => by
  have hi := (List.getElem?_eq_some_iff.mp hx).1
  have := k.2.2.2 (q + i) (by omega)
  rw [show 1000 * 4 + q + i = 4000 + (q + i) by omega, this.1, this.2, show 4000 + (q + i) = 1000 * 4 + q + i by omega]
  exact n i x hx
theorem KR.of {S A : List Nat} {h p : Nat} {o o2 : Ob} (f : Fr S A o o2) (hS : ∀ k ∈ S, k ∈ mkS) (hA : ∀ k ∈ A, k ∈ mkA) (h2 : ∀ k ∈ [8, 9, 10, 36, 37, 38, 39, 40], k ∉ A) : KR h p o o2 :=
  ⟨f.mono hS hA, fun t _ => RK.of_fr f (h2 8 (by decide)) (h2 9 (by decide)) (h2 10 (by decide)), fun q _ g h3 h4 => by
    rw [f.2 g (h2 g (by simp only [List.mem_cons, List.not_mem_nil, or_false]; omega))], fun i _ => by rw [f.2 9 (h2 9 (by decide)), f.2 10 (h2 10 (by decide))]; exact ⟨rfl, rfl⟩⟩
theorem NdS.cons {o : Ob} {t k : Nat} {x : Nd} {L : List Nd} (h9 : o.2.2 9 (1000 * t + k) = encM x.1) (h10 : o.2.2 10 (1000 * t + k) = x.2) (h : NdS o t (k + 1) L) : NdS o t k (x :: L) := fun i y hy => by
  cases i with
  | zero => cases hy; exact ⟨h9, h10⟩
  | succ i =>
    have := h i y hy
    rwa [show 1000 * t + (k + 1) + i = 1000 * t + k + (i + 1) by omega] at this
theorem NdS.app {o : Ob} {t k : Nat} {A B : List Nd} (h1 : NdS o t k A) (h2 : NdS o t (k + A.length) B) : NdS o t k (A ++ B) := fun i y hy => by
  rcases Nat.lt_or_ge i A.length with q | q
  · rw [List.getElem?_append_left q] at hy; exact h1 i y hy
  · rw [List.getElem?_append_right q] at hy
    have := h2 _ y hy
    rwa [show 1000 * t + (k + A.length) + (i - A.length) = 1000 * t + k + i by omega] at this
theorem NdS.nil {o : Ob} {t k : Nat} : NdS o t k [] := fun i y hy => nomatch hy
theorem clit4 : ((4 : Int32)).toNatClampNeg = 4 := by decide
theorem idx4 {p : Nat} : (4000 : Int32) + nI p = nI (4000 + p) := by rw [show (4000 : Int32) = nI 4000 from rfl, nI_add]
theorem m_addN {o : Ob} {p : Nat} {x1 x2 : Int32} {Post : Ob → Prop} (h8 : o.2.2 8 4 = nI p) (hp : p < 1000) (k : ∀ o2, o2.1 = o.1 → o2.2.1 = o.2.1 → (∀ f, f ≠ 8 → f ≠ 9 → f ≠ 10 → o2.2.2 f = o.2.2 f) → o2.2.2 8 4 = nI (p + 1) → (∀ t, t ≠ 4 → o2.2.2 8 t = o.2.2 8 t) → o2.2.2 9 (4000 + p) = x1 → o2.2.2 10 (4000 + p) = x2 → (∀ i, i ≠ 4000 + p → o2.2.2 9 i = o.2.2 9 i ∧ o2.2.2 10 i = o.2.2 10 i) → Post o2) : w_X10_add x1 x2 o Post := by
  have vq : vp_in (nI (4000 + p)) 5000 := vp_in_nI (by omega) (by omega)
  unfold w_X10_add
  rw [clit4, h8, idx4, nI_clamp (by omega), nI_1]
  refine ⟨vq, vq, k (o.1, o.2.1, sa (sa (sa o.2.2 9 (upd (o.2.2 9) (4000 + p) x1)) 10 (upd (o.2.2 10) (4000 + p) x2)) 8 (upd (o.2.2 8) 4 (nI (p + 1)))) rfl rfl (fun f h1 h2 h3 => ?_) ?_ (fun t ht => ?_) ?_ ?_ (fun i hi => ⟨?_, ?_⟩)⟩
  · show sa (sa (sa o.2.2 9 (upd (o.2.2 9) (4000 + p) x1)) 10 (upd (o.2.2 10) (4000 + p) x2)) 8 (upd (o.2.2 8) 4 (nI (p + 1))) f = _
    rw [sa_ne h1, sa_ne h3, sa_ne h2]
  · show sa (sa (sa o.2.2 9 (upd (o.2.2 9) (4000 + p) x1)) 10 (upd (o.2.2 10) (4000 + p) x2)) 8 (upd (o.2.2 8) 4 (nI (p + 1))) 8 4 = _
    rw [sa_us, pk_us]
  · show sa (sa (sa o.2.2 9 (upd (o.2.2 9) (4000 + p) x1)) 10 (upd (o.2.2 10) (4000 + p) x2)) 8 (upd (o.2.2 8) 4 (nI (p + 1))) 8 t = _
    rw [sa_us, pk_un ht]
  · show sa (sa (sa o.2.2 9 (upd (o.2.2 9) (4000 + p) x1)) 10 (upd (o.2.2 10) (4000 + p) x2)) 8 (upd (o.2.2 8) 4 (nI (p + 1))) 9 (4000 + p) = _
    rw [sa_ne (by omega), sa_ne (by omega), sa_us, pk_us]
  · show sa (sa (sa o.2.2 9 (upd (o.2.2 9) (4000 + p) x1)) 10 (upd (o.2.2 10) (4000 + p) x2)) 8 (upd (o.2.2 8) 4 (nI (p + 1))) 10 (4000 + p) = _
    rw [sa_ne (by omega), sa_us, pk_us]
  · show sa (sa (sa o.2.2 9 (upd (o.2.2 9) (4000 + p) x1)) 10 (upd (o.2.2 10) (4000 + p) x2)) 8 (upd (o.2.2 8) 4 (nI (p + 1))) 9 i = _
    rw [sa_ne (by omega), sa_ne (by omega), sa_us, pk_un hi]
  · show sa (sa (sa o.2.2 9 (upd (o.2.2 9) (4000 + p) x1)) 10 (upd (o.2.2 10) (4000 + p) x2)) 8 (upd (o.2.2 8) 4 (nI (p + 1))) 10 i = _
    rw [sa_ne (by omega), sa_us, pk_un hi]
section
variable {ck : Nat → Ob} {tb : Tb} {nm nc : Nat} {w : Int32}
def bgV (tb : Tb) (w : Int32) (m : Nat) (s : Int64) : Int32 × Int32 × Int64 := if tb 0 m = 0 then (tb 3 m + outD (nxt s) (tb 4 m - tb 3 m + 1), 0, nxt s) else if tb 0 m = 1 then (outD (nxt s) (1 + (if w ≤ tb 3 m then w else tb 3 m)), outD (nxt s) (1 + (if w ≤ tb 3 m then w else tb 3 m)), nxt s) else if tb 0 m = 2 then (0, 2, s) else if tb 0 m = 3 then (if tb 3 m ≤ outD (nxt s) (tb 3 m + tb 4 m) then 1 else 0, 1, nxt s) else if tb 0 m = 6 then (tb 3 m, 0, s) else (0, 1, s)
theorem m_num {v : Int32} {o : Ob} {s : Int64} {Post : Int32 → Ob → Prop} (e : o.1 33 = s) (h : Post (outD (nxt s) v) (sl o.1 33 (nxt s), o.2.1, o.2.2)) : w_X10_number v o Post := by
  subst e; exact h
theorem sl33 {f : Nat → Int64} {x : Int64} : sl f 33 x 33 = x := if_pos rfl
/-- a node is begun: its own node is added, its frame is set -/
theorem m_bgJ {o : Ob} {h m p : Nat} {y4 y5 : Int32} {lg : Nat → Int64} {s s' : Int64} {e : Nat} {Q : Ob → Prop} {Z : Ob → Prop} (M : MS ck tb nc o (h + 1) p s e) (hh : h < 60) (hp : p < 1000) (hl : lg 33 = s') (e36 : o.2.2 36 h = nI m) (e39 : o.2.2 39 h = 0) (hm : m < 30)
    (k6 : ¬ tb 0 m = 6 → ∀ o1, KR h p o o1 → MS ck tb nc o1 (h + 1) (p + 1) s' e → FF o1 h m p y5 0 → o1.2.2 9 (4000 + p) = nI m → o1.2.2 10 (4000 + p) = y4 → Q o1) (k66 : tb 0 m = 6 → ∀ o1, KR h p o o1 → MS ck tb nc o1 (h + 1) (p + 1) s' e → FF o1 h m p y5 0 → o1.2.2 9 (4000 + p) = nI m → o1.2.2 10 (4000 + p) = y4 → Z o1) :
    w_X10_add (nI m) y4 (lg, o.2.1, (sa (sa o.2.2 40 (upd (o.2.2 40) h (1 : Int32))) 37 (upd (o.2.2 37) h (nI p)))) (fun (o_28 : Ob) => vp_in (nI h) 64 ∧ (vp_in (nI m) 30 ∧ (((¬ ((o_28.2.2 1) m) = 6) → Q ((o_28.1, o_28.2.1, (sa o_28.2.2 38 (upd (o_28.2.2 38) h y5))))) ∧ ((((o_28.2.2 1) m) = 6) → Z ((o_28.1, o_28.2.1, (sa o_28.2.2 38 (upd (o_28.2.2 38) h y5))))))))  := by
  obtain ⟨T, C, m3, m4, m5, m8⟩ := M
  have r8 : (lg, o.2.1, (sa (sa o.2.2 40 (upd (o.2.2 40) h (1 : Int32))) 37 (upd (o.2.2 37) h (nI p)))).2.2 8 4 = nI p := by
    show sa (sa o.2.2 40 (upd (o.2.2 40) h (1 : Int32))) 37 (upd (o.2.2 37) h (nI p)) 8 4 = _
    rw [sa_ne (by omega), sa_ne (by omega)]; exact m8
  have rw0 : ∀ f, f ≠ 37 → f ≠ 40 → (lg, o.2.1, (sa (sa o.2.2 40 (upd (o.2.2 40) h (1 : Int32))) 37 (upd (o.2.2 37) h (nI p)))).2.2 f = o.2.2 f := fun f h1 h2 => by
    show sa (sa o.2.2 40 (upd (o.2.2 40) h (1 : Int32))) 37 (upd (o.2.2 37) h (nI p)) f = _
    rw [sa_ne h1, sa_ne h2]
  refine m_addN r8 hp (fun o28 c1 c2 c3 c4 c5 c6 c7 c8 => ?_)
  have z38 : ∀ f, f ≠ 38 → (o28.1, o28.2.1, (sa o28.2.2 38 (upd (o28.2.2 38) h y5))).2.2 f = o28.2.2 f := fun f hf => sa_ne hf
  have zz : ∀ f, f ≠ 38 → f ≠ 37 → f ≠ 40 → f ≠ 8 → f ≠ 9 → f ≠ 10 → (o28.1, o28.2.1, (sa o28.2.2 38 (upd (o28.2.2 38) h y5))).2.2 f = o.2.2 f := fun f h1 h2 h3 h4 h5 h6 => (z38 f h1).trans ((c3 f h4 h5 h6).trans (rw0 f h2 h3))
  have k1 : o28.2.2 1 m = tb 0 m := by
    rw [c3 1 (by omega) (by omega) (by omega), rw0 1 (by omega) (by omega)]
    exact congrFun (T 0 (by omega)) m
  have i9 : ∀ i, i ≠ 4000 + p → (o28.1, o28.2.1, (sa o28.2.2 38 (upd (o28.2.2 38) h y5))).2.2 9 i = o.2.2 9 i ∧ (o28.1, o28.2.1, (sa o28.2.2 38 (upd (o28.2.2 38) h y5))).2.2 10 i = o.2.2 10 i := fun i hi => by
    rw [z38 9 (by omega), z38 10 (by omega), (c8 i hi).1, (c8 i hi).2, rw0 9 (by omega) (by omega), rw0 10 (by omega) (by omega)]
    exact ⟨rfl, rfl⟩
  have K : KR h p o (o28.1, o28.2.1, (sa o28.2.2 38 (upd (o28.2.2 38) h y5))) := by
    refine ⟨⟨fun k _ => congrFun c2 k, fun k hk => ?_⟩, fun t ht => ⟨?_, fun i hi => i9 _ (by omega)⟩, fun q hq f h1 h2 => ?_, fun i hi => i9 _ (by omega)⟩
    · exact zz k (fun z => hk (by subst z; decide)) (fun z => hk (by subst z; decide)) (fun z => hk (by subst z; decide)) (fun z => hk (by subst z; decide)) (fun z => hk (by subst z; decide)) (fun z => hk (by subst z; decide))
    · rw [z38 8 (by omega), c5 t (by omega), rw0 8 (by omega) (by omega)]
    · rcases (show f = 36 ∨ f = 37 ∨ f = 38 ∨ f = 39 ∨ f = 40 by omega) with rfl | rfl | rfl | rfl | rfl
      · rw [zz 36 (by omega) (by omega) (by omega) (by omega) (by omega) (by omega)]
      · rw [z38 37 (by omega), c3 37 (by omega) (by omega) (by omega)]
        show sa (sa o.2.2 40 (upd (o.2.2 40) h (1 : Int32))) 37 (upd (o.2.2 37) h (nI p)) 37 q = _
        rw [sa_us, pk_un (by omega)]
      · show sa o28.2.2 38 (upd (o28.2.2 38) h y5) 38 q = _
        rw [sa_us, pk_un (by omega), c3 38 (by omega) (by omega) (by omega), rw0 38 (by omega) (by omega)]
      · rw [zz 39 (by omega) (by omega) (by omega) (by omega) (by omega) (by omega)]
      · rw [z38 40 (by omega), c3 40 (by omega) (by omega) (by omega)]
        show sa (sa o.2.2 40 (upd (o.2.2 40) h (1 : Int32))) 37 (upd (o.2.2 37) h (nI p)) 40 q = _
        rw [sa_ne (by omega), sa_us, pk_un (by omega)]
  have MM : MS ck tb nc (o28.1, o28.2.1, (sa o28.2.2 38 (upd (o28.2.2 38) h y5))) (h + 1) (p + 1) s' e := by
    refine ⟨K.HT T, K.CT C, ?_, (congrFun c2 34).trans m4, (congrFun c2 35).trans m5, ?_⟩
    · show o28.1 33 = s'
      rw [c1]; exact hl
    · rw [z38 8 (by omega)]; exact c4
  have FFF : FF (o28.1, o28.2.1, (sa o28.2.2 38 (upd (o28.2.2 38) h y5))) h m p y5 0 := by
    refine ⟨?_, ?_, ?_, ?_, ?_⟩
    · rw [zz 36 (by omega) (by omega) (by omega) (by omega) (by omega) (by omega)]; exact e36
    · rw [z38 37 (by omega), c3 37 (by omega) (by omega) (by omega)]
      show sa (sa o.2.2 40 (upd (o.2.2 40) h (1 : Int32))) 37 (upd (o.2.2 37) h (nI p)) 37 h = _
      rw [sa_us, pk_us]
    · show sa o28.2.2 38 (upd (o28.2.2 38) h y5) 38 h = _
      rw [sa_us, pk_us]
    · rw [zz 39 (by omega) (by omega) (by omega) (by omega) (by omega) (by omega)]; exact e39
    · rw [z38 40 (by omega), c3 40 (by omega) (by omega) (by omega)]
      show sa (sa o.2.2 40 (upd (o.2.2 40) h (1 : Int32))) 37 (upd (o.2.2 37) h (nI p)) 40 h = _
      rw [sa_ne (by omega), sa_us, pk_us]
  have n9 : (o28.1, o28.2.1, (sa o28.2.2 38 (upd (o28.2.2 38) h y5))).2.2 9 (4000 + p) = nI m := by rw [z38 9 (by omega)]; exact c6
  have n10 : (o28.1, o28.2.1, (sa o28.2.2 38 (upd (o28.2.2 38) h y5))).2.2 10 (4000 + p) = y4 := by rw [z38 10 (by omega)]; exact c7
  rw [k1]
  exact ⟨vp_in_nI (by omega) (by omega), vp_in_nI (by omega) (by omega), fun z => k6 z _ K MM FFF n9 n10, fun z => k66 z _ K MM FFF n9 n10⟩
set_option maxHeartbeats 4000000 in
theorem m_begin {o : Ob} {h m p : Nat} {s : Int64} {e : Nat} {Q : Ob → Prop} (hw : MkWF tb nc m) (M : MS ck tb nc o (h + 1) p s e) (hh : h < 60) (hp : p < 1000) (e36 : o.2.2 36 h = nI m) (e39 : o.2.2 39 h = 0) (hm : m < 30)
    (k6 : ¬ tb 0 m = 6 → ∀ o1, KR h p o o1 → MS ck tb nc o1 (h + 1) (p + 1) (bgV tb w m s).2.2 e → FF o1 h m p (bgV tb w m s).2.1 0 → o1.2.2 9 (4000 + p) = nI m → o1.2.2 10 (4000 + p) = (bgV tb w m s).1 → Q o1) (k66 : tb 0 m = 6 → ∀ o1, KR h p o o1 → MS ck tb nc o1 (h + 1) (p + 1) s e → FF o1 h m p 0 0 → o1.2.2 9 (4000 + p) = nI m → o1.2.2 10 (4000 + p) = tb 3 m → w_X10_shuffle (tb 3 m) o1 Q) : w_X10_beginNode (nI h) w o Q := by
  obtain ⟨T, C, m3, m4, m5, m8⟩ := id M
  have k1 : o.2.2 1 m = tb 0 m := congrFun (T 0 (by omega)) m
  have k4 : o.2.2 4 m = tb 3 m := congrFun (T 3 (by omega)) m
  have k5 : o.2.2 5 m = tb 4 m := congrFun (T 4 (by omega)) m
  have vh : vp_in (nI h) 64 := vp_in_nI (by omega) (by omega)
  have vm : vp_in (nI m) 30 := vp_in_nI (by omega) (by omega)
  unfold w_X10_beginNode
  rw [nI_clamp (show h < 2 ^ 31 by omega), e36, nI_clamp (show m < 2 ^ 31 by omega), clit4, m8, k1, k4, k5]
  have hl2 : ∀ f : Nat → Nat → Int32, (sl o.1 33 (nxt s), o.2.1, f).1 33 = nxt s := fun f => sl33 (f := o.1) (x := nxt s)
  have J : ∀ (y4 y5 : Int32) (lg : Nat → Int64) (s' : Int64), lg 33 = s' → ¬ tb 0 m = 6 → bgV tb w m s = (y4, y5, s') → w_X10_add (nI m) y4 (lg, o.2.1, (sa (sa o.2.2 40 (upd (o.2.2 40) h (1 : Int32))) 37 (upd (o.2.2 37) h (nI p)))) (fun (o_28 : Ob) => vp_in (nI h) 64 ∧ (vp_in (nI m) 30 ∧ (((¬ ((o_28.2.2 1) m) = 6) → Q ((o_28.1, o_28.2.1, (sa o_28.2.2 38 (upd (o_28.2.2 38) h y5))))) ∧ ((((o_28.2.2 1) m) = 6) → w_X10_shuffle y4 ((o_28.1, o_28.2.1, (sa o_28.2.2 38 (upd (o_28.2.2 38) h y5)))) (fun (o_33 : Ob) => Q o_33))))) := by
    intro y4 y5 lg s' hl n6 eb
    rw [eb] at k6
    exact m_bgJ (Z := fun o1 => w_X10_shuffle y4 o1 (fun (o_33 : Ob) => Q o_33)) M hh hp hl e36 e39 hm k6 (fun z => absurd z n6)
  refine ⟨vh, vh, vh, vm, jn_mk ?_⟩
  rcases kind_cases hw with q | q | q | q | q | q | q | q
  · refine ⟨fun _ => ⟨vm, vm, vm, m_num m3 ?_⟩, fun z => absurd (q.symm.trans z) (by decide), fun z => absurd (q.symm.trans z) (by decide), fun z => absurd (q.symm.trans z) (by decide), fun z => absurd (q.symm.trans z) (by decide), fun z => absurd q z.1⟩
    exact J _ _ _ _ (hl2 o.2.2) (by rw [q]; decide) (by unfold bgV; rw [if_pos q])
  · refine ⟨fun z => absurd (q.symm.trans z) (by decide), fun _ => ⟨vm, jn_mk ⟨fun z => m_num m3 ?_, fun z => ⟨vm, m_num m3 ?_⟩⟩⟩, fun z => absurd (q.symm.trans z) (by decide), fun z => absurd (q.symm.trans z) (by decide), fun z => absurd (q.symm.trans z) (by decide), fun z => absurd q z.2.1⟩
    · exact J _ _ _ _ (hl2 o.2.2) (by rw [q]; decide) (by unfold bgV; rw [if_neg (by rw [q]; decide), if_pos q, if_pos z])
    · exact J _ _ _ _ (hl2 o.2.2) (by rw [q]; decide) (by unfold bgV; rw [if_neg (by rw [q]; decide), if_pos q, if_neg z])
  · refine ⟨fun z => absurd (q.symm.trans z) (by decide), fun z => absurd (q.symm.trans z) (by decide), fun _ => ?_, fun z => absurd (q.symm.trans z) (by decide), fun z => absurd (q.symm.trans z) (by decide), fun z => absurd q z.2.2.1⟩
    exact J _ _ _ _ m3 (by rw [q]; decide) (by unfold bgV; rw [if_neg (by rw [q]; decide), if_neg (by rw [q]; decide), if_pos q])
  · refine ⟨fun z => absurd (q.symm.trans z) (by decide), fun z => absurd (q.symm.trans z) (by decide), fun z => absurd (q.symm.trans z) (by decide), fun _ => ⟨vm, vm, m_num m3 ⟨vm, jn_mk ?_⟩⟩, fun z => absurd (q.symm.trans z) (by decide), fun z => absurd q z.2.2.2.1⟩
    have kk : (sl o.1 33 (nxt s), o.2.1, sa (sa o.2.2 40 (upd (o.2.2 40) h 1)) 37 (upd (o.2.2 37) h (nI p))).2.2 4 m = tb 3 m := by
      show sa (sa o.2.2 40 (upd (o.2.2 40) h 1)) 37 (upd (o.2.2 37) h (nI p)) 4 m = _
      rw [sa_ne (by omega), sa_ne (by omega)]; exact k4
    refine ⟨fun z => ?_, fun z => ?_⟩
    · have z : (sl o.1 33 (nxt s), o.2.1, sa (sa o.2.2 40 (upd (o.2.2 40) h 1)) 37 (upd (o.2.2 37) h (nI p))).2.2 4 m ≤ outD (nxt s) (tb 3 m + tb 4 m) := z
      rw [kk] at z
      exact J _ _ _ _ (hl2 o.2.2) (by rw [q]; decide) (by unfold bgV; rw [if_neg (by rw [q]; decide), if_neg (by rw [q]; decide), if_neg (by rw [q]; decide), if_pos q, if_pos z])
    · have z : ¬ (sl o.1 33 (nxt s), o.2.1, sa (sa o.2.2 40 (upd (o.2.2 40) h 1)) 37 (upd (o.2.2 37) h (nI p))).2.2 4 m ≤ outD (nxt s) (tb 3 m + tb 4 m) := z
      rw [kk] at z
      exact J _ _ _ _ (hl2 o.2.2) (by rw [q]; decide) (by unfold bgV; rw [if_neg (by rw [q]; decide), if_neg (by rw [q]; decide), if_neg (by rw [q]; decide), if_pos q, if_neg z])
  · refine ⟨fun z => absurd (q.symm.trans z) (by decide), fun z => absurd (q.symm.trans z) (by decide), fun z => absurd (q.symm.trans z) (by decide), fun z => absurd (q.symm.trans z) (by decide), fun z => absurd (q.symm.trans z) (by decide), fun z => ?_⟩
    exact J _ _ _ _ m3 (by rw [q]; decide) (by unfold bgV; rw [if_neg z.1, if_neg z.2.1, if_neg z.2.2.1, if_neg z.2.2.2.1, if_neg z.2.2.2.2])
  · refine ⟨fun z => absurd (q.symm.trans z) (by decide), fun z => absurd (q.symm.trans z) (by decide), fun z => absurd (q.symm.trans z) (by decide), fun z => absurd (q.symm.trans z) (by decide), fun z => absurd (q.symm.trans z) (by decide), fun z => ?_⟩
    exact J _ _ _ _ m3 (by rw [q]; decide) (by unfold bgV; rw [if_neg z.1, if_neg z.2.1, if_neg z.2.2.1, if_neg z.2.2.2.1, if_neg z.2.2.2.2])
  · refine ⟨fun z => absurd (q.symm.trans z) (by decide), fun z => absurd (q.symm.trans z) (by decide), fun z => absurd (q.symm.trans z) (by decide), fun z => absurd (q.symm.trans z) (by decide), fun _ => ⟨vm, ?_⟩, fun z => absurd q z.2.2.2.2⟩
    exact m_bgJ (Z := fun o1 => w_X10_shuffle (tb 3 m) o1 (fun (o_33 : Ob) => Q o_33)) M hh hp m3 e36 e39 hm (fun z => absurd q z) k66
  · refine ⟨fun z => absurd (q.symm.trans z) (by decide), fun z => absurd (q.symm.trans z) (by decide), fun z => absurd (q.symm.trans z) (by decide), fun z => absurd (q.symm.trans z) (by decide), fun z => absurd (q.symm.trans z) (by decide), fun z => ?_⟩
    exact J _ _ _ _ m3 (by rw [q]; decide) (by unfold bgV; rw [if_neg z.1, if_neg z.2.1, if_neg z.2.2.1, if_neg z.2.2.2.1, if_neg z.2.2.2.2])
end
