/-! MAKING in the reference: picked as a whole, shuffled -/
section
variable {ck : Nat → Ob} {tb : Tb} {nm nc : Nat} {w : Int32}
theorem r_picked (hw : ∀ m, m < nm → MkWF tb nc m) (hn : nm ≤ 30) {m : Nat} (hm : m < nm) {s s2 : Int64} {e e2 : Nat} {r : Int32} {L1 : List Nd} (q : tb 0 m = 5) (g1 : PkR ck tb nm nc w m 0 s e r L1 s2 e2) : GrR ck tb nm nc w m s e r ((some m, 0) :: L1) s2 e2 := by
  obtain ⟨c, g⟩ := g1
  refine ⟨c + 1, fun h p n o Post hh hp M e36 e39 e40 K => ?_⟩
  refine r_open (n := n + 1 + c) (hw m hm) (by omega) (by rw [q]; decide) (by omega) hp M e36 e39 e40 (fun o1 K1 M1 F1 h9 h10 => ?_)
  rw [bg_o (Or.inr (Or.inl q))] at M1 F1 h10
  refine g h p n o1 Post hh hp M1 F1 h10 (fun y o3 K3 M3 N3 => ?_) (fun y o3 K3 e3 => K.2 y o3 (K1.tr K3 (Nat.le_refl _) (by omega)) e3)
  obtain ⟨u, v'⟩ := nd_root K3 (Nat.lt_succ_self p) h9 h10
  refine K.1 y o3 (K1.tr K3 (Nat.le_refl _) (by omega)) ?_ (NdS.cons u v' N3)
  rw [List.length_cons, show p + (L1.length + 1) = p + 1 + L1.length by omega]
  exact M3
/-- the leaves of a shuffled row lie from p on -/
def PlR (o : Ob) (p : Nat) (l : List Int32) : Prop := ∀ i v, l[i]? = some v → o.2.2 9 (4000 + (p + i)) = -1 ∧ o.2.2 10 (4000 + (p + i)) = v
theorem PlR.nd {o : Ob} {p : Nat} {l : List Int32} (h : PlR o p l) : NdS o 4 p (plN l) := fun i x hx => by
  unfold plN at hx
  rw [List.getElem?_map] at hx
  cases e : l[i]? with
  | none => rw [e] at hx; cases hx
  | some v =>
    rw [e] at hx; cases hx
    have := h i v e
    rw [show 1000 * 4 + p + i = 4000 + (p + i) by omega]; exact this
theorem plN_len {l : List Int32} : (plN l).length = l.length := List.length_map _
theorem m_shA {n p g : Nat} {s : Int64} {e dp : Nat} {K Post : Ob → Prop} {f2 : Int32} (hn : n ≤ 24) (hp : p + n ≤ 800) (o0 : Ob) (kk : ∀ o2, KR g p o0 o2 → MS ck tb nc o2 dp (p + n) s e → PlR o2 p (idx n) → K o2) : ∀ (d i : Nat) (o : Ob), i + d = n → KR g p o0 o → MS ck tb nc o dp (p + i) s e → PlR o p (idx i) → w_X10_shuffle_L13 (nI n) f2 K Post (d + 1) (nI i) o := by
  intro d
  induction d with
  | zero =>
    intro i o hi R M h
    obtain rfl : i = n := by omega
    exact ⟨fun _ => kk o R M h, fun z => absurd (Int32.le_refl _) z⟩
  | succ d ih =>
    intro i o hi R M h
    obtain ⟨T, C, m3, m4, m5, m8⟩ := M
    refine ⟨fun z => absurd z (by rw [nI_leI (by omega) (by omega)]; omega), fun _ => ?_⟩
    rw [nI_1]
    refine m_addN m8 (by omega) (fun o2 c1 c2 c3 c4 c5 c6 c7 c8 => ?_)
    have K2 : KR g p o o2 := by
      refine ⟨⟨fun k _ => by rw [c2], fun k hk => c3 k (fun z => hk (by subst z; decide)) (fun z => hk (by subst z; decide)) (fun z => hk (by subst z; decide))⟩, fun t ht => ⟨c5 t (by omega), fun j hj => c8 _ (by omega)⟩, fun q hq f h1 h2 => by rw [c3 f (by omega) (by omega) (by omega)], fun j hj => c8 _ (by omega)⟩
    refine ih (i + 1) o2 (by omega) (R.tr K2 (Nat.le_refl _) (Nat.le_refl _)) ⟨K2.HT T, K2.CT C, by rw [c1]; exact m3, by rw [c2]; exact m4, by rw [c2]; exact m5, c4⟩ (fun j v hv => ?_)
    obtain ⟨hj, rfl⟩ := idx_get hv
    by_cases q : j = i
    · subst q
      exact ⟨c6, c7⟩
    · have hj2 : (idx i)[j]? = some (nI j) := by
        unfold idx
        rw [List.getElem?_map, List.getElem?_range (by omega)]; rfl
      have := h j _ hj2
      rw [(c8 (4000 + (p + j)) (by omega)).1, (c8 (4000 + (p + j)) (by omega)).2]
      exact this
theorem m_shB {p g z : Nat} {e dp : Nat} {Post : Ob → Prop} (o0 : Ob) : ∀ (i : Nat) (s : Int64) (l : List Int32) (o : Ob), i + 1 ≤ l.length → l.length ≤ 24 → p + l.length ≤ 800 → KR g p o0 o → MS ck tb nc o dp z s e → PlR o p l → (∀ o2, KR g p o0 o2 → MS ck tb nc o2 dp z (shF i s l).2 e → PlR o2 p (shF i s l).1 → Post o2) → w_X10_shuffle_L34 (nI (4000 + p)) Post (i + 1) (nI i) o := by
  intro i
  induction i with
  | zero =>
    intro s l o hi hl hp R M h kk
    exact ⟨fun _ => kk o R M h, fun y => absurd (show nI 0 ≤ 0 by decide) y⟩
  | succ i ih =>
    intro s l o hi hl hp R M h kk
    obtain ⟨T, C, m3, m4, m5, m8⟩ := M
    obtain ⟨j, hj, ej⟩ := outD_lt (s := nxt s) (n := i + 2) (by omega) (by omega)
    refine ⟨fun y => absurd y (nI_nle (by omega) (by omega)), fun _ => ?_⟩
    rw [nI_1]
    refine m_num m3 ?_
    rw [ej, nI_add, nI_add, neg1, nI_pred, nI_clamp (by omega), nI_clamp (by omega)]
    have va : vp_in (nI (4000 + p + (i + 1))) 5000 := vp_in_nI (by omega) (by omega)
    have vb : vp_in (nI (4000 + p + j)) 5000 := vp_in_nI (by omega) (by omega)
    refine ⟨va, vb, va, vb, ?_⟩
    have ga := h (i + 1) _ (get_of (by omega))
    have gb := h j _ (get_of (by omega))
    rw [show 4000 + p + (i + 1) = 4000 + (p + (i + 1)) by omega, show 4000 + p + j = 4000 + (p + j) by omega]
    have ga2 : (sl o.1 33 (nxt s), o.2.1, o.2.2).2.2 10 (4000 + (p + (i + 1))) = l.getD (i + 1) 0 := ga.2
    have gb2 : (sl o.1 33 (nxt s), o.2.1, o.2.2).2.2 10 (4000 + (p + j)) = l.getD j 0 := gb.2
    rw [ga2, gb2]
    have key : ∀ X : Ob, X = (sl o.1 33 (nxt s), o.2.1, sa (sa o.2.2 10 (upd (o.2.2 10) (4000 + (p + (i + 1))) (l.getD j 0))) 10 (upd (upd (o.2.2 10) (4000 + (p + (i + 1))) (l.getD j 0)) (4000 + (p + j)) (l.getD (i + 1) 0))) → w_X10_shuffle_L34 (nI (4000 + p)) Post (i + 1) (nI i) X := by
      intro X hX
      have x0 : X.1 33 = nxt s := by rw [hX]; exact sl33 (f := o.1) (x := nxt s)
      have x1 : X.2.1 = o.2.1 := by rw [hX]
      have x2 : X.2.2 = sa (sa o.2.2 10 (upd (o.2.2 10) (4000 + (p + (i + 1))) (l.getD j 0))) 10 (upd (upd (o.2.2 10) (4000 + (p + (i + 1))) (l.getD j 0)) (4000 + (p + j)) (l.getD (i + 1) 0)) := by rw [hX]
      have xo : ∀ f, f ≠ 10 → X.2.2 f = o.2.2 f := fun f hf => by rw [x2, sa_ne hf, sa_ne hf]
      have x10 : ∀ q, X.2.2 10 q = upd (upd (o.2.2 10) (4000 + (p + (i + 1))) (l.getD j 0)) (4000 + (p + j)) (l.getD (i + 1) 0) q := fun q => by rw [x2, sa_us]
      have xn : ∀ q, q ≠ 4000 + (p + (i + 1)) → q ≠ 4000 + (p + j) → X.2.2 10 q = o.2.2 10 q := fun q h1 h2 => by rw [x10, pk_un h2, pk_un h1]
      have K2 : KR g p o X := by
        refine ⟨⟨fun k _ => by rw [x1], fun k hk => xo k (fun z => hk (by subst z; decide))⟩, fun t ht => ⟨by rw [xo 8 (by omega)], fun q hq => ⟨by rw [xo 9 (by omega)], xn _ (by omega) (by omega)⟩⟩, fun q hq f h1 h2 => by rw [xo f (by omega)], fun q hq => ⟨by rw [xo 9 (by omega)], xn _ (by omega) (by omega)⟩⟩
      have es : shF (i + 1) s l = shF i (nxt s) (swL l (i + 1) j) := by
        show shF i (nxt s) (swL l (i + 1) (outD (nxt s) (nI (i + 2))).toNatClampNeg) = _
        rw [ej, nI_clamp (by omega)]
      rw [es] at kk
      refine ih (nxt s) (swL l (i + 1) j) X (by rw [swL_len]; omega) (by rw [swL_len]; exact hl) (by rw [swL_len]; exact hp) (R.tr K2 (Nat.le_refl _) (Nat.le_refl _)) ⟨K2.HT T, K2.CT C, x0, by rw [x1]; exact m4, by rw [x1]; exact m5, by rw [xo 8 (by omega)]; exact m8⟩ (fun q v hv => ?_) kk
      have hq : q < l.length := by
        have := (List.getElem?_eq_some_iff.mp hv).1
        rwa [swL_len] at this
      rw [swL_get (by omega) (by omega) hq] at hv
      cases hv
      have h0 := h q _ (get_of hq)
      refine ⟨by rw [xo 9 (by omega)]; exact h0.1, ?_⟩
      by_cases c : q = j
      · subst c; rw [if_pos rfl, x10, pk_us]
      · rw [if_neg c]
        by_cases c2 : q = i + 1
        · subst c2; rw [if_pos rfl, x10, pk_un (by omega), pk_us]
        · rw [if_neg c2, xn _ (by omega) (by omega)]; exact h0.2
    exact key _ rfl
theorem r_shuffled (hw : ∀ m, m < nm → MkWF tb nc m) (hn : nm ≤ 30) {m n : Nat} (hm : m < nm) (q : tb 0 m = 6) (en : tb 3 m = nI n) (h1 : 1 ≤ n) (h2 : n ≤ 24) (ew : wtN tb m = n) (s : Int64) (e : Nat) : GrR ck tb nm nc w m s e 1 ((some m, nI n) :: plN (shF (n - 1) s (idx n)).1) (shF (n - 1) s (idx n)).2 e := by
  refine ⟨1 + 1, fun h p k o Post hh hp M e36 e39 e40 K => ?_⟩
  have bp := bd_pos (hw m hm)
  have wb2 : n * 2 ≤ wtN tb m * (m + 2) := by rw [ew]; exact Nat.mul_le_mul (Nat.le_refl _) (by omega)
  obtain ⟨n', rfl⟩ : ∃ n', n = n' + 1 := ⟨n - 1, by omega⟩
  have sl2 : (shF n' s (idx (n' + 1))).1.length = n' + 1 := by rw [shF_len, idx_len]
  refine mk_beg M.2.2.2.2.1 (by omega) e40 (m_begin (hw m hm) M (by omega) (by omega) e36 e39 (by omega) (fun z => absurd q z) (fun _ o1 K1 M1 F1 h9 h10 => ?_))
  rw [en] at h10 ⊢
  refine ⟨n' + 1 + 1, ?_⟩
  have e84 : o1.2.2 8 4 = nI (p + 1) := M1.2.2.2.2.2
  rw [clit4, e84, idx4]
  refine m_shA (n := n' + 1) (p := p + 1) (g := h + 1) h2 (by omega) o1 (fun o2 K2 M2 P2 => ⟨n' + 1, ?_⟩) (n' + 1) 0 o1 (by omega) KR.rf M1 (fun i v hv => absurd (idx_get hv).1 (Nat.not_lt_zero _))
  rw [nI_pred]
  refine m_shB o1 n' s (idx (n' + 1)) o2 (by rw [idx_len]; exact Nat.le_refl _) (by rw [idx_len]; exact h2) (by rw [idx_len]; omega) K2 M2 P2 (fun o3 K3 M3 P3 => ?_)
  refine r_end M3 (K3.FF (by omega) F1) (by omega) (by omega) (by rw [q]; decide) (by rw [q]; decide) (fun o4 K4 M4 => ?_)
  have N4 : NdS o4 4 (p + 1) (plN (shF n' s (idx (n' + 1))).1) := K4.nd P3.nd (by rw [plN_len, sl2]; omega)
  obtain ⟨u, v⟩ := nd_root ((K3.le (Nat.le_succ h) (Nat.le_refl _)).tr K4 (Nat.le_refl _) (by omega)) (Nat.lt_succ_self p) h9 h10
  refine K.1 rfl o4 ((K1.tr (K3.le (Nat.le_succ h) (Nat.le_refl _)) (Nat.le_refl _) (by omega)).tr K4 (Nat.le_refl _) (by omega)) ?_ (NdS.cons u v N4)
  show MS ck tb nc o4 h (p + ((some m, nI (n' + 1)) :: plN (shF n' s (idx (n' + 1))).1).length) (shF n' s (idx (n' + 1))).2 e
  rw [List.length_cons, plN_len, sl2, show p + (n' + 1 + 1) = p + 1 + (n' + 1) by omega]
  exact M4
end
