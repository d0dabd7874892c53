/-! MAKING in the reference: below, picked, shuffled -/
section
variable {ck : Nat → Ob} {tb : Tb} {nm nc : Nat} {w : Int32}
theorem m_bound {o : Ob} {n : Nat} {f : Nat → Int32} {P : Int32 → Ob → Prop} (L : LvG o n f) (k : P (bnd (sumA f n 0 0)) o) : w_X10_bound o P := by
  refine m_sum L ?_
  unfold bnd at k
  refine ⟨fun z => ⟨fun y => ?_, fun y => ?_⟩, fun z => ?_⟩
  · rwa [if_pos z, if_pos y] at k
  · rwa [if_pos z, if_neg y] at k
  · rwa [if_neg z] at k
theorem KR.le {h p h2 p2 : Nat} {o o2 : Ob} (a : KR h p o o2) (hh : h2 ≤ h) (hp : p2 ≤ p) : KR h2 p2 o o2 := ⟨a.1, a.2.1, fun q hq f h1 h2 => a.2.2.1 q (by omega) f h1 h2, fun i hi => a.2.2.2 i (by omega)⟩
theorem Fm.kr {S A : List Nat} {h p : Nat} {o o2 : Ob} (f : Fm S A o o2) (hS : ∀ k ∈ S, k ∈ mkS) (hA : ∀ k ∈ A, k ∈ mkA) (h2 : ∀ k ∈ [8, 9, 10, 36, 37, 38, 39, 40], k ∉ A) : KR h p o o2 := KR.of f.2 hS hA h2
theorem r_rk (hw : ∀ m, m < nm → MkWF tb nc m) (hn : nm ≤ 30) {i a p : Nat} {o : Ob} {L1 : List Nd} {P : Ob → Prop} (T : HT tb o) (ha : a < nm) (h1 : CF tb L1 [some a]) (N : NdS o 4 (i + 1) L1) (hp : p = i + 1 + L1.length) (hi : i < 200) (k : ∀ o2, Fm rkS rkA o o2 → LvG o2 (evR tb L1).length (hg (evR tb L1)) → P o2) : w_X10_reckon 4 (nI i + 1) (nI p) o P := by
  have hB := CF_BN hw hn ha h1
  obtain ⟨b3, b4, b5⟩ := CF_b1 hn hw h1 ha hB
  rw [nI_1, hp]
  refine m_reckon hw hn (t := 4) T h1 hB N (by omega) (by omega) (by omega) b4 (by have := sgC_len (cenc tb L1); omega) (fun o2 f d => k o2 f (d.g b4))
end
section
variable {ck : Nat → Ob} {tb : Tb} {nm nc : Nat} {w : Int32}
/-- the end of a node of BELOW -/
theorem r_end7 (hw : ∀ m, m < nm → MkWF tb nc m) (hn : nm ≤ 30) {h m i p n a : Nat} {tr : Int32} {s : Int64} {e : Nat} {o : Ob} {L1 : List Nd} {Post : Int32 → Ob → Prop} (M : MS ck tb nc o (h + 1) p s e) (F : FF o h m i (nI 0) tr) (hh : h < 60) (hm : m < 30) (q : tb 0 m = 7) (ha : a < nm) (h1 : CF tb L1 [some a]) (N : NdS o 4 (i + 1) L1) (hp : p = i + 1 + L1.length) (hi : i < 200 ∨ p ≤ 1000)
    (k : ∀ o2, KR h i o o2 → MS ck tb nc o2 h p (nxt s) e → (∀ j, o2.2.2 9 (4000 + j) = o.2.2 9 (4000 + j)) → (∀ j, j ≠ i → o2.2.2 10 (4000 + j) = o.2.2 10 (4000 + j)) → o2.2.2 10 (4000 + i) = outD (nxt s) (1 + evB tb L1) → w_X10_makes_L25 w Post (n + 1) 0 o2) : w_X10_makes_L25 w Post (n + 1 + 1) 0 o := by
  obtain ⟨T, C, m3, m4, m5, m8⟩ := M
  obtain ⟨f1, f2, f3, f4, f5⟩ := F
  have hB := CF_BN hw hn ha h1
  obtain ⟨b3, b4, b5⟩ := CF_b1 hn hw h1 ha hB
  refine mk_end m5 hh f5 (by rw [f3]; decide) ?_
  have k0 : o.2.2 1 m = tb 0 m := congrFun (T 0 (by omega)) m
  have vh : vp_in (nI h) 64 := vp_in_nI (by omega) (by omega)
  have vm : vp_in (nI m) 30 := vp_in_nI (by omega) (by omega)
  unfold w_X10_endNode
  rw [nI_clamp (show h < 2 ^ 31 by omega), f1, nI_clamp (show m < 2 ^ 31 by omega), k0, clit4, m8, f2, idx4, nI_clamp (show 4000 + i < 2 ^ 31 by omega)]
  refine ⟨vh, vh, vm, jn_mk ⟨fun z => absurd q z, fun _ => ?_⟩⟩
  rw [nI_1, hp]
  refine m_reckon hw hn (t := 4) T h1 hB N (by omega) (by omega) (by omega) b4 (by have := sgC_len (cenc tb L1); omega) (fun o6 f6 d6 => ?_)
  refine m_bound (d6.g b4) (m_num (s := s) (by rw [f6.1]; exact m3) ⟨vp_in_nI (by omega) (by omega), vm, ?_⟩)
  have K6 : KR h i o o6 := f6.kr (by decide) (by decide) (by decide)
  have kk : (sl o6.1 33 (nxt s), o6.2.1, sa o6.2.2 10 (upd (o6.2.2 10) (4000 + i) (outD (nxt s) (1 + bnd (sumA (hg (evR tb L1)) (evR tb L1).length 0 0))))).2.2 1 m = tb 0 m := by
    show sa o6.2.2 10 (upd (o6.2.2 10) (4000 + i) (outD (nxt s) (1 + bnd (sumA (hg (evR tb L1)) (evR tb L1).length 0 0)))) 1 m = _
    rw [sa_ne (by omega), f6.2.2 1 (by decide)]; exact k0
  refine ⟨fun _ => ?_, fun z => absurd (kk.symm.trans z) (by rw [q]; decide)⟩
  have z10 : ∀ f, f ≠ 10 → (sl o6.1 33 (nxt s), upd o6.2.1 35 (o6.2.1 35 - 1), sa o6.2.2 10 (upd (o6.2.2 10) (4000 + i) (outD (nxt s) (1 + evB tb L1)))).2.2 f = o6.2.2 f := fun f hf => sa_ne hf
  have u10 : ∀ j, j ≠ i → (sl o6.1 33 (nxt s), upd o6.2.1 35 (o6.2.1 35 - 1), sa o6.2.2 10 (upd (o6.2.2 10) (4000 + i) (outD (nxt s) (1 + evB tb L1)))).2.2 10 (4000 + j) = o6.2.2 10 (4000 + j) := fun j hj => by
    show sa o6.2.2 10 (upd (o6.2.2 10) (4000 + i) (outD (nxt s) (1 + evB tb L1))) 10 (4000 + j) = _
    rw [sa_us, pk_un (by omega)]
  have Kz : KR h i o6 (sl o6.1 33 (nxt s), upd o6.2.1 35 (o6.2.1 35 - 1), sa o6.2.2 10 (upd (o6.2.2 10) (4000 + i) (outD (nxt s) (1 + evB tb L1)))) := by
    refine ⟨⟨fun k hk => un_of (S := mkS) (by decide) hk, fun k hk => z10 k (fun z => hk (by subst z; decide))⟩, fun t ht => ⟨by rw [z10 8 (by omega)], fun j hj => ⟨by rw [z10 9 (by omega)], ?_⟩⟩, fun g hg f hf1 hf2 => by rw [z10 f (by omega)], fun j hj => ⟨by rw [z10 9 (by omega)], u10 j (by omega)⟩⟩
    show sa o6.2.2 10 (upd (o6.2.2 10) (4000 + i) (outD (nxt s) (1 + evB tb L1))) 10 (1000 * t + j) = _
    rw [sa_us, pk_un (by omega)]
  have KK : KR h i o (sl o6.1 33 (nxt s), upd o6.2.1 35 (o6.2.1 35 - 1), sa o6.2.2 10 (upd (o6.2.2 10) (4000 + i) (outD (nxt s) (1 + evB tb L1)))) := K6.tr Kz (Nat.le_refl _) (Nat.le_refl _)
  have e34 : (sl o6.1 33 (nxt s), upd o6.2.1 35 (o6.2.1 35 - 1), sa o6.2.2 10 (upd (o6.2.2 10) (4000 + i) (outD (nxt s) (1 + evB tb L1)))).2.1 34 = nI e := by
    show upd o6.2.1 35 (o6.2.1 35 - 1) 34 = _
    rw [pk_un (by decide), f6.2.1 34 (by decide)]; exact m4
  have e35 : (sl o6.1 33 (nxt s), upd o6.2.1 35 (o6.2.1 35 - 1), sa o6.2.2 10 (upd (o6.2.2 10) (4000 + i) (outD (nxt s) (1 + evB tb L1)))).2.1 35 = nI h := by
    show upd o6.2.1 35 (o6.2.1 35 - 1) 35 = _
    rw [pk_us, f6.2.1 35 (by decide), m5, nI_pred]
  have e8 : (sl o6.1 33 (nxt s), upd o6.2.1 35 (o6.2.1 35 - 1), sa o6.2.2 10 (upd (o6.2.2 10) (4000 + i) (outD (nxt s) (1 + evB tb L1)))).2.2 8 4 = nI p := by rw [z10 8 (by omega), f6.2.2 8 (by decide)]; exact m8
  have ev : (sl o6.1 33 (nxt s), upd o6.2.1 35 (o6.2.1 35 - 1), sa o6.2.2 10 (upd (o6.2.2 10) (4000 + i) (outD (nxt s) (1 + evB tb L1)))).2.2 10 (4000 + i) = outD (nxt s) (1 + evB tb L1) := by
    show sa o6.2.2 10 (upd (o6.2.2 10) (4000 + i) (outD (nxt s) (1 + evB tb L1))) 10 (4000 + i) = _
    rw [sa_us, pk_us]
  exact k (sl o6.1 33 (nxt s), upd o6.2.1 35 (o6.2.1 35 - 1), sa o6.2.2 10 (upd (o6.2.2 10) (4000 + i) (outD (nxt s) (1 + evB tb L1)))) KK ⟨KK.HT T, KK.CT C, sl33 (f := o6.1) (x := nxt s), e34, e35, e8⟩ (fun j => by rw [z10 9 (by omega), f6.2.2 9 (by decide)]) (fun j hj => by rw [u10 j hj, f6.2.2 10 (by decide)]) ev
theorem r_below_a (hw : ∀ m, m < nm → MkWF tb nc m) (hn : nm ≤ 30) {m a : Nat} (hm : m < nm) {s s1 s2 : Int64} {e e1 : Nat} {r : Int32} {L1 L : List Nd} (q : tb 0 m = 7) (ha : a < m) (ea : tb 1 m = nI a) (g1 : GrR ck tb nm nc w a s e r L1 s1 e1) (n1 : ¬ r = 1) (n0 : ¬ r = 0) : GrR ck tb nm nc w m s e r L s2 e1 := by
  obtain ⟨c, g⟩ := r_kid g1 n0
  refine ⟨c + 1, fun h p n o Post hh hp M e36 e39 e40 K => ?_⟩
  have kb := kb_one hw hn (v := 0) (show okX tb nm (some m, 0) from fun m2 e2 => by cases e2; exact ⟨hm, fun z => absurd (q.symm.trans z) (by decide), fun z => absurd (q.symm.trans z) (by decide)⟩) (show kidsT tb (some m, 0) = [some a] by rw [kids_7 q, oneN_eq (by omega) ea])
  refine r_open (n := n + 1 + c) (hw m hm) (by omega) (by rw [q]; decide) (by omega) hp M e36 e39 e40 (fun o1 K1 M1 F1 h9 h10 => ?_)
  rw [bg_o (Or.inr (Or.inr q))] at M1 F1 h10
  exact g h (p + 1) n m p 0 0 0 o1 Post (by omega) (by omega) (by omega) (by omega) (by omega) M1 F1 h10 ⟨fun z => absurd (q.symm.trans z) (by decide), fun z => absurd (q.symm.trans z) (by decide), fun _ _ => ea⟩ (fun y => absurd y n1) (fun y o2 K2 e2 => K.2 n1 o2 (K1.tr K2 (Nat.le_refl _) (by omega)) e2)
theorem r_below_b (hw : ∀ m, m < nm → MkWF tb nc m) (hn : nm ≤ 30) {m a : Nat} {v : Int32} (hm : m < nm) {s s1 : Int64} {e e1 : Nat} {L1 : List Nd} (q : tb 0 m = 7) (ha : a < m) (ea : tb 1 m = nI a) (g1 : GrR ck tb nm nc w a s e 1 L1 s1 e1) (h1 : CF tb L1 [some a]) (ev : v = outD (nxt s1) (1 + evB tb L1)) : GrR ck tb nm nc w m s e 1 ((some m, v) :: L1) (nxt s1) e1 := by
  obtain ⟨c, g⟩ := r_kid g1 (by decide)
  refine ⟨1 + c + 1, fun h p n o Post hh hp M e36 e39 e40 K => ?_⟩
  have kb := kb_one hw hn (v := 0) (show okX tb nm (some m, 0) from fun m2 e2 => by cases e2; exact ⟨hm, fun z => absurd (q.symm.trans z) (by decide), fun z => absurd (q.symm.trans z) (by decide)⟩) (show kidsT tb (some m, 0) = [some a] by rw [kids_7 q, oneN_eq (by omega) ea])
  have hB := CF_BN hw hn (show a < nm by omega) h1
  obtain ⟨b3, b4, b5⟩ := CF_b1 hn hw h1 (show a < nm by omega) hB
  obtain ⟨b1, -⟩ := CF_len hw hn (show a < nm by omega) h1
  rw [show n + 1 + (1 + c + 1) = ((n + 1) + 1 + c) + 1 by omega]
  refine r_open (hw m hm) (by omega) (by rw [q]; decide) (by omega) hp M e36 e39 e40 (fun o1 K1 M1 F1 h9 h10 => ?_)
  rw [bg_o (Or.inr (Or.inr q))] at M1 F1 h10
  refine g h (p + 1) (n + 1) m p 0 0 0 o1 Post (by omega) (by omega) (by omega) (by omega) (by omega) M1 F1 h10 ⟨fun z => absurd (q.symm.trans z) (by decide), fun z => absurd (q.symm.trans z) (by decide), fun _ _ => ea⟩ (fun _ o2 K2 M2 F2 N2 => ?_) (fun y => absurd rfl y)
  refine r_end7 hw hn M2 F2 (by omega) (by omega) q (show a < nm by omega) h1 N2 rfl (Or.inr (by omega)) (fun o3 K3 M3 z9 z10 zv => ?_)
  obtain ⟨u, -⟩ := nd_root K2 (Nat.lt_succ_self p) h9 h10
  refine K.1 rfl o3 ((K1.tr ((K2.le (Nat.le_refl _) (Nat.le_succ p)).tr K3 (Nat.le_refl _) (Nat.le_refl _)) (Nat.le_refl _) (Nat.le_refl _))) ?_ (NdS.cons ?_ ?_ ?_)
  · rw [List.length_cons, show p + (L1.length + 1) = p + 1 + L1.length by omega]; exact M3
  · rw [show 1000 * 4 + p = 4000 + p by omega, z9 p]; exact u
  · rw [show 1000 * 4 + p = 4000 + p by omega, zv]; exact ev.symm
  · intro j x hx
    have := N2 j x hx
    rw [show 1000 * 4 + (p + 1) + j = 4000 + (p + 1 + j) by omega] at this ⊢
    rw [z9, z10 _ (by omega)]; exact this
end
