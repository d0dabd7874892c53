/-! MAKING in the reference, kind by kind -/
section
variable {ck : Nat → Ob} {tb : Tb} {nm nc : Nat} {w : Int32}
theorem nd_root {o : Ob} {h p q : Nat} {o2 : Ob} {m : Nat} {v : Int32} (K : KR h q o o2) (hq : p < q) (h9 : o.2.2 9 (4000 + p) = nI m) (h10 : o.2.2 10 (4000 + p) = v) : o2.2.2 9 (1000 * 4 + p) = encM (some m) ∧ o2.2.2 10 (1000 * 4 + p) = v := by
  have := K.2.2.2 p hq
  rw [show 1000 * 4 + p = 4000 + p by omega, this.1, this.2]
  exact ⟨h9, h10⟩
theorem r_whole (hw : ∀ m, m < nm → MkWF tb nc m) (hn : nm ≤ 30) {m : Nat} (hm : m < nm) (q : tb 0 m = 0) (s : Int64) (e : Nat) : GrR ck tb nm nc w m s e 1 [(some m, tb 3 m + outD (nxt s) (tb 4 m - tb 3 m + 1))] (nxt s) e := by
  refine ⟨1 + 1, fun h p n o Post hh hp M e36 e39 e40 K => ?_⟩
  refine r_open (n := n + 1 + 1) (hw m hm) (by omega) (by rw [q]; decide) (by omega) hp M e36 e39 e40 (fun o1 K1 M1 F1 h9 h10 => ?_)
  rw [bg_0 q] at M1 F1 h10
  refine r_end M1 F1 (by omega) (by omega) (by rw [q]; decide) (by rw [q]; decide) (fun o2 K2 M2 => ?_)
  obtain ⟨a, b⟩ := nd_root K2 (Nat.lt_succ_self p) h9 h10
  exact K.1 rfl o2 (K1.tr K2 (Nat.le_refl _) (by omega)) M2 (NdS.cons a b NdS.nil)
theorem r_pair_a (hw : ∀ m, m < nm → MkWF tb nc m) (hn : nm ≤ 30) {m a b : Nat} (hm : m < nm) (q : tb 0 m = 2) (ha : a < m) (hb : b < m) (ea : tb 1 m = nI a) (eb : tb 2 m = nI b) {s s1 s2 : Int64} {e e1 : Nat} {r1 : Int32} {L1 L : List Nd} (g1 : GrR ck tb nm nc w a s e r1 L1 s1 e1) (n1 : ¬ r1 = 1) (n0 : ¬ r1 = 0) : GrR ck tb nm nc w m s e r1 L s2 e1 := by
  obtain ⟨c, g⟩ := r_kid g1 n0
  refine ⟨c + 1, fun h p n o Post hh hp M e36 e39 e40 K => ?_⟩
  have kb := kb_two hw hn (v := 0) (show okX tb nm (some m, 0) from fun m2 e2 => by cases e2; exact ⟨hm, fun z => absurd (q.symm.trans z) (by decide), fun z => absurd (q.symm.trans z) (by decide)⟩) (show kidsT tb (some m, 0) = [some a, some b] by rw [kids_2 q, oneN_eq (by omega) ea, twoN_eq (by omega) eb])
  refine r_open (n := n + 1 + c) (hw m hm) (by omega) (by rw [q]; decide) (by omega) hp M e36 e39 e40 (fun o1 K1 M1 F1 h9 h10 => ?_)
  rw [bg_2 q] at M1 F1 h10
  exact g h (p + 1) n m p 1 0 0 o1 Post (by omega) (by omega) (by omega) (by omega) (by omega) M1 F1 h10 ⟨fun _ => ⟨fun z => absurd z (by decide), fun _ => ea⟩, fun z => absurd (q.symm.trans z) (by decide), fun z => absurd q z⟩ (fun y => absurd y n1) (fun y o2 K2 e2 => K.2 n1 o2 (K1.tr K2 (Nat.le_refl _) (by omega)) e2)
theorem r_pair_b (hw : ∀ m, m < nm → MkWF tb nc m) (hn : nm ≤ 30) {m a b : Nat} (hm : m < nm) (q : tb 0 m = 2) (ha : a < m) (hb : b < m) (ea : tb 1 m = nI a) (eb : tb 2 m = nI b) {s s1 s2 : Int64} {e e1 e2 : Nat} {r2 : Int32} {L1 L2 : List Nd} (g1 : GrR ck tb nm nc w a s e 1 L1 s1 e1) (h1 : CF tb L1 [some a]) (g2 : GrR ck tb nm nc w b s1 e1 r2 L2 s2 e2) (n0 : ¬ r2 = 0) (l2 : r2 = 1 → L2.length ≤ wtN tb b * (b + 2)) : GrR ck tb nm nc w m s e r2 ((some m, 0) :: (L1 ++ L2)) s2 e2 := by
  obtain ⟨c, g⟩ := r_kid g1 (by decide)
  obtain ⟨c2, g'⟩ := r_kid g2 n0
  refine ⟨1 + c2 + c + 1, fun h p n o Post hh hp M e36 e39 e40 K => ?_⟩
  have kb := kb_two hw hn (v := 0) (show okX tb nm (some m, 0) from fun m2 e2 => by cases e2; exact ⟨hm, fun z => absurd (q.symm.trans z) (by decide), fun z => absurd (q.symm.trans z) (by decide)⟩) (show kidsT tb (some m, 0) = [some a, some b] by rw [kids_2 q, oneN_eq (by omega) ea, twoN_eq (by omega) eb])
  have hB := CF_BN hw hn (show a < nm by omega) h1
  obtain ⟨b3, b4, b5⟩ := CF_b1 hn hw h1 (show a < nm by omega) hB
  obtain ⟨b1, -⟩ := CF_len hw hn (show a < nm by omega) h1
  rw [show n + 1 + (1 + c2 + c + 1) = (((n + 1) + 1 + c2) + c) + 1 by omega]
  refine r_open (hw m hm) (by omega) (by rw [q]; decide) (by omega) hp M e36 e39 e40 (fun o1 K1 M1 F1 h9 h10 => ?_)
  rw [bg_2 q] at M1 F1 h10
  rw [show (n + 1 + 1 + c2) + c = (n + 1 + c2) + 1 + c by omega]
  refine g h (p + 1) (n + 1 + c2) m p 1 0 0 o1 Post (by omega) (by omega) (by omega) (by omega) (by omega) M1 F1 h10 ⟨fun _ => ⟨fun z => absurd z (by decide), fun _ => ea⟩, fun z => absurd (q.symm.trans z) (by decide), fun z => absurd q z⟩ (fun _ o2 K2 M2 F2 N2 => ?_) (fun y => absurd rfl y)
  rw [show n + 1 + c2 + 1 = (n + 1) + 1 + c2 by omega]
  refine g' h (p + 1 + L1.length) (n + 1) m p 0 0 0 o2 Post (by omega) (by omega) (by omega) (by omega) (by omega) M2 F2 (by rw [(K2.2.2.2 p (by omega)).2]; exact h10) ⟨fun _ => ⟨fun _ => eb, fun z => absurd rfl z⟩, fun z => absurd (q.symm.trans z) (by decide), fun z => absurd q z⟩ (fun y o3 K3 M3 F3 N3 => ?_) (fun y o3 K3 e3 => K.2 y o3 ((K1.tr K2 (Nat.le_refl _) (by omega)).tr K3 (Nat.le_refl _) (by omega)) e3)
  refine r_end M3 F3 (by omega) (by omega) (by rw [q]; decide) (by rw [q]; decide) (fun o4 K4 M4 => ?_)
  have l2' := l2 y
  have K14 := ((K1.tr K2 (Nat.le_refl _) (by omega)).tr K3 (Nat.le_refl _) (by omega)).tr K4 (Nat.le_refl _) (by omega)
  have K24 : KR h (p + 1) o1 o4 := (K2.tr K3 (Nat.le_refl _) (by omega)).tr K4 (Nat.le_refl _) (by omega)
  obtain ⟨u, v⟩ := nd_root K24 (Nat.lt_succ_self p) h9 h10
  refine K.1 y o4 K14 ?_ (NdS.cons u v (NdS.app ((K3.tr K4 (Nat.le_refl _) (by omega)).nd N2 (by omega)) (K4.nd N3 (by omega))))
  rw [List.length_cons, List.length_append, show p + (L1.length + L2.length + 1) = p + 1 + L1.length + L2.length by omega]
  exact M4
theorem r_oneof (hw : ∀ m, m < nm → MkWF tb nc m) (hn : nm ≤ 30) {m c : Nat} {v : Int32} (hm : m < nm) {s s2 : Int64} {e e2 : Nat} {r : Int32} {L1 : List Nd} (q : tb 0 m = 3) (hc : c < m) (ev : v = if tb 3 m ≤ outD (nxt s) (tb 3 m + tb 4 m) then 1 else 0) (ec1 : v = 1 → tb 2 m = nI c) (ec0 : ¬ v = 1 → tb 1 m = nI c) (g1 : GrR ck tb nm nc w c (nxt s) e r L1 s2 e2) (n0 : ¬ r = 0) (l2 : r = 1 → L1.length ≤ wtN tb c * (c + 2)) : GrR ck tb nm nc w m s e r ((some m, v) :: L1) s2 e2 := by
  obtain ⟨c1, g⟩ := r_kid g1 n0
  refine ⟨1 + c1 + 1, fun h p n o Post hh hp M e36 e39 e40 K => ?_⟩
  have ek : kidsT tb (some m, v) = [some c] := by
    rw [kids_3 q]
    by_cases z : v = 1
    · rw [if_pos z, twoN_eq (by omega) (ec1 z)]
    · rw [if_neg z, oneN_eq (by omega) (ec0 z)]
  have kb := kb_one hw hn (v := v) (show okX tb nm (some m, v) from fun m2 e2 => by cases e2; exact ⟨hm, fun z => absurd (q.symm.trans z) (by decide), fun z => absurd (q.symm.trans z) (by decide)⟩) ek
  rw [show n + 1 + (1 + c1 + 1) = ((n + 1) + 1 + c1) + 1 by omega]
  refine r_open (hw m hm) (by omega) (by rw [q]; decide) (by omega) hp M e36 e39 e40 (fun o1 K1 M1 F1 h9 h10 => ?_)
  rw [bg_3 q, ← ev] at M1 F1 h10
  refine g h (p + 1) (n + 1) m p 0 v 0 o1 Post (by omega) (by omega) (by omega) (by omega) (by omega) M1 F1 h10 ⟨fun z => absurd (q.symm.trans z) (by decide), fun _ => ⟨ec1, ec0⟩, fun _ z => absurd q z⟩ (fun y o3 K3 M3 F3 N3 => ?_) (fun y o3 K3 e3 => K.2 y o3 (K1.tr K3 (Nat.le_refl _) (by omega)) e3)
  have l2' := l2 y
  refine r_end M3 F3 (by omega) (by omega) (by rw [q]; decide) (by rw [q]; decide) (fun o4 K4 M4 => ?_)
  obtain ⟨u, v'⟩ := nd_root (K3.tr K4 (Nat.le_refl _) (by omega)) (Nat.lt_succ_self p) h9 h10
  refine K.1 y o4 ((K1.tr K3 (Nat.le_refl _) (by omega)).tr K4 (Nat.le_refl _) (by omega)) ?_ (NdS.cons u v' (K4.nd N3 (by omega)))
  rw [List.length_cons, show p + (L1.length + 1) = p + 1 + L1.length by omega]
  exact M4
theorem r_mapped (hw : ∀ m, m < nm → MkWF tb nc m) (hn : nm ≤ 30) {m a : Nat} (hm : m < nm) {s s2 : Int64} {e e2 : Nat} {r : Int32} {L1 : List Nd} (q : tb 0 m = 4) (ha : a < m) (ea : tb 1 m = nI a) (g1 : GrR ck tb nm nc w a s e r L1 s2 e2) (n0 : ¬ r = 0) (l2 : r = 1 → L1.length ≤ wtN tb a * (a + 2)) : GrR ck tb nm nc w m s e r ((some m, 0) :: L1) s2 e2 := by
  obtain ⟨c1, g⟩ := r_kid g1 n0
  refine ⟨1 + c1 + 1, fun h p n o Post hh hp M e36 e39 e40 K => ?_⟩
  have kb := kb_one hw hn (v := 0) (show okX tb nm (some m, 0) from fun m2 e2 => by cases e2; exact ⟨hm, fun z => absurd (q.symm.trans z) (by decide), fun z => absurd (q.symm.trans z) (by decide)⟩) (show kidsT tb (some m, 0) = [some a] by rw [kids_4 q, oneN_eq (by omega) ea])
  rw [show n + 1 + (1 + c1 + 1) = ((n + 1) + 1 + c1) + 1 by omega]
  refine r_open (hw m hm) (by omega) (by rw [q]; decide) (by omega) hp M e36 e39 e40 (fun o1 K1 M1 F1 h9 h10 => ?_)
  rw [bg_o (Or.inl q)] at M1 F1 h10
  refine g h (p + 1) (n + 1) m p 0 0 0 o1 Post (by omega) (by omega) (by omega) (by omega) (by omega) M1 F1 h10 ⟨fun z => absurd (q.symm.trans z) (by decide), fun z => absurd (q.symm.trans z) (by decide), fun _ _ => ea⟩ (fun y o3 K3 M3 F3 N3 => ?_) (fun y o3 K3 e3 => K.2 y o3 (K1.tr K3 (Nat.le_refl _) (by omega)) e3)
  have l2' := l2 y
  refine r_end M3 F3 (by omega) (by omega) (by rw [q]; decide) (by rw [q]; decide) (fun o4 K4 M4 => ?_)
  obtain ⟨u, v'⟩ := nd_root (K3.tr K4 (Nat.le_refl _) (by omega)) (Nat.lt_succ_self p) h9 h10
  refine K.1 y o4 ((K1.tr K3 (Nat.le_refl _) (by omega)).tr K4 (Nat.le_refl _) (by omega)) ?_ (NdS.cons u v' (K4.nd N3 (by omega)))
  rw [List.length_cons, show p + (L1.length + 1) = p + 1 + L1.length by omega]
  exact M4
/-! lists -/
def SqR (ck : Nat → Ob) (tb : Tb) (nc : Nat) (w : Int32) (m a k : Nat) (s : Int64) (e : Nat) (r : Int32) (L : List Nd) (s2 : Int64) (e2 : Nat) : Prop := ∃ c : Nat, ∀ (h p n i : Nat) (v tr : Int32) (o : Ob) (Post : Int32 → Ob → Prop), h + 1 + a < 59 → m < 30 → i < 1000 → k < 1000 → i < p → p + k * (wtN tb a * (a + 2)) ≤ 744 → MS ck tb nc o (h + 1) p s e → FF o h m i (nI k) tr → o.2.2 10 (4000 + i) = v →
  (r = 1 → ∀ o2, KR h p o o2 → MS ck tb nc o2 (h + 1) (p + L.length) s2 e2 → FF o2 h m i (nI 0) tr → NdS o2 4 p L → w_X10_makes_L25 w Post (n + 1) 0 o2) → (¬ r = 1 → ∀ o2, KR h p o o2 → o2.2.1 34 = nI e2 → Post r o2) → w_X10_makes_L25 w Post (n + 1 + c) 0 o
theorem rq_nil {m a : Nat} {s : Int64} {e : Nat} : SqR ck tb nc w m a 0 s e 1 [] s e :=
  ⟨0, fun h p n i v tr o Post _ _ _ _ _ _ M F hv k1 kN => k1 rfl o KR.rf M F NdS.nil⟩
theorem rq_fail {m a k : Nat} (q : tb 0 m = 1) (ea : tb 1 m = nI a) {s s1 s2 : Int64} {e e1 : Nat} {r : Int32} {L1 L : List Nd} (g1 : GrR ck tb nm nc w a s e r L1 s1 e1) (n1 : ¬ r = 1) (n0 : ¬ r = 0) : SqR ck tb nc w m a (k + 1) s e r L s2 e1 := by
  obtain ⟨c, g⟩ := r_kid g1 n0
  refine ⟨c, fun h p n i v tr o Post hh hm hi hk hip hp M F hv k1 kN => ?_⟩
  rw [Nat.add_mul] at hp
  exact g h p n m i k v tr o Post hh hm hi (by omega) (by omega) M F hv ⟨fun z => absurd (q.symm.trans z) (by decide), fun z => absurd (q.symm.trans z) (by decide), fun _ _ => ea⟩ (fun y => absurd y n1) kN
theorem rq_cons {m a k : Nat} (q : tb 0 m = 1) (ea : tb 1 m = nI a) {s s1 s2 : Int64} {e e1 e2 : Nat} {r : Int32} {L1 L2 : List Nd} (g1 : GrR ck tb nm nc w a s e 1 L1 s1 e1) (l1 : L1.length ≤ wtN tb a * (a + 2)) (g2 : SqR ck tb nc w m a k s1 e1 r L2 s2 e2) (l2 : r = 1 → L2.length ≤ k * (wtN tb a * (a + 2))) : SqR ck tb nc w m a (k + 1) s e r (L1 ++ L2) s2 e2 := by
  obtain ⟨c, g⟩ := r_kid g1 (by decide)
  obtain ⟨c2, g'⟩ := g2
  refine ⟨c2 + c, fun h p n i v tr o Post hh hm hi hk hip hp M F hv k1 kN => ?_⟩
  rw [Nat.add_mul] at hp
  rw [show n + 1 + (c2 + c) = (n + c2) + 1 + c by omega]
  refine g h p (n + c2) m i k v tr o Post hh hm hi (by omega) (by omega) M F hv ⟨fun z => absurd (q.symm.trans z) (by decide), fun z => absurd (q.symm.trans z) (by decide), fun _ _ => ea⟩ (fun _ o2 K2 M2 F2 N2 => ?_) (fun y => absurd rfl y)
  rw [show n + c2 + 1 = n + 1 + c2 by omega]
  refine g' h (p + L1.length) n i v tr o2 Post hh hm hi (by omega) (by omega) (by omega) M2 F2 (by rw [(K2.2.2.2 i hip).2]; exact hv) (fun y o3 K3 M3 F3 N3 => ?_) (fun y o3 K3 e3 => kN y o3 (K2.tr K3 (Nat.le_refl _) (by omega)) e3)
  refine k1 y o3 (K2.tr K3 (Nat.le_refl _) (by omega)) ?_ F3 (NdS.app (K3.nd N2 (Nat.le_refl _)) N3)
  rw [List.length_append, ← Nat.add_assoc]; exact M3
theorem r_list (hw : ∀ m, m < nm → MkWF tb nc m) (hn : nm ≤ 30) {m a c k : Nat} (hm : m < nm) {s s2 : Int64} {e e2 : Nat} {r : Int32} {L1 : List Nd} (q : tb 0 m = 1) (ha : a < m) (ea : tb 1 m = nI a) (ec : tb 3 m = nI c) (hc : c ≤ 24) (en : outD (nxt s) (1 + (if w ≤ nI c then w else nI c)) = nI k) (hkc : k ≤ c) (g1 : SqR ck tb nc w m a k (nxt s) e r L1 s2 e2) (l2 : r = 1 → L1.length ≤ k * (wtN tb a * (a + 2))) : GrR ck tb nm nc w m s e r ((some m, nI k) :: L1) s2 e2 := by
  obtain ⟨c1, g⟩ := g1
  refine ⟨1 + c1 + 1, fun h p n o Post hh hp M e36 e39 e40 K => ?_⟩
  have hX : okX tb nm (some m, nI k) := fun m2 e2 => by cases e2; exact ⟨hm, fun _ => ⟨k, by rw [ec, nI_clamp (by omega)]; exact hkc, rfl⟩, fun z => absurd (q.symm.trans z) (by decide)⟩
  have kb := (kid_bd hn hw hX).1
  rw [kids_1 q, oneN_eq (by omega) ea, nI_clamp (by omega), sumO_rep] at kb
  have kb : 1 + k * (wtN tb a * (a + 2)) + (resT tb (some m, nI k)).length ≤ wtN tb m * (m + 2) := kb
  rw [show n + 1 + (1 + c1 + 1) = ((n + 1) + 1 + c1) + 1 by omega]
  refine r_open (hw m hm) (by omega) (by rw [q]; decide) (by omega) hp M e36 e39 e40 (fun o1 K1 M1 F1 h9 h10 => ?_)
  rw [bg_1 q, ec, en] at M1 F1 h10
  refine g h (p + 1) (n + 1) p (nI k) 0 o1 Post (by omega) (by omega) (by omega) (by omega) (by omega) (by omega) M1 F1 h10 (fun y o3 K3 M3 F3 N3 => ?_) (fun y o3 K3 e3 => K.2 y o3 (K1.tr K3 (Nat.le_refl _) (by omega)) e3)
  have l2' := l2 y
  refine r_end M3 F3 (by omega) (by omega) (by rw [q]; decide) (by rw [q]; decide) (fun o4 K4 M4 => ?_)
  obtain ⟨u, v'⟩ := nd_root (K3.tr K4 (Nat.le_refl _) (by omega)) (Nat.lt_succ_self p) h9 h10
  refine K.1 y o4 ((K1.tr K3 (Nat.le_refl _) (by omega)).tr K4 (Nat.le_refl _) (by omega)) ?_ (NdS.cons u v' (K4.nd N3 (by omega)))
  rw [List.length_cons, show p + (L1.length + 1) = p + 1 + L1.length by omega]
  exact M4
end
