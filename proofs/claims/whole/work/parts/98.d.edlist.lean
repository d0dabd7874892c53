/-! EDITS: a list, both sides -/
section
variable {ck : Nat → Ob} {tb : Tb} {nm nc : Nat}
theorem ed_list (hw : ∀ m, m < nm → MkWF tb nc m) (hn : nm ≤ 30) {m0 tr : Nat} (hm0 : m0 < nm) (h3 : tr ≠ 3) {R : List Nd} {c : List Frm} {x : Nd} {L1 : List Nd} {t : Option Nat} (S : SiN tb nm nc m0 R c x L1 t) (hB : BN nm R) (q : kindN tb x = 1) {d : Nat} (hd : d ≤ 1000) : EdB ck tb nm nc tr m0 R (posC tb c) d (posR c, false) d := by
  obtain ⟨h0, h1, h2, hk⟩ := id S
  obtain ⟨m, hm, q1⟩ := kind_maker q (by decide)
  have hx : x = (some m, x.2) := Prod.ext hm rfl
  have hxR : R[posR c]? = some x := by rw [← h0]; exact fil_at
  have hmn := hB x (List.mem_of_getElem? hxR) m hm
  obtain ⟨-, -, -, -, w1, -⟩ := hw m hmn
  obtain ⟨a, -, -, b, b1, b2, b3, -⟩ := w1 q1
  have hcR := fil_CF c t (x :: L1) h1 S.cf
  rw [h0] at hcR
  obtain ⟨n, n1, n2⟩ := (h2.2 m (h2.1.symm.trans hm)).1 q1
  rw [b3, nI_clamp (by omega)] at n1
  -- both sides, from the search of the chunk
  have cl : ∀ (sk sb sn : Ob) (P : Int32 → Ob → Ob → Ob → Prop), sk.2.1 4 = nI (posC tb c) → sk.2.1 5 = nI d → TreeC sb (cenc tb R) → (∃ g, w_X7_shorten_L19 (nI n) (fun (k2_43 : Int32) (k3_43 : Int32) (sk_k43 : Ob) (sb_k43 : Ob) (sn_k43 : Ob) => ((0 < k2_43) → w_X8_copy   sn_k43 sb_k43 (fun (sn_9 : Ob) (sb_10 : Ob) => w_X8_dropFromRow  (sk_k43.2.1 4) (k3_43 * k2_43) k2_43 sn_9 (fun (sn_12 : Ob) => ((1 : Int32) = 0 ∨ (1 : Int32) = 1) ∧ P 1 sk_k43 sb_10 sn_12))) ∧ (¬ (0 < k2_43) → ((0 : Int32) = 0 ∨ (0 : Int32) = 1) ∧ P 0 sk_k43 sb_k43 sn_k43)) (fun (r9 : Int32) (sk_10 : Ob) (sb_11 : Ob) (sn_12 : Ob) => (r9 = 0 ∨ r9 = 1) ∧ (P r9 sk_10 sb_11 sn_12)) g (nI n) (nI d) sk sb sn) → w_X7_edit sk sb sn P := by
    intro sk sb sn P h4 h5 hT h
    obtain ⟨p1, p2, p3, -⟩ := site_part hw hn hm0 S hT
    have hz := hT.1
    have hl := hT.2.1
    rw [hx, cn_1 q1] at p3
    unfold w_X7_edit
    rw [h4]
    refine c_get0 hz p1 hl ?_
    rw [p2, q]
    refine ⟨fun z => absurd z (by decide), fun _ => ?_, fun z => absurd z (by decide), fun z => absurd rfl z.2.2.1⟩
    unfold w_X7_shorten
    rw [h4, h5]
    refine c_get1 hz p1 hl ?_
    rw [p3]
    show ∃ n19, w_X7_shorten_L19 x.2 _ _ n19 x.2 (nI d) sk sb sn
    rw [n2]
    exact h
  have ml : ∀ (o : Ob) (P : Int32 → Ob → Prop), BS tb nm nc o tr R → o.2.1 42 = nI (posR c) → o.2.1 43 = b2i false → o.2.1 44 = nI d → (∃ g, w_X10_listChange_L8 (nI (posR c)) (nI n) (fun (k3_25 : Int32) (k4_25 : Int32) (o_k25 : Ob) => w_X10_tryWithout  (nI (posR c)) (k4_25 * k3_25) k4_25 o_k25 (fun (o_5 : Ob) => ((1 : Int32) = 0 ∨ (1 : Int32) = 1) ∧ (P 1 o_5))) (fun (r14 : Int32) (o_15 : Ob) => (r14 = 0 ∨ r14 = 1) ∧ (P r14 o_15)) g (nI d) (nI n) o) → w_X10_changes o P := by
    intro o P BS' h42 h43 h44 h
    refine m_ch0 BS' hxR h42 h43 hB hn (fun z _ => ?_) (fun m' hm' z => absurd (q.symm.trans z) (by decide)) (fun _ => ?_) (fun z => absurd (q.symm.trans z) (by decide))
    · rcases z with z | z
      · exact absurd (q.symm.trans z) (by decide)
      · exact absurd q z.2.1
    · unfold w_X10_listChange
      rw [h44, n2]
      exact h
  rcases list_cut (n := n) (by omega) n n d (Nat.le_refl _) (Nat.le_refl _) hd with ⟨l', la, lb⟩ | ⟨c', l', a1, a2, a3, a4, a5, a6⟩
  · refine Or.inl ⟨fun sk sb sn P h4 h5 hT k => cl sk sb sn P h4 h5 hT (la _ _ sk sb sn ⟨fun z => absurd z (by decide), fun _ => ⟨Or.inl rfl, k⟩⟩), fun o P BS' h42 h43 h44 k => ml o P BS' h42 h43 h44 (lb _ _ _ o ⟨Or.inl rfl, k⟩)⟩
  · have hk' : CF tb L1 (List.replicate (c' * l') (some (oneN tb m)) ++ (List.replicate c' (some (oneN tb m)) ++ List.replicate (n - (c' * l' + c')) (some (oneN tb m)))) := by
      rw [hx, kids_1 q1, n2, nI_clamp (by omega)] at hk
      rw [List.replicate_append_replicate, List.replicate_append_replicate, show c' * l' + (c' + (n - (c' * l' + c'))) = n by omega]
      exact hk
    obtain ⟨K1, L', rfl, k1, k'⟩ := CF_split L1 _ _ hk'
    obtain ⟨K2, K3, rfl, k2, k3⟩ := CF_split L' _ _ k'
    have ok : okN tb t (x.1, nI (n - c')) := ls_ok h2 q n2 (by omega) (by omega) ⟨b, b2, fun m' hm' => by rw [hm] at hm'; cases hm'; exact b3⟩
    have hv1 : kidsT tb (x.1, nI (n - c')) = List.replicate (c' * l') (some (oneN tb m)) ++ List.replicate (n - (c' * l' + c')) (some (oneN tb m)) := by
      rw [hm, kids_1 q1, nI_clamp (by omega), List.replicate_append_replicate]; congr 1; omega
    have hcf : CF tb ((x.1, nI (n - c')) :: (K1 ++ K3)) [t] := ⟨t, [], rfl, ok, by rw [List.append_nil, hv1]; exact CF_app k3 _ _ k1⟩
    have lr : ∀ k : Nat, (List.replicate k (some (oneN tb m))).length = k := fun k => List.length_replicate
    refine Or.inr ⟨c, t, x :: (K1 ++ (K2 ++ K3)), (x.1, nI (n - c')) :: (K1 ++ K3), h1, S.cf, hcf, ⟨m, h2.1.symm.trans hm⟩, h0.symm, rfl, Or.inl rfl, fun sk sb sn P h4 h5 hT k => cl sk sb sn P h4 h5 hT (a5 _ _ sk sb sn ⟨fun _ => c_copy hT (fun sn0 T0 => ?_), fun z => absurd (?_ : (0 : Int32) < nI c') z⟩), fun o P BS' h42 h43 h44 k => ml o P BS' h42 h43 h44 (a6 _ _ _ o (m_two hw hn h3 h0 n2 a2 (by omega) (by omega) k1 k2 (lr _) (lr _) hcR hB BS' (fun o2 f1 f2 f3 => ⟨Or.inr rfl, k o2 f1 f2 f3⟩))), by omega⟩
    · rw [h4]
      exact c_drop hw hn hm0 S hm q1 n2 (by omega) a1 a2 k1 k2 k3 (lr _) (lr _) (by omega) hv1 ok T0 (fun sn' hE => ⟨Or.inr rfl, k sn' hE⟩)
    · exact Int32.not_le.mp (nI_nle a1 (by omega))
end
