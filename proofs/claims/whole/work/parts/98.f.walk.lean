/-! SHRINKING: the walk, by induction -/
section
variable {ck : Nat → Ob} {tb : Tb} {nm nc : Nat}
theorem MM_up {R : List Nd} {i d : Nat} (hi : i < (cenc tb R).length) : MM tb R (i + 1) 0 + 1 ≤ MM tb R i d + (d - 1000) := by
  unfold MM
  generalize (cenc tb R).length = z at *
  have : z - i = z - (i + 1) + 1 := by omega
  rw [this, Nat.add_mul]
  omega
theorem MM_dn {R : List Nd} {i d : Nat} (hd : d ≤ 1000) : MM tb R i (d + 1) + 1 ≤ MM tb R i d := by
  unfold MM
  omega
theorem r_skip (hw : ∀ m, m < nm → MkWF tb nc m) (hn : nm ≤ 30) {m0 tr : Nat} (hm0 : m0 < nm) (h3 : tr ≠ 3) {R R' : List Nd} (hcR : CF tb R [some m0]) {e ch' e' P n : Nat} {r : Int32} {s' : Nat × Bool} (hP : P + n < (cenc tb R).length) (hl : (cenc tb R).length ≤ 744) (h8 : ∀ k, k < n → (bT (cenc tb R)).2.2 0 (P + 1 + k) = 8) (g : RSp ck tb nm nc tr R (siA tb R (P + 1 + n)) 0 e r R' s' ch' e') : ∀ j, j ≤ n → RSp ck tb nm nc tr R (siA tb R (P + 1 + n - j)) 0 e r R' s' ch' e' := by
  have hB := CF_BN hw hn hm0 hcR
  have hT := bT_ok hl
  intro j
  induction j with
  | zero => intro _; exact g
  | succ j ih =>
    intro hj
    have g := ih (by omega)
    have hi : P + 1 + n - (j + 1) < (cenc tb R).length := by omega
    have k8 := h8 (n - (j + 1)) (by omega)
    rw [show P + 1 + (n - (j + 1)) = P + 1 + n - (j + 1) by omega] at k8
    obtain ⟨c, y, L1, t, S, h⟩ := ctx_b hw hn hm0 hcR hT hi
    rcases h with ⟨e1, e2, e3⟩ | ⟨-, -, -, k9⟩
    · have hyR : R[posR c]? = some y := by rw [← S.1]; exact fil_at
      have lt := (List.getElem?_eq_some_iff.mp hyR).1
      rw [k8] at e3
      have hy : y.1 = none := by
        cases hm : y.1 with
        | none => rfl
        | some v => exact absurd ((kind_some hm).symm.trans e3.symm) (kind_n8 (hw v (hB y (List.mem_of_getElem? hyR) v hm)))
      have nx := site_nx hcR hi
      rw [show P + 1 + n - (j + 1) + 1 = P + 1 + n - j by omega] at nx
      rw [e2] at nx ⊢
      exact r_no hw hn h3 hcR hB lt (ch_none hn hB hyR hy) nx g
    · exact absurd (k8.symm.trans k9) (by decide)
theorem adv_all (hw : ∀ m, m < nm → MkWF tb nc m) (hn : nm ≤ 30) (hck : ∀ i, i < nc → CkWF (ck i) i) (hnc : nc ≤ 40) {m0 tr : Nat} (hm0 : m0 < nm) (h3 : tr ≠ 3) {R : List Nd} (hcR : CF tb R [some m0]) : ∀ (N i d e : Nat) (s : Nat × Bool) (ch : Nat), MM tb R i d ≤ N → e ≤ 1500 → d ≤ 600 → RelS tb nm nc m0 R i d s ch → Adv ck tb nm nc tr m0 R i d e s ch := by
  have hB := CF_BN hw hn hm0 hcR
  obtain ⟨hl, -⟩ := CF_b1 hn hw hcR hm0 hB
  have hT := bT_ok hl
  intro N
  induction N with
  | zero => intro i d e s ch hN he hd _; unfold MM at hN; omega
  | succ N ih =>
    intro i d e s ch hN he hd hrel
    rcases hrel with ⟨e1, e2⟩ | ⟨hi, e2, e3, n8, n6⟩ | ⟨c, x, l, m, Sh, e1, e2, e2', e3, e4⟩ | ⟨c, x, l, m, k, Sh, hk, e1, e2, e2', e3, e4⟩
    · exact ⟨0, [], 0, 0, (0, false), 0, e, Nat.le_refl _, Or.inr (Or.inl rfl), fun z => absurd z (by decide), c_over hl e1 (by omega), r_over (by rw [e2])⟩
    · subst e3
      subst e2
      have up : MM tb R (i + 1) 0 ≤ N := by have := MM_up (tb := tb) (R := R) (d := ch) hi; omega
      have upd' : MM tb R i (ch + 1) ≤ N := by have := MM_dn (tb := tb) (R := R) (i := i) (d := ch) (by omega); omega
      have next : Adv ck tb nm nc tr m0 R (i + 1) 0 e (siA tb R (i + 1)) 0 := by
        refine ih (i + 1) 0 e _ 0 up he (by omega) (ent hw hn hm0 hcR hi (fun q z => ?_))
        rcases kd8 hw hn hm0 hcR hT q z with y | y
        · exact n6 y
        · exact n8 y
      have fin : (siA tb R i).1 < R.length → EdB ck tb nm nc tr m0 R i ch (siA tb R i) ch → Adv ck tb nm nc tr m0 R i ch e (siA tb R i) ch := by
        intro lt h
        rcases h with ⟨q1, q2⟩ | ⟨c, t, Tc, T, q1, q2, q3, q4, q5, q6, q7, q8, q9, q10⟩
        · exact adv_no hw hl hi (by omega) q1 (fun r R' s' ch' e' g => r_no hw hn h3 hcR hB lt q2 (site_nx hcR hi) g) next
        · exact adv_yes hw hn hck hnc hm0 h3 hcR hl hi q10 (by omega) he q1 q2 q3 q4 q5 q6 q7 q8 q9 (Or.inr (Or.inl ⟨hi, rfl, rfl, n8, n6⟩)) (fun e2 he2 => ih i (ch + 1) e2 _ (ch + 1) upd' (by omega) (by omega) (Or.inr (Or.inl ⟨hi, rfl, rfl, n8, n6⟩)))
      obtain ⟨c, x, L1, t, S, h⟩ := ctx_b hw hn hm0 hcR hT hi
      have hxR : R[posR c]? = some x := by rw [← S.1]; exact fil_at
      have ltR := (List.getElem?_eq_some_iff.mp hxR).1
      rcases h with ⟨g1, g2, g3⟩ | ⟨k7, g1, g2, -⟩
      · rw [g3] at n8 n6
        rw [g2] at fin ⊢
        refine fin ltR ?_
        rw [g1]
        by_cases k0 : kindN tb x = 0
        · exact ed_whole hw hn hm0 h3 S hB k0 (by omega)
        · by_cases k1 : kindN tb x = 1
          · exact ed_list hw hn hm0 h3 S hB k1 (by omega)
          · refine ed_none hw hn hm0 S hB ⟨k0, fun z => ?_, k1, n8, n6⟩
            obtain ⟨v, hm, q⟩ := kind_maker z (by decide)
            rcases kind_cases (hw v (hB x (List.mem_of_getElem? hxR) v hm)) with y | y | y | y | y | y | y | y <;> exact absurd (q.symm.trans y) (by decide)
      · rw [g2] at fin ⊢
        refine fin ltR ?_
        rw [g1]
        exact ed_rest hw hn hm0 h3 S hB k7 (by omega)
    · obtain ⟨p1, -⟩ := sh_part hw hn hm0 Sh hT
      have l1 : 1 ≤ l.length := Sh.2.2.2.2.1
      have hi : i < (cenc tb R).length := by omega
      refine adv_no hw hl hi (by omega) (by rw [e1]; exact ed_shx hw hn hm0 Sh) (fun r R' s' ch' e' g => g) (ih (i + 1) 0 e s ch (by have := MM_up (tb := tb) (R := R) (d := d) hi; omega) he (by omega) (Or.inr (Or.inr (Or.inr ⟨c, x, l, m, 0, Sh, by omega, by omega, e2, e2', ?_, Or.inl rfl⟩))))
      rw [e4]; rfl
    · obtain ⟨p1, p2⟩ := sh_part hw hn hm0 Sh hT
      have l2 : l.length ≤ 24 := Sh.2.2.2.2.2
      have hi : i < (cenc tb R).length := by omega
      have db := desc_b (l := l) k
      have hxR : R[posR c]? = some x := by rw [← Sh.1.1]; exact fil_at
      have ltR := (List.getElem?_eq_some_iff.mp hxR).1
      have up : MM tb R (i + 1) 0 ≤ N := by have := MM_up (tb := tb) (R := R) (d := d) hi; omega
      have ds : desc l (k + 1) = desc l k + (if l.getD (k + 1) 0 < l.getD k 0 then 1 else 0) := rfl
      rcases e4 with d0 | ⟨d1, k1, lt⟩
      · subst d0
        rw [Nat.add_zero] at e3
        by_cases k1 : k + 1 < l.length
        · by_cases lt : l.getD (k + 1) 0 < l.getD k 0
          · obtain ⟨y1, y2⟩ := ed_shy hw hn hm0 Sh k1 lt
            have y3 := (ch_sh (tr := tr) (k0 := k) hn h3 Sh hB).2 k1 lt
            have rel : RelS tb nm nc m0 R i (0 + 1) s (ch + 1) := Or.inr (Or.inr (Or.inr ⟨c, x, l, m, k, Sh, hk, e1, e2, e2', by omega, Or.inr ⟨rfl, k1, lt⟩⟩))
            refine adv_yes hw hn hck hnc hm0 h3 hcR hl hi (by omega) (by omega) he Sh.1.2.1 Sh.1.cf (sh_node Sh swL_len) ⟨m, rfl⟩ Sh.1.1.symm (by rw [e2]) (by rw [e1]; exact y2) (by rw [e1]; exact y1) (by rw [e2, e3]; exact y3) rel (fun e2 he2 => ih i (0 + 1) e2 s (ch + 1) (by have := MM_dn (tb := tb) (R := R) (i := i) (d := 0) (by omega); omega) (by omega) (by omega) rel)
          · refine adv_no hw hl hi (by omega) (by rw [e1]; exact ed_sh0 hw hn hm0 Sh hk (Or.inr lt)) (fun r R' s' ch' e' g => g) (ih (i + 1) 0 e s ch up he (by omega) (Or.inr (Or.inr (Or.inr ⟨c, x, l, m, k + 1, Sh, k1, by omega, e2, e2', ?_, Or.inl rfl⟩))))
            rw [ds, if_neg lt, e3]; rfl
        · have ek : k + 1 = l.length := by omega
          have y3 := (ch_sh (tr := tr) (k0 := k) hn h3 Sh hB).1 ek
          have hi2 : i + 1 = posC tb c + 1 + l.length := by omega
          have n8 : i + 1 < (cenc tb R).length → ¬ (bT (cenc tb R)).2.2 0 (i + 1) = 8 := by
            intro q
            obtain ⟨Si, hm, q6, ev, n1, n2⟩ := id Sh
            obtain ⟨h0, h1, h2, hkk⟩ := id Si
            have hT' := hT
            rw [← h0] at hT'
            obtain ⟨E1, E2, E3⟩ := tree_ed hw hn hm0 h1 Si.cf hT'
            obtain ⟨-, hB2, -, -, b2, -⟩ := hole_all hw hn hm0 h1 Si.cf
            obtain ⟨e1', -⟩ := sh_cenc hm q6 ev n2
            have len : (cenc tb (x :: plN l)).length = l.length + 1 := by rw [e1', List.length_cons, pl_len]
            have A := aft hw c (some m) (x :: plN l) _ ⟨m, rfl⟩ h1 hB2 E3
            rw [len] at A b2
            rw [h0] at b2
            rw [show posC tb c + (l.length + 1) = i + 1 by omega] at A
            rcases A with A | ⟨-, A⟩
            · omega
            · rw [h0] at A; exact A
          refine adv_no hw hl hi (by omega) (by rw [e1]; exact ed_sh0 hw hn hm0 Sh hk (Or.inl ek)) (fun r R' s' ch' e' g => ?_) (ih (i + 1) 0 e (siA tb R (i + 1)) 0 up he (by omega) (ent hw hn hm0 hcR hi n8))
          rw [hi2] at g
          have g2 := r_skip hw hn hm0 h3 hcR (P := posC tb c) (n := l.length) (by omega) hl (fun k' hk' => (p2 k' _ (get_of hk')).1) g l.length (Nat.le_refl _)
          rw [Nat.add_sub_cancel] at g2
          have nx := site_nx hcR (i := posC tb c) (by omega)
          rw [← e2', e2] at nx
          rw [e2, e3]
          exact r_no hw hn h3 hcR hB ltR y3 nx g2
      · subst d1
        refine adv_no hw hl hi (by omega) (by rw [e1]; exact ed_sh1 hw hn hm0 Sh hk (by omega) (by omega)) (fun r R' s' ch' e' g => g) (ih (i + 1) 0 e s ch up he (by omega) (Or.inr (Or.inr (Or.inr ⟨c, x, l, m, k + 1, Sh, k1, by omega, e2, e2', ?_, Or.inl rfl⟩))))
        rw [ds, if_pos lt, e3]
end
