/-! SHRINKING: the walk over the sites, both sides -/
def bT (C : List CN) : Ob := (fun _ => 0, fun _ => nI C.length, fun f i => if f = 0 then (C.getD i (0, 0, 0)).1 else if f = 1 then (C.getD i (0, 0, 0)).2.1 else if f = 2 then (C.getD i (0, 0, 0)).2.2 else if f = 3 then parI C i else nI (enC C i))
theorem bT_ok {C : List CN} (h : C.length ≤ 744) : TreeC (bT C) C := by
  refine ⟨rfl, h, fun p c hc => ?_⟩
  have e : C.getD p (0, 0, 0) = c := by rw [List.getD_eq_getElem?_getD, hc]; rfl
  refine ⟨?_, ?_, ?_, rfl, rfl⟩
  · show (C.getD p (0, 0, 0)).1 = _; rw [e]
  · show (C.getD p (0, 0, 0)).2.1 = _; rw [e]
  · show (C.getD p (0, 0, 0)).2.2 = _; rw [e]
def siA (tb : Tb) (R : List Nd) (i : Nat) : Nat × Bool := (stN tb R 0).getD i (R.length, false)
section
variable {ck : Nat → Ob} {tb : Tb} {nm nc : Nat}
theorem setl_ok {m0 : Nat} : ∀ (c : List Frm) (t : Option Nat) (T : List Nd) (e : Nat), CFx tb c t (some m0) → CF tb T [t] → ((setl ck tb c T e).1 = 1 → CF tb (setl ck tb c T e).2.1 [some m0]) ∧ (setl ck tb c T e).2.2 ≤ e ∧ ((setl ck tb c T e).1 = 1 ∨ (setl ck tb c T e).1 = 0 ∨ (setl ck tb c T e).1 = -6) := by
  intro c
  induction c with
  | nil =>
    intro t T e h1 h2
    rw [show t = some m0 from h1] at h2
    exact ⟨fun _ => h2, Nat.le_refl _, Or.inl rfl⟩
  | cons f c ih =>
    intro t T e h1 h2
    obtain ⟨u, pre, post, o1, o2, o3, o4, o5⟩ := h1
    have sS : setl ck tb (f :: c) T e = (if kindN tb f.1 = 7 then setl ck tb c ((f.1.1, lowV f.1.2 (sumL tb T)) :: T) e else if kindN tb f.1 = 5 then (if e = 0 then (-6, [], 0) else if vdL ck tb T (ckN tb f.1) = 1 then setl ck tb c (fil1 f T) (e - 1) else (0, [], e - 1)) else setl ck tb c (fil1 f T) e) := rfl
    have hT1 := (fil1_CF o1 o2 o3 o4 h2).2
    rw [sS]
    by_cases y7 : kindN tb f.1 = 7
    · rw [if_pos y7]
      obtain ⟨mk, hmk, hkid⟩ := kid_57 (tb := tb) (Or.inl y7)
      obtain ⟨et, -⟩ := one_kid o2 o3 o4 (show kidsT tb f.1 = [some (oneN tb mk)] from hkid f.1.2)
      refine ih u _ e o5 ⟨u, [], rfl, lower_ok o1 y7, ?_⟩
      rw [List.append_nil, hkid, ← et]; exact h2
    · rw [if_neg y7]
      by_cases y5 : kindN tb f.1 = 5
      · rw [if_pos y5]
        by_cases e0 : e = 0
        · rw [if_pos e0]
          exact ⟨fun z => absurd z (show ¬ (-6 : Int32) = 1 by decide), Nat.zero_le _, Or.inr (Or.inr rfl)⟩
        · rw [if_neg e0]
          by_cases v1 : vdL ck tb T (ckN tb f.1) = 1
          · rw [if_pos v1]
            obtain ⟨a, b, d⟩ := ih u _ (e - 1) o5 hT1
            exact ⟨a, by omega, d⟩
          · rw [if_neg v1]
            exact ⟨fun z => absurd z (show ¬ (0 : Int32) = 1 by decide), Nat.sub_le _ _, Or.inr (Or.inl rfl)⟩
      · rw [if_neg y5]; exact ih u _ e o5 hT1
theorem none_kid {v : Nat} {w : Int32} (W : MkWF tb nc v) (h : none ∈ kidsT tb (some v, w)) : tb 0 v = 6 := by
  rcases kind_cases W with q | q | q | q | q | q | q | q
  · rw [kids_0 q] at h; cases h
  · rw [kids_1 q, List.mem_replicate] at h; cases h.2
  · rw [kids_2 q] at h
    rcases List.mem_cons.mp h with z | h
    · cases z
    · rcases List.mem_cons.mp h with z | h
      · cases z
      · cases h
  · rw [kids_3 q] at h
    rcases List.mem_cons.mp h with z | h
    · cases z
    · cases h
  · rw [kids_4 q] at h
    rcases List.mem_cons.mp h with z | h
    · cases z
    · cases h
  · rw [kids_5 q] at h
    rcases List.mem_cons.mp h with z | h
    · cases z
    · cases h
  · exact q
  · rw [kids_7 q] at h
    rcases List.mem_cons.mp h with z | h
    · cases z
    · cases h
/-- a part, its site, its kind -/
theorem ctx_b (hw : ∀ m, m < nm → MkWF tb nc m) (hn : nm ≤ 30) {m0 : Nat} (hm0 : m0 < nm) {R : List Nd} (hcR : CF tb R [some m0]) {b : Ob} (hT : TreeC b (cenc tb R)) {i : Nat} (hi : i < (cenc tb R).length) : ∃ (c : List Frm) (x : Nd) (L1 : List Nd) (t : Option Nat), SiN tb nm nc m0 R c x L1 t ∧ ((i = posC tb c ∧ siA tb R i = (posR c, false) ∧ b.2.2 0 i = kindN tb x) ∨ (kindN tb x = 7 ∧ i = posC tb c + 1 + (cenc tb L1).length ∧ siA tb R i = (posR c, true) ∧ b.2.2 0 i = 9)) := by
  obtain ⟨c, x, L1, t, h0, h1, h2, h3, h4⟩ := ctx_at R.length R (some m0) (Nat.le_refl _) hcR i hi
  have S : SiN tb nm nc m0 R c x L1 t := ⟨h0, h1, h2, h3⟩
  obtain ⟨p1, p2, p3, p4, p5, p6, p7⟩ := site_part hw hn hm0 S hT
  refine ⟨c, x, L1, t, S, ?_⟩
  have sg : ∀ s, (stN tb R 0)[i]? = some s → siA tb R i = s := fun s hs => by unfold siA; rw [List.getD_eq_getElem?_getD, hs]; rfl
  rcases h4 with ⟨e, g⟩ | ⟨hb, e, g⟩
  · refine Or.inl ⟨e, ?_, by rw [e]; exact p2⟩
    rw [sg _ (g 0), Nat.zero_add]
  · refine Or.inr ⟨of_decide_eq_true hb, e, ?_, ?_⟩
    · rw [sg _ (g 0), Nat.zero_add]
    · have r : ∃ v, resT tb x = [(9, v, 0)] := by unfold resT; rw [if_pos hb]; exact ⟨_, rfl⟩
      obtain ⟨v, r⟩ := r
      have := (p7 (cenc tb L1).length (9, v, 0) (by rw [r, List.getElem?_append_right (Nat.le_refl _), Nat.sub_self]; rfl)).1
      rw [e]; exact this
theorem site_nx {m0 : Nat} {R : List Nd} (hcR : CF tb R [some m0]) {i : Nat} (hi : i < (cenc tb R).length) : NxS tb R (siA tb R i) (siA tb R (i + 1)) := by
  have hk7 : ∀ x ∈ R, bel tb x = true → ¬ kidsT tb x = [] := by
    intro x _ hb z
    obtain ⟨mk, -, hkid⟩ := kid_57 (tb := tb) (Or.inl (of_decide_eq_true hb : kindN tb x = 7))
    have := hkid x.2
    rw [show ((x.1, x.2) : Nd) = x from rfl, z] at this
    cases this
  obtain ⟨a, b⟩ := sites hk7 R [some m0] hcR 0 (fun k _ => by rw [Nat.zero_add]) (fun k _ => by unfold enN; rw [Nat.zero_add]) (fun k hk => absurd hk (Nat.not_lt_zero _))
  have ln := stN_len (tb := tb) R 0
  have e1 : (stN tb R 0)[i]? = some (siA tb R i) := by
    unfold siA
    rw [List.getD_eq_getElem?_getD, List.getElem?_eq_getElem (by omega)]; rfl
  rcases Nat.lt_or_ge (i + 1) (cenc tb R).length with q | q
  · refine a i _ _ e1 ?_
    unfold siA
    rw [List.getD_eq_getElem?_getD, List.getElem?_eq_getElem (by omega)]; rfl
  · have e2 : siA tb R (i + 1) = (R.length, false) := by
      unfold siA
      rw [List.getD_eq_getElem?_getD, List.getElem?_eq_none (by omega)]; rfl
    have hl : (stN tb R 0).getLast? = some (siA tb R i) := by
      rw [List.getLast?_eq_getElem?, ln, show (cenc tb R).length - 1 = i by omega]; exact e1
    obtain ⟨-, b2, b3⟩ := b _ hl
    rw [Nat.zero_add] at b2 b3
    rw [e2]
    exact Or.inr ⟨rfl, b2.symm, fun k hk => by rw [b2]; exact b3 k (Nat.zero_le _) hk⟩
/-- before a place stands its row's head or a place -/
theorem kd8 (hw : ∀ m, m < nm → MkWF tb nc m) (hn : nm ≤ 30) {m0 : Nat} (hm0 : m0 < nm) {R : List Nd} (hcR : CF tb R [some m0]) {b : Ob} (hT : TreeC b (cenc tb R)) {i : Nat} (hi : i + 1 < (cenc tb R).length) (h8 : b.2.2 0 (i + 1) = 8) : b.2.2 0 i = 6 ∨ b.2.2 0 i = 8 := by
  have hB := CF_BN hw hn hm0 hcR
  obtain ⟨c, y, L1, t, S, h⟩ := ctx_b hw hn hm0 hcR hT hi
  rcases h with ⟨e, -, k8⟩ | ⟨-, -, -, k9⟩
  · rw [h8] at k8
    have hy : y.1 = none := by
      cases hm : y.1 with
      | none => rfl
      | some v =>
        have hyR : R[posR c]? = some y := by rw [← S.1]; exact fil_at
        exact absurd ((kind_some hm).symm.trans k8.symm) (kind_n8 (hw v (hB y (List.mem_of_getElem? hyR) v hm)))
    have hcf := S.cf
    obtain ⟨h0, h1, h2, h3⟩ := S
    have ht : t = none := h2.1.symm.trans hy
    subst ht
    cases c with
    | nil => exact absurd (show (none : Option Nat) = some m0 from h1) (by intro z; cases z)
    | cons f c =>
      obtain ⟨u, pre, post, o1, o2, o3, o4, o5⟩ := h1
      obtain ⟨w1, w2⟩ := fil1_CF o1 o2 o3 o4 hcf
      have S2 : SiN tb nm nc m0 R c f.1 (f.2.1 ++ (y :: L1) ++ f.2.2) u := ⟨h0, o5, o1, w1⟩
      have k6 : kindN tb f.1 = 6 := by
        cases hm : f.1.1 with
        | none =>
          have hx : f.1 = (none, f.1.2) := Prod.ext hm rfl
          rw [hx, kids_n] at o2
          have := congrArg List.length o2
          rw [List.length_append, List.length_cons] at this
          have : 0 = pre.length + (post.length + 1) := this
          omega
        | some v =>
          have hfR : R[posR c]? = some f.1 := by rw [← S2.1]; exact fil_at
          have hx : f.1 = (some v, f.1.2) := Prod.ext hm rfl
          rw [kind_some hm]
          refine none_kid (w := f.1.2) (hw v (hB f.1 (List.mem_of_getElem? hfR) v hm)) ?_
          rw [← hx, o2]; exact List.mem_append_right _ List.mem_cons_self
      obtain ⟨l, m', eL, -, Sh⟩ := sh_of hw S2 hB k6
      obtain ⟨g1, g2⟩ := sh_part hw hn hm0 Sh hT
      obtain ⟨p1, p2, -⟩ := site_part hw hn hm0 S2 hT
      have len : (cenc tb f.2.1).length ≤ l.length := by
        have : (cenc tb (f.2.1 ++ (y :: L1) ++ f.2.2)).length = l.length := by rw [eL, plN_cenc, pl_len]
        rw [List.append_assoc, cenc_app _ _ o3, List.length_append] at this
        omega
      have e : i + 1 = posC tb c + 1 + (cenc tb f.2.1).length := e
      cases hk : (cenc tb f.2.1).length with
      | zero => left; rw [show i = posC tb c by omega, p2, k6]
      | succ k =>
        right
        obtain ⟨a0, -⟩ := g2 k _ (get_of (by omega))
        rw [show i = posC tb c + 1 + k by omega]; exact a0
  · exact absurd (h8.symm.trans k9) (by decide)
def RelS (tb : Tb) (nm nc m0 : Nat) (R : List Nd) (i d : Nat) (s : Nat × Bool) (ch : Nat) : Prop :=
  (i = (cenc tb R).length ∧ s = (R.length, false)) ∨
  (i < (cenc tb R).length ∧ s = siA tb R i ∧ ch = d ∧ ¬ (bT (cenc tb R)).2.2 0 i = 8 ∧ ¬ (bT (cenc tb R)).2.2 0 i = 6) ∨
  (∃ c x l m, ShN tb nm nc m0 R c x l m ∧ i = posC tb c ∧ s = (posR c, false) ∧ s = siA tb R (posC tb c) ∧ d = 0 ∧ ch = 0) ∨
  (∃ c x l m k, ShN tb nm nc m0 R c x l m ∧ k < l.length ∧ i = posC tb c + 1 + k ∧ s = (posR c, false) ∧ s = siA tb R (posC tb c) ∧ ch = desc l k + d ∧ (d = 0 ∨ (d = 1 ∧ k + 1 < l.length ∧ l.getD (k + 1) 0 < l.getD k 0)))
theorem ent (hw : ∀ m, m < nm → MkWF tb nc m) (hn : nm ≤ 30) {m0 : Nat} (hm0 : m0 < nm) {R : List Nd} (hcR : CF tb R [some m0]) {i : Nat} (hi : i ≤ (cenc tb R).length) (h8 : i < (cenc tb R).length → ¬ (bT (cenc tb R)).2.2 0 i = 8) : RelS tb nm nc m0 R i 0 (siA tb R i) 0 := by
  have hB := CF_BN hw hn hm0 hcR
  obtain ⟨b1, -⟩ := CF_b1 hn hw hcR hm0 hB
  have hT := bT_ok b1
  rcases Nat.lt_or_ge i (cenc tb R).length with q | q
  · by_cases k6 : (bT (cenc tb R)).2.2 0 i = 6
    · obtain ⟨c, x, L1, t, S, h⟩ := ctx_b hw hn hm0 hcR hT q
      rcases h with ⟨e, g, k⟩ | ⟨-, -, -, k9⟩
      · rw [k6] at k
        obtain ⟨l, m', -, -, Sh⟩ := sh_of hw S hB k.symm
        exact Or.inr (Or.inr (Or.inl ⟨c, x, l, m', Sh, e, g, by rw [e], rfl, rfl⟩))
      · exact absurd (k6.symm.trans k9) (by decide)
    · exact Or.inr (Or.inl ⟨q, rfl, rfl, h8 q, k6⟩)
  · refine Or.inl ⟨by omega, ?_⟩
    unfold siA
    rw [List.getD_eq_getElem?_getD, List.getElem?_eq_none (by rw [stN_len]; exact q)]; rfl
def Adv (ck : Nat → Ob) (tb : Tb) (nm nc tr m0 : Nat) (R : List Nd) (i d e : Nat) (s : Nat × Bool) (ch : Nat) : Prop := ∃ (r : Int32) (R' : List Nd) (i' d' : Nat) (s' : Nat × Bool) (ch' e' : Nat), e' ≤ e ∧ (r = 1 ∨ r = 0 ∨ r = -6) ∧ (r = 1 → CF tb R' [some m0] ∧ RelS tb nm nc m0 R i' d' s' ch' ∧ d' ≤ 600) ∧ CSp ck tb nc R i d e r R' i' d' e' ∧ RSp ck tb nm nc tr R s ch e r R' s' ch' e'
theorem adv_no (hw : ∀ m, m < nm → MkWF tb nc m) {tr m0 : Nat} {R : List Nd} {i d e ch ch2 : Nat} {s s2 : Nat × Bool} (hl : (cenc tb R).length ≤ 744) (hi : i < (cenc tb R).length) (hd : d ≤ 1000) (hE : EdNo tb R i d) (hr : ∀ r R' s' ch' e', RSp ck tb nm nc tr R s2 ch2 e r R' s' ch' e' → RSp ck tb nm nc tr R s ch e r R' s' ch' e') (g : Adv ck tb nm nc tr m0 R (i + 1) 0 e s2 ch2) : Adv ck tb nm nc tr m0 R i d e s ch := by
  obtain ⟨r, R', i', d', s', ch', e', g1, g2, g3, g4, g5⟩ := g
  exact ⟨r, R', i', d', s', ch', e', g1, g2, g3, c_no hw hl hi hd hE g4, hr _ _ _ _ _ g5⟩
theorem adv_yes (hw : ∀ m, m < nm → MkWF tb nc m) (hn : nm ≤ 30) (hck : ∀ i, i < nc → CkWF (ck i) i) (hnc : nc ≤ 40) {m0 tr : Nat} (hm0 : m0 < nm) (h3 : tr ≠ 3) {R : List Nd} (hcR : CF tb R [some m0]) {i d e ch : Nat} {s : Nat × Bool} {c : List Frm} {t : Option Nat} {Tc T : List Nd} (hl : (cenc tb R).length ≤ 744) (hi : i < (cenc tb R).length) (hd : d < 600) (hch : ch < 1000000) (he : e ≤ 1500) (h1 : CFx tb c t (some m0)) (hTc : CF tb Tc [t]) (h2 : CF tb T [t]) (ht : ∃ a, t = some a) (hR : R = fil c Tc) (hs : s.1 = posR c) (hp : PosOk tb i c T) (hE : EdYes tb R i d c T) (hC : ChYes tb nm nc tr R s ch (fil c T)) (rel : RelS tb nm nc m0 R i (d + 1) s (ch + 1)) (nxt : ∀ e2, e2 ≤ e → Adv ck tb nm nc tr m0 R i (d + 1) e2 s (ch + 1)) : Adv ck tb nm nc tr m0 R i d e s ch := by
  obtain ⟨s1, s2, s3⟩ := setl_ok (ck := ck) c t T e h1 h2
  by_cases z : (setl ck tb c T e).1 = 0
  · obtain ⟨r, R', i', d', s', ch', e', g1, g2, g3, g4, g5⟩ := nxt _ s2
    exact ⟨r, R', i', d', s', ch', e', Nat.le_trans g1 s2, g2, g3, c_yes hw hn hck hnc hm0 hl hi (by omega) hE h1 h2 ht hp he (fun _ => g4) (fun y => absurd z y), r_yes hw hn hnc hm0 h3 hch hcR h1 hTc h2 hR hs hC he (fun _ => g5) (fun y => absurd z y)⟩
  · refine ⟨(setl ck tb c T e).1, (setl ck tb c T e).2.1, i, d + 1, s, ch + 1, (setl ck tb c T e).2.2, s2, s3, fun y => ⟨s1 y, rel, by omega⟩, c_yes hw hn hck hnc hm0 hl hi (by omega) hE h1 h2 ht hp he (fun y => absurd y z) (fun _ => ⟨rfl, rfl, rfl, rfl, rfl⟩), r_yes hw hn hnc hm0 h3 hch hcR h1 hTc h2 hR hs hC he (fun y => absurd y z) (fun _ => ⟨rfl, rfl, rfl, rfl, rfl⟩)⟩
end
