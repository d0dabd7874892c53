/-! A STRETCH OF THE CLASS'S TREE: parents, ends; what the small calls do -/
theorem enC_app1 {F1 F2 : List CN} {k q : Nat} (h : CC F1 k) (hq : q < F1.length) : enC (F1 ++ F2) q = enC F1 q := by
  have := enC_mid (A := []) (B := F2) h hq
  rw [List.nil_append, show ([] : List CN).length + q = q by show 0 + q = q; omega, show ([] : List CN).length + enC F1 q = enC F1 q by show 0 + _ = _; omega] at this
  exact this
theorem enC_app2 {F1 F2 : List CN} {k q : Nat} (h : CC F2 k) (hq : q < F2.length) : enC (F1 ++ F2) (F1.length + q) = F1.length + enC F2 q := by
  have := enC_mid (A := F1) (B := []) h hq
  rw [List.append_nil] at this
  exact this
theorem enC_c0 {c : CN} {F : List CN} (h : CC F (arC c)) : enC (c :: F) 0 = F.length + 1 := by
  unfold enC
  rw [List.drop_zero, tlC_s]
  have := tlC_full (B := []) F (arC c) 0 h
  rw [List.append_nil, tlC_0] at this
  have e : tlC F (0 + arC c) = F.length := by rw [Nat.zero_add]; exact this
  rw [e]; omega
theorem enC_cs {c : CN} {F : List CN} {q : Nat} : enC (c :: F) (q + 1) = enC F q + 1 := by
  unfold enC
  rw [List.drop_succ_cons]; omega
theorem parS_s {C : List CN} {p q : Nat} : parS C p (q + 1) = if p < enC C q then some q else parS C p q := rfl
theorem parS_0 {C : List CN} {p : Nat} : parS C p 0 = none := rfl
theorem parS_app1 {F1 F2 : List CN} {k i : Nat} (h : CC F1 k) : ∀ q, q ≤ F1.length → parS (F1 ++ F2) i q = parS F1 i q := by
  intro q
  induction q with
  | zero => intro _; rfl
  | succ q ih => intro hq; rw [parS_s, parS_s, enC_app1 h (by omega), ih (by omega)]
theorem parS_no {F1 F2 : List CN} {k i : Nat} (h : CC F1 k) (hi : F1.length ≤ i) : ∀ q, q ≤ F1.length → parS (F1 ++ F2) i q = none := by
  intro q
  induction q with
  | zero => intro _; rfl
  | succ q ih =>
    intro hq
    have := (enC_le (C := F1) (i := q) (by omega)).2
    rw [parS_s, enC_app1 h (by omega), if_neg (by omega), ih (by omega)]
theorem parS_app2 {F1 F2 : List CN} {k1 k2 i : Nat} (h1 : CC F1 k1) (h2 : CC F2 k2) : ∀ q, q ≤ F2.length → parS (F1 ++ F2) (F1.length + i) (F1.length + q) = (parS F2 i q).map (fun r => F1.length + r) := by
  intro q
  induction q with
  | zero => intro _; rw [Nat.add_zero, parS_no h1 (by omega) _ (Nat.le_refl _)]; rfl
  | succ q ih =>
    intro hq
    rw [show F1.length + (q + 1) = (F1.length + q) + 1 by omega, parS_s, parS_s, enC_app2 h2 (by omega), ih (by omega)]
    by_cases c : i < enC F2 q
    · rw [if_pos c, if_pos (by omega)]; rfl
    · rw [if_neg c, if_neg (by omega)]
theorem parS_cons {c : CN} {F : List CN} {i : Nat} (h : CC F (arC c)) (hi : i < F.length) : ∀ q, q ≤ F.length → parS (c :: F) (i + 1) (q + 1) = some (match parS F i q with | none => 0 | some r => r + 1) := by
  intro q
  induction q with
  | zero => intro _; rw [parS_s, enC_c0 h, if_pos (by omega), parS_0]
  | succ q ih =>
    intro hq
    rw [parS_s (C := c :: F) (q := q + 1), enC_cs, ih (by omega), parS_s (C := F) (q := q)]
    by_cases c : i < enC F q
    · rw [if_pos c, if_pos (by omega)]
    · rw [if_neg c, if_neg (by omega)]
def parV (par : Int32) (p : Nat) : Option Nat → Int32
  | none => par
  | some q => nI (p + q)
def TrF (kt : Ob) (p : Nat) (par : Int32) (F : List CN) : Prop := ∀ i c, F[i]? = some c → kt.2.2 0 (p + i) = c.1 ∧ kt.2.2 1 (p + i) = c.2.1 ∧ kt.2.2 2 (p + i) = c.2.2 ∧ kt.2.2 3 (p + i) = parV par p (parS F i i) ∧ kt.2.2 4 (p + i) = nI (p + enC F i)
theorem TrF.nil {kt : Ob} {p : Nat} {par : Int32} : TrF kt p par [] := fun i c h => (nomatch h)
theorem TrF.app {kt : Ob} {p : Nat} {par : Int32} {F1 F2 : List CN} {k1 k2 : Nat} (c1 : CC F1 k1) (c2 : CC F2 k2) (h1 : TrF kt p par F1) (h2 : TrF kt (p + F1.length) par F2) : TrF kt p par (F1 ++ F2) := by
  intro i c hc
  rcases Nat.lt_or_ge i F1.length with q | q
  · rw [List.getElem?_append_left q] at hc
    obtain ⟨a0, a1, a2, a3, a4⟩ := h1 i c hc
    rw [parS_app1 c1 i (by omega), enC_app1 c1 q]
    exact ⟨a0, a1, a2, a3, a4⟩
  · rw [List.getElem?_append_right q] at hc
    obtain ⟨j, rfl⟩ : ∃ j, i = F1.length + j := ⟨i - F1.length, by omega⟩
    rw [show F1.length + j - F1.length = j by omega] at hc
    have hj := (List.getElem?_eq_some_iff.mp hc).1
    obtain ⟨a0, a1, a2, a3, a4⟩ := h2 j c hc
    rw [parS_app2 c1 c2 j (by omega), enC_app2 c2 hj, ← Nat.add_assoc, ← Nat.add_assoc]
    refine ⟨a0, a1, a2, ?_, a4⟩
    rw [a3]
    cases parS F2 j j with
    | none => rfl
    | some r => show nI (p + F1.length + r) = nI (p + (F1.length + r)); congr 1; omega
theorem TrF.cons {kt : Ob} {p : Nat} {par : Int32} {c : CN} {F : List CN} (cc : CC F (arC c)) (h0 : kt.2.2 0 p = c.1) (h1 : kt.2.2 1 p = c.2.1) (h2 : kt.2.2 2 p = c.2.2) (h3 : kt.2.2 3 p = par) (h4 : kt.2.2 4 p = nI (p + 1 + F.length)) (h : TrF kt (p + 1) (nI p) F) : TrF kt p par (c :: F) := by
  intro i d hd
  cases i with
  | zero =>
    cases hd
    refine ⟨h0, h1, h2, h3, ?_⟩
    rw [enC_c0 cc, Nat.add_zero, h4]; congr 1; omega
  | succ i =>
    have hd : F[i]? = some d := hd
    have hi := (List.getElem?_eq_some_iff.mp hd).1
    obtain ⟨a0, a1, a2, a3, a4⟩ := h i d hd
    rw [parS_cons cc hi i (by omega), enC_cs, show p + (i + 1) = p + 1 + i by omega]
    refine ⟨a0, a1, a2, ?_, ?_⟩
    · rw [a3]
      cases parS F i i with
      | none => show nI p = nI (p + 0); rfl
      | some r => show nI (p + 1 + r) = nI (p + (r + 1)); congr 1; omega
    · rw [a4]; congr 1; omega
theorem TrF.cong {kt kt2 : Ob} {p : Nat} {par : Int32} {F : List CN} (h : TrF kt p par F) (e : ∀ f, f < 5 → ∀ i, i < F.length → kt2.2.2 f (p + i) = kt.2.2 f (p + i)) : TrF kt2 p par F := by
  intro i c hc
  have hi := (List.getElem?_eq_some_iff.mp hc).1
  rw [e 0 (by omega) i hi, e 1 (by omega) i hi, e 2 (by omega) i hi, e 3 (by omega) i hi, e 4 (by omega) i hi]
  exact h i c hc
theorem TrF.st {kt : Ob} {p : Nat} {par : Int32} {F : List CN} (h : TrF kt p par F) : TrS kt p F := fun i c hc => by
  obtain ⟨a0, a1, -, -, a4⟩ := h i c hc
  exact ⟨a0, a1, a4⟩
theorem TrF.top {kt : Ob} {C : List CN} (h : TrF kt 0 (-1) C) (h6 : kt.2.1 6 = nI C.length) (hl : C.length ≤ 744) : TreeC kt C := by
  refine ⟨h6, hl, fun i c hc => ?_⟩
  obtain ⟨a0, a1, a2, a3, a4⟩ := h i c hc
  rw [Nat.zero_add] at a0 a1 a2 a3 a4
  refine ⟨a0, a1, a2, ?_, by rw [a4, Nat.zero_add]⟩
  rw [a3]
  unfold parI
  cases parS C i i with
  | none => rfl
  | some r => show nI (0 + r) = nI r; rw [Nat.zero_add]
theorem TreeC.tf {kt : Ob} {C : List CN} (T : TreeC kt C) : TrF kt 0 (-1) C := fun i c hc => by
  obtain ⟨a0, a1, a2, a3, a4⟩ := T.2.2 i c hc
  rw [Nat.zero_add]
  refine ⟨a0, a1, a2, ?_, by rw [a4, Nat.zero_add]⟩
  rw [a3]
  unfold parI
  cases parS C i i with
  | none => rfl
  | some r => show nI r = nI (0 + r); rw [Nat.zero_add]
def KtE (p : Nat) (kt kt2 : Ob) : Prop := ∀ f, f < 5 → ∀ i, i < p → kt2.2.2 f i = kt.2.2 f i
theorem KtE.rf {p : Nat} {kt : Ob} : KtE p kt kt := fun _ _ _ _ => rfl
theorem KtE.tr {p : Nat} {a b c : Ob} (h : KtE p a b) (h2 : KtE p b c) : KtE p a c := fun f hf i hi => (h2 f hf i hi).trans (h f hf i hi)
theorem KtE.le {p q : Nat} {a b : Ob} (h : KtE p a b) (hq : q ≤ p) : KtE q a b := fun f hf i hi => h f hf i (by omega)
theorem KtE.tf {p q : Nat} {a b : Ob} {par : Int32} {F : List CN} (h : KtE p a b) (t : TrF a q par F) (hq : q + F.length ≤ p) : TrF b q par F := t.cong (fun f hf i hi => h f hf _ (by omega))
theorem KtE.of {p : Nat} {S A : List Nat} {a b : Ob} (f : Fm S A a b) (hA : ∀ k, k < 5 → k ∉ A) : KtE p a b := fun g hg i _ => by rw [f.2.2 g (hA g hg)]
theorem no5 : ∀ k, k < 5 → k ∉ [5] := fun k hk => by
  rcases (show k = 0 ∨ k = 1 ∨ k = 2 ∨ k = 3 ∨ k = 4 by omega) with rfl | rfl | rfl | rfl | rfl <;> decide
theorem c_has {kt : Ob} {p z : Nat} {Post : Int32 → Ob → Prop} (h6 : kt.2.1 6 = nI z) (hp : p < z) (hz : z ≤ 744) (k : Post 1 kt) : w_X8_has (nI p) kt Post :=
  ⟨fun c => absurd c (nI_pos (by omega)), fun _ => ⟨fun c => absurd c (by rw [h6, nI_leI (by omega) (by omega)]; omega), fun _ => ⟨fun c => absurd c (by rw [show (744 : Int32) = nI 744 from rfl, nI_leI (by omega) (by omega)]; omega), fun _ => k⟩⟩⟩
theorem c_setV {kt : Ob} {p z : Nat} {v : Int32} {Post : Ob → Prop} (h6 : kt.2.1 6 = nI z) (hp : p < z) (hz : z ≤ 744) (k : Post (kt.1, kt.2.1, sa kt.2.2 1 (upd (kt.2.2 1) p v))) : w_X8_setValue (nI p) v kt Post :=
  c_has h6 hp hz ⟨fun c => absurd c (by decide), fun _ => ⟨vp_in_nI (by omega) (by omega), by rw [nI_clamp (by omega)]; exact k⟩⟩
theorem c_setG {kt : Ob} {p z : Nat} {v : Int32} {Post : Ob → Prop} (h6 : kt.2.1 6 = nI z) (hp : p < z) (hz : z ≤ 744) (k : Post (kt.1, kt.2.1, sa kt.2.2 2 (upd (kt.2.2 2) p v))) : w_X8_setGoal (nI p) v kt Post :=
  c_has h6 hp hz ⟨fun c => absurd c (by decide), fun _ => ⟨vp_in_nI (by omega) (by omega), by rw [nI_clamp (by omega)]; exact k⟩⟩
theorem c_clo {kt : Ob} {p z : Nat} {Post : Ob → Prop} (h6 : kt.2.1 6 = nI z) (hp : p < z) (hz : z ≤ 744) (k : Post (kt.1, kt.2.1, sa kt.2.2 4 (upd (kt.2.2 4) p (nI z)))) : w_X8_close (nI p) kt Post :=
  c_has h6 hp hz ⟨fun c => absurd c (by decide), fun _ => ⟨vp_in_nI (by omega) (by omega), by rw [nI_clamp (by omega), h6]; exact k⟩⟩
theorem c_cloF {kt : Ob} {x : Int32} {Post : Ob → Prop} (k : ∀ kt2, kt2.2.1 6 = kt.2.1 6 → Post kt2) (hv : ¬ x < 0 → ¬ 744 ≤ x → vp_in x 744) : w_X8_close x kt Post := by
  have z0 : ((0 : Int32) = 0 → Post kt) ∧ (¬ (0 : Int32) = 0 → vp_in x 744 ∧ (Post ((kt.1, kt.2.1, (sa kt.2.2 4 (upd (kt.2.2 4) x.toNatClampNeg (kt.2.1 6))))))) := ⟨fun _ => k kt rfl, fun z => absurd rfl z⟩
  exact ⟨fun _ => z0, fun a => ⟨fun _ => z0, fun _ => ⟨fun _ => z0, fun b => ⟨fun z => absurd z (by decide), fun _ => ⟨hv a b, k _ rfl⟩⟩⟩⟩⟩
theorem c_get0 {kt : Ob} {p z : Nat} {Post : Int32 → Ob → Prop} (h6 : kt.2.1 6 = nI z) (hp : p < z) (hz : z ≤ 744) (k : Post (kt.2.2 0 p) kt) : w_X8_kind (nI p) kt Post :=
  c_has h6 hp hz ⟨fun c => absurd c (by decide), fun _ => ⟨vp_in_nI (by omega) (by omega), by rw [nI_clamp (by omega)]; exact k⟩⟩
theorem c_get1 {kt : Ob} {p z : Nat} {Post : Int32 → Ob → Prop} (h6 : kt.2.1 6 = nI z) (hp : p < z) (hz : z ≤ 744) (k : Post (kt.2.2 1 p) kt) : w_X8_value (nI p) kt Post :=
  c_has h6 hp hz ⟨fun c => absurd c (by decide), fun _ => ⟨vp_in_nI (by omega) (by omega), by rw [nI_clamp (by omega)]; exact k⟩⟩
theorem c_get2 {kt : Ob} {p z : Nat} {Post : Int32 → Ob → Prop} (h6 : kt.2.1 6 = nI z) (hp : p < z) (hz : z ≤ 744) (k : Post (kt.2.2 2 p) kt) : w_X8_goal (nI p) kt Post :=
  c_has h6 hp hz ⟨fun c => absurd c (by decide), fun _ => ⟨vp_in_nI (by omega) (by omega), by rw [nI_clamp (by omega)]; exact k⟩⟩
theorem c_get3 {kt : Ob} {p z : Nat} {Post : Int32 → Ob → Prop} (h6 : kt.2.1 6 = nI z) (hp : p < z) (hz : z ≤ 744) (k : Post (kt.2.2 3 p) kt) : w_X8_parent (nI p) kt Post :=
  c_has h6 hp hz ⟨fun c => absurd c (by decide), fun _ => ⟨vp_in_nI (by omega) (by omega), by rw [nI_clamp (by omega)]; exact k⟩⟩
theorem c_get4 {kt : Ob} {p z : Nat} {Post : Int32 → Ob → Prop} (h6 : kt.2.1 6 = nI z) (hp : p < z) (hz : z ≤ 744) (k : Post (kt.2.2 4 p) kt) : w_X8_end (nI p) kt Post :=
  c_has h6 hp hz ⟨fun c => absurd c (by decide), fun _ => ⟨vp_in_nI (by omega) (by omega), by rw [nI_clamp (by omega)]; exact k⟩⟩
/-- an added part -/
theorem c_tadd {kt : Ob} {p : Nat} {kd v par : Int32} {Post : Int32 → Ob → Prop} (h6 : kt.2.1 6 = nI p) (hp : p < 744) (k : ∀ kt2, kt2.2.1 6 = nI (p + 1) → KtE p kt kt2 → kt2.2.2 0 p = kd → kt2.2.2 1 p = v → kt2.2.2 2 p = 0 → kt2.2.2 3 p = par → kt2.2.2 4 p = nI (p + 1) → Post (nI p) kt2) : w_X8_add kd v par kt Post := by
  have vq : vp_in (nI p) 744 := vp_in_nI hp (by omega)
  unfold w_X8_add
  rw [h6, nI_1, nI_pred, nI_clamp (by omega)]
  refine ⟨fun c => absurd c (nI_pos (by omega)), fun _ => ⟨fun _ => ⟨vq, vq, vq, vq, vq, k _ (show upd kt.2.1 6 (nI (p + 1)) 6 = _ from pk_us) (fun f hf i hi => ?_) ?_ ?_ ?_ ?_ ?_⟩, fun c => absurd (show nI p < 744 by rw [show (744 : Int32) = nI 744 from rfl, nI_ltI (by omega) (by omega)]; omega) c⟩⟩
  · rcases (show f = 0 ∨ f = 1 ∨ f = 2 ∨ f = 3 ∨ f = 4 by omega) with rfl | rfl | rfl | rfl | rfl
    · show sa (sa (sa (sa (sa kt.2.2 0 (upd (kt.2.2 0) p kd)) 1 (upd (kt.2.2 1) p v)) 2 (upd (kt.2.2 2) p 0)) 3 (upd (kt.2.2 3) p par)) 4 (upd (kt.2.2 4) p (nI (p + 1))) 0 i = _
      rw [sa_ne (by omega), sa_ne (by omega), sa_ne (by omega), sa_ne (by omega), sa_us, pk_un (by omega)]
    · show sa (sa (sa (sa (sa kt.2.2 0 (upd (kt.2.2 0) p kd)) 1 (upd (kt.2.2 1) p v)) 2 (upd (kt.2.2 2) p 0)) 3 (upd (kt.2.2 3) p par)) 4 (upd (kt.2.2 4) p (nI (p + 1))) 1 i = _
      rw [sa_ne (by omega), sa_ne (by omega), sa_ne (by omega), sa_us, pk_un (by omega)]
    · show sa (sa (sa (sa (sa kt.2.2 0 (upd (kt.2.2 0) p kd)) 1 (upd (kt.2.2 1) p v)) 2 (upd (kt.2.2 2) p 0)) 3 (upd (kt.2.2 3) p par)) 4 (upd (kt.2.2 4) p (nI (p + 1))) 2 i = _
      rw [sa_ne (by omega), sa_ne (by omega), sa_us, pk_un (by omega)]
    · show sa (sa (sa (sa (sa kt.2.2 0 (upd (kt.2.2 0) p kd)) 1 (upd (kt.2.2 1) p v)) 2 (upd (kt.2.2 2) p 0)) 3 (upd (kt.2.2 3) p par)) 4 (upd (kt.2.2 4) p (nI (p + 1))) 3 i = _
      rw [sa_ne (by omega), sa_us, pk_un (by omega)]
    · show sa (sa (sa (sa (sa kt.2.2 0 (upd (kt.2.2 0) p kd)) 1 (upd (kt.2.2 1) p v)) 2 (upd (kt.2.2 2) p 0)) 3 (upd (kt.2.2 3) p par)) 4 (upd (kt.2.2 4) p (nI (p + 1))) 4 i = _
      rw [sa_us, pk_un (by omega)]
  · show sa (sa (sa (sa (sa kt.2.2 0 (upd (kt.2.2 0) p kd)) 1 (upd (kt.2.2 1) p v)) 2 (upd (kt.2.2 2) p 0)) 3 (upd (kt.2.2 3) p par)) 4 (upd (kt.2.2 4) p (nI (p + 1))) 0 p = _
    rw [sa_ne (by omega), sa_ne (by omega), sa_ne (by omega), sa_ne (by omega), sa_us, pk_us]
  · show sa (sa (sa (sa (sa kt.2.2 0 (upd (kt.2.2 0) p kd)) 1 (upd (kt.2.2 1) p v)) 2 (upd (kt.2.2 2) p 0)) 3 (upd (kt.2.2 3) p par)) 4 (upd (kt.2.2 4) p (nI (p + 1))) 1 p = _
    rw [sa_ne (by omega), sa_ne (by omega), sa_ne (by omega), sa_us, pk_us]
  · show sa (sa (sa (sa (sa kt.2.2 0 (upd (kt.2.2 0) p kd)) 1 (upd (kt.2.2 1) p v)) 2 (upd (kt.2.2 2) p 0)) 3 (upd (kt.2.2 3) p par)) 4 (upd (kt.2.2 4) p (nI (p + 1))) 2 p = _
    rw [sa_ne (by omega), sa_ne (by omega), sa_us, pk_us]
  · show sa (sa (sa (sa (sa kt.2.2 0 (upd (kt.2.2 0) p kd)) 1 (upd (kt.2.2 1) p v)) 2 (upd (kt.2.2 2) p 0)) 3 (upd (kt.2.2 3) p par)) 4 (upd (kt.2.2 4) p (nI (p + 1))) 3 p = _
    rw [sa_ne (by omega), sa_us, pk_us]
  · show sa (sa (sa (sa (sa kt.2.2 0 (upd (kt.2.2 0) p kd)) 1 (upd (kt.2.2 1) p v)) 2 (upd (kt.2.2 2) p 0)) 3 (upd (kt.2.2 3) p par)) 4 (upd (kt.2.2 4) p (nI (p + 1))) 4 p = _
    rw [sa_us, pk_us]
/-- one row of a tree changed at one place -/
def Tu (kt : Ob) (f p : Nat) (v : Int32) : Ob := (kt.1, kt.2.1, sa kt.2.2 f (upd (kt.2.2 f) p v))
theorem Tu_us {kt : Ob} {f p : Nat} {v : Int32} : (Tu kt f p v).2.2 f p = v := by show sa kt.2.2 f _ f p = v; rw [sa_us, pk_us]
theorem Tu_nf {kt : Ob} {f p : Nat} {v : Int32} {g i : Nat} (h : g ≠ f) : (Tu kt f p v).2.2 g i = kt.2.2 g i := by show sa kt.2.2 f _ g i = _; rw [sa_ne h]
theorem Tu_np {kt : Ob} {f p : Nat} {v : Int32} {g i : Nat} (h : i ≠ p) : (Tu kt f p v).2.2 g i = kt.2.2 g i := by
  show sa kt.2.2 f _ g i = _
  by_cases q : g = f
  · subst q; rw [sa_us, pk_un h]
  · rw [sa_ne q]
theorem Tu_6 {kt : Ob} {f p : Nat} {v : Int32} : (Tu kt f p v).2.1 = kt.2.1 := rfl
theorem Tu_E {kt : Ob} {f p : Nat} {v : Int32} : KtE p kt (Tu kt f p v) := fun g _ i hi => Tu_np (by omega)
theorem TrF.tu {kt : Ob} {f p q : Nat} {v par : Int32} {F : List CN} (t : TrF kt q par F) (h : p < q ∨ q + F.length ≤ p) : TrF (Tu kt f p v) q par F := t.cong (fun g _ i hi => Tu_np (by omega))
