/-! MAKING OBJECTS: words and rows -/
theorem mem_blk (pre post : List va_W) {b : va_W} {x : Nat × va_E} (h : x ∈ b) : x ∈ (pre ++ [b] ++ post).flatten := by
  rw [List.flatten_append, List.flatten_append, List.flatten_singleton]
  exact List.mem_append_left _ (List.mem_append_right _ h)
theorem va_P.of_mem {D : va_G} {cl : List vw_C} {a b : va_W} {H : Heap} (hp : ∀ q ∈ b, q ∈ a) (h : va_P D cl a H) : va_P D cl b H := by
  intro k q hk
  obtain ⟨j, hj⟩ := List.mem_iff_getElem?.mp (hp q (List.mem_of_getElem? hk))
  exact h j q hj
theorem Wh.less {D : va_G} {A : Nat → Prop} {H0 H : Heap} {locs : List Loc} (pre post : List va_W) {b : va_W} (h : Wh D A H0 ((pre ++ [b] ++ post).flatten) H locs) : Wh D A H0 (pre ++ post).flatten H locs := by
  rw [List.flatten_append, List.flatten_append, List.flatten_singleton] at h
  rw [List.flatten_append]
  have hs : (pre.flatten ++ post.flatten).Sublist (pre.flatten ++ b ++ post.flatten) := by
    rw [List.append_assoc]
    exact List.Sublist.append (List.Sublist.refl _) (List.sublist_append_right _ _)
  refine ⟨h.1.of_mem (fun q hq => hs.subset hq), ?_, h.2.2⟩
  have hd := va_D_nodup.mp h.2.1
  exact va_D_nodup.mpr ⟨(hs.map _).nodup hd.1, fun q hq => hd.2 q (hs.subset hq)⟩
def AgO2 (ad ad' : Nat → Nat → Nat) : Prop := ∀ a, a ≠ 22 → a ≠ 25 → ad' a = ad a
theorem AgO2.rf {ad : Nat → Nat → Nat} : AgO2 ad ad := fun _ _ _ => rfl
theorem AgO2.ua2 {n q r : Nat} {ad : Nat → Nat → Nat} : AgO2 ad (ua (ua ad 22 n q) 25 n r) := fun a h1 h2 => by
  unfold ua; rw [if_neg h2, if_neg h1]
def prOb (a b : Int32) : Ob := (fun _ => 0, upd (upd (fun _ => 0) 0 a) 1 b, fun _ _ => 0)
theorem dyn_upd {D : va_G} {A : Nat → Prop} {H0 H : Heap} {locs : List Loc} {f g : Nat → va_W} {n i : Nat} (pre post : List va_W) (hi : i < n) (hg : ∀ j, j ≠ i → g j = f j) (h : Wh D A H0 ((List.flatten [g i]) ++ (((List.range n).erase i).flatMap f ++ (pre.flatten ++ post.flatten))) H locs) : Wh D A H0 ((pre ++ [(List.range n).flatMap g] ++ post).flatten) H locs := by
  refine dyn_in pre post hi ?_
  have he : ((List.range n).erase i).flatMap g = ((List.range n).erase i).flatMap f := by
    rw [List.flatMap_def, List.flatMap_def]
    congr 1
    refine List.map_congr_left (fun j hj => hg j ?_)
    intro e
    subst e
    exact List.Nodup.not_mem_erase List.nodup_range hj
  rw [he]; exact h
theorem dP_add {ad : Nat → Nat → Nat} {E : Nat → ClassId} {pr : Nat → Ob} {n : Nat} {aq : Nat → Nat} {o : Ob} : dP (ua (ua ad 22 n (aq 0)) 25 n (aq 3)) E (um pr n o) (n + 1) = dP ad E pr n ++ bX6 aq E o := by
  have u1 : ∀ i, i ≠ n → ∀ j, ua (ua ad 22 n (aq 0)) 25 n (aq 3) (22 + j) i = ad (22 + j) i := fun i hi j => by
    unfold ua
    by_cases h3 : 22 + j = 25
    · rw [if_pos h3, if_neg hi]; by_cases h0 : 22 + j = 22
      · rw [if_pos h0, if_neg hi]
      · rw [if_neg h0]
    · rw [if_neg h3]; by_cases h0 : 22 + j = 22
      · rw [if_pos h0]; exact if_neg hi
      · rw [if_neg h0]
  have h := dyn_add (n := n) (f := fun i => bX6 (fun j => ad (22 + j) i) E (pr i)) (g := fun i => bX6 (fun j => ua (ua ad 22 n (aq 0)) 25 n (aq 3) (22 + j) i) E (um pr n o i)) (fun i hi => by
    have h2 : um pr n o i = pr i := if_neg (by omega)
    have h1 := u1 i (by omega)
    simp only [h1, h2])
  refine h.trans (congrArg _ ?_)
  have h2 : um pr n o n = o := if_pos rfl
  have a0 : ua (ua ad 22 n (aq 0)) 25 n (aq 3) 22 n = aq 0 := by unfold ua; rw [if_neg (by decide), if_pos rfl]; exact if_pos rfl
  have a3 : ua (ua ad 22 n (aq 0)) 25 n (aq 3) 25 n = aq 3 := by unfold ua; rw [if_pos rfl]; exact if_pos rfl
  show bX6 _ E (um pr n o n) = _
  rw [h2]
  unfold bX6
  simp only [show (22 + 0) = 22 from rfl, show (22 + 3) = 25 from rfl, a0, a3]
section FOLD
variable {D : va_G} {A : Nat → Prop} {H0 H : Heap} {locs : List Loc} {E : Nat → ClassId} {ad : Nat → Nat → Nat} {aq : Nat → Nat} {n : Nat}
theorem fold_X5_add {mk : Nat → Ob} {k o : Ob} (hn : (k.2.1 1).toNatClampNeg = n + 1) (hh : Wh D A H0 (List.flatten [bX5m ad E k (va_up (cf n (ad 21)) n (some (aq 0))), bX4 aq E o, dK ad E mk n]) H locs) : Wh D A H0 (List.flatten [bX5 (ua ad 21 n (aq 0)) E k, dK (ua ad 21 n (aq 0)) E (um mk n o) (k.2.1 1).toNatClampNeg]) H locs := by
  rw [hn, dK_add]
  have e : bX5 (ua ad 21 n (aq 0)) E k = bX5m ad E k (va_up (cf n (ad 21)) n (some (aq 0))) := by
    rw [cf_add (g := ua ad 21 n (aq 0) 21) (fun i hi => by unfold ua; rw [if_pos rfl]; exact if_neg (by omega)) (by unfold ua; rw [if_pos rfl]; exact if_pos rfl)]
    unfold bX5 bX5m
    rw [hn, AgO.ua (i := 21) (n := n) (q := aq 0) (ad := ad) 1 (by decide), AgO.ua (i := 21) (n := n) (q := aq 0) (ad := ad) 4 (by decide), AgO.ua (i := 21) (n := n) (q := aq 0) (ad := ad) 5 (by decide), AgO.ua (i := 21) (n := n) (q := aq 0) (ad := ad) 6 (by decide)]
  rw [e]
  refine hh.perm ?_
  simp only [List.flatten_cons, List.flatten_nil, List.append_nil]
  exact List.Perm.append_left _ List.perm_append_comm
theorem fold_X1_add {ck : Nat → Ob} {j o : Ob} (hn : (j.2.1 1).toNatClampNeg = n + 1) (hh : Wh D A H0 (List.flatten [bX1m ad E j (va_up (cf n (ad 20)) n (some (aq 0))), bX0 aq E o, dC ad E ck n]) H locs) : Wh D A H0 (List.flatten [bX1 (ua ad 20 n (aq 0)) E j, dC (ua ad 20 n (aq 0)) E (um ck n o) (j.2.1 1).toNatClampNeg]) H locs := by
  rw [hn, dC_add]
  have e : bX1 (ua ad 20 n (aq 0)) E j = bX1m ad E j (va_up (cf n (ad 20)) n (some (aq 0))) := by
    rw [cf_add (g := ua ad 20 n (aq 0) 20) (fun i hi => by unfold ua; rw [if_pos rfl]; exact if_neg (by omega)) (by unfold ua; rw [if_pos rfl]; exact if_pos rfl)]
    unfold bX1 bX1m
    rw [hn, AgO.ua (i := 20) (n := n) (q := aq 0) (ad := ad) 1 (by decide), AgO.ua (i := 20) (n := n) (q := aq 0) (ad := ad) 2 (by decide), AgO.ua (i := 20) (n := n) (q := aq 0) (ad := ad) 3 (by decide)]
  rw [e]
  refine hh.perm ?_
  simp only [List.flatten_cons, List.flatten_nil, List.append_nil]
  exact List.Perm.append_left _ List.perm_append_comm
theorem fold_X9_property {pr : Nat → Ob} {x k j o : Ob} (hn : (x.2.1 4).toNatClampNeg = n + 1) (hh : Wh D A H0 (List.flatten [bX9m ad E x (va_up (cf n (ad 22)) n (some (aq 0))), bX5 ad E k, bX1 ad E j, bX6 aq E o, dP ad E pr n]) H locs) : Wh D A H0 (List.flatten [bX9 (ua (ua ad 22 n (aq 0)) 25 n (aq 3)) E x, bX5 (ua (ua ad 22 n (aq 0)) 25 n (aq 3)) E k, bX1 (ua (ua ad 22 n (aq 0)) 25 n (aq 3)) E j, dP (ua (ua ad 22 n (aq 0)) 25 n (aq 3)) E (um pr n o) (x.2.1 4).toNatClampNeg]) H locs := by
  rw [hn, dP_add]
  have ag : ∀ a, a ≠ 22 → a ≠ 25 → ua (ua ad 22 n (aq 0)) 25 n (aq 3) a = ad a := AgO2.ua2
  have e : bX9 (ua (ua ad 22 n (aq 0)) 25 n (aq 3)) E x = bX9m ad E x (va_up (cf n (ad 22)) n (some (aq 0))) := by
    rw [cf_add (g := ua (ua ad 22 n (aq 0)) 25 n (aq 3) 22) (fun i hi => by unfold ua; rw [if_neg (by decide), if_pos rfl]; exact if_neg (by omega)) (by unfold ua; rw [if_neg (by decide), if_pos rfl]; exact if_pos rfl)]
    unfold bX9 bX9m
    rw [hn, ag 0 (by decide) (by decide), ag 1 (by decide) (by decide), ag 4 (by decide) (by decide), ag 7 (by decide) (by decide), ag 11 (by decide) (by decide), ag 12 (by decide) (by decide), ag 13 (by decide) (by decide), ag 14 (by decide) (by decide), ag 15 (by decide) (by decide)]
  have e5 : bX5 (ua (ua ad 22 n (aq 0)) 25 n (aq 3)) E k = bX5 ad E k := by
    unfold bX5
    rw [ag 1 (by decide) (by decide), ag 4 (by decide) (by decide), ag 5 (by decide) (by decide), ag 6 (by decide) (by decide), ag 21 (by decide) (by decide)]
  have e1 : bX1 (ua (ua ad 22 n (aq 0)) 25 n (aq 3)) E j = bX1 ad E j := by
    unfold bX1
    rw [ag 1 (by decide) (by decide), ag 2 (by decide) (by decide), ag 3 (by decide) (by decide), ag 20 (by decide) (by decide)]
  rw [e, e5, e1]
  refine hh.perm ?_
  simp only [List.flatten_cons, List.flatten_nil, List.append_nil]
  exact List.Perm.append_left _ (List.Perm.append_left _ (List.Perm.append_left _ List.perm_append_comm))
end FOLD
/-- a new row, as this claim's words have it -/
theorem tys_uniq {D : va_G} {cl : List vw_C} {tys : List (ClassId × FieldType)} {U : State} {cA : ClassId} {ty : FieldType} (h : va_K D cl (tys ++ [(cA, ty)]) U) {i : Nat} {c1 : ClassId} (hi : tys[i]? = some (c1, ty)) : cA = c1 := by
  have h1 := (h.2 i (c1, ty) (by rw [List.getElem?_append_left (List.getElem?_eq_some_iff.mp hi).1]; exact hi)).2
  have h2 := (h.2 tys.length (cA, ty) (by rw [List.getElem?_append_right (Nat.le_refl _)]; simp)).2
  cases ty with
  | object C =>
    obtain ⟨_, _, _, _, _, a⟩ := h1
    obtain ⟨_, _, _, _, _, b⟩ := h2
    exact Option.some.inj (b.symm.trans a)
  | _ => exact Option.some.inj (Eq.trans (Eq.symm h2) h1)
section NEWROWS
variable {p : Program} {l : Launch} {e : Env} {R : Room} {s : State} {m : MethodId} {args : Array Value} {below : List Frame} {meth : Method} {c : Code} {H : Heap} {locs : List Loc} {cells slots : Nat} {Q : State → Prop}
variable {cc : ByteArray} {pc : Nat} {ls : Array Slot} {rest : List Value} {D : va_G} {E : Nat → ClassId} {A : Nat → Prop} {H0 : Heap} {ws : va_W}
theorem q_newi (hx : p.tables.exec = Jvm.exec) (hb : c.code = cc) (hT : ∀ w ∈ TBL, w.before args s = true) (hK : KK D E s) (hh : Wh D A H0 ws H locs) (hA : ∀ q : Nat, H0.size ≤ q → A q) {n : Int32} (N : Nat) (hn : ¬ n < 0) (hN : n.toNatClampNeg = N) (hN2 : N ≤ 10000) (hc : cells + 1 ≤ R.cells) (hs : slots + N ≤ R.slots) (hdg : decode cc pc = .ok (.newarray .int, 2))
    (kk : ∀ (q : Nat) (H1 : Heap) (locs1 : List Loc), Wh D A H0 (ws ++ [(q, .inl (E 0, N, .inl (fun _ => 0)))]) H1 locs1 → W p l e R s m args below meth c H1 locs1 (cells + 1) (slots + N) Q (F0 m (pc + 2) ls (.ref q :: rest))) : W p l e R s m args below meth c H locs cells slots Q (F0 m pc ls (.int n :: rest)) :=
  va_newa (atype := .int) (ty := .int) (N' := N) (a0 := (N, .inl (fun _ => 0))) hx hb (hT _ kac_int) rfl hK.1 hh.1 hh.2.1 hh.2.2 hA (fun cA => rfl) hn hN (by show N * 4 ≤ 536870912; omega) hc hs hdg (fun q cA H1 h0 h1 h2 h3 => by
    have e := tys_uniq h0 (i := 0) rfl
    subst e
    exact kk q H1 _ ⟨h1, h2, h3⟩)
theorem q_newz (hx : p.tables.exec = Jvm.exec) (hb : c.code = cc) (hT : ∀ w ∈ TBL, w.before args s = true) (hK : KK D E s) (hh : Wh D A H0 ws H locs) (hA : ∀ q : Nat, H0.size ≤ q → A q) {n : Int32} (N : Nat) (hn : ¬ n < 0) (hN : n.toNatClampNeg = N) (hN2 : N ≤ 10000) (hc : cells + 1 ≤ R.cells) (hs : slots + N ≤ R.slots) (hdg : decode cc pc = .ok (.newarray .boolean, 2))
    (kk : ∀ (q : Nat) (H1 : Heap) (locs1 : List Loc), Wh D A H0 (ws ++ [(q, .inl (E 1, N, .inl (fun _ => 0)))]) H1 locs1 → W p l e R s m args below meth c H1 locs1 (cells + 1) (slots + N) Q (F0 m (pc + 2) ls (.ref q :: rest))) : W p l e R s m args below meth c H locs cells slots Q (F0 m pc ls (.int n :: rest)) :=
  va_newa (atype := .boolean) (ty := .boolean) (N' := N) (a0 := (N, .inl (fun _ => 0))) hx hb (hT _ kac_boolean) rfl hK.1 hh.1 hh.2.1 hh.2.2 hA (fun cA => rfl) hn hN (by show N * 1 ≤ 536870912; omega) hc hs hdg (fun q cA H1 h0 h1 h2 h3 => by
    have e := tys_uniq h0 (i := 1) rfl
    subst e
    exact kk q H1 _ ⟨h1, h2, h3⟩)
theorem q_newq (hx : p.tables.exec = Jvm.exec) (hb : c.code = cc) (hT : ∀ w ∈ TBL, w.before args s = true) (hK : KK D E s) (hh : Wh D A H0 ws H locs) (hA : ∀ q : Nat, H0.size ≤ q → A q) {own : String} {index : Nat} (hown : s.vm.findClass own = some m.cls) (t0 : Nat) {C : String} (ht : (tysE E)[t0]? = some (E t0, .object C)) (hC : C ∈ ["CaseTrials$Check", "CaseTrials$Maker", "CaseTrials$Property"]) (hl : Cond.classLink own index C ∈ TBL) {n : Int32} (N : Nat) (hn : ¬ n < 0) (hN : n.toNatClampNeg = N) (hN2 : N ≤ 10000) (hc : cells + 1 ≤ R.cells) (hs : slots + N ≤ R.slots) (hdg : decode cc pc = .ok (.anewarray index, 3))
    (kk : ∀ (q : Nat) (H1 : Heap) (locs1 : List Loc), Wh D A H0 (ws ++ [(q, .inl (E t0, N, .inr (.inr (.inr (.inr (fun _ => none))))))]) H1 locs1 → W p l e R s m args below meth c H1 locs1 (cells + 1) (slots + N) Q (F0 m (pc + 3) ls (.ref q :: rest))) : W p l e R s m args below meth c H locs cells slots Q (F0 m pc ls (.int n :: rest)) :=
  va_newq (N' := N) hx hb hown (hT _ hl) (hK.2.2 C hC) hK.1 hh.1 hh.2.1 hh.2.2 hA hn hN (by omega) hc hs hdg (fun q cA H1 h0 h1 h2 h3 => by
    have e := tys_uniq h0 ht
    subst e
    exact kk q H1 _ ⟨h1, h2, h3⟩)
end NEWROWS
