/-! WHAT STANDS AROUND a part, in the class's tree -/
theorem TrF.cons_inv {kt : Ob} {p : Nat} {par : Int32} {c : CN} {F : List CN} (cc : CC F (arC c)) (h : TrF kt p par (c :: F)) : kt.2.2 0 p = c.1 ∧ kt.2.2 1 p = c.2.1 ∧ kt.2.2 2 p = c.2.2 ∧ kt.2.2 3 p = par ∧ kt.2.2 4 p = nI (p + (1 + F.length)) ∧ TrF kt (p + 1) (nI p) F := by
  obtain ⟨a0, a1, a2, a3, a4⟩ := h 0 c rfl
  rw [Nat.add_zero] at a0 a1 a2 a3 a4
  refine ⟨a0, a1, a2, a3, ?_, fun i d hd => ?_⟩
  · rw [a4, enC_c0 cc]; congr 1; omega
  · have hi := (List.getElem?_eq_some_iff.mp hd).1
    obtain ⟨b0, b1, b2, b3, b4⟩ := h (i + 1) d hd
    rw [show p + (i + 1) = p + 1 + i by omega] at b0 b1 b2 b3 b4
    rw [parS_cons cc hi i (by omega)] at b3
    rw [enC_cs] at b4
    refine ⟨b0, b1, b2, ?_, ?_⟩
    · rw [b3]
      cases parS F i i with
      | none => show nI (p + 0) = nI p; rfl
      | some r => show nI (p + (r + 1)) = nI (p + 1 + r); congr 1; omega
    · rw [b4]; congr 1; omega
theorem TrF.app_inv {kt : Ob} {p : Nat} {par : Int32} {F1 F2 : List CN} {k1 k2 : Nat} (c1 : CC F1 k1) (c2 : CC F2 k2) (h : TrF kt p par (F1 ++ F2)) : TrF kt p par F1 ∧ TrF kt (p + F1.length) par F2 := by
  refine ⟨fun i c hc => ?_, fun i c hc => ?_⟩
  · have hi := (List.getElem?_eq_some_iff.mp hc).1
    have := h i c (by rw [List.getElem?_append_left hi]; exact hc)
    rw [parS_app1 c1 i (by omega), enC_app1 c1 hi] at this
    exact this
  · have hi := (List.getElem?_eq_some_iff.mp hc).1
    obtain ⟨b0, b1, b2, b3, b4⟩ := h (F1.length + i) c (by rw [List.getElem?_append_right (by omega), show F1.length + i - F1.length = i by omega]; exact hc)
    rw [parS_app2 c1 c2 i (by omega)] at b3
    rw [enC_app2 c2 hi] at b4
    rw [← Nat.add_assoc] at b0 b1 b2 b3 b4
    refine ⟨b0, b1, b2, ?_, ?_⟩
    · rw [b3]
      cases parS F2 i i with
      | none => rfl
      | some r => show nI (p + (F1.length + r)) = nI (p + F1.length + r); congr 1; omega
    · rw [b4]; congr 1; omega
def parO (tb : Tb) : List Frm → Int32
  | [] => -1
  | _ :: c => nI (posC tb c)
def szF (tb : Tb) (f : Frm) (s : Nat) : Nat := 1 + ((cenc tb f.2.1).length + s + ((cenc tb f.2.2).length + (resT tb f.1).length))
/-- a node of the class's tree: itself, how many parts it has -/
def NdC (tb : Tb) (kt : Ob) (p : Nat) (par : Int32) (x : Nd) (n : Nat) : Prop := kt.2.2 0 p = (cnN tb x).1 ∧ kt.2.2 1 p = (cnN tb x).2.1 ∧ kt.2.2 2 p = (cnN tb x).2.2 ∧ kt.2.2 3 p = par ∧ kt.2.2 4 p = nI (p + n)
def OutC (tb : Tb) (kt : Ob) : List Frm → Nat → Prop
  | [], _ => True
  | f :: c, s => NdC tb kt (posC tb c) (parO tb c) f.1 (szF tb f s) ∧ TrF kt (posC tb c + 1) (nI (posC tb c)) (cenc tb f.2.1) ∧ TrF kt (posC tb c + 1 + (cenc tb f.2.1).length + s) (nI (posC tb c)) (cenc tb f.2.2 ++ resT tb f.1) ∧ OutC tb kt c (szF tb f s)
section
variable {tb : Tb} {nm nc : Nat}
theorem BN_sub {L M : List Nd} (h : BN nm L) (hs : ∀ x ∈ M, x ∈ L) : BN nm M := fun x hx => h x (hs x hx)
theorem BN_hole {c : List Frm} {T : List Nd} (h : BN nm (fil c T)) : BN nm T := BN_sub h (fun x hx => by rw [fil_eq]; exact List.mem_append_right _ (List.mem_append_left _ hx))
theorem BN_f {f : Frm} {T : List Nd} (h : BN nm (fil1 f T)) : (∀ m, f.1.1 = some m → m < nm) ∧ BN nm f.2.1 ∧ BN nm f.2.2 ∧ BN nm T := by
  refine ⟨fun m hm => h f.1 List.mem_cons_self m hm, BN_sub h (fun x hx => ?_), BN_sub h (fun x hx => ?_), BN_sub h (fun x hx => ?_)⟩
  · exact List.mem_cons_of_mem _ (List.mem_append_left _ (List.mem_append_left _ hx))
  · exact List.mem_cons_of_mem _ (List.mem_append_right _ hx)
  · exact List.mem_cons_of_mem _ (List.mem_append_left _ (List.mem_append_right _ hx))
theorem cenc_fil1 {f : Frm} {u t : Option Nat} {pre post : List (Option Nat)} {T : List Nd} (h1 : okN tb u f.1) (h2 : kidsT tb f.1 = pre ++ t :: post) (h3 : CF tb f.2.1 pre) (h4 : CF tb f.2.2 post) (h : CF tb T [t]) : cenc tb (fil1 f T) = cnN tb f.1 :: (cenc tb f.2.1 ++ (cenc tb T ++ (cenc tb f.2.2 ++ resT tb f.1))) := by
  have := cenc_one (fil1_CF h1 h2 h3 h4 h).1
  show cenc tb (f.1 :: (f.2.1 ++ T ++ f.2.2)) = _
  rw [this, cenc_app _ _ (CF_app h _ _ h3), cenc_app _ _ h3, List.append_assoc, List.append_assoc]
theorem TrF_node (hw : ∀ m, m < nm → MkWF tb nc m) {kt : Ob} {p : Nat} {par : Int32} {f : Frm} {u t : Option Nat} {pre post : List (Option Nat)} {T : List Nd} (h1 : okN tb u f.1) (h2 : kidsT tb f.1 = pre ++ t :: post) (h3 : CF tb f.2.1 pre) (h4 : CF tb f.2.2 post) (h : CF tb T [t]) (hB : BN nm (fil1 f T)) : TrF kt p par (cenc tb (fil1 f T)) ↔ (NdC tb kt p par f.1 (szF tb f (cenc tb T).length) ∧ TrF kt (p + 1) (nI p) (cenc tb f.2.1) ∧ TrF kt (p + 1 + (cenc tb f.2.1).length) (nI p) (cenc tb T) ∧ TrF kt (p + 1 + (cenc tb f.2.1).length + (cenc tb T).length) (nI p) (cenc tb f.2.2 ++ resT tb f.1)) := by
  obtain ⟨b0, b1, b2, b3⟩ := BN_f hB
  have c1 := CC_cenc hw _ _ h3 b1
  have c2 := CC_cenc hw _ _ h4 b2
  have c3 := CC_cenc hw _ _ h b3
  have cr : CC (resT tb f.1) (resT tb f.1).length := CC_res
  have c4 := CC_app cr _ _ c2
  have c5 := CC_app c4 _ _ c3
  have c6 := CC_app c5 _ _ c1
  have ar : arC (cnN tb f.1) = pre.length + ([t].length + (post.length + (resT tb f.1).length)) := by
    rw [arC_cn hw (okN_X h1 b0)]
    unfold arN
    rw [h2, List.length_append, List.length_cons]
    show pre.length + (post.length + 1) + _ = pre.length + (1 + _); omega
  rw [← ar] at c6
  rw [cenc_fil1 h1 h2 h3 h4 h]
  have sz : szF tb f (cenc tb T).length = 1 + (cenc tb f.2.1 ++ (cenc tb T ++ (cenc tb f.2.2 ++ resT tb f.1))).length := by
    unfold szF
    rw [List.length_append, List.length_append, List.length_append]; omega
  constructor
  · intro k
    obtain ⟨a0, a1, a2, a3, a4, a5⟩ := k.cons_inv c6
    obtain ⟨d1, d2⟩ := a5.app_inv c1 c5
    obtain ⟨d3, d4⟩ := d2.app_inv c3 c4
    exact ⟨⟨a0, a1, a2, a3, by rw [sz]; exact a4⟩, d1, d3, d4⟩
  · rintro ⟨⟨a0, a1, a2, a3, a4⟩, d1, d3, d4⟩
    rw [sz] at a4
    exact TrF.cons c6 a0 a1 a2 a3 (by rw [a4]; congr 1; omega) (TrF.app c1 c5 d1 (TrF.app c3 c4 d3 d4))
/-- a tree, a part of it and what stands around -/
theorem OutC_iff (hw : ∀ m, m < nm → MkWF tb nc m) {kt : Ob} {r : Option Nat} : ∀ (c : List Frm) (t : Option Nat) (T : List Nd), CFx tb c t r → CF tb T [t] → BN nm (fil c T) → (TrF kt 0 (-1) (cenc tb (fil c T)) ↔ (TrF kt (posC tb c) (parO tb c) (cenc tb T) ∧ OutC tb kt c (cenc tb T).length)) := by
  intro c
  induction c with
  | nil => intro t T h1 h2 hB; exact ⟨fun k => ⟨k, trivial⟩, fun k => k.1⟩
  | cons f c ih =>
    intro t T h1 h2 hB
    obtain ⟨u, pre, post, a, b, d, e, g⟩ := h1
    have hB1 : BN nm (fil1 f T) := BN_hole (c := c) hB
    have hT1 := (fil1_CF a b d e h2).2
    have I := ih u (fil1 f T) g hT1 hB
    have J := TrF_node (kt := kt) (p := posC tb c) (par := parO tb c) hw a b d e h2 hB1
    have sz : (cenc tb (fil1 f T)).length = szF tb f (cenc tb T).length := by
      rw [cenc_fil1 a b d e h2]; unfold szF
      rw [List.length_cons, List.length_append, List.length_append, List.length_append]; omega
    rw [sz] at I
    show TrF kt 0 (-1) (cenc tb (fil c (fil1 f T))) ↔ _
    rw [I, J]
    constructor
    · rintro ⟨⟨j1, j2, j3, j4⟩, k⟩; exact ⟨j3, j1, j2, j4, k⟩
    · rintro ⟨j3, j1, j2, j4, k⟩; exact ⟨⟨j1, j2, j3, j4⟩, k⟩
theorem cenc_fil1_len {f : Frm} {u t : Option Nat} {pre post : List (Option Nat)} {T : List Nd} (a : okN tb u f.1) (b : kidsT tb f.1 = pre ++ t :: post) (d : CF tb f.2.1 pre) (e : CF tb f.2.2 post) (h : CF tb T [t]) : (cenc tb (fil1 f T)).length = szF tb f (cenc tb T).length := by
  rw [cenc_fil1 a b d e h]; unfold szF
  rw [List.length_cons, List.length_append, List.length_append, List.length_append]; omega
/-- how many parts a row has, by what stands around a part -/
def outN (tb : Tb) : List Frm → Nat → Nat
  | [], s => s
  | f :: c, s => outN tb c (szF tb f s)
theorem cenc_fil_len {r : Option Nat} : ∀ (c : List Frm) (t : Option Nat) (T : List Nd), CFx tb c t r → CF tb T [t] → (cenc tb (fil c T)).length = outN tb c (cenc tb T).length := by
  intro c
  induction c with
  | nil => intro t T _ _; rfl
  | cons f c ih =>
    intro t T h1 h2
    obtain ⟨u, pre, post, a, b, d, e, g⟩ := h1
    have := ih u (fil1 f T) g (fil1_CF a b d e h2).2
    rw [cenc_fil1_len a b d e h2] at this
    exact this
theorem outN_ge : ∀ (c : List Frm) (s : Nat), posC tb c + s ≤ outN tb c s ∧ ∀ g, outN tb c (s + g) = outN tb c s + g := by
  intro c
  induction c with
  | nil => intro s; exact ⟨by show 0 + s ≤ s; omega, fun g => rfl⟩
  | cons f c ih =>
    intro s
    have e : ∀ g, szF tb f (s + g) = szF tb f s + g := fun g => by unfold szF; omega
    refine ⟨?_, fun g => ?_⟩
    · have := (ih (szF tb f s)).1
      show posC tb c + 1 + (cenc tb f.2.1).length + s ≤ outN tb c (szF tb f s)
      have : (cenc tb f.2.1).length + s + 1 ≤ szF tb f s := by unfold szF; omega
      omega
    · show outN tb c (szF tb f (s + g)) = outN tb c (szF tb f s) + g
      rw [e, (ih _).2]
/-- a frame's depth and its maker -/
theorem CFx_depth (hw : ∀ m, m < nm → MkWF tb nc m) (hn : nm ≤ 30) {m : Nat} : ∀ (c : List Frm) (t : Option Nat) (T : List Nd), CFx tb c t (some m) → BN nm (fil c T) → (∀ a, t = some a → a + c.length ≤ m) ∧ (t = none → c.length ≤ m + 1) := by
  intro c
  induction c with
  | nil => intro t T h _; exact ⟨fun a ha => by rw [show t = some m from h] at ha; cases ha; show m + 0 ≤ m; omega, fun ht => by show 0 ≤ m + 1; omega⟩
  | cons f c ih =>
    intro t T h hB
    obtain ⟨u, pre, post, a, b, d, e, g⟩ := h
    obtain ⟨b0, b1, b2, b3⟩ := BN_f (BN_hole (c := c) (show BN nm (fil c (fil1 f T)) from hB))
    obtain ⟨i1, i2⟩ := ih u (fil1 f T) g hB
    have eu : f.1.1 = u := a.1
    cases u with
    | none =>
      have hx : f.1 = (none, f.1.2) := Prod.ext eu rfl
      rw [hx] at b
      rw [kids_n] at b
      have := congrArg List.length b
      rw [List.length_append, List.length_cons] at this
      have : 0 = pre.length + (post.length + 1) := this
      omega
    | some v =>
      have hv : v < nm := b0 v eu
      have k := i1 v rfl
      refine ⟨fun q hq => ?_, fun _ => by show c.length + 1 ≤ m + 1; omega⟩
      subst hq
      have hx : f.1 = (some v, f.1.2) := Prod.ext eu rfl
      have : some q ∈ kidsT tb (some v, f.1.2) := by rw [← hx, b]; exact List.mem_append_right _ List.mem_cons_self
      have := kids_bn (hw v hv) (by omega) _ q this
      show q + (c.length + 1) ≤ m; omega
end
