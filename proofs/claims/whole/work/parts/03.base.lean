/-! THE GROUND: what a contract is here (one list of words for all), the entry, the calls, worlds in blocks -/
def tysE (E : Nat → ClassId) : List (ClassId × FieldType) := [(E 0, .int), (E 1, .boolean), (E 2, .object "CaseTrials$Check"), (E 3, .object "CaseTrials$Maker"), (E 4, .object "CaseTrials$Property")]
def KK (D : va_G) (E : Nat → ClassId) (U : State) : Prop := va_K D vwCl (tysE E) U ∧ (∀ w ∈ NL, va_Nw w U) ∧ ∀ C ∈ ["CaseTrials$Check", "CaseTrials$Maker", "CaseTrials$Property"], va_AO C U
theorem KK.warm {D : va_G} {E : Nat → ClassId} {s U : State} (hW : s.WarmedH U.vm) (h : KK D E s) : KK D E U := by
  refine ⟨va_K.moved hW.alike h.1, fun w hw => ?_, fun C hC => va_AO.moved hW.alike (h.2.2 C hC)⟩
  have h1 := h.2.1 w hw
  have h2 := (List.mem_filter.mp hw).2
  cases w <;> first | exact va_Nw.warmM hW h1 | exact va_Nw.warmF hW h1 | exact absurd h2 Bool.false_ne_true
theorem KK.calling {D : va_G} {E : Nat → ClassId} {U : State} {g : JFrame} {mk : MethodId} {a : Array Value} (h : KK D E U) : KK D E (U.calling g mk a) := by
  refine ⟨va_K.moved (u := U) (U := U.calling g mk a) (Vm.Alike.refl U.vm) h.1, fun w hw => ?_, fun C hC => va_AO.moved (u := U) (U := U.calling g mk a) (Vm.Alike.refl U.vm) (h.2.2 C hC)⟩
  have h1 := h.2.1 w hw
  have h2 := (List.mem_filter.mp hw).2
  cases w <;> first | exact absurd h2 Bool.false_ne_true | exact va_Nw.same rfl rfl h1
def prB (D : va_G) (E : Nat → ClassId) (sz : Nat) (w : va_W) : State → Prop := fun U => U.heap.size = sz ∧ va_P D vwCl w U.heap ∧ KK D E U ∧ va_D (fun _ => True) w
def poB (D : va_G) {S : Type} (A : Nat → Prop) (wd : S → va_W) : S → State → Prop := fun u t => va_P D vwCl (wd u) t.heap ∧ va_D A (wd u)
/-- contracts: y, begun with the values as over the world w, comes back; what it answers and its state behind fit post, its world behind is wd of it -/
def CtI (l : Launch) (y : MethodName) (cb : ByteArray) (mL : Nat) (rt : FieldType) (rm : Room) (D : va_G) (E : Nat → ClassId) (as : List Value) (w : va_W) {S : Type} (wd : S → va_W) (post : Int32 → S → Prop) (mc ms : Nat) : Prop :=
  ∀ sz : Nat, Met l y (.code y cb mL (some rt) :: TBL) rm (va_Pc as (prB D E sz w)) (va_Qi post (poB D (va_A w sz) wd) (va_A w sz)) mc ms (va_A w sz)
def CtL (l : Launch) (y : MethodName) (cb : ByteArray) (mL : Nat) (rm : Room) (D : va_G) (E : Nat → ClassId) (as : List Value) (w : va_W) {S : Type} (wd : S → va_W) (post : Int64 → S → Prop) (mc ms : Nat) : Prop :=
  ∀ sz : Nat, Met l y (.code y cb mL (some .long) :: TBL) rm (va_Pc as (prB D E sz w)) (va_Ql post (poB D (va_A w sz) wd) (va_A w sz)) mc ms (va_A w sz)
def CtV (l : Launch) (y : MethodName) (cb : ByteArray) (mL : Nat) (rm : Room) (D : va_G) (E : Nat → ClassId) (as : List Value) (w : va_W) {S : Type} (wd : S → va_W) (post : S → Prop) (mc ms : Nat) : Prop :=
  ∀ sz : Nat, Met l y (.code y cb mL none :: TBL) rm (va_Pc as (prB D E sz w)) (va_Qv post (poB D (va_A w sz) wd) (va_A w sz)) mc ms (va_A w sz)
def CtE (l : Launch) (y : MethodName) (cb : ByteArray) (mL : Nat) (rt : FieldType) (rm : Room) (D : va_G) (E : Nat → ClassId) (ad : Nat → Nat) (as : List Value) (w : va_W) {S : Type} (wd : S → va_W) (post : Option Nat → S → Prop) (mc ms : Nat) : Prop :=
  ∀ sz : Nat, Met l y (.code y cb mL (some rt) :: TBL) rm (va_Pc as (prB D E sz w)) (va_Qe ad post (poB D (va_A w sz) wd) (va_A w sz)) mc ms (va_A w sz)
/-- what stands while a method runs: its world, apart, and nothing else changed -/
def Wh (D : va_G) (A : Nat → Prop) (H0 : Heap) (ws : va_W) (H : Heap) (locs : List Loc) : Prop := va_P D vwCl ws H ∧ va_D A ws ∧ va_S A H0 H locs
theorem bool_nar {r : Int32} (h : r = 0 ∨ r = 1) : narrow .boolean (.int r) = .int r := by rcases h with rfl | rfl <;> rfl
section EN
variable {l : Launch} {y : MethodName} {cb : ByteArray} {mL : Nat} {rt : FieldType} {rm : Room} {D : va_G} {E : Nat → ClassId} {ad : Nat → Nat} {as : List Value} {w : va_W} {S : Type} {wd : S → va_W} {mc ms : Nat}
theorem enI {post : Int32 → S → Prop} (hy : plainName y.cls = true) (hn : (lg_sl as).length ≤ mL)
    (body : ∀ (p : Program) (e : Env) (s : State) (m : MethodId) (args : Array Value) (below : List Frame) (meth : Method) (c : Code) (Q : State → Prop) (A : Nat → Prop) (ls : Array Slot),
      p.tables.exec = Jvm.exec → c.code = cb → c.maxLocals = mL → s.vm.findClass y.cls = some m.cls → (∀ w ∈ TBL, w.before args s = true) → KK D E s → (∀ q : Nat, s.heap.size ≤ q → A q) →
      (∀ (pc : Nat) (H : Heap) (locs : List Loc) (ls : Array Slot) (r : Int32) (u : S), decode cb pc = .ok (.ireturn, 1) → narrow rt (.int r) = .int r → post r u → Wh D A s.heap (wd u) H locs → W p l e rm s m args below meth c H locs mc ms Q (F0 m pc ls [.int r])) →
      Wh D A s.heap w s.heap [] → lv_has ls mL (lv_args 0 as) → W p l e rm s m args below meth c s.heap [] 0 0 Q (F0 m 0 ls [])) : CtI l y cb mL rt rm D E as w wd post mc ms := by
  intro sz
  refine Met.ofW (cc := cb) (maxL := mL) (ret := some rt) hy rfl ?_
  intro p e s m args below meth c s₁ B hml hv
  obtain ⟨rfl, hsz, hP, hK, hD0⟩ := hv
  subst hsz
  rw [lg_entry_eq]
  exact body p e s m _ below meth c _ (va_A w s.heap.size) _ B.exec B.bytes hml (findClass_of_methodNamed B.named) (fun w hw => atoms_spec (ws := .code y cb mL (some rt) :: TBL) B.pre w (List.mem_cons_of_mem _ hw)) hK (fun q h => Or.inr h)
    (fun pc H locs ls r u hd hnr hp hh => W.zret (v := r) B.exec B.bytes B.returns hnr (fun t ht hW => ⟨⟨r, u, rfl, hp, by rw [ht]; exact hh.1, hh.2.1⟩, hh.2.2.F ht⟩) hh.2.2.2.2 hd B.notSynchronized) ⟨hP, hD0.self, va_S.rf⟩ (lv_entry as hn)
theorem enL {post : Int64 → S → Prop} (hy : plainName y.cls = true) (hn : (lg_sl as).length ≤ mL)
    (body : ∀ (p : Program) (e : Env) (s : State) (m : MethodId) (args : Array Value) (below : List Frame) (meth : Method) (c : Code) (Q : State → Prop) (A : Nat → Prop) (ls : Array Slot),
      p.tables.exec = Jvm.exec → c.code = cb → c.maxLocals = mL → s.vm.findClass y.cls = some m.cls → (∀ w ∈ TBL, w.before args s = true) → KK D E s → (∀ q : Nat, s.heap.size ≤ q → A q) →
      (∀ (pc : Nat) (H : Heap) (locs : List Loc) (ls : Array Slot) (r : Int64) (u : S), decode cb pc = .ok (.lreturn, 1) → post r u → Wh D A s.heap (wd u) H locs → W p l e rm s m args below meth c H locs mc ms Q (F0 m pc ls [.long r])) →
      Wh D A s.heap w s.heap [] → lv_has ls mL (lv_args 0 as) → W p l e rm s m args below meth c s.heap [] 0 0 Q (F0 m 0 ls [])) : CtL l y cb mL rm D E as w wd post mc ms := by
  intro sz
  refine Met.ofW (cc := cb) (maxL := mL) (ret := some .long) hy rfl ?_
  intro p e s m args below meth c s₁ B hml hv
  obtain ⟨rfl, hsz, hP, hK, hD0⟩ := hv
  subst hsz
  rw [lg_entry_eq]
  exact body p e s m _ below meth c _ (va_A w s.heap.size) _ B.exec B.bytes hml (findClass_of_methodNamed B.named) (fun w hw => atoms_spec (ws := .code y cb mL (some .long) :: TBL) B.pre w (List.mem_cons_of_mem _ hw)) hK (fun q h => Or.inr h)
    (fun pc H locs ls r u hd hp hh => W.lret (v := r) B.exec B.bytes B.returns (fun t ht hW => ⟨⟨r, u, rfl, hp, by rw [ht]; exact hh.1, hh.2.1⟩, hh.2.2.F ht⟩) hh.2.2.2.2 hd B.notSynchronized) ⟨hP, hD0.self, va_S.rf⟩ (lv_entry as hn)
theorem enV {post : S → Prop} (hy : plainName y.cls = true) (hn : (lg_sl as).length ≤ mL)
    (body : ∀ (p : Program) (e : Env) (s : State) (m : MethodId) (args : Array Value) (below : List Frame) (meth : Method) (c : Code) (Q : State → Prop) (A : Nat → Prop) (ls : Array Slot),
      p.tables.exec = Jvm.exec → c.code = cb → c.maxLocals = mL → s.vm.findClass y.cls = some m.cls → (∀ w ∈ TBL, w.before args s = true) → KK D E s → (∀ q : Nat, s.heap.size ≤ q → A q) → (y.name = "<init>" → meth.name = "<init>") →
      (∀ (pc : Nat) (H : Heap) (locs : List Loc) (ls : Array Slot) (u : S), decode cb pc = .ok (.return_, 1) → post u → Wh D A s.heap (wd u) H locs → W p l e rm s m args below meth c H locs mc ms Q (F0 m pc ls [])) →
      Wh D A s.heap w s.heap [] → lv_has ls mL (lv_args 0 as) → W p l e rm s m args below meth c s.heap [] 0 0 Q (F0 m 0 ls [])) : CtV l y cb mL rm D E as w wd post mc ms := by
  intro sz
  refine Met.ofW (cc := cb) (maxL := mL) (ret := none) hy rfl ?_
  intro p e s m args below meth c s₁ B hml hv
  obtain ⟨rfl, hsz, hP, hK, hD0⟩ := hv
  subst hsz
  rw [lg_entry_eq]
  exact body p e s m _ below meth c _ (va_A w s.heap.size) _ B.exec B.bytes hml (findClass_of_methodNamed B.named) (fun w hw => atoms_spec (ws := .code y cb mL none :: TBL) B.pre w (List.mem_cons_of_mem _ hw)) hK (fun q h => Or.inr h) (fun hi => (name_of_methodNamed B.named B.method).1.trans hi)
    (fun pc H locs ls u hd hp hh => W.vret B.exec B.bytes B.returns (fun t ht hW => ⟨⟨u, rfl, hp, by rw [ht]; exact hh.1, hh.2.1⟩, hh.2.2.F ht⟩) hh.2.2.2.2 hd B.notSynchronized) ⟨hP, hD0.self, va_S.rf⟩ (lv_entry as hn)
theorem enE {o : String} {post : Option Nat → S → Prop} (hy : plainName y.cls = true) (hn : (lg_sl as).length ≤ mL)
    (body : ∀ (p : Program) (e : Env) (s : State) (m : MethodId) (args : Array Value) (below : List Frame) (meth : Method) (c : Code) (Q : State → Prop) (A : Nat → Prop) (ls : Array Slot),
      p.tables.exec = Jvm.exec → c.code = cb → c.maxLocals = mL → s.vm.findClass y.cls = some m.cls → (∀ w ∈ TBL, w.before args s = true) → KK D E s → (∀ q : Nat, s.heap.size ≤ q → A q) →
      (∀ (pc : Nat) (H : Heap) (locs : List Loc) (ls : Array Slot) (r : Option Nat) (u : S), decode cb pc = .ok (.areturn, 1) → post r u → Wh D A s.heap (wd u) H locs → W p l e rm s m args below meth c H locs mc ms Q (F0 m pc ls [va_re ad r])) →
      Wh D A s.heap w s.heap [] → lv_has ls mL (lv_args 0 as) → W p l e rm s m args below meth c s.heap [] 0 0 Q (F0 m 0 ls [])) : CtE l y cb mL (.object o) rm D E ad as w wd post mc ms := by
  intro sz
  refine Met.ofW (cc := cb) (maxL := mL) (ret := some (.object o)) hy rfl ?_
  intro p e s m args below meth c s₁ B hml hv
  obtain ⟨rfl, hsz, hP, hK, hD0⟩ := hv
  subst hsz
  rw [lg_entry_eq]
  exact body p e s m _ below meth c _ (va_A w s.heap.size) _ B.exec B.bytes hml (findClass_of_methodNamed B.named) (fun w hw => atoms_spec (ws := .code y cb mL (some (.object o)) :: TBL) B.pre w (List.mem_cons_of_mem _ hw)) hK (fun q h => Or.inr h)
    (fun pc H locs ls r u hd hp hh => W.aret (v := va_re ad r) B.exec B.bytes B.returns (Or.inl ⟨_, rfl⟩) (by cases r with
      | none => exact Or.inl rfl
      | some k => exact Or.inr ⟨_, rfl⟩) (fun t ht hW => ⟨⟨r, u, rfl, hp, by rw [ht]; exact hh.1, hh.2.1⟩, hh.2.2.F ht⟩) hh.2.2.2.2 hd B.notSynchronized) ⟨hP, hD0.self, va_S.rf⟩ (lv_entry as hn)
end EN
/-- what a call needs of its callee's name alone: an instance's method, a static one, a constructor -/
def MFi (y : MethodName) (cb : ByteArray) (mL : Nat) (ret : Option FieldType) (n : Nat) : Prop := Cond.code y cb mL ret ∈ TBL ∧ Cond.instanceMethod y ∈ TBL ∧ Cond.selects y.cls y y ∈ TBL ∧ Cond.initialized y.cls ∈ TBL ∧ (y.cls ≠ "java/lang/invoke/MethodHandle" ∧ y.cls ≠ "java/lang/invoke/VarHandle" ∧ (parseMethodDescriptor y.desc).map (fun d => d.parameters.length) = some n)
def MFs (y : MethodName) (cb : ByteArray) (mL : Nat) (ret : Option FieldType) (n : Nat) : Prop := Cond.code y cb mL ret ∈ TBL ∧ Cond.static y ∈ TBL ∧ Cond.initialized y.cls ∈ TBL ∧ (y.cls ≠ "java/lang/invoke/MethodHandle" ∧ y.cls ≠ "java/lang/invoke/VarHandle" ∧ (parseMethodDescriptor y.desc).map (fun d => d.parameters.length) = some n)
def MFc (y : MethodName) (cb : ByteArray) (mL : Nat) (n : Nat) : Prop := Cond.code y cb mL none ∈ TBL ∧ Cond.instanceMethod y ∈ TBL ∧ y.name = "<init>" ∧ Cond.initialized y.cls ∈ TBL ∧ (y.cls ≠ "java/lang/invoke/MethodHandle" ∧ y.cls ≠ "java/lang/invoke/VarHandle" ∧ (parseMethodDescriptor y.desc).map (fun d => d.parameters.length) = some n)
theorem pay_tb {args : Array Value} {s : State} {y : MethodName} {cb : ByteArray} {mL : Nat} {ret : Option FieldType} (hT : ∀ w ∈ TBL, w.before args s = true) (hkc : Cond.code y cb mL ret ∈ TBL) : ∀ w ∈ (Cond.code y cb mL ret :: TBL), ∀ (a' : Array Value) (U : State), s.WarmedH U.vm → w.before a' U = true :=
  pay_in hT (fun w hw => by
    rcases List.mem_cons.mp hw with rfl | h
    · exact ⟨hkc, good_of_word (tb_good _ hkc)⟩
    · exact ⟨h, good_of_word (tb_good _ h)⟩)
theorem prB_blind {D : va_G} {E : Nat → ClassId} {sz : Nat} {w : va_W} {as : List Value} : FrameBlind (va_Pc as (prB D E sz w)) := fun _ _ _ _ h => ⟨h.1, h.2.1, h.2.2.1, h.2.2.2.1.calling, h.2.2.2.2⟩
theorem va_P.left {D : va_G} {cl : List vw_C} {a b : va_W} {H : Heap} (h : va_P D cl (a ++ b) H) : va_P D cl a H := fun k q hk => h k q (by rw [List.getElem?_append_left (List.getElem?_eq_some_iff.mp hk).1]; exact hk)
theorem va_D.left {A : Nat → Prop} {a b : va_W} (h : va_D A (a ++ b)) : va_D A a := by
  have e : ∀ (k : Nat) (q : Nat × va_E), a[k]? = some q → (a ++ b)[k]? = some q := fun k q hk => by rw [List.getElem?_append_left (List.getElem?_eq_some_iff.mp hk).1]; exact hk
  exact ⟨fun i j p q hi hj => h.1 i j p q (e i p hi) (e j q hj), fun k q hk => h.2 k q (e k q hk)⟩
theorem va_right {a b : va_W} {k : Nat} {q : Nat × va_E} (hk : b[k]? = some q) : (a ++ b)[a.length + k]? = some q := by
  rw [List.getElem?_append_right (Nat.le_add_right _ _), Nat.add_sub_cancel_left]; exact hk
theorem wh_join {D : va_G} {A : Nat → Prop} {H0 H H1 : Heap} {wc wr w1 : va_W} {locs locs1 : List Loc} (hh : Wh D A H0 (wc ++ wr) H locs) (hk : ∀ q : Nat, q < H.size → ¬ va_A wc H.size q → H1[q]? = H[q]?) (hF : ∀ q, va_A wc H.size q → A q) (hP1 : va_P D vwCl w1 H1) (hD1 : va_D (va_A wc H.size) w1) (hS1 : va_S A H0 H1 locs1) : Wh D A H0 (w1 ++ wr) H1 locs1 := by
  obtain ⟨hP, hD, hS⟩ := hh
  have apart : ∀ (k : Nat) (q : Nat × va_E), wr[k]? = some q → q.1 < H.size ∧ ¬ va_A wc H.size q.1 := by
    intro k q hq
    have h2 := va_right (a := wc) hq
    have hl := (hP _ q h2).lt
    refine ⟨hl, fun h => ?_⟩
    rcases h with ⟨k2, e, h⟩ | h
    · have hlt := (List.getElem?_eq_some_iff.mp h).1
      have hij := hD.1 (wc.length + k) k2 q (q.1, e) h2 (by rw [List.getElem?_append_left hlt]; exact h) rfl
      omega
    · omega
  refine ⟨va_P.app hP1 (fun k q hq => ?_), va_D.app (hD1.weaken (fun k q _ h => hF q.1 h)) ⟨fun i j x y hx hy hxy => ?_, fun k q hq => hD.2 _ q (va_right hq)⟩ (fun i j x y hx hy hxy => ?_), hS1⟩
  · obtain ⟨g1, g2⟩ := apart k q hq
    exact (hP _ q (va_right hq)).kept (hk q.1 g1 g2)
  · have := hD.1 (wc.length + i) (wc.length + j) x y (va_right hx) (va_right hy) hxy
    omega
  · exact (apart j y hy).2 (by rw [← hxy]; exact hD1.2 i x hx)
theorem wh_free {D : va_G} {A : Nat → Prop} {H0 H : Heap} {wc wr : va_W} {locs : List Loc} (hh : Wh D A H0 (wc ++ wr) H locs) (hA : ∀ q : Nat, H0.size ≤ q → A q) : ∀ q, va_A wc H.size q → A q := by
  intro q h
  rcases h with ⟨k, e, h⟩ | h
  · exact hh.2.1.left.2 k (q, e) h
  · exact hA q (Nat.le_trans hh.2.2.1 h)
section CALLS
variable {p : Program} {l : Launch} {e : Env} {R : Room} {s : State} {m : MethodId} {args : Array Value} {below : List Frame} {meth : Method} {c : Code} {H : Heap} {locs : List Loc} {cells slots : Nat} {Q : State → Prop}
variable {cc cb : ByteArray} {nL mL mc ms n index pc : Nat} {ret : Option FieldType} {y : MethodName} {rm : Room} {Qc : Array Value → State → Outcome → State → Prop} {free : Addr → Prop} {own host : String} {b : Addr} {As rest st0 : List Value} {ls : Array Slot}
variable {D : va_G} {E : Nat → ClassId} {A : Nat → Prop} {H0 : Heap} {wc wr : va_W}
theorem callB_tb (hT : ∀ w ∈ TBL, w.before args s = true) (hkc : Cond.code y cb mL ret ∈ TBL) (hkI : Cond.initialized y.cls ∈ TBL) (hd : y.cls ≠ "java/lang/invoke/MethodHandle" ∧ y.cls ≠ "java/lang/invoke/VarHandle" ∧ (parseMethodDescriptor y.desc).map (fun d => d.parameters.length) = some n) (hl : Cond.methodLink own index y ∈ TBL) (hR : rm.cells = mc ∧ rm.slots = ms ∧ rm.frames + 1 ≤ R.frames ∧ 8 + (mL + 11) + rm.locals ≤ R.locals) : CallB R s args own index y cb mL ret (.code y cb mL ret :: TBL) rm mc ms n :=
  ⟨hR.1, hR.2.1, hR.2.2.1, hR.2.2.2, pay_tb hT hkc, List.mem_cons_self, hT _ hkc, hT _ hkI, ⟨hd.1, hd.2.1⟩, fun sig h => by have h2 := hd.2.2; rw [h] at h2; exact (Option.some.inj h2).symm, hT _ hl⟩
theorem callN_tb (hT : ∀ w ∈ TBL, w.before args s = true) (hK : KK D E s) (hkc : Cond.code y cb mL ret ∈ TBL) (hkI : Cond.initialized y.cls ∈ TBL) (hd : y.cls ≠ "java/lang/invoke/MethodHandle" ∧ y.cls ≠ "java/lang/invoke/VarHandle" ∧ (parseMethodDescriptor y.desc).map (fun d => d.parameters.length) = some n) (hl : Cond.methodLinkNest own index y host ∈ NL) (hR : rm.cells = mc ∧ rm.slots = ms ∧ rm.frames + 1 ≤ R.frames ∧ 8 + (mL + 11) + rm.locals ≤ R.locals) : va_CN R s args own index y host cb mL ret (.code y cb mL ret :: TBL) rm mc ms n :=
  ⟨⟨hR.1, hR.2.1, hR.2.2.1, hR.2.2.2, pay_tb hT hkc, List.mem_cons_self⟩, hT _ hkc, hT _ hkI, ⟨hd.1, hd.2.1⟩, fun sig h => by have h2 := hd.2.2; rw [h] at h2; exact (Option.some.inj h2).symm, va_Nw.use rfl (hK.2.1 _ hl)⟩
/-- a call of an own private method, of a nest mate's -/
theorem rnV (hx : p.tables.exec = Jvm.exec) (hb : c.code = cc) (hml : c.maxLocals = nL) (hown : s.vm.findClass own = some m.cls) (hT : ∀ w ∈ TBL, w.before args s = true) (hK : KK D E s) (hh : Wh D A H0 (wc ++ wr) H locs)
    (hM : Met l y (.code y cb mL ret :: TBL) rm (va_Pc (.ref b :: As) (prB D E H.size wc)) Qc mc ms free) (hy : MFi y cb mL ret n) (hl : Cond.methodLink own index y ∈ TBL)
    (hR : rm.cells = mc ∧ rm.slots = ms ∧ rm.frames + 1 ≤ R.frames ∧ 8 + (mL + 11) + rm.locals ≤ R.locals) (hf : cells + mc ≤ R.cells ∧ slots + ms ≤ R.slots)
    (ci q0 : Nat) {Tc : u_T} {Nc : Nat} {fs : List Value} (hcl : vwCl[ci]? = some (y.cls, Tc, Nc)) (hb0 : wc[q0]? = some (b, .inr (ci, fs))) (hsz : ls.size = nL) (hn : As.length = n) (hdg : decode cc pc = .ok (.invokevirtual index, 3)) (hst : (rest.map fun v => v.category).sum ≤ 8) (hstk : st0 = As.reverse ++ .ref b :: rest) :
    va_Run p l e R s m args below meth c H locs cells slots mc ms (F0 m pc ls st0) rest (Qc (Value.ref b :: As).toArray) free := by
  subst hstk
  exact va_runV ⟨hx, hb, hml, hown, hT⟩ hM ⟨callB_tb hT hy.1 hy.2.2.2.1 hy.2.2.2.2 hl hR, hT _ hy.2.1, hT _ hy.2.2.1⟩ ⟨prB_blind, va_recv hK.1 hh.1.left hcl hb0, fun U hU hW => ⟨rfl, by rw [hU], by rw [hU]; exact hh.1.left, hK.warm hW, hh.2.1.left.weaken (fun _ _ _ _ => trivial)⟩⟩ rfl hn hsz rfl (lv_room hst) hdg hf
theorem rnVN (hx : p.tables.exec = Jvm.exec) (hb : c.code = cc) (hml : c.maxLocals = nL) (hown : s.vm.findClass own = some m.cls) (hT : ∀ w ∈ TBL, w.before args s = true) (hK : KK D E s) (hh : Wh D A H0 (wc ++ wr) H locs)
    (hM : Met l y (.code y cb mL ret :: TBL) rm (va_Pc (.ref b :: As) (prB D E H.size wc)) Qc mc ms free) (hy : MFi y cb mL ret n) (hl : Cond.methodLinkNest own index y host ∈ NL)
    (hR : rm.cells = mc ∧ rm.slots = ms ∧ rm.frames + 1 ≤ R.frames ∧ 8 + (mL + 11) + rm.locals ≤ R.locals) (hf : cells + mc ≤ R.cells ∧ slots + ms ≤ R.slots)
    (ci q0 : Nat) {Tc : u_T} {Nc : Nat} {fs : List Value} (hcl : vwCl[ci]? = some (y.cls, Tc, Nc)) (hb0 : wc[q0]? = some (b, .inr (ci, fs))) (hsz : ls.size = nL) (hn : As.length = n) (hdg : decode cc pc = .ok (.invokevirtual index, 3)) (hst : (rest.map fun v => v.category).sum ≤ 8) (hstk : st0 = As.reverse ++ .ref b :: rest) :
    va_Run p l e R s m args below meth c H locs cells slots mc ms (F0 m pc ls st0) rest (Qc (Value.ref b :: As).toArray) free := by
  subst hstk
  exact va_runVN ⟨hx, hb, hml, hown, hT⟩ hM ⟨callN_tb hT hK hy.1 hy.2.2.2.1 hy.2.2.2.2 hl hR, hT _ hy.2.1, hT _ hy.2.2.1⟩ ⟨prB_blind, va_recv hK.1 hh.1.left hcl hb0, fun U hU hW => ⟨rfl, by rw [hU], by rw [hU]; exact hh.1.left, hK.warm hW, hh.2.1.left.weaken (fun _ _ _ _ => trivial)⟩⟩ rfl hn hsz rfl (lv_room hst) hdg hf
theorem rnS (hx : p.tables.exec = Jvm.exec) (hb : c.code = cc) (hml : c.maxLocals = nL) (hown : s.vm.findClass own = some m.cls) (hT : ∀ w ∈ TBL, w.before args s = true) (hK : KK D E s) (hh : Wh D A H0 (wc ++ wr) H locs)
    (hM : Met l y (.code y cb mL ret :: TBL) rm (va_Pc As (prB D E H.size wc)) Qc mc ms free) (hy : MFs y cb mL ret n) (hl : Cond.methodLink own index y ∈ TBL)
    (hR : rm.cells = mc ∧ rm.slots = ms ∧ rm.frames + 1 ≤ R.frames ∧ 8 + (mL + 11) + rm.locals ≤ R.locals) (hf : cells + mc ≤ R.cells ∧ slots + ms ≤ R.slots)
    (hsz : ls.size = nL) (hn : As.length = n) (hdg : decode cc pc = .ok (.invokestatic index, 3)) (hst : (rest.map fun v => v.category).sum ≤ 8) (hstk : st0 = As.reverse ++ rest) :
    va_Run p l e R s m args below meth c H locs cells slots mc ms (F0 m pc ls st0) rest (Qc As.toArray) free := by
  subst hstk
  exact va_runS ⟨hx, hb, hml, hown, hT⟩ hM ⟨callB_tb hT hy.1 hy.2.2.1 hy.2.2.2 hl hR, hT _ hy.2.1⟩ ⟨prB_blind, fun U hU hW => ⟨rfl, by rw [hU], by rw [hU]; exact hh.1.left, hK.warm hW, hh.2.1.left.weaken (fun _ _ _ _ => trivial)⟩⟩ rfl hn hsz rfl (lv_room hst) hdg hf
theorem rnSN (hx : p.tables.exec = Jvm.exec) (hb : c.code = cc) (hml : c.maxLocals = nL) (hown : s.vm.findClass own = some m.cls) (hT : ∀ w ∈ TBL, w.before args s = true) (hK : KK D E s) (hh : Wh D A H0 (wc ++ wr) H locs)
    (hM : Met l y (.code y cb mL ret :: TBL) rm (va_Pc As (prB D E H.size wc)) Qc mc ms free) (hy : MFs y cb mL ret n) (hl : Cond.methodLinkNest own index y host ∈ NL)
    (hR : rm.cells = mc ∧ rm.slots = ms ∧ rm.frames + 1 ≤ R.frames ∧ 8 + (mL + 11) + rm.locals ≤ R.locals) (hf : cells + mc ≤ R.cells ∧ slots + ms ≤ R.slots)
    (hsz : ls.size = nL) (hn : As.length = n) (hdg : decode cc pc = .ok (.invokestatic index, 3)) (hst : (rest.map fun v => v.category).sum ≤ 8) (hstk : st0 = As.reverse ++ rest) :
    va_Run p l e R s m args below meth c H locs cells slots mc ms (F0 m pc ls st0) rest (Qc As.toArray) free := by
  subst hstk
  exact va_runSN ⟨hx, hb, hml, hown, hT⟩ hM ⟨callN_tb hT hK hy.1 hy.2.2.1 hy.2.2.2 hl hR, hT _ hy.2.1, trivial⟩ ⟨prB_blind, fun U hU hW => ⟨rfl, by rw [hU], by rw [hU]; exact hh.1.left, hK.warm hW, hh.2.1.left.weaken (fun _ _ _ _ => trivial)⟩⟩ rfl hn hsz rfl (lv_room hst) hdg hf
theorem rnI (hx : p.tables.exec = Jvm.exec) (hb : c.code = cc) (hml : c.maxLocals = nL) (hown : s.vm.findClass own = some m.cls) (hT : ∀ w ∈ TBL, w.before args s = true) (hK : KK D E s) (hh : Wh D A H0 (wc ++ wr) H locs)
    (hM : Met l y (.code y cb mL none :: TBL) rm (va_Pc (.ref b :: As) (prB D E H.size wc)) Qc mc ms free) (hy : MFc y cb mL n) (hl : Cond.methodLink own index y ∈ TBL)
    (hR : rm.cells = mc ∧ rm.slots = ms ∧ rm.frames + 1 ≤ R.frames ∧ 8 + (mL + 11) + rm.locals ≤ R.locals) (hf : cells + mc ≤ R.cells ∧ slots + ms ≤ R.slots)
    (hsz : ls.size = nL) (hn : As.length = n) (hdg : decode cc pc = .ok (.invokespecial index, 3)) (hst : (rest.map fun v => v.category).sum ≤ 8) (hstk : st0 = As.reverse ++ .ref b :: rest) :
    va_Run p l e R s m args below meth c H locs cells slots mc ms (F0 m pc ls st0) rest (Qc (Value.ref b :: As).toArray) free := by
  subst hstk
  exact va_runI ⟨hx, hb, hml, hown, hT⟩ hM ⟨callB_tb hT hy.1 hy.2.2.2.1 hy.2.2.2.2 hl hR, hy.2.2.1, hT _ hy.2.1⟩ ⟨prB_blind, fun U hU hW => ⟨rfl, by rw [hU], by rw [hU]; exact hh.1.left, hK.warm hW, hh.2.1.left.weaken (fun _ _ _ _ => trivial)⟩⟩ rfl hn hsz rfl (lv_room hst) hdg hf
theorem rnIN (hx : p.tables.exec = Jvm.exec) (hb : c.code = cc) (hml : c.maxLocals = nL) (hown : s.vm.findClass own = some m.cls) (hT : ∀ w ∈ TBL, w.before args s = true) (hK : KK D E s) (hh : Wh D A H0 (wc ++ wr) H locs)
    (hM : Met l y (.code y cb mL none :: TBL) rm (va_Pc (.ref b :: As) (prB D E H.size wc)) Qc mc ms free) (hy : MFc y cb mL n) (hl : Cond.methodLinkNest own index y host ∈ NL)
    (hR : rm.cells = mc ∧ rm.slots = ms ∧ rm.frames + 1 ≤ R.frames ∧ 8 + (mL + 11) + rm.locals ≤ R.locals) (hf : cells + mc ≤ R.cells ∧ slots + ms ≤ R.slots)
    (hsz : ls.size = nL) (hn : As.length = n) (hdg : decode cc pc = .ok (.invokespecial index, 3)) (hst : (rest.map fun v => v.category).sum ≤ 8) (hstk : st0 = As.reverse ++ .ref b :: rest) :
    va_Run p l e R s m args below meth c H locs cells slots mc ms (F0 m pc ls st0) rest (Qc (Value.ref b :: As).toArray) free := by
  subst hstk
  exact va_runIN ⟨hx, hb, hml, hown, hT⟩ hM ⟨callN_tb hT hK hy.1 hy.2.2.2.1 hy.2.2.2.2 hl hR, hy.2.2.1, hT _ hy.2.1⟩ ⟨prB_blind, fun U hU hW => ⟨rfl, by rw [hU], by rw [hU]; exact hh.1.left, hK.warm hW, hh.2.1.left.weaken (fun _ _ _ _ => trivial)⟩⟩ rfl hn hsz rfl (lv_room hst) hdg hf
/-- behind a call -/
theorem kI {S : Type} {post : Int32 → S → Prop} {wd : S → va_W} {a : Array Value} (hh : Wh D A H0 (wc ++ wr) H locs) (hA : ∀ q : Nat, H0.size ≤ q → A q) (hr : va_Run p l e R s m args below meth c H locs cells slots mc ms (F0 m pc ls st0) rest (va_Qi post (poB D (va_A wc H.size) wd) (va_A wc H.size) a) (va_A wc H.size))
    (kk : ∀ (r : Int32) (u : S) (H1 : Heap) (locs1 : List Loc), post r u → Wh D A H0 (wd u ++ wr) H1 locs1 → W p l e R s m args below meth c H1 locs1 (cells + mc) (slots + ms) Q (F0 m (pc + 3) ls (.int r :: rest))) : W p l e R s m args below meth c H locs cells slots Q (F0 m pc ls st0) :=
  va_calli hr hh.2.2 (fun q _ h => wh_free hh hA q h) (wh_free hh hA) (fun r u t H1 locs1 ht hvm hw hB hz hk hS1 => kk r u H1 locs1 hw (wh_join hh hk (wh_free hh hA) (by rw [← ht]; exact hB.1) hB.2 hS1))
theorem kL {S : Type} {post : Int64 → S → Prop} {wd : S → va_W} {a : Array Value} (hh : Wh D A H0 (wc ++ wr) H locs) (hA : ∀ q : Nat, H0.size ≤ q → A q) (hr : va_Run p l e R s m args below meth c H locs cells slots mc ms (F0 m pc ls st0) rest (va_Ql post (poB D (va_A wc H.size) wd) (va_A wc H.size) a) (va_A wc H.size))
    (kk : ∀ (r : Int64) (u : S) (H1 : Heap) (locs1 : List Loc), post r u → Wh D A H0 (wd u ++ wr) H1 locs1 → W p l e R s m args below meth c H1 locs1 (cells + mc) (slots + ms) Q (F0 m (pc + 3) ls (.long r :: rest))) : W p l e R s m args below meth c H locs cells slots Q (F0 m pc ls st0) :=
  va_calll hr hh.2.2 (fun q _ h => wh_free hh hA q h) (wh_free hh hA) (fun r u t H1 locs1 ht hvm hw hB hz hk hS1 => kk r u H1 locs1 hw (wh_join hh hk (wh_free hh hA) (by rw [← ht]; exact hB.1) hB.2 hS1))
theorem kV {S : Type} {post : S → Prop} {wd : S → va_W} {a : Array Value} (hh : Wh D A H0 (wc ++ wr) H locs) (hA : ∀ q : Nat, H0.size ≤ q → A q) (hr : va_Run p l e R s m args below meth c H locs cells slots mc ms (F0 m pc ls st0) rest (va_Qv post (poB D (va_A wc H.size) wd) (va_A wc H.size) a) (va_A wc H.size))
    (kk : ∀ (u : S) (H1 : Heap) (locs1 : List Loc), post u → Wh D A H0 (wd u ++ wr) H1 locs1 → W p l e R s m args below meth c H1 locs1 (cells + mc) (slots + ms) Q (F0 m (pc + 3) ls rest)) : W p l e R s m args below meth c H locs cells slots Q (F0 m pc ls st0) :=
  va_callv hr hh.2.2 (fun q _ h => wh_free hh hA q h) (wh_free hh hA) (fun u t H1 locs1 ht hvm hw hB hz hk hS1 => kk u H1 locs1 hw (wh_join hh hk (wh_free hh hA) (by rw [← ht]; exact hB.1) hB.2 hS1))
theorem kE {ad : Nat → Nat} {S : Type} {post : Option Nat → S → Prop} {wd : S → va_W} {a : Array Value} (hh : Wh D A H0 (wc ++ wr) H locs) (hA : ∀ q : Nat, H0.size ≤ q → A q) (hr : va_Run p l e R s m args below meth c H locs cells slots mc ms (F0 m pc ls st0) rest (va_Qe ad post (poB D (va_A wc H.size) wd) (va_A wc H.size) a) (va_A wc H.size))
    (kk : ∀ (r : Option Nat) (u : S) (H1 : Heap) (locs1 : List Loc), post r u → Wh D A H0 (wd u ++ wr) H1 locs1 → W p l e R s m args below meth c H1 locs1 (cells + mc) (slots + ms) Q (F0 m (pc + 3) ls (va_re ad r :: rest))) : W p l e R s m args below meth c H locs cells slots Q (F0 m pc ls st0) :=
  va_calle hr hh.2.2 (fun q _ h => wh_free hh hA q h) (wh_free hh hA) (fun r u t H1 locs1 ht hvm hw hB hz hk hS1 => kk r u H1 locs1 hw (wh_join hh hk (wh_free hh hA) (by rw [← ht]; exact hB.1) hB.2 hS1))
end CALLS
/-- the blocks of a world in another order -/
theorem va_P.perm {D : va_G} {cl : List vw_C} {a b : va_W} {H : Heap} (hp : a.Perm b) (h : va_P D cl a H) : va_P D cl b H := by
  intro k q hk
  obtain ⟨j, hj⟩ := List.mem_iff_getElem?.mp (hp.mem_iff.mpr (List.mem_of_getElem? hk))
  exact h j q hj
theorem va_D_nodup {A : Nat → Prop} {a : va_W} : va_D A a ↔ (a.map (fun q => q.1)).Nodup ∧ ∀ q ∈ a, A q.1 := by
  constructor
  · intro h
    refine ⟨List.pairwise_iff_getElem.mpr (fun i j hi hj hij he => ?_), fun q hq => ?_⟩
    · rw [List.length_map] at hi hj
      rw [List.getElem_map, List.getElem_map] at he
      have := h.1 i j _ _ (List.getElem?_eq_getElem hi) (List.getElem?_eq_getElem hj) he
      omega
    · obtain ⟨j, hj⟩ := List.mem_iff_getElem?.mp hq
      exact h.2 j q hj
  · intro h
    refine ⟨fun i j p q hi hj hpq => ?_, fun k q hk => h.2 q (List.mem_of_getElem? hk)⟩
    have hn := List.pairwise_iff_getElem.mp h.1
    obtain ⟨li, ei⟩ := List.getElem?_eq_some_iff.mp hi
    obtain ⟨lj, ej⟩ := List.getElem?_eq_some_iff.mp hj
    rcases Nat.lt_trichotomy i j with z | z | z
    · exact absurd (by rw [List.getElem_map, List.getElem_map, ei, ej]; exact hpq) (hn i j (by rw [List.length_map]; exact li) (by rw [List.length_map]; exact lj) z)
    · exact z
    · exact absurd (by rw [List.getElem_map, List.getElem_map, ei, ej]; exact hpq.symm) (hn j i (by rw [List.length_map]; exact lj) (by rw [List.length_map]; exact li) z)
theorem va_D.perm {A : Nat → Prop} {a b : va_W} (hp : a.Perm b) (h : va_D A a) : va_D A b := by
  rw [va_D_nodup] at h ⊢
  exact ⟨(hp.map _).nodup_iff.mp h.1, fun q hq => h.2 q (hp.mem_iff.mpr hq)⟩
theorem Wh.perm {D : va_G} {A : Nat → Prop} {H0 H : Heap} {a b : va_W} {locs : List Loc} (hp : a.Perm b) (h : Wh D A H0 a H locs) : Wh D A H0 b H locs := ⟨h.1.perm hp, h.2.1.perm hp, h.2.2⟩
theorem blk_perm (bs bs' : List va_W) (is : List Nat) (hp : is.Perm (List.range bs.length)) (he : is.map (fun i => bs[i]?) = bs'.map some) : bs.flatten.Perm bs'.flatten := by
  have h1 : (bs'.map some).Perm (bs.map some) := by
    rw [← he]
    have h2 := hp.map (fun i => bs[i]?)
    have h3 : (List.range bs.length).map (fun i => bs[i]?) = bs.map some := by
      apply List.ext_getElem?
      intro k
      rw [List.getElem?_map, List.getElem?_map]
      by_cases hk : k < bs.length
      · rw [List.getElem?_range hk, List.getElem?_eq_getElem hk]; simp [List.getElem?_eq_getElem hk]
      · rw [List.getElem?_eq_none (by simpa using hk), List.getElem?_eq_none (by simpa using hk)]; rfl
    rw [h3] at h2
    exact h2
  have h4 := h1.filterMap id
  rw [List.filterMap_map, List.filterMap_map] at h4
  simp at h4
  exact h4.symm.flatten
