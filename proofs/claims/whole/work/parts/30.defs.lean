/-! THE PURE WORDS: tables, nodes, cases as flat rows, the class's parts, leaves; the invariant -/
abbrev Nd : Type := Option Nat × Int32
abbrev Tb : Type := Nat → Nat → Int32
def tbO (o : Ob) : Tb := fun f => if f < 7 then o.2.2 (f + 1) else fun _ => 0
def wtN (tb : Tb) (m : Nat) : Nat := (tb 5 m).toNatClampNeg
def oneN (tb : Tb) (m : Nat) : Nat := (tb 1 m).toNatClampNeg
def twoN (tb : Tb) (m : Nat) : Nat := (tb 2 m).toNatClampNeg
/-- what the parts of a node are of: a maker each, or (none) a leaf of a shuffled row -/
def kidsT (tb : Tb) (x : Nd) : List (Option Nat) := match x.1 with
  | none => []
  | some m => if tb 0 m = 0 then [] else if tb 0 m = 1 then List.replicate x.2.toNatClampNeg (some (oneN tb m)) else if tb 0 m = 2 then [some (oneN tb m), some (twoN tb m)] else if tb 0 m = 3 then [some (if x.2 = 1 then twoN tb m else oneN tb m)] else if tb 0 m = 6 then List.replicate x.2.toNatClampNeg none else [some (oneN tb m)]
def arN (tb : Tb) (x : Nd) : Nat := (kidsT tb x).length
def isK (tb : Tb) (k : Int32) (x : Nd) : Prop := ∃ m, x.1 = some m ∧ tb 0 m = k
def kindN (tb : Tb) (x : Nd) : Int32 := match x.1 with
  | none => 8
  | some m => tb 0 m
def okN (tb : Tb) (t : Option Nat) (x : Nd) : Prop := x.1 = t ∧ ∀ m, t = some m → (tb 0 m = 1 → ∃ j : Nat, j ≤ (tb 3 m).toNatClampNeg ∧ x.2 = nI j) ∧ (tb 0 m = 6 → x.2 = tb 3 m) ∧ (tb 0 m = 7 → 0 ≤ x.2) ∧ (tb 0 m = 0 → (-1000000) ≤ x.2 ∧ x.2 ≤ 1000000)
/-- a row of nodes is one case each of what is expected, in preorder -/
def CF (tb : Tb) : List Nd → List (Option Nat) → Prop
  | [], ts => ts = []
  | x :: L, ts => ∃ t ts', ts = t :: ts' ∧ okN tb t x ∧ CF tb L (kidsT tb x ++ ts')
/-- how many nodes the first k cases of a row have -/
def tlN (tb : Tb) : List Nd → Nat → Nat
  | [], _ => 0
  | _ :: _, 0 => 0
  | x :: L, k + 1 => 1 + tlN tb L (k + arN tb x)
/-- a maker's numbers are in order -/
def MkWF (tb : Tb) (nc m : Nat) : Prop := (∃ k : Nat, k < 8 ∧ tb 0 m = nI k) ∧ (∃ w : Nat, 1 ≤ w ∧ w ≤ 24 ∧ tb 5 m = nI w) ∧ (tb 6 m = 0 ∨ tb 6 m = 1) ∧
  (tb 0 m = 0 → tb 3 m ≤ tb 4 m ∧ (-1000000) ≤ tb 3 m ∧ tb 4 m ≤ 1000000) ∧
  (tb 0 m = 1 → (∃ a : Nat, a < m ∧ tb 1 m = nI a ∧ ∃ c : Nat, 1 ≤ c ∧ c ≤ 24 ∧ tb 3 m = nI c ∧ wtN tb m = c * wtN tb a)) ∧
  (tb 0 m = 2 → (∃ a b : Nat, a < m ∧ b < m ∧ tb 1 m = nI a ∧ tb 2 m = nI b ∧ wtN tb m = wtN tb a + wtN tb b)) ∧
  (tb 0 m = 3 → (∃ a b p q : Nat, a < m ∧ b < m ∧ tb 1 m = nI a ∧ tb 2 m = nI b ∧ 1 ≤ p ∧ p ≤ 100 ∧ 1 ≤ q ∧ q ≤ 100 ∧ tb 3 m = nI p ∧ tb 4 m = nI q ∧ wtN tb a ≤ wtN tb m ∧ wtN tb b ≤ wtN tb m)) ∧
  (tb 0 m = 4 → (∃ a f : Nat, a < m ∧ tb 1 m = nI a ∧ f < 5 ∧ tb 3 m = nI f ∧ wtN tb m = wtN tb a + 1)) ∧
  (tb 0 m = 5 → (∃ a c : Nat, a < m ∧ tb 1 m = nI a ∧ c < nc ∧ tb 2 m = nI c ∧ wtN tb m = wtN tb a + 1)) ∧
  (tb 0 m = 6 → (∃ n : Nat, 1 ≤ n ∧ n ≤ 24 ∧ tb 3 m = nI n ∧ wtN tb m = n)) ∧
  (tb 0 m = 7 → (∃ a : Nat, a < m ∧ tb 1 m = nI a ∧ wtN tb m = wtN tb a + 1))
def MkRel (tb : Tb) (mo : Ob) (m : Nat) : Prop := mo.2.1 0 = tb 0 m ∧ mo.2.1 5 = tb 5 m ∧ mo.2.1 6 = tb 6 m ∧
  (tb 0 m = 0 → mo.2.1 1 = tb 3 m ∧ mo.2.1 2 = tb 4 m) ∧ (tb 0 m = 1 → mo.2.1 1 = tb 1 m ∧ mo.2.1 2 = tb 3 m) ∧ (tb 0 m = 2 → mo.2.1 1 = tb 1 m ∧ mo.2.1 2 = tb 2 m) ∧
  (tb 0 m = 3 → mo.2.1 1 = tb 1 m ∧ mo.2.1 2 = tb 2 m ∧ mo.2.1 3 = tb 3 m ∧ mo.2.1 4 = tb 4 m) ∧ (tb 0 m = 4 → mo.2.1 1 = tb 1 m ∧ mo.2.1 2 = tb 3 m) ∧ (tb 0 m = 5 → mo.2.1 1 = tb 1 m ∧ mo.2.1 2 = tb 2 m) ∧
  (tb 0 m = 6 → mo.2.1 1 = tb 3 m) ∧ (tb 0 m = 7 → mo.2.1 1 = tb 1 m)
/-- a check's numbers are in order -/
def CkWF (c : Ob) (i : Nat) : Prop := (∃ k : Nat, k < 12 ∧ c.2.1 0 = nI k) ∧ ((c.2.1 0 = 8 ∨ c.2.1 0 = 9) → (∃ a : Nat, a < i ∧ c.2.1 1 = nI a) ∧ ∃ b : Nat, b < i ∧ c.2.1 2 = nI b) ∧ (c.2.1 0 = 10 → ∃ a : Nat, a < i ∧ c.2.1 1 = nI a) ∧ (c.2.1 0 = 11 → (∃ a : Nat, a < 3 ∧ c.2.1 1 = nI a) ∧ ∃ b : Nat, b < 4 ∧ c.2.1 2 = nI b)
/-- the class's parts: kind, value, goal -/
abbrev CN : Type := Int32 × Int32 × Int32
def goalN (tb : Tb) (m : Nat) : Int32 := if tb 3 m < (if tb 4 m < 0 then tb 4 m else 0) then (if tb 4 m < 0 then tb 4 m else 0) else tb 3 m
def cnN (tb : Tb) (x : Nd) : CN := match x.1 with
  | none => (8, x.2, 0)
  | some m => (tb 0 m, if tb 0 m = 2 ∨ tb 0 m = 7 then 2 else if tb 0 m = 3 then 0 else if tb 0 m = 4 then tb 3 m else if tb 0 m = 5 then tb 2 m else x.2, if tb 0 m = 0 then goalN tb m else 0)
def bel (tb : Tb) (x : Nd) : Bool := decide (kindN tb x = 7)
def ctlN (tb : Tb) : List Nd → Nat → Nat
  | [], _ => 0
  | _ :: _, 0 => 0
  | x :: L, k + 1 => 1 + (if bel tb x then 1 else 0) + ctlN tb L (k + arN tb x)
def cenc (tb : Tb) : List Nd → List CN
  | [] => []
  | x :: L => cnN tb x :: (if bel tb x then (cenc tb L).take (ctlN tb L (arN tb x)) ++ (9, x.2, 0) :: (cenc tb L).drop (ctlN tb L (arN tb x)) else cenc tb L)
def arC (c : CN) : Nat := if c.1 = 1 ∨ c.1 = 6 then c.2.1.toNatClampNeg else if c.1 = 2 ∨ c.1 = 7 then 2 else if c.1 = 3 ∨ c.1 = 4 ∨ c.1 = 5 then 1 else 0
def tlC : List CN → Nat → Nat
  | [], _ => 0
  | _ :: _, 0 => 0
  | c :: L, k + 1 => 1 + tlC L (k + arC c)
/-- where what belongs to part p ends -/
def enC (C : List CN) (p : Nat) : Nat := p + tlC (C.drop p) 1
def parS (C : List CN) (p : Nat) : Nat → Option Nat
  | 0 => none
  | q + 1 => if p < enC C q then some q else parS C p q
def parI (C : List CN) (p : Nat) : Int32 := match parS C p p with
  | none => -1
  | some q => nI q
/-- leaves of a row of nodes -/
def leafN (tb : Tb) (x : Nd) : Nat := if kindN tb x = 8 ∨ kindN tb x = 0 ∨ kindN tb x = 7 then 1 else 0
def lfN (tb : Tb) : List Nd → Nat → Nat
  | [], _ => 0
  | _ :: _, 0 => 0
  | x :: L, k + 1 => leafN tb x + lfN tb L (k + arN tb x)
def insR (v : Int32) : List Int32 → List Int32
  | [] => [v]
  | x :: l => if v < x then x :: insR v l else v :: x :: l
def insE (v : Int32) (l : List Int32) : List Int32 := (insR v l.reverse).reverse
def mapF (f : Int32) (l : List Int32) : List Int32 := if f = 0 then l.map (fun v => -v) else if f = 1 then l.map (fun v => 2 * v) else if f = 2 then l.map (fun v => v * v) else if f = 3 then l.map (fun v => v - v / 7 * 7) else l.foldl (fun acc v => insE v acc) []
def evR (tb : Tb) : List Nd → List Int32
  | [] => []
  | x :: L => if kindN tb x = 8 ∨ kindN tb x = 0 then x.2 :: evR tb L else if kindN tb x = 4 then mapF (cnN tb x).2.1 ((evR tb L).take (lfN tb L (arN tb x))) ++ (evR tb L).drop (lfN tb L (arN tb x)) else if kindN tb x = 7 then (evR tb L).take (lfN tb L (arN tb x)) ++ x.2 :: (evR tb L).drop (lfN tb L (arN tb x)) else evR tb L
/-- rows in the two programs -/
def encM : Option Nat → Int32
  | none => -1
  | some m => nI m
def RowM (o : Ob) (t : Nat) (R : List Nd) : Prop := o.2.2 8 t = nI R.length ∧ R.length ≤ 744 ∧ ∀ (i : Nat) (x : Nd), R[i]? = some x → o.2.2 9 (1000 * t + i) = encM x.1 ∧ o.2.2 10 (1000 * t + i) = x.2
def TreeC (b : Ob) (C : List CN) : Prop := b.2.1 6 = nI C.length ∧ C.length ≤ 744 ∧ ∀ (p : Nat) (c : CN), C[p]? = some c → b.2.2 0 p = c.1 ∧ b.2.2 1 p = c.2.1 ∧ b.2.2 2 p = c.2.2 ∧ b.2.2 3 p = parI C p ∧ b.2.2 4 p = nI (enC C p)
def LvC (b : Ob) (ls : List Int32) : Prop := b.2.1 1 = nI ls.length ∧ ls.length ≤ 24 ∧ ∀ (i : Nat) (v : Int32), ls[i]? = some v → b.2.2 0 i = v
/-- a case of some maker lies in a row of the reference and in a tree of the class -/
def Case2 (tb : Tb) (nm : Nat) (o : Ob) (t : Nat) (b : Ob) (R : List Nd) : Prop := (∃ m, m < nm ∧ CF tb R [some m]) ∧ RowM o t R ∧ TreeC b (cenc tb R)
/-- THE INVARIANT, part by part -/
def IvT (nm nc np : Nat) (ck mk pr xs : Nat → Ob) (o : Ob) : Prop := (nm ≤ 30 ∧ nc ≤ 40 ∧ np ≤ 20) ∧ (o.2.1 0 = nI nm ∧ (xs 4).2.1 1 = nI nm) ∧ (o.2.1 21 = nI nc ∧ (xs 1).2.1 1 = nI nc) ∧ (o.2.1 45 = nI np ∧ (xs 0).2.1 4 = nI np) ∧
  (∀ m, m < nm → MkWF (tbO o) nc m ∧ MkRel (tbO o) (mk m) m) ∧ (∀ i, i < nc → CkWF (ck i) i ∧ (ck i).2.1 0 = o.2.2 22 i ∧ (ck i).2.1 1 = o.2.2 23 i ∧ (ck i).2.1 2 = o.2.2 24 i) ∧
  (∀ i, i < np → (∃ a : Nat, a < nm ∧ (pr i).2.1 0 = nI a ∧ o.2.2 46 i = nI a) ∧ (∃ b : Nat, b < nc ∧ (pr i).2.1 1 = nI b ∧ o.2.2 47 i = nI b) ∧ ∃ c : Nat, c ≤ 3 ∧ (pr i).2.1 3 = nI c ∧ o.2.2 48 i = nI c ∧ ∀ l, l < c → ∃ b : Nat, b < nc ∧ (pr i).2.2 2 l = nI b ∧ o.2.2 49 (3 * i + l) = nI b)
def IvE (xs : Nat → Ob) (o : Ob) : Prop := ∃ e : Nat, e ≤ 1500 ∧ o.2.1 34 = nI e ∧ (xs 1).2.1 2 = nI e ∧ ¬ (xs 5).2.1 6 < 0
def IvS (nm : Nat) (xs : Nat → Ob) (o : Ob) : Prop := (o.2.2 8 0 = -1 ∧ (xs 0).2.1 7 = 0) ∨ ((xs 0).2.1 7 = 1 ∧ ∃ R, Case2 (tbO o) nm o 0 (xs 11) R ∧ LvC (xs 12) (evR (tbO o) R))
def IvR (nm : Nat) (xs : Nat → Ob) (o : Ob) : Prop := ((xs 0).2.1 9 = 0 ∧ o.2.1 50 = -9 ∧ o.2.1 52 = 0) ∨
  ((xs 0).2.1 9 = 1 ∧ (∃ k : Nat, k < 4 ∧ o.2.1 50 = nI k ∧ (xs 0).2.2 8 0 = nI k) ∧ o.2.1 51 = (xs 0).2.2 8 1 ∧ o.2.1 53 = (xs 0).2.2 8 2 ∧ o.2.1 54 = (xs 0).2.2 8 3 ∧ o.2.1 55 = (xs 0).2.2 8 4 ∧ (∀ l, l < 3 → o.2.2 56 l = (xs 0).2.2 8 (5 + l)) ∧
    ((o.2.1 52 = 0 ∧ ¬ o.2.1 50 = 1) ∨ (o.2.1 52 = 1 ∧ o.2.1 50 = 1 ∧ (∃ R, Case2 (tbO o) nm o 1 (xs 13) R) ∧ ∃ R, Case2 (tbO o) nm o 2 (xs 14) R)))
def Iv : LInv := fun ck mk pr xs o => ∃ nm nc np : Nat, IvT nm nc np ck mk pr xs o ∧ IvE xs o ∧ IvS nm xs o ∧ IvR nm xs o
/-- what of an object a stretch leaves as it was: the ints and rows outside two lists of slots -/
def Fr (S A : List Nat) (o o2 : Ob) : Prop := (∀ k, k ∉ S → o2.2.1 k = o.2.1 k) ∧ (∀ k, k ∉ A → o2.2.2 k = o.2.2 k)
theorem Fr.rf {S A : List Nat} {o : Ob} : Fr S A o o := ⟨fun _ _ => rfl, fun _ _ => rfl⟩
theorem Fr.tr {S A : List Nat} {o o2 o3 : Ob} (h : Fr S A o o2) (h2 : Fr S A o2 o3) : Fr S A o o3 := ⟨fun k hk => (h2.1 k hk).trans (h.1 k hk), fun k hk => (h2.2 k hk).trans (h.2 k hk)⟩
theorem Fr.mono {S A S' A' : List Nat} {o o2 : Ob} (h : Fr S A o o2) (hS : ∀ k, k ∈ S → k ∈ S') (hA : ∀ k, k ∈ A → k ∈ A') : Fr S' A' o o2 := ⟨fun k hk => h.1 k (fun z => hk (hS k z)), fun k hk => h.2 k (fun z => hk (hA k z))⟩
