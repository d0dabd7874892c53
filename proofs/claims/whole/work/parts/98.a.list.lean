/-! EDITS: which cases of a list are left out -/
def LsO (n cN left : Nat) : Prop := (∃ l' : Nat, (∀ (K : Int32 → Int32 → Ob → Ob → Ob → Prop) (Post : Int32 → Ob → Ob → Ob → Prop) (sk sb sn : Ob), K (nI 0) (nI l') sk sb sn → ∃ g, w_X7_shorten_L19 (nI n) K Post g (nI cN) (nI left) sk sb sn) ∧ (∀ (K : Int32 → Int32 → Ob → Prop) (Post : Int32 → Ob → Prop) (x1 : Int32) (o : Ob), Post 0 o → ∃ g, w_X10_listChange_L8 x1 (nI n) K Post g (nI left) (nI cN) o)) ∨
  ∃ c' l' : Nat, 1 ≤ c' ∧ c' ≤ n ∧ c' * l' + c' ≤ n ∧ left < 24 * cN ∧ (∀ (K : Int32 → Int32 → Ob → Ob → Ob → Prop) (Post : Int32 → Ob → Ob → Ob → Prop) (sk sb sn : Ob), K (nI c') (nI l') sk sb sn → ∃ g, w_X7_shorten_L19 (nI n) K Post g (nI cN) (nI left) sk sb sn) ∧ (∀ (K : Int32 → Int32 → Ob → Prop) (Post : Int32 → Ob → Prop) (x1 : Int32) (o : Ob), K (nI l') (nI c') o → ∃ g, w_X10_listChange_L8 x1 (nI n) K Post g (nI left) (nI cN) o)
theorem list_cut {n : Nat} (hn : n ≤ 24) : ∀ (f cN left : Nat), cN ≤ f → cN ≤ n → left ≤ 1000 → LsO n cN left := by
  have zero : ∀ left, LsO n 0 left := fun left => Or.inl ⟨left, fun K Post sk sb sn h => ⟨1, fun _ => h, fun z => absurd (show nI 0 ≤ 0 by decide) z⟩, fun K Post x1 o h => ⟨1, fun _ => h, fun z => absurd (show nI 0 ≤ 0 by decide) z⟩⟩
  intro f
  induction f with
  | zero => intro cN left h _ _; rw [show cN = 0 by omega]; exact zero left
  | succ f ih =>
    intro cN left hf hc hl
    rcases Nat.eq_zero_or_pos cN with q | q
    · rw [q]; exact zero left
    · have hdv : nI n / nI cN = nI (n / cN) := pk_div (by omega) q (by omega)
      have h2 : nI cN / 2 = nI (cN / 2) := by rw [show (2 : Int32) = nI 2 from rfl, pk_div (by omega) (by omega) (by omega)]
      have dle : n / cN ≤ n := Nat.div_le_self n cN
      rcases Nat.lt_or_ge left (n / cN) with lt | ge
      · right
        have hm : (left + 1) * cN ≤ n := Nat.mul_le_of_le_div cN (left + 1) n lt
        refine ⟨cN, left, q, hc, ?_, ?_, fun K Post sk sb sn h => ⟨1, fun z => absurd z (nI_nle q (by omega)), fun _ => ⟨nI_ne0 q (by omega), ?_⟩⟩, fun K Post x1 o h => ⟨1, fun z => absurd z (nI_nle q (by omega)), fun _ => ⟨nI_ne0 q (by omega), ?_⟩⟩⟩
        · rw [Nat.add_mul, Nat.one_mul, Nat.mul_comm] at hm; exact hm
        · have : 24 * 1 ≤ 24 * cN := Nat.mul_le_mul (Nat.le_refl _) q
          omega
        · rw [hdv]
          exact ⟨fun _ => h, fun z => absurd ((nI_ltI (by omega) (by omega)).mpr lt) z⟩
        · rw [hdv]
          exact ⟨fun z => absurd z (by rw [nI_leI (by omega) (by omega)]; omega), fun _ => h⟩
      · have hsub : nI left - nI (n / cN) = nI (left - n / cN) := nI_sub ge
        have stepC : ∀ (K : Int32 → Int32 → Ob → Ob → Ob → Prop) (Post : Int32 → Ob → Ob → Ob → Prop) (sk sb sn : Ob), (∃ g, w_X7_shorten_L19 (nI n) K Post g (nI (cN / 2)) (nI (left - n / cN)) sk sb sn) → ∃ g, w_X7_shorten_L19 (nI n) K Post g (nI cN) (nI left) sk sb sn := by
          rintro K Post sk sb sn ⟨g, hg⟩
          refine ⟨g + 1, fun z => absurd z (nI_nle q (by omega)), fun _ => ⟨nI_ne0 q (by omega), ?_⟩⟩
          rw [hdv, h2, hsub]
          exact ⟨fun z => absurd z (by rw [nI_ltI (by omega) (by omega)]; omega), fun _ => ⟨nI_ne0 q (by omega), hg⟩⟩
        have stepR : ∀ (K : Int32 → Int32 → Ob → Prop) (Post : Int32 → Ob → Prop) (x1 : Int32) (o : Ob), (∃ g, w_X10_listChange_L8 x1 (nI n) K Post g (nI (left - n / cN)) (nI (cN / 2)) o) → ∃ g, w_X10_listChange_L8 x1 (nI n) K Post g (nI left) (nI cN) o := by
          rintro K Post x1 o ⟨g, hg⟩
          refine ⟨g + 1, fun z => absurd z (nI_nle q (by omega)), fun _ => ⟨nI_ne0 q (by omega), ?_⟩⟩
          rw [hdv, h2, hsub]
          exact ⟨fun _ => hg, fun z => absurd ((nI_leI (by omega) (by omega)).mpr ge) z⟩
        rcases ih (cN / 2) (left - n / cN) (by omega) (by omega) (Nat.le_trans (Nat.sub_le _ _) hl) with ⟨l', a, b⟩ | ⟨c', l', a1, a2, a3, a4, a5, a6⟩
        · exact Or.inl ⟨l', fun K Post sk sb sn h => stepC K Post sk sb sn (a K Post sk sb sn h), fun K Post x1 o h => stepR K Post x1 o (b K Post x1 o h)⟩
        · exact Or.inr ⟨c', l', a1, a2, a3, by omega, fun K Post sk sb sn h => stepC K Post sk sb sn (a5 K Post sk sb sn h), fun K Post x1 o h => stepR K Post x1 o (a6 K Post x1 o h)⟩
/-! the class's tree without some parts -/
def adI (to gone : Nat) (x : Int32) : Int32 := if x < nI to then x else x - nI gone
def nwN (frm to q : Nat) : Nat := if q < frm then q else q - (to - frm)
def DrP (frm to z : Nat) (kt0 kt : Ob) : Prop := ∀ q, q < z → (q < frm ∨ to ≤ q) → kt.2.2 0 (nwN frm to q) = kt0.2.2 0 q ∧ kt.2.2 1 (nwN frm to q) = kt0.2.2 1 q ∧ kt.2.2 2 (nwN frm to q) = kt0.2.2 2 q ∧ kt.2.2 3 (nwN frm to q) = adI to (to - frm) (kt0.2.2 3 q) ∧ kt.2.2 4 (nwN frm to q) = adI to (to - frm) (kt0.2.2 4 q)
theorem c_dpL {frm to z : Nat} {kt0 : Ob} {K Post : Ob → Prop} (h1 : frm < to) (h2 : to ≤ z) (h3 : z ≤ 744) (kk : ∀ kt, kt.2.1 = kt0.2.1 → DrP frm to z kt0 kt → K kt) (h6 : kt0.2.1 6 = nI z) : ∀ (d p : Nat) (kt : Ob), p + d = z → kt.2.1 = kt0.2.1 → DrP frm to p kt0 kt → (∀ f, f < 5 → ∀ q, p ≤ q → kt.2.2 f q = kt0.2.2 f q) → w_X8_dropParts_L35 (nI frm) (nI to) (nI to - nI frm) K Post (d + 1) (nI p) kt := by
  have hg : nI to - nI frm = nI (to - frm) := nI_sub (by omega)
  intro d
  induction d with
  | zero =>
    intro p kt hp e1 e2 e3
    rw [Nat.add_zero] at hp
    subst hp
    exact ⟨fun _ => kk kt e1 e2, fun y => absurd (show kt.2.1 6 ≤ nI p by rw [e1, h6]; exact Int32.le_refl _) y⟩
  | succ d ih =>
    intro p kt hp e1 e2 e3
    refine ⟨fun y => absurd y (by rw [e1, h6, nI_leI (by omega) (by omega)]; omega), fun _ => ?_⟩
    rw [hg]
    have vp : vp_in (nI p) 744 := vp_in_nI (by omega) (by omega)
    have ep : (nI p).toNatClampNeg = p := nI_clamp (by omega)
    -- a part that stays
    have stay : (p < frm ∨ to ≤ p) → ∀ zz : Int32, zz = nI (nwN frm to p) → ∀ X : Ob, X = (kt.1, kt.2.1, sa (sa (sa (sa (sa kt.2.2 0 (upd (kt.2.2 0) (nwN frm to p) (kt0.2.2 0 p))) 1 (upd (kt.2.2 1) (nwN frm to p) (kt0.2.2 1 p))) 2 (upd (kt.2.2 2) (nwN frm to p) (kt0.2.2 2 p))) 3 (upd (kt.2.2 3) (nwN frm to p) (adI to (to - frm) (kt0.2.2 3 p)))) 4 (upd (kt.2.2 4) (nwN frm to p) (adI to (to - frm) (kt0.2.2 4 p)))) → w_X8_dropParts_L35 (nI frm) (nI to) (nI (to - frm)) K Post (d + 1) (nI p + 1) X := by
      intro hs zz hzz X hX
      have nle : nwN frm to p ≤ p := by unfold nwN; split <;> omega
      have x1 : X.2.1 = kt0.2.1 := by rw [hX]; exact e1
      have r : ∀ f q, q ≠ nwN frm to p → X.2.2 f q = kt.2.2 f q := by
        intro f q hq
        rw [hX]
        show sa (sa (sa (sa (sa kt.2.2 0 (upd (kt.2.2 0) (nwN frm to p) (kt0.2.2 0 p))) 1 (upd (kt.2.2 1) (nwN frm to p) (kt0.2.2 1 p))) 2 (upd (kt.2.2 2) (nwN frm to p) (kt0.2.2 2 p))) 3 (upd (kt.2.2 3) (nwN frm to p) (adI to (to - frm) (kt0.2.2 3 p)))) 4 (upd (kt.2.2 4) (nwN frm to p) (adI to (to - frm) (kt0.2.2 4 p))) f q = _
        by_cases f4 : f = 4
        · subst f4; rw [sa_us, pk_un hq]
        · rw [sa_ne f4]
          by_cases f3 : f = 3
          · subst f3; rw [sa_us, pk_un hq]
          · rw [sa_ne f3]
            by_cases f2 : f = 2
            · subst f2; rw [sa_us, pk_un hq]
            · rw [sa_ne f2]
              by_cases f1 : f = 1
              · subst f1; rw [sa_us, pk_un hq]
              · rw [sa_ne f1]
                by_cases f0 : f = 0
                · subst f0; rw [sa_us, pk_un hq]
                · rw [sa_ne f0]
      have w0 : X.2.2 0 (nwN frm to p) = kt0.2.2 0 p := by rw [hX]; show sa (sa (sa (sa (sa kt.2.2 0 (upd (kt.2.2 0) (nwN frm to p) (kt0.2.2 0 p))) 1 (upd (kt.2.2 1) (nwN frm to p) (kt0.2.2 1 p))) 2 (upd (kt.2.2 2) (nwN frm to p) (kt0.2.2 2 p))) 3 (upd (kt.2.2 3) (nwN frm to p) (adI to (to - frm) (kt0.2.2 3 p)))) 4 (upd (kt.2.2 4) (nwN frm to p) (adI to (to - frm) (kt0.2.2 4 p))) 0 (nwN frm to p) = _; rw [sa_ne (by omega), sa_ne (by omega), sa_ne (by omega), sa_ne (by omega), sa_us, pk_us]
      have w1 : X.2.2 1 (nwN frm to p) = kt0.2.2 1 p := by rw [hX]; show sa (sa (sa (sa (sa kt.2.2 0 (upd (kt.2.2 0) (nwN frm to p) (kt0.2.2 0 p))) 1 (upd (kt.2.2 1) (nwN frm to p) (kt0.2.2 1 p))) 2 (upd (kt.2.2 2) (nwN frm to p) (kt0.2.2 2 p))) 3 (upd (kt.2.2 3) (nwN frm to p) (adI to (to - frm) (kt0.2.2 3 p)))) 4 (upd (kt.2.2 4) (nwN frm to p) (adI to (to - frm) (kt0.2.2 4 p))) 1 (nwN frm to p) = _; rw [sa_ne (by omega), sa_ne (by omega), sa_ne (by omega), sa_us, pk_us]
      have w2 : X.2.2 2 (nwN frm to p) = kt0.2.2 2 p := by rw [hX]; show sa (sa (sa (sa (sa kt.2.2 0 (upd (kt.2.2 0) (nwN frm to p) (kt0.2.2 0 p))) 1 (upd (kt.2.2 1) (nwN frm to p) (kt0.2.2 1 p))) 2 (upd (kt.2.2 2) (nwN frm to p) (kt0.2.2 2 p))) 3 (upd (kt.2.2 3) (nwN frm to p) (adI to (to - frm) (kt0.2.2 3 p)))) 4 (upd (kt.2.2 4) (nwN frm to p) (adI to (to - frm) (kt0.2.2 4 p))) 2 (nwN frm to p) = _; rw [sa_ne (by omega), sa_ne (by omega), sa_us, pk_us]
      have w3 : X.2.2 3 (nwN frm to p) = adI to (to - frm) (kt0.2.2 3 p) := by rw [hX]; show sa (sa (sa (sa (sa kt.2.2 0 (upd (kt.2.2 0) (nwN frm to p) (kt0.2.2 0 p))) 1 (upd (kt.2.2 1) (nwN frm to p) (kt0.2.2 1 p))) 2 (upd (kt.2.2 2) (nwN frm to p) (kt0.2.2 2 p))) 3 (upd (kt.2.2 3) (nwN frm to p) (adI to (to - frm) (kt0.2.2 3 p)))) 4 (upd (kt.2.2 4) (nwN frm to p) (adI to (to - frm) (kt0.2.2 4 p))) 3 (nwN frm to p) = _; rw [sa_ne (by omega), sa_us, pk_us]
      have w4 : X.2.2 4 (nwN frm to p) = adI to (to - frm) (kt0.2.2 4 p) := by rw [hX]; show sa (sa (sa (sa (sa kt.2.2 0 (upd (kt.2.2 0) (nwN frm to p) (kt0.2.2 0 p))) 1 (upd (kt.2.2 1) (nwN frm to p) (kt0.2.2 1 p))) 2 (upd (kt.2.2 2) (nwN frm to p) (kt0.2.2 2 p))) 3 (upd (kt.2.2 3) (nwN frm to p) (adI to (to - frm) (kt0.2.2 3 p)))) 4 (upd (kt.2.2 4) (nwN frm to p) (adI to (to - frm) (kt0.2.2 4 p))) 4 (nwN frm to p) = _; rw [sa_us, pk_us]
      rw [nI_1, ← hg]
      refine ih (p + 1) X (by omega) x1 (fun q hq hqs => ?_) (fun f hf q hq => by rw [r f q (by omega)]; exact e3 f hf q (by omega))
      rcases Nat.lt_or_ge q p with c | c
      · have hne : nwN frm to q ≠ nwN frm to p := by unfold nwN; split <;> split <;> omega
        rw [r 0 _ hne, r 1 _ hne, r 2 _ hne, r 3 _ hne, r 4 _ hne]
        exact e2 q c hqs
      · rw [show q = p by omega]
        exact ⟨w0, w1, w2, w3, w4⟩
    have v0 := e3 0 (by omega) p (Nat.le_refl _)
    have v1 := e3 1 (by omega) p (Nat.le_refl _)
    have v2 := e3 2 (by omega) p (Nat.le_refl _)
    have v3 := e3 3 (by omega) p (Nat.le_refl _)
    have v4 := e3 4 (by omega) p (Nat.le_refl _)
    -- what is written for a part that stays
    have wr : (p < frm ∨ to ≤ p) → ∀ zz : Int32, zz = nI (nwN frm to p) → vp_in (nI p) 744 ∧ (vp_in zz 744 ∧ (vp_in (nI p) 744 ∧ (vp_in zz 744 ∧ (vp_in (nI p) 744 ∧ (vp_in zz 744 ∧ (vp_in (nI p) 744 ∧ (jn (fun J151 : Int32 → Ob → Prop => ((((kt.2.2 3) (nI p).toNatClampNeg) < (nI to)) → vp_in (nI p) 744 ∧ (J151 ((kt.2.2 3) (nI p).toNatClampNeg) ((kt.1, kt.2.1, (sa (sa (sa kt.2.2 0 (upd (kt.2.2 0) zz.toNatClampNeg ((kt.2.2 0) (nI p).toNatClampNeg))) 1 (upd (kt.2.2 1) zz.toNatClampNeg ((kt.2.2 1) (nI p).toNatClampNeg))) 2 (upd (kt.2.2 2) zz.toNatClampNeg ((kt.2.2 2) (nI p).toNatClampNeg))))))) ∧ (¬ (((kt.2.2 3) (nI p).toNatClampNeg) < (nI to)) → vp_in (nI p) 744 ∧ (J151 (((kt.2.2 3) (nI p).toNatClampNeg) - (nI (to - frm))) ((kt.1, kt.2.1, (sa (sa (sa kt.2.2 0 (upd (kt.2.2 0) zz.toNatClampNeg ((kt.2.2 0) (nI p).toNatClampNeg))) 1 (upd (kt.2.2 1) zz.toNatClampNeg ((kt.2.2 1) (nI p).toNatClampNeg))) 2 (upd (kt.2.2 2) zz.toNatClampNeg ((kt.2.2 2) (nI p).toNatClampNeg)))))))) (fun (z_151 : Int32) (o_151 : Ob) => vp_in zz 744 ∧ (vp_in (nI p) 744 ∧ (jn (fun J188 : Int32 → Ob → Prop => ((((o_151.2.2 4) (nI p).toNatClampNeg) < (nI to)) → vp_in (nI p) 744 ∧ (J188 ((o_151.2.2 4) (nI p).toNatClampNeg) ((o_151.1, o_151.2.1, (sa o_151.2.2 3 (upd (o_151.2.2 3) zz.toNatClampNeg z_151)))))) ∧ (¬ (((o_151.2.2 4) (nI p).toNatClampNeg) < (nI to)) → vp_in (nI p) 744 ∧ (J188 (((o_151.2.2 4) (nI p).toNatClampNeg) - (nI (to - frm))) ((o_151.1, o_151.2.1, (sa o_151.2.2 3 (upd (o_151.2.2 3) zz.toNatClampNeg z_151))))))) (fun (z_188 : Int32) (o_188 : Ob) => vp_in zz 744 ∧ (w_X8_dropParts_L35 (nI frm) (nI to) (nI (to - frm)) K Post (d + 1) (nI p + 1) ((o_188.1, o_188.2.1, (sa o_188.2.2 4 (upd (o_188.2.2 4) zz.toNatClampNeg z_188)))))))))))))))) := by
      intro hs zz hzz
      have nle : nwN frm to p ≤ p := by unfold nwN; split <;> omega
      have vz : vp_in zz 744 := by rw [hzz]; exact vp_in_nI (by omega) (by omega)
      have ez : zz.toNatClampNeg = nwN frm to p := by rw [hzz]; exact nI_clamp (by omega)
      have st := stay hs zz hzz
      rw [ep, ez, v0, v1, v2, v3]
      refine ⟨vp, vz, vp, vz, vp, vz, vp, ?_⟩
      have tail : ∀ z3 : Int32, z3 = adI to (to - frm) (kt0.2.2 3 p) → vp_in zz 744 ∧ (vp_in (nI p) 744 ∧ (jn (fun J188 : Int32 → Ob → Prop => ((((kt.1, kt.2.1, (sa (sa (sa kt.2.2 0 (upd (kt.2.2 0) (nwN frm to p) (kt0.2.2 0 p))) 1 (upd (kt.2.2 1) (nwN frm to p) (kt0.2.2 1 p))) 2 (upd (kt.2.2 2) (nwN frm to p) (kt0.2.2 2 p)))).2.2 4 p < (nI to)) → vp_in (nI p) 744 ∧ (J188 ((kt.1, kt.2.1, (sa (sa (sa kt.2.2 0 (upd (kt.2.2 0) (nwN frm to p) (kt0.2.2 0 p))) 1 (upd (kt.2.2 1) (nwN frm to p) (kt0.2.2 1 p))) 2 (upd (kt.2.2 2) (nwN frm to p) (kt0.2.2 2 p)))).2.2 4 p) (kt.1, kt.2.1, sa (sa (sa (sa kt.2.2 0 (upd (kt.2.2 0) (nwN frm to p) (kt0.2.2 0 p))) 1 (upd (kt.2.2 1) (nwN frm to p) (kt0.2.2 1 p))) 2 (upd (kt.2.2 2) (nwN frm to p) (kt0.2.2 2 p))) 3 (upd ((sa (sa (sa kt.2.2 0 (upd (kt.2.2 0) (nwN frm to p) (kt0.2.2 0 p))) 1 (upd (kt.2.2 1) (nwN frm to p) (kt0.2.2 1 p))) 2 (upd (kt.2.2 2) (nwN frm to p) (kt0.2.2 2 p))) 3) (nwN frm to p) z3)))) ∧ (¬ ((kt.1, kt.2.1, (sa (sa (sa kt.2.2 0 (upd (kt.2.2 0) (nwN frm to p) (kt0.2.2 0 p))) 1 (upd (kt.2.2 1) (nwN frm to p) (kt0.2.2 1 p))) 2 (upd (kt.2.2 2) (nwN frm to p) (kt0.2.2 2 p)))).2.2 4 p < (nI to)) → vp_in (nI p) 744 ∧ (J188 ((kt.1, kt.2.1, (sa (sa (sa kt.2.2 0 (upd (kt.2.2 0) (nwN frm to p) (kt0.2.2 0 p))) 1 (upd (kt.2.2 1) (nwN frm to p) (kt0.2.2 1 p))) 2 (upd (kt.2.2 2) (nwN frm to p) (kt0.2.2 2 p)))).2.2 4 p - nI (to - frm)) (kt.1, kt.2.1, sa (sa (sa (sa kt.2.2 0 (upd (kt.2.2 0) (nwN frm to p) (kt0.2.2 0 p))) 1 (upd (kt.2.2 1) (nwN frm to p) (kt0.2.2 1 p))) 2 (upd (kt.2.2 2) (nwN frm to p) (kt0.2.2 2 p))) 3 (upd ((sa (sa (sa kt.2.2 0 (upd (kt.2.2 0) (nwN frm to p) (kt0.2.2 0 p))) 1 (upd (kt.2.2 1) (nwN frm to p) (kt0.2.2 1 p))) 2 (upd (kt.2.2 2) (nwN frm to p) (kt0.2.2 2 p))) 3) (nwN frm to p) z3)))))) (fun (z_188 : Int32) (o_188 : Ob) => vp_in zz 744 ∧ (w_X8_dropParts_L35 (nI frm) (nI to) (nI (to - frm)) K Post (d + 1) (nI p + 1) ((o_188.1, o_188.2.1, (sa o_188.2.2 4 (upd (o_188.2.2 4) (nwN frm to p) z_188)))))))) := by
        intro z3 hz3
        have k4 : (kt.1, kt.2.1, (sa (sa (sa kt.2.2 0 (upd (kt.2.2 0) (nwN frm to p) (kt0.2.2 0 p))) 1 (upd (kt.2.2 1) (nwN frm to p) (kt0.2.2 1 p))) 2 (upd (kt.2.2 2) (nwN frm to p) (kt0.2.2 2 p)))).2.2 4 p = kt0.2.2 4 p := by
          show sa (sa (sa kt.2.2 0 (upd (kt.2.2 0) (nwN frm to p) (kt0.2.2 0 p))) 1 (upd (kt.2.2 1) (nwN frm to p) (kt0.2.2 1 p))) 2 (upd (kt.2.2 2) (nwN frm to p) (kt0.2.2 2 p)) 4 p = _
          rw [sa_ne (by omega), sa_ne (by omega), sa_ne (by omega)]; exact v4
        have k3r : sa (sa (sa kt.2.2 0 (upd (kt.2.2 0) (nwN frm to p) (kt0.2.2 0 p))) 1 (upd (kt.2.2 1) (nwN frm to p) (kt0.2.2 1 p))) 2 (upd (kt.2.2 2) (nwN frm to p) (kt0.2.2 2 p)) 3 = kt.2.2 3 := by
          rw [sa_ne (by omega), sa_ne (by omega), sa_ne (by omega)]
        have k4r : sa (sa (sa (sa kt.2.2 0 (upd (kt.2.2 0) (nwN frm to p) (kt0.2.2 0 p))) 1 (upd (kt.2.2 1) (nwN frm to p) (kt0.2.2 1 p))) 2 (upd (kt.2.2 2) (nwN frm to p) (kt0.2.2 2 p))) 3 (upd (kt.2.2 3) (nwN frm to p) z3) 4 = kt.2.2 4 := by
          rw [sa_ne (by omega), sa_ne (by omega), sa_ne (by omega), sa_ne (by omega)]
        rw [k4, k3r]
        have fin : ∀ z4 : Int32, z4 = adI to (to - frm) (kt0.2.2 4 p) → vp_in zz 744 ∧ (w_X8_dropParts_L35 (nI frm) (nI to) (nI (to - frm)) K Post (d + 1) (nI p + 1) (kt.1, kt.2.1, sa (sa (sa (sa (sa kt.2.2 0 (upd (kt.2.2 0) (nwN frm to p) (kt0.2.2 0 p))) 1 (upd (kt.2.2 1) (nwN frm to p) (kt0.2.2 1 p))) 2 (upd (kt.2.2 2) (nwN frm to p) (kt0.2.2 2 p))) 3 (upd (kt.2.2 3) (nwN frm to p) z3)) 4 (upd (sa (sa (sa (sa kt.2.2 0 (upd (kt.2.2 0) (nwN frm to p) (kt0.2.2 0 p))) 1 (upd (kt.2.2 1) (nwN frm to p) (kt0.2.2 1 p))) 2 (upd (kt.2.2 2) (nwN frm to p) (kt0.2.2 2 p))) 3 (upd (kt.2.2 3) (nwN frm to p) z3) 4) (nwN frm to p) z4))) := by
          intro z4 hz4
          rw [k4r, hz3, hz4]
          exact ⟨vz, st _ rfl⟩
        refine ⟨vz, vp, jn_mk ⟨fun c => ⟨vp, fin _ ?_⟩, fun c => ⟨vp, fin _ ?_⟩⟩⟩
        · unfold adI; rw [if_pos c]
        · unfold adI; rw [if_neg c]
      refine jn_mk ⟨fun c => ⟨vp, tail _ ?_⟩, fun c => ⟨vp, tail _ ?_⟩⟩
      · unfold adI; rw [if_pos c]
      · unfold adI; rw [if_neg c]
    refine jn_mk (jn_mk ⟨fun c => ?_, fun c => ⟨fun c2 => ?_, fun c2 => ?_⟩⟩)
    · rw [nI_ltI (by omega) (by omega)] at c
      refine jn_mk ⟨fun y => absurd y (by rw [nI_leI (by omega) (by omega)]; omega), fun _ => ?_⟩
      exact wr (Or.inl c) (nI p) (by unfold nwN; rw [if_pos c])
    · rw [nI_ltI (by omega) (by omega)] at c c2
      rw [nI_1, ← hg]
      refine ih (p + 1) kt (by omega) e1 (fun q hq hqs => ?_) (fun f hf q hq => e3 f hf q (by omega))
      exact e2 q (by omega) hqs
    · rw [nI_ltI (by omega) (by omega)] at c c2
      refine jn_mk ⟨fun _ => ?_, fun y => absurd ((nI_leI (by omega) (by omega)).mpr (by omega)) y⟩
      rw [nI_sub (by omega)]
      exact wr (Or.inr (by omega)) _ (by unfold nwN; rw [if_neg c])
theorem c_dp {frm to z : Nat} {kt0 : Ob} {P : Ob → Prop} (h1 : frm < to) (h2 : to ≤ z) (h3 : z ≤ 744) (h6 : kt0.2.1 6 = nI z) (kk : ∀ kt, kt.2.1 6 = nI (z - (to - frm)) → DrP frm to z kt0 kt → P kt) : w_X8_dropParts (nI frm) (nI to) kt0 P := by
  have hg : nI to - nI frm = nI (to - frm) := nI_sub (by omega)
  refine ⟨fun c => absurd c (nI_pos (by omega)), fun _ => ⟨fun c => absurd c (by rw [nI_leI (by omega) (by omega)]; omega), fun _ => ⟨fun c => absurd c (by rw [h6, nI_ltI (by omega) (by omega)]; omega), fun _ => ⟨fun _ => ⟨z + 1, ?_⟩, fun c => absurd (show kt0.2.1 6 ≤ 744 by rw [h6, show (744 : Int32) = nI 744 from rfl, nI_leI (by omega) (by omega)]; exact h3) c⟩⟩⟩⟩
  refine c_dpL (K := fun (o_k195 : Ob) => P ((o_k195.1, (upd o_k195.2.1 6 ((o_k195.2.1 6) - (nI to - nI frm))), o_k195.2.2))) (Post := P) h1 h2 h3 (fun kt e1 e2 => kk _ ?_ e2) h6 z 0 kt0 (by omega) rfl (fun q hq => absurd hq (Nat.not_lt_zero _)) (fun _ _ _ _ => rfl)
  show upd kt.2.1 6 (kt.2.1 6 - (nI to - nI frm)) 6 = _
  rw [pk_us, e1, h6, hg, nI_sub (by omega)]
