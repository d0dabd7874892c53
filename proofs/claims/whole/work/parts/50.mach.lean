/-! SMALL MACHINES: taking away, answering, in the class -/
def eraI (i : Nat) (h : List Int32) : List Int32 := h.take i ++ h.drop (i + 1)
theorem eraI_len {i : Nat} {h : List Int32} (hi : i < h.length) : (eraI i h).length = h.length - 1 := by
  unfold eraI; rw [List.length_append, List.length_take, List.length_drop]; omega
theorem Seg.take {g : Nat → Int32} {lo i : Nat} {h : List Int32} (s : Seg g lo h) : Seg g lo (h.take i) := by
  have : h.take i ++ h.drop i = h := List.take_append_drop i h
  rw [← this] at s; exact s.left
theorem Seg.drop {g : Nat → Int32} {lo i : Nat} {h : List Int32} (s : Seg g lo h) : Seg g (lo + i) (h.drop i) := by
  intro q x hx
  rw [List.getElem?_drop] at hx
  have := s (i + q) x hx
  rwa [show lo + (i + q) = lo + i + q by omega] at this
theorem Seg.get {g : Nat → Int32} {lo i : Nat} {h : List Int32} (s : Seg g lo h) (hi : i < h.length) : g (lo + i) = h.getD i 0 := by
  refine s i _ ?_
  rw [List.getD_eq_getElem?_getD, List.getElem?_eq_getElem hi]; rfl
def putL (kd v : Int32) (h : List Int32) : List Int32 := if kd = 2 then insE v h else h ++ [v]
theorem putL_len (kd v : Int32) (h : List Int32) : (putL kd v h).length = h.length + 1 := by
  unfold putL
  by_cases c : kd = 2
  · rw [if_pos c, insE_len]
  · rw [if_neg c, List.length_append]; rfl
def lkA (v : Int32) (g : Nat → Int32) : Nat → Nat → Int32 → Int32
  | 0, _, s => s
  | d + 1, i, s => lkA v g d (i + 1) (s + if g i = v then 1 else 0)
def topL (kd : Int32) (h : List Int32) : Nat := if kd = 0 then h.length - 1 else 0
def hg (h : List Int32) : Nat → Int32 := fun i => h.getD i 0
noncomputable def mAns (kd ft a v : Int32) (h : List Int32) : Int32 × List Int32 :=
  if a = 0 then (if h.length < 5 then (1, putL kd v h) else if ft = 1 then (1, putL kd v (eraI (if kd = 2 then 4 else 0) h)) else (0, h))
  else if a = 3 then (nI h.length, h)
  else if a = 2 then (if kd = 2 then (lkA v (hg h) h.length 0 0, h) else if h.length = 0 then (-1, h) else (h.getD (topL kd h) 0, h))
  else if h.length = 0 then (if ft = 2 then 0 else -1, h) else (h.getD (topL kd h) 0, eraI (topL kd h) h)
def mThr (ft a : Int32) (h : List Int32) : Prop := a = 0 ∧ h.length = 5 ∧ ft = 3
theorem topL_lt {kd : Int32} {h : List Int32} (hn : ¬ h.length = 0) : topL kd h < h.length := by
  unfold topL; by_cases c : kd = 0
  · rw [if_pos c]; omega
  · rw [if_neg c]; omega
theorem mAns_len {kd ft a v : Int32} {h : List Int32} (hl : h.length ≤ 5) : (mAns kd ft a v h).2.length ≤ 5 := by
  unfold mAns
  by_cases a0 : a = 0
  · rw [if_pos a0]
    by_cases c : h.length < 5
    · rw [if_pos c]; show (putL kd v h).length ≤ 5; rw [putL_len]; omega
    · rw [if_neg c]
      by_cases c2 : ft = 1
      · rw [if_pos c2]; show (putL kd v (eraI _ h)).length ≤ 5
        rw [putL_len, eraI_len (by split <;> omega)]; omega
      · rw [if_neg c2]; exact hl
  · rw [if_neg a0]
    by_cases a3 : a = 3
    · rw [if_pos a3]; exact hl
    · rw [if_neg a3]
      by_cases a2 : a = 2
      · rw [if_pos a2]
        by_cases c : kd = 2
        · rw [if_pos c]; exact hl
        · rw [if_neg c]
          by_cases c0 : h.length = 0
          · rw [if_pos c0]; exact hl
          · rw [if_neg c0]; exact hl
      · rw [if_neg a2]
        by_cases c0 : h.length = 0
        · rw [if_pos c0]; exact hl
        · rw [if_neg c0]; show (eraI _ h).length ≤ 5
          rw [eraI_len (topL_lt c0)]; omega
/-- a machine of the class: kind, fault, what it holds -/
def McR (mc : Ob) (kd ft : Int32) (h : List Int32) : Prop := mc.2.1 1 = nI h.length ∧ h.length ≤ 5 ∧ mc.2.1 2 = kd ∧ mc.2.1 3 = ft ∧ Seg (mc.2.2 0) 0 h
section
variable {mc : Ob} {kd ft v : Int32} {h : List Int32}
theorem c_put {Post : Ob → Prop} (R : McR mc kd ft h) (hl : h.length < 5) (k : ∀ mc2, McR mc2 kd ft (putL kd v h) → mc2.2.1 4 = mc.2.1 4 → Post mc2) : w_X3_put v mc Post := by
  obtain ⟨h1, h2, h3, h4, h5⟩ := R
  unfold w_X3_put
  rw [h1]
  refine ⟨fun z => absurd z (nI_pos (by omega)), fun _ => ⟨fun _ => ?_, fun z => absurd ?_ z⟩⟩
  · by_cases c : kd = 2
    · refine ⟨h.length + 1, c_putL h.length h [] mc rfl (by simp; omega) (h3.trans c) h5 Seg.nil (fun p o2 hp hf hg => ⟨vp_in_nI (by omega) (by omega), k _ ⟨?_, ?_, ?_, ?_, ?_⟩ ?_⟩)⟩
      · show upd o2.2.1 1 (o2.2.1 1 + 1) 1 = _
        rw [pk_us, hf.2.1 1 (by simp), h1, nI_1, putL_len]
      · rw [putL_len]; omega
      · show upd o2.2.1 1 (o2.2.1 1 + 1) 2 = _
        rw [pk_un (by omega), hf.2.1 2 (by simp)]; exact h3
      · show upd o2.2.1 1 (o2.2.1 1 + 1) 3 = _
        rw [pk_un (by omega), hf.2.1 3 (by simp)]; exact h4
      · show Seg (sa o2.2.2 0 (upd (o2.2.2 0) (nI p).toNatClampNeg v) 0) 0 _
        rw [sa_us, nI_clamp (by omega)]
        unfold putL; rw [if_pos c]; simpa using hg
      · show upd o2.2.1 1 (o2.2.1 1 + 1) 4 = _
        rw [pk_un (by omega), hf.2.1 4 (by simp)]
    · refine ⟨1, fun _ => ⟨vp_in_nI (by omega) (by omega), k _ ⟨?_, ?_, ?_, ?_, ?_⟩ ?_⟩, fun z => absurd (h3.symm.trans z) c⟩
      · show upd mc.2.1 1 (mc.2.1 1 + 1) 1 = _
        rw [pk_us, h1, nI_1, putL_len]
      · rw [putL_len]; omega
      · show upd mc.2.1 1 (mc.2.1 1 + 1) 2 = _
        rw [pk_un (by omega)]; exact h3
      · show upd mc.2.1 1 (mc.2.1 1 + 1) 3 = _
        rw [pk_un (by omega)]; exact h4
      · show Seg (sa mc.2.2 0 (upd (mc.2.2 0) (nI h.length).toNatClampNeg v) 0) 0 _
        rw [sa_us, nI_clamp (by omega)]
        unfold putL; rw [if_neg c]
        exact (h5.upd (Or.inr (by omega))).app (Seg.one (by rw [Nat.zero_add]; exact pk_us))
      · show upd mc.2.1 1 (mc.2.1 1 + 1) 4 = _
        rw [pk_un (by omega)]
  · rw [show (5 : Int32) = nI 5 from rfl, nI_ltI (by omega) (by omega)]; exact hl
theorem c_takL {y : Int32} {N : Nat} (hN : N ≤ 5) {K : Ob → Prop} {Post : Int32 → Ob → Prop} : ∀ (b a : List Int32) (o : Ob), a.length + 1 + b.length = N → o.2.1 1 = nI N → Seg (o.2.2 0) 0 a → Seg (o.2.2 0) (a.length + 1) b → (∀ o2, Fm [] [0] o o2 → Seg (o2.2.2 0) 0 (a ++ b) → K o2) → w_X3_take_L28 y K Post (b.length + 1) (nI a.length) o := by
  intro b
  induction b with
  | nil =>
    intro a o hl h1 hs ht k
    refine ⟨fun _ => k o Fm.rf (by rw [List.append_nil]; exact hs), fun z => absurd ?_ z⟩
    rw [h1, show N = a.length + 1 by simpa using hl.symm, nI_pred]; exact Int32.le_refl _
  | cons x b ih =>
    intro a o hl h1 hs ht k
    rw [List.length_cons] at hl
    refine ⟨fun z => absurd z ?_, fun _ => ⟨fun z => absurd z ?_, fun _ => ⟨by rw [nI_1]; exact vp_in_nI (by omega) (by omega), vp_in_nI (by omega) (by omega), ?_⟩⟩⟩
    · rw [h1, show N = (N - 1) + 1 by omega, nI_pred, nI_leI (by omega) (by omega)]; omega
    · rw [show (4 : Int32) = nI 4 from rfl, nI_leI (by omega) (by omega)]; omega
    · rw [nI_1, nI_clamp (by omega), nI_clamp (by omega), ht.head, show nI (a.length + 1) = nI (a ++ [x]).length by rw [List.length_append]; rfl]
      refine ih (a ++ [x]) _ (by rw [List.length_append]; simp; omega) h1 ?_ ?_ (fun o2 hf hg => k o2 ?_ (by simpa using hg))
      · show Seg (sa o.2.2 0 _ 0) _ _; rw [sa_us]; exact (hs.upd (Or.inr (by omega))).app (Seg.one (by rw [Nat.zero_add]; exact pk_us))
      · show Seg (sa o.2.2 0 _ 0) _ _; rw [sa_us, List.length_append]; exact ht.tail.upd (Or.inl (by omega))
      · exact (Fm.a (fun k hk => sa_un (S := [0]) (by simp) hk)).tr hf
theorem c_take {i : Nat} {Post : Int32 → Ob → Prop} (R : McR mc kd ft h) (hi : i < h.length) (k : ∀ mc2, McR mc2 kd ft (eraI i h) → mc2.2.1 4 = mc.2.1 4 → Post (h.getD i 0) mc2) : w_X3_take (nI i) mc Post := by
  obtain ⟨h1, h2, h3, h4, h5⟩ := R
  unfold w_X3_take
  rw [h1, nI_clamp (by omega)]
  have hv : mc.2.2 0 i = h.getD i 0 := by have := h5.get hi; rwa [Nat.zero_add] at this
  rw [hv]
  refine ⟨fun z => absurd z (nI_pos (by omega)), fun _ => ⟨fun z => ?_, fun _ => ⟨fun _ => ⟨vp_in_nI (by omega) (by omega), (h.drop (i + 1)).length + 1, ?_⟩, fun z => absurd ?_ z⟩⟩⟩
  · rw [nI_leI (by omega) (by omega)] at z; omega
  · have hl : (h.take i).length = i := by rw [List.length_take]; omega
    have := c_takL (N := h.length) (y := h.getD i 0) (Post := Post) (K := fun o_k63 => Post (h.getD i 0) ((o_k63.1, (upd o_k63.2.1 1 (((o_k63.2.1 1) - 1))), o_k63.2.2))) h2 (h.drop (i + 1)) (h.take i) mc (by rw [hl, List.length_drop]; omega) h1 h5.take (by rw [hl]; have := h5.drop (i := i + 1); rwa [Nat.zero_add] at this) (fun o2 hf hg => k _ ⟨?_, ?_, ?_, ?_, ?_⟩ ?_)
    · rw [hl] at this; exact this
    · show upd o2.2.1 1 (o2.2.1 1 - 1) 1 = _
      rw [pk_us, hf.2.1 1 (by simp), h1, eraI_len hi, show h.length = (h.length - 1) + 1 by omega, nI_pred]; rfl
    · rw [eraI_len hi]; omega
    · show upd o2.2.1 1 (o2.2.1 1 - 1) 2 = _
      rw [pk_un (by omega), hf.2.1 2 (by simp)]; exact h3
    · show upd o2.2.1 1 (o2.2.1 1 - 1) 3 = _
      rw [pk_un (by omega), hf.2.1 3 (by simp)]; exact h4
    · exact hg
    · show upd o2.2.1 1 (o2.2.1 1 - 1) 4 = _
      rw [pk_un (by omega), hf.2.1 4 (by simp)]
  · rw [show (5 : Int32) = nI 5 from rfl, nI_ltI (by omega) (by omega)]; omega
theorem c_takeN {x : Int32} {Post : Int32 → Ob → Prop} (hx : x < 0 ∨ mc.2.1 1 ≤ x) (k : Post (-1) mc) : w_X3_take x mc Post := ⟨fun _ => k, fun a => ⟨fun _ => k, fun b => absurd hx (fun z => z.elim a b)⟩⟩
theorem c_likL {Post : Int32 → Ob → Prop} (R : McR mc kd ft h) : ∀ (d i : Nat) (s : Int32), i + d = h.length → Post (lkA v (hg h) d i s) mc → w_X3_howManyLike_L4 v Post (d + 1) s (nI i) mc := by
  obtain ⟨h1, h2, h3, h4, h5⟩ := R
  intro d
  induction d with
  | zero =>
    intro i s e k
    refine ⟨fun _ => k, fun z => absurd ?_ z⟩
    rw [h1, show i = h.length by omega]; exact Int32.le_refl _
  | succ d ih =>
    intro i s e k
    have hv : mc.2.2 0 i = hg h i := by have := h5.get (i := i) (by omega); rwa [Nat.zero_add] at this
    refine ⟨fun z => absurd z ?_, fun _ => ⟨fun z => absurd z ?_, fun _ => ⟨vp_in_nI (by omega) (by omega), jn_mk ?_⟩⟩⟩
    · rw [h1, nI_leI (by omega) (by omega)]; omega
    · rw [show (5 : Int32) = nI 5 from rfl, nI_leI (by omega) (by omega)]; omega
    · rw [nI_clamp (by omega), hv, nI_1]
      unfold lkA at k
      refine ⟨fun c => ?_, fun c => ?_⟩
      · rw [if_neg c, Int32.add_zero] at k; exact ih (i + 1) s (by omega) k
      · rw [if_pos c] at k; exact ih (i + 1) (s + 1) (by omega) k
end
