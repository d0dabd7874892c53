/-! SMALL MACHINES: the reference's -/
def MhR (o : Ob) (w : Nat) (h : List Int32) : Prop := o.2.2 27 w = nI h.length ∧ h.length ≤ 5 ∧ Seg (o.2.2 26) (5 * w) h
def Ot (w : Nat) (o o2 : Ob) : Prop := (∀ q, q < 5 * w ∨ 5 * w + 5 ≤ q → o2.2.2 26 q = o.2.2 26 q) ∧ (∀ q, q ≠ w → o2.2.2 27 q = o.2.2 27 q)
theorem Ot.rf {w : Nat} {o : Ob} : Ot w o o := ⟨fun _ _ => rfl, fun _ _ => rfl⟩
theorem Ot.tr {w : Nat} {o o2 o3 : Ob} (h : Ot w o o2) (h2 : Ot w o2 o3) : Ot w o o3 := ⟨fun q hq => (h2.1 q hq).trans (h.1 q hq), fun q hq => (h2.2 q hq).trans (h.2 q hq)⟩
theorem Ot.oth {w w2 : Nat} {o o2 : Ob} {h : List Int32} (t : Ot w o o2) (hw : w2 ≠ w) (R : MhR o w2 h) : MhR o2 w2 h := by
  obtain ⟨h1, h2, h3⟩ := R
  refine ⟨(t.2 w2 hw).trans h1, h2, fun i x hx => ?_⟩
  have := (List.getElem?_eq_some_iff.mp hx).1
  rw [t.1 _ (by omega)]; exact h3 i x hx
section
variable {o : Ob} {w : Nat} {kd ft v : Int32} {h : List Int32}
theorem m_put {Post : Ob → Prop} (hw : w < 2) (R : MhR o w h) (hl : h.length < 5) (k : ∀ o2, Fm [] [26, 27] o o2 → Ot w o o2 → MhR o2 w (putL kd v h) → Post o2) : w_X10_putIn kd (nI w) v o Post := by
  obtain ⟨h1, h2, h3⟩ := R
  have hv : vp_in (nI w) 2 := vp_in_nI hw (by omega)
  have e5 : (5 : Int32) * nI w = nI (5 * w) := by rw [show (5 : Int32) = nI 5 from rfl, mul_nI]
  unfold w_X10_putIn
  rw [nI_clamp (by omega), h1, e5]
  refine ⟨hv, ?_⟩
  by_cases c : kd = 2
  · subst c
    refine ⟨h.length + 1, m_putL (by omega) h.length h [] o rfl (by simp; omega) h3 Seg.nil (fun p o2 hp hf hq hg => ?_)⟩
    rw [nI_add, nI_clamp (by omega), hf.2.2 27 (by simp), h1]
    refine ⟨vp_in_nI (by omega) (by omega), hv, hv, k _ ?_ ⟨fun q hq2 => ?_, fun q hq2 => ?_⟩ ⟨?_, ?_, ?_⟩⟩
    · refine (hf.mono (by simp) (by simp)).tr (Fm.a (fun k hk => ?_))
      rw [sa_un (S := [26, 27]) (by simp) hk, sa_un (S := [26, 27]) (by simp) hk]
    · show sa (sa o2.2.2 26 (upd (o2.2.2 26) (5 * w + p) v)) 27 (upd (o.2.2 27) w (nI h.length + 1)) 26 q = _
      rw [sa_ne (by omega), sa_us, pk_un (by omega)]; exact hq q hq2
    · show sa (sa o2.2.2 26 (upd (o2.2.2 26) (5 * w + p) v)) 27 (upd (o.2.2 27) w (nI h.length + 1)) 27 q = _
      rw [sa_us, pk_un hq2]
    · show sa (sa o2.2.2 26 (upd (o2.2.2 26) (5 * w + p) v)) 27 (upd (o.2.2 27) w (nI h.length + 1)) 27 w = _
      rw [sa_us, pk_us, nI_1, putL_len]
    · rw [putL_len]; omega
    · show Seg (sa (sa o2.2.2 26 (upd (o2.2.2 26) (5 * w + p) v)) 27 (upd (o.2.2 27) w (nI h.length + 1)) 26) _ _
      rw [sa_ne (by omega), sa_us]
      unfold putL; rw [if_pos rfl]; simpa using hg
  · refine ⟨1, fun _ => ?_, fun z => absurd z c⟩
    show vp_in (nI (5 * w) + nI h.length) 10 ∧ vp_in (nI w) 2 ∧ vp_in (nI w) 2 ∧ Post (o.1, o.2.1, sa (sa o.2.2 26 (upd (o.2.2 26) (nI (5 * w) + nI h.length).toNatClampNeg v)) 27 (upd (o.2.2 27) w (o.2.2 27 w + 1)))
    rw [nI_add, nI_clamp (by omega), h1]
    refine ⟨vp_in_nI (by omega) (by omega), hv, hv, k _ ?_ ⟨fun q hq2 => ?_, fun q hq2 => ?_⟩ ⟨?_, ?_, ?_⟩⟩
    · refine Fm.a (fun k hk => ?_)
      rw [sa_un (S := [26, 27]) (by simp) hk, sa_un (S := [26, 27]) (by simp) hk]
    · show sa (sa o.2.2 26 (upd (o.2.2 26) (5 * w + h.length) v)) 27 (upd (o.2.2 27) w (nI h.length + 1)) 26 q = _
      rw [sa_ne (by omega), sa_us, pk_un (by omega)]
    · show sa (sa o.2.2 26 (upd (o.2.2 26) (5 * w + h.length) v)) 27 (upd (o.2.2 27) w (nI h.length + 1)) 27 q = _
      rw [sa_us, pk_un hq2]
    · show sa (sa o.2.2 26 (upd (o.2.2 26) (5 * w + h.length) v)) 27 (upd (o.2.2 27) w (nI h.length + 1)) 27 w = _
      rw [sa_us, pk_us, nI_1, putL_len]
    · rw [putL_len]; omega
    · show Seg (sa (sa o.2.2 26 (upd (o.2.2 26) (5 * w + h.length) v)) 27 (upd (o.2.2 27) w (nI h.length + 1)) 26) _ _
      rw [sa_ne (by omega), sa_us]
      unfold putL; rw [if_neg c]
      exact (h3.upd (Or.inr (by omega))).app (Seg.one pk_us)
theorem m_takL {N base : Nat} (hw : w < 2) (hb : base = 5 * w) (hN : N ≤ 5) {K Post : Ob → Prop} : ∀ (b a : List Int32) (o : Ob), a.length + 1 + b.length = N → o.2.2 27 w = nI N → Seg (o.2.2 26) base a → Seg (o.2.2 26) (base + a.length + 1) b → (∀ o2, Fm [] [26] o o2 → (∀ q, q < 5 * w ∨ 5 * w + 5 ≤ q → o2.2.2 26 q = o.2.2 26 q) → Seg (o2.2.2 26) base (a ++ b) → K o2) → w_X10_putAway_L7 (nI w) (nI base) K Post (b.length + 1) (nI a.length) o := by
  intro b
  induction b with
  | nil =>
    intro a o hl h1 hs ht k
    refine ⟨vp_in_nI hw (by omega), ?_⟩
    rw [nI_clamp (by omega), h1, nI_1]
    refine ⟨fun _ => k o Fm.rf (fun _ _ => rfl) (by rw [List.append_nil]; exact hs), fun z => absurd ?_ z⟩
    rw [show N = a.length + 1 by simpa using hl.symm]; exact Int32.le_refl _
  | cons x b ih =>
    intro a o hl h1 hs ht k
    rw [List.length_cons] at hl
    refine ⟨vp_in_nI hw (by omega), ?_⟩
    rw [nI_clamp (by omega), h1, nI_1, nI_add, nI_1, nI_clamp (by omega), nI_clamp (by omega), ht.head]
    refine ⟨fun z => absurd z ?_, fun _ => ⟨vp_in_nI (by omega) (by omega), vp_in_nI (by omega) (by omega), ?_⟩⟩
    · rw [nI_leI (by omega) (by omega)]; omega
    · rw [show nI (a.length + 1) = nI (a ++ [x]).length by rw [List.length_append]; rfl]
      refine ih (a ++ [x]) _ (by rw [List.length_append]; simp; omega) ?_ ?_ ?_ (fun o2 hf hq hg => k o2 ?_ (fun q h1 => ?_) (by simpa using hg))
      · show sa o.2.2 26 (upd (o.2.2 26) (base + a.length) x) 27 w = _
        rw [sa_ne (by omega)]; exact h1
      · show Seg (sa o.2.2 26 _ 26) _ _; rw [sa_us]; exact (hs.upd (Or.inr (by omega))).app (Seg.one pk_us)
      · show Seg (sa o.2.2 26 _ 26) _ _; rw [sa_us, List.length_append, show base + (a.length + [x].length) + 1 = base + a.length + 1 + 1 by simp; omega]; exact ht.tail.upd (Or.inl (by omega))
      · exact (Fm.a (fun k hk => sa_un (S := [26]) (by simp) hk)).tr hf
      · rw [hq q h1]; show sa o.2.2 26 (upd (o.2.2 26) (base + a.length) x) 26 q = _; rw [sa_us, pk_un (by omega)]
theorem m_take {i : Nat} {Post : Ob → Prop} (hw : w < 2) (R : MhR o w h) (hi : i < h.length) (k : ∀ o2, Fm [] [26, 27] o o2 → Ot w o o2 → MhR o2 w (eraI i h) → Post o2) : w_X10_putAway (nI w) (nI i) o Post := by
  obtain ⟨h1, h2, h3⟩ := R
  have hv : vp_in (nI w) 2 := vp_in_nI hw (by omega)
  have e5 : (5 : Int32) * nI w = nI (5 * w) := by rw [show (5 : Int32) = nI 5 from rfl, mul_nI]
  unfold w_X10_putAway
  rw [e5]
  have hl : (h.take i).length = i := by rw [List.length_take]; omega
  refine ⟨(h.drop (i + 1)).length + 1, ?_⟩
  have := m_takL (N := h.length) (Post := Post) (K := fun (o_k46 : Ob) => vp_in (nI w) 2 ∧ (vp_in (nI w) 2 ∧ (Post ((o_k46.1, o_k46.2.1, (sa o_k46.2.2 27 (upd (o_k46.2.2 27) (nI w).toNatClampNeg (((o_k46.2.2 27) (nI w).toNatClampNeg) - 1)))))))) hw (rfl : 5 * w = 5 * w) h2 (h.drop (i + 1)) (h.take i) o (by rw [hl, List.length_drop]; omega) h1 h3.take (by rw [hl]; have := h3.drop (i := i + 1); rwa [show 5 * w + (i + 1) = 5 * w + i + 1 by omega] at this) (fun o2 hf hq hg => ⟨hv, hv, ?_⟩)
  · rw [hl] at this; exact this
  · rw [nI_clamp (by omega), hf.2.2 27 (by simp), h1]
    refine k _ ?_ ⟨fun q hq2 => ?_, fun q hq2 => ?_⟩ ⟨?_, ?_, ?_⟩
    · refine (hf.mono (by simp) (by simp)).tr (Fm.a (fun k hk => sa_un (S := [26, 27]) (by simp) hk))
    · show sa o2.2.2 27 (upd (o.2.2 27) w (nI h.length - 1)) 26 q = _
      rw [sa_ne (by omega)]; exact hq q hq2
    · show sa o2.2.2 27 (upd (o.2.2 27) w (nI h.length - 1)) 27 q = _
      rw [sa_us, pk_un hq2]
    · show sa o2.2.2 27 (upd (o.2.2 27) w (nI h.length - 1)) 27 w = _
      rw [sa_us, pk_us, eraI_len hi, show h.length = (h.length - 1) + 1 by omega, nI_pred]; rfl
    · rw [eraI_len hi]; omega
    · show Seg (sa o2.2.2 27 (upd (o.2.2 27) w (nI h.length - 1)) 26) _ _
      rw [sa_ne (by omega)]; exact hg
theorem m_likL {n : Nat} {Post : Int32 → Ob → Prop} (hw : w < 2) (R : MhR o w h) (hn : n = h.length) : ∀ (d i : Nat) (s : Int32), i + d = n → Post (lkA v (hg h) d i s) o → w_X10_answer_L106 v (nI (5 * w)) (nI n) Post (d + 1) s (nI i) o := by
  obtain ⟨h1, h2, h3⟩ := R
  intro d
  induction d with
  | zero =>
    intro i s e k
    refine ⟨fun _ => k, fun z => absurd ?_ z⟩
    rw [show i = n by omega]; exact Int32.le_refl _
  | succ d ih =>
    intro i s e k
    have hv : o.2.2 26 (5 * w + i) = hg h i := h3.get (by omega)
    refine ⟨fun z => absurd z ?_, fun _ => ?_⟩
    · rw [nI_leI (by omega) (by omega)]; omega
    · rw [nI_add, nI_clamp (by omega), hv, nI_1]
      refine ⟨vp_in_nI (by omega) (by omega), jn_mk ?_⟩
      unfold lkA at k
      refine ⟨fun c => ?_, fun c => ?_⟩
      · rw [if_neg c] at k; exact ih (i + 1) _ (by omega) k
      · rw [if_pos c] at k; exact ih (i + 1) _ (by omega) k
theorem m_ans {a : Int32} {Post : Int32 → Ob → Prop} (hw : w < 2) (R : MhR o w h) (ha : a = 0 ∨ a = 1 ∨ a = 2 ∨ a = 3) (k : ∀ o2, Fm [28] [26, 27] o o2 → Ot w o o2 → MhR o2 w (mAns kd ft a v h).2 → (bP (mThr ft a h) = 0 → o2.2.1 28 = o.2.1 28) → (¬ bP (mThr ft a h) = 0 → o2.2.1 28 = 1) → Post (mAns kd ft a v h).1 o2) : w_X10_answer kd (nI w) ft a v o Post := by
  have R2 := R
  obtain ⟨r1, r2, r3⟩ := R2
  have hv : vp_in (nI w) 2 := vp_in_nI hw (by omega)
  have e5 : (5 : Int32) * nI w = nI (5 * w) := by rw [show (5 : Int32) = nI 5 from rfl, mul_nI]
  have f28 : ∀ {o2 : Ob}, Fm [] [26, 27] o o2 → o2.2.1 28 = o.2.1 28 := fun hf => hf.2.1 28 (by simp)
  have fm : ∀ {o2 : Ob}, Fm [] [26, 27] o o2 → Fm [28] [26, 27] o o2 := fun hf => hf.mono (by simp) (by simp)
  unfold w_X10_answer
  rw [e5, nI_clamp (by omega), r1]
  refine ⟨hv, ?_⟩
  have l5 : ∀ {x : Prop}, (nI h.length = 5 → h.length = 5) ∧ (¬ nI h.length = 5 → h.length < 5) := by
    intro _
    rw [show (5 : Int32) = nI 5 from rfl, nI_eq (by omega) (by omega)]
    exact ⟨id, fun z => by omega⟩
  rcases ha with rfl | rfl | rfl | rfl
  · refine ⟨fun z => absurd rfl z, fun _ => ?_⟩
    by_cases c : nI h.length = 5
    · have hl := (l5 (x := True)).1 c
      refine jn_mk ⟨fun z => absurd c z, fun _ => ⟨fun c3 => ?_, fun c3 => ?_⟩⟩
      · refine jn_mk ⟨fun z => absurd c z, fun _ => ⟨fun c1 => ?_, fun c1 => ?_⟩⟩
        · have go : w_X10_putAway (nI w) (nI (if kd = 2 then 4 else 0)) o (fun (o_24 : Ob) => w_X10_putIn  kd (nI w) v o_24 (fun (o_26 : Ob) => Post 1 o_26)) := by
            have hlt : (if kd = 2 then 4 else 0) < h.length := by split <;> omega
            refine m_take hw R hlt (fun o2 f2 t2 R2 => m_put hw R2 (by rw [eraI_len hlt]; omega) (fun o3 f3 t3 R3 => ?_))
            have := k o3 (fm (f2.tr f3)) (t2.tr t3)
            unfold mAns at this
            rw [if_pos rfl, if_neg (by omega), if_pos c1] at this
            exact this R3 (fun _ => f28 (f2.tr f3)) (fun z => absurd (bP_f (fun q => c3 q.2.2)) z)
          refine jn_mk ⟨fun z => absurd c z, fun _ => jn_mk ⟨fun c2 => ?_, fun c2 => ?_⟩⟩
          · rw [if_neg c2] at go; exact go
          · rw [if_pos c2] at go; exact go
        · have := k o Fm.rf Ot.rf
          unfold mAns at this
          rw [if_pos rfl, if_neg (by omega), if_neg c1] at this
          exact this R (fun _ => rfl) (fun z => absurd (bP_f (fun q => c3 q.2.2)) z)
      · have := k (o.1, upd o.2.1 28 1, o.2.2) (Fm.i (fun k hk => un_of (S := [28]) (by simp) hk)) ⟨fun _ _ => rfl, fun _ _ => rfl⟩
        unfold mAns at this
        rw [if_pos rfl, if_neg (by omega), if_neg (by rw [c3]; decide)] at this
        refine this R (fun z => absurd (bP_0 z) (fun y => y ⟨rfl, hl, c3⟩)) (fun _ => ?_)
        show upd o.2.1 28 1 28 = _
        rw [pk_us]
    · have hl := (l5 (x := True)).2 c
      refine jn_mk ⟨fun _ => jn_mk ⟨fun _ => jn_mk ⟨fun _ => ?_, fun z => absurd z c⟩, fun z => absurd z c⟩, fun z => absurd z c⟩
      refine m_put hw R hl (fun o3 f3 t3 R3 => ?_)
      have := k o3 (fm f3) t3
      unfold mAns at this
      rw [if_pos rfl, if_pos hl] at this
      exact this R3 (fun _ => f28 f3) (fun z => absurd (bP_f (fun q => by have := q.2.1; omega)) z)
  · have nt : ¬ mThr ft 1 h := fun q => absurd q.1 (by decide)
    refine ⟨fun _ => ⟨fun _ => ?_, fun z => absurd z (by decide)⟩, fun z => absurd z (by decide)⟩
    refine jn_mk ⟨fun _ => ?_, fun z => absurd z (by decide)⟩
    have a1 : ∀ o2, Fm [] [26, 27] o o2 → Ot w o o2 → MhR o2 w (if h.length = 0 then ((if ft = 2 then 0 else -1 : Int32), h) else (h.getD (topL kd h) 0, eraI (topL kd h) h)).2 → Post (if h.length = 0 then ((if ft = 2 then 0 else -1 : Int32), h) else (h.getD (topL kd h) 0, eraI (topL kd h) h)).1 o2 := by
      intro o2 f2 t2 R2
      have := k o2 (fm f2) t2
      unfold mAns at this
      rw [if_neg (by decide), if_neg (by decide), if_neg (by decide)] at this
      exact this R2 (fun _ => f28 f2) (fun z => absurd (bP_f nt) z)
    by_cases c0 : h.length = 0
    · rw [if_pos c0] at a1
      have a1 := a1 o Fm.rf Ot.rf R
      refine ⟨fun z => absurd (by rw [c0]; rfl) z, fun _ => ⟨fun z => absurd rfl z, fun _ => ⟨fun c2 => ?_, fun c2 => ?_⟩⟩⟩
      · rw [if_neg c2] at a1; exact a1
      · rw [if_pos c2] at a1; exact a1
    · rw [if_neg c0] at a1
      have tl := topL_lt (kd := kd) c0
      refine ⟨fun _ => ?_, fun z => ?_⟩
      · have go : ∀ x : Int32, x = nI (topL kd h) → vp_in (nI (5 * w) + x) 10 ∧ ((¬ (1 : Int32) = 1 → Post (o.2.2 26 (nI (5 * w) + x).toNatClampNeg) o) ∧ ((1 : Int32) = 1 → w_X10_putAway (nI w) x o (fun o_14 => Post (o.2.2 26 (nI (5 * w) + x).toNatClampNeg) o_14))) := by
          rintro x rfl
          rw [nI_add, nI_clamp (by omega), r3.get tl]
          exact ⟨vp_in_nI (by omega) (by omega), fun z => absurd rfl z, fun _ => m_take hw R tl (fun o2 f2 t2 R2 => a1 o2 f2 t2 R2)⟩
        refine jn_mk ⟨fun c => go 0 ?_, fun c => go _ ?_⟩
        · unfold topL; rw [if_neg c]; rfl
        · unfold topL; rw [if_pos c, show h.length = (h.length - 1) + 1 by omega, nI_pred]; rfl
      · rw [show (0 : Int32) = nI 0 from rfl, nI_eq (by omega) (by omega)] at z; exact absurd z c0
  · have nt : ¬ mThr ft 2 h := fun q => absurd q.1 (by decide)
    refine ⟨fun _ => ⟨fun _ => ?_, fun z => absurd z (by decide)⟩, fun z => absurd z (by decide)⟩
    have a1 := k o Fm.rf Ot.rf
    unfold mAns at a1
    rw [if_neg (by decide), if_neg (by decide), if_pos rfl] at a1
    refine jn_mk ⟨fun z => absurd rfl z, fun _ => ⟨fun c2 => ?_, fun c2 => ?_⟩⟩
    · rw [if_neg c2] at a1
      by_cases c0 : h.length = 0
      · rw [if_pos c0] at a1
        exact ⟨fun z => absurd (by rw [c0]; rfl) z, fun _ => ⟨fun _ => a1 R (fun _ => rfl) (fun z => absurd (bP_f nt) z), fun z => absurd z (by decide)⟩⟩
      · rw [if_neg c0] at a1
        have tl := topL_lt (kd := kd) c0
        refine ⟨fun _ => ?_, fun z => ?_⟩
        · have go : ∀ x : Int32, x = nI (topL kd h) → vp_in (nI (5 * w) + x) 10 ∧ ((¬ (2 : Int32) = 1 → Post (o.2.2 26 (nI (5 * w) + x).toNatClampNeg) o) ∧ ((2 : Int32) = 1 → w_X10_putAway (nI w) x o (fun o_14 => Post (o.2.2 26 (nI (5 * w) + x).toNatClampNeg) o_14))) := by
            rintro x rfl
            rw [nI_add, nI_clamp (by omega), r3.get tl]
            exact ⟨vp_in_nI (by omega) (by omega), fun _ => a1 R (fun _ => rfl) (fun z => absurd (bP_f nt) z), fun z => absurd z (by decide)⟩
          refine jn_mk ⟨fun c => go 0 ?_, fun c => go _ ?_⟩
          · unfold topL; rw [if_neg c]; rfl
          · unfold topL; rw [if_pos c, show h.length = (h.length - 1) + 1 by omega, nI_pred]; rfl
        · rw [show (0 : Int32) = nI 0 from rfl, nI_eq (by omega) (by omega)] at z; exact absurd z c0
    · rw [if_pos c2] at a1
      exact ⟨h.length + 1, m_likL hw R rfl h.length 0 0 (by omega) (a1 R (fun _ => rfl) (fun z => absurd (bP_f nt) z))⟩
  · have nt : ¬ mThr ft 3 h := fun q => absurd q.1 (by decide)
    refine ⟨fun _ => ⟨fun z => absurd rfl z, fun _ => ?_⟩, fun z => absurd z (by decide)⟩
    have a1 := k o Fm.rf Ot.rf
    unfold mAns at a1
    rw [if_neg (by decide), if_pos rfl] at a1
    exact a1 R (fun _ => rfl) (fun z => absurd (bP_f nt) z)
end
