/-! LEAVES THROUGH A FUNCTION, on both sides -/
def thrF (f v : Int32) : Int32 := if f = 0 then -v else if f = 1 then 2 * v else if f = 2 then v * v else v - v / 7 * 7
def mstep (f : Int32) (acc : List Int32) (v : Int32) : List Int32 := if f = 4 then insE v acc else acc ++ [thrF f v]
theorem foldl_snoc (g : Int32 → Int32) : ∀ (l a : List Int32), l.foldl (fun acc v => acc ++ [g v]) a = a ++ l.map g := by
  intro l
  induction l with
  | nil => intro a; simp
  | cons x l ih => intro a; rw [List.foldl_cons, ih]; simp
theorem mapF_fold {k : Nat} (hk : k < 5) (l : List Int32) : mapF (nI k) l = l.foldl (mstep (nI k)) [] := by
  rcases (show k = 0 ∨ k = 1 ∨ k = 2 ∨ k = 3 ∨ k = 4 by omega) with rfl | rfl | rfl | rfl | rfl
  · rw [show mstep (nI 0) = fun acc v => acc ++ [-v] from rfl, foldl_snoc]; rfl
  · rw [show mstep (nI 1) = fun acc v => acc ++ [2 * v] from rfl, foldl_snoc]; rfl
  · rw [show mstep (nI 2) = fun acc v => acc ++ [v * v] from rfl, foldl_snoc]; rfl
  · rw [show mstep (nI 3) = fun acc v => acc ++ [v - v / 7 * 7] from rfl, foldl_snoc]; rfl
  · rfl
theorem mstep_len {f v : Int32} {acc : List Int32} : (mstep f acc v).length = acc.length + 1 := by
  unfold mstep; split
  · exact insE_len _ _
  · rw [List.length_append]; rfl
theorem m_insL {z f3 : Int32} {b : Nat} {K : Int32 → Ob → Prop} {Post : Ob → Prop} : ∀ (n : Nat) (l rest : List Int32) (o : Ob), l.length = n → b + n + rest.length < 64 → Seg (o.2.2 15) b l → Seg (o.2.2 15) (b + n + 1) rest → (∀ (p : Nat) (o2 : Ob), b ≤ p → p < 64 → Fm [] [15] o o2 → (∀ q, q < b → o2.2.2 15 q = o.2.2 15 q) → Seg (upd (o2.2.2 15) p z) b (insE z l ++ rest) → K (nI p) o2) → w_X10_mapFrom_L39 4 (nI b) f3 z K Post (n + 1) (nI (b + n)) o := by
  intro n
  induction n with
  | zero =>
    intro l rest o hl hr hs ht k
    have : l = [] := List.length_eq_zero_iff.mp hl
    subst this
    refine ⟨fun c => absurd rfl c, fun _ => ⟨fun _ => k b o (Nat.le_refl _) (by omega) Fm.rf (fun _ _ => rfl) ?_, fun c => absurd (Int32.le_refl _) c⟩⟩
    exact Seg.cons pk_us (ht.upd (Or.inl (by omega)))
  | succ n ih =>
    intro l rest o hl hr hs ht k
    obtain ⟨l', x, rfl, hl'⟩ := snoc_of hl
    have hx : o.2.2 15 (b + n) = x := by have := hs.right.head; rwa [hl'] at this
    have st := hs.left
    refine ⟨fun c => absurd rfl c, fun _ => ⟨fun c => ?_, fun _ => ?_⟩⟩
    · rw [nI_leI (by omega) (by omega)] at c; omega
    rw [show b + (n + 1) = (b + n) + 1 by omega, nI_pred, nI_clamp (by omega), nI_clamp (by omega), hx, pk_m1]
    refine ⟨vp_in_nI (by omega) (by omega), fun c => k (b + n + 1) o (by omega) (by omega) Fm.rf (fun _ _ => rfl) ?_, fun c => ⟨vp_in_nI (by omega) (by omega), vp_in_nI (by omega) (by omega), ?_⟩⟩
    · rw [insE_snoc, if_neg (Int32.not_lt.mpr c), show l' ++ [x, z] ++ rest = (l' ++ [x]) ++ (z :: rest) by simp]
      refine Seg.app (hs.upd (Or.inr (by rw [hl]; omega))) ?_
      rw [hl]
      exact Seg.cons pk_us (ht.upd (Or.inl (by omega)))
    · refine ih l' (x :: rest) _ hl' (by rw [List.length_cons]; omega) ?_ ?_ (fun p o2 hb hp hf hq hg => k p o2 hb hp ?_ ?_ ?_)
      · show Seg (sa o.2.2 15 _ 15) _ _; rw [sa_us]; exact st.upd (Or.inr (by rw [hl']; omega))
      · show Seg (sa o.2.2 15 _ 15) _ _; rw [sa_us]; exact Seg.cons (by rw [show b + n + 1 = (b + n) + 1 by omega]; exact pk_us) (ht.upd (Or.inl (by omega)))
      · exact (Fm.a (fun k hk => sa_un (S := [15]) (by decide) hk)).tr hf
      · intro q h1
        rw [hq q h1]; show sa o.2.2 15 (upd (o.2.2 15) (b + n + 1) x) 15 q = _; rw [sa_us, pk_un (by omega)]
      · rw [insE_snoc, if_pos (Int32.not_le.mp c)]; simpa using hg
theorem m_thr {k : Nat} {v : Int32} {Post : Int32 → Prop} (hk : k < 4) (h : Post (thrF (nI k) v)) : w_X10_through (nI k) v Post := by
  rcases (show k = 0 ∨ k = 1 ∨ k = 2 ∨ k = 3 by omega) with rfl | rfl | rfl | rfl
  · exact ⟨fun z => absurd rfl z, fun _ => h⟩
  · exact ⟨fun _ => ⟨fun z => absurd rfl z, fun _ => h⟩, fun z => absurd z (by decide)⟩
  · exact ⟨fun _ => ⟨fun _ => ⟨fun z => absurd rfl z, fun _ => h⟩, fun z => absurd z (by decide)⟩, fun z => absurd z (by decide)⟩
  · exact ⟨fun _ => ⟨fun _ => ⟨fun _ => h, fun z => absurd z (by decide)⟩, fun z => absurd z (by decide)⟩, fun z => absurd z (by decide)⟩
theorem m_mapL {k b : Nat} {Post : Ob → Prop} (hk : k < 5) : ∀ (rest acc : List Int32) (o : Ob), o.2.1 14 = nI (b + acc.length + rest.length) → b + acc.length + rest.length ≤ 60 → Seg (o.2.2 15) b (acc ++ rest) → (∀ o2, Fm [] [15] o o2 → (∀ q, q < b → o2.2.2 15 q = o.2.2 15 q) → Seg (o2.2.2 15) b (rest.foldl (mstep (nI k)) acc) → Post o2) → w_X10_mapFrom_L2 (nI k) (nI b) Post (rest.length + 1) (nI (b + acc.length)) o := by
  intro rest
  induction rest with
  | nil =>
    intro acc o h14 hl hs kk
    refine ⟨fun _ => kk o Fm.rf (fun _ _ => rfl) (by simpa using hs), fun c => absurd ?_ c⟩
    rw [h14]; exact Int32.le_refl _
  | cons v rest ih =>
    intro acc o h14 hl hs kk
    rw [List.length_cons] at h14 hl
    have hv : o.2.2 15 (b + acc.length) = v := hs.right.head
    have e1 : (nI (b + acc.length)).toNatClampNeg = b + acc.length := nI_clamp (by omega)
    refine ⟨fun c => ?_, fun _ => ?_⟩
    · rw [h14, nI_leI (by omega) (by omega)] at c; omega
    rw [e1, hv]
    have fin : ∀ (z : Int32) (p : Nat) (o2 : Ob), p < 64 → Fm [] [15] o o2 → (∀ q, q < b → o2.2.2 15 q = o.2.2 15 q) → b ≤ p → Seg (upd (o2.2.2 15) p z) b (mstep (nI k) acc v ++ rest) → vp_in (nI p) 64 ∧ w_X10_mapFrom_L2 (nI k) (nI b) Post (rest.length + 1) (nI (b + acc.length) + 1) (o2.1, o2.2.1, sa o2.2.2 15 (upd (o2.2.2 15) (nI p).toNatClampNeg z)) := by
      intro z p o2 hp f2 hq hbp hg
      refine ⟨vp_in_nI hp (by omega), ?_⟩
      have F : Fm [] [15] o2 (o2.1, o2.2.1, sa o2.2.2 15 (upd (o2.2.2 15) (nI p).toNatClampNeg z)) := Fm.a (fun k hk => sa_un (S := [15]) (by decide) hk)
      have e2 : (nI p).toNatClampNeg = p := nI_clamp (by omega)
      have := ih (mstep (nI k) acc v) (o2.1, o2.2.1, sa o2.2.2 15 (upd (o2.2.2 15) (nI p).toNatClampNeg z)) (by rw [(f2.tr F).2.1 14 (by decide), h14, mstep_len]; congr 1; omega) (by rw [mstep_len]; omega) (by show Seg (sa o2.2.2 15 _ 15) _ _; rw [sa_us, e2]; exact hg) (fun o3 f3 q3 g3 => kk o3 ((f2.tr F).tr f3) (fun q hq2 => ?_) g3)
      · rw [mstep_len, show b + (acc.length + 1) = b + acc.length + 1 by omega, ← nI_1] at this
        exact this
      · rw [q3 q hq2]
        show sa o2.2.2 15 (upd (o2.2.2 15) (nI p).toNatClampNeg z) 15 q = _
        rw [sa_us, e2, pk_un (by omega)]; exact hq q hq2
    have hvp : vp_in (nI (b + acc.length)) 64 := vp_in_nI (by omega) (by omega)
    have ht : Seg (o.2.2 15) (b + acc.length + 1) rest := hs.right.tail
    by_cases c4 : k = 4
    · subst c4
      refine jn_mk ⟨fun _ => ⟨hvp, acc.length + 1, ?_⟩, fun c => absurd (by decide) c⟩
      refine m_insL acc.length acc rest o rfl (by omega) hs.left ht (fun p o2 hb hp hf hq hg => fin v p o2 hp hf hq hb ?_)
      exact hg
    · refine jn_mk ⟨fun c => ?_, fun _ => ⟨hvp, m_thr (by omega) ⟨1, fun _ => ?_, fun c => ?_⟩⟩⟩
      · rw [show (4 : Int32) = nI 4 from rfl, nI_leI (by omega) (by omega)] at c; omega
      · refine fin _ (b + acc.length) o (by omega) Fm.rf (fun _ _ => rfl) (by omega) ?_
        unfold mstep
        rw [if_neg (fun c => by rw [show (4 : Int32) = nI 4 from rfl, nI_eq (by omega) (by omega)] at c; omega), List.append_assoc]
        refine (hs.left.upd (Or.inr (by omega))).app ?_
        exact Seg.cons pk_us (ht.upd (Or.inl (by omega)))
      · rw [show (4 : Int32) = nI 4 from rfl, nI_eq (by omega) (by omega)] at c; omega
theorem m_map {k : Nat} {A l : List Int32} {o : Ob} {Post : Ob → Prop} (hk : k < 5) (h14 : o.2.1 14 = nI (A.length + l.length)) (hl : A.length + l.length ≤ 60) (hs : Seg (o.2.2 15) 0 (A ++ l)) (kk : ∀ o2, Fm [] [15] o o2 → Seg (o2.2.2 15) 0 (A ++ mapF (nI k) l) → Post o2) : w_X10_mapFrom (nI k) (nI A.length) o Post := by
  have := m_mapL (b := A.length) (Post := Post) hk l [] o (by simpa using h14) (by simpa using hl) (by have := hs.right; rw [Nat.zero_add] at this; exact this) (fun o2 f2 q2 g2 => kk o2 f2 (Seg.app (fun i x hx => ?_) (by rw [Nat.zero_add, mapF_fold hk]; exact g2)))
  · exact ⟨l.length + 1, this⟩
  · have hi := (List.getElem?_eq_some_iff.mp hx).1
    rw [Nat.zero_add, q2 i hi]
    have := hs.left i x hx
    rwa [Nat.zero_add] at this
theorem c_sinkL {v : Int32} {b : Nat} {Post : Ob → Prop} : ∀ (n : Nat) (acc rest : List Int32) (o : Ob), acc.length = n → b + n < 24 → Seg (o.2.2 0) b (acc ++ v :: rest) → (∀ o2, Fm [] [0] o o2 → (∀ q, q < b → o2.2.2 0 q = o.2.2 0 q) → Seg (o2.2.2 0) b (insE v acc ++ rest) → Post o2) → w_X2_sink_L2 (nI b) Post (n + 1) (nI (b + n)) o := by
  intro n
  induction n with
  | zero =>
    intro acc rest o hl hb hs k
    have : acc = [] := List.length_eq_zero_iff.mp hl
    subst this
    exact ⟨fun _ => k o Fm.rf (fun _ _ => rfl) hs, fun c => absurd (Int32.le_refl _) c⟩
  | succ n ih =>
    intro acc rest o hl hb hs k
    obtain ⟨l', x, rfl, hl'⟩ := snoc_of hl
    have hx : o.2.2 0 (b + n) = x := by have := hs.left.right.head; rwa [hl'] at this
    have hv : o.2.2 0 (b + n + 1) = v := by have := hs.right.head; rw [hl] at this; exact this
    have ht : Seg (o.2.2 0) (b + n + 1 + 1) rest := by have := hs.right.tail; rw [hl] at this; exact this
    refine ⟨fun c => ?_, fun _ => ⟨fun c => ?_, fun _ => ⟨fun c => ?_, fun _ => ?_⟩⟩⟩
    · rw [nI_leI (by omega) (by omega)] at c; omega
    · exact absurd c (nI_nle (by omega) (by omega))
    · rw [show (24 : Int32) = nI 24 from rfl, nI_leI (by omega) (by omega)] at c; omega
    rw [show b + (n + 1) = (b + n) + 1 by omega, nI_pred, nI_clamp (by omega), nI_clamp (by omega), hx, hv, pk_m1]
    have v1 : vp_in (nI (b + n)) 24 := vp_in_nI (by omega) (by omega)
    have v2 : vp_in (nI (b + n + 1)) 24 := vp_in_nI (by omega) (by omega)
    refine ⟨v1, v2, fun c => k o Fm.rf (fun _ _ => rfl) ?_, fun c => ⟨v1, v2, v1, v2, ?_⟩⟩
    · rw [insE_snoc, if_neg (Int32.not_lt.mpr c)]; simpa using hs
    · have eR : ∀ q, sa (sa o.2.2 0 (upd (o.2.2 0) (b + n) v)) 0 (upd (upd (o.2.2 0) (b + n) v) (b + n + 1) x) 0 q = upd (upd (o.2.2 0) (b + n) v) (b + n + 1) x q := fun q => by rw [sa_us]
      refine ih l' (x :: rest) _ hl' (by omega) ?_ (fun o2 hf hq hg => k o2 ?_ ?_ ?_)
      · show Seg (sa (sa o.2.2 0 (upd (o.2.2 0) (b + n) v)) 0 (upd (upd (o.2.2 0) (b + n) v) (b + n + 1) x) 0) _ _
        rw [sa_us]
        refine ((hs.left.left.upd (Or.inr (by rw [hl']; omega))).upd (Or.inr (by rw [hl']; omega))).app ?_
        rw [hl']
        refine Seg.cons ?_ (Seg.cons pk_us ((ht.upd (Or.inl (by omega))).upd (Or.inl (by omega))))
        rw [pk_un (by omega), pk_us]
      · exact (Fm.a (fun k hk => by rw [sa_un (S := [0]) (by decide) hk, sa_un (S := [0]) (by decide) hk])).tr hf
      · intro q h1
        rw [hq q h1]
        refine (eR q).trans ?_
        rw [pk_un (by omega), pk_un (by omega)]
      · rw [insE_snoc, if_pos (Int32.not_le.mp c)]; simpa using hg
theorem c_mapL {k b : Nat} {x3 : Int32} {e : Nat} {Post : Ob → Prop} (hk : k < 5) (hx3 : x3 = nI e) : ∀ (mid acc rest : List Int32) (o : Ob), b + acc.length + mid.length = e → e ≤ 24 → Seg (o.2.2 0) b (acc ++ mid ++ rest) → (∀ o2, Fm [] [0] o o2 → (∀ q, q < b → o2.2.2 0 q = o.2.2 0 q) → Seg (o2.2.2 0) b (mid.foldl (mstep (nI k)) acc ++ rest) → Post o2) → w_X2_map_L7 (nI k) (nI b) x3 Post (mid.length + 1) (nI (b + acc.length)) o := by
  intro mid
  induction mid with
  | nil =>
    intro acc rest o he h24 hs kk
    refine ⟨fun _ => kk o Fm.rf (fun _ _ => rfl) (by simpa using hs), fun c => absurd ?_ c⟩
    rw [hx3, show e = b + acc.length by simpa using he.symm]; exact Int32.le_refl _
  | cons v mid ih =>
    intro acc rest o he h24 hs kk
    rw [List.length_cons] at he
    have hv : o.2.2 0 (b + acc.length) = v := by rw [List.append_assoc] at hs; exact hs.right.head
    have e1 : (nI (b + acc.length)).toNatClampNeg = b + acc.length := nI_clamp (by omega)
    refine ⟨fun c => ?_, fun _ => ⟨fun c => ?_, fun _ => ⟨vp_in_nI (by omega) (by omega), ?_⟩⟩⟩
    · rw [hx3, nI_leI (by omega) (by omega)] at c; omega
    · rw [show (24 : Int32) = nI 24 from rfl, nI_leI (by omega) (by omega)] at c; omega
    have fin : ∀ (o2 : Ob), Fm [] [0] o o2 → (∀ q, q < b → o2.2.2 0 q = o.2.2 0 q) → Seg (o2.2.2 0) b (mstep (nI k) acc v ++ (mid ++ rest)) → w_X2_map_L7 (nI k) (nI b) x3 Post (mid.length + 1) (nI (b + acc.length) + 1) o2 := by
      intro o2 f2 hq hg
      have := ih (mstep (nI k) acc v) rest o2 (by rw [mstep_len]; omega) h24 (by rw [List.append_assoc]; exact hg) (fun o3 f3 q3 g3 => kk o3 (f2.tr f3) (fun q hq2 => (q3 q hq2).trans (hq q hq2)) g3)
      rw [mstep_len, show b + (acc.length + 1) = b + acc.length + 1 by omega, ← nI_1] at this
      exact this
    have hvp : vp_in (nI (b + acc.length)) 24 := vp_in_nI (by omega) (by omega)
    have hs2 : Seg (o.2.2 0) b (acc ++ v :: (mid ++ rest)) := by simpa using hs
    have fin2 : ∀ z : Int32, z = thrF (nI k) v → ¬ k = 4 → w_X2_map_L7 (nI k) (nI b) x3 Post (mid.length + 1) (nI (b + acc.length) + 1) (o.1, o.2.1, sa o.2.2 0 (upd (o.2.2 0) (b + acc.length) z)) := by
      rintro z rfl c4
      refine fin _ (Fm.a (fun k hk => sa_un (S := [0]) (by decide) hk)) (fun q hq => ?_) ?_
      · show sa o.2.2 0 (upd (o.2.2 0) (b + acc.length) (thrF (nI k) v)) 0 q = _
        rw [sa_us, pk_un (by omega)]
      · show Seg (sa o.2.2 0 _ 0) _ _
        rw [sa_us]
        unfold mstep
        rw [if_neg (fun c => by rw [show (4 : Int32) = nI 4 from rfl, nI_eq (by omega) (by omega)] at c; omega), List.append_assoc]
        exact (hs2.left.upd (Or.inr (by omega))).app (Seg.cons pk_us (hs2.right.tail.upd (Or.inl (by omega))))
    rw [e1, hv]
    rcases (show k = 0 ∨ k = 1 ∨ k = 2 ∨ k = 3 ∨ k = 4 by omega) with rfl | rfl | rfl | rfl | rfl
    · exact jn_mk ⟨fun _ => ⟨hvp, fin2 _ rfl (by omega)⟩, fun z => absurd z (by decide), fun z => absurd z (by decide), fun z => absurd z (by decide), fun z => absurd rfl z.1⟩
    · exact jn_mk ⟨fun z => absurd z (by decide), fun _ => ⟨hvp, fin2 _ rfl (by omega)⟩, fun z => absurd z (by decide), fun z => absurd z (by decide), fun z => absurd rfl z.2.1⟩
    · exact jn_mk ⟨fun z => absurd z (by decide), fun z => absurd z (by decide), fun _ => ⟨hvp, fin2 _ rfl (by omega)⟩, fun z => absurd z (by decide), fun z => absurd rfl z.2.2.1⟩
    · exact jn_mk ⟨fun z => absurd z (by decide), fun z => absurd z (by decide), fun z => absurd z (by decide), fun _ => ⟨hvp, fin2 _ rfl (by omega)⟩, fun z => absurd rfl z.2.2.2⟩
    · refine jn_mk ⟨fun z => absurd z (by decide), fun z => absurd z (by decide), fun z => absurd z (by decide), fun z => absurd z (by decide), fun _ => ⟨acc.length + 1, ?_⟩⟩
      exact c_sinkL acc.length acc (mid ++ rest) o rfl (by omega) hs2 (fun o2 f2 q2 g2 => fin o2 f2 q2 g2)
theorem c_map {k : Nat} {A l S : List Int32} {o : Ob} {Post : Ob → Prop} (hk : k < 5) (hl : A.length + l.length ≤ 24) (hs : Seg (o.2.2 0) 0 (A ++ l ++ S)) (kk : ∀ o2, Fm [] [0] o o2 → Seg (o2.2.2 0) 0 (A ++ mapF (nI k) l ++ S) → Post o2) : w_X2_map (nI k) (nI A.length) (nI (A.length + l.length)) o Post := by
  have main : w_X2_map_L7 (nI k) (nI A.length) (nI (A.length + l.length)) Post (l.length + 1) (nI A.length) o := by
    have := c_mapL (b := A.length) (Post := Post) hk (e := A.length + l.length) rfl l [] S o (by simp) hl (by rw [List.append_assoc] at hs; have := hs.right; rw [Nat.zero_add] at this; exact this) (fun o2 f2 q2 g2 => kk o2 f2 ?_)
    · exact this
    · rw [List.append_assoc]
      refine Seg.app (fun i x hx => ?_) (by rw [Nat.zero_add, mapF_fold hk]; exact g2)
      have hi := (List.getElem?_eq_some_iff.mp hx).1
      rw [Nat.zero_add, q2 i hi]
      have := hs.left.left i x hx
      rwa [Nat.zero_add] at this
  refine ⟨fun _ => ⟨l.length + 1, main⟩, fun c => ?_⟩
  have : A.length = 0 := by
    rcases Nat.eq_zero_or_pos A.length with q | q
    · exact q
    · exact absurd (by rw [show (0 : Int32) = nI 0 from rfl, nI_ltI (by omega) (by omega)]; exact q) c
  rw [this] at main ⊢
  exact ⟨l.length + 1, main⟩
