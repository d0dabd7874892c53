/-! RECKONING: a node is come to, a node is done with -/
def rkS : List Nat := [11, 14, 17]
def rkA : List Nat := [12, 13, 15, 16, 18, 19, 20]
def lf0 (tb : Tb) (x : Nd) : List Int32 := if kindN tb x = 8 ∨ kindN tb x = 0 then [x.2] else []
def okX (tb : Tb) (nm : Nat) (x : Nd) : Prop := ∀ m, x.1 = some m → m < nm ∧ (tb 0 m = 1 → ∃ j : Nat, j ≤ (tb 3 m).toNatClampNeg ∧ x.2 = nI j) ∧ (tb 0 m = 6 → x.2 = tb 3 m)
def FrL (h : Nat) (o o2 : Ob) : Prop := ∀ q, q < h → o2.2.2 18 q = o.2.2 18 q ∧ o2.2.2 19 q = o.2.2 19 q ∧ o2.2.2 20 q = o.2.2 20 q
theorem FrL.of {S A : List Nat} {h : Nat} {o o2 : Ob} (f : Fm S A o o2) (h1 : 18 ∉ A) (h2 : 19 ∉ A) (h3 : 20 ∉ A) : FrL h o o2 := fun q _ => by rw [f.2.2 18 h1, f.2.2 19 h2, f.2.2 20 h3]; exact ⟨rfl, rfl, rfl⟩
theorem FrL.tr {h : Nat} {o o2 o3 : Ob} (a : FrL h o o2) (b : FrL h o2 o3) : FrL h o o3 := fun q hq => ⟨(b q hq).1.trans (a q hq).1, (b q hq).2.1.trans (a q hq).2.1, (b q hq).2.2.trans (a q hq).2.2⟩
theorem FrL.le {h h2 : Nat} {o o2 : Ob} (a : FrL h o o2) (l : h2 ≤ h) : FrL h2 o o2 := fun q hq => a q (by omega)
theorem cn_0 {tb : Tb} {m : Nat} {v : Int32} (q : tb 0 m = 0) : cnN tb (some m, v) = (0, v, goalN tb m) := by
  unfold cnN; simp only [q]; rfl
theorem cn_1 {tb : Tb} {m : Nat} {v : Int32} (q : tb 0 m = 1) : cnN tb (some m, v) = (1, v, 0) := by
  unfold cnN; simp only [q]; rfl
theorem cn_2 {tb : Tb} {m : Nat} {v : Int32} (q : tb 0 m = 2) : cnN tb (some m, v) = (2, 2, 0) := by
  unfold cnN; simp only [q]; rfl
theorem cn_3 {tb : Tb} {m : Nat} {v : Int32} (q : tb 0 m = 3) : cnN tb (some m, v) = (3, 0, 0) := by
  unfold cnN; simp only [q]; rfl
theorem cn_4 {tb : Tb} {m : Nat} {v : Int32} (q : tb 0 m = 4) : cnN tb (some m, v) = (4, tb 3 m, 0) := by
  unfold cnN; simp only [q]; rfl
theorem cn_5 {tb : Tb} {m : Nat} {v : Int32} (q : tb 0 m = 5) : cnN tb (some m, v) = (5, tb 2 m, 0) := by
  unfold cnN; simp only [q]; rfl
theorem cn_6 {tb : Tb} {m : Nat} {v : Int32} (q : tb 0 m = 6) : cnN tb (some m, v) = (6, v, 0) := by
  unfold cnN; simp only [q]; rfl
theorem cn_7 {tb : Tb} {m : Nat} {v : Int32} (q : tb 0 m = 7) : cnN tb (some m, v) = (7, 2, 0) := by
  unfold cnN; simp only [q]; rfl
theorem kind_n8 {tb : Tb} {nc m : Nat} (w : MkWF tb nc m) : ¬ tb 0 m = 8 := by
  intro c8
  rcases kind_cases w with q | q | q | q | q | q | q | q
  all_goals exact absurd (q.symm.trans c8) (by decide)
def vJ (t p n : Nat) (f3 : Int32) (K Post : Ob → Prop) (x : Nd) (o1 : Ob) : Prop := vp_in (o1.2.1 17) 1000 ∧ (w_X10_parts (nI (1000 * t + p)) ((o1.1, o1.2.1, (sa o1.2.2 18 (upd (o1.2.2 18) (o1.2.1 17).toNatClampNeg (nI (1000 * t + p)))))) (fun (r23 : Int32) (o_24 : Ob) => vp_in (o1.2.1 17) 1000 ∧ (jn (fun J199 : Int32 → Ob → Prop => jn (fun J186 : Ob → Prop => (((encM x.1) < 0) → J186 ((o_24.1, o_24.2.1, (sa o_24.2.2 19 (upd (o_24.2.2 19) (o1.2.1 17).toNatClampNeg r23))))) ∧ (¬ ((encM x.1) < 0) → vp_in (encM x.1) 30 ∧ (((¬ ((o_24.2.2 1) (encM x.1).toNatClampNeg) = 0) → J199 (o_24.2.1 14) ((o_24.1, o_24.2.1, (sa o_24.2.2 19 (upd (o_24.2.2 19) (o1.2.1 17).toNatClampNeg r23))))) ∧ ((((o_24.2.2 1) (encM x.1).toNatClampNeg) = 0) → J186 ((o_24.1, o_24.2.1, (sa o_24.2.2 19 (upd (o_24.2.2 19) (o1.2.1 17).toNatClampNeg r23)))))))) (fun (o_186 : Ob) => J199 ((o_186.2.1 14) - 1) o_186)) (fun (z_199 : Int32) (o_199 : Ob) => vp_in (o_24.2.1 17) 1000 ∧ (w_X10_leave   ((o_199.1, (upd o_199.2.1 17 (((o_199.2.1 17) + 1))), (sa o_199.2.2 20 (upd (o_199.2.2 20) (o_24.2.1 17).toNatClampNeg z_199)))) (fun (o_31 : Ob) => w_X10_reckon_L18 (nI t) f3 K Post n (nI (p + 1)) o_31))))))
section
variable {tb : Tb} {nm nc : Nat}
theorem kindN_s {m : Nat} {v : Int32} : kindN tb (some m, v) = tb 0 m := rfl
theorem m_visit (hw : ∀ m, m < nm → MkWF tb nc m) (hn : nm ≤ 30) {o : Ob} {x : Nd} {t p h n : Nat} {f3 : Int32} {A : List Int32} {sg : List (Option Int32)} {K Post : Ob → Prop} (T : HT tb o) (hx : okX tb nm x) (h9 : o.2.2 9 (1000 * t + p) = encM x.1) (h10 : o.2.2 10 (1000 * t + p) = x.2) (ht : t < 5) (hp : p < 1000) (R : RkP o A sg) (h17 : o.2.1 17 = nI h) (hh : h < 900) (hA : A.length < 60) (hs : sg.length < 1600) (hf3 : ¬ f3 ≤ nI p)
    (k : ∀ o2, Fm rkS rkA o o2 → RkP o2 (A ++ lf0 tb x) (sg ++ sg1 (cnN tb x)) → o2.2.1 17 = nI (h + 1) → FrL h o o2 → o2.2.2 18 h = nI (1000 * t + p) → o2.2.2 19 h = nI (arN tb x) → o2.2.2 20 h = nI A.length → w_X10_leave o2 (fun o_31 => w_X10_reckon_L18 (nI t) f3 K Post n (nI (p + 1)) o_31)) : w_X10_reckon_L18 (nI t) f3 K Post (n + 1) (nI p) o := by
  have hi : 1000 * t + p < 5000 := by omega
  have ei : (1000 : Int32) * nI t + nI p = nI (1000 * t + p) := by rw [show (1000 : Int32) = nI 1000 from rfl, mul_nI, nI_add]
  have hvi : vp_in (nI (1000 * t + p)) 5000 := vp_in_nI hi (by omega)
  refine ⟨fun z => absurd z hf3, fun _ => ?_⟩
  rw [ei, nI_clamp (by omega), h9, nI_1]
  refine ⟨hvi, ?_⟩
  -- behind the signs
  have J137 : ∀ o1, Fm [11, 14] [12, 13, 15, 16] o o1 → RkP o1 (A ++ lf0 tb x) (sg ++ sg1 (cnN tb x)) → vJ t p n f3 K Post x o1 := by
    intro o1 f1 R1
    unfold vJ
    have e17 : o1.2.1 17 = nI h := (f1.2.1 17 (by decide)).trans h17
    have e14 : o1.2.1 14 = nI (A.length + (lf0 tb x).length) := by rw [R1.1, List.length_append]
    have hvh : vp_in (nI h) 1000 := vp_in_nI (by omega) (by omega)
    have eh : (nI h).toNatClampNeg = h := nI_clamp (by omega)
    rw [e17, eh]
    refine ⟨hvh, ?_⟩
    have F2 : Fm [] [18] o1 (o1.1, o1.2.1, sa o1.2.2 18 (upd (o1.2.2 18) h (nI (1000 * t + p)))) := Fm.a (fun k hk => sa_un (S := [18]) (by decide) hk)
    have f12 := (f1.mono (S' := [11, 14]) (A' := [12, 13, 15, 16, 18]) (by decide) (by decide)).tr (F2.mono (by decide) (by decide))
    refine m_parts hw hn (T.keep f12 (by decide)) hi ?_ ?_ hx ⟨hvh, ?_⟩
    · rw [f12.2.2 9 (by decide)]; exact h9
    · rw [f12.2.2 10 (by decide)]; exact h10
    · have fin : ∀ z : Int32, z = nI A.length → vp_in (nI h) 1000 ∧ (w_X10_leave ((o1.1, (upd o1.2.1 17 (nI h + 1)), (sa (sa (sa o1.2.2 18 (upd (o1.2.2 18) h (nI (1000 * t + p)))) 19 (upd (sa o1.2.2 18 (upd (o1.2.2 18) h (nI (1000 * t + p))) 19) h (nI (arN tb x)))) 20 (upd (sa (sa o1.2.2 18 (upd (o1.2.2 18) h (nI (1000 * t + p)))) 19 (upd (sa o1.2.2 18 (upd (o1.2.2 18) h (nI (1000 * t + p))) 19) h (nI (arN tb x))) 20) h z)))) (fun (o_31 : Ob) => w_X10_reckon_L18 (nI t) f3 K Post n (nI (p + 1)) o_31)) := by
        rintro z rfl
        refine ⟨hvh, ?_⟩
        have FF : Fm [17] [18, 19, 20] o1 ((o1.1, (upd o1.2.1 17 (nI h + 1)), (sa (sa (sa o1.2.2 18 (upd (o1.2.2 18) h (nI (1000 * t + p)))) 19 (upd (sa o1.2.2 18 (upd (o1.2.2 18) h (nI (1000 * t + p))) 19) h (nI (arN tb x)))) 20 (upd (sa (sa o1.2.2 18 (upd (o1.2.2 18) h (nI (1000 * t + p)))) 19 (upd (sa o1.2.2 18 (upd (o1.2.2 18) h (nI (1000 * t + p))) 19) h (nI (arN tb x))) 20) h (nI A.length))))) :=
          Fm.ia (fun k hk => un_of (S := [17]) (by decide) hk) (fun k hk => by rw [sa_un (S := [18, 19, 20]) (by decide) hk, sa_un (S := [18, 19, 20]) (by decide) hk, sa_un (S := [18, 19, 20]) (by decide) hk])
        refine k _ ((f1.mono (by decide) (by decide)).tr (FF.mono (by decide) (by decide))) (R1.keep FF (by decide) (by decide)) ?_ (fun q hq => ?_) ?_ ?_ ?_
        · show upd o1.2.1 17 (nI h + 1) 17 = _
          rw [pk_us, nI_1]
        · dsimp only
          rw [sa_ne (show 18 ≠ 20 by omega), sa_ne (show 18 ≠ 19 by omega), sa_us, pk_un (by omega), sa_ne (show 19 ≠ 20 by omega), sa_us, pk_un (by omega), sa_ne (show 19 ≠ 18 by omega), sa_us, pk_un (by omega), sa_ne (show 20 ≠ 19 by omega), sa_ne (show 20 ≠ 18 by omega), f1.2.2 18 (by decide), f1.2.2 19 (by decide), f1.2.2 20 (by decide)]
          exact ⟨rfl, rfl, rfl⟩
        · dsimp only
          rw [sa_ne (show 18 ≠ 20 by omega), sa_ne (show 18 ≠ 19 by omega), sa_us, pk_us]
        · dsimp only
          rw [sa_ne (show 19 ≠ 20 by omega), sa_us, pk_us]
        · dsimp only
          rw [sa_us, pk_us]
      have es : ∀ {P : Int32 → Prop}, o1.2.1 17 = nI h → P (nI h) → P (o1.2.1 17) := fun e q => by rw [e]; exact q
      obtain ⟨xm, v⟩ := x
      cases xm with
      | none =>
        have e1 : o1.2.1 14 - 1 = nI A.length := by
          rw [e14, show (lf0 tb (none, v)).length = 1 from rfl, ← nI_1, Int32.add_sub_cancel]
        refine jn_mk (jn_mk ⟨fun _ => ?_, fun z => absurd (show (-1 : Int32) < 0 by decide) z⟩)
        dsimp only
        rw [e17, eh]
        exact fin _ e1
      | some m =>
        have hml := (hx m rfl).1
        have em : (nI m).toNatClampNeg = m := nI_clamp (by omega)
        have k0 : (sa o1.2.2 18 (upd (o1.2.2 18) h (nI (1000 * t + p))) 1) m = tb 0 m := by
          rw [sa_ne (by omega), f1.2.2 1 (by decide)]
          exact congrFun (T 0 (by omega)) m
        refine jn_mk (jn_mk ⟨fun z => absurd z (nI_pos (by omega)), fun _ => ⟨vp_in_nI (by omega) (by omega), ?_⟩⟩)
        show (¬ (sa o1.2.2 18 (upd (o1.2.2 18) h (nI (1000 * t + p))) 1) (nI m).toNatClampNeg = 0 → _) ∧ ((sa o1.2.2 18 (upd (o1.2.2 18) h (nI (1000 * t + p))) 1) (nI m).toNatClampNeg = 0 → _)
        rw [em, k0]
        refine ⟨fun c => ?_, fun c => ?_⟩
        · have e0 : (lf0 tb (some m, v)).length = 0 := by rw [show lf0 tb (some m, v) = [] from if_neg (fun z => z.elim (kind_n8 (hw m hml)) c)]; rfl
          dsimp only
          rw [e17, eh]
          exact fin _ (by rw [e14, e0]; rfl)
        · have e1 : o1.2.1 14 - 1 = nI A.length := by
            rw [e14, show (lf0 tb (some m, v)).length = 1 from by rw [show lf0 tb (some m, v) = [v] from if_pos (Or.inr c)]; rfl, ← nI_1, Int32.add_sub_cancel]
          dsimp only
          rw [e17, eh]
          exact fin _ e1
  refine jn_mk (jn_mk ?_)
  obtain ⟨xm, v⟩ := x
  cases xm with
  | none =>
    refine ⟨fun _ => ⟨hvi, ?_⟩, fun z => absurd (show (-1 : Int32) < 0 by decide) z⟩
    rw [h10]
    exact rk_leaf R hA hs (fun o2 f2 R2 => J137 o2 (f2.mono (by decide) (by decide)) R2)
  | some m =>
    have hml := (hx m rfl).1
    have em : (nI m).toNatClampNeg = m := nI_clamp (by omega)
    have hvm : vp_in (nI m) 30 := vp_in_nI (by omega) (by omega)
    have k0 : o.2.2 1 m = tb 0 m := congrFun (T 0 (by omega)) m
    refine ⟨fun z => absurd z (nI_pos (by omega)), fun _ => ⟨hvm, ?_⟩⟩
    show (¬ (o.2.2 1) (nI m).toNatClampNeg = 0 → vp_in (nI m) 30 ∧ jn (fun J95 : Ob → Prop => ((o.2.2 1) (nI m).toNatClampNeg = 1 → J95 o) ∧ (¬ (o.2.2 1) (nI m).toNatClampNeg = 1 → vp_in (nI m) 30 ∧ (¬ (o.2.2 1) (nI m).toNatClampNeg = 6 → vp_in (nI m) 30 ∧ jn (fun J132 : Ob → Prop => ((o.2.2 1) (nI m).toNatClampNeg = 2 → J132 o) ∧ (¬ (o.2.2 1) (nI m).toNatClampNeg = 2 → vp_in (nI m) 30 ∧ (¬ (o.2.2 1) (nI m).toNatClampNeg = 7 → _) ∧ ((o.2.2 1) (nI m).toNatClampNeg = 7 → J132 o))) (fun o_132 => w_X10_rowIs 2 o_132 _)) ∧ ((o.2.2 1) (nI m).toNatClampNeg = 6 → J95 o))) (fun o_95 => vp_in (nI (1000 * t + p)) 5000 ∧ w_X10_rowIs (o_95.2.2 10 (1000 * t + p)) o_95 _)) ∧ ((o.2.2 1) (nI m).toNatClampNeg = 0 → _)
    rw [em, k0]
    refine ⟨fun c0 => ⟨hvm, ?_⟩, fun c0 => ⟨hvi, ?_⟩⟩
    · have lf : lf0 tb (some m, v) = [] := if_neg (fun z => z.elim (kind_n8 (hw m hml)) c0)
      rw [lf, List.append_nil] at J137
      have row : ∀ w : Int32, sg1 (cnN tb (some m, v)) = [some w] → w_X10_rowIs w o (vJ t p n f3 K Post (some m, v)) := by
        intro w e
        rw [e] at J137
        exact rk_row R hs (fun o2 f2 R2 => J137 o2 (f2.mono (by decide) (by decide)) R2)
      have non : sg1 (cnN tb (some m, v)) = [] → RkP o A (sg ++ sg1 (cnN tb (some m, v))) := fun e => by rw [e, List.append_nil]; exact R
      rcases kind_cases (hw m hml) with q | q | q | q | q | q | q | q
      · exact absurd q c0
      · have r1 := row v (by rw [cn_1 q]; rfl)
        rw [q]
        refine jn_mk ⟨fun _ => ⟨hvi, ?_⟩, fun z => absurd rfl z⟩
        rw [h10]; exact r1
      · have r1 := row 2 (by rw [cn_2 q]; rfl)
        rw [q]
        exact jn_mk ⟨fun z => absurd z (by decide), fun _ => ⟨hvm, fun _ => ⟨hvm, jn_mk ⟨fun _ => r1, fun z => absurd rfl z⟩⟩, fun z => absurd z (by decide)⟩⟩
      · have r1 := J137 o Fm.rf (non (by rw [cn_3 q]; rfl))
        rw [q]
        exact jn_mk ⟨fun z => absurd z (by decide), fun _ => ⟨hvm, fun _ => ⟨hvm, jn_mk ⟨fun z => absurd z (by decide), fun _ => ⟨hvm, fun _ => r1, fun z => absurd z (by decide)⟩⟩⟩, fun z => absurd z (by decide)⟩⟩
      · have r1 := J137 o Fm.rf (non (by rw [cn_4 q]; rfl))
        rw [q]
        exact jn_mk ⟨fun z => absurd z (by decide), fun _ => ⟨hvm, fun _ => ⟨hvm, jn_mk ⟨fun z => absurd z (by decide), fun _ => ⟨hvm, fun _ => r1, fun z => absurd z (by decide)⟩⟩⟩, fun z => absurd z (by decide)⟩⟩
      · have r1 := J137 o Fm.rf (non (by rw [cn_5 q]; rfl))
        rw [q]
        exact jn_mk ⟨fun z => absurd z (by decide), fun _ => ⟨hvm, fun _ => ⟨hvm, jn_mk ⟨fun z => absurd z (by decide), fun _ => ⟨hvm, fun _ => r1, fun z => absurd z (by decide)⟩⟩⟩, fun z => absurd z (by decide)⟩⟩
      · have r1 := row v (by rw [cn_6 q]; rfl)
        rw [q]
        refine jn_mk ⟨fun z => absurd z (by decide), fun _ => ⟨hvm, fun z => absurd rfl z, fun _ => ⟨hvi, ?_⟩⟩⟩
        rw [h10]; exact r1
      · have r1 := row 2 (by rw [cn_7 q]; rfl)
        rw [q]
        exact jn_mk ⟨fun z => absurd z (by decide), fun _ => ⟨hvm, fun _ => ⟨hvm, jn_mk ⟨fun z => absurd z (by decide), fun _ => ⟨hvm, fun z => absurd rfl z, fun _ => r1⟩⟩⟩, fun z => absurd z (by decide)⟩⟩
    · have lf : lf0 tb (some m, v) = [v] := if_pos (Or.inr c0)
      have s1 : sg1 (cnN tb (some m, v)) = [none] := by rw [cn_0 c0]; rfl
      rw [lf, s1] at J137
      rw [h10]
      exact rk_leaf R hA hs (fun o2 f2 R2 => J137 o2 (f2.mono (by decide) (by decide)) R2)
end
