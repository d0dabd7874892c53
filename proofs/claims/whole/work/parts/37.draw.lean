/-! DRAW -/
def nxt (s : Int64) : Int64 := s * 6364136223846793005 + 1442695040888963407
def nx (f : Int64 → Int64) : Nat → Int64 → Int64
  | 0, s => s
  | d + 1, s => nx f d (f s)
theorem nx_0 (f : Int64 → Int64) (s : Int64) : nx f 0 s = s := rfl
theorem nx_1 (f : Int64 → Int64) (d : Nat) (s : Int64) : nx f (d + 1) s = nx f d (f s) := rfl
theorem nx_s (f : Int64 → Int64) (d : Nat) : ∀ s, nx f (d + 1) s = f (nx f d s) := by
  induction d with
  | zero => intro s; rfl
  | succ d ih => intro s; rw [nx_1, ih, nx_1]
theorem draw_c {x3 x4 : Int32} {K : Int64 → Ob → Prop} {Post : Int32 → Ob → Prop} {x : Ob} : ∀ (d i : Nat) (s : Int64), i + d < 2000 → x3 = nI (i + d) → K (nx nxt (d + 1) s) x → w_X9_draw_L26 x3 x4 K Post (d + 2) s (nI i) x := by
  intro d
  induction d with
  | zero =>
    intro i s hb e hk
    rw [nx_1, nx_0] at hk
    refine ⟨fun c => ?_, fun _ => ⟨fun _ => hk, fun c => ?_⟩⟩
    · rw [e, nI_ltI (by omega) (by omega)] at c; omega
    · rw [e, nI_1, nI_ltI (by omega) (by omega)] at c; omega
  | succ d ih =>
    intro i s hb e hk
    rw [nx_1] at hk
    have h2 := ih (i + 1) (nxt s) (by omega) (by rw [e]; congr 1; omega) hk
    refine ⟨fun c => ?_, fun _ => ?_⟩
    · rw [e, nI_ltI (by omega) (by omega)] at c; omega
    · rw [nI_1]
      exact h2
theorem sl_33 {f : Nat → Int64} {v : Int64} : sl f 33 v 33 = v := if_pos rfl
theorem draw_m {x3 x4 : Int32} {K : Ob → Prop} {Post : Int32 → Ob → Prop} : ∀ (d i : Nat) (o : Ob) (s : Int64), o.1 33 = s → i + d < 2000 → x3 = nI (i + d) → (∀ o2 : Ob, o2.2 = o.2 → o2.1 33 = nx nxt d s → K o2) → w_X10_draw_L28 x3 x4 K Post (d + 1) (nI i) o := by
  intro d
  induction d with
  | zero =>
    intro i o s es hb e hk
    have h2 := hk o rfl (by rw [nx_0]; exact es)
    refine ⟨fun _ => h2, fun c => ?_⟩
    rw [e, nI_leI (by omega) (by omega)] at c; omega
  | succ d ih =>
    intro i o s es hb e hk
    have h2 := ih (i + 1) (sl o.1 33 (nxt (o.1 33)), o.2.1, o.2.2) (nxt s) ((sl_33 (f := o.1) (v := nxt (o.1 33))).trans (congrArg nxt es)) (by omega) (by rw [e]; congr 1; omega) (fun o2 h1 h2 => hk o2 h1 (by rw [nx_1]; exact h2))
    refine ⟨fun c => ?_, fun _ => ?_⟩
    · rw [e, nI_leI (by omega) (by omega)] at c; omega
    · rw [nI_1]
      exact h2
theorem Iv_long {ck mk pr xs : Nat → Ob} {o o2 : Ob} (h : o2.2 = o.2) (hI : Iv ck mk pr xs o) : Iv ck mk pr xs o2 := by
  obtain ⟨a, b⟩ := o
  obtain ⟨a2, b2⟩ := o2
  cases h
  exact hI
theorem le_1000 {x : Int32} (h0 : ¬ x < 0) (h1 : x ≤ 1000) : ∃ c : Nat, c ≤ 1000 ∧ x = nI c := by
  obtain ⟨j, hj, rfl⟩ := nI_of h0
  rw [show (1000 : Int32) = nI 1000 from rfl, nI_leI hj (by omega)] at h1
  exact ⟨j, h1, rfl⟩
