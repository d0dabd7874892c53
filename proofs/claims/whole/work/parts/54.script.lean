/-! SCRIPTS: a machine beside its model -/
noncomputable def gwA (kd ft : Int32) (f : Nat → Int32) : Nat → Nat → List Int32 → List Int32 → Int32
  | 0, _, _, _ => 1
  | d + 1, i, hm, hd => if bP (mThr ft (actF (f (2 * i))) hm) = 0 then (if (mAns kd ft (actF (f (2 * i))) (f (2 * i + 1)) hm).1 = (mAns kd 0 (actF (f (2 * i))) (f (2 * i + 1)) hd).1 then gwA kd ft f d (i + 1) (mAns kd ft (actF (f (2 * i))) (f (2 * i + 1)) hm).2 (mAns kd 0 (actF (f (2 * i))) (f (2 * i + 1)) hd).2 else 0) else -3
noncomputable def anA (kd ft : Int32) (f : Nat → Int32) : Nat → Nat → List Int32 → Int32 → Int32 × Int32
  | 0, _, _, a => (0, a)
  | d + 1, i, h, _ => if bP (mThr ft (actF (f (2 * i))) h) = 0 then anA kd ft f d (i + 1) (mAns kd ft (actF (f (2 * i))) (f (2 * i + 1)) h).2 (mAns kd ft (actF (f (2 * i))) (f (2 * i + 1)) h).1 else (1, 0)
theorem mAns_30 {kd a v : Int32} {h : List Int32} (hn : ¬ mThr 3 a h) (hl : h.length ≤ 5) : mAns kd 3 a v h = mAns kd 0 a v h := by
  unfold mAns
  by_cases a0 : a = 0
  · rw [if_pos a0, if_pos a0, if_neg (show ¬ (3 : Int32) = 1 by decide), if_neg (show ¬ (0 : Int32) = 1 by decide)]
  · rw [if_neg a0, if_neg a0, if_neg (show ¬ (3 : Int32) = 2 by decide), if_neg (show ¬ (0 : Int32) = 2 by decide)]
theorem thr_no {ft a : Int32} {h : List Int32} (hf : ¬ ft = 3) : bP (mThr ft a h) = 0 := bP_f (fun z => hf z.2.2)
theorem gw_thr {kd ft : Int32} {f : Nat → Int32} : ∀ (d i : Nat) (hm hd : List Int32) (a : Int32), hm.length ≤ 5 → (ft = 3 → hm = hd) → ¬ (anA kd ft f d i hm a).1 = 0 → gwA kd ft f d i hm hd = -3 := by
  intro d
  induction d with
  | zero => intro i hm hd a _ _ h; exact absurd rfl h
  | succ d ih =>
    intro i hm hd a hl he h
    unfold anA at h
    unfold gwA
    by_cases c : bP (mThr ft (actF (f (2 * i))) hm) = 0
    · rw [if_pos c] at h ⊢
      by_cases c3 : ft = 3
      · subst c3
        have := he rfl
        subst this
        have e := mAns_30 (kd := kd) (v := f (2 * i + 1)) (bP_0 c) hl
        rw [if_pos (congrArg Prod.fst e)]
        exact ih (i + 1) _ _ _ (mAns_len hl) (fun _ => congrArg Prod.snd e) h
      · exfalso
        have no : ∀ (d i : Nat) (hm : List Int32) (a : Int32), (anA kd ft f d i hm a).1 = 0 := by
          intro d
          induction d with
          | zero => intro i hm a; rfl
          | succ d ih => intro i hm a; unfold anA; rw [if_pos (thr_no c3)]; exact ih _ _ _
        exact h (no _ _ _ _)
    · rw [if_neg c]
section
variable {lv o : Ob} {n : Nat} {f : Nat → Int32}
theorem two_nI (i : Nat) : (2 : Int32) * nI i = nI (2 * i) := by rw [show (2 : Int32) = nI 2 from rfl, mul_nI]
theorem c_acts {Post : Int32 → Ob → Prop} (h : LvF lv n f) (k : Post (nI (n / 2)) lv) : w_X2_acts lv Post := by
  unfold w_X2_acts
  rw [h.1, show (2 : Int32) = nI 2 from rfl, pk_div (by have := h.2.1; omega) (by omega) (by omega)]
  exact k
theorem c_act {i : Nat} {Post : Int32 → Ob → Prop} (h : LvF lv n f) (hi : 2 * i < n) (k : Post (actF (f (2 * i))) lv) : w_X2_act (nI i) lv Post := by
  unfold w_X2_act
  rw [two_nI]
  exact c_get h hi (floor4 k)
theorem c_num {i : Nat} {Post : Int32 → Ob → Prop} (h : LvF lv n f) (hi : 2 * i + 1 < n) (k : Post (f (2 * i + 1)) lv) : w_X2_number (nI i) lv Post := by
  unfold w_X2_number
  rw [two_nI, nI_1]
  exact c_get h hi k
theorem c_gwL {kd ft : Int32} {j : Ob} {Post : Int32 → Ob → Ob → Ob → Ob → Prop} (h : LvF lv n f) : ∀ (d i : Nat) (hm hd : List Int32) (mc md : Ob), i + d = n / 2 → McR mc kd ft hm → McR md kd 0 hd → mc.2.1 4 = 0 → md.2.1 4 = 0 → (∀ mc2 md2, Post (gwA kd ft f d i hm hd) j mc2 md2 lv) → w_X1_goesWithModel_L21 Post (d + 1) (nI i) j mc md lv := by
  have hn := h.2.1
  intro d
  induction d with
  | zero =>
    intro i hm hd mc md e R1 R2 t1 t2 k
    refine c_acts h ⟨fun _ => k mc md, fun z => absurd ?_ z⟩
    rw [show i = n / 2 by omega]; exact Int32.le_refl _
  | succ d ih =>
    intro i hm hd mc md e R1 R2 t1 t2 k
    have ha := act4 (f (2 * i))
    unfold gwA at k
    refine c_acts h ⟨fun z => ?_, fun _ => c_act h (by omega) (c_num h (by omega) (c_ans R1 ha t1 (fun mc2 R3 t3 => ⟨fun c => ?_, fun c => ?_⟩)))⟩
    · rw [nI_leI (by omega) (by omega)] at z; omega
    · rw [t3] at c
      rw [if_pos c] at k
      refine c_act h (by omega) (c_num h (by omega) (c_ans R2 ha t2 (fun md2 R4 t4 => ⟨fun c2 => ?_, fun c2 => ?_⟩)))
      · rw [if_pos c2] at k
        rw [nI_1]
        exact ih (i + 1) _ _ mc2 md2 (by omega) R3 R4 (t3.trans c) (t4.trans (thr_no (by decide))) k
      · rw [if_neg c2] at k; exact k mc2 md2
    · rw [t3] at c
      rw [if_neg c] at k; exact k mc2 md
theorem c_start {kd ft : Int32} {mc : Ob} {Post : Ob → Prop} (k : ∀ mc2, McR mc2 kd ft [] → mc2.2.1 4 = 0 → Post mc2) : w_X3_start kd ft mc Post := by
  refine k _ ⟨?_, by simp, ?_, ?_, Seg.nil⟩ ?_
  · show upd (upd (upd (upd mc.2.1 2 kd) 3 ft) 1 0) 4 0 1 = _
    rw [pk_un (by omega), pk_us]; rfl
  · show upd (upd (upd (upd mc.2.1 2 kd) 3 ft) 1 0) 4 0 2 = _
    rw [pk_un (by omega), pk_un (by omega), pk_un (by omega), pk_us]
  · show upd (upd (upd (upd mc.2.1 2 kd) 3 ft) 1 0) 4 0 3 = _
    rw [pk_un (by omega), pk_un (by omega), pk_us]
  · show upd (upd (upd (upd mc.2.1 2 kd) 3 ft) 1 0) 4 0 4 = _
    rw [pk_us]
theorem c_gw {kd ft : Int32} {j mc md : Ob} {Post : Int32 → Ob → Ob → Ob → Ob → Prop} (h : LvF lv n f) (k : ∀ mc2 md2, Post (gwA kd ft f (n / 2) 0 [] []) j mc2 md2 lv) : w_X1_goesWithModel kd ft j mc md lv Post :=
  c_start (fun mc2 R1 t1 => c_start (fun md2 R2 t2 => ⟨n / 2 + 1, c_gwL h (n / 2) 0 [] [] mc2 md2 (by omega) R1 R2 t1 t2 k⟩))
theorem c_anL {kd ft x : Int32} {j : Ob} {q : Nat} {K : Int32 → Ob → Ob → Ob → Prop} {Post : Int64 → Ob → Ob → Ob → Prop} (h : LvF lv n f) (hx : x = nI q) (hq : q < n / 2) : ∀ (d i : Nat) (hm : List Int32) (a : Int32) (mc : Ob), i + d = q + 1 → McR mc kd ft hm → mc.2.1 4 = 0 → (∀ mc2 a2, mc2.2.1 4 = (anA kd ft f d i hm a).1 → ((anA kd ft f d i hm a).1 = 0 → a2 = (anA kd ft f d i hm a).2) → K a2 j mc2 lv) → w_X1_answerOf_L15 x K Post (d + 2) a (nI i) j mc lv := by
  have hn := h.2.1
  intro d
  induction d with
  | zero =>
    intro i hm a mc e R1 t1 k
    refine ⟨fun _ => k mc a t1 (fun _ => rfl), fun z => absurd ?_ z⟩
    rw [hx, nI_ltI (by omega) (by omega)]; omega
  | succ d ih =>
    intro i hm a mc e R1 t1 k
    unfold anA at k
    refine ⟨fun z => ?_, fun _ => c_acts h ⟨fun z => ?_, fun _ => ⟨fun z => absurd t1 z, fun _ => c_act h (by omega) (c_num h (by omega) (c_ans R1 (act4 _) t1 (fun mc2 R3 t3 => ?_)))⟩⟩⟩
    · rw [hx, nI_ltI (by omega) (by omega)] at z; omega
    · rw [nI_leI (by omega) (by omega)] at z; omega
    · rw [nI_1]
      by_cases c : bP (mThr ft (actF (f (2 * i))) hm) = 0
      · rw [if_pos c] at k
        exact ih (i + 1) _ _ mc2 (by omega) R3 (t3.trans c) k
      · rw [if_neg c] at k
        have c1 : mc2.2.1 4 = 1 := t3.trans (bP_t (bP_1 c))
        have g : ∀ a2, K a2 j mc2 lv := fun a2 => k mc2 a2 c1 (fun z => absurd z (show ¬ (1 : Int32) = 0 by decide))
        refine ⟨fun _ => g _, fun _ => c_acts h ⟨fun _ => g _, fun _ => ⟨fun _ => g _, fun z => ?_⟩⟩⟩
        rw [c1] at z; exact absurd z (by decide)
end
