/-! SMALL MACHINES: an answer of the class's machine -/
section
variable {mc : Ob} {kd ft v : Int32} {h : List Int32}
theorem mc_i4 {y : Int32} (R : McR mc kd ft h) : McR (mc.1, upd mc.2.1 4 y, mc.2.2) kd ft h := by
  obtain ⟨h1, h2, h3, h4, h5⟩ := R
  refine ⟨?_, h2, ?_, ?_, h5⟩
  · show upd mc.2.1 4 y 1 = _
    rw [pk_un (by omega)]; exact h1
  · show upd mc.2.1 4 y 2 = _
    rw [pk_un (by omega)]; exact h3
  · show upd mc.2.1 4 y 3 = _
    rw [pk_un (by omega)]; exact h4
theorem c_ans {a : Int32} {Post : Int32 → Ob → Prop} (R : McR mc kd ft h) (ha : a = 0 ∨ a = 1 ∨ a = 2 ∨ a = 3) (h4 : mc.2.1 4 = 0) (k : ∀ mc2, McR mc2 kd ft (mAns kd ft a v h).2 → mc2.2.1 4 = bP (mThr ft a h) → Post (mAns kd ft a v h).1 mc2) : w_X3_answer a v mc Post := by
  have R2 := R
  obtain ⟨r1, r2, r3, r4, r5⟩ := R2
  have r1' : mc.2.1 1 = nI h.length := r1
  have tp : ∀ (P : Int32 → Ob → Prop), (∀ e : Int32, ((¬ h.length = 0 → e = nI (topL kd h)) ∧ (h.length = 0 → e < 0 ∨ mc.2.1 1 ≤ e)) → P e mc) → jn (fun J : Int32 → Ob → Prop => ((¬ mc.2.1 2 = 0) → J 0 mc) ∧ ((mc.2.1 2 = 0) → J (mc.2.1 1 - 1) mc)) P := by
    intro P hP
    refine jn_mk ?_
    rw [r3]
    refine ⟨fun c => hP 0 ⟨fun _ => ?_, fun z => Or.inr ?_⟩, fun c => hP _ ⟨fun z => ?_, fun z => Or.inl ?_⟩⟩
    · unfold topL; rw [if_neg c]; rfl
    · rw [r1, z]; exact Int32.le_refl _
    · unfold topL; rw [if_pos c, r1, show h.length = (h.length - 1) + 1 by omega, nI_pred]; rfl
    · rw [r1, z]; decide
  unfold w_X3_answer
  refine tp _ (fun e he => ?_)
  obtain ⟨e1, e0⟩ := he
  rcases ha with rfl | rfl | rfl | rfl
  · refine ⟨fun _ => ⟨fun c => jn_mk ?_, fun c => ?_⟩, fun z => absurd z (by decide), fun z => absurd z (by decide), fun z => absurd rfl z.1⟩
    · have hl : h.length = 5 := by rw [r1, show (5 : Int32) = nI 5 from rfl, nI_leI (by omega) (by omega)] at c; omega
      have key : ∀ z : Int32, (ft = 3 → z = 1) → (¬ ft = 3 → z = 0) → (z = 0 ∨ z = 1) ∧ (((¬ (mc.2.1 3) = 1) → Post 0 ((mc.1, (upd mc.2.1 4 z), mc.2.2))) ∧ (((mc.2.1 3) = 1) → jn (fun J103 : Int32 → Ob → Prop => ((¬ (mc.2.1 2) = 2) → J103 0 ((mc.1, (upd mc.2.1 4 z), mc.2.2))) ∧ (((mc.2.1 2) = 2) → J103 ((mc.2.1 1) - 1) ((mc.1, (upd mc.2.1 4 z), mc.2.2)))) (fun (z_103 : Int32) (o_103 : Ob) => w_X3_take  z_103 o_103 (fun (r7 : Int32) (o_8 : Ob) => w_X3_put  v o_8 (fun (o_10 : Ob) => Post 1 o_10))))) := by
        intro z z1 z0
        have zz : z = bP (mThr ft 0 h) := by
          by_cases c3 : ft = 3
          · rw [z1 c3, bP_t ⟨rfl, hl, c3⟩]
          · rw [z0 c3, bP_f (fun q => c3 q.2.2)]
        refine ⟨?_, ?_⟩
        · by_cases c3 : ft = 3
          · exact Or.inr (z1 c3)
          · exact Or.inl (z0 c3)
        rw [r4]
        refine ⟨fun c1 => ?_, fun c1 => jn_mk ?_⟩
        · have := k (mc.1, upd mc.2.1 4 z, mc.2.2)
          unfold mAns at this
          rw [if_pos rfl, if_neg (by omega), if_neg c1] at this
          exact this (mc_i4 R) (by show upd mc.2.1 4 z 4 = _; rw [pk_us]; exact zz)
        · rw [r3, r1, show h.length = 4 + 1 by omega, nI_pred]
          have hlt : (if kd = 2 then 4 else 0) < h.length := by split <;> omega
          have go : w_X3_take (nI (if kd = 2 then 4 else 0)) (mc.1, upd mc.2.1 4 z, mc.2.2) (fun (r7 : Int32) (o_8 : Ob) => w_X3_put  v o_8 (fun (o_10 : Ob) => Post 1 o_10)) := by
            refine c_take (mc_i4 R) hlt (fun mc2 R2 q2 => c_put R2 (by rw [eraI_len hlt]; omega) (fun mc3 R3 q3 => ?_))
            have := k mc3
            unfold mAns at this
            rw [if_pos rfl, if_neg (by omega), if_pos c1] at this
            refine this R3 (q3.trans (q2.trans ?_))
            show upd mc.2.1 4 z 4 = _; rw [pk_us]; exact zz
          refine ⟨fun c2 => ?_, fun c2 => ?_⟩
          · rw [if_neg c2] at go; exact go
          · rw [if_pos c2] at go; exact go
      rw [r4]
      exact ⟨fun c3 => key 0 (fun z => absurd z c3) (fun _ => rfl), fun c3 => key 1 (fun _ => rfl) (fun z => absurd c3 z)⟩
    · have hl : h.length < 5 := by rw [r1, show (5 : Int32) = nI 5 from rfl, nI_leI (by omega) (by omega)] at c; omega
      refine c_put R hl (fun mc2 R2 q2 => ?_)
      have := k mc2
      unfold mAns at this
      rw [if_pos rfl, if_pos hl] at this
      exact this R2 (by rw [q2, h4, bP_f (fun q => by have := q.2.1; omega)])
  · have nt : ¬ mThr ft 1 h := fun q => absurd q.1 (by decide)
    refine ⟨fun z => absurd z (by decide), fun _ => ?_, fun z => absurd z (by decide), fun z => absurd rfl z.2.1⟩
    have a1 : ∀ mc2, McR mc2 kd ft (if h.length = 0 then ((if ft = 2 then 0 else -1 : Int32), h) else (h.getD (topL kd h) 0, eraI (topL kd h) h)).2 → mc2.2.1 4 = 0 → Post (if h.length = 0 then ((if ft = 2 then 0 else -1 : Int32), h) else (h.getD (topL kd h) 0, eraI (topL kd h) h)).1 mc2 := by
      intro mc2 R2 q2
      have := k mc2
      unfold mAns at this
      rw [if_neg (by decide), if_neg (by decide), if_neg (by decide)] at this
      exact this R2 (by rw [q2, bP_f nt])
    rw [r1, r4]
    by_cases c0 : h.length = 0
    · rw [if_pos c0] at a1
      refine jn_mk ⟨fun z => absurd (by rw [c0]; rfl) z, fun _ => ⟨fun c2 => ?_, fun c2 => ?_⟩⟩
      · rw [if_neg c2] at a1
        exact c_takeN (e0 c0) (a1 mc R h4)
      · rw [if_pos c2] at a1
        exact a1 mc R h4
    · rw [if_neg c0] at a1
      refine jn_mk ⟨fun _ => ?_, fun z => ?_⟩
      · rw [e1 c0]
        exact c_take R (topL_lt c0) (fun mc2 R2 q2 => a1 mc2 R2 (q2.trans h4))
      · rw [show (0 : Int32) = nI 0 from rfl, nI_eq (by omega) (by omega)] at z; exact absurd z c0
  · have nt : ¬ mThr ft 2 h := fun q => absurd q.1 (by decide)
    refine ⟨fun z => absurd z (by decide), fun z => absurd z (by decide), fun _ => ?_, fun z => absurd rfl z.2.2⟩
    have a1 := k mc
    unfold mAns at a1
    rw [if_neg (by decide), if_neg (by decide), if_pos rfl] at a1
    rw [r3]
    refine ⟨fun c2 => ?_, fun c2 => ?_⟩
    · rw [if_neg c2] at a1
      by_cases c0 : h.length = 0
      · rw [if_pos c0] at a1
        have g := a1 R (by rw [h4, bP_f nt])
        exact ⟨fun _ => g, fun z1 => ⟨fun _ => g, fun z2 => absurd (e0 c0) (fun z => z.elim z1 z2)⟩⟩
      · rw [if_neg c0] at a1
        have g := a1 R (by rw [h4, bP_f nt])
        have tl := topL_lt (kd := kd) c0
        have hv : mc.2.2 0 (topL kd h) = h.getD (topL kd h) 0 := by have := r5.get tl; rwa [Nat.zero_add] at this
        rw [e1 c0, r1]
        refine ⟨fun z => absurd z (nI_pos (by omega)), fun _ => ⟨fun z => ?_, fun _ => ⟨fun z => ?_, fun _ => ⟨vp_in_nI (by omega) (by omega), ?_⟩⟩⟩⟩
        · rw [nI_leI (by omega) (by omega)] at z; omega
        · rw [show (5 : Int32) = nI 5 from rfl, nI_leI (by omega) (by omega)] at z; omega
        · rw [nI_clamp (by omega), hv]; exact g
    · rw [if_pos c2] at a1
      exact ⟨h.length + 1, c_likL R h.length 0 0 (by omega) (a1 R (by rw [h4, bP_f nt]))⟩
  · have nt : ¬ mThr ft 3 h := fun q => absurd q.1 (by decide)
    refine ⟨fun z => absurd z (by decide), fun z => absurd z (by decide), fun z => absurd z (by decide), fun _ => ?_⟩
    have a1 := k mc
    unfold mAns at a1
    rw [if_neg (by decide), if_pos rfl] at a1
    rw [r1]
    exact a1 R (by rw [h4, bP_f nt])
end
