def outD (s : Int64) (v : Int32) : Int32 := (us32 ((us32 s) * v.toInt64)).toInt32
theorem num_c {s : Int64} {v : Int32} {Post : Int32 → Prop} (h : Post (outD s v)) : w_X9_numberOf s v Post := h
theorem num_m {v : Int32} {o : Ob} {s : Int64} {Post : Int32 → Ob → Prop} (e : o.1 33 = s) (h : ∀ o2 : Ob, o2.2 = o.2 → Post (outD (nxt s) v) o2) : w_X10_number v o Post := by
  subst e
  exact h (sl o.1 33 (nxt (o.1 33)), o.2.1, o.2.2) rfl
set_option maxHeartbeats 2000000 in
theorem ok_draw : OK_draw Iv := by
  intro ck mk pr xs o v1 v2 v3 hI
  have fin : Iv ck mk pr (ux xs 0 (xs 0)) o := by rw [ux_self]; exact hI
  refine ⟨fun c => ⟨rfl, ⟨fun _ => ⟨rfl, fin⟩, fun z => absurd c z⟩⟩, fun c => ⟨fun d => ⟨rfl, ⟨fun z => absurd z c, fun _ => r_in_n (Or.inl d) ⟨fun z => absurd rfl z, fun _ => ⟨rfl, fin⟩⟩⟩⟩, fun d => ⟨fun e => ?_, fun e => ⟨rfl, ⟨fun z => absurd z c, fun _ => r_in_n (Or.inr (Int32.not_le.mp e)) ⟨fun z => absurd rfl z, fun _ => ⟨rfl, fin⟩⟩⟩⟩⟩⟩⟩
  obtain ⟨n, hn, rfl⟩ := le_1000 d e
  refine ⟨n + 2, draw_c n 0 v1 (by omega) (by rw [Nat.zero_add]) (num_c ?_)⟩
  refine ⟨rfl, ⟨fun z => absurd z c, fun _ => r_in_y d (Int32.not_lt.mpr e) ⟨fun _ => ⟨n + 1, draw_m n 0 _ v1 (sl_33 (f := o.1) (v := v1)) (by omega) (by rw [Nat.zero_add]) (fun o2 h1 h2 => num_m h2 (fun o3 h3 => ⟨?_, Iv_long (o := o) (h3.trans h1) fin⟩))⟩, fun z => absurd z (by decide)⟩⟩⟩
  rw [nx_s]
