/-! what is told at first; the start of both objects -/
def D0 : DS := (fun _ => 0, fun r _ => ([0, 0, 0, 0, 0, 9, 3, 11, 9] : List Nat).getD r 0)
theorem D0_W : DW D0 := by
  refine ⟨by decide, by decide, fun h _ _ => by show 0 ≤ 1; decide, fun i hi => absurd hi (Nat.not_lt_zero i), fun i hi => absurd hi (Nat.not_lt_zero i), by decide, by decide, by decide, by decide⟩
theorem D0_dec : ∀ r, r < 9 → (([0, 0, 0, 0, 0, 9, 3, 11, 9] : List Int32).getD r 0) = nI (([0, 0, 0, 0, 0, 9, 3, 11, 9] : List Nat).getD r 0) := by decide +kernel
theorem begins_y {R : CS} {post : CS → Prop} (h : ∀ R1 : CS, RDr R1 D0 → R1.1 0 10 = 0 → (∀ c i, ¬ (c = 0 ∧ i = 10) → ¬ (c = 2 ∧ 6 ≤ i) → R1.1 c i = R.1 c i) → R1.2 = R.2 → post R1) : p_X7_begins R post := by
  unfold p_X7_begins
  intro S1 e1 S2 e2 S3 e3 S4 e4 S5 e5 S6 e6 S7 e7
  refine h S7 ⟨⟨?_, ?_, ?_, ?_, ?_, ?_⟩, fun i hi => absurd hi (Nat.not_lt_zero i), fun i hi => absurd hi (Nat.not_lt_zero i)⟩ ?_ (fun c i q1 q2 => ?_) ?_
  · rw [e7, sti_ne (by omega), e6, sti_ne (by omega), e5, sti_ne (by omega), e4, sti_ne (by omega), e3, sti_ne (by omega), e2, sti_eq]; rfl
  · rw [e7, sti_ne (by omega), e6, sti_ne (by omega), e5, sti_ne (by omega), e4, sti_ne (by omega), e3, sti_eq]; rfl
  · rw [e7, sti_ne (by omega), e6, sti_ne (by omega), e5, sti_ne (by omega), e4, sti_eq]; rfl
  · rw [e7, sti_ne (by omega), e6, sti_ne (by omega), e5, sti_eq]; rfl
  · rw [e7, sti_ne (by omega), e6, sti_eq]; rfl
  · rw [e7, sti_eq]; rfl
  · rw [e7, sti_ne (by omega), e6, sti_ne (by omega), e5, sti_ne (by omega), e4, sti_ne (by omega), e3, sti_ne (by omega), e2, sti_ne (by omega), e1, sti_eq]
  · rw [e7, sti_ne (by omega), e6, sti_ne (by omega), e5, sti_ne (by omega), e4, sti_ne (by omega), e3, sti_ne (by omega), e2, sti_ne (by omega), e1, sti_ne q1]
  · rw [e7, sti_22, e6, sti_22, e5, sti_22, e4, sti_22, e3, sti_22, e2, sti_22, e1, sti_22]
theorem hini_y (S0 : CS) (h0 : iniC S0) : p_X6_startAnew S0 (fun S => p_X7_begins (zm, 0, 0, 0) (fun R1 => p_X7_settles R1 (fun R => Rel 0 S R))) := by
  obtain ⟨i1, i2, i3, i4, i5, i6⟩ := h0
  have hcl : Dcl S0 0 D0 := by
    refine ⟨fun h hh => ?_, fun r hr i hi => ?_⟩
    · exact i2 h hh
    · have := i3 (6 * r + i) (by omega)
      rw [show (6 * r + i) / 6 = r by omega, D0_dec r hr] at this
      exact this
  refine start_y (t := 0) (D := D0) (by decide) (by rw [i1]) hcl (fun S1 a1 a2 a3 a4 a5 a6 => ?_)
  refine begins_y (fun R1 b1 b2 b3 b4 => ?_)
  refine settles_y (P := 0) b1.1.1 (by decide) (fun R2 c1 c2 c3 c4 c5 c6 c7 c8 => ?_)
  exact Rel.new (R := R1) (t := 0) D0_W (by decide) (by rw [i1]) (by rw [i1]) (i6 20 0 (by decide) (by decide) (by decide) (by decide)) hcl b1 (by rw [i1, b4]) (i6 1 1 (by decide) (by decide) (by decide) (by decide)) a1 a2 a3 a4 a5 a6 c1 c2 c3 c4 c5 c6 c7 c8
theorem first_y {S : CS} {tt : Nat} {post : CS → Prop} (h : ∀ S1 : CS, Dcl S1 tt D0 → (∀ c i, c ≠ tm tt → c ≠ tv tt → S1.1 c i = S.1 c i) → S1.2 = S.2 → post S1) : p_X5_setAsAtFirst S tt post := by
  unfold p_X5_setAsAtFirst
  refine loop_0 (fun n i S1 => q_X5_setAsAtFirst_2 tt post n (nI i) S1) (fun i S1 => (∀ j, j < i → S1.1 (tm tt) j = 0) ∧ (∀ c i, c ≠ tm tt → S1.1 c i = S.1 c i) ∧ S1.2 = S.2) 6 S ⟨fun j hj => absurd hj (Nat.not_lt_zero j), fun _ _ _ => rfl, rfl⟩ (fun n S1 hI => ?_) (fun n i S1 hi hI ih => ?_)
  · rw [q_X5_setAsAtFirst_2]
    obtain ⟨i1, i2, i3⟩ := hI
    refine br_t (show (6 : Int32) ≤ nI 6 by decide) ?_
    refine loop_0 (fun n r S2 => q_X5_setAsAtFirst_23 tt post n (nI r) S2) (fun r S2 => (∀ r', r' < r → ∀ i, i < 6 → S2.1 (tv tt) (6 * r' + i) = nI (D0.2 r' i)) ∧ (∀ c i, c ≠ tv tt → S2.1 c i = S1.1 c i) ∧ S2.2 = S1.2) 9 S1 ⟨fun j hj => absurd hj (Nat.not_lt_zero j), fun _ _ _ => rfl, rfl⟩ (fun n S2 hI => ?_) (fun n r S2 hr hI ih => ?_)
    · rw [q_X5_setAsAtFirst_23]
      obtain ⟨j1, j2, j3⟩ := hI
      refine br_t (show (9 : Int32) ≤ nI 9 by decide) (h S2 ⟨fun h hh => ?_, j1⟩ (fun c i q1 q2 => by rw [j2 c i q2, i2 c i q1]) (by rw [j3, i3]))
      rw [j2 _ _ (by unfold tm tv; omega)]; exact i1 h hh
    · rw [q_X5_setAsAtFirst_23]
      obtain ⟨j1, j2, j3⟩ := hI
      refine br_f (nI_ge (b := 9) hr (by decide)) ?_
      refine loop_0 (fun m i S3 => q_X5_setAsAtFirst_31 tt (fun y1' S9 => q_X5_setAsAtFirst_23 tt post n y1' S9) post m (nI r) (nI i) S3) (fun i S3 => (∀ r', r' < r → ∀ i, i < 6 → S3.1 (tv tt) (6 * r' + i) = nI (D0.2 r' i)) ∧ (∀ j, j < i → S3.1 (tv tt) (6 * r + j) = nI (D0.2 r j)) ∧ (∀ c i, c ≠ tv tt → S3.1 c i = S1.1 c i) ∧ S3.2 = S1.2) 6 S2 ⟨j1, fun j hj => absurd hj (Nat.not_lt_zero j), j2, j3⟩ (fun m S3 hI => ?_) (fun m i S3 hi hI ih2 => ?_)
      · rw [q_X5_setAsAtFirst_31]
        obtain ⟨k1, k2, k3, k4⟩ := hI
        refine br_t (show (6 : Int32) ≤ nI 6 by decide) ?_
        intro x ex
        rw [ex, nI_1]
        refine ih S3 ⟨fun r' hr' i hi => ?_, k3, k4⟩
        by_cases q : r' = r
        · rw [q]; exact k2 i hi
        · exact k1 r' (by omega) i hi
      · obtain ⟨k1, k2, k3, k4⟩ := hI
        have e6 : nI r * 6 + nI i = nI (6 * r + i) := by rw [show (6 : Int32) = nI 6 from rfl, pk_mul, nI_add, Nat.mul_comm]
        rw [q_X5_setAsAtFirst_31, e6, nI_clamp (n := r) (by omega), nI_clamp (n := 6 * r + i) (by omega)]
        refine br_f (nI_ge (b := 6) hi (by decide)) ⟨vp_in_nI hr (by decide), ?_⟩
        intro u eu
        refine ⟨vp_in_nI (by omega) (by decide), ?_⟩
        intro S4 e4 x ex
        rw [ex, nI_1]
        rw [D0_dec r hr] at eu
        refine ih2 S4 ⟨fun r' hr' i' hi' => by rw [e4, sti_ne (by omega)]; exact k1 r' hr' i' hi', fun j hj => ?_, fun c j hc => by rw [e4, sti_ne (fun q => hc q.1)]; exact k3 c j hc, by rw [e4, sti_22]; exact k4⟩
        rw [e4, sti_1]
        by_cases q : j = i
        · rw [if_pos ⟨rfl, by omega⟩, eu]; rfl
        · rw [if_neg (by omega)]; exact k2 j (by omega)
  · rw [q_X5_setAsAtFirst_2, nI_clamp (by omega)]
    refine br_f (nI_ge (b := 6) hi (by decide)) ⟨vp_in_nI hi (by decide), ?_⟩
    intro S4 e4 x ex
    rw [ex, nI_1]
    refine ih S4 ⟨fun j hj => ?_, fun c j hc => by rw [e4, sti_ne (fun q => hc q.1)]; exact hI.2.1 c j hc, by rw [e4, sti_22]; exact hI.2.2⟩
    rw [e4, sti_1]
    by_cases q : j = i
    · rw [if_pos ⟨rfl, q⟩]
    · rw [if_neg (fun w => q w.2)]; exact hI.1 j (by omega)
