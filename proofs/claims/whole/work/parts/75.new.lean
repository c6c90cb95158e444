theorem sx6 (i : Nat) : (6 : Int32) + nI i = nI (6 + i) := by rw [show (6 : Int32) = nI 6 from rfl, nI_add]
theorem sx7 (i : Nat) : (7 : Int32) + nI i = nI (7 + i) := by rw [show (7 : Int32) = nI 7 from rfl, nI_add]
theorem sx15 (i : Nat) : (15 : Int32) + nI i = nI (15 + i) := by rw [show (15 : Int32) = nI 15 from rfl, nI_add]
theorem settle4_y {R : CS} {post : CS → Prop} (h : ∀ R1 : CS, (∀ j, j < 8 → R1.1 8 (7 + j) = R.1 2 5) → (∀ j, (j < 7 ∨ 15 ≤ j) → R1.1 8 j = R.1 8 j) → (R1.1 0 3 = 0 ∧ R1.1 0 25 = 0 ∧ R1.1 0 21 = 0) → (∀ i, i < 2 → R1.1 11 i = 0) → (∀ c i, c ≠ 0 → c ≠ 8 → c ≠ 11 → R1.1 c i = R.1 c i) → R1.2 = R.2 → post R1) : ∃ n, q_X7_settles_155 post n 0 R := by
  refine loop_0 (fun n i R1 => q_X7_settles_155 post n (nI i) R1) (fun i R1 => (∀ j, j < i → R1.1 8 (7 + j) = R.1 2 5) ∧ (∀ j, (j < 7 ∨ 15 ≤ j) → R1.1 8 j = R.1 8 j) ∧ (∀ c i, c ≠ 8 → R1.1 c i = R.1 c i) ∧ R1.2 = R.2) 8 R ⟨fun j hj => absurd hj (Nat.not_lt_zero j), fun _ _ => rfl, fun _ _ _ => rfl, rfl⟩ (fun n R1 hI => ?_) (fun n i R1 hi hI ih => ?_)
  · rw [q_X7_settles_155]
    obtain ⟨i1, i2, i3, i4⟩ := hI
    refine br_t (show (8 : Int32) ≤ nI 8 by decide) ?_
    intro R2 e2 R3 e3 R4 e4 R5 e5 R6 e6
    have hne : ∀ c i, c ≠ 0 → c ≠ 11 → R6.1 c i = R1.1 c i := fun c i q q2 => by rw [e6, sti_ne (fun z => q2 z.1), e5, sti_ne (fun z => q2 z.1), e4, sti_ne (fun z => q z.1), e3, sti_ne (fun z => q z.1), e2, sti_ne (fun z => q z.1)]
    refine h R6 (fun j hj => ?_) (fun j hj => ?_) ⟨?_, ?_, ?_⟩ (fun i hi => ?_) (fun c i b1 b2 b3 => ?_) ?_
    · rw [hne _ _ (by decide) (by decide)]; exact i1 j hj
    · rw [hne _ _ (by decide) (by decide)]; exact i2 j hj
    · rw [e6, sti_ne (by omega), e5, sti_ne (by omega), e4, sti_ne (by omega), e3, sti_ne (by omega), e2, sti_eq]
    · rw [e6, sti_ne (by omega), e5, sti_ne (by omega), e4, sti_ne (by omega), e3, sti_eq]
    · rw [e6, sti_ne (by omega), e5, sti_ne (by omega), e4, sti_eq]
    · rcases (show i = 0 ∨ i = 1 by omega) with rfl | rfl
      · rw [e6, sti_ne (by omega), e5, sti_eq]; rfl
      · rw [e6, sti_eq]; rfl
    · rw [hne c i b1 b3]; exact i3 c i b2
    · rw [e6, sti_22, e5, sti_22, e4, sti_22, e3, sti_22, e2, sti_22]; exact i4
  · obtain ⟨i1, i2, i3, i4⟩ := hI
    rw [q_X7_settles_155, sx7, nI_clamp (by omega)]
    refine br_f (nI_ge (b := 8) hi (by decide)) ?_
    intro u eu
    refine ⟨vp_in_nI (by omega) (by decide), ?_⟩
    intro R2 e2 z ez
    rw [ez, nI_1]
    refine ih R2 ⟨fun j hj => ?_, fun j hj => ?_, fun c j hc => by rw [e2, sti_ne (fun q => hc q.1)]; exact i3 c j hc, by rw [e2, sti_22]; exact i4⟩
    · rw [e2, sti_1]
      by_cases q : j = i
      · rw [if_pos ⟨rfl, by omega⟩, eu, i3 2 5 (by decide)]
      · rw [if_neg (fun w => q (by omega))]; exact i1 j (by omega)
    · rw [e2, sti_ne (by omega)]; exact i2 j hj
theorem settle3_y {R : CS} {P : Nat} {post : CS → Prop} (hP : R.1 2 0 = nI P) (hP6 : P ≤ 6) (h : ∀ R1 : CS, (∀ j, j < 6 → R1.1 3 j = R.1 3 (6 + j) ∧ R1.1 5 j = R.1 5 (6 + j) ∧ R1.1 6 j = R.1 6 (6 + j) ∧ R1.1 7 j = R.1 7 (6 + j)) → (∀ j, j < P → R1.1 8 (15 + j) = R.1 4 j) → (∀ j, j < 15 → R1.1 8 j = R.1 8 j) → (∀ c i, c ≠ 3 → c ≠ 5 → c ≠ 6 → c ≠ 7 → c ≠ 8 → R1.1 c i = R.1 c i) → R1.2 = R.2 → ∃ n, q_X7_settles_155 post n 0 R1) : ∃ n, q_X7_settles_52 post n 0 R := by
  refine loop_0 (fun n i R1 => q_X7_settles_52 post n (nI i) R1) (fun i R1 => ((∀ j, j < i → R1.1 3 j = R.1 3 (6 + j) ∧ R1.1 5 j = R.1 5 (6 + j) ∧ R1.1 6 j = R.1 6 (6 + j) ∧ R1.1 7 j = R.1 7 (6 + j)) ∧ (∀ j, j < i → j < P → R1.1 8 (15 + j) = R.1 4 j)) ∧ (∀ j, 6 ≤ j → R1.1 3 j = R.1 3 j ∧ R1.1 5 j = R.1 5 j ∧ R1.1 6 j = R.1 6 j ∧ R1.1 7 j = R.1 7 j) ∧ (∀ j, j < 15 → R1.1 8 j = R.1 8 j) ∧ (∀ c i, c ≠ 3 → c ≠ 5 → c ≠ 6 → c ≠ 7 → c ≠ 8 → R1.1 c i = R.1 c i) ∧ R1.2 = R.2) 6 R ⟨⟨fun j hj => absurd hj (Nat.not_lt_zero j), fun j hj => absurd hj (Nat.not_lt_zero j)⟩, fun _ _ => ⟨rfl, rfl, rfl, rfl⟩, fun _ _ => rfl, fun _ _ _ _ _ _ _ => rfl, rfl⟩ (fun n R1 hI => ?_) (fun n i R1 hi hI ih => ?_)
  · rw [q_X7_settles_52]
    exact br_t (show (6 : Int32) ≤ nI 6 by decide) (h R1 hI.1.1 (fun j hj => hI.1.2 j (by omega) hj) hI.2.2.1 hI.2.2.2.1 hI.2.2.2.2)
  · obtain ⟨⟨i1, i1'⟩, i2, i3, i4, i5⟩ := hI
    rw [q_X7_settles_52, sx6, sx15, nI_clamp (by omega), nI_clamp (by omega), nI_clamp (by omega)]
    refine br_f (nI_ge (b := 6) hi (by decide)) ⟨vp_in_nI (by omega) (by decide), ?_⟩
    intro u1 eu1
    refine ⟨vp_in_nI (by omega) (by decide), ?_⟩
    intro R2 e2
    refine ⟨vp_in_nI (by omega) (by decide), ?_⟩
    intro u2 eu2
    refine ⟨vp_in_nI (by omega) (by decide), ?_⟩
    intro R3 e3
    refine ⟨vp_in_nI (by omega) (by decide), ?_⟩
    intro u3 eu3
    refine ⟨vp_in_nI (by omega) (by decide), ?_⟩
    intro R4 e4
    refine ⟨vp_in_nI (by omega) (by decide), ?_⟩
    intro u4 eu4
    refine ⟨vp_in_nI (by omega) (by decide), ?_⟩
    intro R5 e5
    obtain ⟨g3, g5, g6, g7⟩ := i2 (6 + i) (by omega)
    rw [g3] at eu1
    rw [e2, sti_ne (by omega), g5] at eu2
    rw [e3, sti_ne (by omega), e2, sti_ne (by omega), g6] at eu3
    rw [e4, sti_ne (by omega), e3, sti_ne (by omega), e2, sti_ne (by omega), g7] at eu4
    have k3 : ∀ j, R5.1 3 j = if j = i then u1 else R1.1 3 j := fun j => by rw [e5, sti_ne (by omega), e4, sti_ne (by omega), e3, sti_ne (by omega), e2, sti_1]; simp only [true_and]
    have k5 : ∀ j, R5.1 5 j = if j = i then u2 else R1.1 5 j := fun j => by rw [e5, sti_ne (by omega), e4, sti_ne (by omega), e3, sti_1, e2, sti_ne (by omega)]; simp only [true_and]
    have k6 : ∀ j, R5.1 6 j = if j = i then u3 else R1.1 6 j := fun j => by rw [e5, sti_ne (by omega), e4, sti_1, e3, sti_ne (by omega), e2, sti_ne (by omega)]; simp only [true_and]
    have k7 : ∀ j, R5.1 7 j = if j = i then u4 else R1.1 7 j := fun j => by rw [e5, sti_1, e4, sti_ne (by omega), e3, sti_ne (by omega), e2, sti_ne (by omega)]; simp only [true_and]
    have ko : ∀ c j, c ≠ 3 → c ≠ 5 → c ≠ 6 → c ≠ 7 → R5.1 c j = R1.1 c j := fun c j q3 q5 q6 q7 => by rw [e5, sti_ne (fun z => q7 z.1), e4, sti_ne (fun z => q6 z.1), e3, sti_ne (fun z => q5 z.1), e2, sti_ne (fun z => q3 z.1)]
    have h20 : R5.1 2 0 = nI P := by rw [ko _ _ (by decide) (by decide) (by decide) (by decide), i4 2 0 (by decide) (by decide) (by decide) (by decide) (by decide)]; exact hP
    have h22 : R5.2 = R1.2 := by rw [e5, sti_22, e4, sti_22, e3, sti_22, e2, sti_22]
    rw [h20]
    have go : ∀ (w : Int32) (R6 : CS), R6 = sti R5 8 (15 + i) w → (i < P → w = R.1 4 i) → ∀ x : Int32, x = nI i + 1 → q_X7_settles_52 post n x R6 := by
      intro w R6 e6 hw x ex
      rw [ex, nI_1]
      have k8 : ∀ c j, c ≠ 8 → R6.1 c j = R5.1 c j := fun c j q => by rw [e6, sti_ne (fun z => q z.1)]
      refine ih R6 ⟨⟨fun j hj => ?_, fun j hj hjP => ?_⟩, fun j hj => ?_, fun j hj => ?_, fun c j q3 q5 q6 q7 q8 => ?_, ?_⟩
      · rw [k8 3 j (by decide), k8 5 j (by decide), k8 6 j (by decide), k8 7 j (by decide), k3, k5, k6, k7]
        by_cases q : j = i
        · rw [if_pos q, if_pos q, if_pos q, if_pos q, q]
          exact ⟨eu1, eu2, eu3, eu4⟩
        · rw [if_neg q, if_neg q, if_neg q, if_neg q]
          exact i1 j (by omega)
      · rw [e6, sti_1]
        by_cases q : j = i
        · rw [if_pos ⟨rfl, by omega⟩, q]
          exact hw (by omega)
        · rw [if_neg (by omega), ko 8 _ (by decide) (by decide) (by decide) (by decide)]
          exact i1' j (by omega) hjP
      · rw [k8 3 j (by decide), k8 5 j (by decide), k8 6 j (by decide), k8 7 j (by decide), k3, k5, k6, k7, if_neg (by omega), if_neg (by omega), if_neg (by omega), if_neg (by omega)]
        exact i2 j hj
      · rw [e6, sti_ne (by omega), ko 8 j (by decide) (by decide) (by decide) (by decide)]
        exact i3 j hj
      · rw [k8 c j q8, ko c j q3 q5 q6 q7]
        exact i4 c j q3 q5 q6 q7 q8
      · rw [e6, sti_22, h22]; exact i5
    refine ⟨fun q => ⟨vp_in_nI (by omega) (by decide), ?_⟩, fun q => ⟨vp_in_nI (by omega) (by decide), ?_⟩⟩
    · intro R6 e6 x ex
      exact go _ R6 e6 (fun hlt => absurd ((nI_leI (by omega) (by omega)).mp q) (by omega)) x ex
    · intro w ew
      refine ⟨vp_in_nI (by omega) (by decide), ?_⟩
      intro R6 e6 x ex
      refine go w R6 e6 (fun _ => ?_) x ex
      rw [ew, ko 4 i (by decide) (by decide) (by decide) (by decide), i4 4 i (by decide) (by decide) (by decide) (by decide) (by decide)]
theorem settles_y {R : CS} {P : Nat} {post : CS → Prop} (hP : R.1 2 6 = nI P) (hP6 : P ≤ 6) (h : ∀ R1 : CS, (∀ i, i < 6 → R1.1 2 i = R.1 2 (6 + i)) → (∀ j, j < 6 → R1.1 3 j = R.1 3 (6 + j) ∧ R1.1 5 j = R.1 5 (6 + j) ∧ R1.1 6 j = R.1 6 (6 + j) ∧ R1.1 7 j = R.1 7 (6 + j)) → (∀ j, j < 7 → R1.1 8 j = 0) → (∀ j, j < 8 → R1.1 8 (7 + j) = R.1 2 11) → (∀ j, j < P → R1.1 8 (15 + j) = R.1 4 j) → (R1.1 0 3 = 0 ∧ R1.1 0 25 = 0 ∧ R1.1 0 21 = 0) → (∀ i, i < 2 → R1.1 11 i = 0) → R1.2 = R.2 → post R1) : p_X7_settles R post := by
  unfold p_X7_settles
  refine loop_0 (fun n i R1 => q_X7_settles_2 post n (nI i) R1) (fun i R1 => (∀ j, j < i → R1.1 2 j = R.1 2 (6 + j)) ∧ (∀ j, 6 ≤ j → R1.1 2 j = R.1 2 j) ∧ (∀ c i, c ≠ 2 → R1.1 c i = R.1 c i) ∧ R1.2 = R.2) 6 R ⟨fun j hj => absurd hj (Nat.not_lt_zero j), fun _ _ => rfl, fun _ _ _ => rfl, rfl⟩ (fun n R1 hI => ?_) (fun n i R1 hi hI ih => ?_)
  · rw [q_X7_settles_2]
    obtain ⟨i1, i2, i3, i4⟩ := hI
    refine br_t (show (6 : Int32) ≤ nI 6 by decide) ?_
    refine loop_0 (fun n i R2 => q_X7_settles_31 post n (nI i) R2) (fun i R2 => (∀ j, j < i → R2.1 8 j = 0) ∧ (∀ c i, c ≠ 8 → R2.1 c i = R1.1 c i) ∧ R2.2 = R1.2) 21 R1 ⟨fun j hj => absurd hj (Nat.not_lt_zero j), fun _ _ _ => rfl, rfl⟩ (fun n R2 hI => ?_) (fun n i R2 hi hI ih => ?_)
    · rw [q_X7_settles_31]
      obtain ⟨j1, j2, j3⟩ := hI
      refine br_t (show (21 : Int32) ≤ nI 21 by decide) ?_
      refine settle3_y (P := P) (by rw [j2 2 0 (by decide), i1 0 (by decide)]; exact hP) hP6 (fun R3 a1 a2 a3 a4 a5 => settle4_y (fun R4 b1 b2 b3 b4 b5 b6 => ?_))
      have z2 : ∀ c i, c ≠ 2 → c ≠ 8 → R2.1 c i = R.1 c i := fun c i q q2 => by rw [j2 c i q2, i3 c i q]
      refine h R4 (fun i hi => ?_) (fun j hj => ?_) (fun j hj => ?_) (fun j hj => ?_) (fun j hj => ?_) b3 b4 ?_
      · rw [b5 2 i (by decide) (by decide) (by decide), a4 2 i (by decide) (by decide) (by decide) (by decide) (by decide), j2 2 i (by decide)]; exact i1 i hi
      · rw [b5 3 j (by decide) (by decide) (by decide), b5 5 j (by decide) (by decide) (by decide), b5 6 j (by decide) (by decide) (by decide), b5 7 j (by decide) (by decide) (by decide), ← z2 3 _ (by decide) (by decide), ← z2 5 _ (by decide) (by decide), ← z2 6 _ (by decide) (by decide), ← z2 7 _ (by decide) (by decide)]
        exact a1 j hj
      · rw [b2 j (Or.inl hj), a3 j (by omega)]; exact j1 j (by omega)
      · rw [b1 j hj, a4 2 5 (by decide) (by decide) (by decide) (by decide) (by decide), j2 2 5 (by decide)]; exact i1 5 (by decide)
      · rw [b2 _ (Or.inr (by omega)), a2 j hj]; exact z2 4 j (by decide) (by decide)
      · rw [b6, a5, j3, i4]
    · rw [q_X7_settles_31, nI_clamp (by omega)]
      refine br_f (nI_ge (b := 21) hi (by decide)) ⟨vp_in_nI hi (by decide), ?_⟩
      intro R3 e3 x ex
      rw [ex, nI_1]
      refine ih R3 ⟨fun j hj => ?_, fun c j hc => by rw [e3, sti_ne (fun q => hc q.1)]; exact hI.2.1 c j hc, by rw [e3, sti_22]; exact hI.2.2⟩
      rw [e3, sti_1]
      by_cases q : j = i
      · rw [if_pos ⟨rfl, q⟩]
      · rw [if_neg (fun w => q w.2)]; exact hI.1 j (by omega)
  · obtain ⟨i1, i2, i3, i4⟩ := hI
    rw [q_X7_settles_2, sx6, nI_clamp (by omega), nI_clamp (by omega)]
    refine br_f (nI_ge (b := 6) hi (by decide)) ⟨vp_in_nI (by omega) (by decide), ?_⟩
    intro u eu
    refine ⟨vp_in_nI (by omega) (by decide), ?_⟩
    intro R3 e3 x ex
    rw [ex, nI_1]
    refine ih R3 ⟨fun j hj => ?_, fun j hj => ?_, fun c j hc => by rw [e3, sti_ne (fun q => hc q.1)]; exact i3 c j hc, by rw [e3, sti_22]; exact i4⟩
    · rw [e3, sti_1]
      by_cases q : j = i
      · rw [if_pos ⟨rfl, q⟩, eu, q]; exact i2 _ (by omega)
      · rw [if_neg (fun w => q w.2)]; exact i1 j (by omega)
    · rw [e3, sti_ne (by omega)]; exact i2 j hj
/-- behind a new start on both sides -/
theorem Rel.new {k t : Nat} {D : DS} {S S1 R R1 : CS} (hD : DW D) (ht1 : t < 2) (ht2 : S.2.1 = t) (ht3 : S.2.2.1 = 1 - t) (hS20 : S.1 20 0 = 0) (hcl : Dcl S t D) (hrd : RDr R D) (htr : S.2.2.2 = R.2.2.2) (hty : S.1 1 1 = 0)
    (a1 : ∀ j, j < 21 → mv S1.1 0 j = nI (dN8 D j)) (a2 : S1.1 0 5 = 0) (a3 : S1.1 0 6 = 0) (a4 : S1.1 0 12 = 0) (a5 : ∀ i, i < 2 → S1.1 13 i = 0) (a6 : StF S S1)
    (b1 : ∀ i, i < 6 → R1.1 2 i = R.1 2 (6 + i)) (b2 : ∀ j, j < 6 → R1.1 3 j = R.1 3 (6 + j) ∧ R1.1 5 j = R.1 5 (6 + j) ∧ R1.1 6 j = R.1 6 (6 + j) ∧ R1.1 7 j = R.1 7 (6 + j)) (b3 : ∀ j, j < 7 → R1.1 8 j = 0) (b4 : ∀ j, j < 8 → R1.1 8 (7 + j) = R.1 2 11) (b5 : ∀ j, j < D.1 0 → R1.1 8 (15 + j) = R.1 4 j) (b6 : R1.1 0 3 = 0 ∧ R1.1 0 25 = 0 ∧ R1.1 0 21 = 0) (b7 : ∀ i, i < 2 → R1.1 11 i = 0) (b8 : R1.2 = R.2) : Rel k S1 R1 := by
  obtain ⟨⟨r1, r2, r3, r4, r5, r6⟩, r7, r8⟩ := hrd
  have hP6 := hD.1
  have hO6 := hD.2.1
  have htm : ∀ i, S1.1 (tm t) i = S.1 (tm t) i := fun i => a6.1 _ _ (by unfold tm; omega) (by unfold tm; omega) (by unfold tm mo; omega) (by unfold tm mg; omega) (by unfold tm bo; omega) (by unfold tm bl; omega)
  have htv : ∀ i, S1.1 (tv t) i = S.1 (tv t) i := fun i => a6.1 _ _ (by unfold tv; omega) (by unfold tv; omega) (by unfold tv mo; omega) (by unfold tv mg; omega) (by unfold tv bo; omega) (by unfold tv bl; omega)
  refine ⟨dNew D, t, 0, dNew_W hD k, ⟨ht1, by rw [a6.2]; exact ht2, by rw [a6.2]; exact ht3, by rw [a6.1 20 0 (by decide) (by decide) (by decide) (by decide) (by decide) (by decide)]; exact hS20⟩, ⟨⟨?_, fun i hi => absurd hi (Nat.not_lt_zero i)⟩, ⟨?_, ?_, ?_, ?_, ?_, ?_, fun i hi => ?_, fun i hi => ⟨?_, ?_, ?_⟩⟩, fun j hj => a1 j (by have : dNew D 2 0 = D.1 0 := rfl; omega), ⟨by decide, a2, a3, fun j hj => absurd hj (Nat.not_lt_zero j)⟩, fun i hi => ⟨a5 i hi, fun q => absurd q (show ¬ 0 = 1 by decide)⟩, ⟨a4, fun i hi => absurd hi (Nat.not_lt_zero i)⟩⟩, ⟨⟨b6.1, fun i hi => absurd hi (Nat.not_lt_zero i)⟩, ⟨fun i hi => ?_, fun i hi => ?_, fun i hi => ?_⟩, fun j hj => ?_, ⟨b6.2.2, fun j hj => absurd hj (Nat.not_lt_zero j)⟩, fun i hi => ⟨b7 i hi, fun q => absurd q (show ¬ 0 = 1 by decide)⟩, ⟨b6.2.1, fun i hi => absurd hi (Nat.not_lt_zero i)⟩⟩, by rw [a6.2, b8]; exact htr⟩
  · rw [a6.1 1 1 (by decide) (by decide) (by decide) (by decide) (by decide) (by decide)]; exact hty
  · rw [htm]; exact hcl.1 0 (by decide)
  · rw [htm]; exact hcl.1 1 (by decide)
  · rw [htv]; exact hcl.2 5 (by decide) 0 (by decide)
  · rw [htv]; exact hcl.2 6 (by decide) 0 (by decide)
  · rw [htv]; exact hcl.2 7 (by decide) 0 (by decide)
  · rw [htv]; exact hcl.2 8 (by decide) 0 (by decide)
  · have hi' : i < D.1 0 := hi
    have := hcl.2 0 (by decide) i (by omega)
    rw [Nat.mul_zero, Nat.zero_add] at this
    rw [htv]; exact this
  · have hi' : i < D.1 1 := hi
    rw [htv]; exact hcl.2 2 (by decide) i (by omega)
  · have hi' : i < D.1 1 := hi
    rw [htv]; exact hcl.2 3 (by decide) i (by omega)
  · have hi' : i < D.1 1 := hi
    rw [htv]; exact hcl.2 4 (by decide) i (by omega)
  · rw [b1 i hi]
    rcases (show i = 0 ∨ i = 1 ∨ i = 2 ∨ i = 3 ∨ i = 4 ∨ i = 5 by omega) with rfl | rfl | rfl | rfl | rfl | rfl
    · exact r1
    · exact r2
    · exact r3
    · exact r4
    · exact r5
    · exact r6
  · have hi' : i < D.1 0 := hi
    rw [(b2 i (by omega)).1]; exact (r7 i hi').1
  · have hi' : i < D.1 1 := hi
    obtain ⟨-, c5, c6, c7⟩ := b2 i (by omega)
    rw [c5, c6, c7]; exact r8 i hi'
  · have hj' : j < 15 + D.1 0 := hj
    rw [dNew_8]
    unfold dN8
    by_cases j7 : j < 7
    · rw [if_pos j7]; exact b3 j j7
    · rw [if_neg j7]
      by_cases j15 : j < 15
      · rw [if_pos j15]
        obtain ⟨i, rfl⟩ : ∃ i, j = 7 + i := ⟨j - 7, by omega⟩
        rw [b4 i (by omega)]; exact r6
      · rw [if_neg j15]
        obtain ⟨i, rfl⟩ : ∃ i, j = 15 + i := ⟨j - 15, by omega⟩
        rw [b5 i (by omega), Nat.add_sub_cancel_left]; exact (r7 i (by omega)).2
