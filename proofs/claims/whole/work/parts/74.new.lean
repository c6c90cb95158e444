/-! a yard anew -/
abbrev DS : Type := (Nat → Nat) × (Nat → Nat → Nat)
/-- bounds of what a text may tell -/
def DW (D : DS) : Prop := D.1 0 ≤ 6 ∧ D.1 1 ≤ 6 ∧ (∀ h, 2 ≤ h → h < 6 → D.1 h ≤ 1) ∧ (∀ i, i < D.1 0 → (1 ≤ D.2 0 i ∧ D.2 0 i ≤ 9) ∧ D.2 1 i ≤ 30) ∧ (∀ i, i < D.1 1 → (1 ≤ D.2 2 i ∧ D.2 2 i ≤ 60) ∧ (1 ≤ D.2 3 i ∧ D.2 3 i ≤ 60) ∧ D.2 4 i ≤ 99) ∧ (3 ≤ D.2 5 0 ∧ D.2 5 0 ≤ 15) ∧ (1 ≤ D.2 6 0 ∧ D.2 6 0 ≤ 20) ∧ (1 ≤ D.2 7 0 ∧ D.2 7 0 ≤ 20) ∧ (1 ≤ D.2 8 0 ∧ D.2 8 0 ≤ 15)
def dNew (D : DS) : Dat := fun a b => if a = 2 then (if b < 2 then D.1 b else D.2 (3 + b) 0) else if a = 3 then D.2 0 b else if a = 5 then D.2 2 b else if a = 6 then D.2 3 b else if a = 7 then D.2 4 b else if a = 8 then (if b < 7 then 0 else if b < 15 then D.2 8 0 else D.2 1 (b - 15)) else 0
def dN8 (D : DS) (b : Nat) : Nat := if b < 7 then 0 else if b < 15 then D.2 8 0 else D.2 1 (b - 15)
theorem dNew_8 (D : DS) (b : Nat) : dNew D 8 b = dN8 D b := rfl
theorem dNew_W {D : DS} (h : DW D) (k : Nat) : WF k (dNew D) := by
  obtain ⟨h1, h2, h3, h4, h5, h6, h7, h8, h9⟩ := h
  refine ⟨⟨Nat.zero_le _, fun i hi => absurd hi (Nat.not_lt_zero i)⟩, ⟨h1, h2, h6, h7, h8, h9, fun i hi => (h4 i hi).1, fun i hi => h5 i hi⟩, ⟨Nat.zero_le _, Nat.zero_le _, Nat.zero_le _, Nat.zero_le _, Nat.zero_le _, show 0 < 64 by decide, show 0 < 8 by decide, fun i hi => ?_, fun i hi => ?_⟩, ⟨Nat.zero_le _, fun i hi => absurd hi (Nat.not_lt_zero i)⟩, fun i hi => ⟨Nat.zero_le _, fun q => absurd q (show ¬ 0 = 1 by decide)⟩, ⟨Nat.zero_le _, fun i hi => absurd hi (Nat.not_lt_zero i)⟩⟩
  · rw [dNew_8]
    unfold dN8
    rw [if_neg (by omega), if_pos (by omega)]
    exact h9.2
  · rw [dNew_8]
    unfold dN8
    rw [if_neg (by omega), if_neg (by omega), Nat.add_sub_cancel_left]
    have := (h4 i hi).2
    omega
/-- the class's cells of a told thing -/
def Dcl (S : CS) (t : Nat) (D : DS) : Prop := (∀ h, h < 6 → S.1 (tm t) h = nI (D.1 h)) ∧ ∀ r, r < 9 → ∀ i, i < 6 → S.1 (tv t) (6 * r + i) = nI (D.2 r i)
/-- the reference's -/
def RDr (R : CS) (D : DS) : Prop := (R.1 2 6 = nI (D.1 0) ∧ R.1 2 7 = nI (D.1 1) ∧ R.1 2 8 = nI (D.2 5 0) ∧ R.1 2 9 = nI (D.2 6 0) ∧ R.1 2 10 = nI (D.2 7 0) ∧ R.1 2 11 = nI (D.2 8 0)) ∧ (∀ i, i < D.1 0 → R.1 3 (6 + i) = nI (D.2 0 i) ∧ R.1 4 i = nI (D.2 1 i)) ∧ ∀ i, i < D.1 1 → R.1 5 (6 + i) = nI (D.2 2 i) ∧ R.1 6 (6 + i) = nI (D.2 3 i) ∧ R.1 7 (6 + i) = nI (D.2 4 i)
theorem renew_y {S : CS} {b : Nat} {x : Int32} {post : CS → Prop} (h : ∀ S1 : CS, (∀ i, i < 8 → S1.1 (bl b) i = x) → S1.1 (bo b) 1 = 0 → (∀ c i, c ≠ bl b → c ≠ bo b → S1.1 c i = S.1 c i) → S1.2 = S.2 → post S1) : p_X0_renew S b x post := by
  unfold p_X0_renew
  refine loop_0 (fun n i S1 => q_X0_renew_2 b x post n (nI i) S1) (fun i S1 => (∀ j, j < i → S1.1 (bl b) j = x) ∧ (∀ c i, c ≠ bl b → S1.1 c i = S.1 c i) ∧ S1.2 = S.2) 8 S ⟨fun j hj => absurd hj (Nat.not_lt_zero j), fun _ _ _ => rfl, rfl⟩ (fun n S1 hI => ?_) (fun n i S1 hi hI ih => ?_)
  · rw [q_X0_renew_2]
    refine br_t (show (8 : Int32) ≤ nI 8 by decide) ?_
    intro S2 e2
    refine h S2 (fun i hi => ?_) (by rw [e2, sti_eq]) (fun c i a1 a2 => ?_) (by rw [e2, sti_22]; exact hI.2.2)
    · rw [e2, sti_ne (by unfold bl bo; omega)]; exact hI.1 i hi
    · rw [e2, sti_ne (fun q => a2 q.1)]; exact hI.2.1 c i a1
  · rw [q_X0_renew_2, nI_clamp (by omega)]
    refine br_f (nI_ge (b := 8) hi (by decide)) ⟨vp_in_nI hi (by decide), ?_⟩
    intro S2 e2 z ez
    rw [ez, nI_1]
    refine ih S2 ⟨fun j hj => ?_, fun c j hc => by rw [e2, sti_ne (fun q => hc q.1)]; exact hI.2.1 c j hc, by rw [e2, sti_22]; exact hI.2.2⟩
    rw [e2, sti_1]
    by_cases q : j = i
    · rw [if_pos ⟨rfl, q⟩]
    · rw [if_neg (fun w => q w.2)]; exact hI.1 j (by omega)
/-- what a new start leaves alone -/
def StF (S S1 : CS) : Prop := (∀ c i, c ≠ 0 → c ≠ 13 → c ≠ mo 0 → c ≠ mg 0 → c ≠ bo 1 → c ≠ bl 1 → S1.1 c i = S.1 c i) ∧ S1.2 = S.2
theorem begin_y {S : CS} {t : Nat} {D : DS} {post : CS → Prop} (ht1 : t < 2) (hD : Dcl S t D) (h : ∀ S1 : CS, (∀ j, j < 21 → mv S1.1 0 j = nI (dN8 D j)) → (∀ c i, c ≠ mo 0 → c ≠ mg 0 → c ≠ bo 1 → c ≠ bl 1 → S1.1 c i = S.1 c i) → S1.2 = S.2 → post S1) : p_X1_begin S 0 t post := by
  unfold p_X1_begin
  have htv : ∀ S1 : CS, (∀ c i, c ≠ mg 0 → S1.1 c i = S.1 c i) → ∀ r, r < 9 → ∀ i, i < 6 → S1.1 (tv t) (6 * r + i) = nI (D.2 r i) := fun S1 q r hr i hi => by rw [q _ _ (by unfold tv mg; omega)]; exact hD.2 r hr i hi
  refine loop_0 (fun n i S1 => q_X1_begin_2 0 t post n (nI i) S1) (fun i S1 => (∀ j, j < i → S1.1 (mg 0) j = nI (D.2 1 j)) ∧ (∀ c i, c ≠ mg 0 → S1.1 c i = S.1 c i) ∧ S1.2 = S.2) 6 S ⟨fun j hj => absurd hj (Nat.not_lt_zero j), fun _ _ _ => rfl, rfl⟩ (fun n S1 hI => ?_) (fun n i S1 hi hI ih => ?_)
  · rw [q_X1_begin_2]
    refine br_t (show (6 : Int32) ≤ nI 6 by decide) ?_
    unfold p_X5_lengthAtFirst
    refine value_y (row := 8) (i := 0) (by decide) (by decide) ?_
    rw [htv S1 hI.2.1 8 (by decide) 0 (by decide)]
    refine renew_y (fun S2 a1 a2 a3 a4 => ?_)
    intro S3 e3 S4 e4 S5 e5 S6 e6 S7 e7 S8 e8
    have hne : ∀ c i, c ≠ mo 0 → S8.1 c i = S2.1 c i := fun c i q => by rw [e8, sti_ne (fun z => q z.1), e7, sti_ne (fun z => q z.1), e6, sti_ne (fun z => q z.1), e5, sti_ne (fun z => q z.1), e4, sti_ne (fun z => q z.1), e3, sti_ne (fun z => q z.1)]
    refine h S8 (fun j hj => ?_) (fun c i b1 b2 b3 b4 => ?_) ?_
    · unfold dN8
      by_cases j7 : j < 7
      · rw [if_pos j7]
        rcases (show j = 0 ∨ j = 1 ∨ j = 2 ∨ j = 3 ∨ j = 4 ∨ j = 5 ∨ j = 6 by omega) with rfl | rfl | rfl | rfl | rfl | rfl | rfl
        · rw [mv_0, e8, sti_ne (by omega), e7, sti_ne (by omega), e6, sti_ne (by omega), e5, sti_eq]; rfl
        · rw [mv_1, e8, sti_eq]; rfl
        · rw [mv_2, e8, sti_ne (by omega), e7, sti_ne (by omega), e6, sti_ne (by omega), e5, sti_ne (by omega), e4, sti_ne (by omega), e3, sti_eq]; rfl
        · rw [mv_3, e8, sti_ne (by omega), e7, sti_ne (by omega), e6, sti_ne (by omega), e5, sti_ne (by omega), e4, sti_eq]; rfl
        · rw [mv_4, e8, sti_ne (by omega), e7, sti_ne (by omega), e6, sti_eq]; rfl
        · rw [mv_5, e8, sti_ne (by omega), e7, sti_eq]; rfl
        · rw [mv_6, hne _ _ (by decide)]; exact a2
      · rw [if_neg j7]
        by_cases j15 : j < 15
        · rw [if_pos j15]
          obtain ⟨i, rfl⟩ : ∃ i, j = 7 + i := ⟨j - 7, by omega⟩
          rw [mv_l _ _ (by omega), hne _ _ (by decide)]
          exact a1 i (by omega)
        · rw [if_neg j15]
          obtain ⟨i, rfl⟩ : ∃ i, j = 15 + i := ⟨j - 15, by omega⟩
          rw [mv_a, hne _ _ (by decide), a3 _ _ (by decide) (by decide), Nat.add_sub_cancel_left]
          exact hI.1 i (by omega)
    · rw [hne c i b1, a3 c i b4 b3]
      exact hI.2.1 c i b2
    · rw [e8, sti_22, e7, sti_22, e6, sti_22, e5, sti_22, e4, sti_22, e3, sti_22, a4]
      exact hI.2.2
  · rw [q_X1_begin_2, nI_clamp (by omega)]
    refine br_f (nI_ge (b := 6) hi (by decide)) (value_y (row := 1) (by decide) hi ?_)
    rw [htv S1 hI.2.1 1 (by decide) i hi]
    refine ⟨vp_in_nI hi (by decide), ?_⟩
    intro S2 e2 z ez
    rw [ez, nI_1]
    refine ih S2 ⟨fun j hj => ?_, fun c j hc => by rw [e2, sti_ne (fun q => hc q.1)]; exact hI.2.1 c j hc, by rw [e2, sti_22]; exact hI.2.2⟩
    rw [e2, sti_1]
    by_cases q : j = i
    · rw [if_pos ⟨rfl, q⟩, q]
    · rw [if_neg (fun w => q w.2)]; exact hI.1 j (by omega)
theorem start_y {S : CS} {t : Nat} {D : DS} {post : CS → Prop} (ht1 : t < 2) (ht2 : S.2.1 = t) (hD : Dcl S t D) (h : ∀ S1 : CS, (∀ j, j < 21 → mv S1.1 0 j = nI (dN8 D j)) → S1.1 0 5 = 0 → S1.1 0 6 = 0 → S1.1 0 12 = 0 → (∀ i, i < 2 → S1.1 13 i = 0) → StF S S1 → post S1) : p_X6_startAnew S post := by
  unfold p_X6_startAnew
  refine ⟨by omega, ?_⟩
  rw [ht2]
  refine begin_y ht1 hD (fun S1 a1 a2 a3 => ?_)
  unfold p_X6_forgetPast
  intro S2 e2 S3 e3 S4 e4
  have hne : ∀ c i, c ≠ 0 → S4.1 c i = S1.1 c i := fun c i q => by rw [e4, sti_ne (fun z => q z.1), e3, sti_ne (fun z => q z.1), e2, sti_ne (fun z => q z.1)]
  refine loop_0 (fun n i S5 => q_X6_startAnew_22 post n (nI i) S5) (fun i S5 => (∀ j, j < i → S5.1 13 j = 0) ∧ (∀ c i, c ≠ 13 → S5.1 c i = S4.1 c i) ∧ S5.2 = S4.2) 2 S4 ⟨fun j hj => absurd hj (Nat.not_lt_zero j), fun _ _ _ => rfl, rfl⟩ (fun n S5 hI => ?_) (fun n i S5 hi hI ih => ?_)
  · rw [q_X6_startAnew_22]
    obtain ⟨i1, i2, i3⟩ := hI
    have hmv : ∀ j, mv S5.1 0 j = mv S1.1 0 j := fun j => mv_congr (fun i => by rw [i2 _ _ (by decide), hne _ _ (by decide)]) (fun i => by rw [i2 _ _ (by decide), hne _ _ (by decide)]) (fun i => by rw [i2 _ _ (by decide), hne _ _ (by decide)]) (fun i => by rw [i2 _ _ (by decide), hne _ _ (by decide)])
    refine br_t (show (2 : Int32) ≤ nI 2 by decide) (h S5 (fun j hj => by rw [hmv]; exact a1 j hj) ?_ ?_ ?_ i1 ⟨fun c i b0 b13 b1 b2 b3 b4 => ?_, ?_⟩)
    · rw [i2 0 5 (by decide), e4, sti_ne (by omega), e3, sti_ne (by omega), e2, sti_eq]
    · rw [i2 0 6 (by decide), e4, sti_ne (by omega), e3, sti_eq]
    · rw [i2 0 12 (by decide), e4, sti_eq]
    · rw [i2 c i b13, hne c i b0, a2 c i b1 b2 b3 b4]
    · rw [i3, e4, sti_22, e3, sti_22, e2, sti_22, a3]
  · rw [q_X6_startAnew_22, nI_clamp (by omega)]
    refine br_f (nI_ge (b := 2) hi (by decide)) ⟨vp_in_nI hi (by decide), ?_⟩
    intro S6 e6 z ez
    rw [ez, nI_1]
    refine ih S6 ⟨fun j hj => ?_, fun c j hc => by rw [e6, sti_ne (fun q => hc q.1)]; exact hI.2.1 c j hc, by rw [e6, sti_22]; exact hI.2.2⟩
    rw [e6, sti_1]
    by_cases q : j = i
    · rw [if_pos ⟨rfl, q⟩]; rfl
    · rw [if_neg (fun w => q w.2)]; exact hI.1 j (by omega)
