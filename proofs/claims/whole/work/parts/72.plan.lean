/-! the reference's plan -/
def PR (R R1 : CS) : Prop := (∀ c i, c ≠ 9 → c ≠ 16 → c ≠ 17 → R1.1 c i = R.1 c i) ∧ R1.2 = R.2
theorem r_twigs_y {R R1 : CS} {k n : Nat} {d : Dat} {c : Nat → Nat} {post : Int32 → CS → Prop} (hW : WF k d) (hD : RD d R.1) (hN : RN d R.1) (hP : PR R R1) (hn : n ≤ 4) (hc : ∀ z, c z ≤ d 2 0) (hr : ∀ y, y < n → R1.1 16 y = nI (c y)) (h : ∀ R2 : CS, PR R R2 → (∀ i, R2.1 16 i = R1.1 16 i) → (∀ i, R2.1 17 i = R1.1 17 i) → post (nI (tot d c n)) R2) : p_X7_twigsBy R1 (nI n) post := by
  have hP6 := hW.2.1.1
  have hrp := hW.2.1.2.2.1.2
  have h8 : ∀ p, p < d 2 0 → d 8 (15 + p) ≤ 40 := fun p hp => hW.2.2.1.2.2.2.2.2.2.2.2 p hp
  unfold p_X7_twigsBy
  refine r_asNow_y (fun R2 a1 a2 a3 => ?_)
  refine loop_0 (σ := Int32 × CS) (fun m y s => q_X7_twigsBy_8 (nI n) post m s.1 (nI y) s.2) (fun y s => s.1 = nI (tot d c y) ∧ (∀ p, p < d 2 0 → s.2.1 9 (15 + p) = nI (ag d c p y)) ∧ (∀ cc i, cc ≠ 9 → s.2.1 cc i = R1.1 cc i) ∧ s.2.2 = R1.2) n (0, R2) ⟨rfl, fun p hp => ?_, a2, a3⟩ (fun m s hI => ?_) (fun m y s hy hI ih => ?_)
  · show R2.1 9 (15 + p) = _
    rw [a1 (15 + p) (by omega), hP.1 8 _ (by decide) (by decide) (by decide), hN (15 + p) (by omega)]
    rfl
  · rw [q_X7_twigsBy_8, hI.1]
    exact br_t (nI_le (Nat.le_refl _) (by omega)) (h s.2 ⟨fun cc i q1 q2 q3 => by rw [hI.2.2.1 cc i q1]; exact hP.1 cc i q1 q2 q3, by rw [hI.2.2.2]; exact hP.2⟩ (fun i => hI.2.2.1 16 i (by decide)) (fun i => hI.2.2.1 17 i (by decide)))
  · obtain ⟨i1, i2, i3, i4⟩ := hI
    have hcy := hc y
    have h16 : s.2.1 16 y = nI (c y) := by rw [i3 16 y (by decide), hr y hy]
    have h20 : s.2.1 2 0 = nI (d 2 0) := by rw [i3 2 0 (by decide), hP.1 2 0 (by decide) (by decide) (by decide)]; exact hD.1 0 (by decide)
    have h22 : s.2.1 2 2 = nI (d 2 2) := by rw [i3 2 2 (by decide), hP.1 2 2 (by decide) (by decide) (by decide)]; exact hD.1 2 (by decide)
    rw [q_X7_twigsBy_8, nI_clamp (by omega), h16]
    refine br_f (nI_ge hy (by omega)) ⟨vp_in_nI (by omega) (by decide), fun q => ?_, fun q => ⟨vp_in_nI (by omega) (by decide), ?_⟩⟩
    · have hc0 : c y = 0 := (nI_z (by omega)).mp q
      unfold q_X7_twigsBy_43
      intro x2 ex2
      refine r_grow_y (c := 9) (P := d 2 0) (a := fun p => ag d c p y) (Or.inr rfl) h20 hP6 (fun i hi => ⟨i2 i hi, ag_le (h8 i hi) y⟩) (fun R3 b1 b2 b3 b4 b5 x ex => ?_)
      rw [ex, nI_1]
      refine ih (x2, R3) ⟨?_, fun p hp => ?_, fun cc i q1 => ?_, ?_⟩
      · show x2 = _
        rw [ex2, i1, tot_s]
        unfold gn
        rw [if_pos hc0, Nat.add_zero, Int32.add_zero]
      · show R3.1 9 (15 + p) = _
        rw [b1 p hp, ag_s, if_neg (by omega)]
      · show R3.1 cc i = _
        rw [b4 cc i q1]; exact i3 cc i q1
      · show R3.2 = _
        rw [b5]; exact i4
    · obtain ⟨p, hp⟩ : ∃ p, c y = p + 1 := ⟨c y - 1, by
        have : c y ≠ 0 := fun z => q (by rw [z]; rfl)
        omega⟩
      have hpP : p < d 2 0 := by omega
      have h3 : s.2.1 3 p = nI (d 3 p) := by rw [i3 3 p (by decide), hP.1 3 p (by decide) (by decide) (by decide)]; exact hD.2.1 p hpP
      have hal := ag_le (c := c) (h8 p hpP) y
      rw [hp, nI_pred]
      unfold p_X7_fells
      refine r_gives_y (d := d) (a := nI (ag d c p y)) h22 h3 (i2 p hpP) (by omega) ?_
      rw [gfI_nI _ (by omega) (by omega)]
      intro u eu R4 e4
      have e15 : (15 : Int32) + nI p = nI (15 + p) := by rw [show (15 : Int32) = nI 15 from rfl, nI_add]
      rw [e15, nI_clamp (by omega)]
      refine ⟨vp_in_nI (by omega) (by decide), ?_⟩
      intro R5 e5
      unfold q_X7_twigsBy_43
      intro x2 ex2
      have h5 : ∀ cc i, cc ≠ 9 → R5.1 cc i = s.2.1 cc i := fun cc i z => by rw [e5, sti_ne (fun w => z w.1), e4, sti_ne (fun w => z w.1)]
      refine r_grow_y (c := 9) (P := d 2 0) (a := fun i => if c y = i + 1 then 0 else ag d c i y) (Or.inr rfl) (by rw [h5 2 0 (by decide)]; exact h20) hP6 (fun i hi => ⟨?_, ?_⟩) (fun R3 b1 b2 b3 b4 b5 x ex => ?_)
      · show R5.1 9 (15 + i) = nI (if c y = i + 1 then 0 else ag d c i y)
        rw [e5, sti_1]
        by_cases hip : i = p
        · rw [if_pos ⟨rfl, by omega⟩, if_pos (by omega)]; rfl
        · rw [if_neg (fun z => hip (by omega)), if_neg (by omega), e4, sti_ne (by omega)]
          exact i2 i hi
      · show (if c y = i + 1 then 0 else ag d c i y) ≤ 40
        by_cases hip : c y = i + 1
        · rw [if_pos hip]; omega
        · rw [if_neg hip]; exact ag_le (h8 i hi) y
      rw [ex, nI_1]
      refine ih (x2, R3) ⟨?_, fun p' hp' => ?_, fun cc i q1 => ?_, ?_⟩
      · show x2 = _
        rw [ex2, i1, tot_s, nI_add]
        unfold gn
        rw [if_neg (by omega), hp, Nat.add_sub_cancel]
      · show R3.1 9 (15 + p') = _
        rw [b1 p' hp', ag_s]
      · show R3.1 cc i = _
        rw [b4 cc i q1, h5 cc i q1]; exact i3 cc i q1
      · show R3.2 = _
        rw [b5, e5, sti_22, e4, sti_22]; exact i4
/-- the best of the rows ahead of row i, in the reference -/
def BR (d : Dat) (n i : Nat) (y4 : Int32) (R : CS) : Prop := (i = 0 ∧ y4 = -9) ∨ ∃ j, i = j + 1 ∧ y4 = nI (tc d n (am (tc d n) j)) ∧ ∀ y, y < n → R.1 17 y = nI (dg (d 2 0 + 1) n (am (tc d n) j) y)
theorem BR.cg {d : Dat} {n i : Nat} {y4 : Int32} {R R1 : CS} (h : BR d n i y4 R) (e : ∀ y, R1.1 17 y = R.1 17 y) : BR d n i y4 R1 := by
  rcases h with ⟨a, b⟩ | ⟨j, a, b, c⟩
  · exact Or.inl ⟨a, b⟩
  · exact Or.inr ⟨j, a, b, fun y hy => by rw [e]; exact c y hy⟩
theorem r_copy_y {R1 : CS} {n : Nat} {x2 y3 y4 y5 : Int32} {K : Int32 → Int32 → Int32 → CS → Prop} {post : Int32 → CS → Prop} (hn : n ≤ 4) (h : ∀ R2 : CS, (∀ y, y < n → R2.1 17 y = R1.1 16 y) → (∀ c i, c ≠ 17 → R2.1 c i = R1.1 c i) → R2.2 = R1.2 → ∀ x : Int32, x = y5 + 1 → K y3 y4 x R2) : ∃ m, q_X7_plan_138 (nI n) x2 K post m y3 y4 y5 0 R1 := by
  refine loop_0 (fun m j R2 => q_X7_plan_138 (nI n) x2 K post m y3 y4 y5 (nI j) R2) (fun j R2 => (∀ y, y < j → R2.1 17 y = R1.1 16 y) ∧ (∀ c i, c ≠ 17 → R2.1 c i = R1.1 c i) ∧ R2.2 = R1.2) n R1 ⟨fun y hy => absurd hy (Nat.not_lt_zero y), fun _ _ _ => rfl, rfl⟩ (fun m R2 hI => ?_) (fun m j R2 hj hI ih => ?_)
  · rw [q_X7_plan_138]
    exact br_t (nI_le (Nat.le_refl _) (by omega)) (h R2 hI.1 hI.2.1 hI.2.2)
  · rw [q_X7_plan_138, nI_clamp (by omega)]
    refine br_f (nI_ge hj (by omega)) ⟨vp_in_nI (by omega) (by decide), ?_⟩
    intro u eu
    refine ⟨vp_in_nI (by omega) (by decide), ?_⟩
    intro R3 e3 x ex
    rw [ex, nI_1]
    refine ih R3 ⟨fun y hy => ?_, fun c i hc => by rw [e3, sti_ne (fun z => hc z.1)]; exact hI.2.1 c i hc, by rw [e3, sti_22]; exact hI.2.2⟩
    rw [e3, sti_1]
    by_cases hy2 : y = j
    · rw [if_pos ⟨rfl, hy2⟩, eu, hy2]; exact hI.2.1 16 j (by decide)
    · rw [if_neg (fun z => hy2 z.2)]
      exact hI.1 y (by omega)
theorem r_row_y {R R1 : CS} {k n i : Nat} {d : Dat} {x2 y3 y4 : Int32} {K : Int32 → Int32 → Int32 → CS → Prop} {post : Int32 → CS → Prop} (hW : WF k d) (hD : RD d R.1) (hN : RN d R.1) (hP : PR R R1) (hn : n ≤ 4) (hi : i < 2401) (hB : BR d n i y4 R1) (h : ∀ (y : Int32) (R2 : CS), PR R R2 → BR d n (i + 1) y R2 → ∀ x : Int32, x = nI i + 1 → K y3 y x R2) : ∃ m, q_X7_plan_75 (nI n) x2 K post m y3 y4 (nI i) (nI i) (nI n - 1) R1 := by
  have hP6 := hW.2.1.1
  have hl := tc_le hW hn
  have hb : 0 < d 2 0 + 1 := by omega
  rw [show nI n - 1 = nI (n - 0) - 1 by rw [Nat.sub_zero]]
  refine loop_0 (σ := Int32 × CS) (fun m j s => q_X7_plan_75 (nI n) x2 K post m y3 y4 (nI i) s.1 (nI (n - j) - 1) s.2) (fun j s => s.1 = nI (i / (d 2 0 + 1) ^ j) ∧ (∀ y, n - j ≤ y → y < n → s.2.1 16 y = nI (dg (d 2 0 + 1) n i y)) ∧ (∀ c i, c ≠ 16 → s.2.1 c i = R1.1 c i) ∧ s.2.2 = R1.2) n (nI i, R1) ⟨by rw [Nat.pow_zero, Nat.div_one], fun y a b => absurd b (by omega), fun _ _ _ => rfl, rfl⟩ (fun m s hI => ?_) (fun m j s hj hI ih => ?_)
  · obtain ⟨i1, i2, i3, i4⟩ := hI
    rw [q_X7_plan_75, Nat.sub_self]
    rw [Nat.sub_self] at i2
    have hPs : PR R s.2 := ⟨fun c i a1 a2 a3 => by rw [i3 c i a2]; exact hP.1 c i a1 a2 a3, by rw [i4]; exact hP.2⟩
    refine br_t (by decide) (r_twigs_y (c := dg (d 2 0 + 1) n i) hW hD hN hPs hn (fun z => by have := dg_lt (B := d 2 0 + 1) (n := n) (i := i) (y := z) hb; omega) (fun y hy => i2 y (Nat.zero_le y) hy) (fun R2 a1 a2 a3 => ?_))
    have hB2 : BR d n i y4 R2 := hB.cg (fun y => by rw [a3, i3 17 y (by decide)])
    refine ⟨fun q => ?_, fun q => ?_⟩
    · rcases hB2 with ⟨e, b⟩ | ⟨j, e, b, c⟩
      · rw [b] at q
        exact absurd q (nI_nm9 (by have := hl i; unfold tc at this; omega))
      · subst e
        rw [b] at q
        have hq : tc d n (j + 1) ≤ tc d n (am (tc d n) j) := (nI_leI (by have := hl (j + 1); omega) (by have := hl (am (tc d n) j); omega)).mp q
        exact h y4 R2 a1 (Or.inr ⟨j + 1, rfl, by rw [am_s, if_pos hq]; exact b, fun y hy => by rw [am_s, if_pos hq]; exact c y hy⟩)
    · have ha : am (tc d n) i = i := by
        rcases hB2 with ⟨e, b⟩ | ⟨j, e, b, c⟩
        · rw [e]; rfl
        · subst e
          rw [b] at q
          have hq : ¬ tc d n (j + 1) ≤ tc d n (am (tc d n) j) := fun z => q (nI_le z (by have := hl (am (tc d n) j); omega))
          rw [am_s, if_neg hq]
      refine r_copy_y hn (fun R3 b1 b2 b3 => h _ R3 ⟨fun c i z1 z2 z3 => by rw [b2 c i z3]; exact a1.1 c i z1 z2 z3, by rw [b3]; exact a1.2⟩ (Or.inr ⟨i, rfl, by rw [ha]; rfl, fun y hy => ?_⟩))
      rw [ha, b1 y hy, a2 y]
      exact i2 y (Nat.zero_le y) hy
  · obtain ⟨i1, i2, i3, i4⟩ := hI
    have h20 : s.2.1 2 0 = nI (d 2 0) := by rw [i3 2 0 (by decide), hP.1 2 0 (by decide) (by decide) (by decide)]; exact hD.1 0 (by decide)
    have hne : ¬ nI (d 2 0 + 1) = 0 := fun q => absurd ((nI_z (by omega)).mp q) (by omega)
    have hdv : i / (d 2 0 + 1) ^ j ≤ i := Nat.div_le_self _ _
    rw [q_X7_plan_75, y7_s hj, nI_clamp (by omega), h20, nI_1 (d 2 0), i1]
    refine br_f (nI_pos (by omega)) ⟨hne, ?_⟩
    intro u eu
    rw [pk_rem (a := i / (d 2 0 + 1) ^ j) (by omega) hb (by omega)] at eu
    refine ⟨vp_in_nI (by omega) (by decide), ?_⟩
    intro R3 e3
    rw [show R3.1 2 0 = nI (d 2 0) by rw [e3, sti_ne (by omega)]; exact h20, nI_1 (d 2 0)]
    refine ⟨hne, ?_⟩
    intro x6 ex6 x7 ex7
    rw [pk_div (a := i / (d 2 0 + 1) ^ j) (by omega) hb (by omega), Nat.div_div_eq_div_mul, ← Nat.pow_succ] at ex6
    rw [ex7, y7_n hj]
    refine ih (x6, R3) ⟨ex6, fun y hy hyn => ?_, fun c i' hc => by show R3.1 c i' = _; rw [e3, sti_ne (fun z => hc z.1)]; exact i3 c i' hc, by show R3.2 = _; rw [e3, sti_22]; exact i4⟩
    show R3.1 16 y = _
    rw [e3, sti_1]
    by_cases hy2 : y = n - j - 1
    · rw [if_pos ⟨rfl, hy2⟩, eu, hy2]
      unfold dg
      rw [if_pos (by omega), show n - 1 - (n - j - 1) = j by omega]
    · rw [if_neg (fun z => hy2 z.2)]
      exact i2 y (by omega) hyn
