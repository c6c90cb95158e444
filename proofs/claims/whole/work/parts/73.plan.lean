theorem r_plan_y {R : CS} {k n N : Nat} {d : Dat} {x2 : Int32} {post : Int32 → CS → Prop} (hW : WF k d) (hD : RD d R.1) (hN : RN d R.1) (hn : n ≤ 4) (hNN : N + 1 = (d 2 0 + 1) ^ n) (h : ∀ (y : Int32) (R2 : CS), PR R R2 → BR d n (N + 1) y R2 → ((x2 = (-1) → (post y R2)) ∧ (¬ (x2 = (-1)) → ((x2 < nI n → (vp_in x2 4 ∧ (((R2.1 17 x2.toNatClampNeg) = 0 → (post (-5) R2)) ∧ (¬ ((R2.1 17 x2.toNatClampNeg) = 0) → (vp_in x2 4 ∧ (post ((R2.1 17 x2.toNatClampNeg) - 1) R2)))))) ∧ (¬ (x2 < nI n) → (post (-9) R2)))))) : ∃ m, q_X7_plan_30 (nI n) x2 post m 1 0 R := by
  have hP6 := hW.2.1.1
  have hpw := (pw_dec (d 2 0) (by omega) n (by omega)).2
  refine loop_0 (σ := Int32) (fun m j y => q_X7_plan_30 (nI n) x2 post m y (nI j) R) (fun j y => y = nI ((d 2 0 + 1) ^ j)) n 1 (by rw [Nat.pow_zero]; rfl) (fun m y hI => ?_) (fun m j y hj hI ih => ?_)
  · rw [q_X7_plan_30, hI, ← hNN]
    refine br_t (nI_le (Nat.le_refl _) (by omega)) ?_
    refine loop_0 (σ := Int32 × CS) (fun m i s => q_X7_plan_60 (nI n) x2 post m (nI (N + 1)) s.1 (nI i) s.2) (fun i s => PR R s.2 ∧ BR d n i s.1 s.2) (N + 1) (-9, R) ⟨⟨fun _ _ _ _ _ => rfl, rfl⟩, Or.inl ⟨rfl, rfl⟩⟩ (fun m s hI => ?_) (fun m i s hi hI ih => ?_)
    · rw [q_X7_plan_60]
      exact br_t (nI_le (Nat.le_refl _) (by omega)) (h s.1 s.2 hI.1 hI.2)
    · rw [q_X7_plan_60]
      refine br_f (nI_ge hi (by omega)) ?_
      intro x7 ex7
      rw [ex7]
      refine r_row_y hW hD hN hI.1 hn (by omega) hI.2 (fun y R2 a1 a2 x ex => ?_)
      rw [ex, nI_1]
      exact ih (y, R2) ⟨a1, a2⟩
  · rw [q_X7_plan_30, hI, hD.1 0 (by decide), nI_1]
    refine br_f (nI_ge hj (by omega)) ?_
    intro x3 ex3 x4 ex4
    rw [ex4, nI_1]
    exact ih x3 (by rw [ex3, pk_mul, Nat.pow_succ])
theorem PR.rsm {R R2 : CS} (h : PR (sti R 0 0 0) R2) : RSm R R2 := ⟨fun c j a b e f => by rw [h.1 c j b e f, sti_ne (fun z => a z.1)], fun j hj => by rw [h.1 0 j (by decide) (by decide) (by decide), sti_ne (fun z => hj z.2)], by rw [h.2, sti_22]⟩
theorem eq_m1 {x : Int32} (h : x < 0) (h1 : ¬ x < -1) : x = -1 := by
  rw [Int32.lt_iff_toInt_lt] at h h1
  have e0 : (0 : Int32).toInt = 0 := rfl
  have e1 : (-1 : Int32).toInt = -1 := rfl
  exact Int32.toInt_inj.mp (by omega)
theorem m1_lt {n : Nat} (hn : n < 2 ^ 31) : (-1 : Int32) < nI n := by
  rw [Int32.lt_iff_toInt_lt, nI_toInt hn]
  have e1 : (-1 : Int32).toInt = -1 := rfl
  omega
theorem m1_nlt {n : Nat} (hn : n < 2 ^ 31) : ¬ nI n < (-1 : Int32) := by
  rw [Int32.lt_iff_toInt_lt, nI_toInt hn]
  have e1 : (-1 : Int32).toInt = -1 := rfl
  omega
theorem m1_ne {n : Nat} (hn : n < 2 ^ 31) : ¬ nI n = (-1 : Int32) := by
  intro h
  have := m1_lt hn
  rw [h] at this
  exact absurd this (by decide)
theorem sim_plan (k : Nat) (S R : CS) (x1 x2 : Int32) (_ : k < 64) (h : Rel k S R) : p_X6_plan S x1 x2 (fun r S1 => p_X7_plan R x1 x2 (fun r2 R1 => r = r2 ∧ Rel (k + 1) S1 R1)) := by
  obtain ⟨d, t, pn, hW, ⟨ht1, ht2, ht3, ht4⟩, hC, hR, htr⟩ := h
  have hsm := Rel.sm hW ⟨ht1, ht2, ht3, ht4⟩ hC hR htr (CSm.rf S) (RSm.thr R 0)
  have hD' : RD d (sti R 0 0 0).1 := hR.2.1.th
  have hN' : RN d (sti R 0 0 0).1 := hR.2.2.1.th2
  have hP6 := hW.2.1.1
  unfold p_X6_plan
  rcases rng x1 1 4 (by decide) (by decide) with hx | ⟨n, hn1, hn, rfl⟩
  · have fin : p_X7_plan R x1 x2 (fun r2 R1 => -1 = r2 ∧ Rel (k + 1) S R1) := by
      unfold p_X7_plan
      intro R1 e1
      subst e1
      exact in_n hx (c00 ⟨rfl, hsm⟩)
    rcases hx with hx | hx
    · exact br_t hx fin
    · exact ⟨fun _ => fin, fun _ => br_t hx fin⟩
  · obtain ⟨N, hNN⟩ : ∃ N, N + 1 = (d 2 0 + 1) ^ n := ⟨(d 2 0 + 1) ^ n - 1, Nat.sub_add_cancel (pw_dec (d 2 0) (by omega) n (by omega)).1⟩
    refine br_f (nI_nlt (b := 1) hn1 (by omega)) (br_f (nI_nlt (a := 4) hn (by decide)) ?_)
    have bad : (x2 < -1 ∨ 3 < x2) → p_X7_plan R (nI n) x2 (fun r2 R1 => -1 = r2 ∧ Rel (k + 1) S R1) := by
      intro hx
      unfold p_X7_plan
      intro R1 e1
      subst e1
      exact in_yN (a := 1) (b := 4) hn1 hn (by decide) (c01 (in_n hx (c00 ⟨rfl, hsm⟩)))
    have good : ∀ post : Int32 → CS → Prop, ¬ x2 < -1 → ¬ 3 < x2 → (∀ (y : Int32) (R2 : CS), PR (sti R 0 0 0) R2 → BR d n (N + 1) y R2 → ((x2 = (-1) → (post y R2)) ∧ (¬ (x2 = (-1)) → ((x2 < nI n → (vp_in x2 4 ∧ (((R2.1 17 x2.toNatClampNeg) = 0 → (post (-5) R2)) ∧ (¬ ((R2.1 17 x2.toNatClampNeg) = 0) → (vp_in x2 4 ∧ (post ((R2.1 17 x2.toNatClampNeg) - 1) R2)))))) ∧ (¬ (x2 < nI n) → (post (-9) R2)))))) → p_X7_plan R (nI n) x2 post := by
      intro post g1 g2 g3
      unfold p_X7_plan
      intro R1 e1
      subst e1
      exact in_yN (a := 1) (b := 4) hn1 hn (by decide) (c01 (in_y g1 g2 (c01 (r_plan_y hW hD' hN' hn hNN g3))))
    rcases ix3 x2 (n := 4) (by decide) with (hx | hx) | ⟨j, hj, rfl⟩
    · by_cases h1 : x2 < -1
      · exact br_t h1 (bad (Or.inl h1))
      · have e := eq_m1 hx h1
        subst e
        refine br_f h1 (br_t (by decide) (br_t (m1_lt (by omega)) ⟨by omega, ?_⟩))
        rw [ht2]
        refine find_y hW hC.2.1 hC.2.2.1 ht1 ht4 hn hNN (fun S2 a1 a2 a3 => br_f (by decide) ?_)
        unfold p_X2_mostTwigs
        rw [a2]
        refine good _ (by decide) (by decide) (fun y R2 b1 b2 => br_t rfl ?_)
        refine ⟨?_, Rel.sm hW ⟨ht1, ht2, ht3, ht4⟩ hC hR htr (a1.csm ht4) b1.rsm⟩
        rcases b2 with ⟨q, -⟩ | ⟨i, q, c1, c2⟩
        · exact absurd q (by omega)
        · rw [c1, show i = N by omega]
    · have h3 : (3 : Int32) < x2 := lt_of_nI_le hx (a := 3) (by decide) (by decide)
      have h0 : ¬ x2 < -1 := fun q => by
        rw [Int32.lt_iff_toInt_lt] at q h3
        have e0 : (3 : Int32).toInt = 3 := rfl
        have e1 : (-1 : Int32).toInt = -1 := rfl
        omega
      exact br_f h0 (br_f (nlt_of_le hx) (bad (Or.inr h3)))
    · have hg2 : ¬ 3 < nI j := nI_nlt (a := 3) (by omega) (by decide)
      refine br_f (m1_nlt (by omega)) (br_t (nI_lt (b := 4) hj (by decide)) ?_)
      by_cases hjn : j < n
      · refine br_t (nI_lt hjn (by omega)) ⟨by omega, ?_⟩
        rw [ht2]
        refine find_y hW hC.2.1 hC.2.2.1 ht1 ht4 hn hNN (fun S2 a1 a2 a3 => br_t (nI_pos' (by omega)) ?_)
        have hlt := dg_lt (B := d 2 0 + 1) (n := n) (i := am (tc d n) N) (y := j) (by omega)
        have hrel : ∀ R2, PR (sti R 0 0 0) R2 → Rel (k + 1) S2 R2 := fun R2 b1 => Rel.sm hW ⟨ht1, ht2, ht3, ht4⟩ hC hR htr (a1.csm ht4) b1.rsm
        have h17 : ∀ (y : Int32) (R2 : CS), BR d n (N + 1) y R2 → R2.1 17 j = nI (dg (d 2 0 + 1) n (am (tc d n) N) j) := by
          intro y R2 b2
          rcases b2 with ⟨q, -⟩ | ⟨i, q, c1, c2⟩
          · exact absurd q (by omega)
          · rw [c2 j hjn, show i = N by omega]
        unfold p_X2_chosenIn
        rw [nI_clamp (by omega), a3 j hj]
        refine br_f (nI_pos (by omega)) (br_t (nI_lt (b := 4) hj (by decide)) ⟨vp_in_nI hj (by decide), fun q => ?_, fun q => ⟨vp_in_nI hj (by decide), ?_⟩⟩)
        · have hq := ((rowm_dec _ (by omega)).1).mp q
          refine good _ (m1_nlt (by omega)) hg2 (fun y R2 b1 b2 => br_f (m1_ne (by omega)) (br_t (nI_lt hjn (by omega)) ⟨vp_in_nI hj (by decide), ?_⟩))
          rw [nI_clamp (by omega), h17 y R2 b2, hq]
          exact br_t rfl ⟨rfl, hrel R2 b1⟩
        · have hq : ¬ dg (d 2 0 + 1) n (am (tc d n) N) j = 0 := fun z => q (((rowm_dec _ (by omega)).1).mpr z)
          refine good _ (m1_nlt (by omega)) hg2 (fun y R2 b1 b2 => br_f (m1_ne (by omega)) (br_t (nI_lt hjn (by omega)) ⟨vp_in_nI hj (by decide), ?_⟩))
          rw [nI_clamp (by omega), h17 y R2 b2]
          exact br_f (fun z => hq ((nI_z (by omega)).mp z)) ⟨vp_in_nI hj (by decide), rfl, hrel R2 b1⟩
      · refine br_f (nI_nlt (by omega) (by omega)) ?_
        refine good _ (m1_nlt (by omega)) hg2 (fun y R2 b1 b2 => br_f (m1_ne (by omega)) (br_f (nI_nlt (by omega) (by omega)) ⟨rfl, Rel.sm hW ⟨ht1, ht2, ht3, ht4⟩ hC hR htr (CSm.rf S) b1.rsm⟩))
