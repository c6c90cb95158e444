theorem rng (x : Int32) (a b : Nat) (ha : a < 2 ^ 31) (hb : b + 1 < 2 ^ 31) : (x < nI a ∨ nI b < x) ∨ ∃ j, a ≤ j ∧ j ≤ b ∧ x = nI j := by
  rcases ix3 x (n := b + 1) hb with (h | h) | ⟨j, hj, rfl⟩
  · left; left
    rw [Int32.lt_iff_toInt_lt] at h ⊢
    rw [nI_toInt ha]
    have : (0 : Int32).toInt = 0 := rfl
    omega
  · left; right
    exact lt_of_nI_le h (Nat.lt_succ_self b) hb
  · by_cases c : a ≤ j
    · exact Or.inr ⟨j, c, by omega, rfl⟩
    · exact Or.inl (Or.inl (nI_lt (by omega) (by omega)))
theorem le_of_lt_nI {x : Int32} {b : Nat} (h : nI b < x) (hb : b + 1 < 2 ^ 31) : nI (b + 1) ≤ x := by
  rw [Int32.lt_iff_toInt_lt, nI_toInt (by omega)] at h
  rw [Int32.le_iff_toInt_le, nI_toInt hb]
  omega
theorem nlt_of_le {x y : Int32} (h : y ≤ x) : ¬ x < y := by
  rw [Int32.le_iff_toInt_le] at h
  rw [Int32.lt_iff_toInt_lt]
  omega
theorem nle_of_lt {x y : Int32} (h : y < x) : ¬ x ≤ y := by
  rw [Int32.lt_iff_toInt_lt] at h
  rw [Int32.le_iff_toInt_le]
  omega
theorem sim_sweeps (k : Nat) (S R : CS) (hk : k < 64) (h : Rel k S R) : p_X6_sweeps S (fun r S1 => p_X7_sweeps R (fun r2 R1 => r = r2 ∧ Rel (k + 1) S1 R1)) := by
  obtain ⟨d, t, pn, hW, ⟨ht1, ht2, ht3⟩, hC, hR, htr⟩ := h
  have hP6 := hW.2.1.1
  have hu := hW.2.2.2.1.1
  obtain ⟨hpn, h5, h6, -⟩ := hC.2.2.2.1
  have h21 : (sti R 0 0 0).1 0 21 = nI (d 0 21) := by rw [sti_ne (by omega)]; exact hR.2.2.2.1.1
  have hb := hW.2.2.1
  obtain ⟨b0, b1, b2, b3, b4, b5, b6, b7, b8⟩ := hb
  unfold p_X6_sweeps
  refine rem_y hpn hu h6 h5 (fun S0 hr => ?_)
  have hN0 := hr.N hpn hC.2.2.1
  have f6 : S0.1 (bo 1) 1 = nI (d 8 6) := by rw [← hN0 6 (by omega), mv_6]
  refine sweep_y (b := 0 + 1) (L := fun i => d 8 (7 + i)) b6 f6 (fun i hi => ⟨by rw [← hN0 (7 + i) (by omega), mv_l _ _ hi], b7 i hi⟩) (fun S1 a1 a2 a3 => ?_)
  have g6 : S1.1 (bo (0 + 1)) 1 = nI (d 8 6) := by rw [a2 _ _ (by decide)]; exact f6
  rw [g6]
  unfold p_X0_lengthOf
  refine br_f (nI_pos (by omega)) (br_t (nI_lt (b := 8) b6 (by decide)) ⟨vp_in_nI b6 (by decide), ?_⟩)
  rw [nI_clamp (by omega), (a1 _ b6).1]
  unfold p_X7_sweeps
  intro R1 e1
  subst e1
  refine not_y hu h21 (fun R0 hn => r_sweep_y (L := fun i => d 8 (7 + i)) b6 (by rw [hn.o _ (by decide) (by decide)]; exact hR.2.2.1 6 (by omega)) (fun i hi => ⟨by rw [hn.o _ (by decide) (by decide)]; exact hR.2.2.1 (7 + i) (by omega), b7 i hi⟩) (fun R2 c1 c2 c3 => ?_))
  have r6 : R2.1 8 6 = nI (d 8 6) := by rw [c2 8 6 (by omega), hn.o _ (by decide) (by decide)]; exact hR.2.2.1 6 (by omega)
  rw [r6, show (7 : Int32) + nI (d 8 6) = nI (7 + d 8 6) from nI_add 7 _, nI_clamp (by omega), (c1 _ b6).1]
  obtain ⟨f, fl, fo⟩ : ∃ f : Nat → Nat, (∀ i, i < 8 → f (7 + i) = sw (fun i => d 8 (7 + i)) (d 8 6) i) ∧ ∀ i, (i < 7 ∨ 15 ≤ i) → f i = d 8 i := ⟨fun i => if 7 ≤ i ∧ i < 15 then sw (fun i => d 8 (7 + i)) (d 8 6) (i - 7) else d 8 i, fun i hi => by show (if 7 ≤ 7 + i ∧ 7 + i < 15 then sw (fun i => d 8 (7 + i)) (d 8 6) (7 + i - 7) else d 8 (7 + i)) = _; rw [if_pos (by omega), Nat.add_sub_cancel_left], fun i hi => by show (if 7 ≤ i ∧ i < 15 then sw (fun i => d 8 (7 + i)) (d 8 6) (i - 7) else d 8 i) = _; rw [if_neg (by omega)]⟩
  have hl : ∀ i, i < 8 → sw (fun i => d 8 (7 + i)) (d 8 6) i ≤ 15 := sw_le b7
  refine ⟨vp_in_nI (by omega) (by decide), rfl, Rel.act hW ⟨ht1, ht2, ht3⟩ hC hR htr f ?_ hr (fun c i q1 q2 q3 q4 => a2 c i q4) a3 (fun i hi => ?_) hn (fun c i q1 => c2 c i (Or.inl q1)) c3 (fun i hi => ?_)⟩
  · exact ⟨by rw [fo 0 (by omega)]; exact b0, by rw [fo 1 (by omega)]; exact b1, by rw [fo 2 (by omega)]; omega, by rw [fo 3 (by omega)]; omega, by rw [fo 4 (by omega)]; omega, by rw [fo 5 (by omega)]; exact b5, by rw [fo 6 (by omega)]; exact b6, fun i hi => by rw [fl i hi]; exact hl i hi, fun i hi => by rw [fo (15 + i) (by omega)]; exact b8 i hi⟩
  · by_cases hc : 7 ≤ i ∧ i < 15
    · obtain ⟨p, rfl⟩ : ∃ p, i = 7 + p := ⟨i - 7, by omega⟩
      rw [mv_l _ _ (by omega), fl p (by omega)]
      exact (a1 p (by omega)).1
    · rw [fo i (by omega), ← hN0 i hi, mv_lc, mv_lc]
      refine a2 _ _ ?_
      have hd : ∀ i, i < 21 → ¬ (7 ≤ i ∧ i < 15) → (lc 0 i).1 ≠ bl 1 := by decide
      exact hd i (by omega) hc
  · by_cases hc : 7 ≤ i ∧ i < 15
    · obtain ⟨p, rfl⟩ : ∃ p, i = 7 + p := ⟨i - 7, by omega⟩
      rw [fl p (by omega)]
      exact (c1 p (by omega)).1
    · rw [fo i (by omega), c2 8 i (by omega), hn.o _ (by decide) (by decide)]
      exact hR.2.2.1 i hi
theorem sim_spins (k : Nat) (S R : CS) (x1 : Int32) (hk : k < 64) (h : Rel k S R) : p_X6_spins S x1 (fun r S1 => p_X7_spins R x1 (fun r2 R1 => r = r2 ∧ Rel (k + 1) S1 R1)) := by
  obtain ⟨d, t, pn, hW, ⟨ht1, ht2, ht3⟩, hC, hR, htr⟩ := h
  have hsm := Rel.sm hW ⟨ht1, ht2, ht3⟩ hC hR htr (CSm.rf S) (RSm.thr R 0)
  have hP6 := hW.2.1.1
  have hu := hW.2.2.2.1.1
  obtain ⟨hpn, h5, h6, -⟩ := hC.2.2.2.1
  have h21 : (sti R 0 0 0).1 0 21 = nI (d 0 21) := by rw [sti_ne (by omega)]; exact hR.2.2.2.1.1
  have hb := hW.2.2.1
  obtain ⟨b0, b1, b2, b3, b4, b5, b6, b7, b8⟩ := hb
  unfold p_X6_spins
  rcases rng x1 1 7 (by decide) (by decide) with hx | ⟨j, j1, j7, rfl⟩
  · have fin : p_X7_spins R x1 (fun r2 R1 => -1 = r2 ∧ Rel (k + 1) S R1) := by
      unfold p_X7_spins
      intro R1 e1
      subst e1
      exact in_n hx (c00 ⟨rfl, hsm⟩)
    rcases hx with hx | hx
    · exact br_t hx fin
    · refine ⟨fun _ => fin, fun _ => br_f (nlt_of_le (le_of_lt_nI hx (by decide))) fin⟩
  · refine br_f (nI_nlt (a := j) (b := 1) j1 (by omega)) (br_t (nI_lt (b := 8) (by omega) (by decide)) ?_)
    refine rem_y hpn hu h6 h5 (fun S0 hr => ?_)
    have hN0 := hr.N hpn hC.2.2.1
    have f6 : S0.1 (bo (0 + 1)) 1 = nI (d 8 6) := by rw [← hN0 6 (by omega), mv_6]
    unfold p_X0_turnBy
    rw [f6, nI_add]
    refine fm_y (by omega) ?_
    intro S1 e1
    unfold p_X7_spins
    intro R1 e2
    subst e2
    refine in_yN (a := 1) (b := 7) j1 j7 (by decide) (c01 (not_y hu h21 (fun R0 hn => ?_)))
    have r6 : R0.1 8 6 = nI (d 8 6) := by rw [hn.o _ (by decide) (by decide)]; exact hR.2.2.1 6 (by omega)
    rw [r6, nI_add, (fm_dec (d 8 6 + j) (by omega)).2]
    intro w ew R2 e3
    obtain ⟨f, f6', fo⟩ : ∃ f : Nat → Nat, f 6 = (d 8 6 + j) % 8 ∧ ∀ i, i ≠ 6 → f i = d 8 i := ⟨fun i => if i = 6 then (d 8 6 + j) % 8 else d 8 i, by simp, fun i a => by simp [a]⟩
    refine ⟨by rw [e1, sti_eq, e3, sti_eq, ew], Rel.act hW ⟨ht1, ht2, ht3⟩ hC hR htr f ?_ hr (fun c i q1 q2 q3 q4 => by rw [e1, sti_ne (fun q => q3 q.1)]) (by rw [e1, sti_22]) (fun i hi => ?_) hn (fun c i q1 => by rw [e3, sti_ne (fun q => q1 q.1)]) (by rw [e3, sti_22]) (fun i hi => ?_)⟩
    · exact ⟨by rw [fo 0 (by omega)]; exact b0, by rw [fo 1 (by omega)]; exact b1, by rw [fo 2 (by omega)]; omega, by rw [fo 3 (by omega)]; omega, by rw [fo 4 (by omega)]; omega, by rw [fo 5 (by omega)]; exact b5, by rw [f6']; omega, fun i hi => by rw [fo (7 + i) (by omega)]; exact b7 i hi, fun i hi => by rw [fo (15 + i) (by omega)]; exact b8 i hi⟩
    · rw [e1, mv_sti, if_iff (lc_f i (by omega)), hN0 i hi]
      by_cases i6 : i = 6
      · rw [if_pos i6, i6, f6']
      · rw [if_neg i6, fo i i6]
    · rw [e3, sti_1]
      simp only [true_and]
      by_cases i6 : i = 6
      · rw [if_pos i6, i6, f6', ew]
      · rw [if_neg i6, fo i i6, hn.o _ (by decide) (by decide)]
        exact hR.2.2.1 i hi
theorem up_dec : ∀ n, n < 100 → ∀ p, p < 21 → 1 ≤ p → (nI n + nI p - 1) / nI p = nI ((n + p - 1) / p) ∧ (n + p - 1) / p < 120 := by decide +kernel
theorem sent_dec : ∀ s, s < 64 → ∀ j, j < 6 → nI s ||| (1 <<< (nI j &&& 31)) = nI (s ||| 2 ^ j) ∧ s ||| 2 ^ j < 64 := by decide +kernel
theorem sim_binds (k : Nat) (S R : CS) (x1 : Int32) (hk : k < 64) (h : Rel k S R) : p_X6_binds S x1 (fun r S1 => p_X7_binds R x1 (fun r2 R1 => r = r2 ∧ Rel (k + 1) S1 R1)) := by
  obtain ⟨d, t, pn, hW, ⟨ht1, ht2, ht3⟩, hC, hR, htr⟩ := h
  have hsm := Rel.sm hW ⟨ht1, ht2, ht3⟩ hC hR htr (CSm.rf S) (RSm.thr R 0)
  have hP6 := hW.2.1.1
  have hu := hW.2.2.2.1.1
  obtain ⟨hpn, h5, h6, -⟩ := hC.2.2.2.1
  have h21 : (sti R 0 0 0).1 0 21 = nI (d 0 21) := by rw [sti_ne (by omega)]; exact hR.2.2.2.1.1
  have hb := hW.2.2.1
  obtain ⟨b0, b1, b2, b3, b4, b5, b6, b7, b8⟩ := hb
  have htw := hW.2.1.2.2.2.1
  have hpc := hW.2.1.2.2.2.2.1
  unfold p_X6_binds
  rcases rng x1 1 99 (by decide) (by decide) with hx | ⟨n, n1, n99, rfl⟩
  · have fin : p_X7_binds R x1 (fun r2 R1 => -1 = r2 ∧ Rel (k + 1) S R1) := by
      unfold p_X7_binds
      intro R1 e1
      subst e1
      exact in_n hx (c00 ⟨rfl, hsm⟩)
    rcases hx with hx | hx
    · exact br_t hx fin
    · refine ⟨fun _ => fin, fun _ => br_f (nle_of_lt hx) fin⟩
  · refine br_f (nI_nlt (a := n) (b := 1) n1 (by omega)) (br_t (nI_le (b := 99) (by omega) (by decide)) ⟨by omega, ?_⟩)
    unfold p_X5_twigs
    refine value_y (row := 6) (i := 0) (by decide) (by decide) ?_
    obtain ⟨w, hw⟩ : ∃ w, w = n * d 2 3 := ⟨_, rfl⟩
    have hw2 : w ≤ 1980 := by
      rw [hw]
      calc n * d 2 3 ≤ 99 * 20 := Nat.mul_le_mul n99 htw.2
        _ = 1980 := rfl
    intro xw exw
    rw [ht2, show S.1 (tv t) (6 * 6 + 0) = nI (d 2 3) from hC.2.1.2.2.2.1, pk_mul, ← hw] at exw
    refine ⟨by omega, ?_⟩
    unfold p_X5_pace
    refine value_y (row := 7) (i := 0) (by decide) (by decide) ?_
    unfold p_X6_cutUpwards
    rw [ht2, show S.1 (tv t) (6 * 7 + 0) = nI (d 2 4) from hC.2.1.2.2.2.2.1]
    obtain ⟨u1, u2⟩ := up_dec n (by omega) (d 2 4) (by omega) hpc.1
    obtain ⟨q, hq⟩ : ∃ q, q = (n + d 2 4 - 1) / d 2 4 := ⟨_, rfl⟩
    rw [← hq] at u2 u1
    have hne : ¬ nI (d 2 4) = 0 := fun q => absurd ((nI_eq (b := 0) (by omega) (by decide)).mp q) (by omega)
    refine br_t (nI_le (a := 1) hpc.1 (by omega)) ⟨hne, ?_⟩
    intro xd exd
    rw [u1, show S.1 (mo 0) 4 = nI (d 8 0) by rw [← hC.2.2.1 0 (by omega), mv_0], nI_add] at exd
    rw [show S.1 (mo 0) 2 = nI (d 8 2) by rw [← hC.2.2.1 2 (by omega), mv_2]]
    subst exd exw
    have g24 : (sti R 0 0 0).1 2 4 = nI (d 2 4) := by rw [sti_ne (by omega)]; exact hR.2.1.1 4 (by decide)
    have g23 : (sti R 0 0 0).1 2 3 = nI (d 2 3) := by rw [sti_ne (by omega)]; exact hR.2.1.1 3 (by decide)
    have g80 : (sti R 0 0 0).1 8 0 = nI (d 8 0) := RN.th hR.2.2.1 (by omega)
    have g82 : (sti R 0 0 0).1 8 2 = nI (d 8 2) := RN.th hR.2.2.1 (by omega)
    refine ⟨fun c => ?_, fun c => ?_⟩
    · unfold p_X7_binds
      intro R1 e1
      subst e1
      refine in_yN (a := 1) (b := 99) n1 n99 (by decide) (c01 ?_)
      rw [g23, g82, pk_mul, ← hw]
      exact br_t c ⟨rfl, hsm⟩
    · have hws : w ≤ d 8 2 := by
        rcases Nat.lt_or_ge (d 8 2) w with z | z
        · exact absurd (nI_lt z (by omega)) c
        · exact z
      refine ⟨fun c2 => ?_, fun c2 => ?_⟩
      · have h9 : d 8 0 + q ≤ 9999 := (nI_leI (b := 9999) (by omega) (by decide)).mp c2
        refine rem_y hpn hu h6 h5 (fun S0 hr => ?_)
        have hN0 := hr.N hpn hC.2.2.1
        rw [show S0.1 (mo 0) 2 = nI (d 8 2) by rw [← hN0 2 (by omega), mv_2], pk_sub hws]
        intro u eu S1 e1
        rw [show S1.1 (mo 0) 3 = nI (d 8 3) by rw [e1, sti_ne (by omega), ← hN0 3 (by omega), mv_3], nI_add]
        intro u' eu' S2 e2 S3 e3
        unfold p_X7_binds
        intro R1 e4
        subst e4
        refine in_yN (a := 1) (b := 99) n1 n99 (by decide) (c01 ?_)
        rw [g23, g82, pk_mul, ← hw]
        refine br_f c ?_
        unfold p_X7_days
        rw [g24, u1, g80]
        refine ⟨hne, br_t (show nI (d 8 0) + nI q ≤ 9999 by rw [nI_add]; exact c2) (not_y hu h21 (fun R0 hn => ?_))⟩
        have z8 : ∀ i, i < 15 + d 2 0 → R0.1 8 i = nI (d 8 i) := fun i hi => by rw [hn.o _ (by decide) (by decide)]; exact hR.2.2.1 i hi
        have z2 : ∀ i, i < 6 → R0.1 2 i = nI (d 2 i) := fun i hi => by rw [hn.o _ (by decide) (by decide)]; exact hR.2.1.1 i hi
        rw [z8 2 (by omega), z2 3 (by omega), pk_mul, ← hw, pk_sub hws]
        intro v ev R2 e5
        rw [show R2.1 8 3 = nI (d 8 3) by rw [e5, sti_ne (by omega)]; exact z8 3 (by omega), nI_add]
        intro v' ev' R3 e6
        have y24 : R3.1 2 4 = nI (d 2 4) := by rw [e6, sti_ne (by omega), e5, sti_ne (by omega)]; exact z2 4 (by omega)
        have y80 : R3.1 8 0 = nI (d 8 0) := by rw [e6, sti_ne (by omega), e5, sti_ne (by omega)]; exact z8 0 (by omega)
        refine ⟨by rw [y24]; exact hne, ?_⟩
        intro v'' ev'' R4 e7
        rw [y24, u1, y80, nI_add] at ev''
        obtain ⟨f, f0, f2, f3, fo⟩ : ∃ f : Nat → Nat, f 0 = d 8 0 + q ∧ f 2 = d 8 2 - w ∧ f 3 = d 8 3 + n ∧ ∀ i, i ≠ 0 → i ≠ 2 → i ≠ 3 → f i = d 8 i := ⟨fun i => if i = 0 then d 8 0 + q else if i = 2 then d 8 2 - w else if i = 3 then d 8 3 + n else d 8 i, rfl, rfl, rfl, fun i a b c => by show (if i = 0 then d 8 0 + q else if i = 2 then d 8 2 - w else if i = 3 then d 8 3 + n else d 8 i) = _; rw [if_neg a, if_neg b, if_neg c]⟩
        refine ⟨by rw [e7, sti_eq, ev''], Rel.act hW ⟨ht1, ht2, ht3⟩ hC hR htr f ?_ hr (fun c i q1 q2 q3 q4 => by rw [e3, sti_ne (fun q => q1 q.1), e2, sti_ne (fun q => q1 q.1), e1, sti_ne (fun q => q1 q.1)]) (by rw [e3, sti_22, e2, sti_22, e1, sti_22]) (fun i hi => ?_) hn (fun c i q1 => by rw [e7, sti_ne (fun q => q1 q.1), e6, sti_ne (fun q => q1 q.1), e5, sti_ne (fun q => q1 q.1)]) (by rw [e7, sti_22, e6, sti_22, e5, sti_22]) (fun i hi => ?_)⟩
        · exact ⟨by rw [f0]; exact h9, by rw [fo 1 (by omega) (by omega) (by omega)]; exact b1, by rw [f2]; omega, by rw [f3]; omega, by rw [fo 4 (by omega) (by omega) (by omega)]; omega, by rw [fo 5 (by omega) (by omega) (by omega)]; exact b5, by rw [fo 6 (by omega) (by omega) (by omega)]; exact b6, fun i hi => by rw [fo (7 + i) (by omega) (by omega) (by omega)]; exact b7 i hi, fun i hi => by rw [fo (15 + i) (by omega) (by omega) (by omega)]; exact b8 i hi⟩
        · rw [e3, mv_sti, if_iff (lc_4 i (by omega)), e2, mv_sti, if_iff (lc_3 i (by omega)), e1, mv_sti, if_iff (lc_2 i (by omega)), hN0 i hi, eu', eu]
          by_cases i0 : i = 0
          · rw [if_pos i0, i0, f0]
          · rw [if_neg i0]
            by_cases i3 : i = 3
            · rw [if_pos i3, i3, f3]
            · rw [if_neg i3]
              by_cases i2 : i = 2
              · rw [if_pos i2, i2, f2]
              · rw [if_neg i2, fo i i0 i2 i3]
        · rw [e7, sti_1, e6, sti_1, e5, sti_1, z8 i hi, ev, ev', ev'']
          simp only [true_and]
          by_cases i0 : i = 0
          · rw [if_pos i0, i0, f0]
          · rw [if_neg i0]
            by_cases i3 : i = 3
            · rw [if_pos i3, i3, f3]
            · rw [if_neg i3]
              by_cases i2 : i = 2
              · rw [if_pos i2, i2, f2]
              · rw [if_neg i2, fo i i0 i2 i3]
      · unfold p_X7_binds
        intro R1 e1
        subst e1
        refine in_yN (a := 1) (b := 99) n1 n99 (by decide) (c01 ?_)
        rw [g23, g82, pk_mul, ← hw]
        refine br_f c ?_
        unfold p_X7_days
        rw [g24, u1, g80]
        exact ⟨hne, br_f (show ¬ nI (d 8 0) + nI q ≤ 9999 by rw [nI_add]; exact c2) ⟨rfl, hsm⟩⟩
theorem sim_sends (k : Nat) (S R : CS) (x1 : Int32) (hk : k < 64) (h : Rel k S R) : p_X6_sends S x1 (fun r S1 => p_X7_sends R x1 (fun r2 R1 => r = r2 ∧ Rel (k + 1) S1 R1)) := by
  obtain ⟨d, t, pn, hW, ⟨ht1, ht2, ht3⟩, hC, hR, htr⟩ := h
  have hsm := Rel.sm hW ⟨ht1, ht2, ht3⟩ hC hR htr (CSm.rf S) (RSm.thr R 0)
  have hP6 := hW.2.1.1
  have hO6 := hW.2.1.2.1
  have hu := hW.2.2.2.1.1
  obtain ⟨hpn, h5, h6, -⟩ := hC.2.2.2.1
  have h21 : (sti R 0 0 0).1 0 21 = nI (d 0 21) := by rw [sti_ne (by omega)]; exact hR.2.2.2.1.1
  have hr2 : (sti R 0 0 0).1 2 1 = nI (d 2 1) := by rw [sti_ne (by omega)]; exact hR.2.1.1 1 (by decide)
  have hb := hW.2.2.1
  obtain ⟨b0, b1, b2, b3, b4, b5, b6, b7, b8⟩ := hb
  unfold p_X6_sends
  rcases ix3 x1 (n := d 2 1) (by omega) with hx | ⟨j, hj, rfl⟩
  · refine isOrder_n ht2 ht1 hC.2.1.2.1 hx (c00 ?_)
    unfold p_X7_sends
    intro R1 e1
    subst e1
    exact r_isOrder_n hr2 hO6 hx (c00 ⟨rfl, hsm⟩)
  · obtain ⟨⟨-, o1⟩, ⟨-, o2⟩, o3⟩ := hW.2.1.2.2.2.2.2.2.2 j hj
    obtain ⟨v1, v2, v3⟩ := hC.2.1.2.2.2.2.2.2.2 j hj
    obtain ⟨r1, r2, r3⟩ := hR.2.1.2.2 j hj
    obtain ⟨t1, t2⟩ := sent_dec (d 8 5) b5 j (by omega)
    have c5 : S.1 (mo 0) 6 = nI (d 8 5) := by rw [← hC.2.2.1 5 (by omega), mv_5]
    have c3 : S.1 (mo 0) 3 = nI (d 8 3) := by rw [← hC.2.2.1 3 (by omega), mv_3]
    have c0 : S.1 (mo 0) 4 = nI (d 8 0) := by rw [← hC.2.2.1 0 (by omega), mv_0]
    have g5 : (sti R 0 0 0).1 8 5 = nI (d 8 5) := RN.th hR.2.2.1 (by omega)
    have g3 : (sti R 0 0 0).1 8 3 = nI (d 8 3) := RN.th hR.2.2.1 (by omega)
    have g0 : (sti R 0 0 0).1 8 0 = nI (d 8 0) := RN.th hR.2.2.1 (by omega)
    have q6 : (sti R 0 0 0).1 6 j = nI (d 6 j) := by rw [sti_ne (by omega)]; exact r2
    have q5 : (sti R 0 0 0).1 5 j = nI (d 5 j) := by rw [sti_ne (by omega)]; exact r1
    refine isOrder_y ht2 ht1 hC.2.1.2.1 hO6 hj (c01 ⟨by omega, value_y (row := 3) (by decide) (by omega) ?_⟩)
    rw [ht2, show S.1 (tv t) (6 * 3 + j) = nI (d 6 j) from v2]
    unfold p_X1_wasSent
    rw [c5]
    refine ⟨fun c => c01 ?_, fun c => c00 ⟨fun c2 => ?_, fun c2 => ?_⟩⟩ <;> try rw [c3] at c2
    · unfold p_X7_sends
      intro R1 e1
      subst e1
      refine r_isOrder_y hr2 hO6 hj (c01 ?_)
      unfold p_X7_isSent
      rw [g5]
      exact br_t c (c01 ⟨rfl, hsm⟩)
    · unfold p_X7_sends
      intro R1 e1
      subst e1
      refine r_isOrder_y hr2 hO6 hj (c01 ?_)
      unfold p_X7_isSent
      rw [g5]
      refine br_f c (c00 ?_)
      rw [g3, nI_clamp (by omega), q6]
      exact (⟨vp_in_nI (by omega) (by decide), br_t c2 ⟨rfl, hsm⟩⟩)
    · have hbs : d 6 j ≤ d 8 3 := by
        rcases Nat.lt_or_ge (d 8 3) (d 6 j) with z | z
        · exact absurd (nI_lt z (by omega)) c2
        · exact z
      unfold p_X6_isLate
      refine ⟨by omega, value_y (row := 2) (by decide) (by omega) ?_⟩
      rw [ht2, show S.1 (tv t) (6 * 2 + j) = nI (d 5 j) from v1, c0]
      refine ⟨fun c4 => c00 ?_, fun c4 => c01 ?_⟩
      · refine rem_y hpn hu h6 h5 (fun S0 hr => ?_)
        have hN0 := hr.N hpn hC.2.2.1
        have hD0 := hr.D ht1 hC.2.1
        rw [show S0.1 (mo 0) 3 = nI (d 8 3) by rw [← hN0 3 (by omega), mv_3], pk_sub hbs]
        intro u eu S1 e1
        have ht4 : S1.2.1 = t := by rw [e1, sti_22, hr.2.2.2.2.2]; exact ht2
        refine ⟨by omega, value_y (row := 4) (by decide) (by omega) ?_⟩
        rw [ht4, show S1.1 (tv t) (6 * 4 + j) = nI (d 7 j) by rw [e1, sti_ne (by unfold tv mo; omega)]; exact (hD0.2.2.2.2.2.2.2 j hj).2.2, show S1.1 (mo 0) 5 = nI (d 8 4) by rw [e1, sti_ne (by omega), ← hN0 4 (by omega), mv_4], nI_add]
        intro u' eu' S2 e2
        rw [show S2.1 (mo 0) 6 = nI (d 8 5) by rw [e2, sti_ne (by omega), e1, sti_ne (by omega), ← hN0 5 (by omega), mv_5], t1]
        intro u'' eu'' S3 e3
        unfold p_X7_sends
        intro R1 e4
        subst e4
        refine r_isOrder_y hr2 hO6 hj (c01 ?_)
        unfold p_X7_isSent
        rw [g5]
        refine br_f c (c00 ?_)
        rw [g3, nI_clamp (by omega), q6, q5, g0]
        refine (⟨vp_in_nI (by omega) (by decide), br_f c2 ⟨vp_in_nI (by omega) (by decide), br_t c4 (not_y hu h21 (fun R0 hn => ⟨vp_in_nI (by omega) (by decide), ?_⟩))⟩⟩)
        have z8 : ∀ i, i < 15 + d 2 0 → R0.1 8 i = nI (d 8 i) := fun i hi => by rw [hn.o _ (by decide) (by decide)]; exact hR.2.2.1 i hi
        have z6 : R0.1 6 j = nI (d 6 j) := by rw [hn.o _ (by decide) (by decide)]; exact r2
        have z7 : R0.1 7 j = nI (d 7 j) := by rw [hn.o _ (by decide) (by decide)]; exact r3
        rw [z8 3 (by omega), z6, pk_sub hbs]
        intro w ew R2 e5
        refine ⟨vp_in_nI (by omega) (by decide), ?_⟩
        rw [show R2.1 8 4 = nI (d 8 4) by rw [e5, sti_ne (by omega)]; exact z8 4 (by omega), show R2.1 7 j = nI (d 7 j) by rw [e5, sti_ne (by omega)]; exact z7, nI_add]
        intro w' ew' R3 e6
        rw [show R3.1 8 5 = nI (d 8 5) by rw [e6, sti_ne (by omega), e5, sti_ne (by omega)]; exact z8 5 (by omega), t1]
        intro w'' ew'' R4 e7
        obtain ⟨f, f3, f4, f5, fo⟩ : ∃ f : Nat → Nat, f 3 = d 8 3 - d 6 j ∧ f 4 = d 8 4 + d 7 j ∧ f 5 = d 8 5 ||| 2 ^ j ∧ ∀ i, i ≠ 3 → i ≠ 4 → i ≠ 5 → f i = d 8 i := ⟨fun i => if i = 3 then d 8 3 - d 6 j else if i = 4 then d 8 4 + d 7 j else if i = 5 then d 8 5 ||| 2 ^ j else d 8 i, rfl, rfl, rfl, fun i a b c => by show (if i = 3 then d 8 3 - d 6 j else if i = 4 then d 8 4 + d 7 j else if i = 5 then d 8 5 ||| 2 ^ j else d 8 i) = _; rw [if_neg a, if_neg b, if_neg c]⟩
        have ans1 : S3.1 (mo 0) 5 = nI (d 8 4 + d 7 j) := by rw [e3, sti_ne (by omega), e2, sti_eq, eu']
        have ans2 : R4.1 8 4 = nI (d 8 4 + d 7 j) := by rw [e7, sti_ne (by omega), e6, sti_eq, ew']
        refine ⟨by rw [ans1, ans2], Rel.act hW ⟨ht1, ht2, ht3⟩ hC hR htr f ?_ hr (fun c i q1 q2 q3 q4 => by rw [e3, sti_ne (fun q => q1 q.1), e2, sti_ne (fun q => q1 q.1), e1, sti_ne (fun q => q1 q.1)]) (by rw [e3, sti_22, e2, sti_22, e1, sti_22]) (fun i hi => ?_) hn (fun c i q1 => by rw [e7, sti_ne (fun q => q1 q.1), e6, sti_ne (fun q => q1 q.1), e5, sti_ne (fun q => q1 q.1)]) (by rw [e7, sti_22, e6, sti_22, e5, sti_22]) (fun i hi => ?_)⟩
        · exact ⟨by rw [fo 0 (by omega) (by omega) (by omega)]; exact b0, by rw [fo 1 (by omega) (by omega) (by omega)]; exact b1, by rw [fo 2 (by omega) (by omega) (by omega)]; omega, by rw [f3]; omega, by rw [f4]; omega, by rw [f5]; exact t2, by rw [fo 6 (by omega) (by omega) (by omega)]; exact b6, fun i hi => by rw [fo (7 + i) (by omega) (by omega) (by omega)]; exact b7 i hi, fun i hi => by rw [fo (15 + i) (by omega) (by omega) (by omega)]; exact b8 i hi⟩
        · rw [e3, mv_sti, if_iff (lc_6 i (by omega)), e2, mv_sti, if_iff (lc_5 i (by omega)), e1, mv_sti, if_iff (lc_3 i (by omega)), hN0 i hi, eu'', eu', eu]
          by_cases i5 : i = 5
          · rw [if_pos i5, i5, f5]
          · rw [if_neg i5]
            by_cases i4 : i = 4
            · rw [if_pos i4, i4, f4]
            · rw [if_neg i4]
              by_cases i3 : i = 3
              · rw [if_pos i3, i3, f3]
              · rw [if_neg i3, fo i i3 i4 i5]
        · rw [e7, sti_1, e6, sti_1, e5, sti_1, z8 i hi, ew, ew', ew'']
          simp only [true_and]
          by_cases i5 : i = 5
          · rw [if_pos i5, i5, f5]
          · rw [if_neg i5]
            by_cases i4 : i = 4
            · rw [if_pos i4, i4, f4]
            · rw [if_neg i4]
              by_cases i3 : i = 3
              · rw [if_pos i3, i3, f3]
              · rw [if_neg i3, fo i i3 i4 i5]
      · unfold p_X7_sends
        intro R1 e1
        subst e1
        refine r_isOrder_y hr2 hO6 hj (c01 ?_)
        unfold p_X7_isSent
        rw [g5]
        refine br_f c (c00 ?_)
        rw [g3, nI_clamp (by omega), q6, q5, g0]
        exact (⟨vp_in_nI (by omega) (by decide), br_f c2 ⟨vp_in_nI (by omega) (by decide), br_f c4 ⟨rfl, hsm⟩⟩⟩)
