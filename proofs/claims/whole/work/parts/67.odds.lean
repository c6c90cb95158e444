/-! odds -/
theorem power_y {S : CS} {p e : Nat} {post : Int32 → CS → Prop} (he : e < 2 ^ 31) (h : post (nI (p ^ e)) S) : p_X6_power S (nI p) (nI e) post := by
  unfold p_X6_power
  refine loop_0 (σ := Int32) (fun n i y => q_X6_power_4 (nI p) (nI e) post n y (nI i) S) (fun i y => y = nI (p ^ i)) e 1 rfl (fun n y hI => ?_) (fun n i y hi hI ih => ?_)
  · rw [q_X6_power_4, hI]
    exact br_t (nI_le (Nat.le_refl _) he) h
  · rw [q_X6_power_4, hI, pk_mul]
    refine br_f (nI_ge hi he) ?_
    intro y' ey x ex
    rw [ex, nI_1]
    exact ih _ (by rw [Nat.pow_succ]; exact ey)
theorem r_power_y {S : CS} {p e : Nat} {post : Int32 → CS → Prop} (he : e < 2 ^ 31) (h : post (nI (p ^ e)) S) : p_X7_power S (nI p) (nI e) post := by
  unfold p_X7_power
  refine loop_0 (σ := Int32) (fun n i y => q_X7_power_4 (nI p) (nI e) post n y (nI i) S) (fun i y => y = nI (p ^ i)) e 1 rfl (fun n y hI => ?_) (fun n i y hi hI ih => ?_)
  · rw [q_X7_power_4, hI]
    exact br_t (nI_le (Nat.le_refl _) he) h
  · rw [q_X7_power_4, hI, pk_mul]
    refine br_f (nI_ge hi he) ?_
    intro y' ey x ex
    rw [ex, nI_1]
    exact ih _ (by rw [Nat.pow_succ]; exact ey)
def chi (n y : Nat) : Nat → Nat
  | 0 => 1
  | i + 1 => chi n y i * (n - y + (i + 1)) / (i + 1)
theorem chi_s (n y i : Nat) : chi n y (i + 1) = chi n y i * (n - y + (i + 1)) / (i + 1) := rfl
theorem chi_dec : ∀ n, n < 7 → ∀ y, y < 7 → ∀ i, i < 7 → chi n y i * (n - y + (i + 1)) < 2 ^ 31 := by decide +kernel
theorem ways_y {S : CS} {n y : Nat} {post : Int32 → CS → Prop} (hn : n < 7) (hy : y ≤ n) (h : post (nI (chi n y y)) S) : p_X6_waysToChoose S (nI n) (nI y) post := by
  unfold p_X6_waysToChoose
  refine loop_0 (σ := Int32) (fun m i z => q_X6_waysToChoose_4 (nI n) (nI y) post m z (nI (i + 1)) S) (fun i z => z = nI (chi n y i)) y 1 rfl (fun m z hI => ?_) (fun m i z hi hI ih => ?_)
  · rw [q_X6_waysToChoose_4, hI]
    exact br_t (nI_lt (by omega) (by omega)) h
  · rw [q_X6_waysToChoose_4, hI, pk_sub hy, nI_add, pk_mul]
    have hne : ¬ nI (i + 1) = 0 := fun q => absurd ((nI_z (by omega)).mp q) (by omega)
    refine br_f (nI_nlt (by omega) (by omega)) ⟨hne, ?_⟩
    rw [pk_div (chi_dec n hn y (by omega) i (by omega)) (by omega) (by omega)]
    intro z' ez x ex
    rw [ex, nI_1]
    exact ih _ (by rw [chi_s]; exact ez)
def csu (p n x : Nat) : Nat → Nat
  | 0 => 0
  | i + 1 => csu p n x i + chi n (x + i) (x + i) * (10 - p) ^ (x + i) * p ^ (n - (x + i))
theorem csu_s (p n x i : Nat) : csu p n x (i + 1) = csu p n x i + chi n (x + i) (x + i) * (10 - p) ^ (x + i) * p ^ (n - (x + i)) := rfl
def rsu (p n x : Nat) : Nat → Nat
  | 0 => 0
  | m + 1 => if pb m 8 < x then rsu p n x m else rsu p n x m + (10 - p) ^ (pb m 8) * p ^ (n - pb m 8)
theorem rsu_s (p n x m : Nat) : rsu p n x (m + 1) = if pb m 8 < x then rsu p n x m else rsu p n x m + (10 - p) ^ (pb m 8) * p ^ (n - pb m 8) := rfl
theorem od_dec : ∀ p, p < 11 → ∀ n, n < 7 → ∀ x, x < 7 → csu p n x (n + 1 - x) = rsu p n x (2 ^ n) ∧ rsu p n x (2 ^ n) ≤ 1000000 := by decide +kernel
theorem pbn_dec : ∀ n, n < 7 → ∀ m, m < 2 ^ n → pb m 8 ≤ n := by decide +kernel
theorem ten_dec : ∀ n, n < 7 → 0 < 10 ^ n ∧ 10 ^ n ≤ 1000000 := by decide
theorem sim_odds (k : Nat) (S R : CS) (x1 x2 x3 x4 : Int32) (hk : k < 64) (h : Rel k S R) : p_X6_odds S x1 x2 x3 x4 (fun r S1 => p_X7_odds R x1 x2 x3 x4 (fun r2 R1 => r = r2 ∧ Rel (k + 1) S1 R1)) := by
  obtain ⟨d, t, pn, hW, ⟨ht1, ht2, ht3⟩, hC, hR, htr⟩ := h
  have hsm := Rel.sm hW ⟨ht1, ht2, ht3⟩ hC hR htr (CSm.rf S) (RSm.thr R 0)
  unfold p_X6_odds
  rcases rng x1 0 10 (by decide) (by decide) with hx | ⟨p, -, p10, rfl⟩
  · have fin : p_X7_odds R x1 x2 x3 x4 (fun r2 R1 => -1 = r2 ∧ Rel (k + 1) S R1) := by
      unfold p_X7_odds
      intro R1 e1
      subst e1
      exact in_n hx (c00 ⟨rfl, hsm⟩)
    rcases hx with hx | hx
    · exact br_t hx fin
    · exact ⟨fun _ => fin, fun _ => br_t hx fin⟩
  refine br_f (nI_pos (by omega)) (br_f (show ¬ (10 : Int32) < nI p from nI_nlt (a := 10) (b := p) p10 (by decide)) ?_)
  rcases rng x2 0 6 (by decide) (by decide) with hx | ⟨n, -, n6, rfl⟩
  · have fin : p_X7_odds R (nI p) x2 x3 x4 (fun r2 R1 => -1 = r2 ∧ Rel (k + 1) S R1) := by
      unfold p_X7_odds
      intro R1 e1
      subst e1
      exact in_yN (a := 0) (b := 10) (by omega) p10 (by decide) (c01 (in_n hx (c00 ⟨rfl, hsm⟩)))
    rcases hx with hx | hx
    · exact br_t hx fin
    · exact ⟨fun _ => fin, fun _ => br_t hx fin⟩
  refine br_f (nI_pos (by omega)) (br_f (show ¬ (6 : Int32) < nI n from nI_nlt (a := 6) (b := n) n6 (by decide)) ?_)
  rcases rng x3 0 6 (by decide) (by decide) with hx | ⟨x, -, x6, rfl⟩
  · have fin : p_X7_odds R (nI p) (nI n) x3 x4 (fun r2 R1 => -1 = r2 ∧ Rel (k + 1) S R1) := by
      unfold p_X7_odds
      intro R1 e1
      subst e1
      exact in_yN (a := 0) (b := 10) (by omega) p10 (by decide) (c01 (in_yN (a := 0) (b := 6) (by omega) n6 (by decide) (c01 (in_n hx (c00 ⟨rfl, hsm⟩)))))
    rcases hx with hx | hx
    · exact br_t hx fin
    · exact ⟨fun _ => fin, fun _ => br_t hx fin⟩
  refine br_f (nI_pos (by omega)) (br_f (show ¬ (6 : Int32) < nI x from nI_nlt (a := 6) (b := x) x6 (by decide)) ?_)
  rcases rng x4 0 1 (by decide) (by decide) with hx | ⟨w, -, w1, rfl⟩
  · have fin : p_X7_odds R (nI p) (nI n) (nI x) x4 (fun r2 R1 => -1 = r2 ∧ Rel (k + 1) S R1) := by
      unfold p_X7_odds
      intro R1 e1
      subst e1
      exact in_yN (a := 0) (b := 10) (by omega) p10 (by decide) (c01 (in_yN (a := 0) (b := 6) (by omega) n6 (by decide) (c01 (in_yN (a := 0) (b := 6) (by omega) x6 (by decide) (c01 (in_n hx (c00 ⟨rfl, hsm⟩)))))))
    rcases hx with hx | hx
    · exact br_t hx fin
    · exact ⟨fun _ => fin, fun _ => br_f (nle_of_lt hx) fin⟩
  refine br_f (nI_pos (by omega)) (br_t (nI_le (b := 1) w1 (by decide)) ?_)
  obtain ⟨o1, o2⟩ := od_dec p (by omega) n (by omega) x (by omega)
  obtain ⟨t1, t2⟩ := ten_dec n (by omega)
  obtain ⟨N, hN⟩ : ∃ N, N = 2 ^ n := ⟨_, rfl⟩
  obtain ⟨T, hT⟩ : ∃ T, T = 10 ^ n := ⟨_, rfl⟩
  obtain ⟨p1, p2⟩ := two_dec n (by omega)
  have pbn := pbn_dec n (by omega)
  rw [← hN] at o1 o2 p1 p2 pbn
  rw [← hT] at t1 t2
  obtain ⟨A, hA⟩ : ∃ A, A = rsu p n x N := ⟨_, rfl⟩
  rw [← hA] at o1 o2
  have e10 : (10 : Int32) - nI p = nI (10 - p) := pk_sub (a := 10) p10
  have g0 : 0 < Nat.gcd A T := Nat.gcd_pos_of_pos_right _ t1
  have gb : Nat.gcd A T ≤ T := Nat.gcd_le_right _ t1
  have hne : ¬ nI (Nat.gcd A T) = 0 := fun q => absurd ((nI_z (by omega)).mp q) (by omega)
  refine loop_0 (σ := Int32) (fun m i y => q_X6_odds_49 (nI p) (nI n) (nI x) (nI w) _ m y (nI (x + i)) S) (fun i y => y = nI (csu p n x i)) (n + 1 - x) 0 rfl (fun m y hI => ?_) (fun m i y hi hI ih => ?_)
  · rw [q_X6_odds_49, hI, o1]
    refine br_t (nI_lt (by omega) (by omega)) (power_y (p := 10) (by omega) ?_)
    rw [← hT]
    refine least_y (by omega) t1 (by omega) (by omega) ?_
    unfold p_X7_odds
    intro R1 e1
    subst e1
    refine in_yN (a := 0) (b := 10) (by omega) p10 (by decide) (c01 (in_yN (a := 0) (b := 6) (by omega) n6 (by decide) (c01 (in_yN (a := 0) (b := 6) (by omega) x6 (by decide) (c01 (in_yN (a := 0) (b := 1) (by omega) w1 (by decide) (c01 ?_)))))))
    refine loop_0 (σ := Int32) (fun m i y => q_X7_odds_53 (nI p) (nI n) (nI x) (nI w) _ m y (nI i) (sti R 0 0 0)) (fun i y => y = nI (rsu p n x i)) N 0 rfl (fun m y hI => ?_) (fun m i y hi hI ih => ?_)
    · rw [q_X7_odds_53, p1, hI, ← hA]
      refine br_t (nI_le (Nat.le_refl _) (by omega)) (r_power_y (p := 10) (by omega) ?_)
      rw [← hT]
      refine r_gcd_y (by omega) (by omega) ?_
      rcases (show w = 0 ∨ w = 1 by omega) with rfl | rfl
      · refine br_t rfl ⟨hne, ?_⟩
        rw [pk_div (by omega) g0 (by omega)]
        exact ⟨rfl, hsm⟩
      · refine br_f (by decide) ⟨hne, ?_⟩
        rw [pk_div (by omega) g0 (by omega)]
        exact ⟨rfl, hsm⟩
    · have hpb := pbn i hi
      rw [q_X7_odds_53, p1, hI]
      refine br_f (nI_ge hi (by omega)) (r_ones_y (by omega) ?_)
      refine ⟨fun c => ?_, fun c => ?_⟩
      · have hc : pb i 8 < x := (nI_ltI (by omega) (by omega)).mp c
        intro y' ey z ez
        rw [ez, nI_1]
        exact ih _ (by rw [rsu_s, if_pos hc, ey, Int32.add_zero])
      · have hc : ¬ pb i 8 < x := fun q => c (nI_lt q (by omega))
        rw [e10]
        refine r_power_y (by omega) ?_
        rw [pk_sub hpb]
        refine r_power_y (by omega) ?_
        intro y' ey z ez
        rw [pk_mul, nI_add] at ey
        rw [ez, nI_1]
        exact ih _ (by rw [rsu_s, if_neg hc]; exact ey)
  · rw [q_X6_odds_49, hI]
    refine br_f (nI_nlt (by omega) (by omega)) (ways_y (by omega) (by omega) ?_)
    rw [e10]
    refine power_y (by omega) ?_
    rw [pk_sub (show x + i ≤ n by omega)]
    refine power_y (by omega) ?_
    intro y' ey z ez
    rw [pk_mul, pk_mul, nI_add] at ey
    rw [ez, nI_1]
    exact ih _ (by rw [csu_s]; exact ey)
