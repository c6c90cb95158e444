theorem last_ar {B n i j : Nat} (hB : 0 < B) (hj : j < n) (hi : i + 1 = B ^ n) (h1 : i % B ^ j = B ^ j - 1) : i / B ^ j % B = B - 1 := by
  have hp : 0 < B ^ j := Nat.pow_pos hB
  obtain ⟨f, rfl⟩ : ∃ f, n = j + (f + 1) := ⟨n - j - 1, by omega⟩
  have e1 : i + 1 = B ^ j * (i / B ^ j + 1) := by
    have := Nat.div_add_mod i (B ^ j)
    rw [h1] at this
    rw [Nat.mul_add, Nat.mul_one]
    omega
  have e2 : i / B ^ j + 1 = B ^ f * B := by
    have : B ^ j * (i / B ^ j + 1) = B ^ j * (B ^ f * B) := by rw [← e1, hi, Nat.pow_add, Nat.pow_succ]
    exact Nat.eq_of_mul_eq_mul_left hp this
  have hf : 0 < B ^ f := Nat.pow_pos hB
  obtain ⟨r, hr⟩ : ∃ r, B ^ f = r + 1 := ⟨B ^ f - 1, by omega⟩
  have e3 : i / B ^ j = B * r + (B - 1) := by
    rw [hr, Nat.add_mul, Nat.one_mul, Nat.mul_comm] at e2
    omega
  rw [e3, Nat.mul_add_mod, Nat.mod_eq_of_lt (by omega)]
theorem row_dec : ∀ a, a < 8 → ∀ p, p < 7 → (nI a - 1 = nI p ↔ a = p + 1) := by decide +kernel
theorem rowm_dec : ∀ a, a < 8 → (nI a - 1 = -1 ↔ a = 0) ∧ nI a - 1 + 1 = nI a := by decide +kernel
/-! the class's planner -/
def PC (S S1 : CS) : Prop := (∀ c i, c ≠ 17 → c ≠ 18 → c ≠ 19 → c ≠ 20 → S1.1 c i = S.1 c i) ∧ S1.1 20 0 = 0 ∧ S1.2 = S.2
theorem PC.csm {S S1 : CS} (h : PC S S1) (h0 : S.1 20 0 = 0) : CSm S S1 := by
  refine ⟨fun c j hc => ?_, h.2.2⟩
  rcases hc with hc | ⟨a, b⟩
  · exact h.1 c j (by omega) (by omega) (by omega) (by omega)
  · rw [a, b, h.2.1, h0]
def Row (S : CS) (c : Nat → Nat) : Prop := ∀ y, y < 4 → S.1 18 y = nI (c y) - 1
theorem got_y {S S1 : CS} {k t y : Nat} {d : Dat} {c : Nat → Nat} {post : Int32 → CS → Prop} (hW : WF k d) (hD : CD d t S.1) (hN : CN d S.1) (ht1 : t < 2) (hP : PC S S1) (hR : Row S1 c) (hy : y < 4) (hc : ∀ z, c z ≤ d 2 0) (h : post (nI (gn d c y)) S1) : p_X2_gotIn S1 (nI y) t 0 post := by
  have hP6 := hW.2.1.1
  have hrp := hW.2.1.2.2.1.2
  unfold p_X2_gotIn
  rw [nI_clamp (by omega), hR y hy]
  refine ⟨vp_in_nI hy (by decide), ?_⟩
  intro x4 ex4
  have hcy := hc y
  by_cases h0 : c y = 0
  · refine br_t (by rw [ex4]; exact ((rowm_dec (c y) (by omega)).1).mpr h0) ?_
    unfold gn at h
    rw [if_pos h0] at h
    exact h
  · obtain ⟨p, hp⟩ : ∃ p, c y = p + 1 := ⟨c y - 1, by omega⟩
    have hpP : p < d 2 0 := by omega
    rw [hp, nI_pred] at ex4
    subst ex4
    have h8 := hW.2.2.1.2.2.2.2.2.2.2.2 p hpP
    refine br_f (fun q => ?_) (age_y (by omega) ?_)
    · have := ((rowm_dec (c y) (by omega)).1).mp (by rw [hp, nI_pred]; exact q)
      omega
    intro x5 ex5
    rw [show S1.1 (mg 0) p = nI (d 8 (15 + p)) by rw [hP.1 _ _ (by unfold mg; omega) (by unfold mg; omega) (by unfold mg; omega) (by unfold mg; omega), ← hN (15 + p) (by omega), mv_a], nI_add] at ex5
    refine loop_0 (σ := Int32) (fun n i a => q_X2_gotIn_29 (nI y) t 0 post n (nI p) a (nI i) S1) (fun i a => a = nI (acl d c p y i)) y x5 ex5 (fun n a hI => ?_) (fun n i a hi hI ih => ?_)
    · rw [q_X2_gotIn_29, hI]
      unfold p_X5_ripe
      refine br_t (nI_le (Nat.le_refl _) (by omega)) (value_y (row := 0) (by decide) (by omega) (value_y (row := 5) (i := 0) (by decide) (by decide) (gift_y ?_)))
      have htv : ∀ i, S1.1 (tv t) i = S.1 (tv t) i := fun i => hP.1 _ _ (by unfold tv; omega) (by unfold tv; omega) (by unfold tv; omega) (by unfold tv; omega)
      have hal := acl_le (c := c) (y := y) h8 y
      rw [htv, htv, show S.1 (tv t) (6 * 0 + p) = nI (d 3 p) by rw [Nat.mul_zero, Nat.zero_add]; exact hD.2.2.2.2.2.2.1 p hpP, show S.1 (tv t) (6 * 5 + 0) = nI (d 2 2) from hD.2.2.1, gfI_nI _ (by omega) (by omega), acl_gn hW hy hpP hp]
      exact h
    · rw [q_X2_gotIn_29, hI, nI_clamp (by omega), hR i (by omega)]
      have hci := hc i
      refine br_f (nI_ge hi (by omega)) ⟨vp_in_nI (by omega) (by decide), fun q => ?_, fun q => ?_⟩
      · have hq := (row_dec (c i) (by omega) p (by omega)).mp q
        intro z ez w ew
        rw [pk_sub (by omega)] at ez
        rw [ew, nI_1]
        exact ih _ (by rw [acl_s, if_pos hq]; exact ez)
      · have hq : ¬ c i = p + 1 := fun e => q ((row_dec (c i) (by omega) p (by omega)).mpr e)
        intro w ew
        rw [ew, nI_1]
        exact ih _ (by rw [acl_s, if_neg hq])
theorem compare_y {S1 : CS} {x : Int32} {post : CS → Prop} (h1 : x ≤ S1.1 17 0 → post S1) (h2 : ¬ x ≤ S1.1 17 0 → ∀ S2 : CS, S2.1 17 0 = x → (∀ y, y < 4 → S2.1 19 y = S1.1 18 y) → (∀ c i, c ≠ 17 → c ≠ 19 → S2.1 c i = S1.1 c i) → S2.2 = S1.2 → post S2) : p_X2_compare S1 x post := by
  unfold p_X2_compare
  refine ⟨h1, fun q => ?_⟩
  intro S2 e2
  refine loop_0 (fun n i S3 => q_X2_compare_15 x post n (nI i) S3) (fun i S3 => (∀ y, y < i → S3.1 19 y = S1.1 18 y) ∧ (∀ c i, c ≠ 19 → S3.1 c i = S2.1 c i) ∧ S3.2 = S2.2) 4 S2 ⟨fun y hy => absurd hy (Nat.not_lt_zero y), fun _ _ _ => rfl, rfl⟩ (fun n S3 hI => ?_) (fun n i S3 hi hI ih => ?_)
  · rw [q_X2_compare_15]
    exact br_t (show (4 : Int32) ≤ nI 4 by decide) (h2 q S3 (by rw [hI.2.1 17 0 (by decide), e2, sti_eq]) hI.1 (fun c i a b => by rw [hI.2.1 c i b, e2, sti_ne (fun z => a z.1)]) (by rw [hI.2.2, e2, sti_22]))
  · rw [q_X2_compare_15, nI_clamp (by omega)]
    refine br_f (nI_ge (b := 4) hi (by decide)) ⟨vp_in_nI hi (by decide), ?_⟩
    intro u eu
    refine ⟨vp_in_nI hi (by decide), ?_⟩
    intro S4 e4 z ez
    rw [ez, nI_1]
    refine ih S4 ⟨fun y hy => ?_, fun c j hc => by rw [e4, sti_ne (fun w => hc w.1)]; exact hI.2.1 c j hc, by rw [e4, sti_22]; exact hI.2.2⟩
    rw [e4, sti_1]
    by_cases hyi : y = i
    · rw [if_pos ⟨rfl, hyi⟩, eu, hyi, hI.2.1 18 i (by decide), e2, sti_ne (by omega)]
    · rw [if_neg (fun w => hyi w.2)]
      exact hI.1 y (by omega)
theorem y7_s {n j : Nat} (hj : j < n) : nI (n - j) - 1 = nI (n - j - 1) := by
  obtain ⟨m, hm⟩ : ∃ m, n - j = m + 1 := ⟨n - j - 1, by omega⟩
  rw [hm, nI_pred, Nat.add_sub_cancel]
theorem y7_n {n j : Nat} (hj : j < n) : nI (n - j - 1) + (-1) = nI (n - (j + 1)) - 1 := by
  rw [Nat.sub_sub, Int32.sub_eq_add_neg]
theorem nextRow_y {S1 : CS} {n i P : Nat} {post : Int32 → CS → Prop} (hn : n ≤ 4) (hP : P ≤ 6) (hi : i < (P + 1) ^ n) (hR : Row S1 (dg (P + 1) n i)) (h1 : ∀ q S2, q < n → i + 1 < (P + 1) ^ n → Row S2 (dg (P + 1) n (i + 1)) → (∀ y, y < q → dg (P + 1) n (i + 1) y = dg (P + 1) n i y) → (∀ c j, c ≠ 18 → S2.1 c j = S1.1 c j) → S2.2 = S1.2 → post (nI q) S2) (h2 : ∀ S2, i + 1 = (P + 1) ^ n → (∀ c j, c ≠ 18 → S2.1 c j = S1.1 c j) → S2.2 = S1.2 → post (-1) S2) : p_X2_goToNextRow S1 (nI n) (nI P) post := by
  have hB : 0 < P + 1 := by omega
  unfold p_X2_goToNextRow
  intro x3 ex3
  rw [ex3, show nI n - 1 = nI (n - 0) - 1 by rw [Nat.sub_zero]]
  refine loop_0 (fun m j S2 => q_X2_goToNextRow_4 (nI n) (nI P) post m (nI (n - j) - 1) S2) (fun j S2 => i % (P + 1) ^ j = (P + 1) ^ j - 1 ∧ (∀ y, y < 4 → S2.1 18 y = if n - j ≤ y then -1 else nI (dg (P + 1) n i y) - 1) ∧ (∀ c j, c ≠ 18 → S2.1 c j = S1.1 c j) ∧ S2.2 = S1.2) n S1 ⟨by rw [Nat.pow_zero, Nat.mod_one], fun y hy => ?_, fun _ _ _ => rfl, rfl⟩ (fun m S2 hI => ?_) (fun m j S2 hj hI ih => ?_)
  · rw [Nat.sub_zero, hR y hy]
    by_cases hc : n ≤ y
    · rw [if_pos hc]
      unfold dg
      rw [if_neg (by omega)]
      rfl
    · rw [if_neg hc]
  · rw [q_X2_goToNextRow_4, Nat.sub_self]
    refine br_t (by decide) (h2 S2 ?_ hI.2.2.1 hI.2.2.2)
    have := hI.1
    rw [Nat.mod_eq_of_lt hi] at this
    omega
  · obtain ⟨i1, i2, i3, i4⟩ := hI
    have hdg : dg (P + 1) n i (n - j - 1) = i / (P + 1) ^ j % (P + 1) := by
      unfold dg
      rw [if_pos (by omega), show n - 1 - (n - j - 1) = j by omega]
    have hlt := dg_lt (B := P + 1) (n := n) (i := i) (y := n - j - 1) hB
    have hcell : S2.1 18 (n - j - 1) = nI (dg (P + 1) n i (n - j - 1)) - 1 := by rw [i2 _ (by omega), if_neg (by omega)]
    rw [q_X2_goToNextRow_4, y7_s hj, nI_clamp (by omega), hcell, (rowm_dec _ (by omega)).2]
    refine br_f (nI_pos (by omega)) ⟨vp_in_nI (by omega) (by decide), fun q => ⟨vp_in_nI (by omega) (by decide), ?_⟩, fun q => ⟨vp_in_nI (by omega) (by decide), ?_⟩⟩
    · have hq : P ≤ dg (P + 1) n i (n - j - 1) := (nI_leI (by omega) (by omega)).mp q
      intro S3 e3 z ez
      rw [ez, y7_n hj]
      refine ih S3 ⟨carry_ar hB i1 (by rw [← hdg]; omega), fun y hy => ?_, fun c j' hc => by rw [e3, sti_ne (fun w => hc w.1)]; exact i3 c j' hc, by rw [e3, sti_22]; exact i4⟩
      rw [e3, sti_1]
      by_cases hy2 : y = n - j - 1
      · rw [if_pos ⟨rfl, hy2⟩, if_pos (by omega)]
      · rw [if_neg (fun w => hy2 w.2), i2 y hy]
        by_cases hy3 : n - j ≤ y
        · rw [if_pos hy3, if_pos (by omega)]
        · rw [if_neg hy3, if_neg (by omega)]
    · have hq : dg (P + 1) n i (n - j - 1) < P := by
        rcases Nat.lt_or_ge (dg (P + 1) n i (n - j - 1)) P with z | z
        · exact z
        · exact absurd (nI_le z (by omega)) q
      intro u eu
      refine ⟨vp_in_nI (by omega) (by decide), ?_⟩
      intro S3 e3
      have hne : i / (P + 1) ^ j % (P + 1) ≠ P + 1 - 1 := by rw [← hdg]; omega
      have hnx : ∀ y, y < n → dg (P + 1) n (i + 1) y = if n - 1 - j < y then 0 else if y = n - j - 1 then dg (P + 1) n i (n - j - 1) + 1 else dg (P + 1) n i y := by
        intro y hy
        have := next_ar (e := n - 1 - y) hB i1 hne
        rw [hdg]
        unfold dg
        rw [if_pos hy, this, if_pos hy]
        by_cases c1 : n - 1 - j < y
        · rw [if_pos c1, if_pos (by omega)]
        · rw [if_neg c1, if_neg (by omega)]
          by_cases c2 : y = n - j - 1
          · rw [if_pos c2, if_pos (by omega)]
          · rw [if_neg c2, if_neg (by omega)]
      have hlast : i + 1 < (P + 1) ^ n := by
        rcases Nat.lt_or_ge (i + 1) ((P + 1) ^ n) with z | z
        · exact z
        · exact absurd (last_ar hB hj (by omega) i1) hne
      refine h1 (n - j - 1) S3 (by omega) hlast (fun y hy => ?_) (fun y hy => ?_) (fun c j' hc => by rw [e3, sti_ne (fun w => hc w.1)]; exact i3 c j' hc) (by rw [e3, sti_22]; exact i4)
      · rw [e3, sti_1]
        by_cases hyn : y < n
        · rw [hnx y hyn]
          by_cases hy2 : y = n - j - 1
          · rw [if_pos ⟨rfl, hy2⟩, if_neg (by omega), if_pos hy2, nI_pred, eu]
          · rw [if_neg (fun w => hy2 w.2), i2 y hy]
            by_cases hy3 : n - j ≤ y
            · rw [if_pos hy3, if_pos (by omega)]; rfl
            · rw [if_neg hy3, if_neg (by omega), if_neg hy2]
        · rw [if_neg (by omega), i2 y hy, if_pos (by omega)]
          unfold dg
          rw [if_neg hyn]
          rfl
      · rw [hnx y (by omega), if_neg (by omega), if_neg (by omega)]
