theorem Rel.text {k : Nat} {d : Dat} {t pn : Nat} {S R S1 R1 : CS} (h1 : WF k d) (h2 : t < 2 ∧ S.2.1 = t ∧ S.2.2.1 = 1 - t ∧ S.1 20 0 = 0) (h3 : CC d t pn S.1) (h4 : RR d R.1) (h5 : S.2.2.2 = R.2.2.2) (eS : ∀ c j, c ≠ 1 → c ≠ 2 → S1.1 c j = S.1 c j) (eS2 : S1.2 = S.2) (eR : ∀ c j, c ≠ 0 → c ≠ 1 → R1.1 c j = R.1 c j) (eR0 : ∀ j, j ≠ 0 → j ≠ 3 → R1.1 0 j = R.1 0 j) (eR2 : R1.2 = R.2) (n : Nat) (tx : Nat → Nat) (hn : n ≤ 200) (ht : ∀ i, i < n → tx i < 256) (a1 : S1.1 1 1 = nI n) (a2 : R1.1 0 3 = nI n) (a3 : ∀ i, i < n → S1.1 2 i = nI (tx i)) (a4 : ∀ i, i < n → R1.1 1 i = nI (tx i)) : Rel (k + 1) S1 R1 := by
  obtain ⟨w1, w2, w3, w4, w5, w6⟩ := h1.up (Nat.le_succ k)
  obtain ⟨c1, c2, c3, c4, c5, c6⟩ := h3
  obtain ⟨r1, r2, r3, r4, r5, r6⟩ := h4
  have hm : ∀ m j, mv S1.1 m j = mv S.1 m j := fun m j => mv_congr (fun i => eS _ i (by unfold mo; omega) (by unfold mo; omega)) (fun i => eS _ i (by unfold bo; omega) (by unfold bo; omega)) (fun i => eS _ i (by unfold bl; omega) (by unfold bl; omega)) (fun i => eS _ i (by unfold mg; omega) (by unfold mg; omega))
  refine ⟨fun a b => if a = 0 ∧ b = 3 then n else if a = 1 then tx b else d a b, t, pn, ⟨⟨hn, fun i hi => ht i hi⟩, w2, w3, w4, w5, w6⟩, by rw [eS2, eS 20 0 (by decide) (by decide)]; exact h2, ⟨⟨a1, a3⟩, c2.keep (fun _ => rfl) (fun _ => rfl) (fun _ => rfl) (fun _ => rfl) (fun _ => rfl) (fun _ => eS _ _ (by unfold tm; omega) (by unfold tm; omega)) (fun _ => eS _ _ (by unfold tv; omega) (by unfold tv; omega)), c3.keep rfl (fun _ => rfl) (hm 0), c4.keep rfl rfl (fun _ => rfl) (eS _ _ (by decide) (by decide)) (eS _ _ (by decide) (by decide)) (fun m j _ _ => hm m j), c5.keep rfl (fun _ => rfl) (fun _ => rfl) (fun _ => eS _ _ (by decide) (by decide)) (fun m j _ _ => hm m j), c6.keep rfl (fun _ => rfl) (fun _ => rfl) (fun _ => rfl) (eS _ _ (by decide) (by decide)) (fun _ => eS _ _ (by decide) (by decide)) (fun _ => eS _ _ (by decide) (by decide)) (fun _ => eS _ _ (by decide) (by decide))⟩, ⟨⟨a2, a4⟩, r2.keep (fun _ => rfl) (fun _ => rfl) (fun _ => rfl) (fun _ => rfl) (fun _ => rfl) (fun _ _ => eR _ _ (by decide) (by decide)) (fun _ _ => eR _ _ (by decide) (by decide)) (fun _ _ => eR _ _ (by decide) (by decide)) (fun _ _ => eR _ _ (by decide) (by decide)) (fun _ _ => eR _ _ (by decide) (by decide)) w2.1 w2.2.1, r3.keep rfl (fun _ => rfl) (fun _ => eR _ _ (by decide) (by decide)), r4.keep rfl rfl (fun _ => rfl) (eR0 _ (by decide) (by decide)) (fun _ => eR _ _ (by decide) (by decide)), r5.keep rfl (fun _ => rfl) (fun _ => rfl) (fun _ => eR _ _ (by decide) (by decide)) (fun _ => eR _ _ (by decide) (by decide)), r6.keep rfl (fun _ => rfl) (fun _ => rfl) (fun _ => rfl) (eR0 _ (by decide) (by decide)) (fun _ => eR _ _ (by decide) (by decide)) (fun _ => eR _ _ (by decide) (by decide)) (fun _ => eR _ _ (by decide) (by decide))⟩, by rw [eS2, eR2]; exact h5⟩
theorem sim_clear (k : Nat) (S R : CS) (_ : k < 64) (h : Rel k S R) : p_X6_clear S (fun r S1 => p_X7_clear R (fun r2 R1 => r = r2 ∧ Rel (k + 1) S1 R1)) := by
  obtain ⟨d, t, pn, hW, ht, hC, hR, htr⟩ := h
  unfold p_X6_clear p_X4_size p_X4_empty p_X7_clear
  intro S1 eS1 R1 eR1 x ex R2 eR2
  subst eS1 eR1 ex eR2
  refine ⟨?_, Rel.text hW ht hC hR htr (fun c j h1 h2 => sti_ne (fun q => h1 q.1)) rfl (fun c j h1 h2 => ?_) (fun j h1 h2 => ?_) rfl 0 (fun _ => 0) (Nat.zero_le _) (fun i hi => absurd hi (Nat.not_lt_zero i)) sti_eq sti_eq (fun i hi => absurd hi (Nat.not_lt_zero i)) (fun i hi => absurd hi (Nat.not_lt_zero i))⟩
  · rw [sti_ne (by omega), hC.1.1, hR.1.1]
  · rw [sti_ne (fun q => h1 q.1), sti_ne (fun q => h1 q.1)]
  · rw [sti_ne (fun q => h2 q.2), sti_ne (fun q => h1 q.2)]
theorem char_nI {c : Nat} (hc : c < 256) : vp_nar .char ((nI c).toUInt32 % 65536).toInt32 = nI c := by
  have h : ∀ c, c < 256 → vp_nar .char ((nI c).toUInt32 % 65536).toInt32 = nI c := by decide +kernel
  exact h c hc
theorem sim_type (k : Nat) (S R : CS) (x1 : Int32) (_ : k < 64) (h : Rel k S R) : p_X6_type S x1 (fun r S1 => p_X7_type R x1 (fun r2 R1 => r = r2 ∧ Rel (k + 1) S1 R1)) := by
  obtain ⟨d, t, pn, hW, ht, hC, hR, htr⟩ := h
  have hsm := Rel.sm hW ht hC hR htr (CSm.rf S) (RSm.thr R 0)
  unfold p_X6_type p_X7_type
  rcases ix3 x1 (n := 256) (by decide) with hx | ⟨c, hc, rfl⟩
  · have bad : ∀ R1 : CS, R1 = sti R 0 0 0 → p_X7_in R1 x1 0 255 (fun r_3 S_2 => (r_3 = 0 → ((-1 : Int32) = -1 ∧ Rel (k + 1) S S_2)) ∧ (¬ r_3 = 0 → (S_2.1 0 3 = 200 → ((-1 : Int32) = -3 ∧ Rel (k + 1) S S_2)) ∧ (¬ S_2.1 0 3 = 200 → vp_in (S_2.1 0 3) 200 ∧ ∀ S_6 : CS, S_6 = sti S_2 1 ((S_2.1 0 3).toNatClampNeg) x1 → ∀ u_7 : Int32, u_7 = S_6.1 0 3 + 1 → ∀ S_8 : CS, S_8 = sti S_6 0 3 u_7 → ((-1 : Int32) = S_8.1 0 3 ∧ Rel (k + 1) S S_8)))) := by
      intro R1 e1
      subst e1
      exact in_n (hx.imp id (fun h => lt_of_nI_le (a := 255) h (by decide) (by decide))) ⟨fun _ => ⟨rfl, hsm⟩, fun c => absurd rfl c⟩
    refine ⟨fun _ => bad, fun c1 => ⟨fun c2 => ?_, fun _ => bad⟩⟩
    rcases hx with hx | hx
    · exact absurd hx c1
    · exact absurd c2 (nle_of_nI_le (a := 255) hx (by decide) (by decide))
  · refine ⟨fun q => absurd q (nI_pos (by omega)), fun _ => ⟨fun _ => ?_, fun q => absurd (nI_le (b := 255) (by omega) (by decide)) q⟩⟩
    unfold p_X4_add p_X4_size
    have hn := hC.1.1
    have hn2 := hR.1.1
    have hle := hW.1.1
    generalize d 0 3 = n at hn hn2 hle
    rw [hn]
    refine ⟨fun q => absurd q (nI_pos (by omega)), fun _ => ⟨fun q => ?_, fun q => ?_⟩⟩
    · have hlt : n < 200 := (nI_ltI (b := 200) (by omega) (by decide)).mp q
      refine ⟨vp_in_nI hlt (by decide), ?_⟩
      intro S1 e1 u e2 S2 e3
      refine ⟨fun q => absurd q ne10, fun _ => ?_⟩
      intro R1 e4
      have hR1 : R1.1 0 3 = nI n := by rw [e4, sti_ne (by omega)]; exact hn2
      refine in_yN (a := 0) (b := 255) (Nat.zero_le c) (by omega) (by decide) ⟨fun q => absurd q ne10, fun _ => ?_⟩
      rw [hR1]
      refine ⟨fun q => absurd ((nI_eq (b := 200) (by omega) (by decide)).mp q) (by omega), fun _ => ⟨vp_in_nI hlt (by decide), ?_⟩⟩
      intro R2 e5 u2 e6 R3 e7
      rw [nI_clamp (by omega)] at e1 e5
      rw [char_nI hc] at e1
      have f1 : S1.1 1 1 = nI n := by rw [e1, sti_ne (by omega)]; exact hn
      have f2 : R2.1 0 3 = nI n := by rw [e5, sti_ne (by omega)]; exact hR1
      rw [f1, nI_1] at e2
      rw [f2, nI_1] at e6
      have g1 : S2.1 1 1 = nI (n + 1) := by rw [e3, sti_eq, e2]
      have g2 : R3.1 0 3 = nI (n + 1) := by rw [e7, sti_eq, e6]
      refine ⟨by rw [g1, g2], Rel.text hW ht hC hR htr (fun c j h1 h2 => ?_) (by rw [e3, sti_22, e1, sti_22]) (fun c j h1 h2 => ?_) (fun j h1 h2 => ?_) (by rw [e7, sti_22, e5, sti_22, e4, sti_22]) (n + 1) (fun i => if i = n then c else d 1 i) (by omega) (fun i hi => ?_) g1 g2 (fun i hi => ?_) (fun i hi => ?_)⟩
      · rw [e3, sti_ne (fun q => h1 q.1), e1, sti_ne (fun q => h2 q.1)]
      · rw [e7, sti_ne (fun q => h1 q.1), e5, sti_ne (fun q => h2 q.1), e4, sti_ne (fun q => h1 q.1)]
      · rw [e7, sti_ne (fun q => h2 q.2), e5, sti_ne (fun q => absurd q.1 (by decide)), e4, sti_ne (fun q => h1 q.2)]
      · by_cases hi2 : i = n
        · simp only [hi2, if_true]; exact hc
        · simp only [hi2, if_false]
          have h9 := hW.1.2 i
          have hh : d 0 3 = n := by
            have h10 := hn.symm.trans hC.1.1
            exact ((nI_eq (by omega) (by have := hW.1.1; omega)).mp h10).symm
          exact h9 (by omega)
      · rw [e3, sti_ne (fun q => absurd q.1 (by decide)), e1, sti_1]
        by_cases hi2 : i = n
        · rw [if_pos ⟨rfl, hi2⟩, if_pos hi2]
        · rw [if_neg (fun q => hi2 q.2), if_neg hi2]
          have hh : d 0 3 = n := by
            have h10 := hn.symm.trans hC.1.1
            exact ((nI_eq (by omega) (by have := hW.1.1; omega)).mp h10).symm
          exact hC.1.2 i (by omega)
      · rw [e7, sti_ne (fun q => absurd q.1 (by decide)), e5, sti_1]
        by_cases hi2 : i = n
        · rw [if_pos ⟨rfl, hi2⟩, if_pos hi2]
        · rw [if_neg (fun q => hi2 q.2), if_neg hi2, e4, sti_ne (fun q => absurd q.1 (by decide))]
          have hh : d 0 3 = n := by
            have h10 := hn.symm.trans hC.1.1
            exact ((nI_eq (by omega) (by have := hW.1.1; omega)).mp h10).symm
          exact hR.1.2 i (by omega)
    · have hge : n = 200 := by
        rcases Nat.lt_or_ge n 200 with h9 | h9
        · exact absurd (nI_lt (b := 200) h9 (by decide)) q
        · omega
      subst hge
      refine ⟨fun _ => ?_, fun q => absurd rfl q⟩
      intro R1 e4
      subst e4
      refine in_yN (a := 0) (b := 255) (Nat.zero_le c) (by omega) (by decide) ⟨fun q => absurd q ne10, fun _ => ⟨fun _ => ⟨rfl, hsm⟩, fun q => ?_⟩⟩
      exact absurd (by rw [sti_ne (by omega), hn2]; rfl) q
theorem sim_trace (k : Nat) (S R : CS) (_ : k < 64) (h : Rel k S R) : p_X6_trace S (fun r S1 => p_X7_trace R (fun r2 R1 => r = r2 ∧ Rel (k + 1) S1 R1)) := by
  obtain ⟨d, t, pn, hW, ht, hC, hR, htr⟩ := h
  unfold p_X6_trace p_X7_trace
  intro R1 e1
  subst e1
  exact ⟨by rw [sti_22]; exact htr, Rel.sm hW ht hC hR htr (CSm.rf S) (RSm.thr R 0)⟩
theorem RN.th {d : Dat} {R : CS} (h : RN d R.1) {j : Nat} (hj : j < 15 + d 2 0) : (sti R 0 0 0).1 8 j = nI (d 8 j) := by rw [sti_ne (by omega)]; exact h j hj
theorem sim_side (k : Nat) (S R : CS) (x1 : Int32) (_ : k < 64) (h : Rel k S R) : p_X6_side S x1 (fun r S1 => p_X7_side R x1 (fun r2 R1 => r = r2 ∧ Rel (k + 1) S1 R1)) := by
  obtain ⟨d, t, pn, hW, ht, hC, hR, htr⟩ := h
  have hsm := Rel.sm hW ht hC hR htr (CSm.rf S) (RSm.thr R 0)
  unfold p_X6_side p_X6_isSide p_X7_side
  rcases ix3 x1 (n := 8) (by decide) with hx | ⟨j, hj, rfl⟩
  · have bad : ∀ R1 : CS, R1 = sti R 0 0 0 → p_X7_in R1 x1 0 7 (fun r_3 S_2 => (r_3 = 0 → ((-1 : Int32) = -1 ∧ Rel (k + 1) S S_2)) ∧ (¬ r_3 = 0 → vp_in (7 + x1) 21 ∧ ((-1 : Int32) = S_2.1 8 ((7 + x1).toNatClampNeg) ∧ Rel (k + 1) S S_2))) := by
      intro R1 e1
      subst e1
      exact in_n (hx.imp id (fun h => lt_of_nI_le (a := 7) h (by decide) (by decide))) ⟨fun _ => ⟨rfl, hsm⟩, fun c => absurd rfl c⟩
    refine ⟨fun _ => ⟨fun _ => bad, fun c => absurd rfl c⟩, fun c1 => ⟨fun _ => ⟨fun _ => bad, fun c => absurd rfl c⟩, fun c2 => ?_⟩⟩
    rcases hx with hx | hx
    · exact absurd hx c1
    · exact absurd hx c2
  · refine ⟨fun q => absurd q (nI_pos (by omega)), fun _ => ⟨fun q => absurd q (nI_ge (b := 8) hj (by decide)), fun _ => ⟨fun q => absurd q ne10, fun _ => ?_⟩⟩⟩
    unfold p_X0_lengthOf
    refine ⟨fun q => absurd q (nI_pos (by omega)), fun _ => ⟨fun _ => ⟨vp_in_nI hj (by decide), ?_⟩, fun q => absurd (nI_lt (b := 8) hj (by decide)) q⟩⟩
    intro R1 e1
    subst e1
    refine in_yN (a := 0) (b := 7) (Nat.zero_le j) (by omega) (by decide) ⟨fun q => absurd q ne10, fun _ => ?_⟩
    have e7 : (7 : Int32) + nI j = nI (7 + j) := by rw [show (7 : Int32) = nI 7 from rfl, nI_add]
    rw [e7, nI_clamp (by omega), nI_clamp (by omega)]
    refine ⟨vp_in_nI (by omega) (by decide), ?_, hsm⟩
    rw [hR.2.2.1.th (by omega), ← hC.2.2.1 (7 + j) (by omega), mv_l _ _ hj]
