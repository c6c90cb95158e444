theorem Rel.sm2 {k : Nat} {d : Dat} {t pn : Nat} {S R S1 R1 : CS} (h1 : WF k d) (h2 : t < 2 ∧ S.2.1 = t ∧ S.2.2.1 = 1 - t ∧ S.1 20 0 = 0) (h3 : CC d t pn S.1) (h4 : RR d R.1) (eS : S1.1 = S.1) (eS1 : S1.2.1 = S.2.1) (eS2 : S1.2.2.1 = S.2.2.1) (eR : ∀ c j, c ≠ 0 → R1.1 c j = R.1 c j) (eR0 : ∀ j, j ≠ 0 → R1.1 0 j = R.1 0 j) (htr : S1.2.2.2 = R1.2.2.2) : Rel (k + 1) S1 R1 :=
  ⟨d, t, pn, h1.up (Nat.le_succ k), by rw [eS1, eS2, eS]; exact h2, by rw [eS]; exact h3, RR.sm (R := R) (R1 := (R1.1, R.2)) h1.2.1.1 h1.2.1.2.1 h4 ⟨fun c j h _ _ _ => eR c j h, eR0, rfl⟩, htr⟩
theorem Rel.seen {k : Nat} {d : Dat} {t pn : Nat} {S R S1 R1 : CS} (h1 : WF k d) (h2 : t < 2 ∧ S.2.1 = t ∧ S.2.2.1 = 1 - t ∧ S.1 20 0 = 0) (h3 : CC d t pn S.1) (h4 : RR d R.1) (h5 : S.2.2.2 = R.2.2.2) (eS : ∀ c j, c ≠ 0 → c ≠ 14 → c ≠ 15 → c ≠ 16 → S1.1 c j = S.1 c j) (eS0 : ∀ j, j ≠ 12 → S1.1 0 j = S.1 0 j) (eS2 : S1.2 = S.2) (eR : ∀ c j, c ≠ 0 → c ≠ 13 → c ≠ 14 → c ≠ 15 → R1.1 c j = R.1 c j) (eR0 : ∀ j, j ≠ 0 → j ≠ 25 → R1.1 0 j = R.1 0 j) (eR2 : R1.2 = R.2) (n : Nat) (fa fb fc : Nat → Nat) (hn : n ≤ 5) (hb : ∀ i, i < n → fa i ≤ 40 ∧ fb i < 8 ∧ fc i ≤ 15) (a1 : S1.1 0 12 = nI n) (a2 : R1.1 0 25 = nI n) (a3 : ∀ i, i < n → S1.1 14 i = nI (fa i) ∧ S1.1 15 i = nI (fb i) ∧ S1.1 16 i = nI (fc i)) (a4 : ∀ i, i < n → R1.1 13 i = nI (fa i) ∧ R1.1 14 i = nI (fb i) ∧ R1.1 15 i = nI (fc i)) : Rel (k + 1) S1 R1 := by
  obtain ⟨w1, w2, w3, w4, w5, w6⟩ := h1.up (Nat.le_succ k)
  obtain ⟨c1, c2, c3, c4, c5, c6⟩ := h3
  obtain ⟨r1, r2, r3, r4, r5, r6⟩ := h4
  have q : ∀ c j, c ≠ 0 ∧ c ≠ 14 ∧ c ≠ 15 ∧ c ≠ 16 → S1.1 c j = S.1 c j := fun c j h => eS c j h.1 h.2.1 h.2.2.1 h.2.2.2
  have z : ∀ c j, c ≠ 0 ∧ c ≠ 13 ∧ c ≠ 14 ∧ c ≠ 15 → R1.1 c j = R.1 c j := fun c j h => eR c j h.1 h.2.1 h.2.2.1 h.2.2.2
  have hm : ∀ m j, mv S1.1 m j = mv S.1 m j := fun m j => mv_congr (fun i => q _ i (by unfold mo; omega)) (fun i => q _ i (by unfold bo; omega)) (fun i => q _ i (by unfold bl; omega)) (fun i => q _ i (by unfold mg; omega))
  have ht := h2.1
  refine ⟨fun a b => if a = 0 ∧ b = 25 then n else if a = 13 then fa b else if a = 14 then fb b else if a = 15 then fc b else d a b, t, pn, ⟨w1, w2, w3, w4, w5, ⟨hn, hb⟩⟩, by rw [eS2, q 20 0 (by decide)]; exact h2, ⟨c1.keep rfl (fun _ => rfl) (q _ _ (by decide)) (fun _ => q _ _ (by decide)), c2.keep (fun _ => rfl) (fun _ => rfl) (fun _ => rfl) (fun _ => rfl) (fun _ => rfl) (fun _ => q _ _ (by unfold tm; omega)) (fun _ => q _ _ (by unfold tv; omega)), c3.keep rfl (fun _ => rfl) (hm 0), c4.keep rfl rfl (fun _ => rfl) (eS0 _ (by decide)) (eS0 _ (by decide)) (fun m j _ _ => hm m j), c5.keep rfl (fun _ => rfl) (fun _ => rfl) (fun _ => q _ _ (by decide)) (fun m j _ _ => hm m j), ⟨a1, a3⟩⟩, ⟨r1.keep rfl (fun _ => rfl) (eR0 _ (by decide) (by decide)) (fun _ => z _ _ (by decide)), r2.keep (fun _ => rfl) (fun _ => rfl) (fun _ => rfl) (fun _ => rfl) (fun _ => rfl) (fun _ _ => z _ _ (by decide)) (fun _ _ => z _ _ (by decide)) (fun _ _ => z _ _ (by decide)) (fun _ _ => z _ _ (by decide)) (fun _ _ => z _ _ (by decide)) w2.1 w2.2.1, r3.keep rfl (fun _ => rfl) (fun _ => z _ _ (by decide)), r4.keep rfl rfl (fun _ => rfl) (eR0 _ (by decide) (by decide)) (fun _ => z _ _ (by decide)), r5.keep rfl (fun _ => rfl) (fun _ => rfl) (fun _ => z _ _ (by decide)) (fun _ => z _ _ (by decide)), ⟨a2, a4⟩⟩, by rw [eS2, eR2]; exact h5⟩
theorem sim_forget (k : Nat) (S R : CS) (_ : k < 64) (h : Rel k S R) : p_X6_forget S (fun r S1 => p_X7_forget R (fun r2 R1 => r = r2 ∧ Rel (k + 1) S1 R1)) := by
  obtain ⟨d, t, pn, hW, ht, hC, hR, htr⟩ := h
  unfold p_X6_forget p_X7_forget
  intro x ex S1 e1 R1 e2 y ey R2 e3
  subst ex e1 e2 ey e3
  refine ⟨?_, Rel.seen hW ht hC hR htr (fun c j h1 _ _ _ => sti_ne (fun q => h1 q.1)) (fun j h1 => sti_ne (fun q => h1 q.2)) rfl (fun c j h1 _ _ _ => ?_) (fun j h1 h2 => ?_) rfl 0 (fun _ => 0) (fun _ => 0) (fun _ => 0) (Nat.zero_le _) (fun i hi => absurd hi (Nat.not_lt_zero i)) sti_eq sti_eq (fun i hi => absurd hi (Nat.not_lt_zero i)) (fun i hi => absurd hi (Nat.not_lt_zero i))⟩
  · rw [sti_ne (by omega), hC.2.2.2.2.2.1, hR.2.2.2.2.2.1]
  · rw [sti_ne (fun q => h1 q.1), sti_ne (fun q => h1 q.1)]
  · rw [sti_ne (fun q => h2 q.2), sti_ne (fun q => h1 q.2)]
theorem sim_saw (k : Nat) (S R : CS) (x1 x2 x3 : Int32) (_ : k < 64) (h : Rel k S R) : p_X6_saw S x1 x2 x3 (fun r S1 => p_X7_saw R x1 x2 x3 (fun r2 R1 => r = r2 ∧ Rel (k + 1) S1 R1)) := by
  obtain ⟨d, t, pn, hW, ht, hC, hR, htr⟩ := h
  have hsm := Rel.sm hW ht hC hR htr (CSm.rf S) (RSm.thr R 0)
  have n0 := hC.2.2.2.2.2.1
  have n1 : (sti R 0 0 0).1 0 25 = nI (d 0 25) := by rw [sti_ne (by omega)]; exact hR.2.2.2.2.2.1
  have hle := hW.2.2.2.2.2.1
  unfold p_X6_saw p_X6_isSide p_X7_saw
  rcases ix3 x1 (n := 41) (by decide) with hx | ⟨i1, h1, rfl⟩
  · have bad : ∀ Q : CS → Prop, ∀ R1 : CS, R1 = sti R 0 0 0 → p_X7_in R1 x1 0 40 (fun r_3 S_2 => (r_3 = 0 → ((-1 : Int32) = -1 ∧ Rel (k + 1) S S_2)) ∧ (¬ r_3 = 0 → Q S_2)) := by
      intro Q R1 e1
      subst e1
      exact in_nN (b := 40) hx (by decide) (c00 ⟨rfl, hsm⟩)
    refine ⟨fun _ => bad _, fun c1 => ⟨fun _ => bad _, fun c2 => ?_⟩⟩
    rcases hx with hx | hx
    · exact absurd hx c1
    · exact absurd (lt_of_nI_le (a := 40) hx (by decide) (by decide)) c2
  · refine br_f (nI_pos (by omega)) (br_f (nI_nlt (a := 40) (by omega) (by decide)) ?_)
    have g1 : ∀ Q : Int32 → CS → Prop, Q 1 (sti R 0 0 0) → p_X7_in (sti R 0 0 0) (nI i1) 0 40 Q := fun Q hQ => in_yN (a := 0) (b := 40) (Nat.zero_le _) (by omega) (by decide) hQ
    rcases ix3 x2 (n := 8) (by decide) with hx | ⟨i2, h2, rfl⟩
    · have bad : ∀ Q : CS → Prop, ∀ R1 : CS, R1 = sti R 0 0 0 → p_X7_in R1 (nI i1) 0 40 (fun r_3 S_2 => (r_3 = 0 → ((-1 : Int32) = -1 ∧ Rel (k + 1) S S_2)) ∧ (¬ r_3 = 0 → p_X7_in S_2 x2 0 7 (fun r_6 S_5 => (r_6 = 0 → ((-1 : Int32) = -1 ∧ Rel (k + 1) S S_5)) ∧ (¬ r_6 = 0 → Q S_5)))) := by
        intro Q R1 e1
        subst e1
        exact g1 _ (c01 (in_nN (b := 7) hx (by decide) (c00 ⟨rfl, hsm⟩)))
      refine ⟨fun _ => c00 (bad _), fun c1 => ⟨fun _ => c00 (bad _), fun c2 => ?_⟩⟩
      rcases hx with hx | hx
      · exact absurd hx c1
      · exact absurd hx c2
    · refine br_f (nI_pos (by omega)) (br_f (nI_ge (b := 8) h2 (by decide)) (c01 ?_))
      have g2 : ∀ Q : Int32 → CS → Prop, Q 1 (sti R 0 0 0) → p_X7_in (sti R 0 0 0) (nI i2) 0 7 Q := fun Q hQ => in_yN (a := 0) (b := 7) (Nat.zero_le _) (by omega) (by decide) hQ
      rcases ix3 x3 (n := 16) (by decide) with hx | ⟨i3, h3, rfl⟩
      · have bad : ∀ Q : CS → Prop, ∀ R1 : CS, R1 = sti R 0 0 0 → p_X7_in R1 (nI i1) 0 40 (fun r_3 S_2 => (r_3 = 0 → ((-1 : Int32) = -1 ∧ Rel (k + 1) S S_2)) ∧ (¬ r_3 = 0 → p_X7_in S_2 (nI i2) 0 7 (fun r_6 S_5 => (r_6 = 0 → ((-1 : Int32) = -1 ∧ Rel (k + 1) S S_5)) ∧ (¬ r_6 = 0 → p_X7_in S_5 x3 0 15 (fun r_9 S_8 => (r_9 = 0 → ((-1 : Int32) = -1 ∧ Rel (k + 1) S S_8)) ∧ (¬ r_9 = 0 → Q S_8)))))) := by
          intro Q R1 e1
          subst e1
          exact g1 _ (c01 (g2 _ (c01 (in_nN (b := 15) hx (by decide) (c00 ⟨rfl, hsm⟩)))))
        refine ⟨fun _ => bad _, fun c1 => ⟨fun c2 => ?_, fun _ => bad _⟩⟩
        rcases hx with hx | hx
        · exact absurd hx c1
        · exact absurd c2 (nle_of_nI_le (a := 15) hx (by decide) (by decide))
      · have g3 : ∀ Q : Int32 → CS → Prop, Q 1 (sti R 0 0 0) → p_X7_in (sti R 0 0 0) (nI i3) 0 15 Q := fun Q hQ => in_yN (a := 0) (b := 15) (Nat.zero_le _) (by omega) (by decide) hQ
        refine br_f (nI_pos (by omega)) (br_t (nI_le (b := 15) (by omega) (by decide)) ?_)
        obtain ⟨n, hnd⟩ : ∃ n, n = d 0 25 := ⟨_, rfl⟩
        rw [← hnd] at n0 n1 hle
        rw [n0]
        refine br_f (nI_pos (by omega)) ?_
        by_cases h5 : n < 5
        · refine br_t (nI_lt (b := 5) h5 (by decide)) ⟨vp_in_nI h5 (by decide), ?_⟩
          rw [nI_clamp (by omega)]
          intro S1 e1
          have f1 : S1.1 0 12 = nI n := by rw [e1, sti_ne (by omega)]; exact n0
          rw [f1, nI_clamp (by omega)]
          refine ⟨vp_in_nI h5 (by decide), ?_⟩
          intro S2 e2
          have f2 : S2.1 0 12 = nI n := by rw [e2, sti_ne (by omega)]; exact f1
          rw [f2, nI_clamp (by omega)]
          refine ⟨vp_in_nI h5 (by decide), ?_⟩
          intro S3 e3 u eu S4 e4
          have f3 : S3.1 0 12 = nI n := by rw [e3, sti_ne (by omega)]; exact f2
          rw [f3, nI_1] at eu
          intro R1 e5
          subst e5
          refine g1 _ (c01 (g2 _ (c01 (g3 _ (c01 ?_)))))
          rw [n1, nI_clamp (by omega)]
          refine br_f (fun q => absurd ((nI_eq (b := 5) (by omega) (by decide)).mp q) (by omega)) ⟨vp_in_nI h5 (by decide), ?_⟩
          intro R2 e6
          have f6 : R2.1 0 25 = nI n := by rw [e6, sti_ne (by omega)]; exact n1
          rw [f6, nI_clamp (by omega)]
          refine ⟨vp_in_nI h5 (by decide), ?_⟩
          intro R3 e7
          have f7 : R3.1 0 25 = nI n := by rw [e7, sti_ne (by omega)]; exact f6
          rw [f7, nI_clamp (by omega)]
          refine ⟨vp_in_nI h5 (by decide), ?_⟩
          intro R4 e8 u2 eu2 R5 e9
          have f8 : R4.1 0 25 = nI n := by rw [e8, sti_ne (by omega)]; exact f7
          rw [f8, nI_1] at eu2
          have a1 : S4.1 0 12 = nI (n + 1) := by rw [e4, sti_eq, eu]
          have a2 : R5.1 0 25 = nI (n + 1) := by rw [e9, sti_eq, eu2]
          refine ⟨by rw [a1, a2], Rel.seen hW ht hC hR htr (fun c j q0 q1 q2 q3 => ?_) (fun j q0 => ?_) (by rw [e4, sti_22, e3, sti_22, e2, sti_22, e1, sti_22]) (fun c j q0 q1 q2 q3 => ?_) (fun j q0 q1 => ?_) (by rw [e9, sti_22, e8, sti_22, e7, sti_22, e6, sti_22, sti_22]) (n + 1) (fun i => if i = n then i1 else d 13 i) (fun i => if i = n then i2 else d 14 i) (fun i => if i = n then i3 else d 15 i) (by omega) (fun i hi => ?_) a1 a2 (fun i hi => ?_) (fun i hi => ?_)⟩
          · rw [e4, sti_ne (fun q => q0 q.1), e3, sti_ne (fun q => q3 q.1), e2, sti_ne (fun q => q2 q.1), e1, sti_ne (fun q => q1 q.1)]
          · rw [e4, sti_ne (fun q => q0 q.2), e3, sti_ne (by omega), e2, sti_ne (by omega), e1, sti_ne (by omega)]
          · rw [e9, sti_ne (fun q => q0 q.1), e8, sti_ne (fun q => q3 q.1), e7, sti_ne (fun q => q2 q.1), e6, sti_ne (fun q => q1 q.1), sti_ne (fun q => q0 q.1)]
          · rw [e9, sti_ne (fun q => q1 q.2), e8, sti_ne (by omega), e7, sti_ne (by omega), e6, sti_ne (by omega), sti_ne (fun q => q0 q.2)]
          · by_cases hi2 : i = n
            · simp only [hi2, if_true]; omega
            · simp only [hi2, if_false]; exact hW.2.2.2.2.2.2 i (by omega)
          · have hh : S4.1 14 i = (if i = n then nI i1 else S.1 14 i) ∧ S4.1 15 i = (if i = n then nI i2 else S.1 15 i) ∧ S4.1 16 i = (if i = n then nI i3 else S.1 16 i) := by
              refine ⟨?_, ?_, ?_⟩
              · rw [e4, sti_ne (by omega), e3, sti_ne (by omega), e2, sti_ne (by omega), e1, sti_1]; simp
              · rw [e4, sti_ne (by omega), e3, sti_ne (by omega), e2, sti_1, e1, sti_ne (by omega)]; simp
              · rw [e4, sti_ne (by omega), e3, sti_1, e2, sti_ne (by omega), e1, sti_ne (by omega)]; simp
            rw [hh.1, hh.2.1, hh.2.2]
            by_cases hi2 : i = n
            · simp only [hi2, if_true]; exact ⟨trivial, trivial, trivial⟩
            · simp only [hi2, if_false]; exact hC.2.2.2.2.2.2 i (by omega)
          · have hh : R5.1 13 i = (if i = n then nI i1 else R.1 13 i) ∧ R5.1 14 i = (if i = n then nI i2 else R.1 14 i) ∧ R5.1 15 i = (if i = n then nI i3 else R.1 15 i) := by
              refine ⟨?_, ?_, ?_⟩
              · rw [e9, sti_ne (by omega), e8, sti_ne (by omega), e7, sti_ne (by omega), e6, sti_1, sti_ne (by omega)]; simp
              · rw [e9, sti_ne (by omega), e8, sti_ne (by omega), e7, sti_1, e6, sti_ne (by omega), sti_ne (by omega)]; simp
              · rw [e9, sti_ne (by omega), e8, sti_1, e7, sti_ne (by omega), e6, sti_ne (by omega), sti_ne (by omega)]; simp
            rw [hh.1, hh.2.1, hh.2.2]
            by_cases hi2 : i = n
            · simp only [hi2, if_true]; exact ⟨trivial, trivial, trivial⟩
            · simp only [hi2, if_false]; exact hR.2.2.2.2.2.2 i (by omega)
        · have hn5 : n = 5 := by omega
          subst hn5
          refine br_f (by decide) ?_
          intro R1 e5
          subst e5
          refine g1 _ (c01 (g2 _ (c01 (g3 _ (c01 ?_)))))
          rw [n1]
          exact br_t rfl ⟨rfl, hsm⟩
