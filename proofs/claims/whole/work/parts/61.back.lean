/-! going back to a moment -/
def dNow (d : Dat) (f : Nat → Nat) (u : Nat) : Dat := fun a b => if a = 8 then f b else if a = 0 ∧ b = 21 then u else d a b
theorem Rel.now {k : Nat} {d : Dat} {t pn : Nat} {S R S1 R1 : CS} (h1 : WF k d) (h2 : t < 2 ∧ S.2.1 = t ∧ S.2.2.1 = 1 - t ∧ S.1 20 0 = 0) (h3 : CC d t pn S.1) (h4 : RR d R.1) (h5 : S.2.2.2 = R.2.2.2) (f : Nat → Nat) (u p : Nat) (hf : VB (k + 1) (d 2 0) f) (hu : u ≤ d 0 21) (hp : p < 10) (hm : ∀ j, j < u → (p + 10 - u + j) % 10 = (pn + 10 - d 0 21 + j) % 10)
    (e0 : ∀ j, j ≠ 5 → j ≠ 6 → S1.1 0 j = S.1 0 j) (e5 : S1.1 0 5 = nI u) (e6 : S1.1 0 6 = nI p) (e1 : ∀ c i, c ≠ 0 → c ≠ mo 0 → c ≠ mg 0 → c ≠ bo 1 → c ≠ bl 1 → S1.1 c i = S.1 c i) (e2 : S1.2 = S.2) (e3 : ∀ j, j < 15 + d 2 0 → mv S1.1 0 j = nI (f j))
    (g0 : ∀ j, j ≠ 0 → j ≠ 21 → R1.1 0 j = R.1 0 j) (g21 : R1.1 0 21 = nI u) (g1 : ∀ c i, c ≠ 0 → c ≠ 8 → R1.1 c i = R.1 c i) (g2 : R1.2 = R.2) (g3 : ∀ j, j < 15 + d 2 0 → R1.1 8 j = nI (f j)) : Rel (k + 1) S1 R1 := by
  obtain ⟨w1, w2, w3, w4, w5, w6⟩ := h1.up (Nat.le_succ k)
  obtain ⟨c1, c2, c3, ⟨cu1, cu2, cu3, cu4⟩, c5, c6⟩ := h3
  obtain ⟨r1, r2, r3, ⟨ru1, ru2⟩, r5, r6⟩ := h4
  have hP := w2.1
  have ht := h2.1
  have small : ∀ c i, c ≠ 0 → c < 23 → S1.1 c i = S.1 c i := fun c i a b => e1 c i a (by unfold mo; omega) (by unfold mg; omega) (by unfold bo; omega) (by unfold bl; omega)
  have hmv : ∀ m j, m < 13 → m ≠ 0 → mv S1.1 m j = mv S.1 m j := fun m j h13 a => mv_congr (fun i => e1 _ i (by unfold mo; omega) (by unfold mo; omega) (by unfold mo mg; omega) (by unfold mo bo; omega) (by unfold mo bl; omega)) (fun i => e1 _ i (by unfold bo; omega) (by unfold bo mo; omega) (by unfold bo mg; omega) (by unfold bo; omega) (by unfold bo bl; omega)) (fun i => e1 _ i (by unfold bl; omega) (by unfold bl mo; omega) (by unfold bl mg; omega) (by unfold bl bo; omega) (by unfold bl; omega)) (fun i => e1 _ i (by unfold mg; omega) (by unfold mg mo; omega) (by unfold mg; omega) (by unfold mg bo; omega) (by unfold mg bl; omega))
  have hu10 := w4.1
  refine ⟨dNow d f u, t, p, ⟨w1, w2, hf, ⟨by show u ≤ 10; omega, fun j hj => w4.2 j (by have : j < u := hj; omega)⟩, w5, w6⟩, by rw [e2, small 20 0 (by decide) (by decide)]; exact h2, ⟨c1.keep rfl (fun _ => rfl) (small _ _ (by decide) (by decide)) (fun _ => small _ _ (by decide) (by decide)), c2.keep (fun _ => rfl) (fun _ => rfl) (fun _ => rfl) (fun _ => rfl) (fun _ => rfl) (fun _ => small _ _ (by unfold tm; omega) (by unfold tm; omega)) (fun _ => small _ _ (by unfold tv; omega) (by unfold tv; omega)), e3, ⟨hp, e5, e6, fun j hj i hi => ?_⟩, c5.keep rfl (fun _ => rfl) (fun _ => rfl) (fun _ => small _ _ (by decide) (by decide)) (fun m j a b => hmv m j b (by omega)), c6.keep rfl (fun _ => rfl) (fun _ => rfl) (fun _ => rfl) (e0 _ (by decide) (by decide)) (fun _ => small _ _ (by decide) (by decide)) (fun _ => small _ _ (by decide) (by decide)) (fun _ => small _ _ (by decide) (by decide))⟩, ⟨r1.keep rfl (fun _ => rfl) (g0 _ (by decide) (by decide)) (fun _ => g1 _ _ (by decide) (by decide)), r2.keep (fun _ => rfl) (fun _ => rfl) (fun _ => rfl) (fun _ => rfl) (fun _ => rfl) (fun _ _ => g1 _ _ (by decide) (by decide)) (fun _ _ => g1 _ _ (by decide) (by decide)) (fun _ _ => g1 _ _ (by decide) (by decide)) (fun _ _ => g1 _ _ (by decide) (by decide)) (fun _ _ => g1 _ _ (by decide) (by decide)) w2.1 w2.2.1, g3, ⟨g21, fun j hj i hi => ?_⟩, r5.keep rfl (fun _ => rfl) (fun _ => rfl) (fun _ => g1 _ _ (by decide) (by decide)) (fun _ => g1 _ _ (by decide) (by decide)), r6.keep rfl (fun _ => rfl) (fun _ => rfl) (fun _ => rfl) (g0 _ (by decide) (by decide)) (fun _ => g1 _ _ (by decide) (by decide)) (fun _ => g1 _ _ (by decide) (by decide)) (fun _ => g1 _ _ (by decide) (by decide))⟩, by rw [e2, g2]; exact h5⟩
  · have hj2 : j < u := hj
    show mv S1.1 (1 + (p + 10 - u + j) % 10) i = nI (d 12 (21 * j + i))
    rw [hm j hj2, hmv _ _ (by omega) (by omega)]
    exact cu4 j (by omega) i hi
  · have hj2 : j < u := hj
    rw [g1 _ _ (by decide) (by decide)]
    exact ru2 j (by omega) i hi
theorem sim_undo (k : Nat) (S R : CS) (hk : k < 64) (h : Rel k S R) : p_X6_undo S (fun r S1 => p_X7_undo R (fun r2 R1 => r = r2 ∧ Rel (k + 1) S1 R1)) := by
  obtain ⟨d, t, pn, hW, ⟨ht1, ht2, ht3⟩, hC, hR, htr⟩ := h
  have hsm := Rel.sm hW ⟨ht1, ht2, ht3⟩ hC hR htr (CSm.rf S) (RSm.thr R 0)
  have hP6 := hW.2.1.1
  have hu := hW.2.2.2.1.1
  obtain ⟨hpn, h5, h6, hcu⟩ := hC.2.2.2.1
  have h21 : (sti R 0 0 0).1 0 21 = nI (d 0 21) := by rw [sti_ne (by omega)]; exact hR.2.2.2.1.1
  unfold p_X6_undo
  rw [h5]
  by_cases hu0 : d 0 21 = 0
  · rw [hu0]
    refine br_f (by decide) ?_
    unfold p_X7_undo
    intro R1 e1
    subst e1
    exact br_t (by rw [h21, hu0]; rfl) ⟨rfl, hsm⟩
  · obtain ⟨u, hu1⟩ : ∃ u, d 0 21 = u + 1 := ⟨d 0 21 - 1, by omega⟩
    rw [hu1]
    refine br_t (nI_le (a := 1) (by omega) (by omega)) ?_
    intro w ew S1 e1
    rw [nI_pred] at ew
    have f6 : S1.1 0 6 = nI pn := by rw [e1, sti_ne (by omega)]; exact h6
    rw [f6]
    have go : ∀ z : Int32, z = nI ((pn + 9) % 10) → q_X6_undo_41 (fun r S1 => p_X7_undo R (fun r2 R1 => r = r2 ∧ Rel (k + 1) S1 R1)) z S1 := by
      intro z hz
      unfold q_X6_undo_41
      intro S2 e2
      rw [show S2.1 0 6 = nI ((pn + 9) % 10) by rw [e2, sti_eq, hz]]
      refine take_y (hh := 0) (by rw [hlen0]; omega) (by rw [hlen0]; decide) (mset_y (by rw [hbase0]; omega) (by decide) (by rw [hbase0]; omega) (fun S3 a1 a2 a3 => ?_)) (by rw [hbase0]; omega)
      rw [hbase0] at a1
      have f5 : S3.1 0 5 = nI u := by rw [a2 0 5 (by decide) (by decide) (by decide) (by decide), e2, sti_ne (by omega), e1, sti_eq, ew]
      rw [f5]
      unfold p_X7_undo
      intro R1 e3
      subst e3
      rw [h21, hu1]
      refine br_f (fun q => absurd ((nI_eq (b := 0) (by omega) (by decide)).mp q) (by omega)) ?_
      intro v ev R2 e4
      rw [nI_pred] at ev
      have q21 : ∀ R3 : CS, (∀ c i, c ≠ 8 → R3.1 c i = R2.1 c i) → R3.1 0 21 = nI u := fun R3 hq => by rw [hq 0 21 (by decide), e4, sti_eq, ev]
      refine loop_0 (fun n i R3 => q_X7_undo_27 (fun r2 R1 => nI u = r2 ∧ Rel (k + 1) S3 R1) n (nI i) R3) (fun i R3 => (∀ j, j < i → R3.1 8 j = R.1 12 (21 * u + j)) ∧ (∀ c i, c ≠ 8 → R3.1 c i = R2.1 c i) ∧ R3.2 = R2.2) 21 R2 ⟨fun j hj => absurd hj (Nat.not_lt_zero j), fun _ _ _ => rfl, rfl⟩ (fun n R3 hI => ?_) (fun n i R3 hi hI ih => ?_)
      · rw [q_X7_undo_27]
        refine br_t (show (21 : Int32) ≤ nI 21 by decide) ⟨by rw [q21 R3 hI.2.1], ?_⟩
        have hz2 : ∀ c i, c ≠ 0 → S2.1 c i = S.1 c i := fun c i hc => by rw [e2, sti_ne (fun q => hc q.1), e1, sti_ne (fun q => hc q.1)]
        have hr2 : ∀ c i, c ≠ 0 → R2.1 c i = R.1 c i := fun c i hc => by rw [e4, sti_ne (fun q => hc q.1), sti_ne (fun q => hc q.1)]
        refine Rel.now hW ⟨ht1, ht2, ht3⟩ hC hR htr (fun i => d 12 (21 * u + i)) u ((pn + 9) % 10) ((hW.up (Nat.le_succ k)).2.2.2.1.2 u (by omega)) (by omega) (by omega) (fun j hj => by omega) (fun j q5 q6 => ?_) f5 ?_ (fun c i q0 q1 q2 q3 q4 => ?_) ?_ (fun j hj => ?_) (fun j q0 q21' => ?_) (q21 R3 hI.2.1) (fun c i q0 q8 => ?_) ?_ (fun j hj => ?_)
        · rw [a2 0 j (by unfold mo; omega) (by unfold mg; omega) (by unfold bo; omega) (by unfold bl; omega), e2, sti_ne (fun q => q6 q.2), e1, sti_ne (fun q => q5 q.2)]
        · rw [a2 0 6 (by decide) (by decide) (by decide) (by decide), e2, sti_eq, hz]
        · rw [a2 c i q1 q2 q3 q4, hz2 c i q0]
        · rw [a3, e2, sti_22, e1, sti_22]
        · rw [a1 j (by omega)]
          have hmm : mv S2.1 (1 + (pn + 9) % 10) j = mv S.1 (1 + (pn + 9) % 10) j := mv_congr (fun i => hz2 _ i (by unfold mo; omega)) (fun i => hz2 _ i (by unfold bo; omega)) (fun i => hz2 _ i (by unfold bl; omega)) (fun i => hz2 _ i (by unfold mg; omega))
          rw [hmm, show (pn + 9) % 10 = (pn + 10 - d 0 21 + u) % 10 by omega]
          exact hcu u (by omega) j hj
        · rw [hI.2.1 0 j (by decide), e4, sti_ne (fun q => q21' q.2), sti_ne (fun q => q0 q.2)]
        · rw [hI.2.1 c i q8, hr2 c i q0]
        · rw [hI.2.2, e4, sti_22, sti_22]
        · rw [hI.1 j (by omega)]
          exact hR.2.2.2.1.2 u (by omega) j hj
      · rw [q_X7_undo_27, q21 R3 hI.2.1, show (21 : Int32) * nI u = nI (21 * u) from pk_mul 21 u, nI_add, nI_clamp (by omega), nI_clamp (by omega)]
        refine br_f (nI_ge (b := 21) hi (by decide)) ⟨vp_in_nI (by omega) (by decide), ?_⟩
        intro y ey
        refine ⟨vp_in_nI hi (by decide), ?_⟩
        intro R4 e5 x ex
        rw [ex, nI_1]
        refine ih R4 ⟨fun j hj => ?_, fun c j hc => by rw [e5, sti_ne (fun q => hc q.1)]; exact hI.2.1 c j hc, by rw [e5, sti_22]; exact hI.2.2⟩
        rw [e5, sti_1]
        by_cases hji : j = i
        · rw [if_pos ⟨rfl, hji⟩, ey, hji, hI.2.1 12 _ (by decide), e4, sti_ne (by omega), sti_ne (by omega)]
        · rw [if_neg (fun q => hji q.2)]
          exact hI.1 j (by omega)
    refine ⟨fun c => go _ ?_, fun c => go _ ?_⟩
    · have hp1 : 1 ≤ pn := (nI_leI (a := 1) (by decide) (by omega)).mp c
      obtain ⟨p, rfl⟩ : ∃ p, pn = p + 1 := ⟨pn - 1, by omega⟩
      rw [nI_pred, show (p + 1 + 9) % 10 = p by omega]
    · have hp0 : pn = 0 := by
        rcases Nat.eq_zero_or_pos pn with z | z
        · exact z
        · exact absurd (nI_le (a := 1) z (by omega)) c
      rw [hp0]
      rfl
theorem image_n {S : CS} {x : Int32} {post : Int32 → CS → Prop} (h : x < 0 ∨ nI 2 ≤ x) (hp : post 0 S) : p_X6_isImage S x post := by
  unfold p_X6_isImage
  rcases h with h | h
  · exact br_t h hp
  · exact ⟨fun _ => hp, fun _ => br_t h hp⟩
theorem image_y {S : CS} {j : Nat} {post : Int32 → CS → Prop} (h : j < 2) (hp : post 1 S) : p_X6_isImage S (nI j) post := by
  unfold p_X6_isImage
  exact br_f (nI_pos (by omega)) (br_f (nI_ge (b := 2) h (by decide)) hp)
theorem hlen1 : hlen 1 = 2 := rfl
theorem hbase1 : hbase 1 = 11 := rfl
theorem nar1 : vp_nar .boolean 1 = 1 := rfl
theorem sim_back (k : Nat) (S R : CS) (x1 : Int32) (hk : k < 64) (h : Rel k S R) : p_X6_back S x1 (fun r S1 => p_X7_back R x1 (fun r2 R1 => r = r2 ∧ Rel (k + 1) S1 R1)) := by
  obtain ⟨d, t, pn, hW, ⟨ht1, ht2, ht3⟩, hC, hR, htr⟩ := h
  have hsm := Rel.sm hW ⟨ht1, ht2, ht3⟩ hC hR htr (CSm.rf S) (RSm.thr R 0)
  have hP6 := hW.2.1.1
  unfold p_X6_back
  rcases ix3 x1 (n := 2) (by decide) with hx | ⟨j, hj, rfl⟩
  · refine image_n hx (c00 ?_)
    unfold p_X7_back
    intro R1 e1
    subst e1
    exact in_nN (b := 1) hx (by decide) (c00 ⟨rfl, hsm⟩)
  · obtain ⟨ci1, ci2⟩ := hC.2.2.2.2.1 j hj
    obtain ⟨ri1, ri2⟩ := hR.2.2.2.2.1 j hj
    obtain ⟨wi1, wi2⟩ := (hW.up (Nat.le_succ k)).2.2.2.2.1 j hj
    have g11 : (sti R 0 0 0).1 11 j = nI (d 11 j) := by rw [sti_ne (by omega)]; exact ri1
    refine image_y hj (c01 ?_)
    rw [nI_clamp (by omega), ci1]
    refine ⟨vp_in_nI hj (by decide), ?_⟩
    rcases (show d 11 j = 0 ∨ d 11 j = 1 by omega) with z | z
    · rw [z]
      refine br_t rfl ?_
      unfold p_X7_back
      intro R1 e1
      subst e1
      refine in_yN (a := 0) (b := 1) (by omega) (by omega) (by decide) (c01 ⟨vp_in_nI hj (by decide), ?_⟩)
      rw [nI_clamp (by omega), g11, z]
      exact br_t rfl ⟨rfl, hsm⟩
    · rw [z]
      refine br_f (by decide) ?_
      refine take_y (hh := 1) (by rw [hlen1]; omega) (by rw [hlen1]; decide) (mset_y (by rw [hbase1]; omega) (by decide) (by rw [hbase1]; omega) (fun S3 a1 a2 a3 => ?_)) (by rw [hbase1]; omega)
      rw [hbase1] at a1
      unfold p_X6_forgetPast
      intro S4 e4 S5 e5
      have f0 : S5.1 (mo 0) 4 = nI (d 10 (21 * j + 0)) := by
        rw [e5, sti_ne (by unfold mo; omega), e4, sti_ne (by unfold mo; omega), show S3.1 (mo 0) 4 = mv S3.1 0 0 from rfl, a1 0 (by omega)]
        exact ci2 z 0 (by omega)
      rw [f0]
      unfold p_X7_back
      intro R1 e1
      subst e1
      refine in_yN (a := 0) (b := 1) (by omega) (by omega) (by decide) (c01 ⟨vp_in_nI hj (by decide), ?_⟩)
      rw [nI_clamp (by omega), g11, z]
      refine br_f (by decide) ?_
      refine loop_0 (fun n i R3 => q_X7_back_30 (nI j) (fun r2 R1 => nI (d 10 (21 * j + 0)) = r2 ∧ Rel (k + 1) S5 R1) n (nI i) R3) (fun i R3 => (∀ p, p < i → R3.1 8 p = R.1 10 (21 * j + p)) ∧ (∀ c i, c ≠ 8 → R3.1 c i = (sti R 0 0 0).1 c i) ∧ R3.2 = R.2) 21 (sti R 0 0 0) ⟨fun j hj => absurd hj (Nat.not_lt_zero j), fun _ _ _ => rfl, rfl⟩ (fun n R3 hI => ?_) (fun n i R3 hi hI ih => ?_)
      · rw [q_X7_back_30]
        refine br_t (show (21 : Int32) ≤ nI 21 by decide) ?_
        intro R4 e6
        have n8 : ∀ p, p < 15 + d 2 0 → R4.1 8 p = nI (d 10 (21 * j + p)) := fun p hp => by
          rw [e6, sti_ne (by omega), hI.1 p (by omega)]
          exact ri2 z p hp
        refine ⟨by rw [n8 0 (by omega)], ?_⟩
        refine Rel.now hW ⟨ht1, ht2, ht3⟩ hC hR htr (fun i => d 10 (21 * j + i)) 0 0 (wi2 z) (by omega) (by omega) (fun p hp => absurd hp (Nat.not_lt_zero p)) (fun p q5 q6 => ?_) ?_ ?_ (fun c i q0 q1 q2 q3 q4 => ?_) ?_ (fun p hp => ?_) (fun p q0 q21' => ?_) ?_ (fun c i q0 q8 => ?_) ?_ n8
        · rw [e5, sti_ne (fun q => q6 q.2), e4, sti_ne (fun q => q5 q.2), a2 0 p (by unfold mo; omega) (by unfold mg; omega) (by unfold bo; omega) (by unfold bl; omega)]
        · rw [e5, sti_ne (by omega), e4, sti_eq]; rfl
        · rw [e5, sti_eq]; rfl
        · rw [e5, sti_ne (fun q => q0 q.1), e4, sti_ne (fun q => q0 q.1), a2 c i q1 q2 q3 q4]
        · rw [e5, sti_22, e4, sti_22, a3]
        · have hz2 : ∀ c i, c ≠ 0 → S5.1 c i = S3.1 c i := fun c i hc => by rw [e5, sti_ne (fun q => hc q.1), e4, sti_ne (fun q => hc q.1)]
          have hmm : mv S5.1 0 p = mv S3.1 0 p := mv_congr (fun i => hz2 _ i (by unfold mo; omega)) (fun i => hz2 _ i (by unfold bo; omega)) (fun i => hz2 _ i (by unfold bl; omega)) (fun i => hz2 _ i (by unfold mg; omega))
          rw [hmm, a1 p (by omega)]
          exact ci2 z p hp
        · rw [e6, sti_ne (fun q => q21' q.2), hI.2.1 0 p (by decide), sti_ne (fun q => q0 q.2)]
        · rw [e6, sti_eq]; rfl
        · rw [e6, sti_ne (fun q => q0 q.1), hI.2.1 c i q8, sti_ne (fun q => q0 q.1)]
        · rw [e6, sti_22, hI.2.2]
      · rw [q_X7_back_30, show (21 : Int32) * nI j = nI (21 * j) from pk_mul 21 j, nI_add, nI_clamp (by omega), nI_clamp (by omega)]
        refine br_f (nI_ge (b := 21) hi (by decide)) ⟨vp_in_nI (by omega) (by decide), ?_⟩
        intro y ey
        refine ⟨vp_in_nI hi (by decide), ?_⟩
        intro R4 e6 x ex
        rw [ex, nI_1]
        refine ih R4 ⟨fun p hp => ?_, fun c p hc => by rw [e6, sti_ne (fun q => hc q.1)]; exact hI.2.1 c p hc, by rw [e6, sti_22]; exact hI.2.2⟩
        rw [e6, sti_1]
        by_cases hji : p = i
        · rw [if_pos ⟨rfl, hji⟩, ey, hji, hI.2.1 10 _ (by decide), sti_ne (by omega)]
        · rw [if_neg (fun q => hji q.2)]
          exact hI.1 p (by omega)
def dKeep (d : Dat) (j : Nat) : Dat := fun a b => if a = 10 then (if 21 * j ≤ b ∧ b < 21 * j + 21 then d 8 (b - 21 * j) else d 10 b) else if a = 11 ∧ b = j then 1 else d a b
theorem sim_keep (k : Nat) (S R : CS) (x1 : Int32) (hk : k < 64) (h : Rel k S R) : p_X6_keep S x1 (fun r S1 => p_X7_keep R x1 (fun r2 R1 => r = r2 ∧ Rel (k + 1) S1 R1)) := by
  obtain ⟨d, t, pn, hW, ⟨ht1, ht2, ht3⟩, hC, hR, htr⟩ := h
  have hsm := Rel.sm hW ⟨ht1, ht2, ht3⟩ hC hR htr (CSm.rf S) (RSm.thr R 0)
  have hP6 := hW.2.1.1
  unfold p_X6_keep
  rcases ix3 x1 (n := 2) (by decide) with hx | ⟨j, hj, rfl⟩
  · refine image_n hx (c00 ?_)
    unfold p_X7_keep
    intro R1 e1
    subst e1
    exact in_nN (b := 1) hx (by decide) (c00 ⟨rfl, hsm⟩)
  · refine image_y hj (c01 ?_)
    refine put_y (hh := 1) (by rw [hlen1]; omega) (by rw [hlen1]; decide) (mset_y (by rw [hbase1]; omega) (by rw [hbase1]; omega) (by decide) (fun S3 a1 a2 a3 => ?_)) (by rw [hbase1]; omega)
    rw [hbase1] at a1 a2
    rw [nI_clamp (by omega), nar1]
    refine ⟨vp_in_nI hj (by decide), ?_⟩
    intro S4 e4
    have q4 : ∀ c i, c ≠ 13 → c ≠ mo (11 + j) → c ≠ mg (11 + j) → c ≠ bo (12 + j) → c ≠ bl (12 + j) → S4.1 c i = S.1 c i := fun c i z0 z1 z2 z3 z4 => by rw [e4, sti_ne (fun q => z0 q.1), a2 c i z1 z2 (by rw [show 11 + j + 1 = 12 + j by omega]; exact z3) (by rw [show 11 + j + 1 = 12 + j by omega]; exact z4)]
    have small : ∀ c i, c ≠ 13 → c < 23 → S4.1 c i = S.1 c i := fun c i a b => q4 c i a (by unfold mo; omega) (by unfold mg; omega) (by unfold bo; omega) (by unfold bl; omega)
    have hmv : ∀ m i, m < 13 → m ≠ 11 + j → mv S4.1 m i = mv S.1 m i := fun m i h13 a => mv_congr (fun i => q4 _ i (by unfold mo; omega) (by unfold mo; omega) (by unfold mo mg; omega) (by unfold mo bo; omega) (by unfold mo bl; omega)) (fun i => q4 _ i (by unfold bo; omega) (by unfold bo mo; omega) (by unfold bo mg; omega) (by unfold bo; omega) (by unfold bo bl; omega)) (fun i => q4 _ i (by unfold bl; omega) (by unfold bl mo; omega) (by unfold bl mg; omega) (by unfold bl bo; omega) (by unfold bl; omega)) (fun i => q4 _ i (by unfold mg; omega) (by unfold mg mo; omega) (by unfold mg; omega) (by unfold mg bo; omega) (by unfold mg bl; omega))
    have hm1 : ∀ p, p < 21 → mv S4.1 (11 + j) p = mv S.1 0 p := fun p hp => by
      rw [← a1 p hp]
      have hz2 : ∀ c i, c ≠ 13 → S4.1 c i = S3.1 c i := fun c i hc => by rw [e4, sti_ne (fun q => hc q.1)]
      exact mv_congr (fun i => hz2 _ i (by unfold mo; omega)) (fun i => hz2 _ i (by unfold bo; omega)) (fun i => hz2 _ i (by unfold bl; omega)) (fun i => hz2 _ i (by unfold mg; omega))
    have f0 : S4.1 (mo 0) 4 = nI (d 8 0) := by rw [show S4.1 (mo 0) 4 = mv S4.1 0 0 from rfl, hmv 0 0 (by omega) (by omega)]; exact hC.2.2.1 0 (by omega)
    rw [f0]
    unfold p_X7_keep
    intro R1 e1
    subst e1
    refine in_yN (a := 0) (b := 1) (by omega) (by omega) (by decide) (c01 ?_)
    refine loop_0 (fun n i R3 => q_X7_keep_18 (nI j) (fun r2 R1 => nI (d 8 0) = r2 ∧ Rel (k + 1) S4 R1) n (nI i) R3) (fun i R3 => (∀ p, p < 42 → R3.1 10 p = if 21 * j ≤ p ∧ p < 21 * j + i then R.1 8 (p - 21 * j) else R.1 10 p) ∧ (∀ c i, c ≠ 10 → R3.1 c i = (sti R 0 0 0).1 c i) ∧ R3.2 = R.2) 21 (sti R 0 0 0) ⟨fun p hp => by rw [if_neg (by omega), sti_ne (by omega)], fun _ _ _ => rfl, rfl⟩ (fun n R3 hI => ?_) (fun n i R3 hi hI ih => ?_)
    · rw [q_X7_keep_18, nar1, nI_clamp (by omega)]
      refine br_t (show (21 : Int32) ≤ nI 21 by decide) ⟨vp_in_nI hj (by decide), ?_⟩
      intro R4 e6
      obtain ⟨w1, w2, w3, w4, w5, w6⟩ := hW.up (Nat.le_succ k)
      obtain ⟨c1, c2, c3, c4, c5, c6⟩ := hC
      obtain ⟨r1, r2, r3, r4, r5, r6⟩ := hR
      have g1 : ∀ c i, c ≠ 0 → c ≠ 10 → c ≠ 11 → R4.1 c i = R.1 c i := fun c i a b e => by rw [e6, sti_ne (fun q => e q.1), hI.2.1 c i b, sti_ne (fun q => a q.1)]
      have g0 : ∀ i, i ≠ 0 → R4.1 0 i = R.1 0 i := fun i a => by rw [e6, sti_ne (by omega), hI.2.1 0 i (by decide), sti_ne (fun q => a q.2)]
      refine ⟨by rw [g1 8 0 (by decide) (by decide) (by decide)]; exact (r3 0 (by omega)).symm, ?_⟩
      have k10 : ∀ i p, i < 2 → p < 21 → dKeep d j 10 (21 * i + p) = if i = j then d 8 p else d 10 (21 * i + p) := fun i p hi2 hp => by
        show (if 21 * j ≤ 21 * i + p ∧ 21 * i + p < 21 * j + 21 then d 8 (21 * i + p - 21 * j) else d 10 (21 * i + p)) = _
        by_cases hij : i = j
        · rw [if_pos hij, if_pos (by omega), show 21 * i + p - 21 * j = p by omega]
        · rw [if_neg hij, if_neg (by omega)]
      have k11 : ∀ i, dKeep d j 11 i = if i = j then 1 else d 11 i := fun i => by
        show (if 11 = 11 ∧ i = j then 1 else d 11 i) = _
        by_cases hij : i = j
        · rw [if_pos ⟨rfl, hij⟩, if_pos hij]
        · rw [if_neg (fun q => hij q.2), if_neg hij]
      have ht := ht1
      refine ⟨dKeep d j, t, pn, ⟨w1, w2, w3, w4, fun i hi2 => ?_, w6⟩, by rw [small 20 0 (by decide) (by decide), e4, sti_22, a3]; exact ⟨ht1, ht2, ht3⟩, ⟨c1.keep rfl (fun _ => rfl) (small _ _ (by decide) (by decide)) (fun _ => small _ _ (by decide) (by decide)), c2.keep (fun _ => rfl) (fun _ => rfl) (fun _ => rfl) (fun _ => rfl) (fun _ => rfl) (fun _ => small _ _ (by unfold tm; omega) (by unfold tm; omega)) (fun _ => small _ _ (by unfold tv; omega) (by unfold tv; omega)), c3.keep rfl (fun _ => rfl) (fun p => hmv 0 p (by omega) (by omega)), c4.keep rfl rfl (fun _ => rfl) (small _ _ (by decide) (by decide)) (small _ _ (by decide) (by decide)) (fun m p a b => hmv m p (by omega) (by omega)), fun i hi2 => ?_, c6.keep rfl (fun _ => rfl) (fun _ => rfl) (fun _ => rfl) (small _ _ (by decide) (by decide)) (fun _ => small _ _ (by decide) (by decide)) (fun _ => small _ _ (by decide) (by decide)) (fun _ => small _ _ (by decide) (by decide))⟩, ⟨r1.keep rfl (fun _ => rfl) (g0 _ (by decide)) (fun _ => g1 _ _ (by decide) (by decide) (by decide)), r2.keep (fun _ => rfl) (fun _ => rfl) (fun _ => rfl) (fun _ => rfl) (fun _ => rfl) (fun _ _ => g1 _ _ (by decide) (by decide) (by decide)) (fun _ _ => g1 _ _ (by decide) (by decide) (by decide)) (fun _ _ => g1 _ _ (by decide) (by decide) (by decide)) (fun _ _ => g1 _ _ (by decide) (by decide) (by decide)) (fun _ _ => g1 _ _ (by decide) (by decide) (by decide)) w2.1 w2.2.1, r3.keep rfl (fun _ => rfl) (fun _ => g1 _ _ (by decide) (by decide) (by decide)), r4.keep rfl rfl (fun _ => rfl) (g0 _ (by decide)) (fun _ => g1 _ _ (by decide) (by decide) (by decide)), fun i hi2 => ?_, r6.keep rfl (fun _ => rfl) (fun _ => rfl) (fun _ => rfl) (g0 _ (by decide)) (fun _ => g1 _ _ (by decide) (by decide) (by decide)) (fun _ => g1 _ _ (by decide) (by decide) (by decide)) (fun _ => g1 _ _ (by decide) (by decide) (by decide))⟩, by rw [e4, sti_22, a3, e6, sti_22, hI.2.2]; exact htr⟩
      · show dKeep d j 11 i ≤ 1 ∧ (dKeep d j 11 i = 1 → VB (k + 1) (d 2 0) (fun p => dKeep d j 10 (21 * i + p)))
        rw [k11]
        by_cases hij : i = j
        · rw [if_pos hij]
          refine ⟨Nat.le_refl 1, fun _ => VB.cg w3 (fun p hp => ?_)⟩
          rw [k10 i p hi2 (by omega), if_pos hij]
        · rw [if_neg hij]
          refine ⟨(w5 i hi2).1, fun hz => ((w5 i hi2).2 hz).cg (fun p hp => ?_)⟩
          rw [k10 i p hi2 (by omega), if_neg hij]
      · show S4.1 13 i = nI (dKeep d j 11 i) ∧ (dKeep d j 11 i = 1 → ∀ p, p < 15 + d 2 0 → mv S4.1 (11 + i) p = nI (dKeep d j 10 (21 * i + p)))
        rw [k11]
        by_cases hij : i = j
        · rw [if_pos hij]
          refine ⟨by rw [e4, hij, sti_eq]; rfl, fun _ p hp => ?_⟩
          rw [k10 i p hi2 (by omega), if_pos hij, hij, hm1 p (by omega)]
          exact c3 p hp
        · rw [if_neg hij]
          refine ⟨by rw [e4, sti_ne (fun q => hij q.2), a2 13 i (by unfold mo; omega) (by unfold mg; omega) (by unfold bo; omega) (by unfold bl; omega)]; exact (c5 i hi2).1, fun hz p hp => ?_⟩
          rw [k10 i p hi2 (by omega), if_neg hij, hmv _ _ (by omega) (by omega)]
          exact (c5 i hi2).2 hz p hp
      · show R4.1 11 i = nI (dKeep d j 11 i) ∧ (dKeep d j 11 i = 1 → ∀ p, p < 15 + d 2 0 → R4.1 10 (21 * i + p) = nI (dKeep d j 10 (21 * i + p)))
        rw [k11]
        by_cases hij : i = j
        · rw [if_pos hij]
          refine ⟨by rw [e6, hij, sti_eq]; rfl, fun _ p hp => ?_⟩
          rw [k10 i p hi2 (by omega), if_pos hij, e6, sti_ne (by omega), hI.1 _ (by omega), if_pos (by omega), show 21 * i + p - 21 * j = p by omega]
          exact r3 p hp
        · rw [if_neg hij]
          refine ⟨by rw [e6, sti_ne (fun q => hij q.2), hI.2.1 11 i (by decide), sti_ne (by omega)]; exact (r5 i hi2).1, fun hz p hp => ?_⟩
          rw [k10 i p hi2 (by omega), if_neg hij, e6, sti_ne (by omega), hI.1 _ (by omega), if_neg (by omega)]
          exact (r5 i hi2).2 hz p hp
    · rw [q_X7_keep_18, show (21 : Int32) * nI j = nI (21 * j) from pk_mul 21 j, nI_add, nI_clamp (by omega), nI_clamp (by omega)]
      refine br_f (nI_ge (b := 21) hi (by decide)) ⟨vp_in_nI hi (by decide), ?_⟩
      intro y ey
      refine ⟨vp_in_nI (by omega) (by decide), ?_⟩
      intro R4 e6 x ex
      rw [nI_clamp (by omega)] at e6
      rw [ex, nI_1]
      refine ih R4 ⟨fun p hp => ?_, fun c p hc => by rw [e6, sti_ne (fun q => hc q.1)]; exact hI.2.1 c p hc, by rw [e6, sti_22]; exact hI.2.2⟩
      rw [e6, sti_1]
      by_cases hji : p = 21 * j + i
      · rw [if_pos ⟨rfl, hji⟩, if_pos (by omega), ey, hI.2.1 8 _ (by decide), sti_ne (by omega), show p - 21 * j = i by omega]
      · rw [if_neg (fun q => hji q.2), hI.1 p hp]
        by_cases hc : 21 * j ≤ p ∧ p < 21 * j + i
        · rw [if_pos hc, if_pos (by omega)]
        · rw [if_neg hc, if_neg (by omega)]
