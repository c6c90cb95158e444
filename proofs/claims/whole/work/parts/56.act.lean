/-! copying besoms and moments -/
theorem bset_y {S : CS} {b b1 : Nat} {post : CS → Prop} (hb : b ≠ b1) (h : ∀ S1 : CS, (∀ j, j < 8 → S1.1 (bl b) j = S.1 (bl b1) j) → S1.1 (bo b) 1 = S.1 (bo b1) 1 → (∀ c i, c ≠ bl b → c ≠ bo b → S1.1 c i = S.1 c i) → S1.2 = S.2 → post S1) : p_X0_setAs S b b1 post := by
  unfold p_X0_setAs
  refine loop_0 (fun n i S1 => q_X0_setAs_2 b b1 post n (nI i) S1) (fun i S1 => (∀ j, j < i → S1.1 (bl b) j = S.1 (bl b1) j) ∧ (∀ c i, c ≠ bl b → S1.1 c i = S.1 c i) ∧ S1.2 = S.2) 8 S ⟨fun j hj => absurd hj (Nat.not_lt_zero j), fun _ _ _ => rfl, rfl⟩ (fun n S1 hI => ?_) (fun n i S1 hi hI ih => ?_)
  · rw [q_X0_setAs_2]
    refine ⟨fun _ => ?_, fun c => absurd (show (8 : Int32) ≤ nI 8 by decide) c⟩
    intro u eu S2 e2
    subst eu e2
    refine h _ (fun j hj => ?_) ?_ (fun c i h1 h2 => ?_) hI.2.2
    · rw [sti_ne (by unfold bl bo; omega)]
      exact hI.1 j hj
    · rw [sti_eq]
      exact hI.2.1 _ _ (by unfold bl bo; omega)
    · rw [sti_ne (fun q => h2 q.1)]
      exact hI.2.1 c i h1
  · rw [q_X0_setAs_2]
    refine ⟨fun c => absurd ((ni_le (k := 8) (by decide) (by omega)).mp c) (by omega), fun _ => ?_⟩
    unfold p_X0_lengthOf
    rw [nI_clamp (by omega)]
    refine br_f (nI_pos (by omega)) (br_t (nI_lt (b := 8) hi (by decide)) ⟨vp_in_nI hi (by decide), vp_in_nI hi (by decide), ?_⟩)
    intro S2 e2 x ex
    rw [ex, nI_1]
    refine ih S2 ⟨fun j hj => ?_, fun c j hc => ?_, by rw [e2, sti_22]; exact hI.2.2⟩
    · rw [e2, sti_1]
      by_cases hji : j = i
      · rw [if_pos ⟨rfl, hji⟩, hji]
        exact hI.2.1 _ _ (by unfold bl; omega)
      · rw [if_neg (fun q => hji q.2)]
        exact hI.1 j (by omega)
    · rw [e2, sti_ne (fun q => hc q.1)]
      exact hI.2.1 c j hc
theorem mset_y {S : CS} {m m1 : Nat} {post : CS → Prop} (hm : m ≠ m1) (hm13 : m < 13) (hm113 : m1 < 13) (h : ∀ S1 : CS, (∀ j, j < 21 → mv S1.1 m j = mv S.1 m1 j) → (∀ c i, c ≠ mo m → c ≠ mg m → c ≠ bo (m + 1) → c ≠ bl (m + 1) → S1.1 c i = S.1 c i) → S1.2 = S.2 → post S1) : p_X1_setAs S m m1 post := by
  unfold p_X1_setAs
  refine loop_0 (fun n i S1 => q_X1_setAs_2 m m1 post n (nI i) S1) (fun i S1 => (∀ j, j < i → S1.1 (mg m) j = S.1 (mg m1) j) ∧ (∀ c i, c ≠ mg m → S1.1 c i = S.1 c i) ∧ S1.2 = S.2) 6 S ⟨fun j hj => absurd hj (Nat.not_lt_zero j), fun _ _ _ => rfl, rfl⟩ (fun n S1 hI => ?_) (fun n i S1 hi hI ih => ?_)
  · rw [q_X1_setAs_2]
    refine ⟨fun _ => bset_y (by omega) (fun S2 a1 a2 a3 a4 => ?_), fun c => absurd (show (6 : Int32) ≤ nI 6 by decide) c⟩
    intro u1 e1 T1 f1 u2 e2 T2 f2 u3 e3 T3 f3 u4 e4 T4 f4 u5 e5 T5 f5 u6 e6 T6 f6
    have s2 : ∀ i, S2.1 (mo m1) i = S.1 (mo m1) i := fun i => by
      rw [a3 _ i (by unfold mo bl; omega) (by unfold mo bo; omega)]
      exact hI.2.1 _ _ (by unfold mo mg; omega)
    have key : ∀ i, T6.1 (mo m) i = if i = 7 then S.1 (mo m1) 7 else if i = 6 then S.1 (mo m1) 6 else if i = 5 then S.1 (mo m1) 5 else if i = 4 then S.1 (mo m1) 4 else if i = 3 then S.1 (mo m1) 3 else if i = 2 then S.1 (mo m1) 2 else S2.1 (mo m) i := by
      intro i
      have hne : mo m1 ≠ mo m := by unfold mo; omega
      rw [f6, sti_1, e6, f5, sti_1, sti_1, e5, f4, sti_1, sti_1, sti_1, e4, f3, sti_1, sti_1, sti_1, sti_1, e3, f2, sti_1, sti_1, sti_1, sti_1, sti_1, e2, f1, sti_1, sti_1, sti_1, sti_1, sti_1, sti_1, e1]
      simp only [hne, false_and, if_false, true_and, s2]
    have out : ∀ c i, c ≠ mo m → T6.1 c i = S2.1 c i := by
      intro c i hc
      rw [f6, sti_ne (fun q => hc q.1), f5, sti_ne (fun q => hc q.1), f4, sti_ne (fun q => hc q.1), f3, sti_ne (fun q => hc q.1), f2, sti_ne (fun q => hc q.1), f1, sti_ne (fun q => hc q.1)]
    refine h T6 (fun j hj => ?_) (fun c i h1 h2 h3 h4 => ?_) ?_
    · unfold mv
      rw [key, key, key, key, key, key]
      simp only [show ¬ (4 : Nat) = 7 by decide, show ¬ (4 : Nat) = 6 by decide, show ¬ (4 : Nat) = 5 by decide, show ¬ (2 : Nat) = 7 by decide, show ¬ (2 : Nat) = 6 by decide, show ¬ (2 : Nat) = 5 by decide, show ¬ (2 : Nat) = 4 by decide, show ¬ (2 : Nat) = 3 by decide, show ¬ (3 : Nat) = 7 by decide, show ¬ (3 : Nat) = 6 by decide, show ¬ (3 : Nat) = 5 by decide, show ¬ (3 : Nat) = 4 by decide, show ¬ (5 : Nat) = 7 by decide, show ¬ (5 : Nat) = 6 by decide, show ¬ (6 : Nat) = 7 by decide, if_true, if_false]
      by_cases j6 : j < 6
      · rcases (show j = 0 ∨ j = 1 ∨ j = 2 ∨ j = 3 ∨ j = 4 ∨ j = 5 by omega) with rfl | rfl | rfl | rfl | rfl | rfl <;> rfl
      · simp only [show ¬ j = 0 by omega, show ¬ j = 1 by omega, show ¬ j = 2 by omega, show ¬ j = 3 by omega, show ¬ j = 4 by omega, show ¬ j = 5 by omega, if_false]
        by_cases j7 : j = 6
        · simp only [j7, if_true]
          rw [out _ _ (by unfold mo bo; omega), a2]
          exact hI.2.1 _ _ (by unfold mg bo; omega)
        · simp only [j7, if_false]
          by_cases j15 : j < 15
          · simp only [j15, if_true]
            rw [out _ _ (by unfold mo bl; omega), a1 _ (by omega)]
            exact hI.2.1 _ _ (by unfold mg bl; omega)
          · simp only [j15, if_false]
            rw [out _ _ (by unfold mo mg; omega), a3 _ _ (by unfold mg bl; omega) (by unfold mg bo; omega)]
            exact hI.1 _ (by omega)
    · rw [out c i h1, a3 c i h4 h3]
      exact hI.2.1 c i h2
    · rw [f6, sti_22, f5, sti_22, f4, sti_22, f3, sti_22, f2, sti_22, f1, sti_22, a4]
      exact hI.2.2
  · rw [q_X1_setAs_2]
    refine ⟨fun c => absurd ((ni_le (k := 6) (by decide) (by omega)).mp c) (by omega), fun _ => age_y hi ⟨vp_in_nI hi (by decide), ?_⟩⟩
    rw [nI_clamp (by omega)]
    intro S2 e2 x ex
    rw [ex, nI_1]
    refine ih S2 ⟨fun j hj => ?_, fun c j hc => ?_, by rw [e2, sti_22]; exact hI.2.2⟩
    · rw [e2, sti_1]
      by_cases hji : j = i
      · rw [if_pos ⟨rfl, hji⟩, hji]
        exact hI.2.1 _ _ (by unfold mg; omega)
      · rw [if_neg (fun q => hji q.2)]
        exact hI.1 j (by omega)
    · rw [e2, sti_ne (fun q => hc q.1)]
      exact hI.2.1 c j hc
theorem hlen0 : hlen 0 = 10 := rfl
theorem hbase0 : hbase 0 = 1 := rfl
theorem put_y {S : CS} {hh at_ m : Nat} {post : CS → Prop} (hat : at_ < hlen hh) (hl : hlen hh ≤ 10) (h : p_X1_setAs S (hbase hh + at_) m post) (hb : hbase hh + at_ < 13) : p_X3_put S hh (nI at_) m post := by
  unfold p_X3_put p_X3_placeAt
  rw [nI_clamp (by omega)]
  refine br_f (nI_pos (by omega)) (br_t (nI_lt hat (by omega)) ⟨vp_in_nI hat (by omega), ⟨fun q => (nomatch q), fun m3 q => ?_⟩⟩)
  cases q
  exact ⟨hb, h⟩
theorem take_y {S : CS} {hh at_ m : Nat} {post : CS → Prop} (hat : at_ < hlen hh) (hl : hlen hh ≤ 10) (h : p_X1_setAs S m (hbase hh + at_) post) (hb : hbase hh + at_ < 13) : p_X3_take S hh (nI at_) m post := by
  unfold p_X3_take p_X3_placeAt
  rw [nI_clamp (by omega)]
  refine br_f (nI_pos (by omega)) (br_t (nI_lt hat (by omega)) ⟨vp_in_nI hat (by omega), ⟨fun q => (nomatch q), fun m3 q => ?_⟩⟩)
  cases q
  exact ⟨hb, h⟩
/-- what remember() does -/
def Rem (S S1 : CS) (pn u : Nat) : Prop := (∀ j, j < 21 → mv S1.1 (1 + pn) j = mv S.1 0 j) ∧ (∀ c i, c ≠ 0 → c ≠ mo (1 + pn) → c ≠ mg (1 + pn) → c ≠ bo (2 + pn) → c ≠ bl (2 + pn) → S1.1 c i = S.1 c i) ∧ (∀ j, j ≠ 5 → j ≠ 6 → S1.1 0 j = S.1 0 j) ∧ S1.1 0 5 = nI (min 10 (u + 1)) ∧ S1.1 0 6 = nI ((pn + 1) % 10) ∧ S1.2 = S.2
theorem rem_y {S : CS} {pn u : Nat} {post : CS → Prop} (hpn : pn < 10) (hu : u ≤ 10) (h6 : S.1 0 6 = nI pn) (h5 : S.1 0 5 = nI u) (h : ∀ S1 : CS, Rem S S1 pn u → post S1) : p_X6_remember S post := by
  unfold p_X6_remember
  rw [h6]
  refine put_y (hh := 0) (by rw [hlen0]; exact hpn) (by rw [hlen0]; decide) (mset_y (by rw [hbase0]; omega) (by rw [hbase0]; omega) (by decide) (fun S1 a1 a2 a3 => ?_)) (by rw [hbase0]; omega)
  rw [hbase0] at a1 a2
  have b6 : S1.1 0 6 = nI pn := by rw [a2 0 6 (by unfold mo; omega) (by unfold mg; omega) (by unfold bo; omega) (by unfold bl; omega)]; exact h6
  have b5 : S1.1 0 5 = nI u := by rw [a2 0 5 (by unfold mo; omega) (by unfold mg; omega) (by unfold bo; omega) (by unfold bl; omega)]; exact h5
  have fin : ∀ z : Int32, z = nI ((pn + 1) % 10) → q_X6_remember_37 post z S1 := by
    intro z hz
    unfold q_X6_remember_37
    intro S2 e2 w ew S3 e3
    have c5 : S2.1 0 5 = nI u := by rw [e2, sti_ne (by omega)]; exact b5
    rw [c5, nI_1] at ew
    have hw : w = nI (min 10 (u + 1)) := by
      rw [ew]
      by_cases h10 : u + 1 < 10
      · rw [if_pos (show nI (u + 1) < 10 from nI_lt (b := 10) h10 (by decide)), Nat.min_eq_right (by omega)]
      · rw [if_neg (show ¬ nI (u + 1) < 10 from nI_nlt (a := u + 1) (b := 10) (by omega) (by omega)), Nat.min_eq_left (by omega)]
        rfl
    refine h S3 ⟨fun j hj => ?_, fun c i g0 g1 g2 g3 g4 => ?_, fun j g5 g6 => ?_, by rw [e3, sti_eq, hw], by rw [e3, sti_ne (by omega), e2, sti_eq, hz], by rw [e3, sti_22, e2, sti_22]; exact a3⟩
    · rw [← a1 j hj]
      have hne : ∀ c i, c ≠ 0 → S3.1 c i = S1.1 c i := fun c i hc => by rw [e3, sti_ne (fun q => hc q.1), e2, sti_ne (fun q => hc q.1)]
      exact mv_congr (fun i => hne _ i (by unfold mo; omega)) (fun i => hne _ i (by unfold bo; omega)) (fun i => hne _ i (by unfold bl; omega)) (fun i => hne _ i (by unfold mg; omega))
    · rw [e3, sti_ne (fun q => g0 q.1), e2, sti_ne (fun q => g0 q.1)]
      exact a2 c i g1 g2 (by rw [show 1 + pn + 1 = 2 + pn by omega]; exact g3) (by rw [show 1 + pn + 1 = 2 + pn by omega]; exact g4)
    · rw [e3, sti_ne (fun q => g5 q.2), e2, sti_ne (fun q => g6 q.2)]
      exact a2 0 j (by unfold mo; omega) (by unfold mg; omega) (by unfold bo; omega) (by unfold bl; omega)
  rw [b6, nI_1]
  refine ⟨fun c => fin 0 ?_, fun c => fin _ ?_⟩
  · have h10 := (ni_le (k := 10) (by decide) (by omega)).mp c
    rw [show (pn + 1) % 10 = 0 by omega]
    rfl
  · have h10 : pn + 1 < 10 := by
      rcases Nat.lt_or_ge (pn + 1) 10 with q | q
      · exact q
      · exact absurd ((ni_le (k := 10) (by decide) (by omega)).mpr q) c
    rw [Nat.mod_eq_of_lt h10]
/-- what notes() does -/
def Not (R R1 : CS) (u : Nat) : Prop := (∀ i, i < 210 → R1.1 12 i = if u < 10 then (if 21 * u ≤ i ∧ i < 21 * u + 21 then R.1 8 (i - 21 * u) else R.1 12 i) else (if i < 189 then R.1 12 (i + 21) else R.1 8 (i - 189))) ∧ (∀ c i, c ≠ 0 → c ≠ 12 → R1.1 c i = R.1 c i) ∧ (∀ j, j ≠ 21 → R1.1 0 j = R.1 0 j) ∧ R1.1 0 21 = nI (min 10 (u + 1)) ∧ R1.2 = R.2
theorem not47_y {R : CS} {u : Nat} {post : CS → Prop} (hu : u < 10) (h21 : R.1 0 21 = nI u) (h : ∀ R1 : CS, (∀ i, i < 210 → R1.1 12 i = if 21 * u ≤ i ∧ i < 21 * u + 21 then R.1 8 (i - 21 * u) else R.1 12 i) → (∀ c i, c ≠ 0 → c ≠ 12 → R1.1 c i = R.1 c i) → (∀ j, j ≠ 21 → R1.1 0 j = R.1 0 j) → R1.1 0 21 = nI (u + 1) → R1.2 = R.2 → post R1) : ∃ n, q_X7_notes_47 post n 0 R := by
  refine loop_0 (fun n i R1 => q_X7_notes_47 post n (nI i) R1) (fun k R1 => (∀ i, i < 210 → R1.1 12 i = if 21 * u ≤ i ∧ i < 21 * u + k then R.1 8 (i - 21 * u) else R.1 12 i) ∧ (∀ c i, c ≠ 12 → R1.1 c i = R.1 c i) ∧ R1.2 = R.2) 21 R ⟨fun i _ => by rw [if_neg (by omega)], fun _ _ _ => rfl, rfl⟩ (fun n R1 hI => ?_) (fun n k R1 hk hI ih => ?_)
  · rw [q_X7_notes_47]
    refine ⟨fun _ => ?_, fun c => absurd (show (21 : Int32) ≤ nI 21 by decide) c⟩
    intro w ew R2 e2
    rw [hI.2.1 0 21 (by decide), h21, nI_1] at ew
    refine h R2 (fun i hi => by rw [e2, sti_ne (by omega)]; exact hI.1 i hi) (fun c i h0 h12 => by rw [e2, sti_ne (fun q => h0 q.1)]; exact hI.2.1 c i h12) (fun j hj => by rw [e2, sti_ne (fun q => hj q.2)]; exact hI.2.1 0 j (by decide)) (by rw [e2, sti_eq, ew]) (by rw [e2, sti_22]; exact hI.2.2)
  · rw [q_X7_notes_47]
    refine ⟨fun c => absurd ((ni_le (k := 21) (by decide) (by omega)).mp c) (by omega), fun _ => ⟨vp_in_nI hk (by decide), ?_⟩⟩
    have e1 : (21 : Int32) * R1.1 0 21 + nI k = nI (21 * u + k) := by rw [hI.2.1 0 21 (by decide), h21, show (21 : Int32) = nI 21 from rfl, pk_mul, nI_add]
    rw [e1, nI_clamp (by omega), nI_clamp (by omega)]
    intro w ew
    refine ⟨vp_in_nI (by omega) (by decide), ?_⟩
    intro R2 e2 x ex
    rw [ex, nI_1]
    refine ih R2 ⟨fun i hi => ?_, fun c i hc => by rw [e2, sti_ne (fun q => hc q.1)]; exact hI.2.1 c i hc, by rw [e2, sti_22]; exact hI.2.2⟩
    rw [e2, sti_1]
    by_cases hik : i = 21 * u + k
    · rw [if_pos ⟨rfl, hik⟩, if_pos (by omega), ew, hI.2.1 8 k (by decide), show i - 21 * u = k by omega]
    · rw [if_neg (fun q => hik q.2), hI.1 i hi]
      by_cases hc : 21 * u ≤ i ∧ i < 21 * u + k
      · rw [if_pos hc, if_pos (by omega)]
      · rw [if_neg hc, if_neg (by omega)]
theorem not_y {R : CS} {u : Nat} {post : CS → Prop} (hu : u ≤ 10) (h21 : R.1 0 21 = nI u) (h : ∀ R1 : CS, Not R R1 u → post R1) : p_X7_notes R post := by
  unfold p_X7_notes
  rw [h21]
  refine ⟨fun c => ?_, fun c => ?_⟩
  · have hu10 : u = 10 := (nI_eq (b := 10) (by omega) (by decide)).mp c
    subst hu10
    refine loop_0 (fun n i R1 => q_X7_notes_11 post n (nI i) R1) (fun k R1 => (∀ i, i < 210 → R1.1 12 i = if i < k then R.1 12 (i + 21) else R.1 12 i) ∧ (∀ c i, c ≠ 12 → R1.1 c i = R.1 c i) ∧ R1.2 = R.2) 189 R ⟨fun i _ => by rw [if_neg (by omega)], fun _ _ _ => rfl, rfl⟩ (fun n R1 hI => ?_) (fun n k R1 hk hI ih => ?_)
    · rw [q_X7_notes_11]
      refine ⟨fun _ => ?_, fun c => absurd (show (189 : Int32) ≤ nI 189 by decide) c⟩
      intro R2 e2
      refine not47_y (u := 9) (by decide) (by rw [e2, sti_eq]; rfl) (fun R3 a1 a2 a3 a4 a5 => h R3 ⟨fun i hi => ?_, fun c i h0 h12 => ?_, fun j hj => ?_, a4, by rw [a5, e2, sti_22]; exact hI.2.2⟩)
      · have g8 : ∀ j, R2.1 8 j = R.1 8 j := fun j => by rw [e2, sti_ne (by omega)]; exact hI.2.1 8 j (by decide)
        have g12 : R2.1 12 i = if i < 189 then R.1 12 (i + 21) else R.1 12 i := by rw [e2, sti_ne (by omega)]; exact hI.1 i hi
        rw [a1 i hi, if_neg (show ¬ 10 < 10 by decide), g8, g12]
        by_cases h189 : i < 189
        · rw [if_neg (by omega), if_pos h189, if_pos h189]
        · rw [if_pos (by omega), if_neg h189]
      · rw [a2 c i h0 h12, e2, sti_ne (fun q => h0 q.1)]
        exact hI.2.1 c i h12
      · rw [a3 j hj, e2, sti_ne (fun q => hj q.2)]
        exact hI.2.1 0 j (by decide)
    · rw [q_X7_notes_11]
      refine ⟨fun c => absurd ((ni_le (k := 189) (by decide) (by omega)).mp c) (by omega), fun _ => ?_⟩
      rw [show nI k + 21 = nI (k + 21) from nI_add k 21, nI_clamp (by omega), nI_clamp (by omega)]
      refine ⟨vp_in_nI (by omega) (by decide), ?_⟩
      intro w ew
      refine ⟨vp_in_nI (by omega) (by decide), ?_⟩
      intro R2 e2 x ex
      rw [ex, nI_1]
      refine ih R2 ⟨fun i hi => ?_, fun c i hc => by rw [e2, sti_ne (fun q => hc q.1)]; exact hI.2.1 c i hc, by rw [e2, sti_22]; exact hI.2.2⟩
      rw [e2, sti_1]
      by_cases hik : i = k
      · rw [if_pos ⟨rfl, hik⟩, if_pos (by omega), ew, hI.1 _ (by omega), if_neg (by omega), hik]
      · rw [if_neg (fun q => hik q.2), hI.1 i hi]
        by_cases hc : i < k
        · rw [if_pos hc, if_pos (by omega)]
        · rw [if_neg hc, if_neg (by omega)]
  · have hu10 : u < 10 := by
      rcases Nat.lt_or_ge u 10 with q | q
      · exact q
      · exact absurd (by rw [show u = 10 by omega]; rfl) c
    refine not47_y hu10 h21 (fun R3 a1 a2 a3 a4 a5 => h R3 ⟨fun i hi => ?_, a2, a3, by rw [a4, Nat.min_eq_right (by omega)], a5⟩)
    rw [a1 i hi, if_pos hu10]
