theorem sim_order (k : Nat) (S R : CS) (x1 x2 : Int32) (_ : k < 64) (h : Rel k S R) : p_X6_order S x1 x2 (fun r S1 => p_X7_order R x1 x2 (fun r2 R1 => r = r2 ∧ Rel (k + 1) S1 R1)) := by
  obtain ⟨d, t, pn, hW, ⟨ht1, ht2, ht3⟩, hC, hR, htr⟩ := h
  have hsm := Rel.sm hW ⟨ht1, ht2, ht3⟩ hC hR htr (CSm.rf S) (RSm.thr R 0)
  have hP6 := hW.2.1.2.1
  have hr2 : (sti R 0 0 0).1 2 1 = nI (d 2 1) := by rw [sti_ne (by omega)]; exact hR.2.1.1 1 (by decide)
  unfold p_X6_order p_X7_order
  rcases ix3 x1 (n := d 2 1) (by omega) with hx | ⟨j, hj, rfl⟩
  · refine isOrder_n ht2 ht1 hC.2.1.2.1 hx (c00 ?_)
    intro R1 e1
    subst e1
    exact r_isOrder_n hr2 hP6 hx (c00 ⟨rfl, hsm⟩)
  · refine isOrder_y ht2 ht1 hC.2.1.2.1 hP6 hj (c01 ?_)
    rw [ht2]
    have go : ∀ (R1 : CS), R1 = sti R 0 0 0 → ∀ Q : Int32 → CS → Prop, Q 1 R1 → p_X7_isOrder R1 (nI j) Q := by
      intro R1 e1 Q hQ
      subst e1
      exact r_isOrder_y hr2 hP6 hj hQ
    obtain ⟨g5, g6, g7⟩ := hR.2.1.2.2 j hj
    obtain ⟨f5, f6, f7⟩ := hC.2.1.2.2.2.2.2.2.2 j hj
    have e5 : (sti R 0 0 0).1 5 j = nI (d 5 j) := by rw [sti_ne (by omega)]; exact g5
    have e6 : (sti R 0 0 0).1 6 j = nI (d 6 j) := by rw [sti_ne (by omega)]; exact g6
    have e7 : (sti R 0 0 0).1 7 j = nI (d 7 j) := by rw [sti_ne (by omega)]; exact g7
    have e85 : (sti R 0 0 0).1 8 5 = nI (d 8 5) := RN.th hR.2.2.1 (by omega)
    have f85 : S.1 (mo 0) 6 = nI (d 8 5) := by rw [← hC.2.2.1 5 (by omega), mv_5]
    rcases ix3 x2 (n := 4) (by decide) with hy | ⟨i, hi, rfl⟩
    · refine br_f (ne_ix 0 hy (by decide) (by decide)) (br_f (ne_ix 1 hy (by decide) (by decide)) (br_f (ne_ix 2 hy (by decide) (by decide)) (br_f (ne_ix 3 hy (by decide) (by decide)) ?_)))
      intro R1 e1
      refine go R1 e1 _ (c01 ?_)
      subst e1
      exact in_nN (b := 3) hy (by decide) (c00 ⟨rfl, hsm⟩)
    · rcases (show i = 0 ∨ i = 1 ∨ i = 2 ∨ i = 3 by omega) with rfl | rfl | rfl | rfl
      · refine br_t rfl ⟨ht1, value_y (row := 2) (by decide) (by omega) ?_⟩
        intro R1 e1
        refine go R1 e1 _ (c01 ?_)
        subst e1
        exact in_yN (a := 0) (b := 3) (by decide) (by decide) (by decide) (c01 (br_t rfl ⟨vp_in_nI (by omega) (by decide), by rw [nI_clamp (by omega), e5]; exact f5, hsm⟩))
      · refine br_f (by decide) (br_t rfl ⟨ht1, value_y (row := 3) (by decide) (by omega) ?_⟩)
        intro R1 e1
        refine go R1 e1 _ (c01 ?_)
        subst e1
        exact in_yN (a := 0) (b := 3) (by decide) (by decide) (by decide) (c01 (br_f (by decide) (br_t rfl ⟨vp_in_nI (by omega) (by decide), by rw [nI_clamp (by omega), e6]; exact f6, hsm⟩)))
      · refine br_f (by decide) (br_f (by decide) (br_t rfl ⟨ht1, value_y (row := 4) (by decide) (by omega) ?_⟩))
        intro R1 e1
        refine go R1 e1 _ (c01 ?_)
        subst e1
        exact in_yN (a := 0) (b := 3) (by decide) (by decide) (by decide) (c01 (br_f (by decide) (br_f (by decide) (br_t rfl ⟨vp_in_nI (by omega) (by decide), by rw [nI_clamp (by omega), e7]; exact f7, hsm⟩))))
      · refine br_f (by decide) (br_f (by decide) (br_f (by decide) (br_t rfl ?_)))
        unfold p_X1_wasSent
        rw [f85]
        refine ⟨fun cs => c01 ?_, fun cs => c00 ?_⟩
        · intro R1 e1
          refine go R1 e1 _ (c01 ?_)
          subst e1
          refine in_yN (a := 0) (b := 3) (by decide) (by decide) (by decide) (c01 (br_f (by decide) (br_f (by decide) (br_f (by decide) ?_))))
          unfold p_X7_isSent
          rw [e85]
          exact br_t cs (c01 ⟨rfl, hsm⟩)
        · intro R1 e1
          refine go R1 e1 _ (c01 ?_)
          subst e1
          refine in_yN (a := 0) (b := 3) (by decide) (by decide) (by decide) (c01 (br_f (by decide) (br_f (by decide) (br_f (by decide) ?_))))
          unfold p_X7_isSent
          rw [e85]
          exact br_f cs (c00 ⟨rfl, hsm⟩)
theorem gf_old : ∀ r, r < 16 → ∀ a, a < 71 → 40 ≤ a → nI r < nI a ∧ (nI r - 2) - (nI a - nI r) ≤ 0 := by decide +kernel
theorem gf_z {s : Int32} {r a : Nat} (hr : r < 16) (ha : a < 71) (h40 : 40 ≤ a) : gfI s (nI a) (nI r) = 0 := by
  obtain ⟨h1, h2⟩ := gf_old r hr a ha h40
  unfold gfI
  rw [if_pos h1, if_pos h2]
theorem sim_inYears (k : Nat) (S R : CS) (x1 x2 : Int32) (_ : k < 64) (h : Rel k S R) : p_X6_inYears S x1 x2 (fun r S1 => p_X7_inYears R x1 x2 (fun r2 R1 => r = r2 ∧ Rel (k + 1) S1 R1)) := by
  obtain ⟨d, t, pn, hW, ⟨ht1, ht2, ht3⟩, hC, hR, htr⟩ := h
  have hsm := Rel.sm hW ⟨ht1, ht2, ht3⟩ hC hR htr (CSm.rf S) (RSm.thr R 0)
  have hP6 := hW.2.1.1
  have hr2 : (sti R 0 0 0).1 2 0 = nI (d 2 0) := by rw [sti_ne (by omega)]; exact hR.2.1.1 0 (by decide)
  unfold p_X6_inYears p_X7_inYears p_X5_ripe
  rcases ix3 x1 (n := d 2 0) (by omega) with hx | ⟨j, hj, rfl⟩
  · refine isPart_n ht2 ht1 hC.2.1.1 hx (c00 ?_)
    intro R1 e1
    subst e1
    exact r_isPart_n hr2 hP6 hx (c00 ⟨rfl, hsm⟩)
  · refine isPart_y ht2 ht1 hC.2.1.1 hP6 hj (c01 ?_)
    rw [ht2]
    have go : ∀ (R1 : CS), R1 = sti R 0 0 0 → ∀ Q : Int32 → CS → Prop, Q 1 R1 → p_X7_isPart R1 (nI j) Q := by
      intro R1 e1 Q hQ
      subst e1
      exact r_isPart_y hr2 hP6 hj hQ
    have e3 : (sti R 0 0 0).1 3 j = nI (d 3 j) := by rw [sti_ne (by omega)]; exact hR.2.1.2.1 j hj
    have e8 : (sti R 0 0 0).1 8 (15 + j) = nI (d 8 (15 + j)) := RN.th hR.2.2.1 (by omega)
    have e22 : (sti R 0 0 0).1 2 2 = nI (d 2 2) := by rw [sti_ne (by omega)]; exact hR.2.1.1 2 (by decide)
    have ha := hW.2.2.1.2.2.2.2.2.2.2.2 j hj
    have hr := hW.2.1.2.2.1.2
    rcases ix3 x2 (n := 31) (by decide) with hy | ⟨n, hn, rfl⟩
    · have bad : ∀ Q : CS → Prop, ∀ R1 : CS, R1 = sti R 0 0 0 → p_X7_isPart R1 (nI j) (fun r_3 S_2 => (r_3 = 0 → ((-1 : Int32) = -1 ∧ Rel (k + 1) S S_2)) ∧ (¬ r_3 = 0 → p_X7_in S_2 x2 0 30 (fun r_6 S_5 => (r_6 = 0 → ((-1 : Int32) = -1 ∧ Rel (k + 1) S S_5)) ∧ (¬ r_6 = 0 → Q S_5)))) := by
        intro Q R1 e1
        refine go R1 e1 _ (c01 ?_)
        subst e1
        exact in_nN (b := 30) hy (by decide) (c00 ⟨rfl, hsm⟩)
      refine ⟨fun _ => bad _, fun c1 => ⟨fun c2 => ?_, fun _ => bad _⟩⟩
      rcases hy with hy | hy
      · exact absurd hy c1
      · exact absurd c2 (nle_of_nI_le (a := 30) hy (by decide) (by decide))
    · refine br_f (nI_pos (by omega)) (br_t (nI_le (b := 30) (by omega) (by decide)) ⟨ht1, value_y (row := 0) (by decide) (by omega) (age_y (by omega) ?_)⟩)
      rw [ht2]
      refine ⟨ht1, value_y (row := 5) (i := 0) (by decide) (by decide) (gift_y ?_)⟩
      have g1 : S.1 (tv t) (6 * 0 + j) = nI (d 3 j) := by rw [Nat.mul_zero, Nat.zero_add]; exact hC.2.1.2.2.2.2.2.2.1 j hj
      have g2 : S.1 (mg 0) j = nI (d 8 (15 + j)) := by rw [← hC.2.2.1 (15 + j) (by omega), mv_a]
      rw [g1, g2, show S.1 (tv t) (6 * 5 + 0) = nI (d 2 2) from hC.2.1.2.2.1, nI_add]
      intro R1 e1
      refine go R1 e1 _ (c01 ?_)
      subst e1
      refine in_yN (a := 0) (b := 30) (Nat.zero_le _) (by omega) (by decide) (c01 ?_)
      have e15 : (15 : Int32) + nI j = nI (15 + j) := by rw [show (15 : Int32) = nI 15 from rfl, nI_add]
      rw [e15, nI_clamp (by omega), e8, nI_add, nI_clamp (by omega), e3]
      refine ⟨vp_in_nI (by omega) (by decide), ?_⟩
      intro x ex
      subst ex
      refine ⟨vp_in_nI (by omega) (by decide), fun c => r_givesAt_y ?_, fun c => r_givesAt_y ?_⟩
      · rw [e22]
        exact ⟨rfl, hsm⟩
      · have h41 : 40 < d 8 (15 + j) + n := by
          rcases Nat.lt_or_ge 40 (d 8 (15 + j) + n) with h9 | h9
          · exact h9
          · exact absurd (nI_le (b := 40) h9 (by decide)) c
        rw [e22, gf_z (by omega) (by omega) (by omega), show (40 : Int32) = nI 40 from rfl, gf_z (by omega) (by decide) (by decide)]
        exact ⟨rfl, hsm⟩
/-- the rate of part j as if of kind i, and what comes to the trace -/
def rtA (d : Dat) (i j : Nat) : Int32 := if i = 0 then gfN d j else if i = 1 then gfN d j + nI (d 3 j) else if i = 2 then gfN d j - nI (d 8 (15 + j)) else if i = 3 then 2 * (gfN d j + nI (d 3 j)) else if i = 4 then gfN d j - nI (d 8 (15 + j)) + nI j else gfN d j + nI (d 8 1)
def rtW (i : Nat) : Int64 := if i = 0 then 1 else if i = 1 then 11 else if i = 2 then 101 else if i = 3 then 1011 else if i = 4 then 10101 else 100001
theorem r_rate_y {R : CS} {d : Dat} {i j : Nat} {post : Int32 → CS → Prop} (hR : RR d R.1) (hP6 : d 2 0 ≤ 6) (hi : i < 6) (hj : j < d 2 0) (h : post (rtA d i j) (stt (sti R 0 0 0) (R.2.2.2 + rtW i))) : p_X7_rate R (nI i) (nI j) post := by
  have hr2 : (sti R 0 0 0).1 2 0 = nI (d 2 0) := by rw [sti_ne (by omega)]; exact hR.2.1.1 0 (by decide)
  have e3 : (sti R 0 0 0).1 3 j = nI (d 3 j) := by rw [sti_ne (by omega)]; exact hR.2.1.2.1 j hj
  have e8 : (sti R 0 0 0).1 8 (15 + j) = nI (d 8 (15 + j)) := RN.th hR.2.2.1 (by omega)
  have e81 : (sti R 0 0 0).1 8 1 = nI (d 8 1) := RN.th hR.2.2.1 (by omega)
  have e22 : (sti R 0 0 0).1 2 2 = nI (d 2 2) := by rw [sti_ne (by omega)]; exact hR.2.1.1 2 (by decide)
  have e15 : (15 : Int32) + nI j = nI (15 + j) := by rw [show (15 : Int32) = nI 15 from rfl, nI_add]
  unfold p_X7_rate
  intro R1 e1
  subst e1
  refine in_yN (a := 0) (b := 5) (Nat.zero_le _) (by omega) (by decide) (c01 (r_isPart_y hr2 hP6 hj (c01 (r_gives_y e22 e3 e8 (by omega) ?_))))
  rw [e15, nI_clamp (by omega), e8]
  refine ⟨vp_in_nI (by omega) (by decide), ?_⟩
  intro x ex
  subst ex
  unfold q_X7_rate_108
  rcases (show i = 0 ∨ i = 1 ∨ i = 2 ∨ i = 3 ∨ i = 4 ∨ i = 5 by omega) with rfl | rfl | rfl | rfl | rfl | rfl
  · refine br_t rfl ?_
    intro u eu R2 e2
    subst eu e2
    exact br_t rfl h
  · refine br_f (by decide) (br_t rfl ?_)
    intro u eu R2 e2
    subst eu e2
    refine br_f (by decide) (br_t rfl ⟨vp_in_nI (by omega) (by decide), ?_⟩)
    rw [nI_clamp (by omega), show (stt (sti R 0 0 0) ((sti R 0 0 0).2.2.2 + 11)).1 3 j = nI (d 3 j) from e3]
    exact h
  · refine br_f (by decide) (br_f (by decide) (br_t rfl ?_))
    intro u eu R2 e2
    subst eu e2
    exact br_f (by decide) (br_f (by decide) (br_t rfl h))
  · refine br_f (by decide) (br_f (by decide) (br_f (by decide) (br_t rfl ?_)))
    intro u eu R2 e2
    subst eu e2
    refine br_f (by decide) (br_f (by decide) (br_f (by decide) (br_t rfl ⟨vp_in_nI (by omega) (by decide), ?_⟩)))
    rw [nI_clamp (by omega), show (stt (sti R 0 0 0) ((sti R 0 0 0).2.2.2 + 1011)).1 3 j = nI (d 3 j) from e3]
    exact h
  · refine br_f (by decide) (br_f (by decide) (br_f (by decide) (br_f (by decide) (br_t rfl ?_))))
    intro u eu R2 e2
    subst eu e2
    exact br_f (by decide) (br_f (by decide) (br_f (by decide) (br_f (by decide) (br_t rfl h))))
  · refine br_f (by decide) (br_f (by decide) (br_f (by decide) (br_f (by decide) (br_f (by decide) ?_))))
    intro u eu R2 e2
    subst eu e2
    refine br_f (by decide) (br_f (by decide) (br_f (by decide) (br_f (by decide) (br_f (by decide) ?_))))
    rw [show (stt (sti R 0 0 0) ((sti R 0 0 0).2.2.2 + 100001)).1 8 1 = nI (d 8 1) from e81]
    exact h
theorem r_rate_n {R : CS} {d : Dat} {x1 x2 : Int32} {post : Int32 → CS → Prop} (hR : RR d R.1) (hP6 : d 2 0 ≤ 6) (h0 : (x1 < 0 ∨ nI 6 ≤ x1) ∨ (x2 < 0 ∨ nI (d 2 0) ≤ x2)) (h : post (-1000000) (sti R 0 0 0)) : p_X7_rate R x1 x2 post := by
  have hr2 : (sti R 0 0 0).1 2 0 = nI (d 2 0) := by rw [sti_ne (by omega)]; exact hR.2.1.1 0 (by decide)
  unfold p_X7_rate
  intro R1 e1
  subst e1
  rcases ix3 x1 (n := 6) (by decide) with hy | ⟨i, hi, rfl⟩
  · exact in_nN (b := 5) hy (by decide) (c00 h)
  · refine in_yN (a := 0) (b := 5) (Nat.zero_le _) (by omega) (by decide) (c01 (r_isPart_n hr2 hP6 ?_ (c00 h)))
    rcases h0 with h0 | h0
    · rcases h0 with h0 | h0
      · exact absurd h0 (nI_pos (by omega))
      · exact absurd h0 (nI_ge hi (by decide))
    · exact h0
theorem sim_rate (k : Nat) (S R : CS) (x1 x2 : Int32) (_ : k < 64) (h : Rel k S R) : p_X6_rate S x1 x2 (fun r S1 => p_X7_rate R x1 x2 (fun r2 R1 => r = r2 ∧ Rel (k + 1) S1 R1)) := by
  obtain ⟨d, t, pn, hW, ⟨ht1, ht2, ht3⟩, hC, hR, htr⟩ := h
  have hsm := Rel.sm hW ⟨ht1, ht2, ht3⟩ hC hR htr (CSm.rf S) (RSm.thr R 0)
  have hP6 := hW.2.1.1
  unfold p_X6_rate
  rcases ix3 x2 (n := d 2 0) (by omega) with hx | ⟨j, hj, rfl⟩
  · exact isPart_n ht2 ht1 hC.2.1.1 hx (c00 (r_rate_n hR hP6 (Or.inr hx) ⟨rfl, hsm⟩))
  · refine isPart_y ht2 ht1 hC.2.1.1 hP6 hj (c01 ?_)
    have f1 : S.1 (mo 0) 7 = nI (d 8 1) := by rw [← hC.2.2.1 1 (by omega), mv_1]
    have g1 : S.1 (tv t) (6 * 0 + j) = nI (d 3 j) := by rw [Nat.mul_zero, Nat.zero_add]; exact hC.2.1.2.2.2.2.2.2.1 j hj
    have g2 : S.1 (mg 0) j = nI (d 8 (15 + j)) := by rw [← hC.2.2.1 (15 + j) (by omega), mv_a]
    have hpart : ∀ (u : Int64) (Q : Int32 → CS → Prop), Q (gfN d j) (stt S (u + 1)) → p_X6_rateAsPart (stt S u) (nI j) Q := by
      intro u Q hQ
      unfold p_X6_rateAsPart
      intro u1 e1 S1 e2
      subst e1 e2
      exact giftOf_y (S := stt S (u + 1)) (d := d) ht1 ht2 hC.2.1 hC.2.2.1 hP6 hj hQ
    have hbirch : ∀ (u : Int64) (Q : Int32 → CS → Prop), Q (gfN d j + nI (d 3 j)) (stt S (u + 10 + 1)) → p_X6_rateAsBirch (stt S u) (nI j) Q := by
      intro u Q hQ
      unfold p_X6_rateAsBirch
      intro u1 e1 S1 e2
      subst e1 e2
      refine hpart (u + 10) _ ?_
      rw [show (stt S (u + 10 + 1)).2.1 = t from ht2]
      refine ⟨ht1, value_y (row := 0) (by decide) (by omega) ?_⟩
      rw [show (stt S (u + 10 + 1)).1 = S.1 from rfl, g1]
      exact hQ
    have hheath : ∀ (u : Int64) (Q : Int32 → CS → Prop), Q (gfN d j - nI (d 8 (15 + j))) (stt S (u + 100 + 1)) → p_X6_rateAsHeather (stt S u) (nI j) Q := by
      intro u Q hQ
      unfold p_X6_rateAsHeather
      intro u1 e1 S1 e2
      subst e1 e2
      refine hpart (u + 100) _ (age_y (by omega) ?_)
      rw [show (stt S (u + 100 + 1)).1 = S.1 from rfl, g2]
      exact hQ
    have fin : ∀ (i : Nat) (u : Int64), i < 6 → u = S.2.2.2 + rtW i → p_X7_rate R (nI i) (nI j) (fun r2 R1 => rtA d i j = r2 ∧ Rel (k + 1) (stt S u) R1) := by
      intro i u hi hu
      refine r_rate_y hR hP6 hi hj ⟨rfl, Rel.sm2 hW ⟨ht1, ht2, ht3⟩ hC hR rfl rfl rfl (fun c j h => show (sti R 0 0 0).1 c j = R.1 c j from sti_ne (fun q => h q.1)) (fun j h => show (sti R 0 0 0).1 0 j = R.1 0 j from sti_ne (fun q => h q.2)) ?_⟩
      show u = R.2.2.2 + rtW i
      rw [hu, htr]
    rcases ix3 x1 (n := 6) (by decide) with hy | ⟨i, hi, rfl⟩
    · exact br_f (ne_ix 0 hy (by decide) (by decide)) (br_f (ne_ix 1 hy (by decide) (by decide)) (br_f (ne_ix 2 hy (by decide) (by decide)) (br_f (ne_ix 3 hy (by decide) (by decide)) (br_f (ne_ix 4 hy (by decide) (by decide)) (br_f (ne_ix 5 hy (by decide) (by decide)) (r_rate_n hR hP6 (Or.inl hy) ⟨rfl, hsm⟩))))))
    · rcases (show i = 0 ∨ i = 1 ∨ i = 2 ∨ i = 3 ∨ i = 4 ∨ i = 5 by omega) with rfl | rfl | rfl | rfl | rfl | rfl
      · exact br_t rfl (hpart S.2.2.2 _ (fin 0 _ hi rfl))
      · exact br_f (by decide) (br_t rfl (hbirch S.2.2.2 _ (fin 1 _ hi (by rw [Int64.add_assoc]; rfl))))
      · exact br_f (by decide) (br_f (by decide) (br_t rfl (hheath S.2.2.2 _ (fin 2 _ hi (by rw [Int64.add_assoc]; rfl)))))
      · refine br_f (by decide) (br_f (by decide) (br_f (by decide) (br_t rfl ?_)))
        unfold p_X6_rateAsStake
        intro u e1 S1 e2
        subst e1 e2
        exact hbirch _ _ (fin 3 _ hi (by rw [Int64.add_assoc, Int64.add_assoc]; rfl))
      · refine br_f (by decide) (br_f (by decide) (br_f (by decide) (br_f (by decide) (br_t rfl ?_))))
        unfold p_X6_rateAsKnot
        intro u e1 S1 e2
        subst e1 e2
        exact hheath _ _ (fin 4 _ hi (by rw [Int64.add_assoc, Int64.add_assoc]; rfl))
      · refine br_f (by decide) (br_f (by decide) (br_f (by decide) (br_f (by decide) (br_f (by decide) (br_t rfl ?_)))))
        unfold p_X6_rateAsBramble
        intro u e1 S1 e2
        subst e1 e2
        refine hpart _ _ ?_
        have hh : ∀ u : Int64, (stt S u).1 (mo 0) 7 = nI (d 8 1) := fun _ => f1
        rw [hh]
        exact fin 5 _ hi (by rw [Int64.add_assoc]; rfl)
