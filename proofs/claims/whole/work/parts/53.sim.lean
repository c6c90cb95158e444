theorem ne_ix {x : Int32} {n : Nat} (a : Nat) (h : x < 0 ∨ nI n ≤ x) (ha : a < n) (hn : n < 2 ^ 31) : ¬ x = nI a := by
  intro e
  subst e
  rcases h with h | h
  · exact nI_pos (by omega) h
  · exact nI_ge ha hn h
theorem in_nN {S : CS} {x : Int32} {b : Nat} {post : Int32 → CS → Prop} (h : x < 0 ∨ nI (b + 1) ≤ x) (hb : b + 1 < 2 ^ 31) (hp : post 0 S) : p_X7_in S x 0 (nI b) post := in_n (h.imp id (fun h => lt_of_nI_le h (Nat.lt_succ_self b) hb)) hp
theorem c01 {A B : Prop} (b : B) : ((1 : Int32) = 0 → A) ∧ (¬ (1 : Int32) = 0 → B) := ⟨fun q => absurd q ne10, fun _ => b⟩
theorem c00 {A B : Prop} (a : A) : ((0 : Int32) = 0 → A) ∧ (¬ (0 : Int32) = 0 → B) := ⟨fun _ => a, fun q => absurd rfl q⟩
theorem sim_now (k : Nat) (S R : CS) (x1 : Int32) (_ : k < 64) (h : Rel k S R) : p_X6_now S x1 (fun r S1 => p_X7_now R x1 (fun r2 R1 => r = r2 ∧ Rel (k + 1) S1 R1)) := by
  obtain ⟨d, t, pn, hW, ht, hC, hR, htr⟩ := h
  have hsm := Rel.sm hW ht hC hR htr (CSm.rf S) (RSm.thr R 0)
  have hN := hC.2.2.1
  have hRN := fun j (hj : j < 15 + d 2 0) => RN.th hR.2.2.1 hj
  unfold p_X6_now p_X7_now
  rcases ix3 x1 (n := 8) (by decide) with hx | ⟨j, hj, rfl⟩
  · refine br_f (ne_ix 0 hx (by decide) (by decide)) (br_f (ne_ix 1 hx (by decide) (by decide)) (br_f (ne_ix 2 hx (by decide) (by decide)) (br_f (ne_ix 3 hx (by decide) (by decide)) (br_f (ne_ix 4 hx (by decide) (by decide)) (br_f (ne_ix 5 hx (by decide) (by decide)) (br_f (ne_ix 6 hx (by decide) (by decide)) (br_f (ne_ix 7 hx (by decide) (by decide)) ?_)))))))
    intro R1 e1
    subst e1
    exact in_nN (b := 6) (hx.imp id (fun h => Int32.le_trans (nI_le (a := 7) (b := 8) (by decide) (by decide)) h)) (by decide) (c00 (br_f (ne_ix 7 hx (by decide) (by decide)) ⟨rfl, hsm⟩))
  · rcases (show j = 0 ∨ j = 1 ∨ j = 2 ∨ j = 3 ∨ j = 4 ∨ j = 5 ∨ j = 6 ∨ j = 7 by omega) with rfl | rfl | rfl | rfl | rfl | rfl | rfl | rfl
    · refine br_t rfl ?_
      intro R1 e1
      subst e1
      exact in_yN (a := 0) (b := 6) (by decide) (by decide) (by decide) (c01 ⟨vp_in_nI (by decide) (by decide), by rw [nI_clamp (by decide), hRN 0 (by omega), ← hN 0 (by omega)]; rfl, hsm⟩)
    · refine br_f (by decide) (br_t rfl ?_)
      intro R1 e1
      subst e1
      exact in_yN (a := 0) (b := 6) (by decide) (by decide) (by decide) (c01 ⟨vp_in_nI (by decide) (by decide), by rw [nI_clamp (by decide), hRN 1 (by omega), ← hN 1 (by omega)]; rfl, hsm⟩)
    · refine br_f (by decide) (br_f (by decide) (br_t rfl ?_))
      intro R1 e1
      subst e1
      exact in_yN (a := 0) (b := 6) (by decide) (by decide) (by decide) (c01 ⟨vp_in_nI (by decide) (by decide), by rw [nI_clamp (by decide), hRN 2 (by omega), ← hN 2 (by omega)]; rfl, hsm⟩)
    · refine br_f (by decide) (br_f (by decide) (br_f (by decide) (br_t rfl ?_)))
      intro R1 e1
      subst e1
      exact in_yN (a := 0) (b := 6) (by decide) (by decide) (by decide) (c01 ⟨vp_in_nI (by decide) (by decide), by rw [nI_clamp (by decide), hRN 3 (by omega), ← hN 3 (by omega)]; rfl, hsm⟩)
    · refine br_f (by decide) (br_f (by decide) (br_f (by decide) (br_f (by decide) (br_t rfl ?_))))
      intro R1 e1
      subst e1
      exact in_yN (a := 0) (b := 6) (by decide) (by decide) (by decide) (c01 ⟨vp_in_nI (by decide) (by decide), by rw [nI_clamp (by decide), hRN 4 (by omega), ← hN 4 (by omega)]; rfl, hsm⟩)
    · refine br_f (by decide) (br_f (by decide) (br_f (by decide) (br_f (by decide) (br_f (by decide) (br_t rfl ?_)))))
      intro R1 e1
      subst e1
      exact in_yN (a := 0) (b := 6) (by decide) (by decide) (by decide) (c01 ⟨vp_in_nI (by decide) (by decide), by rw [nI_clamp (by decide), hRN 5 (by omega), ← hN 5 (by omega)]; rfl, hsm⟩)
    · refine br_f (by decide) (br_f (by decide) (br_f (by decide) (br_f (by decide) (br_f (by decide) (br_f (by decide) (br_t rfl ?_))))))
      intro R1 e1
      subst e1
      exact in_yN (a := 0) (b := 6) (by decide) (by decide) (by decide) (c01 ⟨vp_in_nI (by decide) (by decide), by rw [nI_clamp (by decide), hRN 6 (by omega), ← hN 6 (by omega)]; rfl, hsm⟩)
    · refine br_f (by decide) (br_f (by decide) (br_f (by decide) (br_f (by decide) (br_f (by decide) (br_f (by decide) (br_f (by decide) (br_t rfl ?_)))))))
      intro R1 e1
      subst e1
      refine in_nN (b := 6) (Or.inr (nI_le (a := 7) (by decide) (by decide))) (by decide) (c00 (br_t rfl ⟨?_, hsm⟩))
      rw [sti_ne (by omega), hC.2.2.2.1.2.1, hR.2.2.2.1.1]
theorem sim_count (k : Nat) (S R : CS) (x1 : Int32) (_ : k < 64) (h : Rel k S R) : p_X6_count S x1 (fun r S1 => p_X7_count R x1 (fun r2 R1 => r = r2 ∧ Rel (k + 1) S1 R1)) := by
  obtain ⟨d, t, pn, hW, ⟨ht1, ht2, ht3⟩, hC, hR, htr⟩ := h
  have hsm := Rel.sm hW ⟨ht1, ht2, ht3⟩ hC hR htr (CSm.rf S) (RSm.thr R 0)
  have hr2 := hR.2.1.1
  unfold p_X6_count p_X7_count p_X5_parts p_X5_orders p_X5_ripe p_X5_twigs p_X5_pace p_X5_lengthAtFirst p_X4_size
  rw [ht2]
  have fin : ∀ (x : Nat) (v : Int32), x < 6 → v = nI (d 2 x) → ∀ R1 : CS, R1 = sti R 0 0 0 → p_X7_in R1 (nI x) 0 5 (fun r_3 S_2 => (r_3 = 0 → (nI x = 6 → (v = S_2.1 0 25 ∧ Rel (k + 1) S S_2)) ∧ (¬ nI x = 6 → (nI x = 7 → (v = S_2.1 0 3 ∧ Rel (k + 1) S S_2)) ∧ (¬ nI x = 7 → (v = -1 ∧ Rel (k + 1) S S_2)))) ∧ (¬ r_3 = 0 → vp_in (nI x) 12 ∧ (v = S_2.1 2 (nI x).toNatClampNeg ∧ Rel (k + 1) S S_2))) := by
    intro x v hx hv R1 e1
    subst e1
    refine in_yN (a := 0) (b := 5) (Nat.zero_le x) (by omega) (by decide) (c01 ⟨vp_in_nI (by omega) (by decide), ?_, hsm⟩)
    rw [nI_clamp (by omega), sti_ne (by omega), hr2 x hx, hv]
  obtain ⟨c1, c2, c3, c4, c5, c6, -⟩ := hC.2.1
  rcases ix3 x1 (n := 8) (by decide) with hx | ⟨j, hj, rfl⟩
  · refine br_f (ne_ix 0 hx (by decide) (by decide)) (br_f (ne_ix 1 hx (by decide) (by decide)) (br_f (ne_ix 2 hx (by decide) (by decide)) (br_f (ne_ix 3 hx (by decide) (by decide)) (br_f (ne_ix 4 hx (by decide) (by decide)) (br_f (ne_ix 5 hx (by decide) (by decide)) (br_f (ne_ix 6 hx (by decide) (by decide)) (br_f (ne_ix 7 hx (by decide) (by decide)) ?_)))))))
    intro R1 e1
    subst e1
    exact in_nN (b := 5) (hx.imp id (fun h => Int32.le_trans (nI_le (a := 6) (b := 8) (by decide) (by decide)) h)) (by decide) (c00 (br_f (ne_ix 6 hx (by decide) (by decide)) (br_f (ne_ix 7 hx (by decide) (by decide)) ⟨rfl, hsm⟩)))
  · rcases (show j = 0 ∨ j = 1 ∨ j = 2 ∨ j = 3 ∨ j = 4 ∨ j = 5 ∨ j = 6 ∨ j = 7 by omega) with rfl | rfl | rfl | rfl | rfl | rfl | rfl | rfl
    · exact br_t rfl ⟨ht1, fin 0 _ (by decide) c1⟩
    · exact br_f (by decide) (br_t rfl ⟨ht1, fin 1 _ (by decide) c2⟩)
    · exact br_f (by decide) (br_f (by decide) (br_t rfl ⟨ht1, value_y (row := 5) (i := 0) (by decide) (by decide) (fin 2 _ (by decide) c3)⟩))
    · exact br_f (by decide) (br_f (by decide) (br_f (by decide) (br_t rfl ⟨ht1, value_y (row := 6) (i := 0) (by decide) (by decide) (fin 3 _ (by decide) c4)⟩)))
    · exact br_f (by decide) (br_f (by decide) (br_f (by decide) (br_f (by decide) (br_t rfl ⟨ht1, value_y (row := 7) (i := 0) (by decide) (by decide) (fin 4 _ (by decide) c5)⟩))))
    · exact br_f (by decide) (br_f (by decide) (br_f (by decide) (br_f (by decide) (br_f (by decide) (br_t rfl ⟨ht1, value_y (row := 8) (i := 0) (by decide) (by decide) (fin 5 _ (by decide) c6)⟩)))))
    · refine br_f (by decide) (br_f (by decide) (br_f (by decide) (br_f (by decide) (br_f (by decide) (br_f (by decide) (br_t rfl ?_))))))
      intro R1 e1
      subst e1
      refine in_nN (b := 5) (Or.inr (nI_le (a := 6) (by decide) (by decide))) (by decide) (c00 (br_t rfl ⟨?_, hsm⟩))
      rw [sti_ne (by omega), hC.2.2.2.2.2.1, hR.2.2.2.2.2.1]
    · refine br_f (by decide) (br_f (by decide) (br_f (by decide) (br_f (by decide) (br_f (by decide) (br_f (by decide) (br_f (by decide) (br_t rfl ?_)))))))
      intro R1 e1
      subst e1
      refine in_nN (b := 5) (Or.inr (nI_le (a := 6) (by decide) (by decide))) (by decide) (c00 (br_f (by decide) (br_t rfl ⟨?_, hsm⟩)))
      rw [sti_ne (by omega), hC.1.1, hR.1.1]
/-- what a part gives NOW -/
def gfN (d : Dat) (p : Nat) : Int32 := gfI (nI (d 3 p)) (nI (d 8 (15 + p))) (nI (d 2 2))
theorem giftOf_y {S : CS} {d : Dat} {t p : Nat} {post : Int32 → CS → Prop} (ht1 : t < 2) (ht2 : S.2.1 = t) (hD : CD d t S.1) (hN : CN d S.1) (hP : d 2 0 ≤ 6) (hp : p < d 2 0) (h : post (gfN d p) S) : p_X6_giftOf S (nI p) post := by
  unfold p_X6_giftOf p_X5_ripe
  rw [ht2]
  refine ⟨ht1, value_y (row := 0) (by decide) (by omega) (age_y (by omega) ?_)⟩
  rw [ht2]
  refine ⟨ht1, value_y (row := 5) (i := 0) (by decide) (by decide) (gift_y ?_)⟩
  have e1 : S.1 (tv t) (6 * 0 + p) = nI (d 3 p) := by rw [Nat.mul_zero, Nat.zero_add]; exact hD.2.2.2.2.2.2.1 p hp
  have e2 : S.1 (mg 0) p = nI (d 8 (15 + p)) := by rw [← hN (15 + p) (by omega), mv_a]
  rw [e1, e2, show S.1 (tv t) (6 * 5 + 0) = nI (d 2 2) from hD.2.2.1]
  exact h
theorem r_gives_y {R : CS} {d : Dat} {p c : Nat} {post : Int32 → CS → Prop} {a : Int32} (h2 : R.1 2 2 = nI (d 2 2)) (h3 : R.1 3 p = nI (d 3 p)) (h8 : R.1 c (15 + p) = a) (hp : p < 6) (h : post (gfI (nI (d 3 p)) a (nI (d 2 2))) R) : p_X7_gives R c (nI p) post := by
  unfold p_X7_gives
  have e7 : (15 : Int32) + nI p = nI (15 + p) := by rw [show (15 : Int32) = nI 15 from rfl, nI_add]
  rw [e7, nI_clamp (by omega), nI_clamp (by omega), h3, h8]
  exact ⟨vp_in_nI (by omega) (by decide), vp_in_nI (by omega) (by decide), r_givesAt_y (by rw [h2]; exact h)⟩
theorem sim_part (k : Nat) (S R : CS) (x1 x2 : Int32) (_ : k < 64) (h : Rel k S R) : p_X6_part S x1 x2 (fun r S1 => p_X7_part R x1 x2 (fun r2 R1 => r = r2 ∧ Rel (k + 1) S1 R1)) := by
  obtain ⟨d, t, pn, hW, ⟨ht1, ht2, ht3⟩, hC, hR, htr⟩ := h
  have hsm := Rel.sm hW ⟨ht1, ht2, ht3⟩ hC hR htr (CSm.rf S) (RSm.thr R 0)
  have hP6 := hW.2.1.1
  have hr2 : (sti R 0 0 0).1 2 0 = nI (d 2 0) := by rw [sti_ne (by omega)]; exact hR.2.1.1 0 (by decide)
  unfold p_X6_part p_X7_part
  rcases ix3 x1 (n := d 2 0) (by omega) with hx | ⟨j, hj, rfl⟩
  · refine isPart_n ht2 ht1 hC.2.1.1 hx (c00 ?_)
    intro R1 e1
    subst e1
    exact r_isPart_n hr2 hP6 hx (c00 ⟨rfl, hsm⟩)
  · refine isPart_y ht2 ht1 hC.2.1.1 hP6 hj (c01 ?_)
    rw [ht2]
    have go : ∀ (v : Int32) (R1 : CS), R1 = sti R 0 0 0 → ∀ Q : Int32 → CS → Prop, Q 1 R1 → p_X7_isPart R1 (nI j) Q := by
      intro v R1 e1 Q hQ
      subst e1
      exact r_isPart_y hr2 hP6 hj hQ
    have e3 : (sti R 0 0 0).1 3 j = nI (d 3 j) := by rw [sti_ne (by omega)]; exact hR.2.1.2.1 j hj
    have e8 : (sti R 0 0 0).1 8 (15 + j) = nI (d 8 (15 + j)) := RN.th hR.2.2.1 (by omega)
    have e22 : (sti R 0 0 0).1 2 2 = nI (d 2 2) := by rw [sti_ne (by omega)]; exact hR.2.1.1 2 (by decide)
    rcases ix3 x2 (n := 3) (by decide) with hy | ⟨i, hi, rfl⟩
    · refine br_f (ne_ix 0 hy (by decide) (by decide)) (br_f (ne_ix 1 hy (by decide) (by decide)) (br_f (ne_ix 2 hy (by decide) (by decide)) ?_))
      intro R1 e1
      refine go 0 R1 e1 _ (c01 ?_)
      subst e1
      exact in_nN (b := 2) hy (by decide) (c00 ⟨rfl, hsm⟩)
    · rcases (show i = 0 ∨ i = 1 ∨ i = 2 by omega) with rfl | rfl | rfl
      · refine br_t rfl ⟨ht1, value_y (row := 0) (by decide) (by omega) ?_⟩
        intro R1 e1
        refine go 0 R1 e1 _ (c01 ?_)
        subst e1
        refine in_yN (a := 0) (b := 2) (by decide) (by decide) (by decide) (c01 (br_t rfl ⟨vp_in_nI (by omega) (by decide), ?_, hsm⟩))
        rw [nI_clamp (by omega), e3, Nat.mul_zero, Nat.zero_add]
        exact hC.2.1.2.2.2.2.2.2.1 j hj
      · refine br_f (by decide) (br_t rfl (age_y (by omega) ?_))
        intro R1 e1
        refine go 0 R1 e1 _ (c01 ?_)
        subst e1
        have e7 : (15 : Int32) + nI j = nI (15 + j) := by rw [show (15 : Int32) = nI 15 from rfl, nI_add]
        refine in_yN (a := 0) (b := 2) (by decide) (by decide) (by decide) (c01 (br_f (by decide) (br_t rfl ?_)))
        rw [e7, nI_clamp (by omega), e8]
        exact ⟨vp_in_nI (by omega) (by decide), by rw [← hC.2.2.1 (15 + j) (by omega), mv_a], hsm⟩
      · refine br_f (by decide) (br_f (by decide) (br_t rfl (giftOf_y ht1 ht2 hC.2.1 hC.2.2.1 hP6 hj ?_)))
        intro R1 e1
        refine go 0 R1 e1 _ (c01 ?_)
        subst e1
        exact in_yN (a := 0) (b := 2) (by decide) (by decide) (by decide) (c01 (br_f (by decide) (br_f (by decide) (r_gives_y e22 e3 e8 (by omega) ⟨rfl, hsm⟩))))
