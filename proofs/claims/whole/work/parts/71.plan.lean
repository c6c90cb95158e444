/-! the planner goes through all rows -/
theorem yr_dec : ∀ n, n < 5 → (if (0 : Int32) < (if nI n < 4 then nI n else 4) then (if nI n < 4 then nI n else 4) else 0) = nI n := by decide +kernel
theorem pw_dec : ∀ P, P < 7 → ∀ n, n < 5 → 0 < (P + 1) ^ n ∧ (P + 1) ^ n ≤ 2401 := by decide +kernel
def tc (d : Dat) (n i : Nat) : Nat := tot d (dg (d 2 0 + 1) n i) n
theorem dg_0 {B n y : Nat} : dg B n 0 y = 0 := by
  unfold dg
  by_cases h : y < n
  · rw [if_pos h, Nat.zero_div, Nat.zero_mod]
  · rw [if_neg h]
theorem tc_le {k : Nat} {d : Dat} (hW : WF k d) {n : Nat} (hn : n ≤ 4) (i : Nat) : tc d n i ≤ 468 := by
  have h := tot_le hW (c := dg (d 2 0 + 1) n i) n (fun z _ => by have := dg_lt (B := d 2 0 + 1) (n := n) (i := i) (y := z) (by omega); omega)
  unfold tc
  omega
theorem nI_nm1 {a : Nat} (ha : a < 2 ^ 31) : ¬ nI a ≤ -1 := by
  rw [Int32.le_iff_toInt_le, nI_toInt ha]
  have : (-1 : Int32).toInt = -1 := rfl
  omega
theorem nI_nm9 {a : Nat} (ha : a < 2 ^ 31) : ¬ nI a ≤ -9 := by
  rw [Int32.le_iff_toInt_le, nI_toInt ha]
  have : (-9 : Int32).toInt = -9 := rfl
  omega
/-- the best of the rows ahead of row i, in the class -/
def BC (d : Dat) (n i : Nat) (S : CS) : Prop := (i = 0 ∧ S.1 17 0 = -1) ∨ ∃ j, i = j + 1 ∧ S.1 17 0 = nI (tc d n (am (tc d n) j)) ∧ ∀ y, y < 4 → S.1 19 y = nI (dg (d 2 0 + 1) n (am (tc d n) j) y) - 1
theorem BC.cg {d : Dat} {n i : Nat} {S S1 : CS} (h : BC d n i S) (e1 : S1.1 17 0 = S.1 17 0) (e2 : ∀ y, S1.1 19 y = S.1 19 y) : BC d n i S1 := by
  rcases h with ⟨a, b⟩ | ⟨j, a, b, c⟩
  · exact Or.inl ⟨a, by rw [e1]; exact b⟩
  · exact Or.inr ⟨j, a, by rw [e1]; exact b, fun y hy => by rw [e2]; exact c y hy⟩
theorem cmp_y {S1 : CS} {k n i : Nat} {d : Dat} {post : CS → Prop} (hW : WF k d) (hn : n ≤ 4) (hb : BC d n i S1) (hR : Row S1 (dg (d 2 0 + 1) n i)) (h : ∀ S2 : CS, BC d n (i + 1) S2 → (∀ c i, c ≠ 17 → c ≠ 19 → S2.1 c i = S1.1 c i) → S2.2 = S1.2 → post S2) : p_X2_compare S1 (nI (tc d n i)) post := by
  have hl := tc_le hW hn
  refine compare_y (fun q => ?_) (fun q S2 a1 a2 a3 a4 => ?_)
  · rcases hb with ⟨e, b⟩ | ⟨j, e, b, c⟩
    · rw [b] at q
      exact absurd q (nI_nm1 (by have := hl i; omega))
    · subst e
      rw [b] at q
      have hq : tc d n (j + 1) ≤ tc d n (am (tc d n) j) := (nI_leI (by have := hl (j + 1); omega) (by have := hl (am (tc d n) j); omega)).mp q
      refine h S1 (Or.inr ⟨j + 1, rfl, ?_, fun y hy => ?_⟩) (fun _ _ _ _ => rfl) rfl
      · rw [am_s, if_pos hq]; exact b
      · rw [am_s, if_pos hq]; exact c y hy
  · have ha : am (tc d n) i = i := by
      rcases hb with ⟨e, b⟩ | ⟨j, e, b, c⟩
      · rw [e]; rfl
      · subst e
        rw [b] at q
        have hq : ¬ tc d n (j + 1) ≤ tc d n (am (tc d n) j) := fun z => q (nI_le z (by have := hl (am (tc d n) j); omega))
        rw [am_s, if_neg hq]
    refine h S2 (Or.inr ⟨i, rfl, ?_, fun y hy => ?_⟩) a3 a4
    · rw [ha]; exact a1
    · rw [ha, a2 y hy]; exact hR y hy
theorem fill_y {S S1 : CS} {k t n q i : Nat} {d : Dat} {c : Nat → Nat} {K : Int32 → Int32 → Int32 → CS → Prop} {post : CS → Prop} (hW : WF k d) (hD : CD d t S.1) (hN : CN d S.1) (ht1 : t < 2) (hn : n ≤ 4) (hq : q ≤ n) (gp : ∀ y, y ≤ q → S1.1 20 y = nI (tot d c y)) (hP : PC S S1) (hR : Row S1 c) (hc : ∀ z, c z ≤ d 2 0)
    (h : ∀ S2 : CS, PC S S2 → (∀ y, y ≤ n → S2.1 20 y = nI (tot d c y)) → (∀ c i, c ≠ 20 → S2.1 c i = S1.1 c i) → S2.2 = S1.2 → (vp_in (nI n) 5 ∧ (p_X2_compare S2 (S2.1 20 (nI n).toNatClampNeg) (fun S_7 => (p_X5_parts S_7 t (fun r_10 S_9 => (p_X2_goToNextRow S_9 (nI n) r_10 (fun r_12 S_11 => (∀ x6_13 : Int32, x6_13 = nI i + 1 → (K (nI n) r_12 x6_13 S_11)))))))))) : ∃ m, q_X2_find_62 t 0 (nI n) K post m (nI n) (nI i) (nI q) S1 := by
  refine loop_0 (fun m j S2 => q_X2_find_62 t 0 (nI n) K post m (nI n) (nI i) (nI (q + j)) S2) (fun j S2 => PC S S2 ∧ (∀ y, y ≤ q + j → S2.1 20 y = nI (tot d c y)) ∧ (∀ c i, c ≠ 20 → S2.1 c i = S1.1 c i) ∧ S2.2 = S1.2) (n - q) S1 ⟨hP, gp, fun _ _ _ => rfl, rfl⟩ (fun m S2 hI => ?_) (fun m j S2 hj hI ih => ?_)
  · obtain ⟨i1, i2, i3, i4⟩ := hI
    rw [q_X2_find_62]
    rw [show q + (n - q) = n by omega] at i2 ⊢
    exact br_t (nI_le (Nat.le_refl _) (by omega)) (h S2 i1 i2 i3 i4)
  · obtain ⟨i1, i2, i3, i4⟩ := hI
    rw [q_X2_find_62, nI_1 (q + j), nI_clamp (n := q + j) (by omega), nI_clamp (n := q + j + 1) (by omega)]
    refine br_f (nI_ge (by omega) (by omega)) ⟨vp_in_nI (by omega) (by decide), got_y hW hD hN ht1 i1 (fun y hy => by rw [i3 18 y (by decide)]; exact hR y hy) (by omega) hc ?_⟩
    intro u eu
    refine ⟨vp_in_nI (by omega) (by decide), ?_⟩
    intro S3 e3 x ex
    rw [i2 (q + j) (Nat.le_refl _), nI_add] at eu
    rw [ex]
    refine ih S3 ⟨⟨fun c' i' a1 a2 a3 a4 => by rw [e3, sti_ne (fun z => a4 z.1)]; exact i1.1 c' i' a1 a2 a3 a4, by rw [e3, sti_ne (by omega)]; exact i1.2.1, by rw [e3, sti_22]; exact i1.2.2⟩, fun y hy => ?_, fun c' i' a1 => by rw [e3, sti_ne (fun z => a1 z.1)]; exact i3 c' i' a1, by rw [e3, sti_22]; exact i4⟩
    rw [e3, sti_1]
    by_cases hy2 : y = q + j + 1
    · rw [if_pos ⟨rfl, hy2⟩, eu, hy2, tot_s]
    · rw [if_neg (fun z => hy2 z.2)]
      exact i2 y (by omega)
theorem find_y {S : CS} {k t n N : Nat} {d : Dat} {post : CS → Prop} (hW : WF k d) (hD : CD d t S.1) (hN : CN d S.1) (ht1 : t < 2) (h20 : S.1 20 0 = 0) (hn : n ≤ 4) (hNN : N + 1 = (d 2 0 + 1) ^ n) (h : ∀ S2 : CS, PC S S2 → S2.1 17 0 = nI (tc d n (am (tc d n) N)) → (∀ y, y < 4 → S2.1 19 y = nI (dg (d 2 0 + 1) n (am (tc d n) N) y) - 1) → post S2) : p_X2_find S t 0 (nI n) post := by
  have hP6 := hW.2.1.1
  have hB : 0 < d 2 0 + 1 := by omega
  have hpw := (pw_dec (d 2 0) (by omega) n (by omega)).2
  unfold p_X2_find
  intro x4 ex4 S2 e2
  rw [yr_dec n (by omega)] at ex4
  subst ex4
  refine loop_0 (fun m j S3 => q_X2_find_19 t 0 (nI n) post m (nI n) (nI j) S3) (fun j S3 => (∀ y, y < j → S3.1 18 y = -1) ∧ (∀ c i, c ≠ 18 → S3.1 c i = S2.1 c i) ∧ S3.2 = S2.2) 4 S2 ⟨fun y hy => absurd hy (Nat.not_lt_zero y), fun _ _ _ => rfl, rfl⟩ (fun m S3 hI => ?_) (fun m j S3 hj hI ih => ?_)
  · rw [q_X2_find_19]
    refine br_t (show (4 : Int32) ≤ nI 4 by decide) ?_
    obtain ⟨i1, i2, i3⟩ := hI
    have hPC : PC S S3 := ⟨fun c i a b _ _ => by rw [i2 c i b, e2, sti_ne (fun q => a q.1)], by rw [i2 20 0 (by decide), e2, sti_ne (by omega)]; exact h20, by rw [i3, e2, sti_22]⟩
    refine loop_0 (σ := Int32 × CS) (fun m i s => q_X2_find_45 t 0 (nI n) post m (nI n) s.1 (nI i) s.2) (fun i s => PC S s.2 ∧ BC d n i s.2 ∧ ((i < N + 1 ∧ Row s.2 (dg (d 2 0 + 1) n i) ∧ ∃ q, q ≤ n ∧ s.1 = nI q ∧ ∀ y, y ≤ q → s.2.1 20 y = nI (tot d (dg (d 2 0 + 1) n i) y)) ∨ (i = N + 1 ∧ s.1 = -1))) (N + 1) (0, S3) ⟨hPC, Or.inl ⟨rfl, ?_⟩, Or.inl ⟨by omega, fun y hy => ?_, 0, Nat.zero_le n, rfl, fun y hy => ?_⟩⟩ (fun m s hI => ?_) (fun m i s hi hI ih => ?_)
    · rw [i2 17 0 (by decide), e2, sti_eq]
    · rw [i1 y hy, dg_0]; rfl
    · rw [show y = 0 by omega]; exact hPC.2.1
    · obtain ⟨g1, g2, g3⟩ := hI
      rw [q_X2_find_45]
      have fin : post s.2 := by
        rcases g2 with ⟨q, -⟩ | ⟨j, q, a, b⟩
        · exact absurd q (by omega)
        · have hj : j = N := by omega
          rw [hj] at a b
          exact h s.2 g1 a b
      rcases g3 with ⟨q, -⟩ | ⟨-, q⟩
      · exact absurd q (by omega)
      · exact ⟨fun _ => fin, fun _ => br_t (by rw [q]; decide) fin⟩
    · obtain ⟨g1, g2, g3⟩ := hI
      rcases g3 with ⟨-, gR, q, hq, eq, gp⟩ | ⟨q, -⟩
      · rw [q_X2_find_45, eq]
        refine br_f (nI_ge (b := 2401) (by omega) (by decide)) (br_f (nI_pos (by omega)) ?_)
        refine fill_y hW hD hN ht1 hn hq gp g1 gR (fun z => by have := dg_lt (B := d 2 0 + 1) (n := n) (i := i) (y := z) hB; omega) (fun S4 a1 a2 a3 a4 => ⟨vp_in_nI (by omega) (by decide), ?_⟩)
        rw [nI_clamp (by omega), a2 n (Nat.le_refl n)]
        refine cmp_y (i := i) hW hn (g2.cg (a3 17 0 (by decide)) (fun y => a3 19 y (by decide))) (fun y hy => by rw [a3 18 y (by decide)]; exact gR y hy) (fun S5 b1 b2 b3 => ?_)
        unfold p_X5_parts
        have hS5 : S5.1 (tm t) 0 = nI (d 2 0) := by rw [b2 _ _ (by unfold tm; omega) (by unfold tm; omega), a1.1 _ _ (by unfold tm; omega) (by unfold tm; omega) (by unfold tm; omega) (by unfold tm; omega)]; exact hD.1
        rw [hS5]
        have hPC5 : PC S S5 := ⟨fun c' i' z1 z2 z3 z4 => by rw [b2 c' i' z1 z3]; exact a1.1 c' i' z1 z2 z3 z4, by rw [b2 20 0 (by decide) (by decide)]; exact a1.2.1, by rw [b3]; exact a1.2.2⟩
        refine nextRow_y (i := i) hn hP6 (by omega) (fun y hy => by rw [b2 18 y (by decide) (by decide), a3 18 y (by decide)]; exact gR y hy) (fun q' S6 c1 c2 c3 c4 c5 c6 x ex => ?_) (fun S6 c1 c2 c3 x ex => ?_)
        · rw [ex, nI_1]
          refine ih (nI q', S6) ⟨⟨fun c' i' z1 z2 z3 z4 => by show S6.1 c' i' = _; rw [c5 c' i' z2]; exact hPC5.1 c' i' z1 z2 z3 z4, by show S6.1 20 0 = _; rw [c5 20 0 (by decide)]; exact hPC5.2.1, by show S6.2 = _; rw [c6]; exact hPC5.2.2⟩, b1.cg (c5 17 0 (by decide)) (fun y => c5 19 y (by decide)), Or.inl ⟨by omega, c3, q', by omega, rfl, fun y hy => ?_⟩⟩
          show S6.1 20 y = _
          rw [c5 20 y (by decide), b2 20 y (by decide) (by decide), a2 y (by omega), tot_cg y (fun z hz => c4 z (by omega))]
        · rw [ex, nI_1]
          exact ih (-1, S6) ⟨⟨fun c' i' z1 z2 z3 z4 => by show S6.1 c' i' = _; rw [c2 c' i' z2]; exact hPC5.1 c' i' z1 z2 z3 z4, by show S6.1 20 0 = _; rw [c2 20 0 (by decide)]; exact hPC5.2.1, by show S6.2 = _; rw [c3]; exact hPC5.2.2⟩, b1.cg (c2 17 0 (by decide)) (fun y => c2 19 y (by decide)), Or.inr ⟨by omega, rfl⟩⟩
      · exact absurd q (by omega)
  · rw [q_X2_find_19, nI_clamp (by omega)]
    refine br_f (nI_ge (b := 4) hj (by decide)) ⟨vp_in_nI hj (by decide), ?_⟩
    intro S4 e4 x ex
    rw [ex, nI_1]
    refine ih S4 ⟨fun y hy => ?_, fun c i hc => by rw [e4, sti_ne (fun z => hc z.1)]; exact hI.2.1 c i hc, by rw [e4, sti_22]; exact hI.2.2⟩
    rw [e4, sti_1]
    by_cases hy2 : y = j
    · rw [if_pos ⟨rfl, hy2⟩]
    · rw [if_neg (fun z => hy2 z.2)]
      exact hI.1 y (by omega)
