def lc (m j : Nat) : Nat × Nat :=
  if j = 0 then (mo m, 4) else if j = 1 then (mo m, 7) else if j = 2 then (mo m, 2) else if j = 3 then (mo m, 3) else if j = 4 then (mo m, 5) else if j = 5 then (mo m, 6) else if j = 6 then (bo (m + 1), 1) else if j < 15 then (bl (m + 1), j - 7) else (mg m, j - 15)
theorem mv_lc (v : Mem) (m j : Nat) : mv v m j = v (lc m j).1 (lc m j).2 := by
  unfold mv lc
  by_cases h0 : j = 0
  · simp only [h0, if_true]
  by_cases h1 : j = 1
  · simp only [h1, if_true]; rfl
  by_cases h2 : j = 2
  · simp only [h2, if_true]; rfl
  by_cases h3 : j = 3
  · simp only [h3, if_true]; rfl
  by_cases h4 : j = 4
  · simp only [h4, if_true]; rfl
  by_cases h5 : j = 5
  · simp only [h5, if_true]; rfl
  by_cases h6 : j = 6
  · simp only [h6, if_true]; rfl
  by_cases h7 : j < 15
  · simp only [h0, h1, h2, h3, h4, h5, h6, h7, if_true, if_false]
  · simp only [h0, h1, h2, h3, h4, h5, h6, h7, if_false]
theorem mv_sti (S : CS) (K c : Nat) (x : Int32) (m j : Nat) : mv (sti S K c x).1 m j = if (lc m j).1 = K ∧ (lc m j).2 = c then x else mv S.1 m j := by
  rw [mv_lc, sti_1, mv_lc]
theorem lc_2 : ∀ j, j < 21 → (((lc 0 j).1 = mo 0 ∧ (lc 0 j).2 = 2) ↔ j = 2) := by decide
theorem lc_3 : ∀ j, j < 21 → (((lc 0 j).1 = mo 0 ∧ (lc 0 j).2 = 3) ↔ j = 3) := by decide
theorem lc_4 : ∀ j, j < 21 → (((lc 0 j).1 = mo 0 ∧ (lc 0 j).2 = 4) ↔ j = 0) := by decide
theorem lc_5 : ∀ j, j < 21 → (((lc 0 j).1 = mo 0 ∧ (lc 0 j).2 = 5) ↔ j = 4) := by decide
theorem lc_6 : ∀ j, j < 21 → (((lc 0 j).1 = mo 0 ∧ (lc 0 j).2 = 6) ↔ j = 5) := by decide
theorem lc_7 : ∀ j, j < 21 → (((lc 0 j).1 = mo 0 ∧ (lc 0 j).2 = 7) ↔ j = 1) := by decide
theorem lc_f : ∀ j, j < 21 → (((lc 0 j).1 = bo 1 ∧ (lc 0 j).2 = 1) ↔ j = 6) := by decide
theorem lc_l : ∀ j, j < 21 → ∀ p, p < 8 → (((lc 0 j).1 = bl 1 ∧ (lc 0 j).2 = p) ↔ j = 7 + p) := by decide
theorem lc_g : ∀ j, j < 21 → ∀ p, p < 6 → (((lc 0 j).1 = mg 0 ∧ (lc 0 j).2 = p) ↔ j = 15 + p) := by decide
theorem if_iff {α : Type} {c d : Prop} [Decidable c] [Decidable d] (h : c ↔ d) (a b : α) : (if c then a else b) = if d then a else b := by
  by_cases hd : d
  · rw [if_pos hd, if_pos (h.mpr hd)]
  · rw [if_neg hd, if_neg (fun q => hd (h.mp q))]
-- behind remember() the told and the moment now are as before
theorem Rem.m0 {S S0 : CS} {pn u : Nat} (h : Rem S S0 pn u) {c : Nat} (i : Nat) (hc : c = mo 0 ∨ c = mg 0 ∨ c = bo 1 ∨ c = bl 1) (hpn : pn < 10) : S0.1 c i = S.1 c i := by
  refine h.2.1 c i ?_ ?_ ?_ ?_ ?_ <;> (unfold mo mg bo bl at *; omega)
theorem Rem.sm {S S0 : CS} {pn u : Nat} (h : Rem S S0 pn u) {c : Nat} (i : Nat) (h0 : c ≠ 0) (hc : c < 23) : S0.1 c i = S.1 c i := by
  exact h.2.1 c i h0 (by unfold mo; omega) (by unfold mg; omega) (by unfold bo; omega) (by unfold bl; omega)
theorem Rem.D {S S0 : CS} {pn u t : Nat} {d : Dat} (h : Rem S S0 pn u) (ht : t < 2) (hD : CD d t S.1) : CD d t S0.1 := hD.keep (fun _ => rfl) (fun _ => rfl) (fun _ => rfl) (fun _ => rfl) (fun _ => rfl) (fun _ => h.sm _ (by unfold tm; omega) (by unfold tm; omega)) (fun _ => h.sm _ (by unfold tv; omega) (by unfold tv; omega))
theorem Rem.N {S S0 : CS} {pn u : Nat} {d : Dat} (h : Rem S S0 pn u) (hpn : pn < 10) (hN : CN d S.1) : CN d S0.1 := hN.keep rfl (fun _ => rfl) (fun _ => mv_congr (fun i => h.m0 i (Or.inl rfl) hpn) (fun i => h.m0 i (Or.inr (Or.inr (Or.inl rfl))) hpn) (fun i => h.m0 i (Or.inr (Or.inr (Or.inr rfl))) hpn) (fun i => h.m0 i (Or.inr (Or.inl rfl)) hpn))
theorem Not.o {R R0 : CS} {u : Nat} (h : Not (sti R 0 0 0) R0 u) {c : Nat} (i : Nat) (h0 : c ≠ 0) (h12 : c ≠ 12) : R0.1 c i = R.1 c i := by rw [h.2.1 c i h0 h12, sti_ne (fun q => h0 q.1)]
theorem sim_cuts (k : Nat) (S R : CS) (x1 : Int32) (hk : k < 64) (h : Rel k S R) : p_X6_cuts S x1 (fun r S1 => p_X7_cuts R x1 (fun r2 R1 => r = r2 ∧ Rel (k + 1) S1 R1)) := by
  obtain ⟨d, t, pn, hW, ⟨ht1, ht2, ht3⟩, hC, hR, htr⟩ := h
  have hsm := Rel.sm hW ⟨ht1, ht2, ht3⟩ hC hR htr (CSm.rf S) (RSm.thr R 0)
  have hP6 := hW.2.1.1
  have hr2 : (sti R 0 0 0).1 2 0 = nI (d 2 0) := by rw [sti_ne (by omega)]; exact hR.2.1.1 0 (by decide)
  have hu := hW.2.2.2.1.1
  obtain ⟨hpn, h5, h6, -⟩ := hC.2.2.2.1
  have h21 : (sti R 0 0 0).1 0 21 = nI (d 0 21) := by rw [sti_ne (by omega)]; exact hR.2.2.2.1.1
  unfold p_X6_cuts
  rcases ix3 x1 (n := d 2 0) (by omega) with hx | ⟨j, hj, rfl⟩
  · refine isPart_n ht2 ht1 hC.2.1.1 hx (c00 ?_)
    unfold p_X7_cuts
    intro R1 e1
    subst e1
    exact r_isPart_n hr2 hP6 hx (c00 ⟨rfl, hsm⟩)
  · refine isPart_y ht2 ht1 hC.2.1.1 hP6 hj (c01 (rem_y hpn hu h6 h5 (fun S0 hr => ?_)))
    have hN0 := hr.N hpn hC.2.2.1
    refine giftOf_y ht1 (by rw [hr.2.2.2.2.2]; exact ht2) (hr.D ht1 hC.2.1) hN0 hP6 hj ?_
    obtain ⟨g, hg⟩ : ∃ g, g = gN (d 3 j) (d 8 (15 + j)) (d 2 2) := ⟨_, rfl⟩
    have hb := hW.2.2.1
    have ha := hb.2.2.2.2.2.2.2.2 j hj
    have hrp := hW.2.1.2.2.1.2
    have hsz := (hW.2.1.2.2.2.2.2.2.1 j hj).2
    have eg : gfN d j = nI g := by rw [hg]; exact gfI_nI _ (by omega) (by omega)
    have hg117 : g ≤ 117 := by rw [hg]; exact gN_le hsz (by omega) (by omega)
    rw [eg]
    intro u eu S1 e1
    have f2 : S0.1 (mo 0) 2 = nI (d 8 2) := by rw [← hN0 2 (by omega), mv_2]
    rw [f2, nI_add] at eu
    unfold p_X1_beCut
    refine br_f (nI_pos (by omega)) (br_f (nI_ge (b := 6) (by omega) (by decide)) ⟨vp_in_nI (by omega) (by decide), ?_⟩)
    rw [nI_clamp (by omega)]
    intro S2 e2
    unfold p_X7_cuts
    intro R1 e3
    subst e3
    refine r_isPart_y hr2 hP6 hj (c01 (not_y hu h21 (fun R0 hn => ?_)))
    unfold p_X7_fells
    refine r_gives_y (d := d) (a := nI (d 8 (15 + j))) (by rw [hn.o _ (by decide) (by decide)]; exact hR.2.1.1 2 (by decide)) (by rw [hn.o _ (by decide) (by decide)]; exact hR.2.1.2.1 j hj) (by rw [hn.o _ (by decide) (by decide)]; exact hR.2.2.1 (15 + j) (by omega)) (by omega) ?_
    rw [show gfI (nI (d 3 j)) (nI (d 8 (15 + j))) (nI (d 2 2)) = nI g from eg]
    intro w ew R2 e4
    rw [show R0.1 8 2 = nI (d 8 2) by rw [hn.o _ (by decide) (by decide)]; exact hR.2.2.1 2 (by omega), nI_add] at ew
    have e15 : (15 : Int32) + nI j = nI (15 + j) := by rw [show (15 : Int32) = nI 15 from rfl, nI_add]
    rw [e15, nI_clamp (by omega)]
    refine ⟨vp_in_nI (by omega) (by decide), ?_⟩
    intro R3 e5
    obtain ⟨f, f2', fj, fo⟩ : ∃ f : Nat → Nat, f 2 = d 8 2 + g ∧ f (15 + j) = 0 ∧ ∀ i, i ≠ 2 → i ≠ 15 + j → f i = d 8 i := ⟨fun i => if i = 2 then d 8 2 + g else if i = 15 + j then 0 else d 8 i, by simp, by show (if 15 + j = 2 then d 8 2 + g else if 15 + j = 15 + j then 0 else d 8 (15 + j)) = 0; rw [if_neg (by omega), if_pos rfl], fun i a b => by simp [a, b]⟩
    refine ⟨rfl, Rel.act hW ⟨ht1, ht2, ht3⟩ hC hR htr f ?_ hr (fun c i a1 a2 a3 a4 => ?_) (by rw [e2, sti_22, e1, sti_22]) (fun i hi => ?_) hn (fun c i a1 => ?_) (by rw [e5, sti_22, e4, sti_22]) (fun i hi => ?_)⟩
    · obtain ⟨b0, b1, b2, b3, b4, b5, b6, b7, b8⟩ := hb
      refine ⟨by rw [fo 0 (by omega) (by omega)]; exact b0, by rw [fo 1 (by omega) (by omega)]; exact b1, by rw [f2']; omega, by rw [fo 3 (by omega) (by omega)]; omega, by rw [fo 4 (by omega) (by omega)]; omega, by rw [fo 5 (by omega) (by omega)]; exact b5, by rw [fo 6 (by omega) (by omega)]; exact b6, fun i hi => by rw [fo (7 + i) (by omega) (by omega)]; exact b7 i hi, fun i hi => ?_⟩
      by_cases hij : i = j
      · rw [hij, fj]; omega
      · rw [fo (15 + i) (by omega) (by omega)]
        exact b8 i hi
    · rw [e2, sti_ne (fun q => a2 q.1), e1, sti_ne (fun q => a1 q.1)]
    · rw [e2, mv_sti, if_iff (lc_g i (by omega) j (by omega)), e1, mv_sti, if_iff (lc_2 i (by omega)), hN0 i hi, eu]
      by_cases i15 : i = 15 + j
      · rw [if_pos i15, i15, fj]; rfl
      · rw [if_neg i15]
        by_cases i2 : i = 2
        · rw [if_pos i2, i2, f2']
        · rw [if_neg i2, fo i i2 i15]
    · rw [e5, sti_ne (fun q => a1 q.1), e4, sti_ne (fun q => a1 q.1)]
    · rw [e5, sti_1, e4, sti_1, hn.o i (by decide) (by decide), hR.2.2.1 i hi, ew]
      simp only [true_and]
      by_cases i15 : i = 15 + j
      · rw [if_pos i15, i15, fj]; rfl
      · rw [if_neg i15]
        by_cases i2 : i = 2
        · rw [if_pos i2, i2, f2']
        · rw [if_neg i2, fo i i2 i15]
