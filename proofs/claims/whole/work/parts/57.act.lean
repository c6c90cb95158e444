/-- the numbers behind an action: the elder moment is noted, the new one is f -/
def dAct (d : Dat) (f : Nat → Nat) : Dat := fun a b => if a = 8 then f b else if a = 0 ∧ b = 21 then min 10 (d 0 21 + 1) else if a = 12 then (if d 0 21 < 10 then (if 21 * d 0 21 ≤ b ∧ b < 21 * d 0 21 + 21 then d 8 (b - 21 * d 0 21) else d 12 b) else (if b < 189 then d 12 (b + 21) else d 8 (b - 189))) else d a b
theorem dAct_8 (d : Dat) (f : Nat → Nat) (b : Nat) : dAct d f 8 b = f b := rfl
theorem dAct_21 (d : Dat) (f : Nat → Nat) : dAct d f 0 21 = min 10 (d 0 21 + 1) := rfl
theorem dAct_12 (d : Dat) (f : Nat → Nat) (b : Nat) : dAct d f 12 b = (if d 0 21 < 10 then (if 21 * d 0 21 ≤ b ∧ b < 21 * d 0 21 + 21 then d 8 (b - 21 * d 0 21) else d 12 b) else (if b < 189 then d 12 (b + 21) else d 8 (b - 189))) := rfl
/-- where the j-th noted moment comes from -/
theorem dAct_at {d : Dat} {f : Nat → Nat} (hu : d 0 21 ≤ 10) {j : Nat} (hj : j < min 10 (d 0 21 + 1)) {i : Nat} (hi : i < 21) : (d 0 21 < 10 ∧ j < d 0 21 ∧ dAct d f 12 (21 * j + i) = d 12 (21 * j + i)) ∨ (d 0 21 = 10 ∧ j < 9 ∧ dAct d f 12 (21 * j + i) = d 12 (21 * (j + 1) + i)) ∨ (j = min 10 (d 0 21 + 1) - 1 ∧ dAct d f 12 (21 * j + i) = d 8 i) := by
  rw [dAct_12]
  by_cases h10 : d 0 21 < 10
  · rw [if_pos h10]
    by_cases hju : j < d 0 21
    · left
      refine ⟨h10, hju, ?_⟩
      rw [if_neg (by omega)]
    · right; right
      have hj2 : j = d 0 21 := by omega
      refine ⟨by omega, ?_⟩
      rw [if_pos (by omega), show 21 * j + i - 21 * d 0 21 = i by omega]
  · rw [if_neg h10]
    by_cases hj9 : j < 9
    · right; left
      refine ⟨by omega, hj9, ?_⟩
      rw [if_pos (by omega), show 21 * j + i + 21 = 21 * (j + 1) + i by omega]
    · right; right
      refine ⟨by omega, ?_⟩
      rw [if_neg (by omega), show 21 * j + i - 189 = i by omega]
theorem Rel.act {k : Nat} {d : Dat} {t pn : Nat} {S R S0 S1 R0 R1 : CS} (h1 : WF k d) (h2 : t < 2 ∧ S.2.1 = t ∧ S.2.2.1 = 1 - t ∧ S.1 20 0 = 0) (h3 : CC d t pn S.1) (h4 : RR d R.1) (h5 : S.2.2.2 = R.2.2.2) (f : Nat → Nat) (hf : VB (k + 1) (d 2 0) f)
    (hr : Rem S S0 pn (d 0 21)) (e1 : ∀ c i, c ≠ mo 0 → c ≠ mg 0 → c ≠ bo 1 → c ≠ bl 1 → S1.1 c i = S0.1 c i) (e2 : S1.2 = S0.2) (e3 : ∀ j, j < 15 + d 2 0 → mv S1.1 0 j = nI (f j))
    (hn : Not (sti R 0 0 0) R0 (d 0 21)) (g1 : ∀ c i, c ≠ 8 → R1.1 c i = R0.1 c i) (g2 : R1.2 = R0.2) (g3 : ∀ j, j < 15 + d 2 0 → R1.1 8 j = nI (f j)) : Rel (k + 1) S1 R1 := by
  obtain ⟨w1, w2, w3, w4, w5, w6⟩ := h1.up (Nat.le_succ k)
  obtain ⟨c1, c2, c3, ⟨cu1, cu2, cu3, cu4⟩, c5, c6⟩ := h3
  obtain ⟨r1, r2, r3, ⟨ru1, ru2⟩, r5, r6⟩ := h4
  obtain ⟨m1, m2, m3, m4, m5, m6⟩ := hr
  obtain ⟨n1, n2, n3, n4, n5⟩ := hn
  have hP := w2.1
  have hu := w4.1
  -- the class's cells that stay
  have q : ∀ c i, c ≠ 0 → c ≠ mo 0 → c ≠ mg 0 → c ≠ bo 1 → c ≠ bl 1 → c ≠ mo (1 + pn) → c ≠ mg (1 + pn) → c ≠ bo (2 + pn) → c ≠ bl (2 + pn) → S1.1 c i = S.1 c i := fun c i a0 a1 a2 a3 a4 a5 a6 a7 a8 => by rw [e1 c i a1 a2 a3 a4, m2 c i a0 a5 a6 a7 a8]
  have q0 : ∀ j, j ≠ 5 → j ≠ 6 → S1.1 0 j = S.1 0 j := fun j a b => by rw [e1 0 j (by unfold mo; omega) (by unfold mg; omega) (by decide) (by decide), m3 j a b]
  have small : ∀ c i, c ≠ 0 → c < 23 → S1.1 c i = S.1 c i := fun c i a b => q c i a (by unfold mo; omega) (by unfold mg; omega) (by unfold bo; omega) (by unfold bl; omega) (by unfold mo; omega) (by unfold mg; omega) (by unfold bo; omega) (by unfold bl; omega)
  have hm : ∀ m j, m < 13 → m ≠ 0 → m ≠ 1 + pn → mv S1.1 m j = mv S.1 m j := fun m j h13 a b => mv_congr (fun i => q _ i (by unfold mo; omega) (by unfold mo; omega) (by unfold mo mg; omega) (by unfold mo bo; omega) (by unfold mo bl; omega) (by unfold mo; omega) (by unfold mo mg; omega) (by unfold mo bo; omega) (by unfold mo bl; omega)) (fun i => q _ i (by unfold bo; omega) (by unfold bo mo; omega) (by unfold bo mg; omega) (by unfold bo; omega) (by unfold bo bl; omega) (by unfold bo mo; omega) (by unfold bo mg; omega) (by unfold bo; omega) (by unfold bo bl; omega)) (fun i => q _ i (by unfold bl; omega) (by unfold bl mo; omega) (by unfold bl mg; omega) (by unfold bl bo; omega) (by unfold bl; omega) (by unfold bl mo; omega) (by unfold bl mg; omega) (by unfold bl bo; omega) (by unfold bl; omega)) (fun i => q _ i (by unfold mg; omega) (by unfold mg mo; omega) (by unfold mg; omega) (by unfold mg bo; omega) (by unfold mg bl; omega) (by unfold mg mo; omega) (by unfold mg; omega) (by unfold mg bo; omega) (by unfold mg bl; omega))
  have hmp : ∀ j, j < 15 + d 2 0 → mv S1.1 (1 + pn) j = nI (d 8 j) := fun j hj => by
    rw [← c3 j hj, ← m1 j (by omega)]
    exact mv_congr (fun i => e1 _ i (by unfold mo; omega) (by unfold mo mg; omega) (by unfold mo bo; omega) (by unfold mo bl; omega)) (fun i => e1 _ i (by unfold bo mo; omega) (by unfold bo mg; omega) (by unfold bo; omega) (by unfold bo bl; omega)) (fun i => e1 _ i (by unfold bl mo; omega) (by unfold bl mg; omega) (by unfold bl bo; omega) (by unfold bl; omega)) (fun i => e1 _ i (by unfold mg mo; omega) (by unfold mg; omega) (by unfold mg bo; omega) (by unfold mg bl; omega))
  -- the reference's
  have z : ∀ c i, c ≠ 0 → c ≠ 8 → c ≠ 12 → R1.1 c i = R.1 c i := fun c i a b e => by rw [g1 c i b, n2 c i a e, sti_ne (fun q => a q.1)]
  have z0 : ∀ j, j ≠ 0 → j ≠ 21 → R1.1 0 j = R.1 0 j := fun j a b => by rw [g1 0 j (by decide), n3 j b, sti_ne (fun q => a q.2)]
  have z12 : ∀ i, i < 210 → R1.1 12 i = if d 0 21 < 10 then (if 21 * d 0 21 ≤ i ∧ i < 21 * d 0 21 + 21 then R.1 8 (i - 21 * d 0 21) else R.1 12 i) else (if i < 189 then R.1 12 (i + 21) else R.1 8 (i - 189)) := fun i hi => by
    rw [g1 12 i (by decide), n1 i hi, sti_ne (by omega), sti_ne (by omega), sti_ne (by omega), sti_ne (by omega)]
  have ht := h2.1
  refine ⟨dAct d f, t, (pn + 1) % 10, ⟨w1, w2, hf, ⟨by rw [dAct_21]; omega, fun j hj => ?_⟩, w5, w6⟩, by rw [e2, m6, small 20 0 (by decide) (by decide)]; exact h2, ⟨c1.keep rfl (fun _ => rfl) (small _ _ (by decide) (by decide)) (fun _ => small _ _ (by decide) (by decide)), c2.keep (fun _ => rfl) (fun _ => rfl) (fun _ => rfl) (fun _ => rfl) (fun _ => rfl) (fun _ => small _ _ (by unfold tm; omega) (by unfold tm; omega)) (fun _ => small _ _ (by unfold tv; omega) (by unfold tv; omega)), e3, ⟨by omega, ?_, ?_, fun j hj i hi => ?_⟩, c5.keep rfl (fun _ => rfl) (fun _ => rfl) (fun _ => small _ _ (by decide) (by decide)) (fun m j a b => hm m j b (by omega) (by omega)), c6.keep rfl (fun _ => rfl) (fun _ => rfl) (fun _ => rfl) (q0 _ (by decide) (by decide)) (fun _ => small _ _ (by decide) (by decide)) (fun _ => small _ _ (by decide) (by decide)) (fun _ => small _ _ (by decide) (by decide))⟩, ⟨r1.keep rfl (fun _ => rfl) (z0 _ (by decide) (by decide)) (fun _ => z _ _ (by decide) (by decide) (by decide)), r2.keep (fun _ => rfl) (fun _ => rfl) (fun _ => rfl) (fun _ => rfl) (fun _ => rfl) (fun _ _ => z _ _ (by decide) (by decide) (by decide)) (fun _ _ => z _ _ (by decide) (by decide) (by decide)) (fun _ _ => z _ _ (by decide) (by decide) (by decide)) (fun _ _ => z _ _ (by decide) (by decide) (by decide)) (fun _ _ => z _ _ (by decide) (by decide) (by decide)) w2.1 w2.2.1, g3, ⟨?_, fun j hj i hi => ?_⟩, r5.keep rfl (fun _ => rfl) (fun _ => rfl) (fun _ => z _ _ (by decide) (by decide) (by decide)) (fun _ => z _ _ (by decide) (by decide) (by decide)), r6.keep rfl (fun _ => rfl) (fun _ => rfl) (fun _ => rfl) (z0 _ (by decide) (by decide)) (fun _ => z _ _ (by decide) (by decide) (by decide)) (fun _ => z _ _ (by decide) (by decide) (by decide)) (fun _ => z _ _ (by decide) (by decide) (by decide))⟩, by rw [e2, m6, g2, n5]; exact h5⟩
  · rw [dAct_21] at hj
    show VB (k + 1) (d 2 0) (fun i => dAct d f 12 (21 * j + i))
    by_cases hlast : j = min 10 (d 0 21 + 1) - 1
    · refine w3.cg (fun i hi => ?_)
      rcases dAct_at (f := f) hu hj (show i < 21 by omega) with ⟨a, b, e⟩ | ⟨a, b, e⟩ | ⟨a, e⟩
      · omega
      · omega
      · exact e
    · by_cases h10 : d 0 21 < 10
      · refine (w4.2 j (by omega)).cg (fun i hi => ?_)
        rcases dAct_at (f := f) hu hj (show i < 21 by omega) with ⟨a, b, e⟩ | ⟨a, b, e⟩ | ⟨a, e⟩
        · exact e
        · omega
        · omega
      · refine (w4.2 (j + 1) (by omega)).cg (fun i hi => ?_)
        rcases dAct_at (f := f) hu hj (show i < 21 by omega) with ⟨a, b, e⟩ | ⟨a, b, e⟩ | ⟨a, e⟩
        · omega
        · exact e
        · omega
  · rw [e1 0 5 (by unfold mo; omega) (by unfold mg; omega) (by decide) (by decide)]
    exact m4
  · rw [e1 0 6 (by unfold mo; omega) (by unfold mg; omega) (by decide) (by decide)]
    exact m5
  · rw [dAct_21] at hj
    have hi2 : i < 15 + d 2 0 := hi
    rw [dAct_21]
    rcases dAct_at (f := f) hu hj (show i < 21 by omega) with ⟨a, b, e⟩ | ⟨a, b, e⟩ | ⟨a, e⟩
    · rw [e, Nat.min_eq_right (by omega), show ((pn + 1) % 10 + 10 - (d 0 21 + 1) + j) % 10 = (pn + 10 - d 0 21 + j) % 10 by omega, hm _ _ (by omega) (by omega) (by omega)]
      exact cu4 j b i hi2
    · rw [e, Nat.min_eq_left (by omega), show ((pn + 1) % 10 + 10 - 10 + j) % 10 = (pn + 10 - d 0 21 + (j + 1)) % 10 by omega, hm _ _ (by omega) (by omega) (by omega)]
      exact cu4 (j + 1) (by omega) i hi2
    · rw [e, show ((pn + 1) % 10 + 10 - min 10 (d 0 21 + 1) + j) % 10 = pn by omega]
      exact hmp i hi2
  · rw [g1 0 21 (by decide)]
    exact n4
  · rw [dAct_21] at hj
    have hi2 : i < 15 + d 2 0 := hi
    have hr8 := r3 i hi2
    rw [z12 _ (by omega), dAct_12]
    by_cases h10 : d 0 21 < 10
    · rw [if_pos h10, if_pos h10]
      by_cases hc : 21 * d 0 21 ≤ 21 * j + i ∧ 21 * j + i < 21 * d 0 21 + 21
      · rw [if_pos hc, if_pos hc, show 21 * j + i - 21 * d 0 21 = i by omega]
        exact hr8
      · rw [if_neg hc, if_neg hc]
        exact ru2 j (by omega) i hi2
    · rw [if_neg h10, if_neg h10]
      by_cases hc : 21 * j + i < 189
      · rw [if_pos hc, if_pos hc, show 21 * j + i + 21 = 21 * (j + 1) + i by omega]
        exact ru2 (j + 1) (by omega) i hi2
      · rw [if_neg hc, if_neg hc, show 21 * j + i - 189 = i by omega]
        exact hr8
/-- what a part gives, as a number -/
def gN (s a r : Nat) : Nat := s * (if r < a then 2 * r - 2 - a else a - 2)
theorem g_dec : ∀ a, a < 71 → ∀ r, r < 16 → let z : Int32 := (if nI r < nI a then (nI r - 2) - (nI a - nI r) else nI a - 2); let n : Nat := (if r < a then 2 * r - 2 - a else a - 2); (z ≤ 0 ∧ n = 0) ∨ (¬ z ≤ 0 ∧ z = nI n ∧ n ≤ 13) := by decide +kernel
theorem gfI_nI (s : Nat) {a r : Nat} (ha : a < 71) (hr : r < 16) : gfI (nI s) (nI a) (nI r) = nI (gN s a r) := by
  have h := g_dec a ha r hr
  unfold gfI gN
  by_cases c : nI r < nI a
  · have c2 : r < a := (nI_ltI (by omega) (by omega)).mp c
    simp only [c, c2, if_true] at h ⊢
    rcases h with ⟨h1, h2⟩ | ⟨h1, h2, h3⟩
    · rw [if_pos h1, h2]; rfl
    · rw [if_neg h1, h2, pk_mul]
  · have c2 : ¬ r < a := fun q => c (nI_lt q (by omega))
    simp only [c, c2, if_false] at h ⊢
    rcases h with ⟨h1, h2⟩ | ⟨h1, h2, h3⟩
    · rw [if_pos h1, h2]; rfl
    · rw [if_neg h1, h2, pk_mul]
theorem gN_le {s a r : Nat} (hs : s ≤ 9) (ha : a < 71) (hr : r < 16) : gN s a r ≤ 117 := by
  have h := g_dec a ha r hr
  unfold gN
  have hn : (if r < a then 2 * r - 2 - a else a - 2) ≤ 13 := by
    rcases h with ⟨-, h2⟩ | ⟨-, -, h3⟩
    · rw [h2]; decide
    · exact h3
  calc s * _ ≤ 9 * 13 := Nat.mul_le_mul hs hn
    _ = 117 := rfl
