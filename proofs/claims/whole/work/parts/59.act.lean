/-! years -/
theorem grow_y {S : CS} {m : Nat} {post : CS → Prop} (h : ∀ S1 : CS, (∀ i, i < 6 → S1.1 (mg m) i = if S.1 (mg m) i + 1 < 40 then S.1 (mg m) i + 1 else 40) → (∀ c i, c ≠ mg m → S1.1 c i = S.1 c i) → S1.2 = S.2 → post S1) : p_X1_growOlder S m post := by
  unfold p_X1_growOlder
  refine loop_0 (fun n i S1 => q_X1_growOlder_2 m post n (nI i) S1) (fun k S1 => (∀ i, i < 6 → S1.1 (mg m) i = if i < k then (if S.1 (mg m) i + 1 < 40 then S.1 (mg m) i + 1 else 40) else S.1 (mg m) i) ∧ (∀ c i, c ≠ mg m → S1.1 c i = S.1 c i) ∧ S1.2 = S.2) 6 S ⟨fun i _ => by rw [if_neg (Nat.not_lt_zero i)], fun _ _ _ => rfl, rfl⟩ (fun n S1 hI => ?_) (fun n k S1 hk hI ih => ?_)
  · rw [q_X1_growOlder_2]
    refine ⟨fun _ => h S1 (fun i hi => by rw [hI.1 i hi, if_pos hi]) hI.2.1 hI.2.2, fun c => absurd (show (6 : Int32) ≤ nI 6 by decide) c⟩
  · rw [q_X1_growOlder_2]
    refine ⟨fun c => absurd ((ni_le (k := 6) (by decide) (by omega)).mp c) (by omega), fun _ => ⟨vp_in_nI hk (by decide), ?_⟩⟩
    rw [nI_clamp (by omega)]
    intro u eu
    refine ⟨vp_in_nI hk (by decide), ?_⟩
    intro S2 e2 x ex
    rw [ex, nI_1]
    refine ih S2 ⟨fun i hi => ?_, fun c i hc => by rw [e2, sti_ne (fun q => hc q.1)]; exact hI.2.1 c i hc, by rw [e2, sti_22]; exact hI.2.2⟩
    rw [e2, sti_1]
    by_cases hik : i = k
    · rw [if_pos ⟨rfl, hik⟩, if_pos (show i < k + 1 by omega), eu, hI.1 k hk, if_neg (show ¬ k < k by omega), hik]
    · rw [if_neg (fun q => hik q.2), hI.1 i hi]
      by_cases hc : i < k
      · rw [if_pos hc, if_pos (show i < k + 1 by omega)]
      · rw [if_neg hc, if_neg (show ¬ i < k + 1 by omega)]
theorem r_grow_y {R : CS} {c P : Nat} {a : Nat → Nat} {post : CS → Prop} (hc : c = 8 ∨ c = 9) (hP : R.1 2 0 = nI P) (hP6 : P ≤ 6) (ha : ∀ i, i < P → R.1 c (15 + i) = nI (a i) ∧ a i ≤ 40) (h : ∀ R1 : CS, (∀ i, i < P → R1.1 c (15 + i) = nI (min 40 (a i + 1))) → R1.1 c 1 = R.1 c 1 + 1 → (∀ i, i ≠ 1 → i < 15 → R1.1 c i = R.1 c i) → (∀ c' i, c' ≠ c → R1.1 c' i = R.1 c' i) → R1.2 = R.2 → post R1) : p_X7_grows R c post := by
  unfold p_X7_grows
  refine loop_0 (fun n i R1 => q_X7_grows_2 c post n (nI i) R1) (fun k R1 => (∀ i, i < P → R1.1 c (15 + i) = if i < k then nI (min 40 (a i + 1)) else nI (a i)) ∧ (∀ i, i < 15 → R1.1 c i = R.1 c i) ∧ (∀ c' i, c' ≠ c → R1.1 c' i = R.1 c' i) ∧ R1.2 = R.2) P R ⟨fun i hi => by rw [if_neg (Nat.not_lt_zero i)]; exact (ha i hi).1, fun _ _ => rfl, fun _ _ _ => rfl, rfl⟩ (fun n R1 hI => ?_) (fun n k R1 hk hI ih => ?_)
  · rw [q_X7_grows_2, hI.2.2.1 2 0 (by omega), hP]
    refine ⟨fun _ => ?_, fun q => absurd (nI_le (Nat.le_refl P) (by omega)) q⟩
    intro u eu R2 e2
    refine h R2 (fun i hi => by rw [e2, sti_ne (by omega), hI.1 i hi, if_pos hi]) (by rw [e2, sti_eq, eu, hI.2.1 1 (by decide)]) (fun i h1 h15 => by rw [e2, sti_ne (fun q => h1 q.2)]; exact hI.2.1 i h15) (fun c' i hc' => by rw [e2, sti_ne (fun q => hc' q.1)]; exact hI.2.2.1 c' i hc') (by rw [e2, sti_22]; exact hI.2.2.2)
  · rw [q_X7_grows_2, hI.2.2.1 2 0 (by omega), hP]
    have e15 : (15 : Int32) + nI k = nI (15 + k) := by rw [show (15 : Int32) = nI 15 from rfl, nI_add]
    have ek : R1.1 c (15 + k) = nI (a k) := by rw [hI.1 k hk, if_neg (by omega)]
    rw [e15, nI_clamp (by omega), ek]
    refine br_f (nI_ge hk (by omega)) ⟨vp_in_nI (by omega) (by decide), vp_in_nI (by omega) (by decide), ?_⟩
    have hak := (ha k hk).2
    have step : ∀ u : Int32, u = nI (min 40 (a k + 1)) → vp_in (nI (15 + k)) 21 ∧ ∀ S_6 : CS, S_6 = sti R1 c (15 + k) u → ∀ x2_7 : Int32, x2_7 = nI k + 1 → q_X7_grows_2 c post n x2_7 S_6 := by
      intro u eu
      refine ⟨vp_in_nI (by omega) (by decide), ?_⟩
      intro R2 e2 x ex
      rw [ex, nI_1]
      refine ih R2 ⟨fun i hi => ?_, fun i hi => by rw [e2, sti_ne (by omega)]; exact hI.2.1 i hi, fun c' i hc' => by rw [e2, sti_ne (fun q => hc' q.1)]; exact hI.2.2.1 c' i hc', by rw [e2, sti_22]; exact hI.2.2.2⟩
      rw [e2, sti_1]
      by_cases hik : i = k
      · rw [if_pos ⟨rfl, by omega⟩, if_pos (by omega), eu, hik]
      · rw [if_neg (by omega), hI.1 i hi]
        by_cases hc2 : i < k
        · rw [if_pos hc2, if_pos (by omega)]
        · rw [if_neg hc2, if_neg (by omega)]
    refine ⟨fun q u eu => step u ?_, fun q u eu => step u ?_⟩
    · have h40 := (ni_le (k := 40) (by decide) (by omega)).mp q
      rw [eu, Int32.add_zero, Nat.min_eq_left (by omega), show a k = 40 by omega]
    · have h40 : a k < 40 := by
        rcases Nat.lt_or_ge (a k) 40 with z | z
        · exact z
        · exact absurd ((ni_le (k := 40) (by decide) (by omega)).mpr z) q
      rw [eu, nI_1, Nat.min_eq_right (by omega)]
theorem sim_year (k : Nat) (S R : CS) (hk : k < 64) (h : Rel k S R) : p_X6_year S (fun r S1 => p_X7_year R (fun r2 R1 => r = r2 ∧ Rel (k + 1) S1 R1)) := by
  obtain ⟨d, t, pn, hW, ⟨ht1, ht2, ht3⟩, hC, hR, htr⟩ := h
  have hsm := Rel.sm hW ⟨ht1, ht2, ht3⟩ hC hR htr (CSm.rf S) (RSm.thr R 0)
  have hP6 := hW.2.1.1
  have hu := hW.2.2.2.1.1
  obtain ⟨hpn, h5, h6, -⟩ := hC.2.2.2.1
  have h21 : (sti R 0 0 0).1 0 21 = nI (d 0 21) := by rw [sti_ne (by omega)]; exact hR.2.2.2.1.1
  have hb := hW.2.2.1
  have hy : S.1 (mo 0) 7 = nI (d 8 1) := by rw [← hC.2.2.1 1 (by omega), mv_1]
  have hy2 : (sti R 0 0 0).1 8 1 = nI (d 8 1) := RN.th hR.2.2.1 (by omega)
  have h999 := hb.2.1
  unfold p_X6_year
  rw [hy]
  refine ⟨fun c => ?_, fun c => ?_⟩
  · have hlt : d 8 1 < 999 := (nI_ltI (b := 999) (by omega) (by decide)).mp c
    refine rem_y hpn hu h6 h5 (fun S0 hr => ?_)
    have hN0 := hr.N hpn hC.2.2.1
    intro u eu S1 e1
    have f1 : S0.1 (mo 0) 7 = nI (d 8 1) := by rw [← hN0 1 (by omega), mv_1]
    rw [f1, nI_1] at eu
    refine grow_y (fun S2 a1 a2 a3 => ?_)
    unfold p_X7_year
    intro R1 e2
    subst e2
    rw [hy2]
    refine br_f (fun q => absurd ((nI_eq (b := 999) (by omega) (by decide)).mp q) (by omega)) (not_y hu h21 (fun R0 hn => r_grow_y (P := d 2 0) (a := fun i => d 8 (15 + i)) (Or.inl rfl) (by rw [hn.o _ (by decide) (by decide)]; exact hR.2.1.1 0 (by decide)) hP6 (fun i hi => ⟨by rw [hn.o _ (by decide) (by decide)]; exact hR.2.2.1 (15 + i) (by omega), hb.2.2.2.2.2.2.2.2 i hi⟩) (fun R2 b1 b2 b3 b4 b5 => ?_)))
    have g1 : R2.1 8 1 = nI (d 8 1 + 1) := by rw [b2, hn.o _ (by decide) (by decide), hR.2.2.1 1 (by omega), nI_1]
    have s1 : S2.1 (mo 0) 7 = nI (d 8 1 + 1) := by rw [a2 _ _ (by unfold mo mg; omega), e1, sti_eq, eu]
    obtain ⟨f, fy, fa, fo⟩ : ∃ f : Nat → Nat, f 1 = d 8 1 + 1 ∧ (∀ i, i < 6 → f (15 + i) = min 40 (d 8 (15 + i) + 1)) ∧ ∀ i, i ≠ 1 → i < 15 → f i = d 8 i := ⟨fun i => if i = 1 then d 8 1 + 1 else if i < 15 then d 8 i else min 40 (d 8 i + 1), by simp, fun i hi => by show (if 15 + i = 1 then d 8 1 + 1 else if 15 + i < 15 then d 8 (15 + i) else min 40 (d 8 (15 + i) + 1)) = _; rw [if_neg (by omega), if_neg (by omega)], fun i a b => by simp [a, b]⟩
    refine ⟨by rw [s1, g1], Rel.act hW ⟨ht1, ht2, ht3⟩ hC hR htr f ?_ hr (fun c i q1 q2 q3 q4 => ?_) (by rw [a3, e1, sti_22]) (fun i hi => ?_) hn (fun c i q1 => b4 c i q1) b5 (fun i hi => ?_)⟩
    · obtain ⟨b0, b1, b2, b3, b4, b5, b6, b7, b8⟩ := hb
      exact ⟨by rw [fo 0 (by omega) (by omega)]; exact b0, by rw [fy]; omega, by rw [fo 2 (by omega) (by omega)]; omega, by rw [fo 3 (by omega) (by omega)]; omega, by rw [fo 4 (by omega) (by omega)]; omega, by rw [fo 5 (by omega) (by omega)]; exact b5, by rw [fo 6 (by omega) (by omega)]; exact b6, fun i hi => by rw [fo (7 + i) (by omega) (by omega)]; exact b7 i hi, fun i hi => by rw [fa i (by omega)]; omega⟩
    · rw [a2 c i q2, e1, sti_ne (fun q => q1 q.1)]
    · by_cases h15 : i < 15
      · have hl : mv S2.1 0 i = mv S1.1 0 i := by
          rw [mv_lc, mv_lc]
          refine a2 _ _ ?_
          have hd : ∀ i, i < 15 → (lc 0 i).1 ≠ mg 0 := by decide
          exact hd i h15
        rw [hl, e1, mv_sti, if_iff (lc_7 i (by omega)), hN0 i hi, eu]
        by_cases i1 : i = 1
        · rw [if_pos i1, i1, fy]
        · rw [if_neg i1, fo i i1 h15]
      · obtain ⟨p, rfl⟩ : ∃ p, i = 15 + p := ⟨i - 15, by omega⟩
        have hp : S1.1 (mg 0) p = nI (d 8 (15 + p)) := by rw [e1, sti_ne (by unfold mg mo; omega), ← hN0 (15 + p) hi, mv_a]
        rw [mv_a, a1 p (by omega), hp, nI_1, fa p (by omega)]
        have hle := hb.2.2.2.2.2.2.2.2 p (by omega)
        by_cases h40 : d 8 (15 + p) + 1 < 40
        · rw [if_pos (show nI (d 8 (15 + p) + 1) < 40 from nI_lt (b := 40) h40 (by decide)), Nat.min_eq_right (by omega)]
        · rw [if_neg (show ¬ nI (d 8 (15 + p) + 1) < 40 from nI_nlt (a := d 8 (15 + p) + 1) (b := 40) (by omega) (by omega)), Nat.min_eq_left (by omega)]
          rfl
    · by_cases h15 : i < 15
      · by_cases i1 : i = 1
        · rw [i1, g1, fy]
        · rw [b3 i i1 h15, hn.o _ (by decide) (by decide), hR.2.2.1 i hi, fo i i1 h15]
      · obtain ⟨p, rfl⟩ : ∃ p, i = 15 + p := ⟨i - 15, by omega⟩
        rw [b1 p (by omega), fa p (by omega)]
  · have he : d 8 1 = 999 := by
      rcases Nat.lt_or_ge (d 8 1) 999 with z | z
      · exact absurd (nI_lt (b := 999) z (by decide)) c
      · omega
    unfold p_X7_year
    intro R1 e2
    subst e2
    exact br_t (by rw [hy2, he]; rfl) ⟨rfl, hsm⟩
/-! the besom -/
theorem fm_dec : ∀ a, a < 32 → 0 ≤ (nI a ^^^ 8) ∧ nI a - nI a / 8 * 8 = nI (a % 8) := by decide +kernel
theorem fm_y {S : CS} {a : Nat} {post : Int32 → CS → Prop} (ha : a < 32) (h : post (nI (a % 8)) S) : p_J9_floorMod_7cf53 S (nI a) 8 post := by
  unfold p_J9_floorMod_7cf53
  obtain ⟨h1, h2⟩ := fm_dec a ha
  refine ⟨by decide, fun x ex => br_t h1 ?_⟩
  rw [ex, h2]
  exact h
theorem fm_m {S : CS} {post : Int32 → CS → Prop} (h : post 7 S) : p_J9_floorMod_7cf53 S (-1) 8 post := by
  unfold p_J9_floorMod_7cf53
  refine ⟨by decide, fun x ex => ?_⟩
  have e : x = -1 := by rw [ex]; decide
  subst e
  exact br_f (by decide) (br_f (by decide) h)
def s1 (L : Nat → Nat) (a b : Nat) : Nat → Nat := fun i => if i = a then L i - b else L i
/-- a sweeping: what the lengths are then -/
def sw (L : Nat → Nat) (f : Nat) : Nat → Nat := s1 (s1 (s1 L f 2) ((f + 1) % 8) 1) ((f + 7) % 8) 1
theorem s1_le {L : Nat → Nat} {a b : Nat} (h : ∀ i, i < 8 → L i ≤ 15) : ∀ i, i < 8 → s1 L a b i ≤ 15 := by
  intro i hi
  have := h i hi
  unfold s1
  by_cases c : i = a
  · rw [if_pos c]; omega
  · rw [if_neg c]; omega
theorem sw_le {L : Nat → Nat} {f : Nat} (h : ∀ i, i < 8 → L i ≤ 15) : ∀ i, i < 8 → sw L f i ≤ 15 := s1_le (s1_le (s1_le h))
theorem cut_dec : ∀ l, l < 16 → ∀ b, b < 3 → (if 0 < nI l - nI b then nI l - nI b else 0) = nI (l - b) := by decide +kernel
def Bes (S : CS) (b : Nat) (L : Nat → Nat) : Prop := ∀ i, i < 8 → S.1 (bl b) i = nI (L i) ∧ L i ≤ 15
theorem sh_y {S : CS} {b a by_ : Nat} {L : Nat → Nat} {post : CS → Prop} (ha : a < 8) (hb : by_ < 3) (hL : Bes S b L) (h : ∀ S1 : CS, Bes S1 b (s1 L a by_) → (∀ c i, c ≠ bl b → S1.1 c i = S.1 c i) → S1.2 = S.2 → post S1) : vp_in (nI a) 8 ∧ (∀ u_3 : Int32, u_3 = (if 0 < ((S.1 (bl b) (nI a).toNatClampNeg) - nI by_) then ((S.1 (bl b) (nI a).toNatClampNeg) - nI by_) else 0) → (vp_in (nI a) 8 ∧ (∀ S_4 : CS, S_4 = sti S (bl b) (nI a).toNatClampNeg u_3 → (post S_4)))) := by
  refine ⟨vp_in_nI ha (by decide), ?_⟩
  rw [nI_clamp (by omega)]
  intro u eu
  refine ⟨vp_in_nI ha (by decide), ?_⟩
  intro S1 e1
  obtain ⟨h1, h2⟩ := hL a ha
  rw [h1, cut_dec (L a) (by omega) by_ hb] at eu
  refine h S1 (fun i hi => ⟨?_, s1_le (fun i hi => (hL i hi).2) i hi⟩) (fun c i hc => by rw [e1, sti_ne (fun q => hc q.1)]) (by rw [e1, sti_22])
  rw [e1, sti_1]
  unfold s1
  by_cases hia : i = a
  · rw [if_pos ⟨rfl, hia⟩, if_pos hia, eu, hia]
  · rw [if_neg (fun q => hia q.2), if_neg hia]
    exact (hL i hi).1
theorem sweep_y {S : CS} {b f : Nat} {L : Nat → Nat} {post : CS → Prop} (hf : f < 8) (hF : S.1 (bo b) 1 = nI f) (hL : Bes S b L) (h : ∀ S1 : CS, Bes S1 b (sw L f) → (∀ c i, c ≠ bl b → S1.1 c i = S.1 c i) → S1.2 = S.2 → post S1) : p_X0_sweep S b post := by
  unfold p_X0_sweep p_X0_shorten
  have hne : bo b ≠ bl b := by unfold bo bl; omega
  rw [hF]
  refine fm_y (by omega) ?_
  rw [Nat.mod_eq_of_lt hf]
  refine sh_y (by_ := 2) hf (by decide) hL (fun S1 a1 a2 a3 => ?_)
  rw [a2 _ _ hne, hF, nI_1]
  refine fm_y (by omega) (sh_y (by_ := 1) (by omega) (by decide) a1 (fun S2 b1 b2 b3 => ?_))
  rw [b2 _ _ hne, a2 _ _ hne, hF]
  have fin : ∀ S3 : CS, Bes S3 b (s1 (s1 (s1 L f 2) ((f + 1) % 8) 1) ((f + 7) % 8) 1) → (∀ c i, c ≠ bl b → S3.1 c i = S2.1 c i) → S3.2 = S2.2 → post S3 := fun S3 c1 c2 c3 => h S3 c1 (fun c i hc => by rw [c2 c i hc, b2 c i hc, a2 c i hc]) (by rw [c3, b3, a3])
  by_cases h0 : f = 0
  · subst h0
    have e : nI 0 - 1 = -1 := by decide
    rw [e]
    exact fm_m (sh_y (a := 7) (by_ := 1) (by decide) (by decide) b1 fin)
  · have e : nI f - 1 = nI (f - 1) := by rw [show f = (f - 1) + 1 by omega, nI_pred]; simp
    rw [e]
    refine fm_y (by omega) ?_
    rw [show (f - 1) % 8 = (f + 7) % 8 by omega]
    exact sh_y (by_ := 1) (by omega) (by decide) b1 fin
theorem r_sh_y {R : CS} {c a by_ : Nat} {L : Nat → Nat} {post : CS → Prop} (ha : a < 24) (hb : by_ < 3) (hL : ∀ i, i < 8 → R.1 c (7 + i) = nI (L i) ∧ L i ≤ 15) (h : ∀ R1 : CS, (∀ i, i < 8 → R1.1 c (7 + i) = nI (s1 L (a % 8) by_ i) ∧ s1 L (a % 8) by_ i ≤ 15) → (∀ c' i, (c' ≠ c ∨ i < 7 ∨ 15 ≤ i) → R1.1 c' i = R.1 c' i) → R1.2 = R.2 → post R1) : p_X7_shortens R c (nI a) (nI by_) post := by
  unfold p_X7_shortens
  intro x ex
  obtain ⟨-, h2⟩ := fm_dec a (by omega)
  rw [h2, show (7 : Int32) = nI 7 from rfl, nI_add] at ex
  subst ex
  obtain ⟨l1, l2⟩ := hL (a % 8) (by omega)
  rw [nI_clamp (by omega), l1]
  have fin : ∀ u : Int32, u = nI (L (a % 8) - by_) → ∀ R1 : CS, R1 = sti R c (7 + a % 8) u → post R1 := by
    intro u eu R1 e1
    refine h R1 (fun i hi => ⟨?_, s1_le (fun i hi => (hL i hi).2) i hi⟩) (fun c' i hc => by rw [e1, sti_ne (by omega)]) (by rw [e1, sti_22])
    rw [e1, sti_1]
    unfold s1
    by_cases hia : i = a % 8
    · rw [if_pos ⟨rfl, by omega⟩, if_pos hia, eu, hia]
    · rw [if_neg (by omega), if_neg hia]
      exact (hL i hi).1
  refine ⟨vp_in_nI (by omega) (by decide), fun q => ⟨vp_in_nI (by omega) (by decide), fun u eu => ⟨vp_in_nI (by omega) (by decide), fin u ?_⟩⟩, fun q => ⟨vp_in_nI (by omega) (by decide), fin 0 ?_⟩⟩
  · rw [eu, pk_sub ((nI_leI (by omega) (by omega)).mp q)]
  · have : L (a % 8) < by_ := by
      rcases Nat.lt_or_ge (L (a % 8)) by_ with z | z
      · exact z
      · exact absurd (nI_le z (by omega)) q
    rw [show L (a % 8) - by_ = 0 by omega]
    rfl
theorem r_sweep_y {R : CS} {c f : Nat} {L : Nat → Nat} {post : CS → Prop} (hf : f < 8) (hF : R.1 c 6 = nI f) (hL : ∀ i, i < 8 → R.1 c (7 + i) = nI (L i) ∧ L i ≤ 15) (h : ∀ R1 : CS, (∀ i, i < 8 → R1.1 c (7 + i) = nI (sw L f i) ∧ sw L f i ≤ 15) → (∀ c' i, (c' ≠ c ∨ i < 7 ∨ 15 ≤ i) → R1.1 c' i = R.1 c' i) → R1.2 = R.2 → post R1) : p_X7_sweep R c post := by
  unfold p_X7_sweep
  rw [hF]
  refine r_sh_y (by_ := 2) (by omega) (by decide) hL (fun R1 a1 a2 a3 => ?_)
  rw [Nat.mod_eq_of_lt hf] at a1
  rw [a2 _ _ (by omega), hF, nI_1]
  refine r_sh_y (by_ := 1) (by omega) (by decide) a1 (fun R2 b1 b2 b3 => ?_)
  rw [b2 _ _ (by omega), a2 _ _ (by omega), hF, show nI f + 7 = nI (f + 7) from nI_add f 7]
  exact r_sh_y (by_ := 1) (by omega) (by decide) b1 (fun R3 c1 c2 c3 => h R3 c1 (fun c' i hc => by rw [c2 c' i hc, b2 c' i hc, a2 c' i hc]) (by rw [c3, b3, a3]))
