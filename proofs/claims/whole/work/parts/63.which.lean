/-! which turnings fit what was seen -/
def Fit (d : Dat) (L : Nat → Nat) (i e : Nat) : Prop := d 13 e = i → L (d 14 e) = d 15 e
theorem seenFits_y {S1 : CS} {d : Dat} {L : Nat → Nat} {i : Nat} {post : Int32 → CS → Prop} (hW : WE d) (hC : CE d S1.1) (hL : Bes S1 0 L) (hi : i < 41) (h1 : (∀ e, e < d 0 25 → Fit d L i e) → post 1 S1) (h0 : ¬ (∀ e, e < d 0 25 → Fit d L i e) → post 0 S1) : p_X6_seenFits S1 (nI i) post := by
  have h5 := hW.1
  unfold p_X6_seenFits
  refine loop_0 (fun n e S => q_X6_seenFits_2 (nI i) post n (nI e) S) (fun e S => S = S1 ∧ ∀ e', e' < e → Fit d L i e') (d 0 25) S1 ⟨rfl, fun j hj => absurd hj (Nat.not_lt_zero j)⟩ (fun n S hI => ?_) (fun n e S he hI ih => ?_)
  · rw [q_X6_seenFits_2, hI.1, hC.1]
    exact br_t (nI_le (Nat.le_refl _) (by omega)) (h1 hI.2)
  · obtain ⟨w1, w2, w3⟩ := hW.2 e he
    obtain ⟨c1, c2, c3⟩ := hC.2 e he
    rw [q_X6_seenFits_2, hI.1, hC.1, nI_clamp (by omega), c1, c2]
    refine br_f (nI_ge he (by omega)) (br_f (nI_ge (b := 5) (by omega) (by decide)) ⟨vp_in_nI (by omega) (by decide), ?_⟩)
    have go : Fit d L i e → ∀ x : Int32, x = nI e + 1 → q_X6_seenFits_2 (nI i) post n x S1 := by
      intro hf x ex
      rw [ex, nI_1]
      refine ih S1 ⟨rfl, fun e' he' => ?_⟩
      rcases Nat.lt_or_ge e' e with z | z
      · exact hI.2 e' z
      · rw [show e' = e by omega]; exact hf
    refine ⟨fun c => ⟨vp_in_nI (by omega) (by decide), ?_⟩, fun c => go (fun q => absurd (by rw [q]) c)⟩
    have hc : d 13 e = i := (nI_eq (by omega) (by omega)).mp c
    unfold p_X0_lengthOf
    refine br_f (nI_pos (by omega)) (br_t (nI_lt (b := 8) w2 (by decide)) ⟨vp_in_nI w2 (by decide), vp_in_nI (by omega) (by decide), ?_⟩)
    obtain ⟨l1, l2⟩ := hL (d 14 e) w2
    rw [nI_clamp (by omega), l1, c3]
    refine ⟨fun q => go (fun _ => (nI_eq (by omega) (by omega)).mp q), fun q => h0 (fun a => q (by rw [a e he hc]))⟩
def SoBy (d : Dat) (x : Nat) : Prop := ∀ i, i < 41 → ∀ e, e < d 0 25 → Fit d (it x (d 8 6) (fun i => d 8 (7 + i)) i).2 i e
theorem allSeen_y {S S1 : CS} {d : Dat} {x : Nat} {post : Int32 → CS → Prop} (hx : x < 8) (hf : d 8 6 < 8) (hF : S.1 (bo 1) 1 = nI (d 8 6)) (hL : Bes S 1 (fun i => d 8 (7 + i))) (hW : WE d) (hC : CE d S.1) (hS : ∀ c i, c ≠ bo 0 → c ≠ bl 0 → S1.1 c i = S.1 c i) (hS2 : S1.2 = S.2) (h1 : SoBy d x → ∀ S2 p, TC S S2 p → post 1 S2) (h0 : ¬ SoBy d x → ∀ S2 p, TC S S2 p → post 0 S2) : p_X6_allSeenIsSoBy S1 (nI x) post := by
  unfold p_X6_allSeenIsSoBy
  refine trial_y hf (by rw [hS _ _ (by decide) (by decide)]; exact hF) (fun i hi => ⟨by rw [hS _ _ (by decide) (by decide)]; exact (hL i hi).1, (hL i hi).2⟩) (fun S2 hT => ?_)
  have hT0 : TC S S2 (it x (d 8 6) (fun i => d 8 (7 + i)) 0) := ⟨hT.1, hT.2.1, fun c i p q => by rw [hT.2.2.1 c i p q, hS c i p q], by rw [hT.2.2.2, hS2]⟩
  refine loop_0 (fun n i S2 => q_X6_allSeenIsSoBy_16 (nI x) post n (nI i) S2) (fun i S2 => TC S S2 (it x (d 8 6) (fun i => d 8 (7 + i)) i) ∧ ∀ i', i' < i → ∀ e, e < d 0 25 → Fit d (it x (d 8 6) (fun i => d 8 (7 + i)) i').2 i' e) 41 S2 ⟨hT0, fun j hj => absurd hj (Nat.not_lt_zero j)⟩ (fun n S2 hI => ?_) (fun n i S2 hi hI ih => ?_)
  · rw [q_X6_allSeenIsSoBy_16]
    exact br_t (show (40 : Int32) < nI 41 by decide) (h1 hI.2 S2 _ hI.1)
  · rw [q_X6_allSeenIsSoBy_16]
    have hC2 : CE d S2.1 := hC.keep rfl (fun _ => rfl) (fun _ => rfl) (fun _ => rfl) (hI.1.2.2.1 _ _ (by decide) (by decide)) (fun _ => hI.1.2.2.1 _ _ (by decide) (by decide)) (fun _ => hI.1.2.2.1 _ _ (by decide) (by decide)) (fun _ => hI.1.2.2.1 _ _ (by decide) (by decide))
    refine br_f (show ¬ (40 : Int32) < nI i from nI_nlt (a := 40) (b := i) (by omega) (by decide)) (seenFits_y hW hC2 hI.1.2.1 hi (fun q => c01 (step_y hx hI.1 (fun S3 h3 => ?_))) (fun q => c00 (h0 (fun a => q (a i hi)) S2 _ hI.1)))
    intro y ey
    rw [ey, nI_1]
    refine ih S3 ⟨h3, fun i' hi' => ?_⟩
    rcases Nat.lt_or_ge i' i with z | z
    · exact hI.2 i' z
    · rw [show i' = i by omega]; exact q
theorem r_fits_y {R1 : CS} {d : Dat} {L : Nat → Nat} {K9 : Int32 → Int32 → CS → Prop} {K24 : Int32 → Int32 → Int32 → Int32 → CS → Prop} {post : Int32 → CS → Prop} {y1 y2 fl : Int32} {i : Nat} {g : Prop} (hW : WE d) (hE : RE d R1.1) (hL : RB R1 9 L) (hi : i < 41) (hfl : (fl = 1 ∧ g) ∨ (fl = 0 ∧ ¬ g)) (h : ∀ fl' : Int32, ((fl' = 1 ∧ (g ∧ ∀ e, e < d 0 25 → Fit d L i e)) ∨ (fl' = 0 ∧ ¬ (g ∧ ∀ e, e < d 0 25 → Fit d L i e))) → p_X7_goes R1 y2 (fun S_12 => ∀ x4 : Int32, x4 = nI i + 1 → K24 y1 y2 fl' x4 S_12)) : ∃ n, q_X7_which_34 K9 K24 post n y1 y2 fl (nI i) 0 R1 := by
  have h5 := hW.1
  refine loop_0 (σ := Int32) (fun n e fl => q_X7_which_34 K9 K24 post n y1 y2 fl (nI i) (nI e) R1) (fun e fl => (fl = 1 ∧ (g ∧ ∀ e', e' < e → Fit d L i e')) ∨ (fl = 0 ∧ ¬ (g ∧ ∀ e', e' < e → Fit d L i e'))) (d 0 25) fl ?_ (fun n fl hI => ?_) (fun n e fl he hI ih => ?_)
  · rcases hfl with ⟨a, b⟩ | ⟨a, b⟩
    · exact Or.inl ⟨a, b, fun j hj => absurd hj (Nat.not_lt_zero j)⟩
    · exact Or.inr ⟨a, fun q => b q.1⟩
  · rw [q_X7_which_34, hE.1]
    exact br_t (nI_le (Nat.le_refl _) (by omega)) (h fl hI)
  · obtain ⟨w1, w2, w3⟩ := hW.2 e he
    obtain ⟨c1, c2, c3⟩ := hE.2 e he
    rw [q_X7_which_34, hE.1]
    refine br_f (nI_ge he (by omega)) ?_
    have yes : (fl = 1 ∧ (g ∧ ∀ e', e' < e → Fit d L i e')) → Fit d L i e → ∀ x : Int32, x = nI e + 1 → q_X7_which_34 K9 K24 post n y1 y2 1 (nI i) x R1 := by
      intro a b x ex
      rw [ex, nI_1]
      refine ih 1 (Or.inl ⟨rfl, a.2.1, fun e' he' => ?_⟩)
      rcases Nat.lt_or_ge e' e with z | z
      · exact a.2.2 e' z
      · rw [show e' = e by omega]; exact b
    have no : ¬ (g ∧ ∀ e', e' < e + 1 → Fit d L i e') → ∀ x : Int32, x = nI e + 1 → q_X7_which_34 K9 K24 post n y1 y2 0 (nI i) x R1 := by
      intro a x ex
      rw [ex, nI_1]
      exact ih 0 (Or.inr ⟨rfl, a⟩)
    rcases hI with hI | ⟨a, b⟩
    · rw [hI.1]
      unfold q_X7_which_84
      rw [nI_clamp (by omega), c1, c2, c3]
      refine br_f ne10 ⟨vp_in_nI (by omega) (by decide), fun c => ⟨vp_in_nI (by omega) (by decide), ?_⟩, fun c => yes hI (fun q => absurd (by rw [q]) c)⟩
      have hc : d 13 e = i := (nI_eq (by omega) (by omega)).mp c
      obtain ⟨l1, l2⟩ := hL (d 14 e) w2
      rw [show (7 : Int32) + nI (d 14 e) = nI (7 + d 14 e) from nI_add 7 _, nI_clamp (by omega), l1]
      refine ⟨vp_in_nI (by omega) (by decide), vp_in_nI (by omega) (by decide), fun q => yes hI (fun _ => (nI_eq (by omega) (by omega)).mp q), fun q => no (fun a => q (by rw [a.2 e (by omega) hc]))⟩
    · rw [a]
      exact br_t rfl (no (fun q => b ⟨q.1, fun e' he' => q.2 e' (by omega)⟩))
def wa (B : Nat → Bool) : Nat → Int32
  | 0 => 0
  | i + 1 => if B i = true then wa B i ||| (1 <<< (nI i &&& 31)) else wa B i
theorem wa_s (B : Nat → Bool) (i : Nat) : wa B (i + 1) = if B i = true then wa B i ||| (1 <<< (nI i &&& 31)) else wa B i := rfl
theorem sim_which (k : Nat) (S R : CS) (hk : k < 64) (h : Rel k S R) : p_X6_which S (fun r S1 => p_X7_which R (fun r2 R1 => r = r2 ∧ Rel (k + 1) S1 R1)) := by
  obtain ⟨d, t, pn, hW, ⟨ht1, ht2, ht3⟩, hC, hR, htr⟩ := h
  obtain ⟨b0, b1, b2, b3, b4, b5, b6, b7, b8⟩ := hW.2.2.1
  have hWE := hW.2.2.2.2.2
  have hF : S.1 (bo 1) 1 = nI (d 8 6) := by rw [← hC.2.2.1 6 (by omega), mv_6]
  have hL : Bes S 1 (fun i => d 8 (7 + i)) := fun i hi => ⟨by rw [← hC.2.2.1 (7 + i) (by omega), mv_l _ _ hi], b7 i hi⟩
  obtain ⟨B, hB⟩ : ∃ B : Nat → Bool, ∀ i, B i = true ↔ SoBy d i := ⟨fun i => @decide (SoBy d i) (Classical.propDecidable _), fun i => @decide_eq_true_iff (SoBy d i) (Classical.propDecidable _)⟩
  unfold p_X6_which
  refine loop_0 (σ := Int32 × CS) (fun n i s => q_X6_which_4 _ n s.1 (nI i) s.2) (fun i s => s.1 = wa B i ∧ (∀ c i, c ≠ bo 0 → c ≠ bl 0 → s.2.1 c i = S.1 c i) ∧ s.2.2 = S.2) 8 (0, S) ⟨rfl, fun _ _ _ _ => rfl, rfl⟩ (fun n s hI => ?_) (fun n i s hi hI ih => ?_)
  · rw [q_X6_which_4]
    obtain ⟨s1, s2, s3⟩ := hI
    refine br_t (show (8 : Int32) ≤ nI 8 by decide) ?_
    rw [s1]
    have csm : CSm S s.2 := ⟨fun c j hc => s2 c j (by unfold bo; omega) (by unfold bl; omega), s3⟩
    unfold p_X7_which
    intro R1 e1
    subst e1
    have hF' : (sti R 0 0 0).1 8 6 = nI (d 8 6) := RN.th hR.2.2.1 (by omega)
    have hL' : RB (sti R 0 0 0) 8 (fun i => d 8 (7 + i)) := fun i hi => ⟨RN.th hR.2.2.1 (by omega), b7 i hi⟩
    have hE' : ∀ R1 : CS, (∀ c i, c ≠ 9 → R1.1 c i = (sti R 0 0 0).1 c i) → RE d R1.1 := fun R1 q => hR.2.2.2.2.2.keep rfl (fun _ => rfl) (fun _ => rfl) (fun _ => rfl) (by rw [q 0 25 (by decide), sti_ne (by omega)]) (fun _ => by rw [q _ _ (by decide), sti_ne (by omega)]) (fun _ => by rw [q _ _ (by decide), sti_ne (by omega)]) (fun _ => by rw [q _ _ (by decide), sti_ne (by omega)])
    refine loop_0 (σ := Int32 × CS) (fun n x r => q_X7_which_9 _ n r.1 (nI x) r.2) (fun x r => r.1 = wa B x ∧ (∀ c i, c ≠ 9 → r.2.1 c i = (sti R 0 0 0).1 c i) ∧ r.2.2 = R.2) 8 (0, sti R 0 0 0) ⟨rfl, fun _ _ _ => rfl, rfl⟩ (fun n r hI => ?_) (fun n x r hx hI ih => ?_)
    · rw [q_X7_which_9]
      obtain ⟨r1, r2, r3⟩ := hI
      exact br_t (show (8 : Int32) ≤ nI 8 by decide) ⟨by rw [r1], Rel.sm hW ⟨ht1, ht2, ht3⟩ hC hR htr csm ⟨fun c j h0 h9 _ _ => by rw [r2 c j h9, sti_ne (fun q => h0 q.1)], fun j hj => by rw [r2 0 j (by decide), sti_ne (fun q => hj q.2)], r3⟩⟩
    · rw [q_X7_which_9]
      obtain ⟨r1, r2, r3⟩ := hI
      rw [r1]
      refine br_f (nI_ge (b := 8) hx (by decide)) (r_trial_y b6 hF' hL' r2 r3 (fun R2 hT => ?_))
      refine loop_0 (σ := Int32 × CS) (fun n i r => q_X7_which_24 _ _ n (wa B x) (nI x) r.1 (nI i) r.2) (fun i r => ((r.1 = 1 ∧ ∀ i', i' < i → ∀ e, e < d 0 25 → Fit d (it x (d 8 6) (fun i => d 8 (7 + i)) i').2 i' e) ∨ (r.1 = 0 ∧ ¬ ∀ i', i' < i → ∀ e, e < d 0 25 → Fit d (it x (d 8 6) (fun i => d 8 (7 + i)) i').2 i' e)) ∧ TR (sti R 0 0 0) r.2 (it x (d 8 6) (fun i => d 8 (7 + i)) i)) 41 (1, R2) ⟨Or.inl ⟨rfl, fun j hj => absurd hj (Nat.not_lt_zero j)⟩, hT⟩ (fun n2 r hI => ?_) (fun n2 i r hi hI ih2 => ?_)
      · rw [q_X7_which_24]
        obtain ⟨hb, hT2⟩ := hI
        refine br_t (show (40 : Int32) < nI 41 by decide) ?_
        rcases hb with ⟨a, b⟩ | ⟨a, b⟩
        · rw [a]
          refine br_f ne10 ?_
          intro y1 e1 y2 e2
          rw [e2, nI_1]
          exact ih (y1, r.2) ⟨by rw [wa_s, if_pos ((hB x).mpr b)]; exact e1, hT2.2.2.1, hT2.2.2.2⟩
        · rw [a]
          refine br_t rfl ?_
          intro y1 e1 y2 e2
          rw [e2, nI_1]
          exact ih (y1, r.2) ⟨by rw [wa_s, if_neg (fun q => b ((hB x).mp q))]; show y1 = wa B x; rw [e1, Int32.or_zero], hT2.2.2.1, hT2.2.2.2⟩
      · rw [q_X7_which_24]
        obtain ⟨hb, hT2⟩ := hI
        refine br_f (show ¬ (40 : Int32) < nI i from nI_nlt (a := 40) (b := i) (by omega) (by decide)) (r_fits_y hWE (hE' r.2 hT2.2.2.1) hT2.2.1 hi hb (fun fl hfl => r_step_y hx hT2 (fun R3 h3 => ?_)))
        intro y ey
        rw [ey, nI_1]
        refine ih2 (fl, R3) ⟨?_, h3⟩
        have hiff : ((∀ i', i' < i → ∀ e, e < d 0 25 → Fit d (it x (d 8 6) (fun i => d 8 (7 + i)) i').2 i' e) ∧ ∀ e, e < d 0 25 → Fit d (it x (d 8 6) (fun i => d 8 (7 + i)) i).2 i e) ↔ ∀ i', i' < i + 1 → ∀ e, e < d 0 25 → Fit d (it x (d 8 6) (fun i => d 8 (7 + i)) i').2 i' e := by
          refine ⟨fun q i' hi' => ?_, fun q => ⟨fun i' hi' => q i' (by omega), q i (by omega)⟩⟩
          rcases Nat.lt_or_ge i' i with z | z
          · exact q.1 i' z
          · rw [show i' = i by omega]; exact q.2
        rcases hfl with ⟨a, b⟩ | ⟨a, b⟩
        · exact Or.inl ⟨a, hiff.mp b⟩
        · exact Or.inr ⟨a, fun q => b (hiff.mpr q)⟩
  · rw [q_X6_which_4]
    obtain ⟨s1, s2, s3⟩ := hI
    rw [s1]
    refine br_f (nI_ge (b := 8) hi (by decide)) (allSeen_y (S := S) (d := d) hi b6 hF hL hWE hC.2.2.2.2.2 s2 s3 (fun q S2 p h2 => c01 ?_) (fun q S2 p h2 => c00 ?_))
    · intro y1 e1 y2 e2
      rw [e2, nI_1]
      exact ih (y1, S2) ⟨by rw [wa_s, if_pos ((hB i).mpr q)]; exact e1, h2.2.2.1, h2.2.2.2⟩
    · intro y2 e2
      rw [e2, nI_1]
      exact ih (wa B i, S2) ⟨by rw [wa_s, if_neg (fun z => q ((hB i).mp z))], h2.2.2.1, h2.2.2.2⟩
