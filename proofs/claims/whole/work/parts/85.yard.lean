/-! the whole text -/
def LBad (T : Nat → Nat) (n : Nat) (f : TFt) (D : DS) (p items m q : Nat) : Prop := q ≤ n ∧ (∀ (S : CS) (t : Nat) (post : Int32 → CS → Prop), CTx S T n → Dcl S t D → S.1 1 3 = nI p → (∀ S1 : CS, Fr (Cw t) S S1 → post (-10 - nI q) S1) → q_X5_readFrom_10 t post (m + 1) (nI items) S) ∧ (∀ (R : CS) (post : Int32 → CS → Prop), RX R T n f D p → (∀ R1 : CS, Fr Rw R R1 → post (-10 - nI q) R1) → q_X7_yard_25 post (m + 2) (nI items) R)
def LGood (T : Nat → Nat) (n : Nat) (f : TFt) (D : DS) (p items m it2 : Nat) (D2 : DS) : Prop := it2 ≤ n ∧ DW D2 ∧ (∀ (S : CS) (t : Nat) (post : Int32 → CS → Prop), CTx S T n → Dcl S t D → S.1 1 3 = nI p → (∀ S1 : CS, Fr (Cw t) S S1 → Dcl S1 t D2 → post (nI it2) S1) → q_X5_readFrom_10 t post (m + 1) (nI items) S) ∧ (∀ (R : CS) (post : Int32 → CS → Prop), RX R T n f D p → (∀ R1 : CS, Fr Rw R R1 → RDr R1 D2 → p_X7_settles R1 (fun S => post (nI it2) S)) → q_X7_yard_25 post (m + 2) (nI items) R)
theorem read_ex {T : Nat → Nat} {n : Nat} {f : TFt} (hf : TF T n f) (hn : n ≤ 200) : ∀ m p items D, n - p ≤ m → p ≤ n → items ≤ p → DW D → (∃ q, LBad T n f D p items m q) ∨ ∃ it2 D2, LGood T n f D p items m it2 D2 := by
  intro m
  induction m with
  | zero =>
    intro p items D hm hp hi hW
    obtain ⟨⟨t1, t2, t3, t4, t5, t6⟩, hcg, hrg⟩ := hf p hp
    have k0 : (f p).2.2.1 = 0 := by
      rcases Nat.eq_zero_or_pos (f p).2.2.1 with z | z
      · exact z
      · have := t4 (by omega); omega
    right
    refine ⟨items, D, by omega, hW, fun S t post hT hD h3 hpost => ?_, fun R post hX hpost => ?_⟩
    · rw [q_X5_readFrom_10]
      exact br_f (nI_nlt (a := 200) (by omega) (by decide)) (hcg S _ hT h3 (fun S1 a1 a2 a3 a4 => br_t ((ct_m1 t5).mpr k0) (hpost S1 (a1.mono (fun c j w => w.1)) (hD.fr a1))))
    · rw [q_X7_yard_25]
      refine r_well hX.2.2.1 (c01 ?_)
      rw [hX.2.1.2.2.1]
      refine br_t (rt_0.mpr k0) ?_
      unfold q_X7_yard_100
      exact r_well hX.2.2.1 (c01 (hpost R (Fr.rf R) hX.2.2.2.1))
  | succ m ih =>
    intro p items D hm hp hi hW
    obtain ⟨⟨t1, t2, t3, t4, t5, t6⟩, hcg, hrg⟩ := hf p hp
    by_cases k0 : (f p).2.2.1 = 0
    · right
      refine ⟨items, D, by omega, hW, fun S t post hT hD h3 hpost => ?_, fun R post hX hpost => ?_⟩
      · rw [q_X5_readFrom_10]
        exact br_f (nI_nlt (a := 200) (by omega) (by decide)) (hcg S _ hT h3 (fun S1 a1 a2 a3 a4 => br_t ((ct_m1 t5).mpr k0) (hpost S1 (a1.mono (fun c j w => w.1)) (hD.fr a1))))
      · rw [q_X7_yard_25]
        refine r_well hX.2.2.1 (c01 ?_)
        rw [hX.2.1.2.2.1]
        refine br_t (rt_0.mpr k0) ?_
        unfold q_X7_yard_100
        exact r_well hX.2.2.1 (c01 (hpost R (Fr.rf R) hX.2.2.2.1))
    · -- one item
      have cl : ∀ (S : CS) (t : Nat) (post : Int32 → CS → Prop), CTx S T n → Dcl S t D → S.1 1 3 = nI p → (∀ S1 : CS, Fr (Cw t) S S1 → CTx S1 T n → Dcl S1 t D → S1.1 1 2 = nI (f p).1 → S1.1 1 3 = nI (f p).2.1 → p_X5_readItem S1 t (ct (f p).2.2.1 (f p).2.2.2) (fun r_12 S_11 => ((r_12 = 0 → (p_X4_tokenStart S_11 (fun r_16 S_15 => (post ((-10) - r_16) S_15)))) ∧ (¬ (r_12 = 0) → (∀ x2_14 : Int32, x2_14 = nI items + 1 → (q_X5_readFrom_10 t post (m + 1) x2_14 S_11)))))) → q_X5_readFrom_10 t post (m + 1 + 1) (nI items) S := by
        intro S t post hT hD h3 h
        rw [q_X5_readFrom_10]
        exact br_f (nI_nlt (a := 200) (by omega) (by decide)) (hcg S _ hT h3 (fun S1 a1 a2 a3 a4 => br_f (fun w => k0 ((ct_m1 t5).mp w)) (h S1 (a1.mono (fun c j w => w.1)) (hT.fr a1) (hD.fr a1) a2 a3)))
      have rl : ∀ (R : CS) (post : Int32 → CS → Prop), RX R T n f D p → Ritem (fun y1' S9 => q_X7_yard_25 post (m + 2) y1' S9) post (nI items) R → q_X7_yard_25 post (m + 1 + 2) (nI items) R := by
        intro R post hX h
        rw [q_X7_yard_25]
        refine r_well hX.2.2.1 (c01 (br_f ?_ h))
        rw [hX.2.1.2.2.1]
        exact fun w => k0 (rt_0.mp w)
      rcases item_ex hf hn hp hW with ⟨q, hq, hc, hr⟩ | ⟨p2, D2, ⟨hp2, hp3⟩, hW2, hc, hr⟩
      · left
        refine ⟨q, hq, fun S t post hT hD h3 hpost => cl S t post hT hD h3 (fun S1 b1 b2 b3 b4 b5 => hc S1 t _ b2 b3 b4 b5 (fun S2 d1 d2 => c00 ?_)), fun R post hX hpost => rl R post hX (hr R _ post _ hX (fun R1 x d1 d2 => ?_))⟩
        · unfold p_X4_tokenStart
          rw [d2]
          exact hpost S2 (b1.tr d1)
        · show q_X7_yard_25 post (m + 2) x R1
          rw [q_X7_yard_25]
          refine r_ill d2 (by omega) (c00 ?_)
          unfold q_X7_yard_100
          refine r_ill d2 (by omega) (c00 ?_)
          rw [d2]
          exact hpost R1 d1
      · rcases ih p2 (items + 1) D2 (by omega) hp3 (by omega) hW2 with ⟨q, hq, gc, gr⟩ | ⟨it2, D3, hit, hW3, gc, gr⟩
        · left
          refine ⟨q, hq, fun S t post hT hD h3 hpost => cl S t post hT hD h3 (fun S1 b1 b2 b3 b4 b5 => hc S1 t _ b2 b3 b4 b5 (fun S2 d1 d2 d3 d4 => c01 ?_)), fun R post hX hpost => rl R post hX (hr R _ post _ hX (fun R1 d1 d2 => ?_))⟩
          · intro x ex
            rw [ex, nI_1]
            exact gc S2 t post d2 d3 d4 (fun S3 j1 => hpost S3 ((b1.tr d1).tr j1))
          · show q_X7_yard_25 post (m + 2) (nI items + 1) R1
            rw [nI_1]
            exact gr R1 post d2 (fun R2 j1 => hpost R2 (d1.tr j1))
        · right
          refine ⟨it2, D3, hit, hW3, fun S t post hT hD h3 hpost => cl S t post hT hD h3 (fun S1 b1 b2 b3 b4 b5 => hc S1 t _ b2 b3 b4 b5 (fun S2 d1 d2 d3 d4 => c01 ?_)), fun R post hX hpost => rl R post hX (hr R _ post _ hX (fun R1 d1 d2 => ?_))⟩
          · intro x ex
            rw [ex, nI_1]
            exact gc S2 t post d2 d3 d4 (fun S3 j1 j2 => hpost S3 ((b1.tr d1).tr j1) j2)
          · show q_X7_yard_25 post (m + 2) (nI items + 1) R1
            rw [nI_1]
            exact gr R1 post d2 (fun R2 j1 j2 => hpost R2 (d1.tr j1) j2)
theorem r_yard_y {R : CS} {T : Nat → Nat} {n : Nat} {f : TFt} {post : Int32 → CS → Prop} (hf : TF T n f) (hT : RTx R T n) (h : ∀ R1 : CS, Fr Rw R R1 → RX R1 T n f D0 0 → ∃ m, q_X7_yard_25 post m 0 R1) : p_X7_yard R post := by
  unfold p_X7_yard
  intro R1 e1 R2 e2 R3 e3
  have f3 : Fr Rw R R3 := (((Fr.rf R).st e1 (by unfold Rw; omega)).st e2 (by unfold Rw; omega)).st e3 (by unfold Rw; omega)
  refine begins_y (fun R4 a1 a2 a3 a4 => ?_)
  have f4 : Fr Rw R R4 := f3.tr ⟨fun c i w => a3 c i (by unfold Rw at w; omega) (by unfold Rw at w; omega), a4⟩
  have hT4 : RTx R4 T n := ⟨by rw [f4.1 0 3 (by unfold Rw; omega)]; exact hT.1, fun i hi => by rw [f4.1 1 i (by unfold Rw; omega)]; exact hT.2 i hi⟩
  have h84 : R4.1 0 8 = -1 := by rw [a3 0 8 (by omega) (by omega), e3, sti_ne (by omega), e2, sti_eq]
  refine (hf 0 (Nat.zero_le n)).2.2 R4 _ hT4 (by rw [a3 0 4 (by omega) (by omega), e3, sti_eq]; rfl) (fun R5 b1 b2 b3 b4 b5 => ?_)
  refine h R5 (f4.tr b1.w) ⟨hT4.fr b1, ⟨b2, b3, b4, b5⟩, by rw [b1.1 0 8 (by unfold Rt; omega)]; exact h84, a1.fr (fun c i hc => b1.1 c i (by unfold Rt; omega)), 0, by decide, by rw [b1.1 0 10 (by unfold Rt; omega), a2]; rfl, fun g g2 g6 => ⟨fun _ => rfl, fun _ => ?_⟩⟩
  rcases (show g = 2 ∨ g = 3 ∨ g = 4 ∨ g = 5 by omega) with rfl | rfl | rfl | rfl <;> decide
/-- a text that can't be read: nothing that counts has changed -/
theorem Rel.fail {k t pn : Nat} {d : Dat} {S R S1 R1 : CS} (h1 : WF k d) (h2 : t < 2 ∧ S.2.1 = t ∧ S.2.2.1 = 1 - t ∧ S.1 20 0 = 0) (h3 : CC d t pn S.1) (h4 : RR d R.1) (h5 : S.2.2.2 = R.2.2.2) (eS : Fr (Cw (1 - t)) S S1) (eR : Fr Rw R R1) : Rel (k + 1) S1 R1 := by
  have ht := h2.1
  have e1 : ∀ c i, (c ≠ 1 ∨ i < 2) → c ≠ tm (1 - t) → c ≠ tv (1 - t) → S1.1 c i = S.1 c i := fun c i a b e => eS.1 c i ⟨by omega, b, e⟩
  have hm : ∀ m j, mv S1.1 m j = mv S.1 m j := fun m j => mv_congr (fun i => e1 _ i (Or.inl (by unfold mo; omega)) (by unfold mo tm; omega) (by unfold mo tv; omega)) (fun i => e1 _ i (Or.inl (by unfold bo; omega)) (by unfold bo tm; omega) (by unfold bo tv; omega)) (fun i => e1 _ i (Or.inl (by unfold bl; omega)) (by unfold bl tm; omega) (by unfold bl tv; omega)) (fun i => e1 _ i (Or.inl (by unfold mg; omega)) (by unfold mg tm; omega) (by unfold mg tv; omega))
  have o1 : ∀ c i, 9 ≤ c → S1.1 c i = S.1 c i := fun c i hc => e1 c i (Or.inl (by omega)) (by unfold tm; omega) (by unfold tv; omega)
  have o0 : ∀ i, S1.1 0 i = S.1 0 i := fun i => e1 0 i (Or.inl (by decide)) (by unfold tm; omega) (by unfold tv; omega)
  obtain ⟨c1, c2, c3, c4, c5, c6⟩ := h3
  obtain ⟨r1, r2, r3, r4, r5, r6⟩ := h4
  have q0 : ∀ i, (i = 3 ∨ 11 ≤ i) → R1.1 0 i = R.1 0 i := fun i hi => eR.1 0 i (Or.inl ⟨rfl, hi⟩)
  have q8 : ∀ c i, 8 ≤ c → R1.1 c i = R.1 c i := fun c i hc => eR.1 c i (Or.inr (Or.inr (Or.inr hc)))
  have q2 : ∀ c i, (c = 2 ∨ c = 3 ∨ c = 5 ∨ c = 6 ∨ c = 7) → i < 6 → R1.1 c i = R.1 c i := fun c i hc hi => eR.1 c i (Or.inr (Or.inr (Or.inl ⟨hc, hi⟩)))
  refine ⟨d, t, pn, h1.up (Nat.le_succ k), by rw [eS.2, o1 20 0 (by decide)]; exact h2, ⟨?_, ?_, ?_, ?_, ?_, ?_⟩, ⟨?_, ?_, ?_, ?_, ?_, ?_⟩, by rw [eS.2, eR.2]; exact h5⟩
  · exact c1.keep rfl (fun _ => rfl) (e1 1 1 (Or.inr (by decide)) (by unfold tm; omega) (by unfold tv; omega)) (fun _ => e1 2 _ (Or.inl (by decide)) (by unfold tm; omega) (by unfold tv; omega))
  · exact c2.keep (fun _ => rfl) (fun _ => rfl) (fun _ => rfl) (fun _ => rfl) (fun _ => rfl) (fun _ => e1 _ _ (Or.inl (by unfold tm; omega)) (by unfold tm; omega) (by unfold tm tv; omega)) (fun _ => e1 _ _ (Or.inl (by unfold tv; omega)) (by unfold tv tm; omega) (by unfold tv; omega))
  · exact c3.keep rfl (fun _ => rfl) (hm 0)
  · exact c4.keep rfl rfl (fun _ => rfl) (o0 5) (o0 6) (fun m j _ _ => hm m j)
  · exact c5.keep rfl (fun _ => rfl) (fun _ => rfl) (fun i => o1 13 i (by decide)) (fun m j _ _ => hm m j)
  · exact c6.keep rfl (fun _ => rfl) (fun _ => rfl) (fun _ => rfl) (o0 12) (fun i => o1 14 i (by decide)) (fun i => o1 15 i (by decide)) (fun i => o1 16 i (by decide))
  · exact r1.keep rfl (fun _ => rfl) (q0 3 (Or.inl rfl)) (fun i => eR.1 1 i (Or.inr (Or.inl rfl)))
  · exact r2.keep (fun _ => rfl) (fun _ => rfl) (fun _ => rfl) (fun _ => rfl) (fun _ => rfl) (fun i hi => q2 2 i (by decide) hi) (fun i hi => q2 3 i (by decide) hi) (fun i hi => q2 5 i (by decide) hi) (fun i hi => q2 6 i (by decide) hi) (fun i hi => q2 7 i (by decide) hi) h1.2.1.1 h1.2.1.2.1
  · exact r3.keep rfl (fun _ => rfl) (fun j => q8 8 j (by decide))
  · exact r4.keep rfl rfl (fun _ => rfl) (q0 21 (Or.inr (by decide))) (fun j => q8 12 j (by decide))
  · exact r5.keep rfl (fun _ => rfl) (fun _ => rfl) (fun i => q8 11 i (by decide)) (fun j => q8 10 j (by decide))
  · exact r6.keep rfl (fun _ => rfl) (fun _ => rfl) (fun _ => rfl) (q0 25 (Or.inr (by decide))) (fun i => q8 13 i (by decide)) (fun i => q8 14 i (by decide)) (fun i => q8 15 i (by decide))
theorem m10_neg : ∀ q, q < 201 → ¬ 0 ≤ (-10 : Int32) - nI q := by decide +kernel
theorem sim_yard (k : Nat) (S R : CS) (_ : k < 64) (h : Rel k S R) : p_X6_yard S (fun r S1 => p_X7_yard R (fun r2 R1 => r = r2 ∧ Rel (k + 1) S1 R1)) := by
  obtain ⟨d, t, pn, hW, ⟨ht1, ht2, ht3, ht4⟩, hC, hR, htr⟩ := h
  have hB : TB (d 1) (d 0 3) := hW.1
  have hn := hB.1
  obtain ⟨f, hf⟩ := tf_ex hB
  have hTR : RTx R (d 1) (d 0 3) := hR.1
  unfold p_X6_yard
  refine ⟨by omega, ?_⟩
  rw [ht3]
  unfold p_X5_readFrom
  refine first_y (fun S1 a1 a2 a3 => ?_)
  unfold p_X4_rewind
  intro S2 e2
  have fS : Fr (Cw (1 - t)) S S2 := (show Fr (Cw (1 - t)) S S1 from ⟨fun c i w => a2 c i w.2.1 w.2.2, a3⟩).st e2 (fun w => w.1 ⟨rfl, by decide⟩)
  have hT2 : CTx S2 (d 1) (d 0 3) := ⟨by rw [fS.1 1 1 ⟨by omega, by unfold tm; omega, by unfold tv; omega⟩]; exact hC.1.1, fun i hi => by rw [fS.1 2 i ⟨by omega, by unfold tm; omega, by unfold tv; omega⟩]; exact hC.1.2 i hi⟩
  have hD2 : Dcl S2 (1 - t) D0 := ⟨fun h hh => by rw [e2, sti_ne (by unfold tm; omega)]; exact a1.1 h hh, fun r hr i hi => by rw [e2, sti_ne (by unfold tv; omega)]; exact a1.2 r hr i hi⟩
  have h32 : S2.1 1 3 = nI 0 := by rw [e2, sti_eq]; rfl
  rcases read_ex hf hn (d 0 3) 0 0 D0 (by omega) (Nat.zero_le _) (Nat.le_refl 0) D0_W with ⟨q, hq, gc, gr⟩ | ⟨it2, D3, hit, hW3, gc, gr⟩
  · refine ⟨_, gc S2 (1 - t) _ hT2 hD2 h32 (fun S3 b1 => br_f (m10_neg q (by omega)) ?_)⟩
    refine r_yard_y hf hTR (fun R1 c1 c2 => ⟨_, gr R1 _ c2 (fun R2 c3 => ?_)⟩)
    exact ⟨rfl, Rel.fail hW ⟨ht1, ht2, ht3, ht4⟩ hC hR htr (fS.tr b1) (c1.tr c3)⟩
  · refine ⟨_, gc S2 (1 - t) _ hT2 hD2 h32 (fun S3 b1 b2 => br_t (nI_pos' (by omega)) ?_)⟩
    have f3 := fS.tr b1
    have g1 : S3.2.1 = t := by rw [f3.2]; exact ht2
    have g2 : S3.2.2.1 = 1 - t := by rw [f3.2]; exact ht3
    have g3 : S3.2.2.2 = R.2.2.2 := by rw [f3.2]; exact htr
    refine ⟨by omega, by omega, ?_⟩
    intro S7 e7 S8 e8
    unfold p_X4_empty
    intro S9 e9
    have m8 : S8.1 = S3.1 := by rw [e8, e7]; rfl
    have t8 : S8.2 = (1 - t, t, R.2.2.2) := by
      rw [e8, e7]
      unfold sdd std
      rw [g1, g2, g3]
    have m9 : ∀ c i, c ≠ 1 → S9.1 c i = S3.1 c i := fun c i hc => by rw [e9, sti_ne (fun w => hc w.1), m8]
    have t9 : S9.2 = (1 - t, t, R.2.2.2) := by rw [e9, sti_22]; exact t8
    have hcl : Dcl S9 (1 - t) D3 := ⟨fun h hh => by rw [m9 _ _ (by unfold tm; omega)]; exact b2.1 h hh, fun r hr i hi => by rw [m9 _ _ (by unfold tv; omega)]; exact b2.2 r hr i hi⟩
    refine start_y (t := 1 - t) (D := D3) (by omega) (by rw [t9]) hcl (fun S10 c1 c2 c3 c4 c5 c6 => ?_)
    refine r_yard_y hf hTR (fun R1 d1 d2 => ⟨_, gr R1 _ d2 (fun R2 d3 d4 => ?_)⟩)
    refine settles_y (P := D3.1 0) d4.1.1 hW3.1 (fun R3 j1 j2 j3 j4 j5 j6 j7 j8 => ⟨rfl, ?_⟩)
    refine Rel.new (R := R2) (S := S9) (t := 1 - t) hW3 (by omega) (by rw [t9]) (by rw [t9]; show t = 1 - (1 - t); omega) ?_ hcl d4 ?_ ?_ c1 c2 c3 c4 c5 c6 j1 j2 j3 j4 j5 j6 j7 j8
    · rw [m9 20 0 (by decide), f3.1 20 0 ⟨by omega, by unfold tm; omega, by unfold tv; omega⟩]; exact ht4
    · rw [t9, (d1.tr d3).2]
    · rw [e9, sti_eq]
