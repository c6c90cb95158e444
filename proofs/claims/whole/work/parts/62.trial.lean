/-! the besom on trial: sweep, turn by x, and so on -/
def it (x f : Nat) (L : Nat → Nat) : Nat → Nat × (Nat → Nat)
  | 0 => (f, L)
  | i + 1 => (((it x f L i).1 + x) % 8, sw (it x f L i).2 (it x f L i).1)
theorem it_0 (x f : Nat) (L : Nat → Nat) : it x f L 0 = (f, L) := rfl
theorem it_s (x f : Nat) (L : Nat → Nat) (i : Nat) : it x f L (i + 1) = (((it x f L i).1 + x) % 8, sw (it x f L i).2 (it x f L i).1) := rfl
theorem it_f {x f : Nat} {L : Nat → Nat} (hf : f < 8) : ∀ i, (it x f L i).1 < 8 := by
  intro i
  cases i with
  | zero => exact hf
  | succ i => rw [it_s]; exact Nat.mod_lt _ (by decide)
theorem it_l {x f : Nat} {L : Nat → Nat} (hL : ∀ i, i < 8 → L i ≤ 15) : ∀ i, ∀ j, j < 8 → (it x f L i).2 j ≤ 15 := by
  intro i
  induction i with
  | zero => exact hL
  | succ i ih => rw [it_s]; exact sw_le ih
def wo (L : Nat → Nat) : Prop := ∃ i, i < 8 ∧ L i = 0
def sm (L : Nat → Nat) : Nat := L 0 + L 1 + L 2 + L 3 + L 4 + L 5 + L 6 + L 7
theorem sm_sw {L : Nat → Nat} {f : Nat} (hf : f < 8) (h : ¬ wo L) : sm (sw L f) + 3 ≤ sm L := by
  have g : ∀ i, i < 8 → 1 ≤ L i := fun i hi => by
    rcases Nat.eq_zero_or_pos (L i) with z | z
    · exact absurd ⟨i, hi, z⟩ h
    · exact z
  have h0 := g 0 (by decide)
  have h1 := g 1 (by decide)
  have h2 := g 2 (by decide)
  have h3 := g 3 (by decide)
  have h4 := g 4 (by decide)
  have h5 := g 5 (by decide)
  have h6 := g 6 (by decide)
  have h7 := g 7 (by decide)
  rcases (show f = 0 ∨ f = 1 ∨ f = 2 ∨ f = 3 ∨ f = 4 ∨ f = 5 ∨ f = 6 ∨ f = 7 by omega) with rfl | rfl | rfl | rfl | rfl | rfl | rfl | rfl <;> (simp [sm, sw, s1]; omega)
def Cnt (x f : Nat) (L : Nat → Nat) (c : Nat) : Prop := (∀ i, i < c → ¬ wo (it x f L i).2) ∧ wo (it x f L c).2
theorem cnt_ex {x f : Nat} {L : Nat → Nat} (hf : f < 8) (hL : ∀ i, i < 8 → L i ≤ 15) : ∃ c, c ≤ 40 ∧ Cnt x f L c := by
  have key : ∀ n, (∃ c, c < n ∧ Cnt x f L c) ∨ ((∀ i, i < n → ¬ wo (it x f L i).2) ∧ sm (it x f L n).2 + 3 * n ≤ sm L) := by
    intro n
    induction n with
    | zero => exact Or.inr ⟨fun i hi => absurd hi (Nat.not_lt_zero i), by rw [it_0]; exact Nat.le_refl _⟩
    | succ n ih =>
      rcases ih with ⟨c, h1, h2⟩ | ⟨h1, h2⟩
      · exact Or.inl ⟨c, by omega, h2⟩
      · by_cases hw : wo (it x f L n).2
        · exact Or.inl ⟨n, by omega, h1, hw⟩
        · refine Or.inr ⟨fun i hi => ?_, ?_⟩
          · rcases Nat.lt_or_ge i n with z | z
            · exact h1 i z
            · rw [show i = n by omega]; exact hw
          · show sm (sw (it x f L n).2 (it x f L n).1) + 3 * (n + 1) ≤ sm L
            have := sm_sw (it_f (x := x) (L := L) hf n) hw
            omega
  rcases key 41 with ⟨c, h1, h2⟩ | ⟨-, h2⟩
  · exact ⟨c, by omega, h2⟩
  · exfalso
    have h0 := hL 0 (by decide)
    have h1 := hL 1 (by decide)
    have h3 := hL 2 (by decide)
    have h4 := hL 3 (by decide)
    have h5 := hL 4 (by decide)
    have h6 := hL 5 (by decide)
    have h7 := hL 6 (by decide)
    have h8 := hL 7 (by decide)
    unfold sm at h2
    omega
theorem nI_z {a : Nat} (ha : a < 2 ^ 31) : nI a = 0 ↔ a = 0 := nI_eq (b := 0) ha (by decide)
theorem worn_y {S : CS} {b : Nat} {L : Nat → Nat} {post : Int32 → CS → Prop} (hL : Bes S b L) (h1 : wo L → post 1 S) (h0 : ¬ wo L → post 0 S) : p_X0_isWornOut S b post := by
  unfold p_X0_isWornOut
  refine loop_0 (fun n i S1 => q_X0_isWornOut_2 b post n (nI i) S1) (fun i S1 => S1 = S ∧ ∀ j, j < i → ¬ L j = 0) 8 S ⟨rfl, fun j hj => absurd hj (Nat.not_lt_zero j)⟩ (fun n S1 hI => ?_) (fun n i S1 hi hI ih => ?_)
  · rw [q_X0_isWornOut_2, hI.1]
    exact br_t (show (8 : Int32) ≤ nI 8 by decide) (h0 (fun ⟨j, a, e⟩ => hI.2 j a e))
  · rw [q_X0_isWornOut_2, hI.1, nI_clamp (by omega), (hL i hi).1]
    have hl := (hL i hi).2
    refine br_f (nI_ge (b := 8) hi (by decide)) ⟨vp_in_nI hi (by decide), fun c => h1 ⟨i, hi, (nI_z (by omega)).mp c⟩, fun c => ?_⟩
    intro x ex
    rw [ex, nI_1]
    refine ih S ⟨rfl, fun j hj e => ?_⟩
    rcases Nat.lt_or_ge j i with z | z
    · exact hI.2 j z e
    · exact c ((nI_z (by omega)).mpr (by rw [show i = j by omega]; exact e))
def RB (R : CS) (c : Nat) (L : Nat → Nat) : Prop := ∀ i, i < 8 → R.1 c (7 + i) = nI (L i) ∧ L i ≤ 15
theorem r_worn_y {R : CS} {c : Nat} {L : Nat → Nat} {post : Int32 → CS → Prop} (hL : RB R c L) (h1 : wo L → post 1 R) (h0 : ¬ wo L → post 0 R) : p_X7_isWornOut R c post := by
  unfold p_X7_isWornOut
  refine loop_0 (σ := Int32 × CS) (fun n i s => q_X7_isWornOut_4 c post n s.1 (nI i) s.2) (fun i s => s.2 = R ∧ ((s.1 = 1 ∧ ∃ j, j < i ∧ L j = 0) ∨ (s.1 = 0 ∧ ∀ j, j < i → ¬ L j = 0))) 8 (0, R) ⟨rfl, Or.inr ⟨rfl, fun j hj => absurd hj (Nat.not_lt_zero j)⟩⟩ (fun n s hI => ?_) (fun n i s hi hI ih => ?_)
  · rw [q_X7_isWornOut_4, hI.1]
    refine br_t (show (8 : Int32) ≤ nI 8 by decide) ?_
    rcases hI.2 with ⟨e, j, a, b⟩ | ⟨e, a⟩
    · rw [e]
      exact ⟨nrw1, h1 ⟨j, a, b⟩⟩
    · rw [e]
      exact ⟨nrw0, h0 (fun ⟨j, p, q⟩ => a j p q)⟩
  · rw [q_X7_isWornOut_4, hI.1, show (7 : Int32) + nI i = nI (7 + i) from nI_add 7 i, nI_clamp (by omega), (hL i hi).1]
    have hl := (hL i hi).2
    unfold q_X7_isWornOut_23
    refine br_f (nI_ge (b := 8) hi (by decide)) ?_
    rcases hI.2 with ⟨e, j, a, b⟩ | ⟨e, a⟩
    · rw [e]
      refine br_f ne10 ?_
      intro x ex
      rw [ex, nI_1]
      exact ih (1, R) ⟨rfl, Or.inl ⟨rfl, j, by omega, b⟩⟩
    · rw [e]
      refine br_t rfl ⟨vp_in_nI (by omega) (by decide), fun q => ?_, fun q => ?_⟩
      · intro x ex
        rw [ex, nI_1]
        exact ih (1, R) ⟨rfl, Or.inl ⟨rfl, i, by omega, (nI_z (by omega)).mp q⟩⟩
      · intro x ex
        rw [ex, nI_1]
        refine ih (0, R) ⟨rfl, Or.inr ⟨rfl, fun j hj e => ?_⟩⟩
        rcases Nat.lt_or_ge j i with z | z
        · exact a j z e
        · exact q ((nI_z (by omega)).mpr (by rw [show i = j by omega]; exact e))
/-- the class's besom on trial -/
def TC (S S1 : CS) (p : Nat × (Nat → Nat)) : Prop := (S1.1 (bo 0) 1 = nI p.1 ∧ p.1 < 8) ∧ Bes S1 0 p.2 ∧ (∀ c i, c ≠ bo 0 → c ≠ bl 0 → S1.1 c i = S.1 c i) ∧ S1.2 = S.2
theorem TC.csm {S S1 : CS} {p : Nat × (Nat → Nat)} (h : TC S S1 p) : CSm S S1 := ⟨fun c j hc => h.2.2.1 c j (by unfold bo; omega) (by unfold bl; omega), h.2.2.2⟩
theorem trial_y {S : CS} {f : Nat} {L : Nat → Nat} {post : CS → Prop} (hf : f < 8) (hF : S.1 (bo 1) 1 = nI f) (hL : Bes S 1 L) (h : ∀ S1, TC S S1 (f, L) → post S1) : p_X0_setAs S 0 (0 + 1) post :=
  bset_y (by decide) (fun S1 a1 a2 a3 a4 => h S1 ⟨⟨by rw [a2]; exact hF, hf⟩, fun i hi => ⟨by rw [a1 i hi]; exact (hL i hi).1, (hL i hi).2⟩, fun c i p q => a3 c i q p, a4⟩)
theorem step_y {S S1 : CS} {x : Nat} {p : Nat × (Nat → Nat)} {post : CS → Prop} (hx : x < 8) (hT : TC S S1 p) (h : ∀ S2, TC S S2 ((p.1 + x) % 8, sw p.2 p.1) → post S2) : p_X0_sweep S1 0 (fun S_7 => p_X0_turnBy S_7 0 (nI x) post) := by
  obtain ⟨⟨t1, t2⟩, t3, t4, t5⟩ := hT
  refine sweep_y t2 t1 t3 (fun S2 a1 a2 a3 => ?_)
  unfold p_X0_turnBy
  rw [a2 _ _ (by decide), t1, nI_add]
  refine fm_y (by omega) ?_
  intro S3 e3
  exact h S3 ⟨⟨by rw [e3, sti_eq], Nat.mod_lt _ (by decide)⟩, fun i hi => ⟨by rw [e3, sti_ne (by unfold bl bo; omega)]; exact (a1 i hi).1, (a1 i hi).2⟩, fun c i q1 q2 => by rw [e3, sti_ne (fun q => q1 q.1), a2 c i q2, t4 c i q1 q2], by rw [e3, sti_22, a3, t5]⟩
/-- the reference's -/
def TR (R R1 : CS) (p : Nat × (Nat → Nat)) : Prop := (R1.1 9 6 = nI p.1 ∧ p.1 < 8) ∧ RB R1 9 p.2 ∧ (∀ c i, c ≠ 9 → R1.1 c i = R.1 c i) ∧ R1.2 = R.2
theorem TR.rsm {R R1 : CS} {p : Nat × (Nat → Nat)} (h : TR (sti R 0 0 0) R1 p) : RSm R R1 := ⟨fun c j h0 h9 _ _ => by rw [h.2.2.1 c j h9, sti_ne (fun q => h0 q.1)], fun j hj => by rw [h.2.2.1 0 j (by decide), sti_ne (fun q => hj q.2)], by rw [h.2.2.2, sti_22]⟩
theorem r_asNow_y {R : CS} {post : CS → Prop} (h : ∀ R1 : CS, (∀ j, j < 21 → R1.1 9 j = R.1 8 j) → (∀ c i, c ≠ 9 → R1.1 c i = R.1 c i) → R1.2 = R.2 → post R1) : p_X7_asNow R post := by
  unfold p_X7_asNow
  refine loop_0 (fun n i R1 => q_X7_asNow_2 post n (nI i) R1) (fun i R1 => (∀ j, j < i → R1.1 9 j = R.1 8 j) ∧ (∀ c i, c ≠ 9 → R1.1 c i = R.1 c i) ∧ R1.2 = R.2) 21 R ⟨fun j hj => absurd hj (Nat.not_lt_zero j), fun _ _ _ => rfl, rfl⟩ (fun n R1 hI => ?_) (fun n i R1 hi hI ih => ?_)
  · rw [q_X7_asNow_2]
    exact br_t (show (21 : Int32) ≤ nI 21 by decide) (h R1 hI.1 hI.2.1 hI.2.2)
  · rw [q_X7_asNow_2, nI_clamp (by omega)]
    refine br_f (nI_ge (b := 21) hi (by decide)) ⟨vp_in_nI hi (by decide), ?_⟩
    intro u eu
    refine ⟨vp_in_nI hi (by decide), ?_⟩
    intro R2 e2 x ex
    rw [ex, nI_1]
    refine ih R2 ⟨fun j hj => ?_, fun c j hc => by rw [e2, sti_ne (fun q => hc q.1)]; exact hI.2.1 c j hc, by rw [e2, sti_22]; exact hI.2.2⟩
    rw [e2, sti_1]
    by_cases hji : j = i
    · rw [if_pos ⟨rfl, hji⟩, eu, hji, hI.2.1 8 i (by decide)]
    · rw [if_neg (fun q => hji q.2)]
      exact hI.1 j (by omega)
theorem r_trial_y {R R1 : CS} {f : Nat} {L : Nat → Nat} {post : CS → Prop} (hf : f < 8) (hF : R.1 8 6 = nI f) (hL : RB R 8 L) (hR : ∀ c i, c ≠ 9 → R1.1 c i = R.1 c i) (hR2 : R1.2 = R.2) (h : ∀ R2, TR R R2 (f, L) → post R2) : p_X7_asNow R1 post :=
  r_asNow_y (fun R2 a1 a2 a3 => h R2 ⟨⟨by rw [a1 6 (by decide), hR 8 6 (by decide)]; exact hF, hf⟩, fun i hi => ⟨by rw [a1 (7 + i) (by omega), hR 8 _ (by decide)]; exact (hL i hi).1, (hL i hi).2⟩, fun c i hc => by rw [a2 c i hc, hR c i hc], by rw [a3, hR2]⟩)
theorem r_step_y {R R1 : CS} {x : Nat} {p : Nat × (Nat → Nat)} {post : CS → Prop} (hx : x < 8) (hT : TR R R1 p) (h : ∀ R2, TR R R2 ((p.1 + x) % 8, sw p.2 p.1) → post R2) : p_X7_goes R1 (nI x) post := by
  obtain ⟨⟨t1, t2⟩, t3, t4, t5⟩ := hT
  unfold p_X7_goes
  refine r_sweep_y t2 t1 t3 (fun R2 a1 a2 a3 => ?_)
  rw [a2 9 6 (by omega), t1, nI_add, (fm_dec (p.1 + x) (by omega)).2]
  intro u eu R3 e3
  exact h R3 ⟨⟨by rw [e3, sti_eq, eu], Nat.mod_lt _ (by decide)⟩, fun i hi => ⟨by rw [e3, sti_ne (by omega)]; exact (a1 i hi).1, (a1 i hi).2⟩, fun c i hc => by rw [e3, sti_ne (fun q => hc q.1), a2 c i (Or.inl hc), t4 c i hc], by rw [e3, sti_22, a3, t5]⟩
/-! how often one may sweep -/
theorem sweepings_y {S S1 : CS} {x f c : Nat} {L : Nat → Nat} {post : Int32 → CS → Prop} (hx : x < 8) (hf : f < 8) (hF : S.1 (bo 1) 1 = nI f) (hL : Bes S 1 L) (hc : Cnt x f L c) (hc40 : c ≤ 40) (hS : ∀ c i, c ≠ bo 0 → c ≠ bl 0 → S1.1 c i = S.1 c i) (hS2 : S1.2 = S.2) (h : ∀ S2, TC S S2 (it x f L c) → post (nI c) S2) : p_X6_sweepingsBy S1 (nI x) post := by
  unfold p_X6_sweepingsBy
  refine trial_y hf (by rw [hS _ _ (by decide) (by decide)]; exact hF) (fun i hi => ⟨by rw [hS _ _ (by decide) (by decide)]; exact (hL i hi).1, (hL i hi).2⟩) (fun S2 hT => ?_)
  have hT0 : TC S S2 (it x f L 0) := ⟨hT.1, hT.2.1, fun c i p q => by rw [hT.2.2.1 c i p q, hS c i p q], by rw [hT.2.2.2, hS2]⟩
  refine loop_0 (fun n i S2 => q_X6_sweepingsBy_16 (nI x) post n (nI i) S2) (fun i S2 => TC S S2 (it x f L i)) c S2 hT0 (fun n S2 hI => ?_) (fun n i S2 hi hI ih => ?_)
  · rw [q_X6_sweepingsBy_16]
    exact br_f (nI_ge (b := 200) (by omega) (by decide)) (worn_y hI.2.1 (fun _ => c01 (h S2 hI)) (fun q => absurd hc.2 q))
  · rw [q_X6_sweepingsBy_16]
    refine br_f (nI_ge (b := 200) (by omega) (by decide)) (worn_y hI.2.1 (fun q => absurd q (hc.1 i hi)) (fun _ => c00 (step_y hx hI (fun S3 h3 => ?_))))
    intro y ey
    rw [ey, nI_1]
    exact ih S3 h3
theorem r_lastsBy_y {R R1 : CS} {x f c : Nat} {L : Nat → Nat} {post : Int32 → CS → Prop} (hx : x < 8) (hf : f < 8) (hF : R.1 8 6 = nI f) (hL : RB R 8 L) (hc : Cnt x f L c) (hR : ∀ c i, c ≠ 9 → R1.1 c i = R.1 c i) (hR2 : R1.2 = R.2) (h : ∀ R2, TR R R2 (it x f L c) → post (nI c) R2) : p_X7_lastsBy R1 (nI x) post := by
  unfold p_X7_lastsBy
  refine r_trial_y hf hF hL hR hR2 (fun R2 hT => ?_)
  refine loop_0 (fun n i R2 => q_X7_lastsBy_6 (nI x) post n (nI i) R2) (fun i R2 => TR R R2 (it x f L i)) c R2 hT (fun n R2 hI => ?_) (fun n i R2 hi hI ih => ?_)
  · rw [q_X7_lastsBy_6]
    exact r_worn_y hI.2.1 (fun _ => c01 (h R2 hI)) (fun q => absurd hc.2 q)
  · rw [q_X7_lastsBy_6]
    refine r_worn_y hI.2.1 (fun q => absurd q (hc.1 i hi)) (fun _ => c00 (r_step_y hx hI (fun R3 h3 => ?_)))
    intro y ey
    rw [ey, nI_1]
    exact ih R3 h3
theorem side_n {S : CS} {x : Int32} {post : Int32 → CS → Prop} (h : x < 0 ∨ nI 8 ≤ x) (hp : post 0 S) : p_X6_isSide S x post := by
  unfold p_X6_isSide
  rcases h with h | h
  · exact br_t h hp
  · exact ⟨fun _ => hp, fun _ => br_t h hp⟩
theorem side_y {S : CS} {j : Nat} {post : Int32 → CS → Prop} (h : j < 8) (hp : post 1 S) : p_X6_isSide S (nI j) post := by
  unfold p_X6_isSide
  exact br_f (nI_pos (by omega)) (br_f (nI_ge (b := 8) h (by decide)) hp)
theorem sim_lasts (k : Nat) (S R : CS) (x1 : Int32) (hk : k < 64) (h : Rel k S R) : p_X6_lasts S x1 (fun r S1 => p_X7_lasts R x1 (fun r2 R1 => r = r2 ∧ Rel (k + 1) S1 R1)) := by
  obtain ⟨d, t, pn, hW, ⟨ht1, ht2, ht3⟩, hC, hR, htr⟩ := h
  have hsm := Rel.sm hW ⟨ht1, ht2, ht3⟩ hC hR htr (CSm.rf S) (RSm.thr R 0)
  obtain ⟨b0, b1, b2, b3, b4, b5, b6, b7, b8⟩ := hW.2.2.1
  unfold p_X6_lasts
  rcases ix3 x1 (n := 8) (by decide) with hx | ⟨j, hj, rfl⟩
  · refine side_n hx (c00 ?_)
    unfold p_X7_lasts
    intro R1 e1
    subst e1
    exact in_nN (b := 7) hx (by decide) (c00 ⟨rfl, hsm⟩)
  · obtain ⟨c, c40, hc⟩ := cnt_ex (x := j) (L := fun i => d 8 (7 + i)) b6 b7
    refine side_y hj (c01 (sweepings_y (S := S) hj b6 (by rw [← hC.2.2.1 6 (by omega), mv_6]) (fun i hi => ⟨by rw [← hC.2.2.1 (7 + i) (by omega), mv_l _ _ hi], b7 i hi⟩) hc c40 (fun _ _ _ _ => rfl) rfl (fun S2 h2 => ?_)))
    unfold p_X7_lasts
    intro R1 e1
    subst e1
    exact in_yN (a := 0) (b := 7) (by omega) (by omega) (by decide) (c01 (r_lastsBy_y (R := sti R 0 0 0) hj b6 (RN.th hR.2.2.1 (by omega)) (fun i hi => ⟨RN.th hR.2.2.1 (by omega), b7 i hi⟩) hc (fun _ _ _ => rfl) rfl (fun R2 g2 => ⟨rfl, Rel.sm hW ⟨ht1, ht2, ht3⟩ hC hR htr h2.csm g2.rsm⟩)))
def am (C : Nat → Nat) : Nat → Nat
  | 0 => 0
  | i + 1 => if C (i + 1) ≤ C (am C i) then am C i else i + 1
theorem am_s (C : Nat → Nat) (i : Nat) : am C (i + 1) = if C (i + 1) ≤ C (am C i) then am C i else i + 1 := rfl
theorem am_le (C : Nat → Nat) : ∀ i, am C i ≤ i := by
  intro i
  induction i with
  | zero => exact Nat.le_refl 0
  | succ i ih =>
    rw [am_s]
    by_cases h : C (i + 1) ≤ C (am C i)
    · rw [if_pos h]; omega
    · rw [if_neg h]; omega
theorem sim_latest (k : Nat) (S R : CS) (hk : k < 64) (h : Rel k S R) : p_X6_latest S (fun r S1 => p_X7_latest R (fun r2 R1 => r = r2 ∧ Rel (k + 1) S1 R1)) := by
  obtain ⟨d, t, pn, hW, ⟨ht1, ht2, ht3⟩, hC, hR, htr⟩ := h
  obtain ⟨b0, b1, b2, b3, b4, b5, b6, b7, b8⟩ := hW.2.2.1
  have hF : S.1 (bo 1) 1 = nI (d 8 6) := by rw [← hC.2.2.1 6 (by omega), mv_6]
  have hL : Bes S 1 (fun i => d 8 (7 + i)) := fun i hi => ⟨by rw [← hC.2.2.1 (7 + i) (by omega), mv_l _ _ hi], b7 i hi⟩
  obtain ⟨C, hCn⟩ : ∃ C : Nat → Nat, ∀ x, C x ≤ 40 ∧ Cnt x (d 8 6) (fun i => d 8 (7 + i)) (C x) := ⟨fun x => Classical.choose (cnt_ex (x := x) (L := fun i => d 8 (7 + i)) b6 b7), fun x => Classical.choose_spec (cnt_ex (x := x) (L := fun i => d 8 (7 + i)) b6 b7)⟩
  unfold p_X6_latest
  refine loop_0 (σ := (Int32 × Int32) × CS) (fun n i s => q_X6_latest_6 _ n s.1.1 s.1.2 (nI i) s.2) (fun i s => ((i = 0 ∧ s.1 = (0, -1)) ∨ (∃ j, i = j + 1 ∧ s.1 = (nI (am C j), nI (C (am C j))))) ∧ (∀ c i, c ≠ bo 0 → c ≠ bl 0 → s.2.1 c i = S.1 c i) ∧ s.2.2 = S.2) 8 ((0, -1), S) ⟨Or.inl ⟨rfl, rfl⟩, fun _ _ _ _ => rfl, rfl⟩ (fun n s hI => ?_) (fun n i s hi hI ih => ?_)
  · rw [q_X6_latest_6]
    refine br_t (show (8 : Int32) ≤ nI 8 by decide) ?_
    obtain ⟨hb, hs1, hs2⟩ := hI
    rcases hb with ⟨q, -⟩ | ⟨j, q, e⟩
    · exact absurd q (by decide)
    · rw [e, show j = 7 by omega]
      have csm : CSm S s.2 := ⟨fun c j hc => hs1 c j (by unfold bo; omega) (by unfold bl; omega), hs2⟩
      unfold p_X7_latest
      intro R1 e1
      subst e1
      have hF' : (sti R 0 0 0).1 8 6 = nI (d 8 6) := RN.th hR.2.2.1 (by omega)
      have hL' : RB (sti R 0 0 0) 8 (fun i => d 8 (7 + i)) := fun i hi => ⟨RN.th hR.2.2.1 (by omega), b7 i hi⟩
      refine loop_0 (σ := Int32 × CS) (fun n i r => q_X7_latest_9 _ n r.1 (nI (i + 1)) r.2) (fun i r => r.1 = nI (am C i) ∧ (∀ c i, c ≠ 9 → r.2.1 c i = (sti R 0 0 0).1 c i) ∧ r.2.2 = R.2) 7 (0, sti R 0 0 0) ⟨rfl, fun _ _ _ => rfl, rfl⟩ (fun n r hI => ?_) (fun n i r hi hI ih => ?_)
      · rw [q_X7_latest_9]
        obtain ⟨r1, r2, r3⟩ := hI
        refine br_t (show (8 : Int32) ≤ nI (7 + 1) by decide) ⟨by rw [r1], Rel.sm hW ⟨ht1, ht2, ht3⟩ hC hR htr csm ⟨fun c j h0 h9 _ _ => by rw [r2 c j h9, sti_ne (fun q => h0 q.1)], fun j hj => by rw [r2 0 j (by decide), sti_ne (fun q => hj q.2)], r3⟩⟩
      · rw [q_X7_latest_9]
        obtain ⟨r1, r2, r3⟩ := hI
        have ha := am_le C i
        have hcc := hCn (am C i)
        have hcd := hCn (i + 1)
        refine br_f (nI_ge (b := 8) (by omega) (by decide)) (r_lastsBy_y (R := sti R 0 0 0) (by omega) b6 hF' hL' (hCn (i + 1)).2 r2 r3 (fun R2 g2 => ?_))
        rw [r1]
        refine r_lastsBy_y (R := sti R 0 0 0) (by omega) b6 hF' hL' (hCn (am C i)).2 g2.2.2.1 g2.2.2.2 (fun R3 g3 => ?_)
        by_cases hle : C (i + 1) ≤ C (am C i)
        · refine br_t (nI_le hle (by omega)) ?_
          intro y ey
          rw [ey, nI_1]
          exact ih (nI (am C i), R3) ⟨by rw [am_s, if_pos hle], g3.2.2.1, g3.2.2.2⟩
        · refine br_f (nI_ge (by omega) (by omega)) ?_
          intro y ey
          rw [ey, nI_1]
          exact ih (nI (i + 1), R3) ⟨by rw [am_s, if_neg hle], g3.2.2.1, g3.2.2.2⟩
  · rw [q_X6_latest_6]
    obtain ⟨hb, hs1, hs2⟩ := hI
    have hcd := hCn i
    refine br_f (nI_ge (b := 8) hi (by decide)) (sweepings_y (S := S) hi b6 hF hL (hCn i).2 (hCn i).1 hs1 hs2 (fun S2 g2 => ?_))
    rcases hb with ⟨q, e⟩ | ⟨j, q, e⟩
    · rw [e]
      refine br_f (fun q2 => ?_) ?_
      · rw [Int32.le_iff_toInt_le, nI_toInt (by omega)] at q2
        have : ((0 : Int32), (-1 : Int32)).2.toInt = -1 := rfl
        omega
      · intro y ey
        rw [ey, nI_1]
        exact ih ((nI i, nI (C i)), S2) ⟨Or.inr ⟨0, by omega, by rw [q]; rfl⟩, g2.2.2.1, g2.2.2.2⟩
    · rw [e]
      have hcc := hCn (am C j)
      by_cases hle : C i ≤ C (am C j)
      · refine br_t (nI_le hle (by omega)) ?_
        intro y ey
        rw [ey, nI_1]
        exact ih ((nI (am C j), nI (C (am C j))), S2) ⟨Or.inr ⟨j + 1, by omega, by rw [am_s, ← q, if_pos hle]⟩, g2.2.2.1, g2.2.2.2⟩
      · refine br_f (nI_ge (by omega) (by omega)) ?_
        intro y ey
        rw [ey, nI_1]
        exact ih ((nI i, nI (C i)), S2) ⟨Or.inr ⟨j + 1, by omega, by rw [am_s, ← q, if_neg hle]⟩, g2.2.2.1, g2.2.2.2⟩
