/-! which order next -/
def AH (d : Dat) (x o b : Nat) : Prop := if x = 0 then ¬ nI (d 5 b) ≤ nI (d 5 o) else ¬ nI (d 7 o) * nI (d 6 b) ≤ nI (d 7 b) * nI (d 6 o)
theorem AH_0 (d : Dat) (o b : Nat) : AH d 0 o b ↔ ¬ nI (d 5 b) ≤ nI (d 5 o) := Iff.rfl
theorem AH_1 (d : Dat) (o b : Nat) : AH d 1 o b ↔ ¬ nI (d 7 o) * nI (d 6 b) ≤ nI (d 7 b) * nI (d 6 o) := Iff.rfl
def Snt (d : Dat) (o : Nat) : Prop := ((nI (d 8 5) >>> (nI o &&& 31)) &&& 1) = 1
/-- b is the next among the orders below o -/
def Nx (d : Dat) (x : Nat) : Nat → Option Nat → Prop
  | 0, r => r = none
  | o + 1, r => ∃ q, Nx d x o q ∧ ((Snt d o ∧ r = q) ∨ (¬ Snt d o ∧ ((q = none ∧ r = some o) ∨ ∃ b, q = some b ∧ ((AH d x o b ∧ r = some o) ∨ (¬ AH d x o b ∧ r = some b)))))
theorem Nx_lt {d : Dat} {x : Nat} : ∀ o r, Nx d x o r → ∀ b, r = some b → b < o := by
  intro o
  induction o with
  | zero =>
    intro r h b hb
    rw [show r = none from h] at hb
    exact nomatch hb
  | succ o ih =>
    rintro r ⟨q, h1, h2⟩ b hb
    rcases h2 with ⟨-, e⟩ | ⟨-, ⟨-, e⟩ | ⟨b', e1, ⟨-, e⟩ | ⟨-, e⟩⟩⟩
    · have := ih q h1 b (by rw [← e, hb])
      omega
    · rw [e] at hb; cases hb; omega
    · rw [e] at hb; cases hb; omega
    · rw [e] at hb; cases hb
      have := ih q h1 b e1
      omega
theorem Nx_f {d : Dat} {x : Nat} : ∀ o r r', Nx d x o r → Nx d x o r' → r = r' := by
  intro o
  induction o with
  | zero =>
    intro r r' h h'
    rw [show r = none from h, show r' = none from h']
  | succ o ih =>
    rintro r r' ⟨q, h1, h2⟩ ⟨q', h1', h2'⟩
    have eq := ih q q' h1 h1'
    subst eq
    rcases h2 with ⟨s, e⟩ | ⟨s, ⟨n, e⟩ | ⟨b, e1, ⟨a, e⟩ | ⟨a, e⟩⟩⟩ <;> rcases h2' with ⟨s', e'⟩ | ⟨s', ⟨n', e'⟩ | ⟨b', e1', ⟨a', e'⟩ | ⟨a', e'⟩⟩⟩ <;> first | exact absurd s s' | exact absurd s' s | (rw [e, e']; done) | (rw [n] at e1'; exact nomatch e1') | (rw [n'] at e1; exact nomatch e1) | (rw [e1] at e1'; cases e1'; first | exact absurd a a' | exact absurd a' a | rw [e, e'])
theorem ahead_y {S : CS} {d : Dat} {t x o b : Nat} {post : Int32 → CS → Prop} (ht1 : t < 2) (ht2 : S.2.1 = t) (hD : CD d t S.1) (hO : d 2 1 ≤ 6) (hx : x < 2) (ho : o < d 2 1) (hb : b < d 2 1) (h1 : AH d x o b → post 1 S) (h0 : ¬ AH d x o b → post 0 S) : p_X6_goesAhead S (nI o) (nI b) (nI x) post := by
  obtain ⟨v1, v2, v3⟩ := hD.2.2.2.2.2.2.2 o ho
  obtain ⟨w1, w2, w3⟩ := hD.2.2.2.2.2.2.2 b hb
  unfold p_X6_goesAhead
  rcases (show x = 0 ∨ x = 1 by omega) with rfl | rfl
  · refine br_t rfl ⟨by omega, value_y (row := 2) (by decide) (by omega) ⟨by omega, value_y (row := 2) (by decide) (by omega) ?_⟩⟩
    rw [ht2, show S.1 (tv t) (6 * 2 + o) = nI (d 5 o) from v1, show S.1 (tv t) (6 * 2 + b) = nI (d 5 b) from w1]
    exact ⟨fun c => h0 (fun q => (AH_0 d o b).mp q c), fun c => h1 ((AH_0 d o b).mpr c)⟩
  · refine br_f (by decide) ⟨by omega, value_y (row := 4) (by decide) (by omega) ⟨by omega, value_y (row := 3) (by decide) (by omega) ⟨by omega, value_y (row := 4) (by decide) (by omega) ⟨by omega, value_y (row := 3) (by decide) (by omega) ?_⟩⟩⟩⟩
    rw [ht2, show S.1 (tv t) (6 * 4 + o) = nI (d 7 o) from v3, show S.1 (tv t) (6 * 3 + b) = nI (d 6 b) from w2, show S.1 (tv t) (6 * 4 + b) = nI (d 7 b) from w3, show S.1 (tv t) (6 * 3 + o) = nI (d 6 o) from v2]
    exact ⟨fun c => h0 (fun q => (AH_1 d o b).mp q c), fun c => h1 ((AH_1 d o b).mpr c)⟩
theorem sim_next (k : Nat) (S R : CS) (x1 : Int32) (hk : k < 64) (h : Rel k S R) : p_X6_next S x1 (fun r S1 => p_X7_next R x1 (fun r2 R1 => r = r2 ∧ Rel (k + 1) S1 R1)) := by
  obtain ⟨d, t, pn, hW, ⟨ht1, ht2, ht3⟩, hC, hR, htr⟩ := h
  have hsm := Rel.sm hW ⟨ht1, ht2, ht3⟩ hC hR htr (CSm.rf S) (RSm.thr R 0)
  have hO := hW.2.1.2.1
  have c5 : S.1 (mo 0) 6 = nI (d 8 5) := by rw [← hC.2.2.1 5 (by omega), mv_5]
  have hD' : RD d (sti R 0 0 0).1 := hR.2.1.th
  have g5 : (sti R 0 0 0).1 8 5 = nI (d 8 5) := RN.th hR.2.2.1 (by omega)
  unfold p_X6_next
  rcases rng x1 0 1 (by decide) (by decide) with hx | ⟨x, -, hx1, rfl⟩
  · have fin : p_X7_next R x1 (fun r2 R1 => -1 = r2 ∧ Rel (k + 1) S R1) := by
      unfold p_X7_next
      intro R1 e1
      subst e1
      exact in_n hx (c00 ⟨rfl, hsm⟩)
    rcases hx with hx | hx
    · exact br_t hx fin
    · exact ⟨fun _ => fin, fun _ => br_f (nle_of_lt hx) fin⟩
  · refine br_f (nI_pos (by omega)) (br_t (nI_le (b := 1) hx1 (by decide)) ?_)
    refine loop_0 (σ := Int32) (fun n o y => q_X6_next_16 (nI x) _ n y (nI o) S) (fun o y => ∃ r, Nx d x o r ∧ y = oI r) (d 2 1) (-9) ⟨none, rfl, rfl⟩ (fun n y hI => ?_) (fun n o y ho hI ih => ?_)
    · obtain ⟨r, hr, hy⟩ := hI
      rw [q_X6_next_16]
      unfold p_X5_orders
      rw [ht2, hC.2.1.2.1, hy]
      refine ⟨ht1, br_t (nI_le (Nat.le_refl _) (by omega)) ?_⟩
      unfold p_X7_next
      intro R1 e1
      subst e1
      refine in_yN (a := 0) (b := 1) (by omega) hx1 (by decide) (c01 ?_)
      refine loop_0 (σ := Int32) (fun n o y => q_X7_next_21 (nI x) _ n y (nI o) (sti R 0 0 0)) (fun o y => ∃ r, Nx d x o r ∧ y = oI r) (d 2 1) (-9) ⟨none, rfl, rfl⟩ (fun n y hI => ?_) (fun n o y ho hI ih => ?_)
      · obtain ⟨r', hr', hy'⟩ := hI
        rw [q_X7_next_21, hD'.1 1 (by decide), hy']
        exact br_t (nI_le (Nat.le_refl _) (by omega)) ⟨by rw [Nx_f _ _ _ hr hr'], hsm⟩
      · obtain ⟨q, hq, hy'⟩ := hI
        rw [q_X7_next_21, hD'.1 1 (by decide), hy']
        refine br_f (nI_ge ho (by omega)) ?_
        -- what the end does
        have yes : (q = none ∨ ∃ b, q = some b ∧ AH d x o b) → q_X7_next_93 (nI x) (fun y2' y3' S9 => q_X7_next_21 (nI x) (fun r2 R1 => oI r = r2 ∧ Rel (k + 1) S R1) n y2' y3' S9) (fun r2 R1 => oI r = r2 ∧ Rel (k + 1) S R1) (oI q) (nI o) 1 (sti R 0 0 0) := by
          intro hc
          unfold q_X7_next_93 p_X7_isSent
          rw [g5]
          refine c01 ⟨fun c => c01 ?_, fun c => c00 ?_⟩
          · intro z ez
            rw [ez, nI_1]
            exact ih _ ⟨q, ⟨q, hq, Or.inl ⟨c, rfl⟩⟩, rfl⟩
          · intro z ez
            rw [ez, nI_1]
            refine ih _ ⟨some o, ⟨q, hq, Or.inr ⟨c, ?_⟩⟩, rfl⟩
            rcases hc with e | ⟨b, e, a⟩
            · exact Or.inl ⟨e, rfl⟩
            · exact Or.inr ⟨b, e, Or.inl ⟨a, rfl⟩⟩
        have no : (∃ b, q = some b ∧ ¬ AH d x o b) → q_X7_next_93 (nI x) (fun y2' y3' S9 => q_X7_next_21 (nI x) (fun r2 R1 => oI r = r2 ∧ Rel (k + 1) S R1) n y2' y3' S9) (fun r2 R1 => oI r = r2 ∧ Rel (k + 1) S R1) (oI q) (nI o) 0 (sti R 0 0 0) := by
          rintro ⟨b, e, a⟩
          unfold q_X7_next_93
          refine c00 ?_
          intro z ez
          rw [ez, nI_1]
          refine ih _ ⟨q, ⟨q, hq, ?_⟩, rfl⟩
          by_cases s : Snt d o
          · exact Or.inl ⟨s, rfl⟩
          · exact Or.inr ⟨s, Or.inr ⟨b, e, Or.inr ⟨a, e⟩⟩⟩
        cases hqc : q with
        | none =>
          rw [hqc] at yes
          exact br_t rfl (yes (Or.inl rfl))
        | some b =>
          rw [hqc] at yes no
          have hbo := Nx_lt o q hq b hqc
          obtain ⟨r1, r2, r3⟩ := hD'.2.2 o ho
          obtain ⟨s1, s2, s3⟩ := hD'.2.2 b (by omega)
          refine br_f (ne9 b (by omega)) ?_
          rcases (show x = 0 ∨ x = 1 by omega) with rfl | rfl
          · refine br_t rfl ⟨vp_in_nI (by omega) (by decide), vp_in_nI (show b < 12 by omega) (by decide), ?_⟩
            rw [show (oI (some b)).toNatClampNeg = b from nI_clamp (by omega), nI_clamp (by omega), r1, s1]
            exact ⟨fun c => no ⟨b, rfl, fun z => (AH_0 d o b).mp z c⟩, fun c => yes (Or.inr ⟨b, rfl, (AH_0 d o b).mpr c⟩)⟩
          · refine br_f (by decide) ⟨vp_in_nI (by omega) (by decide), vp_in_nI (show b < 12 by omega) (by decide), vp_in_nI (show b < 12 by omega) (by decide), vp_in_nI (by omega) (by decide), ?_⟩
            rw [show (oI (some b)).toNatClampNeg = b from nI_clamp (by omega), nI_clamp (by omega), r2, r3, s2, s3]
            exact ⟨fun c => no ⟨b, rfl, fun z => (AH_1 d o b).mp z c⟩, fun c => yes (Or.inr ⟨b, rfl, (AH_1 d o b).mpr c⟩)⟩
    · obtain ⟨q, hq, hy⟩ := hI
      rw [q_X6_next_16]
      unfold p_X5_orders
      rw [ht2, hC.2.1.2.1, hy]
      refine ⟨ht1, br_f (nI_ge ho (by omega)) ?_⟩
      unfold p_X1_wasSent
      rw [c5]
      refine ⟨fun c => c01 ?_, fun c => c00 ?_⟩
      · intro z ez
        rw [ez, nI_1]
        exact ih _ ⟨q, ⟨q, hq, Or.inl ⟨c, rfl⟩⟩, rfl⟩
      · cases hqc : q with
        | none =>
          refine br_t (show (-9 : Int32) < 0 by decide) ?_
          intro z ez
          rw [ez, nI_1]
          exact ih _ ⟨some o, ⟨q, hq, Or.inr ⟨c, Or.inl ⟨hqc, rfl⟩⟩⟩, rfl⟩
        | some b =>
          have hbo := Nx_lt o q hq b hqc
          refine br_f (show ¬ nI b < 0 from nI_pos (by omega)) (ahead_y ht1 ht2 hC.2.1 hO (by omega) ho (by omega) (fun a => c01 ?_) (fun a => c00 ?_))
          · intro z ez
            rw [ez, nI_1]
            exact ih _ ⟨some o, ⟨q, hq, Or.inr ⟨c, Or.inr ⟨b, hqc, Or.inl ⟨a, rfl⟩⟩⟩⟩, rfl⟩
          · intro z ez
            rw [ez, nI_1]
            exact ih _ ⟨some b, ⟨q, hq, Or.inr ⟨c, Or.inr ⟨b, hqc, Or.inr ⟨a, rfl⟩⟩⟩⟩, rfl⟩
