/-! common divisors -/
theorem gcd_st (a b : Nat) : Nat.gcd a b = Nat.gcd b (a % b) := by rw [Nat.gcd_comm a b, Nat.gcd_rec b a, Nat.gcd_comm]
theorem cd_e {S : CS} {x0 x1 : Int32} {post : Int32 → CS → Prop} {n a y : Nat} (hy : y < 64) (h : post (nI a) S) : q_X6_commonDivisor_7 x0 x1 post (n + 1) (nI a) (nI 0) (nI y) S := by
  rw [q_X6_commonDivisor_7]
  exact br_f (nI_ge (b := 64) hy (by decide)) (br_t rfl h)
theorem cd_s {S : CS} {x0 x1 : Int32} {post : Int32 → CS → Prop} {n a b y : Nat} (hy : y < 64) (ha : a < 2 ^ 31) (hb : b < 2 ^ 31) (hb0 : 0 < b) (h : q_X6_commonDivisor_7 x0 x1 post n (nI b) (nI (a % b)) (nI (y + 1)) S) : q_X6_commonDivisor_7 x0 x1 post (n + 1) (nI a) (nI b) (nI y) S := by
  rw [q_X6_commonDivisor_7]
  have hne : ¬ nI b = 0 := fun q => absurd ((nI_z hb).mp q) (by omega)
  refine br_f (nI_ge (b := 64) hy (by decide)) (br_f hne ⟨hne, ?_⟩)
  intro r er y' ey
  rw [er, ey, pk_rem ha hb0 hb, nI_1]
  exact h
theorem cd_n {S : CS} {x0 x1 : Int32} {post : Int32 → CS → Prop} : ∀ j a b y : Nat, b < 2 ^ j → a < 2 ^ 31 → b < 2 ^ 31 → y + 2 * j + 1 ≤ 64 → post (nI (Nat.gcd a b)) S → ∃ n, q_X6_commonDivisor_7 x0 x1 post n (nI a) (nI b) (nI y) S := by
  intro j
  induction j with
  | zero =>
    intro a b y hb ha hb2 hy h
    have b0 : b = 0 := by omega
    subst b0
    rw [Nat.gcd_zero_right] at h
    exact ⟨1, cd_e (by omega) h⟩
  | succ j ih =>
    intro a b y hb ha hb2 hy h
    rcases Nat.eq_zero_or_pos b with b0 | b0
    · subst b0
      rw [Nat.gcd_zero_right] at h
      exact ⟨1, cd_e (by omega) h⟩
    · rw [gcd_st] at h
      have hr : a % b < b := Nat.mod_lt _ b0
      rcases Nat.eq_zero_or_pos (a % b) with r0 | r0
      · rw [r0, Nat.gcd_zero_right] at h
        exact ⟨2, cd_s (by omega) ha hb2 b0 (by rw [r0]; exact cd_e (by omega) h)⟩
      · rw [gcd_st] at h
        have hs : b % (a % b) < 2 ^ j := by
          have h1 : b % (a % b) < a % b := Nat.mod_lt _ r0
          have h2 : b % (a % b) + (a % b) ≤ b := by
            have h3 := Nat.div_add_mod b (a % b)
            have h4 : 1 ≤ b / (a % b) := (Nat.one_le_div_iff r0).mpr (by omega)
            have h5 : a % b * 1 ≤ a % b * (b / (a % b)) := Nat.mul_le_mul_left _ h4
            omega
          rw [Nat.pow_succ] at hb
          omega
        have hs2 : b % (a % b) < a % b := Nat.mod_lt _ r0
        obtain ⟨n, hn⟩ := ih (a % b) (b % (a % b)) (y + 1 + 1) hs (by omega) (by omega) (by omega) h
        exact ⟨n + 2, cd_s (by omega) ha hb2 b0 (cd_s (by omega) hb2 (by omega) r0 hn)⟩
theorem cd_y {S : CS} {a b : Nat} {post : Int32 → CS → Prop} (ha : a < 2 ^ 31) (hb : b < 2 ^ 20) (h : post (nI (Nat.gcd a b)) S) : p_X6_commonDivisor S (nI a) (nI b) post := by
  unfold p_X6_commonDivisor
  exact cd_n 20 a b 0 hb ha (by omega) (by omega) h
theorem r_gcd_y {R : CS} {a b : Nat} {post : Int32 → CS → Prop} (ha : a < 2 ^ 31) (hb : b < 2 ^ 31) (h : post (nI (Nat.gcd a b)) R) : p_X7_gcd R (nI a) (nI b) post := by
  unfold p_X7_gcd
  have key : ∀ (x0 x1 : Int32) (m b a : Nat), b < m → a < 2 ^ 31 → b < 2 ^ 31 → post (nI (Nat.gcd a b)) R → ∃ n, q_X7_gcd_4 x0 x1 post n (nI a) (nI b) R := by
    intro x0 x1 m
    induction m with
    | zero => intro b a hb; exact absurd hb (Nat.not_lt_zero b)
    | succ m ih =>
      intro b a hbm ha hb h
      rcases Nat.eq_zero_or_pos b with b0 | b0
      · subst b0
        rw [Nat.gcd_zero_right] at h
        refine ⟨1, ?_⟩
        rw [q_X7_gcd_4]
        exact br_t rfl h
      · rw [gcd_st] at h
        have hr : a % b < b := Nat.mod_lt _ b0
        obtain ⟨n, hn⟩ := ih (a % b) b (by omega) hb (by omega) h
        refine ⟨n + 1, ?_⟩
        rw [q_X7_gcd_4]
        have hne : ¬ nI b = 0 := fun q => absurd ((nI_z hb).mp q) (by omega)
        refine br_f hne ⟨hne, ?_⟩
        intro r er
        rw [er, pk_rem ha b0 hb]
        exact hn
  exact key _ _ (b + 1) b a (by omega) ha hb h
theorem least_y {S : CS} {a b x : Nat} {post : Int32 → CS → Prop} (ha : a < 2 ^ 31) (hb0 : 0 < b) (hb : b < 2 ^ 20) (hx : x < 2) (h : post (nI ((if x = 0 then a else b) / Nat.gcd a b)) S) : p_X6_inLeastTerms S (nI a) (nI b) (nI x) post := by
  unfold p_X6_inLeastTerms q_X6_inLeastTerms_15
  have g0 : 0 < Nat.gcd a b := Nat.gcd_pos_of_pos_right a hb0
  have gb : Nat.gcd a b ≤ b := Nat.gcd_le_right a hb0
  have hne : ¬ nI (Nat.gcd a b) = 0 := fun q => absurd ((nI_z (by omega)).mp q) (by omega)
  refine cd_y ha hb ?_
  rcases (show x = 0 ∨ x = 1 by omega) with rfl | rfl
  · refine br_t rfl (br_t (nI_le (a := 1) g0 (by omega)) ⟨hne, ?_⟩)
    rw [pk_div ha g0 (by omega)]
    exact h
  · refine br_f (by decide) (br_t (nI_le (a := 1) g0 (by omega)) ⟨hne, ?_⟩)
    rw [pk_div (by omega) g0 (by omega)]
    exact h
/-! the best turn -/
def bt (r : Int32) : Nat → Nat
  | 0 => 1
  | i + 1 => if gfI 1 (nI (i + 2)) r * nI (bt r i) ≤ gfI 1 (nI (bt r i)) r * nI (i + 2) then bt r i else i + 2
theorem bt_s (r : Int32) (i : Nat) : bt r (i + 1) = if gfI 1 (nI (i + 2)) r * nI (bt r i) ≤ gfI 1 (nI (bt r i)) r * nI (i + 2) then bt r i else i + 2 := rfl
theorem g1_dec : ∀ a, a < 31 → ∀ r, r < 16 → gfI 1 (nI a) (nI r) = nI (gN 1 a r) ∧ gN 1 a r < 31 := by decide +kernel
theorem sim_turn (k : Nat) (S R : CS) (x1 x2 : Int32) (hk : k < 64) (h : Rel k S R) : p_X6_turn S x1 x2 (fun r S1 => p_X7_turn R x1 x2 (fun r2 R1 => r = r2 ∧ Rel (k + 1) S1 R1)) := by
  obtain ⟨d, t, pn, hW, ⟨ht1, ht2, ht3⟩, hC, hR, htr⟩ := h
  have hsm := Rel.sm hW ⟨ht1, ht2, ht3⟩ hC hR htr (CSm.rf S) (RSm.thr R 0)
  have hrp := hW.2.1.2.2.1
  have e22 : (sti R 0 0 0).1 2 2 = nI (d 2 2) := by rw [sti_ne (by omega)]; exact hR.2.1.1 2 (by decide)
  have hripe : S.1 (tv t) (6 * 5 + 0) = nI (d 2 2) := hC.2.1.2.2.1
  unfold p_X6_turn
  rcases rng x1 1 30 (by decide) (by decide) with hx | ⟨a, a1, a30, rfl⟩
  · have fin : p_X7_turn R x1 x2 (fun r2 R1 => -1 = r2 ∧ Rel (k + 1) S R1) := by
      unfold p_X7_turn
      intro R1 e1
      subst e1
      exact in_n hx (c00 ⟨rfl, hsm⟩)
    rcases hx with hx | hx
    · exact br_t hx fin
    · exact ⟨fun _ => fin, fun _ => br_t hx fin⟩
  · refine br_f (nI_nlt (a := a) (b := 1) a1 (by omega)) (br_f (show ¬ (30 : Int32) < nI a from nI_nlt (a := 30) (b := a) a30 (by decide)) ?_)
    rcases rng x2 0 2 (by decide) (by decide) with hx | ⟨x, -, x2', rfl⟩
    · have fin : p_X7_turn R (nI a) x2 (fun r2 R1 => -1 = r2 ∧ Rel (k + 1) S R1) := by
        unfold p_X7_turn
        intro R1 e1
        subst e1
        exact in_yN (a := 1) (b := 30) a1 a30 (by decide) (c01 (in_n hx (c00 ⟨rfl, hsm⟩)))
      rcases hx with hx | hx
      · exact br_t hx fin
      · exact ⟨fun _ => fin, fun _ => br_f (nle_of_lt hx) fin⟩
    · refine br_f (nI_pos (by omega)) (br_t (nI_le (b := 2) x2' (by decide)) ?_)
      obtain ⟨g1, g2⟩ := g1_dec a (by omega) (d 2 2) (by omega)
      -- the reference, whatever it is asked
      have ref : ∀ v : Int32, v = (if x = 2 then nI (bt (nI (d 2 2)) 29) else nI ((if x = 0 then gN 1 a (d 2 2) else a) / Nat.gcd (gN 1 a (d 2 2)) a)) → p_X7_turn R (nI a) (nI x) (fun r2 R1 => v = r2 ∧ Rel (k + 1) S R1) := by
        intro v hv
        unfold p_X7_turn
        intro R1 e1
        subst e1
        refine in_yN (a := 1) (b := 30) a1 a30 (by decide) (c01 (in_yN (a := 0) (b := 2) (by omega) x2' (by decide) (c01 ?_)))
        refine loop_0 (σ := Int32) (fun n i y => q_X7_turn_31 (nI a) (nI x) _ n y (nI (i + 2)) (sti R 0 0 0)) (fun i y => y = nI (bt (nI (d 2 2)) i)) 29 1 rfl (fun n y hI => ?_) (fun n i y hi hI ih => ?_)
        · rw [q_X7_turn_31, hI]
          refine br_t (show (30 : Int32) < nI (29 + 2) by decide) (r_givesAt_y ?_)
          rw [e22, g1]
          refine r_gcd_y (by omega) (by omega) ?_
          have g0 : 0 < Nat.gcd (gN 1 a (d 2 2)) a := Nat.gcd_pos_of_pos_right _ a1
          have gb : Nat.gcd (gN 1 a (d 2 2)) a ≤ a := Nat.gcd_le_right _ a1
          have hne : ¬ nI (Nat.gcd (gN 1 a (d 2 2)) a) = 0 := fun q => absurd ((nI_z (by omega)).mp q) (by omega)
          rcases (show x = 0 ∨ x = 1 ∨ x = 2 by omega) with rfl | rfl | rfl
          · refine br_t rfl (r_givesAt_y ?_)
            rw [e22, g1, pk_div (by omega) g0 (by omega)]
            exact ⟨hne, hv, hsm⟩
          · refine br_f (by decide) (br_t rfl ⟨hne, ?_⟩)
            rw [pk_div (by omega) g0 (by omega)]
            exact ⟨hv, hsm⟩
          · exact br_f (by decide) (br_f (by decide) ⟨hv, hsm⟩)
        · rw [q_X7_turn_31, hI]
          refine br_f (show ¬ (30 : Int32) < nI (i + 2) from nI_nlt (a := 30) (b := i + 2) (by omega) (by decide)) (r_givesAt_y (r_givesAt_y ?_))
          rw [e22]
          refine ⟨fun c => ?_, fun c => ?_⟩
          · intro z ez
            rw [ez, nI_1]
            exact ih _ (by rw [bt_s, if_pos c])
          · intro z ez
            rw [ez, nI_1]
            exact ih _ (by rw [bt_s, if_neg c])
      by_cases hx2 : x = 2
      · subst hx2
        refine br_t rfl ?_
        unfold p_X6_bestTurn p_X5_ripe
        refine ⟨by omega, value_y (row := 5) (i := 0) (by decide) (by decide) (gift_y ?_)⟩
        rw [ht2, hripe]
        refine loop_0 (σ := Int32 × Int32) (fun n i s => q_X6_bestTurn_17 _ n s.1 s.2 (nI (i + 2)) S) (fun i s => s.1 = nI (bt (nI (d 2 2)) i) ∧ s.2 = gfI 1 (nI (bt (nI (d 2 2)) i)) (nI (d 2 2))) 29 (1, gfI 1 1 (nI (d 2 2))) ⟨rfl, rfl⟩ (fun n s hI => ?_) (fun n i s hi hI ih => ?_)
        · rw [q_X6_bestTurn_17, hI.1]
          exact br_t (show (30 : Int32) < nI (29 + 2) by decide) (ref _ (by rw [if_pos rfl]))
        · rw [q_X6_bestTurn_17, hI.1, hI.2]
          unfold p_X5_ripe
          refine br_f (show ¬ (30 : Int32) < nI (i + 2) from nI_nlt (a := 30) (b := i + 2) (by omega) (by decide)) ⟨by omega, value_y (row := 5) (i := 0) (by decide) (by decide) (gift_y ?_)⟩
          rw [ht2, hripe]
          refine ⟨fun c => ?_, fun c => ?_⟩
          · intro z ez
            rw [ez, nI_1]
            exact ih (nI (bt (nI (d 2 2)) i), gfI 1 (nI (bt (nI (d 2 2)) i)) (nI (d 2 2))) (by rw [bt_s, if_pos c]; exact ⟨rfl, rfl⟩)
          · intro z ez
            rw [ez, nI_1]
            exact ih (nI (i + 2), gfI 1 (nI (i + 2)) (nI (d 2 2))) (by rw [bt_s, if_neg c]; exact ⟨rfl, rfl⟩)
      · refine br_f (fun q => absurd ((nI_eq (b := 2) (by omega) (by decide)).mp q) hx2) ?_
        unfold p_X5_ripe
        refine ⟨by omega, value_y (row := 5) (i := 0) (by decide) (by decide) (gift_y ?_)⟩
        rw [ht2, hripe, g1]
        exact least_y (by omega) a1 (by omega) (by omega) (ref _ (by rw [if_neg hx2]))
