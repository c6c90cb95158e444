/-! which orders can be kept -/
def Bit (m o : Nat) : Prop := ((nI m >>> (nI o &&& 31)) &&& 1) = 1
theorem bit01 : ∀ m, m < 64 → ∀ o, o < 6 → (((nI m >>> (nI o &&& 31)) &&& 1) = 0 ↔ ¬ ((nI m >>> (nI o &&& 31)) &&& 1) = 1) := by decide +kernel
theorem bit00 : ∀ o, o < 6 → ¬ ((nI 0 >>> (nI o &&& 31)) &&& 1) = 1 := by decide +kernel
/-- coins of a set -/
def co (d : Dat) (m : Nat) : Nat → Nat
  | 0 => 0
  | n + 1 => if ((nI m >>> (nI n &&& 31)) &&& 1) = 1 then co d m n + d 7 n else co d m n
theorem co_s (d : Dat) (m n : Nat) : co d m (n + 1) = if ((nI m >>> (nI n &&& 31)) &&& 1) = 1 then co d m n + d 7 n else co d m n := rfl
theorem co_le {d : Dat} (hW : WD d) (m : Nat) : ∀ n, n ≤ d 2 1 → co d m n ≤ 99 * n := by
  intro n
  induction n with
  | zero => exact fun _ => Nat.le_refl 0
  | succ n ih =>
    intro hn
    have h1 := ih (by omega)
    have h2 := (hW.2.2.2.2.2.2.2 n (by omega)).2.2
    rw [co_s]
    by_cases c : ((nI m >>> (nI n &&& 31)) &&& 1) = 1
    · rw [if_pos c]; omega
    · rw [if_neg c]; omega
theorem co_0 (d : Dat) : ∀ n, n ≤ 6 → co d 0 n = 0 := by
  intro n
  induction n with
  | zero => exact fun _ => rfl
  | succ n ih =>
    intro hn
    rw [co_s, if_neg (bit00 n (by omega))]
    exact ih (by omega)
theorem coins_y {S : CS} {t m : Nat} {d : Dat} {post : Int32 → CS → Prop} (hO : d 2 1 ≤ 6) (ht1 : t < 2) (ht2 : S.2.1 = t) (hD : CD d t S.1) (h : post (nI (co d m (d 2 1))) S) : p_X6_coinsOf S (nI m) post := by
  unfold p_X6_coinsOf
  refine loop_0 (σ := Int32) (fun n o y => q_X6_coinsOf_4 (nI m) post n y (nI o) S) (fun o y => y = nI (co d m o)) (d 2 1) 0 rfl (fun n y hI => ?_) (fun n o y ho hI ih => ?_)
  · rw [q_X6_coinsOf_4]
    unfold p_X5_orders
    rw [ht2, hD.2.1, hI]
    exact ⟨ht1, br_t (nI_le (Nat.le_refl _) (by omega)) h⟩
  · rw [q_X6_coinsOf_4]
    unfold p_X5_orders
    rw [ht2, hD.2.1, hI]
    refine ⟨ht1, br_f (nI_ge ho (by omega)) ⟨fun c => ⟨by omega, value_y (row := 4) (by decide) (by omega) ?_⟩, fun c => ?_⟩⟩
    · intro y' ey x ex
      rw [ht2, show S.1 (tv t) (6 * 4 + o) = nI (d 7 o) from (hD.2.2.2.2.2.2.2 o ho).2.2, nI_add] at ey
      rw [ex, nI_1]
      exact ih _ (by rw [co_s, if_pos c]; exact ey)
    · intro x ex
      rw [ex, nI_1]
      exact ih _ (by rw [co_s, if_neg c])
theorem r_coins_y {R : CS} {m : Nat} {d : Dat} {post : Int32 → CS → Prop} (hO : d 2 1 ≤ 6) (hD : RD d R.1) (h : post (nI (co d m (d 2 1))) R) : p_X7_coinsOf R (nI m) post := by
  unfold p_X7_coinsOf
  refine loop_0 (σ := Int32) (fun n o y => q_X7_coinsOf_4 (nI m) post n y (nI o) R) (fun o y => y = nI (co d m o)) (d 2 1) 0 rfl (fun n y hI => ?_) (fun n o y ho hI ih => ?_)
  · rw [q_X7_coinsOf_4, hD.1 1 (by decide), hI]
    exact br_t (nI_le (Nat.le_refl _) (by omega)) h
  · rw [q_X7_coinsOf_4, hD.1 1 (by decide), hI, nI_clamp (by omega), (hD.2.2 o ho).2.2]
    refine br_f (nI_ge ho (by omega)) ⟨fun c => ⟨vp_in_nI (by omega) (by decide), ?_⟩, fun c => ?_⟩
    · intro y' ey x ex
      rw [nI_add] at ey
      rw [ex, nI_1]
      exact ih _ (by rw [co_s, if_pos c]; exact ey)
    · intro y' ey x ex
      rw [ex, nI_1]
      exact ih _ (by rw [co_s, if_neg c, ey, Int32.add_zero])
/-- besoms of a set due by a day -/
def DB (d : Dat) (m T : Nat) : Nat → Nat
  | 0 => 0
  | n + 1 => if ((nI m >>> (nI n &&& 31)) &&& 1) = 1 ∧ d 5 n ≤ T then DB d m T n + d 6 n else DB d m T n
theorem DB_s (d : Dat) (m T n : Nat) : DB d m T (n + 1) = if ((nI m >>> (nI n &&& 31)) &&& 1) = 1 ∧ d 5 n ≤ T then DB d m T n + d 6 n else DB d m T n := rfl
theorem DB_le {d : Dat} (hW : WD d) (m T : Nat) : ∀ n, n ≤ d 2 1 → DB d m T n ≤ 60 * n := by
  intro n
  induction n with
  | zero => exact fun _ => Nat.le_refl 0
  | succ n ih =>
    intro hn
    have h1 := ih (by omega)
    have h2 := (hW.2.2.2.2.2.2.2 n (by omega)).2.1.2
    rw [DB_s]
    by_cases c : ((nI m >>> (nI n &&& 31)) &&& 1) = 1 ∧ d 5 n ≤ T
    · rw [if_pos c]; omega
    · rw [if_neg c]; omega
theorem DB_60 {d : Dat} (hW : WD d) (m T : Nat) : ∀ n, n ≤ d 2 1 → DB d m T n ≤ DB d m 60 n ∧ ((∀ o, o < n → Bit m o → d 5 o ≤ T) → DB d m T n = DB d m 60 n) := by
  intro n
  induction n with
  | zero => exact fun _ => ⟨Nat.le_refl 0, fun _ => rfl⟩
  | succ n ih =>
    intro hn
    have h1 := ih (by omega)
    have h2 := (hW.2.2.2.2.2.2.2 n (by omega)).1.2
    rw [DB_s, DB_s]
    by_cases b : ((nI m >>> (nI n &&& 31)) &&& 1) = 1
    · rw [if_pos (show ((nI m >>> (nI n &&& 31)) &&& 1) = 1 ∧ d 5 n ≤ 60 from ⟨b, h2⟩)]
      by_cases c : d 5 n ≤ T
      · rw [if_pos ⟨b, c⟩]
        exact ⟨Nat.add_le_add_right h1.1 _, fun q => by rw [h1.2 (fun o ho => q o (by omega))]⟩
      · rw [if_neg (fun q => c q.2)]
        exact ⟨Nat.le_trans h1.1 (Nat.le_add_right _ _), fun q => absurd (q n (by omega) b) c⟩
    · rw [if_neg (fun q => b q.1), if_neg (fun q => b q.1)]
      exact ⟨h1.1, fun q => h1.2 (fun o ho => q o (by omega))⟩
theorem due_y {S : CS} {t m T : Nat} {d : Dat} {post : Int32 → CS → Prop} (hW : WD d) (hT : T < 2 ^ 31) (ht1 : t < 2) (ht2 : S.2.1 = t) (hD : CD d t S.1) (h : post (nI (DB d m T (d 2 1))) S) : p_X6_besomsDueBy S (nI m) (nI T) post := by
  have hO := hW.2.1
  unfold p_X6_besomsDueBy
  refine loop_0 (σ := Int32) (fun n o y => q_X6_besomsDueBy_5 (nI m) (nI T) post n y (nI o) S) (fun o y => y = nI (DB d m T o)) (d 2 1) 0 rfl (fun n y hI => ?_) (fun n o y ho hI ih => ?_)
  · rw [q_X6_besomsDueBy_5]
    unfold p_X5_orders
    rw [ht2, hD.2.1, hI]
    exact ⟨ht1, br_t (nI_le (Nat.le_refl _) (by omega)) h⟩
  · obtain ⟨v1, v2, v3⟩ := hD.2.2.2.2.2.2.2 o ho
    have h5 := (hW.2.2.2.2.2.2.2 o ho).1.2
    rw [q_X6_besomsDueBy_5]
    unfold p_X5_orders
    rw [ht2, hD.2.1, hI]
    refine ⟨ht1, br_f (nI_ge ho (by omega)) ⟨fun c => ⟨by omega, value_y (row := 2) (by decide) (by omega) ?_⟩, fun c => ?_⟩⟩
    · rw [ht2, show S.1 (tv t) (6 * 2 + o) = nI (d 5 o) from v1]
      refine ⟨fun q => ?_, fun q => ⟨by omega, value_y (row := 3) (by decide) (by omega) ?_⟩⟩
      · have hq : T < d 5 o := (nI_ltI (by omega) (by omega)).mp q
        intro x ex
        rw [ex, nI_1]
        exact ih _ (by rw [DB_s, if_neg (by omega)])
      · have hq : d 5 o ≤ T := by
          rcases Nat.lt_or_ge T (d 5 o) with z | z
          · exact absurd (nI_lt z (by omega)) q
          · exact z
        intro y' ey x ex
        rw [show S.1 (tv t) (6 * 3 + o) = nI (d 6 o) from v2, nI_add] at ey
        rw [ex, nI_1]
        exact ih _ (by rw [DB_s, if_pos ⟨c, hq⟩]; exact ey)
    · intro x ex
      rw [ex, nI_1]
      exact ih _ (by rw [DB_s, if_neg (fun q => c q.1)])
theorem r_due_y {R : CS} {m T : Nat} {d : Dat} {post : Int32 → CS → Prop} (hW : WD d) (hT : T < 2 ^ 31) (hD : RD d R.1) (h : post (nI (DB d m T (d 2 1))) R) : p_X7_besomsBy R (nI m) (nI T) post := by
  have hO := hW.2.1
  unfold p_X7_besomsBy
  refine loop_0 (σ := Int32) (fun n o y => q_X7_besomsBy_5 (nI m) (nI T) post n y (nI o) R) (fun o y => y = nI (DB d m T o)) (d 2 1) 0 rfl (fun n y hI => ?_) (fun n o y ho hI ih => ?_)
  · rw [q_X7_besomsBy_5, hD.1 1 (by decide), hI]
    exact br_t (nI_le (Nat.le_refl _) (by omega)) h
  · obtain ⟨r1, r2, r3⟩ := hD.2.2 o ho
    have h5 := (hW.2.2.2.2.2.2.2 o ho).1.2
    rw [q_X7_besomsBy_5, hD.1 1 (by decide), hI, nI_clamp (by omega), r1, r2]
    unfold q_X7_besomsBy_48
    refine br_f (nI_ge ho (by omega)) ⟨fun c => ⟨vp_in_nI (by omega) (by decide), fun q => ?_, fun q => ⟨vp_in_nI (by omega) (by decide), ?_⟩⟩, fun c => ?_⟩
    · have hq : T < d 5 o := (nI_ltI (by omega) (by omega)).mp q
      intro y' ey x ex
      rw [ex, nI_1]
      exact ih _ (by rw [DB_s, if_neg (by omega), ey, Int32.add_zero])
    · have hq : d 5 o ≤ T := by
        rcases Nat.lt_or_ge T (d 5 o) with z | z
        · exact absurd (nI_lt z (by omega)) q
        · exact z
      intro y' ey x ex
      rw [nI_add] at ey
      rw [ex, nI_1]
      exact ih _ (by rw [DB_s, if_pos ⟨c, hq⟩]; exact ey)
    · intro y' ey x ex
      rw [ex, nI_1]
      exact ih _ (by rw [DB_s, if_neg (fun q => c q.1), ey, Int32.add_zero])
def Ok1 (d : Dat) (m o : Nat) : Prop := Bit m o → ¬ Snt d o ∧ d 8 0 ≤ d 5 o ∧ DB d m (d 5 o) (d 2 1) ≤ d 8 3 + min (d 2 4 * (d 5 o - d 8 0)) (d 8 2 / d 2 3)
def Ok2 (d : Dat) (m o : Nat) : Prop := Bit m o → ¬ Snt d o ∧ d 8 0 ≤ d 5 o ∧ DB d m (d 5 o) (d 2 1) ≤ d 8 3 + d 2 4 * (d 5 o - d 8 0)
def Ok (d : Dat) (m : Nat) : Prop := ∀ o, o < d 2 1 → Ok1 d m o
def Stk (d : Dat) (m : Nat) : Prop := (DB d m 60 (d 2 1) - d 8 3) * d 2 3 ≤ d 8 2
theorem DB_no {d : Dat} (m T : Nat) : ∀ n, (∀ o, o < n → ¬ Bit m o) → DB d m T n = 0 := by
  intro n
  induction n with
  | zero => exact fun _ => rfl
  | succ n ih =>
    intro h
    rw [DB_s, if_neg (fun q => h n (by omega) q.1)]
    exact ih (fun o ho => h o (by omega))
theorem max_ex {d : Dat} (m : Nat) : ∀ n, (∀ o, o < n → ¬ Bit m o) ∨ ∃ p, p < n ∧ Bit m p ∧ ∀ o, o < n → Bit m o → d 5 o ≤ d 5 p := by
  intro n
  induction n with
  | zero => exact Or.inl (fun o ho => absurd ho (Nat.not_lt_zero o))
  | succ n ih =>
    by_cases b : Bit m n
    · right
      rcases ih with h | ⟨p, p1, p2, p3⟩
      · refine ⟨n, by omega, b, fun o ho hb => ?_⟩
        rcases Nat.lt_or_ge o n with z | z
        · exact absurd hb (h o z)
        · rw [show o = n by omega]; exact Nat.le_refl _
      · by_cases c : d 5 p ≤ d 5 n
        · refine ⟨n, by omega, b, fun o ho hb => ?_⟩
          rcases Nat.lt_or_ge o n with z | z
          · have := p3 o z hb; omega
          · rw [show o = n by omega]; exact Nat.le_refl _
        · refine ⟨p, by omega, p2, fun o ho hb => ?_⟩
          rcases Nat.lt_or_ge o n with z | z
          · exact p3 o z hb
          · rw [show o = n by omega]; omega
    · rcases ih with h | ⟨p, p1, p2, p3⟩
      · left
        intro o ho hb
        rcases Nat.lt_or_ge o n with z | z
        · exact h o z hb
        · rw [show o = n by omega] at hb; exact b hb
      · right
        refine ⟨p, by omega, p2, fun o ho hb => ?_⟩
        rcases Nat.lt_or_ge o n with z | z
        · exact p3 o z hb
        · rw [show o = n by omega] at hb; exact absurd hb b
theorem ok_iff {d : Dat} (hW : WD d) (m : Nat) : Ok d m ↔ (Stk d m ∧ ∀ o, o < d 2 1 → Ok2 d m o) := by
  have htw : 0 < d 2 3 := hW.2.2.2.1.1
  have hst : Stk d m ↔ DB d m 60 (d 2 1) - d 8 3 ≤ d 8 2 / d 2 3 := (Nat.le_div_iff_mul_le htw).symm
  rw [hst]
  constructor
  · intro h
    refine ⟨?_, fun o ho b => ?_⟩
    · rcases max_ex (d := d) m (d 2 1) with z | ⟨p, p1, p2, p3⟩
      · rw [DB_no m 60 _ z, Nat.zero_sub]; exact Nat.zero_le _
      · obtain ⟨-, -, q⟩ := h p p1 p2
        rw [(DB_60 hW m (d 5 p) (d 2 1) (Nat.le_refl _)).2 p3] at q
        have := Nat.min_le_right (d 2 4 * (d 5 p - d 8 0)) (d 8 2 / d 2 3)
        generalize d 8 2 / d 2 3 = Q at this q ⊢
        generalize d 2 4 * (d 5 p - d 8 0) = A at this q
        omega
    · obtain ⟨a, b', c⟩ := h o ho b
      have := Nat.min_le_left (d 2 4 * (d 5 o - d 8 0)) (d 8 2 / d 2 3)
      exact ⟨a, b', by omega⟩
  · rintro ⟨h1, h2⟩ o ho b
    obtain ⟨a, b', c⟩ := h2 o ho b
    have h3 := (DB_60 hW m (d 5 o) (d 2 1) (Nat.le_refl _)).1
    refine ⟨a, b', ?_⟩
    rcases Nat.le_total (d 2 4 * (d 5 o - d 8 0)) (d 8 2 / d 2 3) with z | z
    · rw [Nat.min_eq_left z]; exact c
    · rw [Nat.min_eq_right z]; omega
theorem min_nI {a b : Nat} (ha : a < 2 ^ 31) (hb : b < 2 ^ 31) : (if nI a < nI b then nI a else nI b) = nI (min a b) := by
  by_cases c : a < b
  · rw [if_pos (nI_lt c hb), Nat.min_eq_left (by omega)]
  · rw [if_neg (fun q => c ((nI_ltI ha hb).mp q)), Nat.min_eq_right (by omega)]
theorem canKeep_y {S : CS} {k t m : Nat} {d : Dat} {post : Int32 → CS → Prop} (hk : k < 64) (hm : m < 64) (hW : WF k d) (ht1 : t < 2) (ht2 : S.2.1 = t) (hD : CD d t S.1) (hN : CN d S.1) (h1 : Ok d m → post 1 S) (h0 : ¬ Ok d m → post 0 S) : p_X6_canBeKept S (nI m) post := by
  have hO := hW.2.1.2.1
  have hP := hW.2.1.1
  obtain ⟨b0, b1, b2, b3, b4, b5, -⟩ := hW.2.2.1
  have htw := hW.2.1.2.2.2.1
  have hpc := hW.2.1.2.2.2.2.1
  have c0 : S.1 (mo 0) 4 = nI (d 8 0) := by rw [← hN 0 (by omega), mv_0]
  have c2 : S.1 (mo 0) 2 = nI (d 8 2) := by rw [← hN 2 (by omega), mv_2]
  have c3 : S.1 (mo 0) 3 = nI (d 8 3) := by rw [← hN 3 (by omega), mv_3]
  have c5 : S.1 (mo 0) 6 = nI (d 8 5) := by rw [← hN 5 (by omega), mv_5]
  have hQ : d 8 2 / d 2 3 ≤ d 8 2 := Nat.div_le_self _ _
  unfold p_X6_canBeKept p_X5_twigs
  refine ⟨by omega, value_y (row := 6) (i := 0) (by decide) (by decide) ?_⟩
  unfold p_X6_cutDownwards
  rw [ht2, show S.1 (tv t) (6 * 6 + 0) = nI (d 2 3) from hD.2.2.2.1, c2]
  have hne : ¬ nI (d 2 3) = 0 := fun q => absurd ((nI_z (by omega)).mp q) (by omega)
  refine br_t (nI_le (a := 1) htw.1 (by omega)) ⟨hne, ?_⟩
  rw [pk_div (by omega) htw.1 (by omega)]
  refine loop_0 (σ := CS) (fun n o S1 => q_X6_canBeKept_20 (nI m) post n (nI (d 8 2 / d 2 3)) (nI o) S1) (fun o S1 => S1 = S ∧ ∀ o', o' < o → Ok1 d m o') (d 2 1) S ⟨rfl, fun j hj => absurd hj (Nat.not_lt_zero j)⟩ (fun n S1 hI => ?_) (fun n o S1 ho hI ih => ?_)
  · rw [q_X6_canBeKept_20, hI.1]
    unfold p_X5_orders
    rw [ht2, hD.2.1]
    exact ⟨ht1, br_t (nI_le (Nat.le_refl _) (by omega)) (h1 hI.2)⟩
  · obtain ⟨v1, v2, v3⟩ := hD.2.2.2.2.2.2.2 o ho
    have h5 := (hW.2.1.2.2.2.2.2.2.2 o ho).1.2
    have hb01 := bit01 m hm o (by omega)
    rw [q_X6_canBeKept_20, hI.1]
    unfold p_X5_orders
    rw [ht2, hD.2.1]
    have go : Ok1 d m o → ∀ x : Int32, x = nI o + 1 → q_X6_canBeKept_20 (nI m) post n (nI (d 8 2 / d 2 3)) x S := by
      intro hok x ex
      rw [ex, nI_1]
      refine ih S ⟨rfl, fun o' ho' => ?_⟩
      rcases Nat.lt_or_ge o' o with z | z
      · exact hI.2 o' z
      · rw [show o' = o by omega]; exact hok
    refine ⟨ht1, br_f (nI_ge ho (by omega)) ⟨fun c => go (fun b => absurd b (hb01.mp c)), fun c => ⟨by omega, value_y (row := 2) (by decide) (by omega) ⟨by omega, ?_⟩⟩⟩⟩
    have hbit : Bit m o := by
      by_cases z : Bit m o
      · exact z
      · exact absurd (hb01.mpr z) c
    unfold p_X5_pace
    refine value_y (row := 7) (i := 0) (by decide) (by decide) ?_
    have hA : d 2 4 * (d 5 o - d 8 0) ≤ 1200 := by
      calc d 2 4 * (d 5 o - d 8 0) ≤ 20 * 60 := Nat.mul_le_mul hpc.2 (by omega)
        _ = 1200 := rfl
    intro x5 ex5
    rw [ht2, show S.1 (tv t) (6 * 2 + o) = nI (d 5 o) from v1, show S.1 (tv t) (6 * 7 + 0) = nI (d 2 4) from hD.2.2.2.2.1, c0, cl_sub (by omega) (by omega), pk_mul, min_nI (by omega) (by omega)] at ex5
    have hdb := DB_le hW.2.1 m (d 5 o) (d 2 1) (Nat.le_refl _)
    have hmin : min (d 2 4 * (d 5 o - d 8 0)) (d 8 2 / d 2 3) ≤ 1200 := Nat.le_trans (Nat.min_le_left _ _) hA
    unfold p_X1_wasSent
    rw [c5]
    refine ⟨fun s => c01 (h0 (fun a => (a o ho hbit).1 s)), fun s => c00 ?_⟩
    unfold p_X6_isLate
    refine ⟨by omega, value_y (row := 2) (by decide) (by omega) ?_⟩
    rw [ht2, show S.1 (tv t) (6 * 2 + o) = nI (d 5 o) from v1, c0]
    refine ⟨fun l => c00 ?_, fun l => c01 (h0 (fun a => l (nI_le (a o ho hbit).2.1 (by omega))))⟩
    have hl : d 8 0 ≤ d 5 o := (nI_leI (by omega) (by omega)).mp l
    refine due_y hW.2.1 (by omega) ht1 ht2 hD ?_
    rw [c3, ex5, nI_add]
    refine ⟨fun q => go (fun _ => ⟨s, hl, (nI_leI (by omega) (by omega)).mp q⟩), fun q => h0 (fun a => q (nI_le (a o ho hbit).2.2 (by omega)))⟩
theorem r_canKeep_y {R : CS} {k m : Nat} {d : Dat} {post : Int32 → CS → Prop} (hk : k < 64) (hm : m < 64) (hW : WF k d) (hD : RD d R.1) (hN : RN d R.1) (h1 : Ok d m → post 1 R) (h0 : ¬ Ok d m → post 0 R) : p_X7_canBeKept R (nI m) post := by
  have hO := hW.2.1.2.1
  have hP := hW.2.1.1
  obtain ⟨b0, b1, b2, b3, b4, b5, -⟩ := hW.2.2.1
  have htw := hW.2.1.2.2.2.1
  have hpc := hW.2.1.2.2.2.2.1
  have hiff := ok_iff hW.2.1 m
  have flag : ∀ fl : Int32, ((fl = 1 ∧ Stk d m) ∨ (fl = 0 ∧ ¬ Stk d m)) → ∃ n, q_X7_canBeKept_45 (nI m) post n fl 0 R := by
    intro fl hfl
    refine loop_0 (σ := Int32) (fun n o fl => q_X7_canBeKept_45 (nI m) post n fl (nI o) R) (fun o fl => (fl = 1 ∧ (Stk d m ∧ ∀ o', o' < o → Ok2 d m o')) ∨ (fl = 0 ∧ ¬ (Stk d m ∧ ∀ o', o' < o → Ok2 d m o'))) (d 2 1) fl ?_ (fun n fl hI => ?_) (fun n o fl ho hI ih => ?_)
    · rcases hfl with ⟨a, b⟩ | ⟨a, b⟩
      · exact Or.inl ⟨a, b, fun j hj => absurd hj (Nat.not_lt_zero j)⟩
      · exact Or.inr ⟨a, fun q => b q.1⟩
    · rw [q_X7_canBeKept_45, hD.1 1 (by decide)]
      refine br_t (nI_le (Nat.le_refl _) (by omega)) ?_
      rcases hI with ⟨a, b⟩ | ⟨a, b⟩
      · rw [a]
        exact ⟨nrw1, h1 (hiff.mpr b)⟩
      · rw [a]
        exact ⟨nrw0, h0 (fun q => b (hiff.mp q))⟩
    · obtain ⟨r1, r2, r3⟩ := hD.2.2 o ho
      have h5 := (hW.2.1.2.2.2.2.2.2.2 o ho).1.2
      rw [q_X7_canBeKept_45, hD.1 1 (by decide)]
      have no : ¬ (Stk d m ∧ ∀ o', o' < o + 1 → Ok2 d m o') → ∀ x : Int32, x = nI o + 1 → q_X7_canBeKept_45 (nI m) post n 0 x R := by
        intro a x ex
        rw [ex, nI_1]
        exact ih 0 (Or.inr ⟨rfl, a⟩)
      have ext : (∀ o', o' < o → Ok2 d m o') → Ok2 d m o → ∀ o', o' < o + 1 → Ok2 d m o' := by
        intro a b o' ho'
        rcases Nat.lt_or_ge o' o with z | z
        · exact a o' z
        · rw [show o' = o by omega]; exact b
      refine br_f (nI_ge ho (by omega)) ⟨fun c => ⟨vp_in_nI (by omega) (by decide), ?_⟩, fun c => ?_⟩
      · intro x5 ex5
        rw [nI_clamp (by omega), r1, hN 0 (by omega)] at ex5
        have hx5 := pk_sub_toInt (a := d 5 o) (b := d 8 0) (by omega) (by omega)
        rw [← ex5] at hx5
        have z0 : (0 : Int32).toInt = 0 := rfl
        rcases hI with ⟨a, b1, b2⟩ | ⟨a, b⟩
        · rw [a]
          refine br_f ne10 ?_
          unfold p_X7_isSent
          rw [hN 5 (by omega)]
          refine ⟨fun s => c01 (no (fun q => (q.2 o (by omega) c).1 s)), fun s => c00 ⟨fun l => ?_, fun l => ?_⟩⟩
          · rw [Int32.lt_iff_toInt_lt, hx5, z0] at l
            refine no (fun q => ?_)
            have := (q.2 o (by omega) c).2.1
            omega
          · rw [Int32.lt_iff_toInt_lt, hx5, z0] at l
            have hl : d 8 0 ≤ d 5 o := by omega
            refine ⟨vp_in_nI (by omega) (by decide), ?_⟩
            rw [nI_clamp (by omega), r1]
            refine r_due_y hW.2.1 (by omega) hD ?_
            have hdb := DB_le hW.2.1 m (d 5 o) (d 2 1) (Nat.le_refl _)
            have hA : d 2 4 * (d 5 o - d 8 0) ≤ 1200 := by
              calc d 2 4 * (d 5 o - d 8 0) ≤ 20 * 60 := Nat.mul_le_mul hpc.2 (by omega)
                _ = 1200 := rfl
            rw [hN 3 (by omega), hD.1 4 (by decide), ex5, pk_sub hl, pk_mul, nI_add]
            refine ⟨fun q => no (fun w => ?_), fun q => ?_⟩
            · have h3 := (nI_ltI (by omega) (by omega)).mp q
              have := (w.2 o (by omega) c).2.2
              omega
            · intro x ex
              rw [ex, nI_1]
              refine ih 1 (Or.inl ⟨rfl, b1, ext b2 (fun _ => ⟨s, hl, ?_⟩)⟩)
              rcases Nat.lt_or_ge (d 8 3 + d 2 4 * (d 5 o - d 8 0)) (DB d m (d 5 o) (d 2 1)) with z | z
              · exact absurd (nI_lt z (by omega)) q
              · exact z
        · rw [a]
          exact br_t rfl (no (fun q => b ⟨q.1, fun o' ho' => q.2 o' (by omega)⟩))
      · intro x ex
        rw [ex, nI_1]
        refine ih fl ?_
        have hok : Ok2 d m o := fun q => absurd q c
        rcases hI with ⟨a, b1, b2⟩ | ⟨a, b⟩
        · exact Or.inl ⟨a, b1, ext b2 hok⟩
        · exact Or.inr ⟨a, fun q => b ⟨q.1, fun o' ho' => q.2 o' (by omega)⟩⟩
  have hdb := DB_le hW.2.1 m 60 (d 2 1) (Nat.le_refl _)
  unfold p_X7_canBeKept q_X7_canBeKept_36
  refine r_due_y (T := 60) hW.2.1 (by decide) hD ?_
  intro x ex
  rw [hN 3 (by omega)] at ex
  have hx := pk_sub_toInt (a := DB d m 60 (d 2 1)) (b := d 8 3) (by omega) (by omega)
  rw [← ex] at hx
  have z0 : (0 : Int32).toInt = 0 := rfl
  refine ⟨fun c => flag 1 (Or.inl ⟨rfl, ?_⟩), fun c => ?_⟩
  · rw [Int32.le_iff_toInt_le, hx, z0] at c
    unfold Stk
    rw [show DB d m 60 (d 2 1) - d 8 3 = 0 by omega, Nat.zero_mul]
    exact Nat.zero_le _
  · rw [Int32.le_iff_toInt_le, hx, z0] at c
    rw [ex, pk_sub (by omega), hN 2 (by omega), hD.1 3 (by decide), pk_mul]
    have hM : (DB d m 60 (d 2 1) - d 8 3) * d 2 3 ≤ 7200 := by
      calc (DB d m 60 (d 2 1) - d 8 3) * d 2 3 ≤ 360 * 20 := Nat.mul_le_mul (by omega) htw.2
        _ = 7200 := rfl
    refine ⟨fun q => flag 0 (Or.inr ⟨rfl, fun s => ?_⟩), fun q => flag 1 (Or.inl ⟨rfl, ?_⟩)⟩
    · have := (nI_ltI (by omega) (by omega)).mp q
      unfold Stk at s
      omega
    · unfold Stk
      rcases Nat.lt_or_ge (d 8 2) ((DB d m 60 (d 2 1) - d 8 3) * d 2 3) with z | z
      · exact absurd (nI_lt z (by omega)) q
      · exact z
def bk (c : Nat → Nat) (K : Nat → Bool) : Nat → Nat
  | 0 => 0
  | i + 1 => if c (i + 1) ≤ c (bk c K i) then bk c K i else if K (i + 1) = true then i + 1 else bk c K i
theorem bk_s (c : Nat → Nat) (K : Nat → Bool) (i : Nat) : bk c K (i + 1) = if c (i + 1) ≤ c (bk c K i) then bk c K i else if K (i + 1) = true then i + 1 else bk c K i := rfl
theorem bk_le (c : Nat → Nat) (K : Nat → Bool) : ∀ i, bk c K i ≤ i := by
  intro i
  induction i with
  | zero => exact Nat.le_refl 0
  | succ i ih =>
    rw [bk_s]
    by_cases h : c (i + 1) ≤ c (bk c K i)
    · rw [if_pos h]; omega
    · rw [if_neg h]
      by_cases h2 : K (i + 1) = true
      · rw [if_pos h2]; omega
      · rw [if_neg h2]; omega
theorem sim_kept (k : Nat) (S R : CS) (x1 : Int32) (hk : k < 64) (h : Rel k S R) : p_X6_kept S x1 (fun r S1 => p_X7_kept R x1 (fun r2 R1 => r = r2 ∧ Rel (k + 1) S1 R1)) := by
  obtain ⟨d, t, pn, hW, ⟨ht1, ht2, ht3⟩, hC, hR, htr⟩ := h
  have hsm := Rel.sm hW ⟨ht1, ht2, ht3⟩ hC hR htr (CSm.rf S) (RSm.thr R 0)
  have hO := hW.2.1.2.1
  have hD' : RD d (sti R 0 0 0).1 := hR.2.1.th
  have hN' : RN d (sti R 0 0 0).1 := hR.2.2.1.th2
  unfold p_X6_kept
  rcases rng x1 0 1 (by decide) (by decide) with hx | ⟨x, -, hx1, rfl⟩
  · have fin : p_X7_kept R x1 (fun r2 R1 => -1 = r2 ∧ Rel (k + 1) S R1) := by
      unfold p_X7_kept
      intro R1 e1
      subst e1
      exact in_n hx (c00 ⟨rfl, hsm⟩)
    rcases hx with hx | hx
    · exact br_t hx fin
    · exact ⟨fun _ => fin, fun _ => br_f (nle_of_lt hx) fin⟩
  · obtain ⟨p1, p2⟩ := two_dec (d 2 1) (by omega)
    obtain ⟨N, hN⟩ : ∃ N, N + 1 = 2 ^ d 2 1 := ⟨2 ^ d 2 1 - 1, Nat.sub_add_cancel (Nat.one_le_two_pow)⟩
    rw [← hN] at p1 p2
    obtain ⟨K, hK⟩ : ∃ K : Nat → Bool, ∀ i, K i = true ↔ Ok d i := ⟨fun i => @decide (Ok d i) (Classical.propDecidable _), fun i => @decide_eq_true_iff (Ok d i) (Classical.propDecidable _)⟩
    obtain ⟨c, hc⟩ : ∃ c : Nat → Nat, ∀ m, c m = co d m (d 2 1) := ⟨fun m => co d m (d 2 1), fun _ => rfl⟩
    have hcl : ∀ m, c m ≤ 600 := fun m => by
      have := co_le hW.2.1 m (d 2 1) (Nat.le_refl _)
      rw [hc]
      omega
    refine br_f (nI_pos (by omega)) (br_t (nI_le (b := 1) hx1 (by decide)) ⟨by omega, ?_⟩)
    unfold p_X5_orders
    rw [ht2, hC.2.1.2.1]
    intro y2 ey2
    rw [p1] at ey2
    rw [ey2]
    refine loop_0 (σ := Int32 × Int32) (fun n i s => q_X6_kept_29 (nI x) _ n (nI (N + 1)) s.1 s.2 (nI (i + 1)) S) (fun i s => s.1 = nI (bk c K i) ∧ s.2 = nI (c (bk c K i))) N (0, 0) ⟨rfl, by show (0 : Int32) = nI (c 0); rw [hc, co_0 d _ hO]; rfl⟩ (fun n s hI => ?_) (fun n i s hi hI ih => ?_)
    · rw [q_X6_kept_29, hI.1, hI.2]
      refine br_t (nI_le (Nat.le_refl _) (by omega)) ?_
      have ref : ∀ v : Int32, v = (if x = 0 then nI (bk c K N) else nI (c (bk c K N))) → p_X7_kept R (nI x) (fun r2 R1 => v = r2 ∧ Rel (k + 1) S R1) := by
        intro v hv
        unfold p_X7_kept
        intro R1 e1
        subst e1
        refine in_yN (a := 0) (b := 1) (by omega) hx1 (by decide) (c01 ?_)
        refine loop_0 (σ := Int32) (fun n i y => q_X7_kept_20 (nI x) _ n y (nI (i + 1)) (sti R 0 0 0)) (fun i y => y = nI (bk c K i)) N 0 rfl (fun n y hI => ?_) (fun n i y hi hI ih => ?_)
        · rw [q_X7_kept_20, hD'.1 1 (by decide), p1, hI]
          refine br_t (nI_le (Nat.le_refl _) (by omega)) ?_
          rcases (show x = 0 ∨ x = 1 by omega) with rfl | rfl
          · exact br_t rfl ⟨hv, hsm⟩
          · refine br_f (by decide) (r_coins_y hO hD' ?_)
            rw [← hc]
            exact ⟨hv, hsm⟩
        · have hbl := bk_le c K i
          have hc1 := hcl (i + 1)
          have hc2 := hcl (bk c K i)
          rw [q_X7_kept_20, hD'.1 1 (by decide), p1, hI]
          refine br_f (nI_ge (by omega) (by omega)) (r_coins_y hO hD' (r_coins_y hO hD' ?_))
          rw [← hc, ← hc]
          refine ⟨fun q => ?_, fun q => r_canKeep_y hk (by omega) hW hD' hN' (fun o => c01 ?_) (fun o => c00 ?_)⟩
          · have hq : c (i + 1) ≤ c (bk c K i) := (nI_leI (by omega) (by omega)).mp q
            intro z ez
            rw [ez, nI_1]
            exact ih _ (by rw [bk_s, if_pos hq])
          · have hq : ¬ c (i + 1) ≤ c (bk c K i) := fun w => q (nI_le w (by omega))
            intro z ez
            rw [ez, nI_1]
            exact ih _ (by rw [bk_s, if_neg hq, if_pos ((hK _).mpr o)])
          · have hq : ¬ c (i + 1) ≤ c (bk c K i) := fun w => q (nI_le w (by omega))
            intro z ez
            rw [ez, nI_1]
            exact ih _ (by rw [bk_s, if_neg hq, if_neg (fun w => o ((hK _).mp w))])
      rcases (show x = 0 ∨ x = 1 by omega) with rfl | rfl
      · exact br_t rfl (ref _ rfl)
      · exact br_f (by decide) (ref _ rfl)
    · have hbl := bk_le c K i
      have hc1 := hcl (i + 1)
      have hc2 := hcl (bk c K i)
      rw [q_X6_kept_29, hI.1, hI.2]
      refine br_f (nI_ge (by omega) (by omega)) (coins_y hO ht1 ht2 hC.2.1 ?_)
      rw [← hc]
      refine ⟨fun q => ?_, fun q => canKeep_y hk (by omega) hW ht1 ht2 hC.2.1 hC.2.2.1 (fun o => c01 ?_) (fun o => c00 ?_)⟩
      · have hq : c (i + 1) ≤ c (bk c K i) := (nI_leI (by omega) (by omega)).mp q
        intro z ez
        rw [ez, nI_1]
        exact ih (nI (bk c K i), nI (c (bk c K i))) (by rw [bk_s, if_pos hq]; exact ⟨rfl, rfl⟩)
      · have hq : ¬ c (i + 1) ≤ c (bk c K i) := fun w => q (nI_le w (by omega))
        intro z ez
        rw [ez, nI_1]
        exact ih (nI (i + 1), nI (c (i + 1))) (by rw [bk_s, if_neg hq, if_pos ((hK _).mpr o)]; exact ⟨rfl, rfl⟩)
      · have hq : ¬ c (i + 1) ≤ c (bk c K i) := fun w => q (nI_le w (by omega))
        intro z ez
        rw [ez, nI_1]
        exact ih (nI (bk c K i), nI (c (bk c K i))) (by rw [bk_s, if_neg hq, if_neg (fun w => o ((hK _).mp w))]; exact ⟨rfl, rfl⟩)
