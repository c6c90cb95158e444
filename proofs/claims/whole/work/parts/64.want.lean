/-! what is wanted and lacks -/
theorem cl_sub {a b : Nat} (ha : a < 2 ^ 30) (hb : b < 2 ^ 30) : (if 0 < nI a - nI b then nI a - nI b else 0) = nI (a - b) := by
  have h := pk_sub_toInt ha hb
  have z : (0 : Int32).toInt = 0 := rfl
  by_cases c : b < a
  · rw [if_pos (by rw [Int32.lt_iff_toInt_lt, h, z]; omega), pk_sub (by omega)]
  · rw [if_neg (by rw [Int32.lt_iff_toInt_lt, h, z]; omega), show a - b = 0 by omega]
    rfl
theorem r_cl {a b : Nat} {Q : Int32 → Prop} (ha : a < 2 ^ 30) (hb : b < 2 ^ 30) (h : Q (nI (a - b))) : ∀ x : Int32, x = nI a - nI b → (0 ≤ x → Q x) ∧ (¬ 0 ≤ x → Q 0) := by
  intro x ex
  have g := pk_sub_toInt ha hb
  have z : (0 : Int32).toInt = 0 := rfl
  rw [← ex] at g
  refine ⟨fun c => ?_, fun c => ?_⟩
  · rw [Int32.le_iff_toInt_le, g, z] at c
    rw [ex, pk_sub (by omega)]
    exact h
  · rw [Int32.le_iff_toInt_le, g, z] at c
    rw [show a - b = 0 by omega] at h
    exact h
theorem mask_dec : ∀ s, s < 64 → ∀ O, O < 7 → ∀ o, o < O → ((((((1 <<< (nI O &&& 31)) - 1) &&& (nI s ^^^ (-1))) >>> (nI o &&& 31)) &&& 1) = 1 ↔ ¬ ((nI s >>> (nI o &&& 31)) &&& 1) = 1) := by decide +kernel
def ws (d : Dat) : Nat → Nat
  | 0 => 0
  | o + 1 => if ((nI (d 8 5) >>> (nI o &&& 31)) &&& 1) = 1 then ws d o else ws d o + d 6 o
theorem ws_s (d : Dat) (o : Nat) : ws d (o + 1) = if ((nI (d 8 5) >>> (nI o &&& 31)) &&& 1) = 1 then ws d o else ws d o + d 6 o := rfl
theorem ws_le {d : Dat} (hW : WD d) : ∀ o, o ≤ d 2 1 → ws d o ≤ 60 * o := by
  intro o
  induction o with
  | zero => exact fun _ => Nat.le_refl 0
  | succ o ih =>
    intro ho
    have h1 := ih (by omega)
    have h2 := (hW.2.2.2.2.2.2.2 o (by omega)).2.1.2
    rw [ws_s]
    by_cases c : ((nI (d 8 5) >>> (nI o &&& 31)) &&& 1) = 1
    · rw [if_pos c]; omega
    · rw [if_neg c]; omega
def wn (d : Dat) : Nat := ws d (d 2 1) - d 8 3
def lk (d : Dat) : Nat := wn d * d 2 3 - d 8 2
theorem wn_le {d : Dat} (hW : WD d) : wn d ≤ 360 := by
  have h1 := ws_le hW (d 2 1) (Nat.le_refl _)
  have h2 := hW.2.1
  unfold wn
  omega
theorem tobind_y {S : CS} {k t : Nat} {d : Dat} {post : Int32 → CS → Prop} (hk : k < 64) (hW : WF k d) (ht1 : t < 2) (ht2 : S.2.1 = t) (hD : CD d t S.1) (hN : CN d S.1) (h : post (nI (wn d)) S) : p_X6_besomsToBind S post := by
  have hO := hW.2.1.2.1
  have hP := hW.2.1.1
  obtain ⟨b0, b1, b2, b3, -⟩ := hW.2.2.1
  unfold p_X6_besomsToBind
  refine loop_0 (σ := Int32) (fun n o y => q_X6_besomsToBind_4 post n y (nI o) S) (fun o y => y = nI (ws d o)) (d 2 1) 0 rfl (fun n y hI => ?_) (fun n o y ho hI ih => ?_)
  · rw [q_X6_besomsToBind_4]
    unfold p_X5_orders
    rw [ht2, hD.2.1, hI]
    have hws := ws_le hW.2.1 (d 2 1) (Nat.le_refl _)
    refine ⟨ht1, br_t (nI_le (Nat.le_refl _) (by omega)) ?_⟩
    rw [show S.1 (mo 0) 3 = nI (d 8 3) by rw [← hN 3 (by omega), mv_3], cl_sub (by omega) (by omega)]
    exact h
  · rw [q_X6_besomsToBind_4]
    unfold p_X5_orders
    rw [ht2, hD.2.1, hI]
    refine ⟨ht1, br_f (nI_ge ho (by omega)) ?_⟩
    unfold p_X1_wasSent
    rw [show S.1 (mo 0) 6 = nI (d 8 5) by rw [← hN 5 (by omega), mv_5]]
    refine ⟨fun c => c01 ?_, fun c => c00 ⟨by omega, value_y (row := 3) (by decide) (by omega) ?_⟩⟩
    · intro x ex
      rw [ex, nI_1]
      exact ih _ (by rw [ws_s, if_pos c])
    · intro y' ey x ex
      rw [ht2, show S.1 (tv t) (6 * 3 + o) = nI (d 6 o) from (hD.2.2.2.2.2.2.2 o ho).2.1, nI_add] at ey
      rw [ex, nI_1]
      exact ih _ (by rw [ws_s, if_neg c]; exact ey)
theorem r_wanted_y {R : CS} {k : Nat} {d : Dat} {post : Int32 → CS → Prop} (hk : k < 64) (hW : WF k d) (hD : RD d R.1) (hN : RN d R.1) (h : post (nI (wn d)) R) : p_X7_wanted R post := by
  have hO := hW.2.1.2.1
  have hP := hW.2.1.1
  obtain ⟨b0, b1, b2, b3, b4, b5, -⟩ := hW.2.2.1
  have h21 : R.1 2 1 = nI (d 2 1) := hD.1 1 (by decide)
  unfold p_X7_wanted p_X7_besomsBy
  rw [h21, hN 5 (by omega)]
  refine loop_0 (σ := Int32) (fun n o y => q_X7_besomsBy_5 _ 60 _ n y (nI o) R) (fun o y => y = nI (ws d o)) (d 2 1) 0 rfl (fun n y hI => ?_) (fun n o y ho hI ih => ?_)
  · rw [q_X7_besomsBy_5, h21, hI]
    have hws := ws_le hW.2.1 (d 2 1) (Nat.le_refl _)
    refine br_t (nI_le (Nat.le_refl _) (by omega)) ?_
    rw [hN 3 (by omega)]
    exact r_cl (Q := fun x => post x R) (by omega) (by omega) h
  · obtain ⟨r1, r2, r3⟩ := hD.2.2 o ho
    have ho60 := (hW.2.1.2.2.2.2.2.2.2 o ho).1.2
    have hm := mask_dec (d 8 5) b5 (d 2 1) (by omega) o ho
    rw [q_X7_besomsBy_5, h21, hI, nI_clamp (by omega), r1, r2]
    unfold q_X7_besomsBy_48
    refine br_f (nI_ge ho (by omega)) ⟨fun c => ⟨vp_in_nI (by omega) (by decide), ?_⟩, fun c => ?_⟩
    · refine br_f (show ¬ (60 : Int32) < nI (d 5 o) from nI_nlt (a := 60) (b := d 5 o) (by omega) (by decide)) ⟨vp_in_nI (by omega) (by decide), ?_⟩
      intro y' ey x ex
      rw [ex, nI_1]
      rw [nI_add] at ey
      exact ih _ (by rw [ws_s, if_neg (hm.mp c)]; exact ey)
    · intro y' ey x ex
      rw [ex, nI_1]
      have hs : ((nI (d 8 5) >>> (nI o &&& 31)) &&& 1) = 1 := by
        by_cases z : ((nI (d 8 5) >>> (nI o &&& 31)) &&& 1) = 1
        · exact z
        · exact absurd (hm.mpr z) c
      exact ih _ (by rw [ws_s, if_pos hs, ey, Int32.add_zero])
theorem lk_le {d : Dat} (hW : WD d) : wn d * d 2 3 ≤ 7200 := by
  calc wn d * d 2 3 ≤ 360 * 20 := Nat.mul_le_mul (wn_le hW) hW.2.2.2.1.2
    _ = 7200 := rfl
theorem lacking_y {S : CS} {k t : Nat} {d : Dat} {post : Int32 → CS → Prop} (hk : k < 64) (hW : WF k d) (ht1 : t < 2) (ht2 : S.2.1 = t) (hD : CD d t S.1) (hN : CN d S.1) (h : post (nI (lk d)) S) : p_X6_lackingTwigs S post := by
  have hP := hW.2.1.1
  obtain ⟨b0, b1, b2, b3, -⟩ := hW.2.2.1
  have hl := lk_le hW.2.1
  unfold p_X6_lackingTwigs
  refine tobind_y hk hW ht1 ht2 hD hN ⟨by omega, ?_⟩
  unfold p_X5_twigs
  refine value_y (row := 6) (i := 0) (by decide) (by decide) ?_
  rw [ht2, show S.1 (tv t) (6 * 6 + 0) = nI (d 2 3) from hD.2.2.2.1]
  show post (if 0 < (nI (wn d) * nI (d 2 3) - S.1 (mo 0) 2) then (nI (wn d) * nI (d 2 3) - S.1 (mo 0) 2) else 0) S
  rw [show S.1 (mo 0) 2 = nI (d 8 2) by rw [← hN 2 (by omega), mv_2], pk_mul, cl_sub (by omega) (by omega)]
  exact h
theorem r_lacks_y {R : CS} {k : Nat} {d : Dat} {post : Int32 → CS → Prop} (hk : k < 64) (hW : WF k d) (hD : RD d R.1) (hN : RN d R.1) (h : post (nI (lk d)) R) : p_X7_lacks R post := by
  have hP := hW.2.1.1
  obtain ⟨b0, b1, b2, b3, -⟩ := hW.2.2.1
  have hl := lk_le hW.2.1
  unfold p_X7_lacks
  refine r_wanted_y hk hW hD hN ?_
  rw [hD.1 3 (by decide), hN 2 (by omega)]
  intro x ex
  rw [pk_mul] at ex
  exact r_cl (Q := fun x => post x R) (by omega) (by omega) h x ex
theorem RD.th {d : Dat} {R : CS} {x : Int32} (h : RD d R.1) : RD d (sti R 0 0 x).1 := ⟨fun i hi => by rw [sti_ne (by omega)]; exact h.1 i hi, fun i hi => by rw [sti_ne (by omega)]; exact h.2.1 i hi, fun i hi => ⟨by rw [sti_ne (by omega)]; exact (h.2.2 i hi).1, by rw [sti_ne (by omega)]; exact (h.2.2 i hi).2.1, by rw [sti_ne (by omega)]; exact (h.2.2 i hi).2.2⟩⟩
theorem RN.th2 {d : Dat} {R : CS} {x : Int32} (h : RN d R.1) : RN d (sti R 0 0 x).1 := fun j hj => by rw [sti_ne (by omega)]; exact h j hj
theorem sim_lack (k : Nat) (S R : CS) (hk : k < 64) (h : Rel k S R) : p_X6_lack S (fun r S1 => p_X7_lack R (fun r2 R1 => r = r2 ∧ Rel (k + 1) S1 R1)) := by
  obtain ⟨d, t, pn, hW, ⟨ht1, ht2, ht3⟩, hC, hR, htr⟩ := h
  have hsm := Rel.sm hW ⟨ht1, ht2, ht3⟩ hC hR htr (CSm.rf S) (RSm.thr R 0)
  unfold p_X6_lack
  refine lacking_y hk hW ht1 ht2 hC.2.1 hC.2.2.1 ?_
  unfold p_X7_lack
  intro R1 e1
  subst e1
  exact r_lacks_y hk hW hR.2.1.th hR.2.2.1.th2 ⟨rfl, hsm⟩
theorem sim_allBy (k : Nat) (S R : CS) (hk : k < 64) (h : Rel k S R) : p_X6_allBy S (fun r S1 => p_X7_allBy R (fun r2 R1 => r = r2 ∧ Rel (k + 1) S1 R1)) := by
  obtain ⟨d, t, pn, hW, ⟨ht1, ht2, ht3⟩, hC, hR, htr⟩ := h
  have hsm := Rel.sm hW ⟨ht1, ht2, ht3⟩ hC hR htr (CSm.rf S) (RSm.thr R 0)
  have hpc := hW.2.1.2.2.2.2.1
  have hne : ¬ nI (d 2 4) = 0 := fun q => absurd ((nI_eq (b := 0) (by omega) (by decide)).mp q) (by omega)
  unfold p_X6_allBy
  refine tobind_y hk hW ht1 ht2 hC.2.1 hC.2.2.1 ⟨by omega, ?_⟩
  unfold p_X5_pace
  refine value_y (row := 7) (i := 0) (by decide) (by decide) ?_
  unfold p_X6_cutUpwards
  rw [ht2, show S.1 (tv t) (6 * 7 + 0) = nI (d 2 4) from hC.2.1.2.2.2.2.1]
  refine br_t (nI_le (a := 1) hpc.1 (by omega)) ⟨hne, ?_⟩
  unfold p_X7_allBy
  intro R1 e1
  subst e1
  refine r_wanted_y hk hW hR.2.1.th hR.2.2.1.th2 ?_
  unfold p_X7_days
  rw [show (sti R 0 0 0).1 2 4 = nI (d 2 4) by rw [sti_ne (by omega)]; exact hR.2.1.1 4 (by decide), show (sti R 0 0 0).1 8 0 = nI (d 8 0) from RN.th hR.2.2.1 (by omega), show S.1 (mo 0) 4 = nI (d 8 0) by rw [← hC.2.2.1 0 (by omega), mv_0]]
  exact ⟨hne, rfl, hsm⟩
/-! which parts to cut -/
def gs (d : Dat) (m : Nat) : Nat → Nat
  | 0 => 0
  | n + 1 => if ((nI m >>> (nI n &&& 31)) &&& 1) = 1 then gs d m n + gN (d 3 n) (d 8 (15 + n)) (d 2 2) else gs d m n
theorem gs_s (d : Dat) (m n : Nat) : gs d m (n + 1) = if ((nI m >>> (nI n &&& 31)) &&& 1) = 1 then gs d m n + gN (d 3 n) (d 8 (15 + n)) (d 2 2) else gs d m n := rfl
theorem gfN_nI {k : Nat} {d : Dat} (hW : WF k d) {p : Nat} (hp : p < d 2 0) : gfN d p = nI (gN (d 3 p) (d 8 (15 + p)) (d 2 2)) ∧ gN (d 3 p) (d 8 (15 + p)) (d 2 2) ≤ 117 := by
  have ha := hW.2.2.1.2.2.2.2.2.2.2.2 p hp
  have hr := hW.2.1.2.2.1.2
  have hs := (hW.2.1.2.2.2.2.2.2.1 p hp).2
  exact ⟨gfI_nI _ (by omega) (by omega), gN_le hs (by omega) (by omega)⟩
theorem gs_le {k : Nat} {d : Dat} (hW : WF k d) (m : Nat) : ∀ n, n ≤ d 2 0 → gs d m n ≤ 117 * n := by
  intro n
  induction n with
  | zero => exact fun _ => Nat.le_refl 0
  | succ n ih =>
    intro hn
    have h1 := ih (by omega)
    have h2 := (gfN_nI hW (p := n) (by omega)).2
    rw [gs_s]
    by_cases c : ((nI m >>> (nI n &&& 31)) &&& 1) = 1
    · rw [if_pos c]; omega
    · rw [if_neg c]; omega
theorem gifts_y {S : CS} {k t m : Nat} {d : Dat} {post : Int32 → CS → Prop} (hW : WF k d) (ht1 : t < 2) (ht2 : S.2.1 = t) (hD : CD d t S.1) (hN : CN d S.1) (h : post (nI (gs d m (d 2 0))) S) : p_X6_giftsOf S (nI m) post := by
  have hP := hW.2.1.1
  unfold p_X6_giftsOf
  refine loop_0 (σ := Int32) (fun n o y => q_X6_giftsOf_4 (nI m) post n y (nI o) S) (fun o y => y = nI (gs d m o)) (d 2 0) 0 rfl (fun n y hI => ?_) (fun n o y ho hI ih => ?_)
  · rw [q_X6_giftsOf_4]
    unfold p_X5_parts
    rw [ht2, hD.1, hI]
    exact ⟨ht1, br_t (nI_le (Nat.le_refl _) (by omega)) h⟩
  · rw [q_X6_giftsOf_4]
    unfold p_X5_parts
    rw [ht2, hD.1, hI]
    refine ⟨ht1, br_f (nI_ge ho (by omega)) ⟨fun c => giftOf_y ht1 ht2 hD hN hP ho ?_, fun c => ?_⟩⟩
    · intro y' ey x ex
      rw [(gfN_nI hW ho).1, nI_add] at ey
      rw [ex, nI_1]
      exact ih _ (by rw [gs_s, if_pos c]; exact ey)
    · intro x ex
      rw [ex, nI_1]
      exact ih _ (by rw [gs_s, if_neg c])
def pb (m : Nat) : Nat → Nat
  | 0 => 0
  | i + 1 => pb m i + m / 2 ^ i % 2
theorem pb_s (m i : Nat) : pb m (i + 1) = pb m i + m / 2 ^ i % 2 := rfl
theorem bit_dec : ∀ m, m < 64 → ∀ i, i < 8 → ((nI m >>> (nI i &&& 31)) &&& 1) = nI (m / 2 ^ i % 2) := by decide +kernel
theorem pb_dec : ∀ m, m < 64 → pb m 8 < 7 := by decide +kernel
theorem r_ones_y {R : CS} {m : Nat} {post : Int32 → CS → Prop} (hm : m < 64) (h : post (nI (pb m 8)) R) : p_X7_ones R (nI m) post := by
  unfold p_X7_ones
  refine loop_0 (σ := Int32) (fun n i y => q_X7_ones_4 (nI m) post n y (nI i) R) (fun i y => y = nI (pb m i)) 8 0 rfl (fun n y hI => ?_) (fun n i y hi hI ih => ?_)
  · rw [q_X7_ones_4, hI]
    exact br_t (show (8 : Int32) ≤ nI 8 by decide) h
  · rw [q_X7_ones_4, hI, bit_dec m hm i hi, nI_add]
    refine br_f (nI_ge (b := 8) hi (by decide)) ?_
    intro y' ey x ex
    rw [ex, nI_1]
    exact ih _ (by rw [pb_s]; exact ey)
def bcI (x0 : Int32) : Int32 :=
  let a := (x0 - (((x0.toUInt32 >>> ((1 : Int32).toUInt32 &&& Int32.toUInt32 31)).toInt32) &&& 1431655765))
  let b := ((a &&& 858993459) + (((a.toUInt32 >>> ((2 : Int32).toUInt32 &&& Int32.toUInt32 31)).toInt32) &&& 858993459))
  let c := ((b + ((b.toUInt32 >>> ((4 : Int32).toUInt32 &&& Int32.toUInt32 31)).toInt32)) &&& 252645135)
  let e := (c + ((c.toUInt32 >>> ((8 : Int32).toUInt32 &&& Int32.toUInt32 31)).toInt32))
  let f := (e + ((e.toUInt32 >>> ((16 : Int32).toUInt32 &&& Int32.toUInt32 31)).toInt32))
  f &&& 63
theorem bc_dec : ∀ m, m < 64 → bcI (nI m) = nI (pb m 8) := by decide +kernel
theorem bc_y {S : CS} {m : Nat} {post : Int32 → CS → Prop} (hm : m < 64) (h : post (nI (pb m 8)) S) : p_J6_bitCount_0f7a4 S (nI m) post := by
  unfold p_J6_bitCount_0f7a4
  intro a ea b eb c ec e ee f ef
  subst ea eb ec ee ef
  rw [← bc_dec m hm] at h
  exact h
theorem two_dec : ∀ P, P < 7 → 1 <<< (nI P &&& 31) = nI (2 ^ P) ∧ 2 ^ P ≤ 64 := by decide +kernel
/-- the sets of parts below m: the best -/
def bs (d : Dat) : Nat → Option Nat
  | 0 => none
  | m + 1 => match bs d m with
    | none => if lk d ≤ gs d m (d 2 0) then some m else none
    | some b => if pb m 8 < pb b 8 ∧ lk d ≤ gs d m (d 2 0) then some m else some b
theorem bs_n {d : Dat} {m : Nat} (h : bs d m = none) : bs d (m + 1) = if lk d ≤ gs d m (d 2 0) then some m else none := by
  show (match bs d m with
    | none => if lk d ≤ gs d m (d 2 0) then some m else none
    | some b => if pb m 8 < pb b 8 ∧ lk d ≤ gs d m (d 2 0) then some m else some b) = _
  rw [h]
theorem bs_y {d : Dat} {m b : Nat} (h : bs d m = some b) : bs d (m + 1) = if pb m 8 < pb b 8 ∧ lk d ≤ gs d m (d 2 0) then some m else some b := by
  show (match bs d m with
    | none => if lk d ≤ gs d m (d 2 0) then some m else none
    | some b => if pb m 8 < pb b 8 ∧ lk d ≤ gs d m (d 2 0) then some m else some b) = _
  rw [h]
theorem bs_lt {d : Dat} : ∀ m b, bs d m = some b → b < m := by
  intro m
  induction m with
  | zero => intro b h; exact nomatch h
  | succ m ih =>
    intro b h
    cases hb : bs d m with
    | none =>
      rw [bs_n hb] at h
      by_cases c : lk d ≤ gs d m (d 2 0)
      · rw [if_pos c] at h; cases h; omega
      · rw [if_neg c] at h; cases h
    | some b' =>
      rw [bs_y hb] at h
      have := ih b' hb
      by_cases c : pb m 8 < pb b' 8 ∧ lk d ≤ gs d m (d 2 0)
      · rw [if_pos c] at h; cases h; omega
      · rw [if_neg c] at h; cases h; omega
def oI (o : Option Nat) : Int32 := match o with
  | none => -9
  | some b => nI b
def oP (o : Option Nat) : Int32 := match o with
  | none => 7
  | some b => nI (pb b 8)
theorem ne9 : ∀ b, b < 64 → ¬ nI b = -9 := by decide +kernel
theorem sim_cutFor (k : Nat) (S R : CS) (hk : k < 64) (h : Rel k S R) : p_X6_cutFor S (fun r S1 => p_X7_cutFor R (fun r2 R1 => r = r2 ∧ Rel (k + 1) S1 R1)) := by
  obtain ⟨d, t, pn, hW, ⟨ht1, ht2, ht3⟩, hC, hR, htr⟩ := h
  have hsm := Rel.sm hW ⟨ht1, ht2, ht3⟩ hC hR htr (CSm.rf S) (RSm.thr R 0)
  have hP := hW.2.1.1
  obtain ⟨p1, p2⟩ := two_dec (d 2 0) (by omega)
  obtain ⟨N, hN⟩ : ∃ N, N = 2 ^ d 2 0 := ⟨_, rfl⟩
  rw [← hN] at p1 p2
  have hlk : lk d ≤ 7200 := by
    have := lk_le hW.2.1
    unfold lk
    omega
  unfold p_X6_cutFor
  refine lacking_y hk hW ht1 ht2 hC.2.1 hC.2.2.1 ⟨by omega, ?_⟩
  unfold p_X5_parts
  rw [ht2, hC.2.1.1]
  intro x2 ex2
  rw [p1] at ex2
  rw [ex2]
  refine loop_0 (σ := Int32 × Int32) (fun n m s => q_X6_cutFor_25 _ n (nI (lk d)) (nI N) s.1 s.2 (nI m) S) (fun m s => s.1 = oI (bs d m) ∧ s.2 = oP (bs d m)) N (-9, 7) ⟨rfl, rfl⟩ (fun n s hI => ?_) (fun n m s hm hI ih => ?_)
  · rw [q_X6_cutFor_25, hI.1]
    refine br_t (nI_le (Nat.le_refl _) (by omega)) ?_
    unfold p_X7_cutFor
    intro R1 e1
    subst e1
    have hD' : RD d (sti R 0 0 0).1 := hR.2.1.th
    have hN' : RN d (sti R 0 0 0).1 := hR.2.2.1.th2
    refine loop_0 (σ := Int32) (fun n m y => q_X7_cutFor_10 _ n y (nI m) (sti R 0 0 0)) (fun m y => y = oI (bs d m)) N (-9) rfl (fun n y hI => ?_) (fun n m y hm hI ih => ?_)
    · rw [q_X7_cutFor_10, hD'.1 0 (by decide), p1, hI]
      exact br_t (nI_le (Nat.le_refl _) (by omega)) ⟨rfl, hsm⟩
    · rw [q_X7_cutFor_10, hD'.1 0 (by decide), p1, hI]
      refine br_f (nI_ge hm (by omega)) ?_
      refine loop_0 (σ := Int32) (fun n i y => q_X7_cutFor_27 _ _ n (oI (bs d m)) (nI m) y (nI i) (sti R 0 0 0)) (fun i y => y = nI (gs d m i)) (d 2 0) 0 rfl (fun n2 y hI => ?_) (fun n2 i y hi hI ih2 => ?_)
      · rw [q_X7_cutFor_27, hD'.1 0 (by decide), hI]
        have hgl := gs_le hW m (d 2 0) (Nat.le_refl _)
        refine br_t (nI_le (Nat.le_refl _) (by omega)) (r_lacks_y hk hW hD' hN' ⟨fun c => ?_, fun c => ?_⟩)
        · have hlt : gs d m (d 2 0) < lk d := (nI_ltI (by omega) (by omega)).mp c
          intro x ex
          rw [ex, nI_1]
          refine ih _ ?_
          cases hb : bs d m with
          | none => rw [bs_n hb, if_neg (by omega)]
          | some b => rw [bs_y hb, if_neg (by omega)]
        · have hle : lk d ≤ gs d m (d 2 0) := by
            rcases Nat.lt_or_ge (gs d m (d 2 0)) (lk d) with z | z
            · exact absurd (nI_lt z (by omega)) c
            · exact z
          unfold q_X7_cutFor_96
          cases hb : bs d m with
          | none =>
            refine br_t rfl ?_
            intro x ex
            rw [ex, nI_1]
            exact ih _ (by rw [bs_n hb, if_pos hle]; rfl)
          | some b =>
            have hbm := bs_lt m b hb
            have hpb := pb_dec b (by omega)
            have hpm := pb_dec m (by omega)
            refine br_f (ne9 b (by omega)) (r_ones_y (by omega) (r_ones_y (m := b) (by omega) ⟨fun q => ?_, fun q => ?_⟩))
            · have hq : pb b 8 ≤ pb m 8 := (nI_leI (by omega) (by omega)).mp q
              intro x ex
              rw [ex, nI_1]
              exact ih _ (by rw [bs_y hb, if_neg (by omega)])
            · have hq : pb m 8 < pb b 8 := by
                rcases Nat.lt_or_ge (pb m 8) (pb b 8) with z | z
                · exact z
                · exact absurd (nI_le z (by omega)) q
              intro x ex
              rw [ex, nI_1]
              exact ih _ (by rw [bs_y hb, if_pos ⟨hq, hle⟩]; rfl)
      · rw [q_X7_cutFor_27, hD'.1 0 (by decide), hI]
        refine br_f (nI_ge hi (by omega)) ⟨fun c => r_gives_y (d := d) (a := nI (d 8 (15 + i))) (hD'.1 2 (by decide)) (hD'.2.1 i hi) (hN' (15 + i) (by omega)) (by omega) ?_, fun c => ?_⟩
        · intro y' ey x ex
          rw [show gfI (nI (d 3 i)) (nI (d 8 (15 + i))) (nI (d 2 2)) = nI (gN (d 3 i) (d 8 (15 + i)) (d 2 2)) from (gfN_nI hW hi).1, nI_add] at ey
          rw [ex, nI_1]
          exact ih2 _ (by rw [gs_s, if_pos c]; exact ey)
        · intro y' ey x ex
          rw [ex, nI_1]
          exact ih2 _ (by rw [gs_s, if_neg c, ey, Int32.add_zero])
  · rw [q_X6_cutFor_25, hI.1, hI.2]
    have hpm := pb_dec m (by omega)
    have hgl := gs_le hW m (d 2 0) (Nat.le_refl _)
    refine br_f (nI_ge hm (by omega)) (bc_y (by omega) ?_)
    cases hb : bs d m with
    | none =>
      refine br_f (show ¬ (7 : Int32) ≤ nI (pb m 8) from nI_ge (a := pb m 8) (b := 7) hpm (by decide)) (gifts_y hW ht1 ht2 hC.2.1 hC.2.2.1 ⟨fun c => ?_, fun c => ?_⟩)
      · have hlt : gs d m (d 2 0) < lk d := (nI_ltI (by omega) (by omega)).mp c
        intro x ex
        rw [ex, nI_1]
        exact ih (-9, 7) (by rw [bs_n hb, if_neg (by omega)]; exact ⟨rfl, rfl⟩)
      · have hle : lk d ≤ gs d m (d 2 0) := by
          rcases Nat.lt_or_ge (gs d m (d 2 0)) (lk d) with z | z
          · exact absurd (nI_lt z (by omega)) c
          · exact z
        intro x ex
        rw [ex, nI_1]
        exact ih (nI m, nI (pb m 8)) (by rw [bs_n hb, if_pos hle]; exact ⟨rfl, rfl⟩)
    | some b =>
      have hbm := bs_lt m b hb
      have hpb := pb_dec b (by omega)
      refine ⟨fun q => ?_, fun q => gifts_y hW ht1 ht2 hC.2.1 hC.2.2.1 ⟨fun c => ?_, fun c => ?_⟩⟩
      · have hq : pb b 8 ≤ pb m 8 := (nI_leI (by omega) (by omega)).mp q
        intro x ex
        rw [ex, nI_1]
        exact ih (nI b, nI (pb b 8)) (by rw [bs_y hb, if_neg (by omega)]; exact ⟨rfl, rfl⟩)
      · have hlt : gs d m (d 2 0) < lk d := (nI_ltI (by omega) (by omega)).mp c
        intro x ex
        rw [ex, nI_1]
        exact ih (nI b, nI (pb b 8)) (by rw [bs_y hb, if_neg (by omega)]; exact ⟨rfl, rfl⟩)
      · have hle : lk d ≤ gs d m (d 2 0) := by
          rcases Nat.lt_or_ge (gs d m (d 2 0)) (lk d) with z | z
          · exact absurd (nI_lt z (by omega)) c
          · exact z
        have hq : pb m 8 < pb b 8 := by
          rcases Nat.lt_or_ge (pb m 8) (pb b 8) with z | z
          · exact z
          · exact absurd (show oP (some b) ≤ nI (pb m 8) from nI_le z (by omega)) q
        intro x ex
        rw [ex, nI_1]
        exact ih (nI m, nI (pb m 8)) (by rw [bs_y hb, if_pos ⟨hq, hle⟩]; exact ⟨rfl, rfl⟩)
