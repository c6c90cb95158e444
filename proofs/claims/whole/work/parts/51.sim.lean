/-! small steps -/
theorem mv_0 (v : Mem) (m : Nat) : mv v m 0 = v (mo m) 4 := rfl
theorem mv_1 (v : Mem) (m : Nat) : mv v m 1 = v (mo m) 7 := rfl
theorem mv_2 (v : Mem) (m : Nat) : mv v m 2 = v (mo m) 2 := rfl
theorem mv_3 (v : Mem) (m : Nat) : mv v m 3 = v (mo m) 3 := rfl
theorem mv_4 (v : Mem) (m : Nat) : mv v m 4 = v (mo m) 5 := rfl
theorem mv_5 (v : Mem) (m : Nat) : mv v m 5 = v (mo m) 6 := rfl
theorem mv_6 (v : Mem) (m : Nat) : mv v m 6 = v (bo (m + 1)) 1 := rfl
theorem mv_l (v : Mem) (m : Nat) {j : Nat} (h : j < 8) : mv v m (7 + j) = v (bl (m + 1)) j := by
  unfold mv
  rw [if_neg (by omega), if_neg (by omega), if_neg (by omega), if_neg (by omega), if_neg (by omega), if_neg (by omega), if_neg (by omega), if_pos (by omega), Nat.add_sub_cancel_left]
theorem mv_a (v : Mem) (m : Nat) (j : Nat) : mv v m (15 + j) = v (mg m) j := by
  unfold mv
  rw [if_neg (by omega), if_neg (by omega), if_neg (by omega), if_neg (by omega), if_neg (by omega), if_neg (by omega), if_neg (by omega), if_neg (by omega), Nat.add_sub_cancel_left]
theorem sti_ne {S : CS} {k j : Nat} {x : Int32} {k' j' : Nat} (h : ¬ (k' = k ∧ j' = j)) : (sti S k j x).1 k' j' = S.1 k' j' := by rw [sti_1, if_neg h]
theorem sti_eq {S : CS} {k j : Nat} {x : Int32} : (sti S k j x).1 k j = x := by rw [sti_1, if_pos ⟨rfl, rfl⟩]
theorem sti_22 (S : CS) (k j : Nat) (x : Int32) : (sti S k j x).2 = S.2 := rfl
-- the reference's 'in'
theorem in_n {S : CS} {x a b : Int32} {post : Int32 → CS → Prop} (h : x < a ∨ b < x) (hp : post 0 S) : p_X7_in S x a b post := by
  unfold p_X7_in
  refine ⟨fun _ => hp, fun c => ⟨fun _ => hp, fun c2 => ?_⟩⟩
  rcases h with h | h
  · exact absurd h c
  · exact absurd h c2
theorem in_y {S : CS} {x a b : Int32} {post : Int32 → CS → Prop} (h1 : ¬ x < a) (h2 : ¬ b < x) (hp : post 1 S) : p_X7_in S x a b post := by
  unfold p_X7_in
  exact ⟨fun c => absurd c h1, fun _ => ⟨fun c => absurd c h2, fun _ => hp⟩⟩
theorem lt_of_nI_le {x : Int32} {a b : Nat} (h : nI b ≤ x) (hab : a < b) (hb : b < 2 ^ 31) : nI a < x := by
  rw [Int32.le_iff_toInt_le, nI_toInt hb] at h
  rw [Int32.lt_iff_toInt_lt, nI_toInt (by omega)]
  omega
theorem nlt_of_nI_le {x : Int32} {a : Nat} (h : nI a ≤ x) (ha : a < 2 ^ 31) : ¬ x < 0 := by
  rw [Int32.le_iff_toInt_le, nI_toInt ha] at h
  rw [Int32.lt_iff_toInt_lt]
  have : (0 : Int32).toInt = 0 := rfl
  omega
theorem nle_of_nI_le {x : Int32} {a b : Nat} (h : nI b ≤ x) (hab : a < b) (hb : b < 2 ^ 31) : ¬ x ≤ nI a := by
  rw [Int32.le_iff_toInt_le, nI_toInt hb] at h
  rw [Int32.le_iff_toInt_le, nI_toInt (by omega)]
  omega
theorem nle_of_neg {x : Int32} {a : Nat} (h : x < 0) (ha : a < 2 ^ 31) : ¬ nI a ≤ x := by
  rw [Int32.lt_iff_toInt_lt] at h
  rw [Int32.le_iff_toInt_le, nI_toInt ha]
  have : (0 : Int32).toInt = 0 := rfl
  omega
theorem in_yN {S : CS} {j a b : Nat} {post : Int32 → CS → Prop} (ha : a ≤ j) (hb : j ≤ b) (hb2 : b < 2 ^ 31) (hp : post 1 S) : p_X7_in S (nI j) (nI a) (nI b) post := in_y (nI_nlt ha (by omega)) (nI_nlt hb (by omega)) hp
theorem ne10 : ¬ (1 : Int32) = 0 := by decide
theorem nrw0 : narrow .boolean (.int 0) = .int 0 := rfl
theorem nrw1 : narrow .boolean (.int 1) = .int 1 := rfl
-- parts and orders of the class
theorem isPart_y {S : CS} {t P j : Nat} {post : Int32 → CS → Prop} (ht : S.2.1 = t) (ht2 : t < 2) (hP : S.1 (tm t) 0 = nI P) (hP6 : P ≤ 6) (hj : j < P) (hp : post 1 S) : p_X6_isPart S (nI j) post := by
  unfold p_X6_isPart p_X5_parts
  rw [ht, hP]
  exact ⟨fun c => absurd c (nI_pos (by omega)), fun _ => ⟨ht2, fun c => absurd c (nI_ge hj (by omega)), fun _ => hp⟩⟩
theorem isPart_n {S : CS} {t P : Nat} {x : Int32} {post : Int32 → CS → Prop} (ht : S.2.1 = t) (ht2 : t < 2) (hP : S.1 (tm t) 0 = nI P) (h : x < 0 ∨ nI P ≤ x) (hp : post 0 S) : p_X6_isPart S x post := by
  unfold p_X6_isPart p_X5_parts
  rw [ht, hP]
  refine ⟨fun _ => hp, fun c => ⟨ht2, fun _ => hp, fun c2 => ?_⟩⟩
  rcases h with h | h
  · exact absurd h c
  · exact absurd h c2
theorem isOrder_y {S : CS} {t P j : Nat} {post : Int32 → CS → Prop} (ht : S.2.1 = t) (ht2 : t < 2) (hP : S.1 (tm t) 1 = nI P) (hP6 : P ≤ 6) (hj : j < P) (hp : post 1 S) : p_X6_isOrder S (nI j) post := by
  unfold p_X6_isOrder p_X5_orders
  rw [ht, hP]
  exact ⟨fun c => absurd c (nI_pos (by omega)), fun _ => ⟨ht2, fun c => absurd c (nI_ge hj (by omega)), fun _ => hp⟩⟩
theorem isOrder_n {S : CS} {t P : Nat} {x : Int32} {post : Int32 → CS → Prop} (ht : S.2.1 = t) (ht2 : t < 2) (hP : S.1 (tm t) 1 = nI P) (h : x < 0 ∨ nI P ≤ x) (hp : post 0 S) : p_X6_isOrder S x post := by
  unfold p_X6_isOrder p_X5_orders
  rw [ht, hP]
  refine ⟨fun _ => hp, fun c => ⟨ht2, fun _ => hp, fun c2 => ?_⟩⟩
  rcases h with h | h
  · exact absurd h c
  · exact absurd h c2
theorem r_isPart_y {S : CS} {P j : Nat} {post : Int32 → CS → Prop} (hP : S.1 2 0 = nI P) (hP6 : P ≤ 6) (hj : j < P) (hp : post 1 S) : p_X7_isPart S (nI j) post := by
  unfold p_X7_isPart
  rw [hP, show nI P - 1 = nI (P - 1) by rw [show P = (P - 1) + 1 by omega, nI_pred]; simp]
  exact in_yN (a := 0) (Nat.zero_le j) (by omega) (by omega) ⟨nrw1, hp⟩
theorem gt_of_ix {P : Nat} {x : Int32} (hP6 : P ≤ 6) (h : x < 0 ∨ nI P ≤ x) : x < 0 ∨ nI P - 1 < x := by
  rcases h with h | h
  · exact Or.inl h
  · right
    rw [Int32.le_iff_toInt_le, nI_toInt (by omega)] at h
    rw [Int32.lt_iff_toInt_lt, show (1 : Int32) = nI 1 from rfl, pk_sub_toInt (by omega) (by omega)]
    omega
theorem r_isPart_n {S : CS} {P : Nat} {x : Int32} {post : Int32 → CS → Prop} (hP : S.1 2 0 = nI P) (hP6 : P ≤ 6) (h : x < 0 ∨ nI P ≤ x) (hp : post 0 S) : p_X7_isPart S x post := by
  unfold p_X7_isPart
  rw [hP]
  exact in_n (gt_of_ix hP6 h) ⟨nrw0, hp⟩
theorem r_isOrder_y {S : CS} {P j : Nat} {post : Int32 → CS → Prop} (hP : S.1 2 1 = nI P) (hP6 : P ≤ 6) (hj : j < P) (hp : post 1 S) : p_X7_isOrder S (nI j) post := by
  unfold p_X7_isOrder
  rw [hP, show nI P - 1 = nI (P - 1) by rw [show P = (P - 1) + 1 by omega, nI_pred]; simp]
  exact in_yN (a := 0) (Nat.zero_le j) (by omega) (by omega) ⟨nrw1, hp⟩
theorem r_isOrder_n {S : CS} {P : Nat} {x : Int32} {post : Int32 → CS → Prop} (hP : S.1 2 1 = nI P) (hP6 : P ≤ 6) (h : x < 0 ∨ nI P ≤ x) (hp : post 0 S) : p_X7_isOrder S x post := by
  unfold p_X7_isOrder
  rw [hP]
  exact in_n (gt_of_ix hP6 h) ⟨nrw0, hp⟩
theorem ix3 (x : Int32) {n : Nat} (hn : n < 2 ^ 31) : (x < 0 ∨ nI n ≤ x) ∨ ∃ j : Nat, j < n ∧ x = nI j := by
  rcases pk_ix x hn with h | h | h
  · exact Or.inl (Or.inl h)
  · exact Or.inl (Or.inr h)
  · exact Or.inr h
theorem value_y {S : CS} {t row i : Nat} {post : Int32 → CS → Prop} (hr : row < 9) (hi : i < 6) (hp : post (S.1 (tv t) (6 * row + i)) S) : p_X5_value S t (nI row) (nI i) post := by
  unfold p_X5_value p_X5_isPlace
  have e1 : nI row * 6 + nI i = nI (6 * row + i) := by rw [show (6 : Int32) = nI 6 from rfl, pk_mul, nI_add, Nat.mul_comm]
  refine ⟨fun c => absurd c (nI_pos (by omega)), fun _ => ⟨fun c => absurd c (nI_ge (b := 9) hr (by decide)), fun _ => ⟨fun c => absurd c (nI_pos (by omega)), fun _ => ⟨fun c => absurd c (nI_ge (b := 6) hi (by decide)), fun _ => ⟨fun c => absurd c ne10, fun _ => ?_⟩⟩⟩⟩⟩
  rw [e1, nI_clamp (by omega)]
  exact ⟨vp_in_nI (by omega) (by decide), hp⟩
theorem age_y {S : CS} {m i : Nat} {post : Int32 → CS → Prop} (hi : i < 6) (hp : post (S.1 (mg m) i) S) : p_X1_age S m (nI i) post := by
  unfold p_X1_age
  rw [nI_clamp (by omega)]
  exact ⟨fun c => absurd c (nI_pos (by omega)), fun _ => ⟨fun _ => ⟨vp_in_nI hi (by decide), hp⟩, fun c => absurd (nI_lt (b := 6) hi (by decide)) c⟩⟩
/-- what a part gives, as both sides reckon it -/
def gfI (s a r : Int32) : Int32 := if r < a then (if (r - 2) - (a - r) ≤ 0 then 0 else s * ((r - 2) - (a - r))) else (if a - 2 ≤ 0 then 0 else s * (a - 2))
theorem gift_y {S : CS} {s a r : Int32} {post : Int32 → CS → Prop} (hp : post (gfI s a r) S) : p_X6_gift S s a r post := by
  unfold p_X6_gift q_X6_gift_18
  unfold gfI at hp
  refine ⟨fun c => ⟨fun c2 => ?_, fun c2 => ?_⟩, fun c => ⟨fun c2 => ?_, fun c2 => ?_⟩⟩
  · rw [if_pos c, if_pos c2] at hp; exact hp
  · rw [if_pos c, if_neg c2] at hp; exact hp
  · rw [if_neg c, if_pos c2] at hp; exact hp
  · rw [if_neg c, if_neg c2] at hp; exact hp
theorem gf_ring (a r : Int32) : (r - 2) - (a - r) = 2 * r - 2 - a := by
  apply Int32.toBitVec_inj.mp
  simp only [Int32.toBitVec_sub, Int32.toBitVec_mul]
  generalize a.toBitVec = x
  generalize r.toBitVec = y
  have e2 : (2 : Int32).toBitVec = 2#32 := rfl
  rw [e2]
  bv_omega
theorem i_le0 {z : Int32} (h : 0 ≤ z) (h2 : z ≤ 0) : z = 0 := by
  rw [Int32.le_iff_toInt_le] at h h2
  exact Int32.toInt_inj.mp (by omega)
theorem i_nle0 {z : Int32} (h : ¬ 0 ≤ z) : z ≤ 0 := by
  rw [Int32.le_iff_toInt_le] at h ⊢
  omega
theorem r_givesAt_y {S : CS} {s a : Int32} {post : Int32 → CS → Prop} (hp : post (gfI s a (S.1 2 2)) S) : p_X7_givesAt S s a post := by
  unfold p_X7_givesAt q_X7_givesAt_28
  generalize S.1 2 2 = r at hp ⊢
  have key : ∀ z : Int32, post (if z ≤ 0 then 0 else s * z) S → (0 ≤ z → post (s * z) S) ∧ (¬ 0 ≤ z → post 0 S) := by
    intro z hz
    refine ⟨fun c => ?_, fun c => ?_⟩
    · by_cases h : z ≤ 0
      · rw [if_pos h] at hz
        rw [i_le0 c h, Int32.mul_zero]
        exact hz
      · rw [if_neg h] at hz
        exact hz
    · rw [if_pos (i_nle0 c)] at hz
      exact hz
  unfold gfI at hp
  refine ⟨fun c => ?_, fun c => ?_⟩
  · rw [if_pos c, gf_ring] at hp
    exact key _ hp
  · rw [if_neg c] at hp
    exact key _ hp
