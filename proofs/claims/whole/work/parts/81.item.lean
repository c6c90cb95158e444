/-! heads, numbers: reference -/
def RC (R : CS) (f : TFt) (p : Nat) : Prop := R.1 0 4 = nI (f p).2.1 ∧ R.1 0 6 = nI (f p).1 ∧ R.1 0 5 = rt (f p).2.2.1 (f p).2.2.2 ∧ ((f p).2.2.1 = 1 ∨ (f p).2.2.1 = 2 → R.1 0 7 = nI (f p).2.2.2)
theorem RC.st {R R1 : CS} {f : TFt} {p c i : Nat} {x : Int32} (h : RC R f p) (e : R1 = sti R c i x) (hn : c ≠ 0 ∨ 8 ≤ i) : RC R1 f p := ⟨by rw [e, sti_ne (by omega)]; exact h.1, by rw [e, sti_ne (by omega)]; exact h.2.1, by rw [e, sti_ne (by omega)]; exact h.2.2.1, fun w => by rw [e, sti_ne (by omega)]; exact h.2.2.2 w⟩
/-- what reading leaves alone in the reference -/
def Rw (c i : Nat) : Prop := (c = 0 ∧ (i = 3 ∨ 11 ≤ i)) ∨ c = 1 ∨ ((c = 2 ∨ c = 3 ∨ c = 5 ∨ c = 6 ∨ c = 7) ∧ i < 6) ∨ 8 ≤ c
theorem Fr.w {R R1 : CS} (h : Fr Rt R R1) : Fr Rw R R1 := h.mono (fun c i w => by unfold Rw at w; unfold Rt; omega)
theorem RTx.st {R R1 : CS} {T : Nat → Nat} {n c i : Nat} {x : Int32} (h : RTx R T n) (e : R1 = sti R c i x) (hn : (c ≠ 0 ∨ i ≠ 3) ∧ c ≠ 1) : RTx R1 T n := ⟨by rw [e, sti_ne (by omega)]; exact h.1, fun j hj => by rw [e, sti_ne (by omega)]; exact h.2 j hj⟩
theorem rt_0 {k v : Nat} : rt k v = 0 ↔ k = 0 := by
  unfold rt
  by_cases k0 : k = 0
  · rw [if_pos k0]; exact ⟨fun _ => k0, fun _ => rfl⟩
  · rw [if_neg k0]
    refine ⟨fun w => ?_, fun w => absurd w k0⟩
    by_cases k1 : k = 1
    · rw [if_pos k1] at w
      by_cases v1 : v = 59
      · rw [if_pos v1] at w; exact absurd w (by decide)
      · rw [if_neg v1] at w
        by_cases v2 : v = 119 ∨ v = 111 ∨ v = 114 ∨ v = 116 ∨ v = 112 ∨ v = 108
        · rw [if_pos v2] at w; exact absurd w (by decide)
        · rw [if_neg v2] at w; exact absurd w (by decide)
    · rw [if_neg k1] at w
      by_cases k2 : k = 2
      · rw [if_pos k2] at w; exact absurd w (by decide)
      · rw [if_neg k2] at w; exact absurd w (by decide)
theorem rt_1 {k v : Nat} : rt k v = 1 ↔ (k = 1 ∧ (v = 119 ∨ v = 111 ∨ v = 114 ∨ v = 116 ∨ v = 112 ∨ v = 108)) := by
  constructor
  · intro w
    unfold rt at w
    by_cases k0 : k = 0
    · rw [if_pos k0] at w; exact absurd w (by decide)
    · rw [if_neg k0] at w
      by_cases k1 : k = 1
      · rw [if_pos k1] at w
        by_cases v1 : v = 59
        · rw [if_pos v1] at w; exact absurd w (by decide)
        · rw [if_neg v1] at w
          by_cases v2 : v = 119 ∨ v = 111 ∨ v = 114 ∨ v = 116 ∨ v = 112 ∨ v = 108
          · exact ⟨k1, v2⟩
          · rw [if_neg v2] at w; exact absurd w (by decide)
      · rw [if_neg k1] at w
        by_cases k2 : k = 2
        · rw [if_pos k2] at w; exact absurd w (by decide)
        · rw [if_neg k2] at w; exact absurd w (by decide)
  · rintro ⟨k1, v2⟩
    unfold rt
    rw [if_neg (by omega), if_pos k1, if_neg (by omega), if_pos v2]
theorem rt_2 {k v : Nat} : rt k v = 2 ↔ k = 2 := by
  constructor
  · intro w
    unfold rt at w
    by_cases k0 : k = 0
    · rw [if_pos k0] at w; exact absurd w (by decide)
    · rw [if_neg k0] at w
      by_cases k1 : k = 1
      · rw [if_pos k1] at w
        by_cases v1 : v = 59
        · rw [if_pos v1] at w; exact absurd w (by decide)
        · rw [if_neg v1] at w
          by_cases v2 : v = 119 ∨ v = 111 ∨ v = 114 ∨ v = 116 ∨ v = 112 ∨ v = 108
          · rw [if_pos v2] at w; exact absurd w (by decide)
          · rw [if_neg v2] at w; exact absurd w (by decide)
      · rw [if_neg k1] at w
        by_cases k2 : k = 2
        · exact k2
        · rw [if_neg k2] at w; exact absurd w (by decide)
  · intro w
    unfold rt
    rw [if_neg (by omega), if_neg (by omega), if_pos w]
theorem rt_3 {k v : Nat} : rt k v = 3 ↔ (k = 1 ∧ v = 59) := by
  constructor
  · intro w
    unfold rt at w
    by_cases k0 : k = 0
    · rw [if_pos k0] at w; exact absurd w (by decide)
    · rw [if_neg k0] at w
      by_cases k1 : k = 1
      · rw [if_pos k1] at w
        by_cases v1 : v = 59
        · exact ⟨k1, v1⟩
        · rw [if_neg v1] at w
          by_cases v2 : v = 119 ∨ v = 111 ∨ v = 114 ∨ v = 116 ∨ v = 112 ∨ v = 108
          · rw [if_pos v2] at w; exact absurd w (by decide)
          · rw [if_neg v2] at w; exact absurd w (by decide)
      · rw [if_neg k1] at w
        by_cases k2 : k = 2
        · rw [if_pos k2] at w; exact absurd w (by decide)
        · rw [if_neg k2] at w; exact absurd w (by decide)
  · rintro ⟨k1, v2⟩
    unfold rt
    rw [if_neg (by omega), if_pos k1, if_pos v2]
theorem r_well {R : CS} {post : Int32 → CS → Prop} (h8 : R.1 0 8 = -1) (h : post 1 R) : p_X7_isWell R post := by
  unfold p_X7_isWell
  rw [h8]
  exact br_f (by decide) h
theorem r_ill {R : CS} {q : Nat} {post : Int32 → CS → Prop} (h8 : R.1 0 8 = nI q) (hq : q < 2 ^ 31) (h : post 0 R) : p_X7_isWell R post := by
  unfold p_X7_isWell
  rw [h8]
  exact br_t (nI_pos' hq) h
theorem r_takes_ill {R : CS} {q : Nat} {x : Int32} {post : Int32 → CS → Prop} (h8 : R.1 0 8 = nI q) (hq : q < 2 ^ 31) (h : post 0 R) : p_X7_takes R x post := by
  unfold p_X7_takes
  exact r_ill h8 hq (c00 h)
theorem r_takes_0 {R : CS} {q : Nat} {post : Int32 → CS → Prop} (h8 : R.1 0 8 = -1) (h6 : R.1 0 6 = nI q) (h : ∀ R1 : CS, R1 = sti R 0 8 (nI q) → post 0 R1) : p_X7_takes R 0 post := by
  unfold p_X7_takes
  refine r_well h8 (c01 (c00 ?_))
  intro u eu R1 e1
  rw [h6] at eu
  rw [eu] at e1
  exact h R1 e1
theorem r_takes_1 {R : CS} {T : Nat → Nat} {n p : Nat} {f : TFt} {post : Int32 → CS → Prop} (hf : TF T n f) (hT : RTx R T n) (hc : RC R f p) (hp : p ≤ n) (h8 : R.1 0 8 = -1) (h : ∀ R1 : CS, Fr Rt R R1 → RTx R1 T n → RC R1 f (f p).2.1 → R1.1 0 8 = -1 → post (R.1 0 7) R1) : p_X7_takes R 1 post := by
  unfold p_X7_takes
  refine r_well h8 (c01 (c01 ?_))
  intro x ex
  rw [ex]
  have he : (f p).2.1 ≤ n := (hf p hp).1.2.1
  exact (hf _ he).2.2 R _ hT hc.1 (fun R1 a1 a2 a3 a4 a5 => h R1 a1 (hT.fr a1) ⟨a2, a3, a4, a5⟩ (by rw [a1.1 0 8 (by unfold Rt; omega)]; exact h8))
theorem r_num_ok {R : CS} {T : Nat → Nat} {n p a b : Nat} {f : TFt} {post : Int32 → CS → Prop} (hf : TF T n f) (hT : RTx R T n) (hc : RC R f p) (hp : p ≤ n) (h8 : R.1 0 8 = -1) (hb : b ≤ 99) (hok : NumOk f a b p) (h : ∀ R1 : CS, Fr Rt R R1 → RTx R1 T n → RC R1 f (f p).2.1 → R1.1 0 8 = -1 → post (nI (f p).2.2.2) R1) : p_X7_number R (nI a) (nI b) post := by
  unfold p_X7_number
  rw [hc.2.2.1, hc.2.2.2 (Or.inr hok.1)]
  refine br_t (rt_2.mpr hok.1) (in_yN hok.2.1 hok.2.2 (by omega) (c01 (r_takes_1 hf hT hc hp h8 (fun R1 a1 a2 a3 a4 => ?_))))
  rw [hc.2.2.2 (Or.inr hok.1)]
  exact h R1 a1 a2 a3 a4
theorem r_num_no {R : CS} {T : Nat → Nat} {n p a b : Nat} {f : TFt} {post : Int32 → CS → Prop} (hf : TF T n f) (hc : RC R f p) (hp : p ≤ n) (h8 : R.1 0 8 = -1) (ha : a ≤ 99) (hno : ¬ NumOk f a b p) (h : ∀ R1 : CS, R1 = sti R 0 8 (nI (f p).1) → post 0 R1) : p_X7_number R (nI a) (nI b) post := by
  unfold p_X7_number
  rw [hc.2.2.1]
  refine ⟨fun c => ?_, fun c => r_takes_0 h8 hc.2.1 h⟩
  have hk := rt_2.mp c
  have hv := (hf p hp).1.2.2.2.2.2 hk
  rw [hc.2.2.2 (Or.inr hk)]
  refine in_n ?_ (c00 (r_takes_0 h8 hc.2.1 h))
  rcases Nat.lt_or_ge (f p).2.2.2 a with z | z
  · exact Or.inl (nI_lt z (by omega))
  · refine Or.inr (nI_lt ?_ (by omega))
    rcases Nat.lt_or_ge b (f p).2.2.2 with w | w
    · exact w
    · exact absurd ⟨hk, z, w⟩ hno
theorem r_num_ill {R : CS} {q : Nat} {a b : Int32} {post : Int32 → CS → Prop} (h8 : R.1 0 8 = nI q) (hq : q < 2 ^ 31) (h : post 0 R) : p_X7_number R a b post := by
  unfold p_X7_number p_X7_in
  have z := r_takes_ill (x := 0) h8 hq h
  exact ⟨fun _ => ⟨fun _ => c00 z, fun _ => ⟨fun _ => c00 z, fun _ => c01 (r_takes_ill h8 hq h)⟩⟩, fun _ => z⟩
def RBt (R : CS) (D : DS) : Prop := ∃ b, b < 64 ∧ R.1 0 10 = nI b ∧ ∀ h, 2 ≤ h → h < 6 → (((nI b >>> (nI h &&& 31)) &&& 1) = 0 ↔ D.1 h = 0)
theorem bt_dec : ∀ b, b < 64 → ∀ h, h < 6 → (nI b ||| ((1 : Int32) <<< (nI h &&& 31))) = nI (b ||| 2 ^ h) ∧ b ||| 2 ^ h < 64 := by decide +kernel
theorem bt2_dec : ∀ b, b < 64 → ∀ h, h < 6 → ∀ g, g < 6 → (((nI (b ||| 2 ^ h) >>> (nI g &&& 31)) &&& 1) = 0 ↔ (g ≠ h ∧ ((nI b >>> (nI g &&& 31)) &&& 1) = 0)) := by decide +kernel
def RX (R : CS) (T : Nat → Nat) (n : Nat) (f : TFt) (D : DS) (p : Nat) : Prop := RTx R T n ∧ RC R f p ∧ R.1 0 8 = -1 ∧ RDr R D ∧ RBt R D
theorem RDr.fr {R R1 : CS} {D : DS} (h : RDr R D) (e : ∀ c i, c ≠ 0 → R1.1 c i = R.1 c i) : RDr R1 D := by
  obtain ⟨⟨r1, r2, r3, r4, r5, r6⟩, r7, r8⟩ := h
  refine ⟨⟨by rw [e 2 _ (by decide)]; exact r1, by rw [e 2 _ (by decide)]; exact r2, by rw [e 2 _ (by decide)]; exact r3, by rw [e 2 _ (by decide)]; exact r4, by rw [e 2 _ (by decide)]; exact r5, by rw [e 2 _ (by decide)]; exact r6⟩, fun i hi => ?_, fun i hi => ?_⟩
  · rw [e 3 _ (by decide), e 4 _ (by decide)]; exact r7 i hi
  · rw [e 5 _ (by decide), e 6 _ (by decide), e 7 _ (by decide)]; exact r8 i hi
theorem r_may {R : CS} {D : DS} {h : Nat} {post : Int32 → CS → Prop} (hh : h < 6) (hW : DW D) (h7 : R.1 0 7 = nI (HL h)) (hD : RDr R D) (hbt : RBt R D) (h1 : D.1 h < MAX h → post 1 R) (h0 : ¬ D.1 h < MAX h → post 0 R) : p_X7_mayBegin R post := by
  have w0 := hW.1
  have w1 := hW.2.1
  have w2 := hW.2.2.1
  unfold p_X7_mayBegin
  rw [h7]
  have six : ∀ (z : Nat) (D' : Nat), R.1 2 (6 + z) = nI D' → D' ≤ 6 → z < 2 → (D' < 6 → post 1 R) → (¬ D' < 6 → post 0 R) → q_X7_mayBegin_38 post (nI z) R := by
    intro z D' e hD' hz g1 g0
    unfold q_X7_mayBegin_38
    rw [sx6, nI_clamp (by omega), e]
    refine ⟨vp_in_nI (by omega) (by decide), fun c => g0 ?_, fun c => g1 ?_⟩
    · have := (nI_leI (a := 6) (by decide) (by omega)).mp c
      omega
    · rcases Nat.lt_or_ge D' 6 with w | w
      · exact w
      · exact absurd (nI_le (a := 6) w (by omega)) c
  obtain ⟨b, b64, hb, hbt⟩ := hbt
  have fix : ∀ g, 2 ≤ g → g < 6 → (D.1 g < 1 → post 1 R) → (¬ D.1 g < 1 → post 0 R) → ((((R.1 0 10) >>> (nI g &&& 31)) &&& 1) = 0 → (post 1 R)) ∧ (¬ ((((R.1 0 10) >>> (nI g &&& 31)) &&& 1) = 0) → (post 0 R)) := by
    intro g g2 g6 p1 p0
    rw [hb]
    exact ⟨fun c => p1 (by have := (hbt g g2 g6).mp c; omega), fun c => p0 (fun w => c ((hbt g g2 g6).mpr (by omega)))⟩
  rcases (show h = 0 ∨ h = 1 ∨ h = 2 ∨ h = 3 ∨ h = 4 ∨ h = 5 by omega) with rfl | rfl | rfl | rfl | rfl | rfl
  · refine br_t (by decide) ?_
    unfold q_X7_mayBegin_18
    rw [h7]
    exact br_t (by decide) (six 0 _ hD.1.1 w0 (by decide) h1 h0)
  · refine br_f (by decide) (br_t (by decide) ?_)
    unfold q_X7_mayBegin_18
    rw [h7]
    exact br_f (by decide) (six 1 _ hD.1.2.1 w1 (by decide) h1 h0)
  · unfold p_X7_fixed
    exact br_f (by decide) (br_f (by decide) (br_t (by decide) (fix 2 (by decide) (by decide) h1 h0)))
  · unfold p_X7_fixed
    exact br_f (by decide) (br_f (by decide) (br_f (by decide) (br_t (by decide) (fix 3 (by decide) (by decide) h1 h0))))
  · unfold p_X7_fixed
    exact br_f (by decide) (br_f (by decide) (br_f (by decide) (br_f (by decide) (br_t (by decide) (fix 4 (by decide) (by decide) h1 h0)))))
  · unfold p_X7_fixed
    exact br_f (by decide) (br_f (by decide) (br_f (by decide) (br_f (by decide) (br_f (by decide) (fix 5 (by decide) (by decide) h1 h0)))))
