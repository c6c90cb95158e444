/-! tokens, in the reference -/
def RTx (R : CS) (T : Nat → Nat) (n : Nat) : Prop := R.1 0 3 = nI n ∧ ∀ i, i < n → R.1 1 i = nI (T i)
def Rt (c i : Nat) : Prop := ¬ (c = 0 ∧ 4 ≤ i ∧ i ≤ 7)
theorem RTx.fr {R R1 : CS} {T : Nat → Nat} {n : Nat} (h : RTx R T n) (e : Fr Rt R R1) : RTx R1 T n := ⟨by rw [e.1 0 3 (by unfold Rt; omega)]; exact h.1, fun i hi => by rw [e.1 1 i (by unfold Rt; omega)]; exact h.2 i hi⟩
theorem r_letter_y {R : CS} {T : Nat → Nat} {n i : Nat} {post : Int32 → CS → Prop} (hB : TB T n) (hT : RTx R T n) (hi : i < n) (h : post (nI (T i)) R) : p_X7_letterAt R (nI i) post := by
  have hB1 := hB.1
  unfold p_X7_letterAt
  rw [hT.1, nI_clamp (by omega), hT.2 i hi]
  exact br_f (nI_ge hi (by omega)) ⟨vp_in_nI (by omega) (by decide), h⟩
theorem r_letter_e {R : CS} {T : Nat → Nat} {n : Nat} {post : Int32 → CS → Prop} (hB : TB T n) (hT : RTx R T n) (h : post (-1) R) : p_X7_letterAt R (nI n) post := by
  have hB1 := hB.1
  unfold p_X7_letterAt
  rw [hT.1]
  exact br_t (nI_le (Nat.le_refl n) (by omega)) h
theorem r_dig_1 {R : CS} {a : Nat} {post : Int32 → CS → Prop} (ha : 48 ≤ a ∧ a ≤ 57) (h : post 1 R) : p_X7_in R (nI a) 48 57 post := in_yN (a := 48) (b := 57) ha.1 ha.2 (by decide) h
theorem r_dig_0 {R : CS} {a : Nat} {post : Int32 → CS → Prop} (h256 : a < 256) (ha : ¬ (48 ≤ a ∧ a ≤ 57)) (h : post 0 R) : p_X7_in R (nI a) 48 57 post := by
  refine in_n ?_ h
  rcases Nat.lt_or_ge a 48 with z | z
  · exact Or.inl (nI_lt (b := 48) z (by decide))
  · exact Or.inr (nI_lt (a := 57) (by omega) (by omega))
theorem r_dig_m {R : CS} {post : Int32 → CS → Prop} (h : post 0 R) : p_X7_in R (-1) 48 57 post := in_n (Or.inl (by decide)) h
def advR (post : CS → Prop) (S : CS) : Prop := ∀ u_47 : Int32, u_47 = S.1 0 4 → (∀ S_48 : CS, S_48 = sti S 0 6 u_47 → (p_X7_letterAt S_48 (S_48.1 0 4) (fun r_50 S_49 => ((0 ≤ r_50 → (p_X7_in S_49 r_50 48 57 (fun r_53 S_52 => ((r_53 = 0 → (∀ u_55 : Int32, u_55 = ((S_52.1 0 4) + 1) → (∀ S_56 : CS, S_56 = sti S_52 0 4 u_55 → (∀ S_57 : CS, S_57 = sti S_56 0 7 r_50 → ((r_50 = 59 → (∀ S_64 : CS, S_64 = sti S_57 0 5 3 → (post S_64))) ∧ (¬ (r_50 = 59) → (p_X7_isLetter S_57 r_50 (fun r_60 S_59 => ((r_60 = 0 → (∀ S_62 : CS, S_62 = sti S_59 0 5 4 → (post S_62))) ∧ (¬ (r_60 = 0) → (∀ S_63 : CS, S_63 = sti S_59 0 5 1 → (post S_63)))))))))))) ∧ (¬ (r_53 = 0) → (∀ S_65 : CS, S_65 = sti S_52 0 7 0 → (∃ n, q_X7_advances_71 post n r_50 S_65))))))) ∧ (¬ (0 ≤ r_50) → (∀ S_66 : CS, S_66 = sti S_49 0 5 0 → (post S_66)))))))
theorem adv_0 {R : CS} {post : CS → Prop} (h : ∃ n, q_X7_advances_0 post n R) : p_X7_advances R post := by
  obtain ⟨n, h⟩ := h
  cases n with
  | zero =>
    rw [q_X7_advances_0] at h
    exact absurd h id
  | succ n =>
    rw [q_X7_advances_0] at h
    unfold p_X7_advances
    unfold p_X7_letterAt at h ⊢
    exact ⟨fun c => ⟨fun e u eu S1 e1 => ⟨n, (h.1 c).1 e u eu S1 e1⟩, (h.1 c).2⟩, fun c => ⟨(h.2 c).1, fun e u eu S1 e1 => ⟨n, (h.2 c).2.1 e u eu S1 e1⟩, (h.2 c).2.2⟩⟩
theorem r_skip_y {R : CS} {T : Nat → Nat} {n p q : Nat} {post : CS → Prop} (hB : TB T n) (hT : RTx R T n) (h4 : R.1 0 4 = nI p) (hs : Skp T n p q) (h : ∀ R1 : CS, Fr Rt R R1 → R1.1 0 4 = nI q → advR post R1) : p_X7_advances R post := by
  have hB1 := hB.1
  obtain ⟨hpq, hq, hsp, hnx⟩ := hs
  refine adv_0 (loop_0 (fun m j R3 => q_X7_advances_0 post m R3) (fun j R3 => Fr Rt R R3 ∧ R3.1 0 4 = nI (p + j)) (q - p) R ⟨Fr.rf R, h4⟩ (fun m R3 hI => ?_) (fun m j R3 hj hI ih => ?_))
  · obtain ⟨i1, i2⟩ := hI
    rw [show p + (q - p) = q by omega] at i2
    have hT3 := hT.fr i1
    rw [q_X7_advances_0, i2]
    rcases Nat.lt_or_ge q n with z | z
    · have := hB.2 q z
      exact r_letter_y hB hT3 z (br_f (fun w => hnx z ((nI_eq (b := 32) (by omega) (by decide)).mp w)) (h R3 i1 i2))
    · have e : q = n := by omega
      subst e
      exact r_letter_e hB hT3 (br_f (by decide) (h R3 i1 i2))
  · obtain ⟨i1, i2⟩ := hI
    have hT3 := hT.fr i1
    rw [q_X7_advances_0, i2]
    refine r_letter_y hB hT3 (by omega) ?_
    rw [hsp (p + j) (by omega) (by omega)]
    refine br_t rfl ?_
    intro u2 eu2 R4 e4
    refine ih R4 ⟨i1.st e4 (by unfold Rt; omega), ?_⟩
    rw [e4, sti_eq, eu2, i2, nI_1]; rfl
/-- the reference's number of a token -/
def rt (k v : Nat) : Int32 := if k = 0 then 0 else if k = 1 then (if v = 59 then 3 else if v = 119 ∨ v = 111 ∨ v = 114 ∨ v = 116 ∨ v = 112 ∨ v = 108 then 1 else 4) else if k = 2 then 2 else 4
def RG (T : Nat → Nat) (n p q e k v : Nat) : Prop := ∀ (R : CS) (post : CS → Prop), RTx R T n → R.1 0 4 = nI p → (∀ R1 : CS, Fr Rt R R1 → R1.1 0 4 = nI e → R1.1 0 6 = nI q → R1.1 0 5 = rt k v → (k = 1 ∨ k = 2 → R1.1 0 7 = nI v) → post R1) → p_X7_advances R post
theorem rg_end {T : Nat → Nat} {n p : Nat} (hB : TB T n) (hs : Skp T n p n) : RG T n p n n 0 0 := by
  intro R post hT h4 h
  refine r_skip_y hB hT h4 hs (fun R1 a1 a2 => ?_)
  unfold advR
  intro u eu R2 e2
  have hf := a1.st e2 (by unfold Rt; omega)
  have f4 : R2.1 0 4 = nI n := by rw [e2, sti_ne (by omega)]; exact a2
  rw [f4]
  refine r_letter_e hB (hT.fr hf) (br_f (by decide) ?_)
  intro R3 e3
  exact h R3 (hf.st e3 (by unfold Rt; omega)) (by rw [e3, sti_ne (by omega)]; exact f4) (by rw [e3, sti_ne (by omega), e2, sti_eq, eu]; exact a2) (by rw [e3, sti_eq]; rfl) (fun q => absurd q (by decide))
theorem isLetter_1 {R : CS} {a : Nat} {post : Int32 → CS → Prop} (ha : a = 119 ∨ a = 111 ∨ a = 114 ∨ a = 116 ∨ a = 112 ∨ a = 108) (h : post 1 R) : p_X7_isLetter R (nI a) post := by
  unfold p_X7_isLetter
  rcases ha with rfl | rfl | rfl | rfl | rfl | rfl
  · exact br_t (by decide) h
  · exact br_f (by decide) (br_t (by decide) h)
  · exact br_f (by decide) (br_f (by decide) (br_t (by decide) h))
  · exact br_f (by decide) (br_f (by decide) (br_f (by decide) (br_t (by decide) h)))
  · exact br_f (by decide) (br_f (by decide) (br_f (by decide) (br_f (by decide) (br_t (by decide) h))))
  · exact br_f (by decide) (br_f (by decide) (br_f (by decide) (br_f (by decide) (br_f (by decide) (br_t (by decide) h)))))
theorem isLetter_0 {R : CS} {a : Nat} {post : Int32 → CS → Prop} (h256 : a < 256) (ha : ¬ (a = 119 ∨ a = 111 ∨ a = 114 ∨ a = 116 ∨ a = 112 ∨ a = 108)) (h : post 0 R) : p_X7_isLetter R (nI a) post := by
  have ne : ∀ b : Nat, b < 256 → a ≠ b → ¬ nI a = nI b := fun b hb q w => q ((nI_eq (by omega) (by omega)).mp w)
  unfold p_X7_isLetter
  exact br_f (ne 119 (by decide) (by omega)) (br_f (ne 111 (by decide) (by omega)) (br_f (ne 114 (by decide) (by omega)) (br_f (ne 116 (by decide) (by omega)) (br_f (ne 112 (by decide) (by omega)) (br_f (ne 108 (by decide) (by omega)) h)))))
theorem rg_let {T : Nat → Nat} {n p q : Nat} (hB : TB T n) (hs : Skp T n p q) (hq : q < n) (hd : ¬ (48 ≤ T q ∧ T q ≤ 57)) : RG T n p q (q + 1) 1 (T q) := by
  intro R post hT h4 h
  have hB1 := hB.1
  have h256 := hB.2 q hq
  refine r_skip_y hB hT h4 hs (fun R1 a1 a2 => ?_)
  unfold advR
  intro u eu R2 e2
  have hf := a1.st e2 (by unfold Rt; omega)
  have f4 : R2.1 0 4 = nI q := by rw [e2, sti_ne (by omega)]; exact a2
  rw [f4]
  refine r_letter_y hB (hT.fr hf) hq (br_t (nI_pos' (by omega)) (r_dig_0 h256 hd (c00 ?_)))
  intro u5 eu5 R5 e5 R6 e6
  have hf6 := (hf.st e5 (by unfold Rt; omega)).st e6 (by unfold Rt; omega)
  have fin : ∀ R7 : CS, R7 = sti R6 0 5 (rt 1 (T q)) → post R7 := by
    intro R7 e7
    refine h R7 (hf6.st e7 (by unfold Rt; omega)) ?_ ?_ (by rw [e7, sti_eq]) (fun _ => by rw [e7, sti_ne (by omega), e6, sti_eq])
    · rw [e7, sti_ne (by omega), e6, sti_ne (by omega), e5, sti_eq, eu5, f4, nI_1]
    · rw [e7, sti_ne (by omega), e6, sti_ne (by omega), e5, sti_ne (by omega), e2, sti_eq, eu, a2]
  by_cases c59 : T q = 59
  · refine br_t (by rw [c59]; rfl) ?_
    intro R7 e7
    exact fin R7 (by rw [e7]; unfold rt; rw [if_neg (by decide), if_pos rfl, if_pos c59])
  · refine br_f (fun w => c59 ((nI_eq (b := 59) (by omega) (by decide)).mp w)) ?_
    by_cases cl : T q = 119 ∨ T q = 111 ∨ T q = 114 ∨ T q = 116 ∨ T q = 112 ∨ T q = 108
    · refine isLetter_1 cl (c01 ?_)
      intro R7 e7
      exact fin R7 (by rw [e7]; unfold rt; rw [if_neg (by decide), if_pos rfl, if_neg c59, if_pos cl])
    · refine isLetter_0 h256 cl (c00 ?_)
      intro R7 e7
      exact fin R7 (by rw [e7]; unfold rt; rw [if_neg (by decide), if_pos rfl, if_neg c59, if_neg cl])
theorem rg_num {T : Nat → Nat} {n p q L : Nat} (hB : TB T n) (hs : Skp T n p q) (hL1 : 1 ≤ L) (hL : q + L ≤ n) (hdg : ∀ i, i < L → 48 ≤ T (q + i) ∧ T (q + i) ≤ 57) (hnx : q + L < n → ¬ (48 ≤ T (q + L) ∧ T (q + L) ≤ 57)) : RG T n p q (q + L) (if ¬ (T q = 48 ∧ 1 < L) ∧ nv T q L ≤ 99 then 2 else 3) (nv T q L) := by
  intro R post hT h4 h
  have hB1 := hB.1
  have h256 := hB.2 q (by omega)
  have hd0 := hdg 0 (by omega)
  rw [Nat.add_zero] at hd0
  refine r_skip_y hB hT h4 hs (fun R1 a1 a2 => ?_)
  unfold advR
  intro u eu R2 e2
  have hf := a1.st e2 (by unfold Rt; omega)
  have f4 : R2.1 0 4 = nI q := by rw [e2, sti_ne (by omega)]; exact a2
  have f6 : R2.1 0 6 = nI q := by rw [e2, sti_eq, eu]; exact a2
  rw [f4]
  refine r_letter_y hB (hT.fr hf) (by omega) (br_t (nI_pos' (by omega)) (r_dig_1 hd0 (c01 ?_)))
  intro R3 e3
  refine loop_0 (fun m j R4 => q_X7_advances_71 post m (nI (T q)) R4) (fun j R4 => Fr Rt R R4 ∧ R4.1 0 4 = nI (q + j) ∧ R4.1 0 6 = nI q ∧ R4.1 0 7 = nI (nv T q j)) L R3 ⟨hf.st e3 (by unfold Rt; omega), by rw [e3, sti_ne (by omega)]; exact f4, by rw [e3, sti_ne (by omega)]; exact f6, by rw [e3, sti_eq]; rfl⟩ (fun m R4 hI => ?_) (fun m j R4 hj hI ih => ?_)
  · obtain ⟨i1, i4, i6, i7⟩ := hI
    have hv := nv_le (T := T) (q := q) L hdg
    have fin : ∀ R5 : CS, R5 = sti R4 0 5 (rt (if ¬ (T q = 48 ∧ 1 < L) ∧ nv T q L ≤ 99 then 2 else 3) (nv T q L)) → post R5 := fun R5 e5 => h R5 (i1.st e5 (by unfold Rt; omega)) (by rw [e5, sti_ne (by omega)]; exact i4) (by rw [e5, sti_ne (by omega)]; exact i6) (by rw [e5, sti_eq]) (fun _ => by rw [e5, sti_ne (by omega)]; exact i7)
    have body : (99 < (R4.1 0 7) → (∀ S_29 : CS, S_29 = sti R4 0 5 4 → (post S_29))) ∧ (¬ (99 < (R4.1 0 7)) → ((nI (T q) = 48 → ((((R4.1 0 4) - (R4.1 0 6)) ≤ 1 → (∀ S_33 : CS, S_33 = sti R4 0 5 2 → (post S_33))) ∧ (¬ (((R4.1 0 4) - (R4.1 0 6)) ≤ 1) → (∀ S_34 : CS, S_34 = sti R4 0 5 4 → (post S_34))))) ∧ (¬ (nI (T q) = 48) → (∀ S_31 : CS, S_31 = sti R4 0 5 2 → (post S_31))))) := by
      rw [i7, i4, i6, pk_sub (by omega), Nat.add_sub_cancel_left]
      refine ⟨fun c R5 e5 => fin R5 ?_, fun c => ?_⟩
      · have hc : 99 < nv T q L := (nI_ltI (a := 99) (by decide) (by omega)).mp c
        rw [e5, if_neg (fun w => absurd w.2 (by omega))]; rfl
      · have hc : nv T q L ≤ 99 := by
          rcases Nat.lt_or_ge 99 (nv T q L) with z | z
          · exact absurd (nI_lt (a := 99) z (by omega)) c
          · exact z
        refine ⟨fun c2 => ⟨fun c3 R5 e5 => fin R5 ?_, fun c3 R5 e5 => fin R5 ?_⟩, fun c2 R5 e5 => fin R5 ?_⟩
        · have h1 : L ≤ 1 := (nI_leI (b := 1) (by omega) (by decide)).mp c3
          rw [e5, if_pos ⟨fun w => absurd w.2 (by omega), hc⟩]; rfl
        · have h1 : T q = 48 := (nI_eq (b := 48) (by omega) (by decide)).mp c2
          have h2 : 1 < L := by
            rcases Nat.lt_or_ge 1 L with z | z
            · exact z
            · exact absurd (nI_le (b := 1) z (by decide)) c3
          rw [e5, if_neg (fun w => w.1 ⟨h1, h2⟩)]; rfl
        · rw [e5, if_pos ⟨fun w => c2 (by rw [w.1]; rfl), hc⟩]; rfl
    rw [q_X7_advances_71, i4]
    rcases Nat.lt_or_ge (q + L) n with z | z
    · refine r_letter_y hB (hT.fr i1) z (r_dig_0 (hB.2 _ z) (hnx z) (c00 ?_))
      exact body
    · have e : q + L = n := by omega
      rw [e]
      refine r_letter_e hB (hT.fr i1) (r_dig_m (c00 ?_))
      exact body
  · obtain ⟨i1, i4, i6, i7⟩ := hI
    have hv := nv_le (T := T) (q := q) j (fun i hi => hdg i (by omega))
    have hd := hdg j hj
    rw [q_X7_advances_71, i4]
    refine r_letter_y hB (hT.fr i1) (by omega) (r_dig_1 hd (c01 ?_))
    rw [i7, i4]
    have go : ∀ w : Int32, w = nI (nv T q (j + 1)) → q_X7_advances_125 (fun y1' S9 => q_X7_advances_71 post m y1' S9) post (nI (T q)) w R4 := by
      intro w ew
      unfold q_X7_advances_125
      intro R5 e5 u6 eu6 R6 e6
      refine ih R6 ⟨(i1.st e5 (by unfold Rt; omega)).st e6 (by unfold Rt; omega), ?_, by rw [e6, sti_ne (by omega), e5, sti_ne (by omega)]; exact i6, by rw [e6, sti_ne (by omega), e5, sti_eq]; exact ew⟩
      rw [e6, sti_eq, eu6, e5, sti_ne (by omega), i4, nI_1]; rfl
    refine ⟨fun c => r_letter_y hB (hT.fr i1) (by omega) (go _ ?_), fun c => go _ ?_⟩
    · have hc : nv T q j ≤ 99 := (nI_leI (b := 99) (by omega) (by decide)).mp c
      rw [nv_s, if_neg (by omega), show (10 : Int32) = nI 10 from rfl, pk_mul, nI_add, show (48 : Int32) = nI 48 from rfl, pk_sub (by omega)]
      exact congrArg nI (by omega)
    · have hc : ¬ nv T q j ≤ 99 := fun w => c (nI_le (b := 99) w (by decide))
      rw [nv_s, if_pos (by omega)]
def TK (T : Nat → Nat) (n p q e k v : Nat) : Prop := (q ≤ n ∧ e ≤ n ∧ p ≤ e ∧ (k ≠ 0 → p < e) ∧ (k = 1 → v < 256) ∧ (k = 2 → v ≤ 99)) ∧ CG T n p q e k v ∧ RG T n p q e k v
theorem tok_ex {T : Nat → Nat} {n p : Nat} (hB : TB T n) (hp : p ≤ n) : ∃ q e k v, TK T n p q e k v := by
  obtain ⟨q, q1, q2, q3, q4⟩ := run_ex (fun i => T i = 32) n (n - p) p (Nat.le_refl _) hp
  have hs : Skp T n p q := ⟨q1, q2, q3, q4⟩
  rcases Nat.lt_or_ge q n with z | z
  · by_cases hd : 48 ≤ T q ∧ T q ≤ 57
    · obtain ⟨e, e1, e2, e3, e4⟩ := run_ex (fun i => 48 ≤ T i ∧ T i ≤ 57) n (n - q) q (Nat.le_refl _) q2
      have hqe : q < e := by
        rcases Nat.lt_or_ge q e with w | w
        · exact w
        · exact absurd (show 48 ≤ T e ∧ T e ≤ 57 by rw [show e = q by omega]; exact hd) (e4 (by omega))
      obtain ⟨L, rfl⟩ : ∃ L, e = q + L := ⟨e - q, by omega⟩
      refine ⟨q, q + L, _, _, ⟨q2, e2, by omega, fun _ => by omega, fun w => ?_, fun w => ?_⟩, cg_num hB hs (by omega) e2 (fun i hi => e3 (q + i) (by omega) (by omega)) e4, rg_num hB hs (by omega) e2 (fun i hi => e3 (q + i) (by omega) (by omega)) e4⟩
      · by_cases c : ¬ (T q = 48 ∧ 1 < L) ∧ nv T q L ≤ 99
        · rw [if_pos c] at w; exact absurd w (by decide)
        · rw [if_neg c] at w; exact absurd w (by decide)
      · by_cases c : ¬ (T q = 48 ∧ 1 < L) ∧ nv T q L ≤ 99
        · exact c.2
        · rw [if_neg c] at w; exact absurd w (by decide)
    · exact ⟨q, q + 1, 1, T q, ⟨q2, by omega, by omega, fun _ => by omega, fun _ => hB.2 q z, fun w => absurd w (by decide)⟩, cg_let hB hs z hd, rg_let hB hs z hd⟩
  · have e : q = n := by omega
    subst e
    exact ⟨q, q, 0, 0, ⟨Nat.le_refl q, Nat.le_refl q, hp, fun w => absurd rfl w, fun w => absurd w (by decide), fun w => absurd w (by decide)⟩, cg_end hB hs, rg_end hB hs⟩
