theorem readNumber_y {S : CS} {T : Nat → Nat} {n q L : Nat} {post : CS → Prop} (hB : TB T n) (hT : CTx S T n) (h2 : S.1 1 2 = nI q) (h3 : S.1 1 3 = nI q) (hL1 : 1 ≤ L) (hL : q + L ≤ n) (hdg : ∀ i, i < L → 48 ≤ T (q + i) ∧ T (q + i) ≤ 57) (hnx : q + L < n → ¬ (48 ≤ T (q + L) ∧ T (q + L) ≤ 57)) (h : ∀ S1 : CS, Fr Pt S S1 → S1.1 1 2 = nI q → S1.1 1 3 = nI (q + L) → S1.1 1 5 = nI (min 100 (nv T q L)) → S1.1 1 4 = (if ¬ (T q = 48 ∧ 1 < L) ∧ nv T q L ≤ 99 then -2 else -3) → post S1) : p_X4_readNumber S post := by
  have hB1 := hB.1
  unfold p_X4_readNumber
  intro S1 e1
  refine loop_0 (fun m j S3 => q_X4_readNumber_5 post m S3) (fun j S3 => Fr Pt S S3 ∧ S3.1 1 2 = nI q ∧ S3.1 1 3 = nI (q + j) ∧ S3.1 1 5 = nI (min 100 (nv T q j))) L S1 ⟨(Fr.rf S).st e1 (by unfold Pt; omega), by rw [e1, sti_ne (by omega)]; exact h2, by rw [e1, sti_ne (by omega)]; exact h3, by rw [e1, sti_eq]; rfl⟩ (fun m S3 hI => ?_) (fun m j S3 hj hI ih => ?_)
  · obtain ⟨i1, i2, i3, i5⟩ := hI
    have hT3 := hT.fr i1
    have hq0 : T q < 256 := hB.2 q (by omega)
    have hv := nv_le (T := T) (q := q) L hdg
    have fin : q_X4_readNumber_68 post S3 := by
      unfold q_X4_readNumber_68
      rw [i2]
      refine letter_y (by omega) ?_
      rw [hT3.2 q (by omega), i3, i2, pk_sub (by omega), Nat.add_sub_cancel_left]
      have z0 : ¬ (T q = 48 ∧ 1 < L) → q_X4_readNumber_99 post 0 S3 := by
        intro hz
        unfold q_X4_readNumber_99
        rw [i5]
        refine br_t rfl ⟨fun c => ?_, fun c => ?_⟩
        · have hc : min 100 (nv T q L) ≤ 99 := (nI_leI (b := 99) (by omega) (by decide)).mp c
          intro S4 e4
          refine h S4 (i1.st e4 (by unfold Pt; omega)) (by rw [e4, sti_ne (by omega)]; exact i2) (by rw [e4, sti_ne (by omega)]; exact i3) (by rw [e4, sti_ne (by omega)]; exact i5) ?_
          rw [e4, sti_eq, if_pos ⟨hz, by omega⟩]
        · have hc : ¬ min 100 (nv T q L) ≤ 99 := fun w => c (nI_le (b := 99) w (by decide))
          intro S4 e4
          refine h S4 (i1.st e4 (by unfold Pt; omega)) (by rw [e4, sti_ne (by omega)]; exact i2) (by rw [e4, sti_ne (by omega)]; exact i3) (by rw [e4, sti_ne (by omega)]; exact i5) ?_
          rw [e4, sti_eq, if_neg (fun w => hc (by omega))]
      refine ⟨fun c => ⟨fun c2 => z0 (fun w => ?_), fun c2 => ?_⟩, fun c => z0 (fun w => c (by rw [w.1]; rfl))⟩
      · exact absurd ((nI_leI (b := 1) (by omega) (by decide)).mp c2) (by omega)
      · have hc : T q = 48 := (nI_eq (b := 48) (by omega) (by decide)).mp c
        have hL2 : 1 < L := by
          rcases Nat.lt_or_ge 1 L with z | z
          · exact z
          · exact absurd (nI_le (b := 1) z (by decide)) c2
        unfold q_X4_readNumber_99
        refine br_f (by decide) ?_
        intro S4 e4
        refine h S4 (i1.st e4 (by unfold Pt; omega)) (by rw [e4, sti_ne (by omega)]; exact i2) (by rw [e4, sti_ne (by omega)]; exact i3) (by rw [e4, sti_ne (by omega)]; exact i5) ?_
        rw [e4, sti_eq, if_neg (fun w => w.1 ⟨hc, hL2⟩)]
    rw [q_X4_readNumber_5, hT3.1, i3]
    refine ⟨fun _ => fin, fun c => ?_⟩
    have hqn : q + L < n := by
      rcases Nat.lt_or_ge (q + L) n with z | z
      · exact z
      · exact absurd (nI_le z (by omega)) c
    exact digit_0 (by omega) (hT3.2 _ hqn) (hB.2 _ hqn) (hnx hqn) (c00 fin)
  · obtain ⟨i1, i2, i3, i5⟩ := hI
    have hT3 := hT.fr i1
    have hv := nv_le (T := T) (q := q) j (fun i hi => hdg i (by omega))
    have hd := hdg j hj
    rw [q_X4_readNumber_5, hT3.1, i3]
    refine br_f (nI_ge (by omega) (by omega)) (digit_1 (by omega) (hT3.2 _ (by omega)) hd (c01 ?_))
    rw [i3]
    refine letter_y (by omega) ?_
    rw [hT3.2 _ (by omega), i5, nm_y (by omega) hd]
    intro u eu S4 e4 u2 eu2 S5 e5
    have f3 : S4.1 1 3 = nI (q + j) := by rw [e4, sti_ne (by omega)]; exact i3
    refine ih S5 ⟨(i1.st e4 (by unfold Pt; omega)).st e5 (by unfold Pt; omega), by rw [e5, sti_ne (by omega), e4, sti_ne (by omega)]; exact i2, by rw [e5, sti_eq, eu2, f3, nI_1]; rfl, ?_⟩
    rw [e5, sti_ne (by omega), e4, sti_eq, eu, nv_s]
    refine congrArg nI ?_
    by_cases c : 99 < nv T q j
    · rw [if_pos c]; omega
    · rw [if_neg c]; omega
/-- a token: where it begins, where it ends, what it is (0 the end, 1 a letter, 2 a number, 3 a wrong number), its value -/
def ct (k v : Nat) : Int32 := if k = 0 then -1 else if k = 1 then nI v else if k = 2 then -2 else -3
def CG (T : Nat → Nat) (n p q e k v : Nat) : Prop := ∀ (S : CS) (post : Int32 → CS → Prop), CTx S T n → S.1 1 3 = nI p → (∀ S1 : CS, Fr Pt S S1 → S1.1 1 2 = nI q → S1.1 1 3 = nI e → (k = 2 → S1.1 1 5 = nI v) → post (ct k v) S1) → p_X4_goOn S post
def Skp (T : Nat → Nat) (n p q : Nat) : Prop := p ≤ q ∧ q ≤ n ∧ (∀ i, p ≤ i → i < q → T i = 32) ∧ (q < n → ¬ T q = 32)
theorem cg_end {T : Nat → Nat} {n p : Nat} (hB : TB T n) (hs : Skp T n p n) : CG T n p n n 0 0 := by
  intro S post hT h3 h
  refine skip_y hB hT h3 hs.1 hs.2.1 hs.2.2.1 hs.2.2.2 (fun S1 a1 a2 => ?_)
  unfold q_X4_goOn_45
  intro u eu S2 e2
  have hf := a1.st e2 (by unfold Pt; omega)
  have f2 : S2.1 1 2 = nI n := by rw [e2, sti_ne (by omega)]; exact a2
  rw [f2, (hT.fr hf).1]
  refine br_f (nI_nlt (Nat.le_refl n) (by have := hB.1; omega)) ?_
  intro S3 e3
  rw [show S3.1 1 4 = -1 by rw [e3, sti_eq]]
  exact h S3 (hf.st e3 (by unfold Pt; omega)) (by rw [e3, sti_ne (by omega)]; exact f2) (by rw [e3, sti_ne (by omega), e2, sti_eq, eu]; exact a2) (fun q => absurd q (by decide))
theorem cg_let {T : Nat → Nat} {n p q : Nat} (hB : TB T n) (hs : Skp T n p q) (hq : q < n) (hd : ¬ (48 ≤ T q ∧ T q ≤ 57)) : CG T n p q (q + 1) 1 (T q) := by
  intro S post hT h3 h
  have hB1 := hB.1
  refine skip_y hB hT h3 hs.1 hs.2.1 hs.2.2.1 hs.2.2.2 (fun S1 a1 a2 => ?_)
  unfold q_X4_goOn_45
  intro u eu S2 e2
  have hf := a1.st e2 (by unfold Pt; omega)
  have hT2 := hT.fr hf
  have f2 : S2.1 1 2 = nI q := by rw [e2, sti_ne (by omega)]; exact a2
  rw [f2, hT2.1]
  refine br_t (nI_lt hq (by omega)) (digit_0 (by omega) (hT2.2 q hq) (hB.2 q hq) hd (c00 ?_))
  rw [f2]
  refine letter_y (by omega) ?_
  rw [hT2.2 q hq]
  intro S3 e3 u4 eu4 S4 e4
  rw [show S4.1 1 4 = nI (T q) by rw [e4, sti_ne (by omega), e3, sti_eq]]
  refine h S4 ((hf.st e3 (by unfold Pt; omega)).st e4 (by unfold Pt; omega)) (by rw [e4, sti_ne (by omega), e3, sti_ne (by omega)]; exact f2) ?_ (fun q => absurd q (by decide))
  rw [e4, sti_eq, eu4, e3, sti_ne (by omega), e2, sti_eq, eu, a2, nI_1]
theorem cg_num {T : Nat → Nat} {n p q L : Nat} (hB : TB T n) (hs : Skp T n p q) (hL1 : 1 ≤ L) (hL : q + L ≤ n) (hdg : ∀ i, i < L → 48 ≤ T (q + i) ∧ T (q + i) ≤ 57) (hnx : q + L < n → ¬ (48 ≤ T (q + L) ∧ T (q + L) ≤ 57)) : CG T n p q (q + L) (if ¬ (T q = 48 ∧ 1 < L) ∧ nv T q L ≤ 99 then 2 else 3) (nv T q L) := by
  intro S post hT h3 h
  have hB1 := hB.1
  refine skip_y hB hT h3 hs.1 hs.2.1 hs.2.2.1 hs.2.2.2 (fun S1 a1 a2 => ?_)
  unfold q_X4_goOn_45
  intro u eu S2 e2
  have hf := a1.st e2 (by unfold Pt; omega)
  have hT2 := hT.fr hf
  have f2 : S2.1 1 2 = nI q := by rw [e2, sti_ne (by omega)]; exact a2
  rw [f2, hT2.1]
  have hd0 := hdg 0 (by omega)
  rw [Nat.add_zero] at hd0
  refine br_t (nI_lt (by omega) (by omega)) (digit_1 (by omega) (hT2.2 q (by omega)) hd0 (c01 ?_))
  refine readNumber_y hB hT2 f2 (by rw [e2, sti_eq, eu]; exact a2) hL1 hL hdg hnx (fun S3 b1 b2 b3 b5 b4 => ?_)
  rw [b4]
  by_cases c : ¬ (T q = 48 ∧ 1 < L) ∧ nv T q L ≤ 99
  · rw [if_pos c] at h ⊢
    exact h S3 (hf.tr b1) b2 b3 (fun _ => by rw [b5, Nat.min_eq_right (by omega)])
  · rw [if_neg c] at h ⊢
    exact h S3 (hf.tr b1) b2 b3 (fun z => absurd z (by decide))
