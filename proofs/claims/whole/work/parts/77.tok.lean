/-! tokens, in the class -/
def Fr (P : Nat → Nat → Prop) (S S1 : CS) : Prop := (∀ c i, P c i → S1.1 c i = S.1 c i) ∧ S1.2 = S.2
theorem Fr.rf {P : Nat → Nat → Prop} (S : CS) : Fr P S S := ⟨fun _ _ _ => rfl, rfl⟩
theorem Fr.st {P : Nat → Nat → Prop} {S S1 S2 : CS} {c i : Nat} {x : Int32} (h : Fr P S S1) (e : S2 = sti S1 c i x) (hn : ¬ P c i) : Fr P S S2 := by
  refine ⟨fun c' i' hp => ?_, by rw [e, sti_22]; exact h.2⟩
  rw [e, sti_ne (fun q => hn (by rw [← q.1, ← q.2]; exact hp))]
  exact h.1 c' i' hp
theorem Fr.tr {P : Nat → Nat → Prop} {S S1 S2 : CS} (h : Fr P S S1) (h2 : Fr P S1 S2) : Fr P S S2 := ⟨fun c i hp => by rw [h2.1 c i hp, h.1 c i hp], by rw [h2.2, h.2]⟩
theorem Fr.mono {P Q : Nat → Nat → Prop} {S S1 : CS} (h : Fr P S S1) (hq : ∀ c i, Q c i → P c i) : Fr Q S S1 := ⟨fun c i hp => h.1 c i (hq c i hp), h.2⟩
def TB (T : Nat → Nat) (n : Nat) : Prop := n ≤ 200 ∧ ∀ i, i < n → T i < 256
def CTx (S : CS) (T : Nat → Nat) (n : Nat) : Prop := S.1 1 1 = nI n ∧ ∀ i, i < n → S.1 2 i = nI (T i)
def Pt (c i : Nat) : Prop := ¬ (c = 1 ∧ 2 ≤ i)
theorem CTx.fr {S S1 : CS} {T : Nat → Nat} {n : Nat} (h : CTx S T n) (e : Fr Pt S S1) : CTx S1 T n := ⟨by rw [e.1 1 1 (by unfold Pt; omega)]; exact h.1, fun i hi => by rw [e.1 2 i (by unfold Pt; omega)]; exact h.2 i hi⟩
theorem run_ex (P : Nat → Prop) (n : Nat) : ∀ f p, n - p ≤ f → p ≤ n → ∃ q, p ≤ q ∧ q ≤ n ∧ (∀ i, p ≤ i → i < q → P i) ∧ (q < n → ¬ P q) := by
  intro f
  induction f with
  | zero => exact fun p h hp => ⟨p, Nat.le_refl p, hp, fun i a b => absurd b (by omega), fun q => absurd q (by omega)⟩
  | succ f ih =>
    intro p h hp
    by_cases c : p < n ∧ P p
    · obtain ⟨q, q1, q2, q3, q4⟩ := ih (p + 1) (by omega) (by omega)
      refine ⟨q, by omega, q2, fun i a b => ?_, q4⟩
      by_cases e : i = p
      · rw [e]; exact c.2
      · exact q3 i (by omega) b
    · exact ⟨p, Nat.le_refl p, hp, fun i a b => absurd b (by omega), fun q r => c ⟨q, r⟩⟩
theorem letter_y {S : CS} {i : Nat} {post : Int32 → CS → Prop} (hi : i < 200) (h : post (S.1 2 i) S) : p_X4_letterAt S (nI i) post := by
  unfold p_X4_letterAt
  rw [nI_clamp (by omega)]
  exact br_f (nI_pos (by omega)) (br_t (nI_lt (b := 200) hi (by decide)) ⟨vp_in_nI hi (by decide), h⟩)
theorem digit_1 {S : CS} {i a : Nat} {post : Int32 → CS → Prop} (hi : i < 200) (e : S.1 2 i = nI a) (ha : 48 ≤ a ∧ a ≤ 57) (h : post 1 S) : p_X4_isDigit S (nI i) post := by
  unfold p_X4_isDigit
  refine letter_y hi ?_
  rw [e]
  exact br_f (nI_nlt (b := 48) ha.1 (by omega)) (br_f (nI_nlt (a := 57) ha.2 (by decide)) h)
theorem digit_0 {S : CS} {i a : Nat} {post : Int32 → CS → Prop} (hi : i < 200) (e : S.1 2 i = nI a) (ha : a < 256) (hn : ¬ (48 ≤ a ∧ a ≤ 57)) (h : post 0 S) : p_X4_isDigit S (nI i) post := by
  unfold p_X4_isDigit
  refine letter_y hi ?_
  rw [e]
  refine ⟨fun _ => h, fun q => br_t (nI_lt (a := 57) ?_ (by omega)) h⟩
  have : 48 ≤ a := by
    rcases Nat.lt_or_ge a 48 with z | z
    · exact absurd (nI_lt (b := 48) z (by decide)) q
    · exact z
  omega
theorem skip_y {S : CS} {T : Nat → Nat} {n p q : Nat} {post : Int32 → CS → Prop} (hB : TB T n) (hT : CTx S T n) (h3 : S.1 1 3 = nI p) (hpq : p ≤ q) (hq : q ≤ n) (hsp : ∀ i, p ≤ i → i < q → T i = 32) (hnx : q < n → ¬ T q = 32) (h : ∀ S1 : CS, Fr Pt S S1 → S1.1 1 2 = nI q → q_X4_goOn_45 post S1) : p_X4_goOn S post := by
  have hB1 := hB.1
  unfold p_X4_goOn
  intro u eu S2 e2
  refine loop_0 (fun m j S3 => q_X4_goOn_8 post m S3) (fun j S3 => Fr Pt S S3 ∧ S3.1 1 2 = nI (p + j)) (q - p) S2 ⟨(Fr.rf S).st e2 (by unfold Pt; omega), by rw [e2, sti_eq, eu, h3]; rfl⟩ (fun m S3 hI => ?_) (fun m j S3 hj hI ih => ?_)
  · obtain ⟨i1, i2⟩ := hI
    rw [show p + (q - p) = q by omega] at i2
    have hT3 := hT.fr i1
    rw [q_X4_goOn_8, hT3.1, i2]
    refine ⟨fun _ => h S3 i1 i2, fun c => ?_⟩
    have hqn : q < n := by
      rcases Nat.lt_or_ge q n with z | z
      · exact z
      · exact absurd (nI_le z (by omega)) c
    refine letter_y (by omega) ?_
    rw [hT3.2 q hqn]
    have := hB.2 q hqn
    exact br_f (fun z => hnx hqn ((nI_eq (b := 32) (by omega) (by decide)).mp z)) (h S3 i1 i2)
  · obtain ⟨i1, i2⟩ := hI
    have hT3 := hT.fr i1
    rw [q_X4_goOn_8, hT3.1, i2]
    refine br_f (nI_ge (by omega) (by omega)) (letter_y (by omega) ?_)
    rw [hT3.2 (p + j) (by omega), hsp (p + j) (by omega) (by omega)]
    refine br_t rfl ?_
    intro u2 eu2 S4 e4
    refine ih S4 ⟨i1.st e4 (by unfold Pt; omega), ?_⟩
    rw [e4, sti_eq, eu2, i2, nI_1]; rfl
/-- a number's value as far as j of its digits -/
def nv (T : Nat → Nat) (q : Nat) : Nat → Nat
  | 0 => 0
  | j + 1 => if 99 < nv T q j then nv T q j else 10 * nv T q j + (T (q + j) - 48)
theorem nv_s (T : Nat → Nat) (q j : Nat) : nv T q (j + 1) = if 99 < nv T q j then nv T q j else 10 * nv T q j + (T (q + j) - 48) := rfl
theorem nv_le {T : Nat → Nat} {q : Nat} : ∀ j, (∀ i, i < j → 48 ≤ T (q + i) ∧ T (q + i) ≤ 57) → nv T q j ≤ 999 := by
  intro j
  induction j with
  | zero => exact fun _ => Nat.zero_le _
  | succ j ih =>
    intro h
    have h1 := ih (fun i hi => h i (by omega))
    have h2 := h j (by omega)
    rw [nv_s]
    by_cases c : 99 < nv T q j
    · rw [if_pos c]; exact h1
    · rw [if_neg c]; omega
theorem nm_y {w a : Nat} (hw : w ≤ 100) (ha : 48 ≤ a ∧ a ≤ 57) : (if ((nI w * 10 + nI a) - 48) < 100 then ((nI w * 10 + nI a) - 48) else 100) = nI (min 100 (10 * w + (a - 48))) := by
  have e1 : (nI w * 10 + nI a) - 48 = nI (10 * w + (a - 48)) := by
    rw [show (10 : Int32) = nI 10 from rfl, pk_mul, nI_add, show (48 : Int32) = nI 48 from rfl, pk_sub (by omega)]
    exact congrArg nI (by omega)
  rw [e1, Nat.min_comm]
  exact min_nI (b := 100) (by omega) (by decide)
