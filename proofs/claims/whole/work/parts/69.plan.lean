/-! plans: rows of choices, ages, totals -/
/-- age of part p at the start of year y under the row c -/
def ag (d : Dat) (c : Nat → Nat) (p : Nat) : Nat → Nat
  | 0 => d 8 (15 + p)
  | y + 1 => min 40 ((if c y = p + 1 then 0 else ag d c p y) + 1)
theorem ag_s (d : Dat) (c : Nat → Nat) (p y : Nat) : ag d c p (y + 1) = min 40 ((if c y = p + 1 then 0 else ag d c p y) + 1) := rfl
theorem ag_le {d : Dat} {c : Nat → Nat} {p : Nat} (h : d 8 (15 + p) ≤ 40) : ∀ y, ag d c p y ≤ 40 := by
  intro y
  cases y with
  | zero => exact h
  | succ y => rw [ag_s]; exact Nat.min_le_left _ _
theorem ag_cg {d : Dat} {c c' : Nat → Nat} {p : Nat} : ∀ y, (∀ z, z < y → c' z = c z) → ag d c' p y = ag d c p y := by
  intro y
  induction y with
  | zero => exact fun _ => rfl
  | succ y ih =>
    intro h
    rw [ag_s, ag_s, h y (by omega), ih (fun z hz => h z (by omega))]
def gn (d : Dat) (c : Nat → Nat) (y : Nat) : Nat := if c y = 0 then 0 else gN (d 3 (c y - 1)) (ag d c (c y - 1) y) (d 2 2)
def tot (d : Dat) (c : Nat → Nat) : Nat → Nat
  | 0 => 0
  | y + 1 => tot d c y + gn d c y
theorem tot_s (d : Dat) (c : Nat → Nat) (y : Nat) : tot d c (y + 1) = tot d c y + gn d c y := rfl
theorem tot_cg {d : Dat} {c c' : Nat → Nat} : ∀ y, (∀ z, z < y → c' z = c z) → tot d c' y = tot d c y := by
  intro y
  induction y with
  | zero => exact fun _ => rfl
  | succ y ih =>
    intro h
    rw [tot_s, tot_s, ih (fun z hz => h z (by omega))]
    unfold gn
    rw [h y (by omega), ag_cg y (fun z hz => h z (by omega))]
theorem gn_le {k : Nat} {d : Dat} (hW : WF k d) {c : Nat → Nat} {y : Nat} (hc : c y ≤ d 2 0) : gn d c y ≤ 117 := by
  unfold gn
  by_cases h : c y = 0
  · rw [if_pos h]; omega
  · rw [if_neg h]
    have hp : c y - 1 < d 2 0 := by omega
    have ha := ag_le (c := c) (hW.2.2.1.2.2.2.2.2.2.2.2 _ hp) y
    exact gN_le (hW.2.1.2.2.2.2.2.2.1 _ hp).2 (by omega) (by have := hW.2.1.2.2.1.2; omega)
theorem tot_le {k : Nat} {d : Dat} (hW : WF k d) {c : Nat → Nat} : ∀ y, (∀ z, z < y → c z ≤ d 2 0) → tot d c y ≤ 117 * y := by
  intro y
  induction y with
  | zero => exact fun _ => Nat.le_refl 0
  | succ y ih =>
    intro h
    have h1 := ih (fun z hz => h z (by omega))
    have h2 := gn_le hW (h y (by omega))
    rw [tot_s]
    omega
/-- the class's age of part p in year y, the first i years looked at -/
def acl (d : Dat) (c : Nat → Nat) (p y : Nat) : Nat → Nat
  | 0 => d 8 (15 + p) + y
  | i + 1 => if c i = p + 1 then y - i else acl d c p y i
theorem acl_s (d : Dat) (c : Nat → Nat) (p y i : Nat) : acl d c p y (i + 1) = if c i = p + 1 then y - i else acl d c p y i := rfl
theorem acl_le {d : Dat} {c : Nat → Nat} {p y : Nat} (h : d 8 (15 + p) ≤ 40) : ∀ i, acl d c p y i ≤ 40 + y := by
  intro i
  induction i with
  | zero => exact Nat.add_le_add_right h y
  | succ i ih =>
    rw [acl_s]
    by_cases q : c i = p + 1
    · rw [if_pos q]; omega
    · rw [if_neg q]; exact ih
theorem acl_ag {d : Dat} {c : Nat → Nat} {p y : Nat} (h : d 8 (15 + p) ≤ 40) : ∀ i, i ≤ y → min 40 (acl d c p y i) = min 40 (ag d c p i + (y - i)) := by
  intro i
  induction i with
  | zero => intro _; rfl
  | succ i ih =>
    intro hi
    have h1 := ih (by omega)
    rw [acl_s, ag_s]
    by_cases q : c i = p + 1
    · rw [if_pos q, if_pos q]; omega
    · rw [if_neg q, if_neg q, h1]; omega
theorem gN40_dec : ∀ a, a < 71 → ∀ r, r < 16 → (if r < a then 2 * r - 2 - a else a - 2) = (if r < min 40 a then 2 * r - 2 - min 40 a else min 40 a - 2) := by decide +kernel
theorem gN40 {s a r : Nat} (ha : a < 71) (hr : r < 16) : gN s a r = gN s (min 40 a) r := by
  unfold gN
  rw [gN40_dec a ha r hr]
theorem acl_gn {k : Nat} {d : Dat} (hW : WF k d) {c : Nat → Nat} {y p : Nat} (hy : y < 4) (hp : p < d 2 0) (hc : c y = p + 1) : gN (d 3 p) (acl d c p y y) (d 2 2) = gn d c y := by
  have h8 := hW.2.2.1.2.2.2.2.2.2.2.2 p hp
  have hr := hW.2.1.2.2.1.2
  have h1 := acl_le (c := c) (y := y) h8 y
  have h2 := acl_ag (c := c) h8 y (Nat.le_refl y)
  have h3 := ag_le (c := c) h8 y
  unfold gn
  rw [gN40 (by omega) (by omega), h2, if_neg (by omega), hc, show p + 1 - 1 = p by omega, Nat.sub_self, Nat.add_zero, Nat.min_eq_right h3]
/-! rows as numbers -/
def dg (B n i y : Nat) : Nat := if y < n then i / B ^ (n - 1 - y) % B else 0
theorem dg_lt {B n i y : Nat} (hB : 0 < B) : dg B n i y < B := by
  unfold dg
  by_cases h : y < n
  · rw [if_pos h]; exact Nat.mod_lt _ hB
  · rw [if_neg h]; exact hB
theorem carry_ar {B i j : Nat} (hB : 0 < B) (h1 : i % B ^ j = B ^ j - 1) (h2 : i / B ^ j % B = B - 1) : i % B ^ (j + 1) = B ^ (j + 1) - 1 := by
  have hp : 0 < B ^ j := Nat.pow_pos hB
  have e := Nat.mod_mul (x := i) (a := B ^ j) (b := B)
  rw [Nat.pow_succ, e, h1, h2, Nat.mul_sub_one]
  have : B ^ j ≤ B ^ j * B := Nat.le_mul_of_pos_right _ hB
  omega
theorem nx_ar {B q : Nat} (hB : 0 < B) (h : q % B + 1 < B) : (q + 1) / B = q / B := by
  have hm := Nat.div_add_mod q B
  have e : q + 1 = B * (q / B) + (q % B + 1) := by omega
  calc (q + 1) / B = (B * (q / B) + (q % B + 1)) / B := by rw [← e]
    _ = q / B := by rw [Nat.mul_add_div hB, Nat.div_eq_of_lt h, Nat.add_zero]
theorem next_ar {B i j e : Nat} (hB : 0 < B) (h1 : i % B ^ j = B ^ j - 1) (h2 : i / B ^ j % B ≠ B - 1) : (i + 1) / B ^ e % B = if e < j then 0 else if e = j then i / B ^ j % B + 1 else i / B ^ e % B := by
  have hp : 0 < B ^ j := Nat.pow_pos hB
  -- i + 1 = B^j * (q + 1)
  have hi : i + 1 = B ^ j * (i / B ^ j + 1) := by
    have := Nat.div_add_mod i (B ^ j)
    rw [h1] at this
    rw [Nat.mul_add, Nat.mul_one]
    omega
  have hq : i / B ^ j % B < B - 1 := by
    have := Nat.mod_lt (i / B ^ j) hB
    omega
  have hq2 : (i / B ^ j + 1) % B = i / B ^ j % B + 1 := by
    rw [Nat.add_mod, Nat.mod_eq_of_lt (show 1 < B by omega), Nat.mod_eq_of_lt (by omega)]
  by_cases c1 : e < j
  · rw [if_pos c1]
    obtain ⟨f, rfl⟩ : ∃ f, j = e + 1 + f := ⟨j - e - 1, by omega⟩
    rw [hi, show B ^ (e + 1 + f) = B ^ e * (B * B ^ f) by rw [Nat.pow_add, Nat.pow_succ, Nat.mul_assoc], Nat.mul_assoc, Nat.mul_div_cancel_left _ (Nat.pow_pos hB), Nat.mul_assoc, Nat.mul_mod_right]
  · rw [if_neg c1]
    by_cases c2 : e = j
    · rw [if_pos c2, c2, hi, Nat.mul_div_cancel_left _ hp, hq2]
    · rw [if_neg c2]
      obtain ⟨f, rfl⟩ : ∃ f, e = j + 1 + f := ⟨e - j - 1, by omega⟩
      have a1 : (i + 1) / B ^ j = i / B ^ j + 1 := by rw [hi, Nat.mul_div_cancel_left _ hp]
      have a2 : (i / B ^ j + 1) / B = i / B ^ j / B := nx_ar hB (by omega)
      rw [show B ^ (j + 1 + f) = B ^ j * (B * B ^ f) by rw [Nat.pow_add, Nat.pow_succ, Nat.mul_assoc], ← Nat.div_div_eq_div_mul, ← Nat.div_div_eq_div_mul, ← Nat.div_div_eq_div_mul, ← Nat.div_div_eq_div_mul, a1, a2]
