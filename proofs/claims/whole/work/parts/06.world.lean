abbrev bo (b : Nat) : Nat := 21 + 2 * b
abbrev bl (b : Nat) : Nat := 22 + 2 * b
abbrev mo (m : Nat) : Nat := 49 + 2 * m
abbrev mg (m : Nat) : Nat := 50 + 2 * m
abbrev to (t : Nat) : Nat := 3 + 3 * t
abbrev tm (t : Nat) : Nat := 4 + 3 * t
abbrev tv (t : Nat) : Nat := 5 + 3 * t
abbrev ho (h : Nat) : Nat := 9 + 2 * h
abbrev hp (h : Nat) : Nat := 10 + 2 * h
def hlen (h : Nat) : Nat := if h = 0 then 10 else 2
def hbase (h : Nat) : Nat := if h = 0 then 1 else 11
abbrev tyX (X : XE) : List (ClassId × FieldType) := [(X.2.1 0, .int), (X.2.1 1, .char), (X.2.1 2, .boolean), (X.2.1 3, .object "BesomYard$Moment")]
abbrev ia (X : XE) (n : Nat) (f : Nat → Int32) : va_E := .inl (X.2.1 0, n, .inl f)
def cceB (X : XE) (j : Nat) (f : Nat → Int32) : va_E := if j < 28 then (if j % 2 = 0 then .inr (0, [.ref (X.1 (j + 22)), .int (f 1)]) else ia X 8 f) else (if j % 2 = 0 then .inr (1, [.ref (X.1 (j + 22)), .ref (X.1 (bo ((j - 28) / 2 + 1))), .int (f 2), .int (f 3), .int (f 4), .int (f 5), .int (f 6), .int (f 7)]) else ia X 6 f)
def cce (X : XE) (p : Nat × Nat × Int64) (k : Nat) (f : Nat → Int32) : va_E := match k with
  | 0 => .inr (6, [.ref (X.1 1), .ref (X.1 (to p.1)), .ref (X.1 (to p.2.1)), .ref (X.1 (mo 0)), .ref (X.1 (ho 0)), .int (f 5), .int (f 6), .ref (X.1 (ho 1)), .ref (X.1 13), .ref (X.1 14), .ref (X.1 15), .ref (X.1 16), .int (f 12), .ref (X.1 (bo 0)), .ref (X.1 17), .long p.2.2])
  | 1 => .inr (4, [.ref (X.1 2), .int (f 1), .int (f 2), .int (f 3), .int (f 4), .int (f 5)])
  | 2 => .inl (X.2.1 1, 200, .inl f)
  | 3 => .inr (5, [.ref (X.1 4), .ref (X.1 5)])
  | 4 => ia X 6 f
  | 5 => ia X 54 f
  | 6 => .inr (5, [.ref (X.1 7), .ref (X.1 8)])
  | 7 => ia X 6 f
  | 8 => ia X 54 f
  | 9 => .inr (3, [.ref (X.1 10)])
  | 10 => .inl (X.2.1 3, 10, .inr (.inr (.inr (.inr (fun i => some (X.1 (mo (1 + i))))))))
  | 11 => .inr (3, [.ref (X.1 12)])
  | 12 => .inl (X.2.1 3, 2, .inr (.inr (.inr (.inr (fun i => some (X.1 (mo (11 + i))))))))
  | 13 => .inl (X.2.1 2, 2, .inl f)
  | 14 => ia X 5 f
  | 15 => ia X 5 f
  | 16 => ia X 5 f
  | 17 => .inr (2, [.int (f 0), .ref (X.1 18), .ref (X.1 19), .ref (X.1 20)])
  | 18 => ia X 4 f
  | 19 => ia X 4 f
  | 20 => ia X 5 f
  | j + 21 => cceB X j f
theorem cce_bo (X : XE) (p : Nat × Nat × Int64) {b : Nat} (h : b < 14) (f : Nat → Int32) : cce X p (bo b) f = .inr (0, [.ref (X.1 (bl b)), .int (f 1)]) := by
  have e : bo b = 2 * b + 21 := by unfold bo; omega
  rw [e]
  show cceB X (2 * b) f = _
  unfold cceB
  rw [if_pos (by omega), if_pos (by omega), show 2 * b + 22 = bl b by unfold bl; omega]
theorem cce_bl (X : XE) (p : Nat × Nat × Int64) {b : Nat} (h : b < 14) (f : Nat → Int32) : cce X p (bl b) f = ia X 8 f := by
  have e : bl b = (2 * b + 1) + 21 := by unfold bl; omega
  rw [e]
  show cceB X (2 * b + 1) f = _
  unfold cceB
  rw [if_pos (by omega), if_neg (by omega)]
theorem cce_mo (X : XE) (p : Nat × Nat × Int64) {m : Nat} (h : m < 13) (f : Nat → Int32) : cce X p (mo m) f = .inr (1, [.ref (X.1 (mg m)), .ref (X.1 (bo (m + 1))), .int (f 2), .int (f 3), .int (f 4), .int (f 5), .int (f 6), .int (f 7)]) := by
  have e : mo m = (2 * m + 28) + 21 := by unfold mo; omega
  rw [e]
  show cceB X (2 * m + 28) f = _
  unfold cceB
  rw [if_neg (by omega), if_pos (by omega), show 2 * m + 28 + 22 = mg m by unfold mg; omega, show (2 * m + 28 - 28) / 2 + 1 = m + 1 by omega]
theorem cce_mg (X : XE) (p : Nat × Nat × Int64) {m : Nat} (h : m < 13) (f : Nat → Int32) : cce X p (mg m) f = ia X 6 f := by
  have e : mg m = (2 * m + 29) + 21 := by unfold mg; omega
  rw [e]
  show cceB X (2 * m + 29) f = _
  unfold cceB
  rw [if_neg (by omega), if_neg (by omega)]
theorem cce_to (X : XE) (p : Nat × Nat × Int64) {t : Nat} (h : t < 2) (f : Nat → Int32) : cce X p (to t) f = .inr (5, [.ref (X.1 (tm t)), .ref (X.1 (tv t))]) := by
  rcases (show t = 0 ∨ t = 1 by omega) with rfl | rfl <;> rfl
theorem cce_tm (X : XE) (p : Nat × Nat × Int64) {t : Nat} (h : t < 2) (f : Nat → Int32) : cce X p (tm t) f = ia X 6 f := by
  rcases (show t = 0 ∨ t = 1 by omega) with rfl | rfl <;> rfl
theorem cce_tv (X : XE) (p : Nat × Nat × Int64) {t : Nat} (h : t < 2) (f : Nat → Int32) : cce X p (tv t) f = ia X 54 f := by
  rcases (show t = 0 ∨ t = 1 by omega) with rfl | rfl <;> rfl
theorem cce_ho (X : XE) (p : Nat × Nat × Int64) {h : Nat} (hh : h < 2) (f : Nat → Int32) : cce X p (ho h) f = .inr (3, [.ref (X.1 (hp h))]) := by
  rcases (show h = 0 ∨ h = 1 by omega) with rfl | rfl <;> rfl
theorem cce_hp (X : XE) (p : Nat × Nat × Int64) {h : Nat} (hh : h < 2) (f : Nat → Int32) : cce X p (hp h) f = .inl (X.2.1 3, hlen h, .inr (.inr (.inr (.inr (fun i => some (X.1 (mo (hbase h + i)))))))) := by
  rcases (show h = 0 ∨ h = 1 by omega) with rfl | rfl <;> rfl
abbrev CW (X : XE) (S : CS) : va_W := GW 75 X.1 (cce X S.2) S.1
def rce (X : XE) (p : Nat × Nat × Int64) (k : Nat) (f : Nat → Int32) : va_E := match k with
  | 0 => .inr (7, [.int (f 0), .long p.2.2, .ref (X.1 1), .int (f 3), .int (f 4), .int (f 5), .int (f 6), .int (f 7), .int (f 8), .ref (X.1 2), .int (f 10), .ref (X.1 3), .ref (X.1 4), .ref (X.1 5), .ref (X.1 6), .ref (X.1 7), .ref (X.1 8), .ref (X.1 9), .ref (X.1 10), .ref (X.1 11), .ref (X.1 12), .int (f 21), .ref (X.1 13), .ref (X.1 14), .ref (X.1 15), .int (f 25), .ref (X.1 16), .ref (X.1 17)])
  | 1 => ia X 200 f
  | 2 => ia X 12 f
  | 3 => ia X 12 f
  | 4 => ia X 6 f
  | 5 => ia X 12 f
  | 6 => ia X 12 f
  | 7 => ia X 12 f
  | 8 => ia X 21 f
  | 9 => ia X 21 f
  | 10 => ia X 42 f
  | 11 => .inl (X.2.1 2, 2, .inl f)
  | 12 => ia X 210 f
  | 13 => ia X 5 f
  | 14 => ia X 5 f
  | 15 => ia X 5 f
  | 16 => ia X 4 f
  | _ => ia X 4 f
abbrev RW (X : XE) (S : CS) : va_W := GW 18 X.1 (rce X S.2) S.1
theorem rce_sw (X : XE) (p : Nat × Nat × Int64) {c : Nat} (h : c = 8 ∨ c = 9) (f : Nat → Int32) : rce X p c f = ia X 21 f := by
  rcases h with rfl | rfl <;> rfl
/-! what each cell holds -/
theorem cw_Yard {X : XE} {S : CS} : (CW X S)[0]? = some (X.1 (0), .inr (6, [.ref (X.1 1), .ref (X.1 (to S.2.1)), .ref (X.1 (to S.2.2.1)), .ref (X.1 (mo 0)), .ref (X.1 (ho 0)), .int (S.1 0 5), .int (S.1 0 6), .ref (X.1 (ho 1)), .ref (X.1 13), .ref (X.1 14), .ref (X.1 15), .ref (X.1 16), .int (S.1 0 12), .ref (X.1 (bo 0)), .ref (X.1 17), .long S.2.2.2])) := gw_at (by decide) (rfl)
theorem cw_Text {X : XE} {S : CS} : (CW X S)[1]? = some (X.1 (1), .inr (4, [.ref (X.1 2), .int (S.1 1 1), .int (S.1 1 2), .int (S.1 1 3), .int (S.1 1 4), .int (S.1 1 5)])) := gw_at (by decide) (rfl)
theorem cw_2 {X : XE} {S : CS} : (CW X S)[2]? = some (X.1 (2), .inl (X.2.1 1, 200, .inl (S.1 2))) := gw_at (by decide) (rfl)
theorem cw_13 {X : XE} {S : CS} : (CW X S)[13]? = some (X.1 (13), .inl (X.2.1 2, 2, .inl (S.1 13))) := gw_at (by decide) (rfl)
theorem cw_14 {X : XE} {S : CS} : (CW X S)[14]? = some (X.1 (14), ia X 5 (S.1 (14))) := gw_at (by decide) (rfl)
theorem cw_15 {X : XE} {S : CS} : (CW X S)[15]? = some (X.1 (15), ia X 5 (S.1 (15))) := gw_at (by decide) (rfl)
theorem cw_16 {X : XE} {S : CS} : (CW X S)[16]? = some (X.1 (16), ia X 5 (S.1 (16))) := gw_at (by decide) (rfl)
theorem cw_18 {X : XE} {S : CS} : (CW X S)[18]? = some (X.1 (18), ia X 4 (S.1 (18))) := gw_at (by decide) (rfl)
theorem cw_19 {X : XE} {S : CS} : (CW X S)[19]? = some (X.1 (19), ia X 4 (S.1 (19))) := gw_at (by decide) (rfl)
theorem cw_20 {X : XE} {S : CS} : (CW X S)[20]? = some (X.1 (20), ia X 5 (S.1 (20))) := gw_at (by decide) (rfl)
theorem cw_Planner {X : XE} {S : CS} : (CW X S)[17]? = some (X.1 (17), .inr (2, [.int (S.1 17 0), .ref (X.1 18), .ref (X.1 19), .ref (X.1 20)])) := gw_at (by decide) (rfl)
theorem cw_Besom {X : XE} {S : CS} {b : Nat} (h : b < 14) : (CW X S)[bo b]? = some (X.1 (bo b), .inr (0, [.ref (X.1 (bl b)), .int (S.1 (bo b) 1)])) := gw_at (by unfold bo; omega) (cce_bo X S.2 h _)
theorem cw_bl {X : XE} {S : CS} {b : Nat} (h : b < 14) : (CW X S)[bl b]? = some (X.1 (bl b), ia X 8 (S.1 (bl b))) := gw_at (by unfold bl; omega) (cce_bl X S.2 h _)
theorem cw_Moment {X : XE} {S : CS} {m : Nat} (h : m < 13) : (CW X S)[mo m]? = some (X.1 (mo m), .inr (1, [.ref (X.1 (mg m)), .ref (X.1 (bo (m + 1))), .int (S.1 (mo m) 2), .int (S.1 (mo m) 3), .int (S.1 (mo m) 4), .int (S.1 (mo m) 5), .int (S.1 (mo m) 6), .int (S.1 (mo m) 7)])) := gw_at (by unfold mo; omega) (cce_mo X S.2 h _)
theorem cw_mg {X : XE} {S : CS} {m : Nat} (h : m < 13) : (CW X S)[mg m]? = some (X.1 (mg m), ia X 6 (S.1 (mg m))) := gw_at (by unfold mg; omega) (cce_mg X S.2 h _)
theorem cw_Told {X : XE} {S : CS} {t : Nat} (h : t < 2) : (CW X S)[to t]? = some (X.1 (to t), .inr (5, [.ref (X.1 (tm t)), .ref (X.1 (tv t))])) := gw_at (by unfold to; omega) (cce_to X S.2 h _)
theorem cw_tm {X : XE} {S : CS} {t : Nat} (h : t < 2) : (CW X S)[tm t]? = some (X.1 (tm t), ia X 6 (S.1 (tm t))) := gw_at (by unfold tm; omega) (cce_tm X S.2 h _)
theorem cw_tv {X : XE} {S : CS} {t : Nat} (h : t < 2) : (CW X S)[tv t]? = some (X.1 (tv t), ia X 54 (S.1 (tv t))) := gw_at (by unfold tv; omega) (cce_tv X S.2 h _)
theorem cw_Shelf {X : XE} {S : CS} {h : Nat} (hh : h < 2) : (CW X S)[ho h]? = some (X.1 (ho h), .inr (3, [.ref (X.1 (hp h))])) := gw_at (by unfold ho; omega) (cce_ho X S.2 hh _)
theorem cw_hp {X : XE} {S : CS} {h : Nat} (hh : h < 2) : (CW X S)[hp h]? = some (X.1 (hp h), .inl (X.2.1 3, hlen h, .inr (.inr (.inr (.inr (fun i => some (X.1 (mo (hbase h + i))))))))) := gw_at (by unfold hp; omega) (cce_hp X S.2 hh _)
theorem rw_Model {X : XE} {S : CS} : (RW X S)[0]? = some (X.1 (0), .inr (7, [.int (S.1 0 0), .long S.2.2.2, .ref (X.1 1), .int (S.1 0 3), .int (S.1 0 4), .int (S.1 0 5), .int (S.1 0 6), .int (S.1 0 7), .int (S.1 0 8), .ref (X.1 2), .int (S.1 0 10), .ref (X.1 3), .ref (X.1 4), .ref (X.1 5), .ref (X.1 6), .ref (X.1 7), .ref (X.1 8), .ref (X.1 9), .ref (X.1 10), .ref (X.1 11), .ref (X.1 12), .int (S.1 0 21), .ref (X.1 13), .ref (X.1 14), .ref (X.1 15), .int (S.1 0 25), .ref (X.1 16), .ref (X.1 17)])) := gw_at (by decide) (rfl)
theorem rw_1 {X : XE} {S : CS} : (RW X S)[1]? = some (X.1 (1), ia X 200 (S.1 (1))) := gw_at (by decide) (rfl)
theorem rw_2 {X : XE} {S : CS} : (RW X S)[2]? = some (X.1 (2), ia X 12 (S.1 (2))) := gw_at (by decide) (rfl)
theorem rw_3 {X : XE} {S : CS} : (RW X S)[3]? = some (X.1 (3), ia X 12 (S.1 (3))) := gw_at (by decide) (rfl)
theorem rw_4 {X : XE} {S : CS} : (RW X S)[4]? = some (X.1 (4), ia X 6 (S.1 (4))) := gw_at (by decide) (rfl)
theorem rw_5 {X : XE} {S : CS} : (RW X S)[5]? = some (X.1 (5), ia X 12 (S.1 (5))) := gw_at (by decide) (rfl)
theorem rw_6 {X : XE} {S : CS} : (RW X S)[6]? = some (X.1 (6), ia X 12 (S.1 (6))) := gw_at (by decide) (rfl)
theorem rw_7 {X : XE} {S : CS} : (RW X S)[7]? = some (X.1 (7), ia X 12 (S.1 (7))) := gw_at (by decide) (rfl)
theorem rw_8 {X : XE} {S : CS} : (RW X S)[8]? = some (X.1 (8), ia X 21 (S.1 (8))) := gw_at (by decide) (rfl)
theorem rw_9 {X : XE} {S : CS} : (RW X S)[9]? = some (X.1 (9), ia X 21 (S.1 (9))) := gw_at (by decide) (rfl)
theorem rw_10 {X : XE} {S : CS} : (RW X S)[10]? = some (X.1 (10), ia X 42 (S.1 (10))) := gw_at (by decide) (rfl)
theorem rw_12 {X : XE} {S : CS} : (RW X S)[12]? = some (X.1 (12), ia X 210 (S.1 (12))) := gw_at (by decide) (rfl)
theorem rw_13 {X : XE} {S : CS} : (RW X S)[13]? = some (X.1 (13), ia X 5 (S.1 (13))) := gw_at (by decide) (rfl)
theorem rw_14 {X : XE} {S : CS} : (RW X S)[14]? = some (X.1 (14), ia X 5 (S.1 (14))) := gw_at (by decide) (rfl)
theorem rw_15 {X : XE} {S : CS} : (RW X S)[15]? = some (X.1 (15), ia X 5 (S.1 (15))) := gw_at (by decide) (rfl)
theorem rw_16 {X : XE} {S : CS} : (RW X S)[16]? = some (X.1 (16), ia X 4 (S.1 (16))) := gw_at (by decide) (rfl)
theorem rw_17 {X : XE} {S : CS} : (RW X S)[17]? = some (X.1 (17), ia X 4 (S.1 (17))) := gw_at (by decide) (rfl)
theorem rw_11 {X : XE} {S : CS} : (RW X S)[11]? = some (X.1 (11), .inl (X.2.1 2, 2, .inl (S.1 11))) := gw_at (by decide) (rfl)
theorem rw_sw {X : XE} {S : CS} {c : Nat} (h : c = 8 ∨ c = 9) : (RW X S)[c]? = some (X.1 (c), ia X 21 (S.1 (c))) := gw_at (by omega) (rce_sw X S.2 h _)
/-! how a store changes the world -/
theorem cw_st {X : XE} {S : CS} {D : va_G} {H : Heap} {k j : Nat} {x : Int32} {e : va_E} (he : cce X S.2 k (upd (S.1 k) j x) = e) (h : va_P D vwCl ((CW X S).set k (X.1 k, e)) H) : va_P D vwCl (CW X (sti S k j x)) H := by
  rw [gw_set he] at h
  exact h
theorem rw_st {X : XE} {S : CS} {D : va_G} {H : Heap} {k j : Nat} {x : Int32} {e : va_E} (he : rce X S.2 k (upd (S.1 k) j x) = e) (h : va_P D vwCl ((RW X S).set k (X.1 k, e)) H) : va_P D vwCl (RW X (sti S k j x)) H := by
  rw [gw_set he] at h
  exact h
def stt (S : CS) (x : Int64) : CS := (S.1, S.2.1, S.2.2.1, x)
def std (S : CS) (t : Nat) : CS := (S.1, t, S.2.2)
def sdd (S : CS) (t : Nat) : CS := (S.1, S.2.1, t, S.2.2.2)
theorem gw_set0 {N : Nat} {a : Nat → Nat} {ce ce' : Nat → (Nat → Int32) → va_E} {v : Mem} {e : va_E} (he : ce' 0 (v 0) = e) (ho : ∀ k f, k ≠ 0 → ce' k f = ce k f) : (GW N a ce v).set 0 (a 0, e) = GW N a ce' v := by
  subst he
  apply List.ext_getElem?
  intro j
  rw [List.getElem?_set]
  by_cases hj : 0 = j
  · subst hj
    by_cases h : 0 < N <;> simp [GW, h]
  · have hj2 : ¬ j = 0 := fun q => hj q.symm
    simp only [hj, if_false, GW, List.getElem?_map]
    cases h : (List.range N)[j]? with
    | none => rfl
    | some q =>
      have hq : q = j := by
        have h2 := List.getElem?_eq_some_iff.mp h
        obtain ⟨h3, h4⟩ := h2
        simpa using h4.symm
      subst hq
      simp [ho q _ hj2]
theorem cce_0 (X : XE) (p p' : Nat × Nat × Int64) (k : Nat) (f : Nat → Int32) (h : k ≠ 0) : cce X p k f = cce X p' k f := by
  match k, h with
  | 1, _ => rfl
  | 2, _ => rfl
  | 3, _ => rfl
  | 4, _ => rfl
  | 5, _ => rfl
  | 6, _ => rfl
  | 7, _ => rfl
  | 8, _ => rfl
  | 9, _ => rfl
  | 10, _ => rfl
  | 11, _ => rfl
  | 12, _ => rfl
  | 13, _ => rfl
  | 14, _ => rfl
  | 15, _ => rfl
  | 16, _ => rfl
  | 17, _ => rfl
  | 18, _ => rfl
  | 19, _ => rfl
  | 20, _ => rfl
  | j + 21, _ => rfl
theorem rce_0 (X : XE) (p p' : Nat × Nat × Int64) (k : Nat) (f : Nat → Int32) (h : k ≠ 0) : rce X p k f = rce X p' k f := by
  match k, h with
  | 1, _ => rfl
  | 2, _ => rfl
  | 3, _ => rfl
  | 4, _ => rfl
  | 5, _ => rfl
  | 6, _ => rfl
  | 7, _ => rfl
  | 8, _ => rfl
  | 9, _ => rfl
  | 10, _ => rfl
  | 11, _ => rfl
  | 12, _ => rfl
  | 13, _ => rfl
  | 14, _ => rfl
  | 15, _ => rfl
  | 16, _ => rfl
  | j + 17, _ => rfl
theorem cw_stt {X : XE} {S : CS} {D : va_G} {H : Heap} {x : Int64} {e : va_E} (he : cce X (stt S x).2 0 (S.1 0) = e) (h : va_P D vwCl ((CW X S).set 0 (X.1 0, e)) H) : va_P D vwCl (CW X (stt S x)) H := by
  rw [gw_set0 (ce' := cce X (stt S x).2) he (fun k f hk => cce_0 X _ _ k f hk)] at h
  exact h
theorem cw_std {X : XE} {S : CS} {D : va_G} {H : Heap} {t : Nat} {e : va_E} (he : cce X (std S t).2 0 (S.1 0) = e) (h : va_P D vwCl ((CW X S).set 0 (X.1 0, e)) H) : va_P D vwCl (CW X (std S t)) H := by
  rw [gw_set0 (ce' := cce X (std S t).2) he (fun k f hk => cce_0 X _ _ k f hk)] at h
  exact h
theorem cw_sdd {X : XE} {S : CS} {D : va_G} {H : Heap} {t : Nat} {e : va_E} (he : cce X (sdd S t).2 0 (S.1 0) = e) (h : va_P D vwCl ((CW X S).set 0 (X.1 0, e)) H) : va_P D vwCl (CW X (sdd S t)) H := by
  rw [gw_set0 (ce' := cce X (sdd S t).2) he (fun k f hk => cce_0 X _ _ k f hk)] at h
  exact h
theorem rw_stt {X : XE} {S : CS} {D : va_G} {H : Heap} {x : Int64} {e : va_E} (he : rce X (stt S x).2 0 (S.1 0) = e) (h : va_P D vwCl ((RW X S).set 0 (X.1 0, e)) H) : va_P D vwCl (RW X (stt S x)) H := by
  rw [gw_set0 (ce' := rce X (stt S x).2) he (fun k f hk => rce_0 X _ _ k f hk)] at h
  exact h
/-! array rows with the place's number named -/
theorem vpc {i : Int32} {n : Nat} (h : ¬ (i < 0 ∨ n ≤ i.toNatClampNeg)) : vp_in i n := h
section GROW
variable {p : Program} {l : Launch} {e : Env} {R : Room} {s : State} {m : MethodId} {args : Array Value} {below : List Frame} {meth : Method} {c : Code} {H : Heap} {locs : List Loc} {cells slots : Nat} {Q : State → Prop}
variable {cc : ByteArray} {pc : Nat} {ls : Array Slot} {rest : List Value} {D : va_G} {cl : List vw_C} {A : Nat → Prop} {a : Nat} {tys : List (ClassId × FieldType)} {ws : va_W} {H0 : Heap}
theorem g_iald (hx : p.tables.exec = Jvm.exec) (hb : c.code = cc) (hK : va_K D cl tys s) (hP : va_P D cl ws H) (q0 : Nat) {cA : ClassId} {n : Nat} {f : Nat → Int32} (ha : ws[q0]? = some (a, .inl (cA, n, .inl f))) (ht : tys[0]? = some (cA, .int)) {i : Int32} (hin : vp_in i n) (j : Nat) (hj : i.toNatClampNeg = j) (hdg : decode cc pc = .ok (.iaload, 1))
    (kk : W p l e R s m args below meth c H locs cells slots Q (F0 m (pc + 1) ls (.int (f j) :: rest))) : W p l e R s m args below meth c H locs cells slots Q (F0 m pc ls (.int i :: .ref a :: rest)) := by
  subst hj
  exact va_iald hx hb hK hP q0 0 ha ht hin hdg kk
theorem g_cald (hx : p.tables.exec = Jvm.exec) (hb : c.code = cc) (hK : va_K D cl tys s) (hP : va_P D cl ws H) (q0 : Nat) {cA : ClassId} {n : Nat} {f : Nat → Int32} (ha : ws[q0]? = some (a, .inl (cA, n, .inl f))) (ht : tys[1]? = some (cA, .char)) {i : Int32} (hin : vp_in i n) (j : Nat) (hj : i.toNatClampNeg = j) (hdg : decode cc pc = .ok (.caload, 1))
    (kk : W p l e R s m args below meth c H locs cells slots Q (F0 m (pc + 1) ls (.int (f j) :: rest))) : W p l e R s m args below meth c H locs cells slots Q (F0 m pc ls (.int i :: .ref a :: rest)) := by
  subst hj
  exact va_cald hx hb hK hP q0 1 ha ht hin hdg kk
theorem g_zald (hx : p.tables.exec = Jvm.exec) (hb : c.code = cc) (hK : va_K D cl tys s) (hP : va_P D cl ws H) (q0 : Nat) {cA : ClassId} {n : Nat} {f : Nat → Int32} (ha : ws[q0]? = some (a, .inl (cA, n, .inl f))) (ht : tys[2]? = some (cA, .boolean)) {i : Int32} (hin : vp_in i n) (j : Nat) (hj : i.toNatClampNeg = j) (hdg : decode cc pc = .ok (.baload, 1))
    (kk : W p l e R s m args below meth c H locs cells slots Q (F0 m (pc + 1) ls (.int (f j) :: rest))) : W p l e R s m args below meth c H locs cells slots Q (F0 m pc ls (.int i :: .ref a :: rest)) := by
  subst hj
  exact va_zald hx hb hK hP q0 2 ha ht hin hdg kk
theorem g_iast (hx : p.tables.exec = Jvm.exec) (hb : c.code = cc) (hK : va_K D cl tys s) (hP : va_P D cl ws H) (hD : va_D A ws) (hS : va_S A H0 H locs) (q0 : Nat) {cA : ClassId} {n : Nat} {f : Nat → Int32} (ha : ws[q0]? = some (a, .inl (cA, n, .inl f))) (ht : tys[0]? = some (cA, .int)) {i : Int32} {x : Int32} (hin : vp_in i n) (j : Nat) (hj : i.toNatClampNeg = j) (hdg : decode cc pc = .ok (.iastore, 1))
    (kk : ∀ (H1 : Heap) (locs1 : List Loc), va_P D cl (ws.set q0 (a, .inl (cA, n, .inl (upd f j x)))) H1 → va_S A H0 H1 locs1 → W p l e R s m args below meth c H1 locs1 cells slots Q (F0 m (pc + 1) ls rest)) : W p l e R s m args below meth c H locs cells slots Q (F0 m pc ls (.int x :: .int i :: .ref a :: rest)) := by
  subst hj
  exact va_iast hx hb hK hP hD hS q0 0 ha ht hin hdg (fun H1 locs1 h1 _ h2 => kk H1 locs1 h1 h2)
theorem g_cast (hx : p.tables.exec = Jvm.exec) (hb : c.code = cc) (hK : va_K D cl tys s) (hP : va_P D cl ws H) (hD : va_D A ws) (hS : va_S A H0 H locs) (q0 : Nat) {cA : ClassId} {n : Nat} {f : Nat → Int32} (ha : ws[q0]? = some (a, .inl (cA, n, .inl f))) (ht : tys[1]? = some (cA, .char)) {i : Int32} {x : Int32} (hin : vp_in i n) (j : Nat) (hj : i.toNatClampNeg = j) (hdg : decode cc pc = .ok (.castore, 1))
    (kk : ∀ (H1 : Heap) (locs1 : List Loc), va_P D cl (ws.set q0 (a, .inl (cA, n, .inl (upd f j (vp_nar .char x))))) H1 → va_S A H0 H1 locs1 → W p l e R s m args below meth c H1 locs1 cells slots Q (F0 m (pc + 1) ls rest)) : W p l e R s m args below meth c H locs cells slots Q (F0 m pc ls (.int x :: .int i :: .ref a :: rest)) := by
  subst hj
  exact va_cast hx hb hK hP hD hS q0 1 ha ht hin hdg (fun H1 locs1 h1 _ h2 => kk H1 locs1 h1 h2)
theorem g_zast (hx : p.tables.exec = Jvm.exec) (hb : c.code = cc) (hK : va_K D cl tys s) (hP : va_P D cl ws H) (hD : va_D A ws) (hS : va_S A H0 H locs) (q0 : Nat) {cA : ClassId} {n : Nat} {f : Nat → Int32} (ha : ws[q0]? = some (a, .inl (cA, n, .inl f))) (ht : tys[2]? = some (cA, .boolean)) {i : Int32} {x : Int32} (hin : vp_in i n) (j : Nat) (hj : i.toNatClampNeg = j) (hdg : decode cc pc = .ok (.bastore, 1))
    (kk : ∀ (H1 : Heap) (locs1 : List Loc), va_P D cl (ws.set q0 (a, .inl (cA, n, .inl (upd f j (vp_nar .boolean x))))) H1 → va_S A H0 H1 locs1 → W p l e R s m args below meth c H1 locs1 cells slots Q (F0 m (pc + 1) ls rest)) : W p l e R s m args below meth c H locs cells slots Q (F0 m pc ls (.int x :: .int i :: .ref a :: rest)) := by
  subst hj
  exact va_zast hx hb hK hP hD hS q0 2 ha ht hin hdg (fun H1 locs1 h1 _ h2 => kk H1 locs1 h1 h2)
end GROW
