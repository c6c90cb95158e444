abbrev yB (D : va_G) (X : XE) (q : Nat) (A : Nat → Prop) : (Nat → Nat) × CS → State → Prop := fun u t => va_P D vwCl (CW (u.1, X.2) u.2) t.heap ∧ Inj 75 u.1 ∧ u.1 0 = q ∧ ∀ k, k < 75 → A (u.1 k)
/-- a state as the constructor has it before startAnew() -/
def iniC (S : CS) : Prop := S.2 = (0, 1, 0) ∧ (∀ j, j < 6 → S.1 4 j = 0) ∧ (∀ j, j < 54 → S.1 5 j = (([0, 0, 0, 0, 0, 9, 3, 11, 9] : List Int32).getD (j / 6) 0)) ∧ (∀ j, j < 6 → S.1 7 j = 0) ∧ (∀ j, j < 54 → S.1 8 j = (([0, 0, 0, 0, 0, 9, 3, 11, 9] : List Int32).getD (j / 6) 0)) ∧ ∀ k j, k ≠ 4 → k ≠ 5 → k ≠ 7 → k ≠ 8 → S.1 k j = 0
def s0Yard (u4 u6 : (Nat → Nat) × Mem) : CS := ((fun k => if k = 4 then u4.2 1 else if k = 5 then u4.2 2 else if k = 7 then u6.2 1 else if k = 8 then u6.2 2 else zf), 0, 1, 0)
theorem yard_ini {u4 u6 : (Nat → Nat) × Mem} (h4 : told0 u4.2) (h6 : told0 u6.2) : iniC (s0Yard u4 u6) :=
  ⟨rfl, h4.1, h4.2, h6.1, h6.2, fun k j a b c d => by unfold s0Yard; simp [a, b, c, d]⟩
def adYard (q q1 q3 q5 q7 q9 q11 q13 q14 q15 q16 q17 q19 : Nat) (u2 u4 u6 u8 u10 u12 u18 u20 : (Nat → Nat) × Mem) : Nat → Nat := fun k => ([q, q1, u2.1 0, q3, u4.1 0, u4.1 1, q5, u6.1 0, u6.1 1, q9, u10.1 0, q11, u12.1 0, q13, q14, q15, q16, q19, u20.1 0, u20.1 1, u20.1 2, q17, u18.1 0, u8.1 1, u8.1 2, u10.1 3, u10.1 4, u10.1 7, u10.1 8, u10.1 11, u10.1 12, u10.1 15, u10.1 16, u10.1 19, u10.1 20, u10.1 23, u10.1 24, u10.1 27, u10.1 28, u10.1 31, u10.1 32, u10.1 35, u10.1 36, u10.1 39, u10.1 40, u12.1 3, u12.1 4, u12.1 7, u12.1 8, q7, u8.1 0, u10.1 1, u10.1 2, u10.1 5, u10.1 6, u10.1 9, u10.1 10, u10.1 13, u10.1 14, u10.1 17, u10.1 18, u10.1 21, u10.1 22, u10.1 25, u10.1 26, u10.1 29, u10.1 30, u10.1 33, u10.1 34, u10.1 37, u10.1 38, u12.1 1, u12.1 2, u12.1 5, u12.1 6] : List Nat).getD k 0
abbrev csYard (X : XE) (q q1 q3 q5 q7 q9 q11 q13 q14 q15 q16 q17 q19 : Nat) (u2 u4 u6 u8 u10 u12 u18 u20 : (Nat → Nat) × Mem) : va_W := ((q, .inr (6, [.ref q1, .ref q3, .ref q5, .ref q7, .ref q9, .int 0, .int 0, .ref q11, .ref q13, .ref q14, .ref q15, .ref q16, .int 0, .ref q17, .ref q19, .long 0])) :: ((((((((((((([] : va_W) ++ csText X q1 u2) ++ csTold X q3 u4) ++ csTold X q5 u6) ++ csMoment X q7 u8) ++ csShelf X 10 q9 u10) ++ csShelf X 2 q11 u12) ++ [(q13, .inl (X.2.1 2, 2, .inl zf))]) ++ [(q14, .inl (X.2.1 0, 5, .inl zf))]) ++ [(q15, .inl (X.2.1 0, 5, .inl zf))]) ++ [(q16, .inl (X.2.1 0, 5, .inl zf))]) ++ csBesom X q17 u18) ++ csPlanner X q19 u20))
def poYard : List Nat := [0, 1, 2, 3, 4, 5, 6, 7, 8, 13, 14, 55, 56, 65, 66, 67, 68, 71, 72, 73, 74, 69, 70, 11, 12, 17, 18, 21, 22, 25, 26, 29, 30, 33, 34, 37, 38, 41, 42, 45, 46, 49, 50, 53, 54, 59, 60, 63, 64, 9, 10, 15, 16, 19, 20, 23, 24, 27, 28, 31, 32, 35, 36, 39, 40, 43, 44, 47, 48, 51, 52, 57, 58, 61, 62]
set_option maxRecDepth 100000 in
set_option maxHeartbeats 4000000 in
theorem yard_at (X : XE) (q q1 q3 q5 q7 q9 q11 q13 q14 q15 q16 q17 q19 : Nat) (u2 u4 u6 u8 u10 u12 u18 u20 : (Nat → Nat) × Mem) : ∀ k, k < 75 → ∃ e, (csYard X q q1 q3 q5 q7 q9 q11 q13 q14 q15 q16 q17 q19 u2 u4 u6 u8 u10 u12 u18 u20)[poYard.getD k 0]? = some (adYard q q1 q3 q5 q7 q9 q11 q13 q14 q15 q16 q17 q19 u2 u4 u6 u8 u10 u12 u18 u20 k, e) ∧ (k ≠ 10 → k ≠ 12 → e = cce (adYard q q1 q3 q5 q7 q9 q11 q13 q14 q15 q16 q17 q19 u2 u4 u6 u8 u10 u12 u18 u20, X.2) (s0Yard u4 u6).2 k ((s0Yard u4 u6).1 k)) := by
  intro k hk
  match k, hk with
  | 0, _ => exact ⟨_, rfl, fun a b => rfl⟩
  | 1, _ => exact ⟨_, rfl, fun a b => rfl⟩
  | 2, _ => exact ⟨_, rfl, fun a b => rfl⟩
  | 3, _ => exact ⟨_, rfl, fun a b => rfl⟩
  | 4, _ => exact ⟨_, rfl, fun a b => rfl⟩
  | 5, _ => exact ⟨_, rfl, fun a b => rfl⟩
  | 6, _ => exact ⟨_, rfl, fun a b => rfl⟩
  | 7, _ => exact ⟨_, rfl, fun a b => rfl⟩
  | 8, _ => exact ⟨_, rfl, fun a b => rfl⟩
  | 9, _ => exact ⟨_, rfl, fun a b => rfl⟩
  | 10, _ => exact ⟨_, rfl, fun a b => absurd rfl a⟩
  | 11, _ => exact ⟨_, rfl, fun a b => rfl⟩
  | 12, _ => exact ⟨_, rfl, fun a b => absurd rfl b⟩
  | 13, _ => exact ⟨_, rfl, fun a b => rfl⟩
  | 14, _ => exact ⟨_, rfl, fun a b => rfl⟩
  | 15, _ => exact ⟨_, rfl, fun a b => rfl⟩
  | 16, _ => exact ⟨_, rfl, fun a b => rfl⟩
  | 17, _ => exact ⟨_, rfl, fun a b => rfl⟩
  | 18, _ => exact ⟨_, rfl, fun a b => rfl⟩
  | 19, _ => exact ⟨_, rfl, fun a b => rfl⟩
  | 20, _ => exact ⟨_, rfl, fun a b => rfl⟩
  | 21, _ => exact ⟨_, rfl, fun a b => rfl⟩
  | 22, _ => exact ⟨_, rfl, fun a b => rfl⟩
  | 23, _ => exact ⟨_, rfl, fun a b => rfl⟩
  | 24, _ => exact ⟨_, rfl, fun a b => rfl⟩
  | 25, _ => exact ⟨_, rfl, fun a b => rfl⟩
  | 26, _ => exact ⟨_, rfl, fun a b => rfl⟩
  | 27, _ => exact ⟨_, rfl, fun a b => rfl⟩
  | 28, _ => exact ⟨_, rfl, fun a b => rfl⟩
  | 29, _ => exact ⟨_, rfl, fun a b => rfl⟩
  | 30, _ => exact ⟨_, rfl, fun a b => rfl⟩
  | 31, _ => exact ⟨_, rfl, fun a b => rfl⟩
  | 32, _ => exact ⟨_, rfl, fun a b => rfl⟩
  | 33, _ => exact ⟨_, rfl, fun a b => rfl⟩
  | 34, _ => exact ⟨_, rfl, fun a b => rfl⟩
  | 35, _ => exact ⟨_, rfl, fun a b => rfl⟩
  | 36, _ => exact ⟨_, rfl, fun a b => rfl⟩
  | 37, _ => exact ⟨_, rfl, fun a b => rfl⟩
  | 38, _ => exact ⟨_, rfl, fun a b => rfl⟩
  | 39, _ => exact ⟨_, rfl, fun a b => rfl⟩
  | 40, _ => exact ⟨_, rfl, fun a b => rfl⟩
  | 41, _ => exact ⟨_, rfl, fun a b => rfl⟩
  | 42, _ => exact ⟨_, rfl, fun a b => rfl⟩
  | 43, _ => exact ⟨_, rfl, fun a b => rfl⟩
  | 44, _ => exact ⟨_, rfl, fun a b => rfl⟩
  | 45, _ => exact ⟨_, rfl, fun a b => rfl⟩
  | 46, _ => exact ⟨_, rfl, fun a b => rfl⟩
  | 47, _ => exact ⟨_, rfl, fun a b => rfl⟩
  | 48, _ => exact ⟨_, rfl, fun a b => rfl⟩
  | 49, _ => exact ⟨_, rfl, fun a b => rfl⟩
  | 50, _ => exact ⟨_, rfl, fun a b => rfl⟩
  | 51, _ => exact ⟨_, rfl, fun a b => rfl⟩
  | 52, _ => exact ⟨_, rfl, fun a b => rfl⟩
  | 53, _ => exact ⟨_, rfl, fun a b => rfl⟩
  | 54, _ => exact ⟨_, rfl, fun a b => rfl⟩
  | 55, _ => exact ⟨_, rfl, fun a b => rfl⟩
  | 56, _ => exact ⟨_, rfl, fun a b => rfl⟩
  | 57, _ => exact ⟨_, rfl, fun a b => rfl⟩
  | 58, _ => exact ⟨_, rfl, fun a b => rfl⟩
  | 59, _ => exact ⟨_, rfl, fun a b => rfl⟩
  | 60, _ => exact ⟨_, rfl, fun a b => rfl⟩
  | 61, _ => exact ⟨_, rfl, fun a b => rfl⟩
  | 62, _ => exact ⟨_, rfl, fun a b => rfl⟩
  | 63, _ => exact ⟨_, rfl, fun a b => rfl⟩
  | 64, _ => exact ⟨_, rfl, fun a b => rfl⟩
  | 65, _ => exact ⟨_, rfl, fun a b => rfl⟩
  | 66, _ => exact ⟨_, rfl, fun a b => rfl⟩
  | 67, _ => exact ⟨_, rfl, fun a b => rfl⟩
  | 68, _ => exact ⟨_, rfl, fun a b => rfl⟩
  | 69, _ => exact ⟨_, rfl, fun a b => rfl⟩
  | 70, _ => exact ⟨_, rfl, fun a b => rfl⟩
  | 71, _ => exact ⟨_, rfl, fun a b => rfl⟩
  | 72, _ => exact ⟨_, rfl, fun a b => rfl⟩
  | 73, _ => exact ⟨_, rfl, fun a b => rfl⟩
  | 74, _ => exact ⟨_, rfl, fun a b => rfl⟩
  | k + 75, hk => exact absurd hk (by omega)
theorem po_inj : ∀ i, i < 75 → ∀ j, j < 75 → poYard.getD i 0 = poYard.getD j 0 → i = j := by decide +kernel
theorem yard_I (X : XE) (q q1 q3 q5 q7 q9 q11 q13 q14 q15 q16 q17 q19 : Nat) (u2 u4 u6 u8 u10 u12 u18 u20 : (Nat → Nat) × Mem) {A : Nat → Prop} (hD : va_D A (csYard X q q1 q3 q5 q7 q9 q11 q13 q14 q15 q16 q17 q19 u2 u4 u6 u8 u10 u12 u18 u20)) : Inj 75 (adYard q q1 q3 q5 q7 q9 q11 q13 q14 q15 q16 q17 q19 u2 u4 u6 u8 u10 u12 u18 u20) := by
  intro i j hi hj hij
  obtain ⟨e1, h1, -⟩ := yard_at X q q1 q3 q5 q7 q9 q11 q13 q14 q15 q16 q17 q19 u2 u4 u6 u8 u10 u12 u18 u20 i hi
  obtain ⟨e2, h2, -⟩ := yard_at X q q1 q3 q5 q7 q9 q11 q13 q14 q15 q16 q17 q19 u2 u4 u6 u8 u10 u12 u18 u20 j hj
  exact po_inj i hi j hj (hD.1 _ _ _ _ h1 h2 hij)
theorem yard_A (X : XE) (q q1 q3 q5 q7 q9 q11 q13 q14 q15 q16 q17 q19 : Nat) (u2 u4 u6 u8 u10 u12 u18 u20 : (Nat → Nat) × Mem) {A : Nat → Prop} (hD : va_D A (csYard X q q1 q3 q5 q7 q9 q11 q13 q14 q15 q16 q17 q19 u2 u4 u6 u8 u10 u12 u18 u20)) : ∀ k, k < 75 → A (adYard q q1 q3 q5 q7 q9 q11 q13 q14 q15 q16 q17 q19 u2 u4 u6 u8 u10 u12 u18 u20 k) := by
  intro k hk
  obtain ⟨e1, h1, -⟩ := yard_at X q q1 q3 q5 q7 q9 q11 q13 q14 q15 q16 q17 q19 u2 u4 u6 u8 u10 u12 u18 u20 k hk
  exact hD.2 _ _ h1
set_option maxRecDepth 100000 in
theorem yard_P (X : XE) (q q1 q3 q5 q7 q9 q11 q13 q14 q15 q16 q17 q19 : Nat) (u2 u4 u6 u8 u10 u12 u18 u20 : (Nat → Nat) × Mem) {D : va_G} {H : Heap} (hP : va_P D vwCl (csYard X q q1 q3 q5 q7 q9 q11 q13 q14 q15 q16 q17 q19 u2 u4 u6 u8 u10 u12 u18 u20) H) : va_P D vwCl (CW (adYard q q1 q3 q5 q7 q9 q11 q13 q14 q15 q16 q17 q19 u2 u4 u6 u8 u10 u12 u18 u20, X.2) (s0Yard u4 u6)) H := by
  intro k x hx
  obtain ⟨hk, rfl⟩ := gw_lt hx
  by_cases h10 : k = 10
  · subst h10
    show H[adYard q q1 q3 q5 q7 q9 q11 q13 q14 q15 q16 q17 q19 u2 u4 u6 u8 u10 u12 u18 u20 10]? = some (vp_cell (X.2.1 3) (10, .inr (.inr (.inr (.inr (fun i => some (adYard q q1 q3 q5 q7 q9 q11 q13 q14 q15 q16 q17 q19 u2 u4 u6 u8 u10 u12 u18 u20 (mo (1 + i)))))))))
    have h1 : H[u10.1 0]? = some (vp_cell (X.2.1 3) (10, .inr (.inr (.inr (.inr (fun i => some (u10.1 (1 + 4 * i)))))))) := hP 14 (u10.1 0, rfe X 10 (fun i => some (u10.1 (1 + 4 * i)))) rfl
    rw [vp_cell_congr (g := fun i => some (u10.1 (1 + 4 * i))) (fun j hj => by
      rcases (show j = 0 ∨ j = 1 ∨ j = 2 ∨ j = 3 ∨ j = 4 ∨ j = 5 ∨ j = 6 ∨ j = 7 ∨ j = 8 ∨ j = 9 by omega) with rfl | rfl | rfl | rfl | rfl | rfl | rfl | rfl | rfl | rfl <;> rfl)]
    exact h1
  · by_cases h12 : k = 12
    · subst h12
      show H[adYard q q1 q3 q5 q7 q9 q11 q13 q14 q15 q16 q17 q19 u2 u4 u6 u8 u10 u12 u18 u20 12]? = some (vp_cell (X.2.1 3) (2, .inr (.inr (.inr (.inr (fun i => some (adYard q q1 q3 q5 q7 q9 q11 q13 q14 q15 q16 q17 q19 u2 u4 u6 u8 u10 u12 u18 u20 (mo (11 + i)))))))))
      have h1 : H[u12.1 0]? = some (vp_cell (X.2.1 3) (2, .inr (.inr (.inr (.inr (fun i => some (u12.1 (1 + 4 * i)))))))) := hP 56 (u12.1 0, rfe X 2 (fun i => some (u12.1 (1 + 4 * i)))) rfl
      rw [vp_cell_congr (g := fun i => some (u12.1 (1 + 4 * i))) (fun j hj => by
        rcases (show j = 0 ∨ j = 1 by omega) with rfl | rfl <;> rfl)]
      exact h1
    · obtain ⟨e1, h1, h2⟩ := yard_at X q q1 q3 q5 q7 q9 q11 q13 q14 q15 q16 q17 q19 u2 u4 u6 u8 u10 u12 u18 u20 k hk
      have h3 := h2 h10 h12
      subst h3
      exact hP _ _ h1
abbrev rm_X6_init : Room := { frames := 6, cells := 74, slots := 700, locals := 200 }
set_option maxHeartbeats 4000000 in
set_option maxRecDepth 100000 in
theorem c_X6_init (l : Launch) (D : va_G) (X : XE) (sz q : Nat) (post : CS → Prop) (h : ∀ S0 : CS, iniC S0 → p_X6_startAnew S0 post) : Met l yX6_init (Cond.code yX6_init cX6_init 1 none :: lw_gd) rm_X6_init (kPc D X sz q (.inr (6, [.null, .null, .null, .null, .null, .int 0, .int 0, .null, .null, .null, .null, .null, .int 0, .null, .null, .long 0])) [.ref q]) (va_Qv (fun u : (Nat → Nat) × CS => post u.2) (yB D X q (va_A [(q, (.inr (6, [.null, .null, .null, .null, .null, .int 0, .int 0, .null, .null, .null, .null, .null, .int 0, .null, .null, .long 0])))] sz)) (va_A [(q, (.inr (6, [.null, .null, .null, .null, .null, .int 0, .int 0, .null, .null, .null, .null, .null, .int 0, .null, .null, .long 0])))] sz)) 74 700 (va_A [(q, (.inr (6, [.null, .null, .null, .null, .null, .int 0, .int 0, .null, .null, .null, .null, .null, .int 0, .null, .null, .long 0])))] sz) := by
  refine Met.ofW (cc := cX6_init) (maxL := 1) (ret := none) (by decide) rfl ?_
  intro p e s m args below meth c s₁ B hml hv
  obtain ⟨rfl, hsz, hP, hK, hF, hO⟩ := hv
  have hx := B.exec
  have hb := B.bytes
  have hr := B.returns
  have hts := atoms_spec (ws := (Cond.code yX6_init cX6_init 1 none :: lw_gd)) B.pre
  have hT : ∀ w ∈ lw_gd, w.before _ s = true := fun w h9 => hts w (List.mem_cons_of_mem _ h9)
  have hown : s.vm.findClass RX6 = some m.cls := findClass_of_methodNamed B.named
  have hlocks := B.notSynchronized
  have hin : meth.name = "<init>" := (name_of_methodNamed B.named B.method).1
  subst hsz
  have hD := k_D1 (q := q) (e0 := (.inr (6, [.null, .null, .null, .null, .null, .int 0, .int 0, .null, .null, .null, .null, .null, .int 0, .null, .null, .long 0]))) (sz := s.heap.size)
  generalize hAe : va_A [(q, (.inr (6, [.null, .null, .null, .null, .null, .int 0, .int 0, .null, .null, .null, .null, .null, .int 0, .null, .null, .long 0])))] s.heap.size = A at hD hF ⊢
  have hA : ∀ a : Nat, s.heap.size ≤ a → A a := fun a h9 => by rw [← hAe]; exact Or.inr h9
  have hS : va_S A s.heap s.heap [] := va_S.rf
  have hl := lv_entry ([.ref q]) (n := 1) (Nat.le_of_ble_eq_true rfl)
  rw [lg_entry_eq]
  generalize (lg_sl ([.ref q]) ++ List.replicate (1 - (lg_sl ([.ref q])).length) Slot.unset).toArray = ls at hl ⊢
  have hl : lv_has ls 1 [(0, .ref q)] := hl
  refine lv_aload_n hx hb dX6_init_0 rfl (lv_at hl 0 rfl) ?_
  refine W.objInit hx hb hown (hT _ wl_X6_1) (hT _ wi_Obj) (hT _ wc_Obj) rfl (by rw [hml]; exact hl.1) rfl dX6_init_1 (Nat.le_of_ble_eq_true rfl) (Nat.le_of_ble_eq_true rfl) ?_
  refine W.eq (g2 := F0 m 4 ls []) rfl ?_
  refine lv_aload_n hx hb dX6_init_4 rfl (lv_at hl 0 rfl) ?_
  refine va_new (ci := 4) (fs := [.null, .int 0, .int 0, .int 0, .int 0, .int 0]) (C := RX4) (T := TX4) (N := 6) hx hb hT inX4 tyX4 tyX4_ok hown (hT _ wcl_X6_7) (hT _ win_X4) (hT _ wn_X4) hK hP hD hS hA rfl (fun j hj => by rcases (show j = 0 ∨ j = 1 ∨ j = 2 ∨ j = 3 ∨ j = 4 ∨ j = 5 by omega) with rfl | rfl | rfl | rfl | rfl | rfl <;> rfl) (Nat.le_of_ble_eq_true rfl) (Nat.le_of_ble_eq_true rfl) dX6_init_5 (fun q1 H hP hD hS => ?_)
  have hP : va_P D vwCl (((q, .inr (6, [.null, .null, .null, .null, .null, .int 0, .int 0, .null, .null, .null, .null, .null, .int 0, .null, .null, .long 0])) :: ([] : va_W)) ++ [(q1, .inr (4, [.null, .int 0, .int 0, .int 0, .int 0, .int 0]))]) H := hP
  have hD : va_D A (((q, .inr (6, [.null, .null, .null, .null, .null, .int 0, .int 0, .null, .null, .null, .null, .null, .int 0, .null, .null, .long 0])) :: ([] : va_W)) ++ [(q1, .inr (4, [.null, .int 0, .int 0, .int 0, .int 0, .int 0]))]) := hD
  refine lv_dup hx hb dX6_init_8 rfl ?_
  refine k_IN (As := []) (rest := [.ref q1, .ref q]) (wr := ((q, .inr (6, [.null, .null, .null, .null, .null, .int 0, .int 0, .null, .null, .null, .null, .null, .int 0, .null, .null, .long 0])) :: ([] : va_W))) (cs := csText X q1) ⟨hx, hb, hml, hown, hT⟩ (c_X4_init l D X H.size q1) (gd_I wc_X4_init) hF.1.2.1 (hT _ wn_X4) (hT _ wi_X4_init) rfl hd_X4_init ⟨rfl, rfl⟩ ⟨Nat.le_of_ble_eq_true rfl, Nat.le_of_ble_eq_true rfl⟩ hK hP hD hS hA hF hO rfl hl.1 rfl (Nat.le_of_ble_eq_true rfl) dX6_init_9 ⟨Nat.le_of_ble_eq_true rfl, Nat.le_of_ble_eq_true rfl⟩ (fun u2 H locs hu2 hP hD hS => ?_)
  obtain ⟨T1, eT1⟩ : ∃ z : va_W, z = ([] : va_W) ++ csText X q1 u2 := ⟨_, rfl⟩
  have hP : va_P D vwCl ((q, .inr (6, [.null, .null, .null, .null, .null, .int 0, .int 0, .null, .null, .null, .null, .null, .int 0, .null, .null, .long 0])) :: T1) H := by rw [eT1]; exact hP
  have hD : va_D A ((q, .inr (6, [.null, .null, .null, .null, .null, .int 0, .int 0, .null, .null, .null, .null, .null, .int 0, .null, .null, .long 0])) :: T1) := by rw [eT1]; exact hD
  refine va_putF (D := D) (ci := 6) (v := .ref q1) (ty := .object "BesomYard$Text") (C := RX6) (T := TX6) (N := 16) hx hb hT inX6 tyX6 tyX6_ok nmX6 hown hK hP hD hS 0 rfl rfl 0 (by decide) (hT _ wf_X6_10) (fun _ h9 => h9) rfl hin rfl (by decide +kernel) rfl rfl (Nat.le_of_ble_eq_true rfl) dX6_init_12 (fun H locs hP hD hS => ?_)
  have hP : va_P D vwCl ((q, .inr (6, [.ref q1, .null, .null, .null, .null, .int 0, .int 0, .null, .null, .null, .null, .null, .int 0, .null, .null, .long 0])) :: T1) H := hP
  have hD : va_D A ((q, .inr (6, [.ref q1, .null, .null, .null, .null, .int 0, .int 0, .null, .null, .null, .null, .null, .int 0, .null, .null, .long 0])) :: T1) := hD
  refine lv_aload_n hx hb dX6_init_15 rfl (lv_at hl 0 rfl) ?_
  refine va_new (ci := 5) (fs := [.null, .null]) (C := RX5) (T := TX5) (N := 2) hx hb hT inX5 tyX5 tyX5_ok hown (hT _ wcl_X6_16) (hT _ win_X5) (hT _ wn_X5) hK hP hD hS hA rfl (fun j hj => by rcases (show j = 0 ∨ j = 1 by omega) with rfl | rfl <;> rfl) (Nat.le_of_ble_eq_true rfl) (Nat.le_of_ble_eq_true rfl) dX6_init_16 (fun q3 H hP hD hS => ?_)
  have hP : va_P D vwCl (((q, .inr (6, [.ref q1, .null, .null, .null, .null, .int 0, .int 0, .null, .null, .null, .null, .null, .int 0, .null, .null, .long 0])) :: T1) ++ [(q3, .inr (5, [.null, .null]))]) H := hP
  have hD : va_D A (((q, .inr (6, [.ref q1, .null, .null, .null, .null, .int 0, .int 0, .null, .null, .null, .null, .null, .int 0, .null, .null, .long 0])) :: T1) ++ [(q3, .inr (5, [.null, .null]))]) := hD
  refine lv_dup hx hb dX6_init_19 rfl ?_
  refine k_I (As := []) (rest := [.ref q3, .ref q]) (wr := ((q, .inr (6, [.ref q1, .null, .null, .null, .null, .int 0, .int 0, .null, .null, .null, .null, .null, .int 0, .null, .null, .long 0])) :: T1)) (cs := csTold X q3) ⟨hx, hb, hml, hown, hT⟩ (c_X5_init l D X H.size q3) (gd_I wc_X5_init) (hT _ wl_X6_18) (hT _ wn_X5) (hT _ wi_X5_init) rfl hd_X5_init ⟨rfl, rfl⟩ ⟨Nat.le_of_ble_eq_true rfl, Nat.le_of_ble_eq_true rfl⟩ hK hP hD hS hA hF hO rfl hl.1 rfl (Nat.le_of_ble_eq_true rfl) dX6_init_20 ⟨Nat.le_of_ble_eq_true rfl, Nat.le_of_ble_eq_true rfl⟩ (fun u4 H locs hu4 hP hD hS => ?_)
  obtain ⟨T2, eT2⟩ : ∃ z : va_W, z = T1 ++ csTold X q3 u4 := ⟨_, rfl⟩
  have hP : va_P D vwCl ((q, .inr (6, [.ref q1, .null, .null, .null, .null, .int 0, .int 0, .null, .null, .null, .null, .null, .int 0, .null, .null, .long 0])) :: T2) H := by rw [eT2]; exact hP
  have hD : va_D A ((q, .inr (6, [.ref q1, .null, .null, .null, .null, .int 0, .int 0, .null, .null, .null, .null, .null, .int 0, .null, .null, .long 0])) :: T2) := by rw [eT2]; exact hD
  refine va_put (D := D) (ci := 6) (v := .ref q3) (ty := .object "BesomYard$Told") (C := RX6) (T := TX6) (N := 16) hx hb hT inX6 tyX6 tyX6_ok nmX6 hown hK hP hD hS 0 rfl rfl 1 (by decide) (hT _ wf_X6_19) (fun _ h9 => h9) rfl (by decide +kernel) rfl rfl (Nat.le_of_ble_eq_true rfl) dX6_init_23 (fun H locs hP hD hS => ?_)
  have hP : va_P D vwCl ((q, .inr (6, [.ref q1, .ref q3, .null, .null, .null, .int 0, .int 0, .null, .null, .null, .null, .null, .int 0, .null, .null, .long 0])) :: T2) H := hP
  have hD : va_D A ((q, .inr (6, [.ref q1, .ref q3, .null, .null, .null, .int 0, .int 0, .null, .null, .null, .null, .null, .int 0, .null, .null, .long 0])) :: T2) := hD
  refine lv_aload_n hx hb dX6_init_26 rfl (lv_at hl 0 rfl) ?_
  refine va_new (ci := 5) (fs := [.null, .null]) (C := RX5) (T := TX5) (N := 2) hx hb hT inX5 tyX5 tyX5_ok hown (hT _ wcl_X6_16) (hT _ win_X5) (hT _ wn_X5) hK hP hD hS hA rfl (fun j hj => by rcases (show j = 0 ∨ j = 1 by omega) with rfl | rfl <;> rfl) (Nat.le_of_ble_eq_true rfl) (Nat.le_of_ble_eq_true rfl) dX6_init_27 (fun q5 H hP hD hS => ?_)
  have hP : va_P D vwCl (((q, .inr (6, [.ref q1, .ref q3, .null, .null, .null, .int 0, .int 0, .null, .null, .null, .null, .null, .int 0, .null, .null, .long 0])) :: T2) ++ [(q5, .inr (5, [.null, .null]))]) H := hP
  have hD : va_D A (((q, .inr (6, [.ref q1, .ref q3, .null, .null, .null, .int 0, .int 0, .null, .null, .null, .null, .null, .int 0, .null, .null, .long 0])) :: T2) ++ [(q5, .inr (5, [.null, .null]))]) := hD
  refine lv_dup hx hb dX6_init_30 rfl ?_
  refine k_I (As := []) (rest := [.ref q5, .ref q]) (wr := ((q, .inr (6, [.ref q1, .ref q3, .null, .null, .null, .int 0, .int 0, .null, .null, .null, .null, .null, .int 0, .null, .null, .long 0])) :: T2)) (cs := csTold X q5) ⟨hx, hb, hml, hown, hT⟩ (c_X5_init l D X H.size q5) (gd_I wc_X5_init) (hT _ wl_X6_18) (hT _ wn_X5) (hT _ wi_X5_init) rfl hd_X5_init ⟨rfl, rfl⟩ ⟨Nat.le_of_ble_eq_true rfl, Nat.le_of_ble_eq_true rfl⟩ hK hP hD hS hA hF hO rfl hl.1 rfl (Nat.le_of_ble_eq_true rfl) dX6_init_31 ⟨Nat.le_of_ble_eq_true rfl, Nat.le_of_ble_eq_true rfl⟩ (fun u6 H locs hu6 hP hD hS => ?_)
  obtain ⟨T3, eT3⟩ : ∃ z : va_W, z = T2 ++ csTold X q5 u6 := ⟨_, rfl⟩
  have hP : va_P D vwCl ((q, .inr (6, [.ref q1, .ref q3, .null, .null, .null, .int 0, .int 0, .null, .null, .null, .null, .null, .int 0, .null, .null, .long 0])) :: T3) H := by rw [eT3]; exact hP
  have hD : va_D A ((q, .inr (6, [.ref q1, .ref q3, .null, .null, .null, .int 0, .int 0, .null, .null, .null, .null, .null, .int 0, .null, .null, .long 0])) :: T3) := by rw [eT3]; exact hD
  refine va_put (D := D) (ci := 6) (v := .ref q5) (ty := .object "BesomYard$Told") (C := RX6) (T := TX6) (N := 16) hx hb hT inX6 tyX6 tyX6_ok nmX6 hown hK hP hD hS 0 rfl rfl 2 (by decide) (hT _ wf_X6_23) (fun _ h9 => h9) rfl (by decide +kernel) rfl rfl (Nat.le_of_ble_eq_true rfl) dX6_init_34 (fun H locs hP hD hS => ?_)
  have hP : va_P D vwCl ((q, .inr (6, [.ref q1, .ref q3, .ref q5, .null, .null, .int 0, .int 0, .null, .null, .null, .null, .null, .int 0, .null, .null, .long 0])) :: T3) H := hP
  have hD : va_D A ((q, .inr (6, [.ref q1, .ref q3, .ref q5, .null, .null, .int 0, .int 0, .null, .null, .null, .null, .null, .int 0, .null, .null, .long 0])) :: T3) := hD
  refine lv_aload_n hx hb dX6_init_37 rfl (lv_at hl 0 rfl) ?_
  refine va_new (ci := 1) (fs := [.null, .null, .int 0, .int 0, .int 0, .int 0, .int 0, .int 0]) (C := RX1) (T := TX1) (N := 8) hx hb hT inX1 tyX1 tyX1_ok hown (hT _ wcl_X6_26) (hT _ win_X1) (hT _ wn_X1) hK hP hD hS hA rfl (fun j hj => by rcases (show j = 0 ∨ j = 1 ∨ j = 2 ∨ j = 3 ∨ j = 4 ∨ j = 5 ∨ j = 6 ∨ j = 7 by omega) with rfl | rfl | rfl | rfl | rfl | rfl | rfl | rfl <;> rfl) (Nat.le_of_ble_eq_true rfl) (Nat.le_of_ble_eq_true rfl) dX6_init_38 (fun q7 H hP hD hS => ?_)
  have hP : va_P D vwCl (((q, .inr (6, [.ref q1, .ref q3, .ref q5, .null, .null, .int 0, .int 0, .null, .null, .null, .null, .null, .int 0, .null, .null, .long 0])) :: T3) ++ [(q7, .inr (1, [.null, .null, .int 0, .int 0, .int 0, .int 0, .int 0, .int 0]))]) H := hP
  have hD : va_D A (((q, .inr (6, [.ref q1, .ref q3, .ref q5, .null, .null, .int 0, .int 0, .null, .null, .null, .null, .null, .int 0, .null, .null, .long 0])) :: T3) ++ [(q7, .inr (1, [.null, .null, .int 0, .int 0, .int 0, .int 0, .int 0, .int 0]))]) := hD
  refine lv_dup hx hb dX6_init_41 rfl ?_
  refine k_IN (As := []) (rest := [.ref q7, .ref q]) (wr := ((q, .inr (6, [.ref q1, .ref q3, .ref q5, .null, .null, .int 0, .int 0, .null, .null, .null, .null, .null, .int 0, .null, .null, .long 0])) :: T3)) (cs := csMoment X q7) ⟨hx, hb, hml, hown, hT⟩ (c_X1_init l D X H.size q7) (gd_I wc_X1_init) hF.1.2.2.1 (hT _ wn_X1) (hT _ wi_X1_init) rfl hd_X1_init ⟨rfl, rfl⟩ ⟨Nat.le_of_ble_eq_true rfl, Nat.le_of_ble_eq_true rfl⟩ hK hP hD hS hA hF hO rfl hl.1 rfl (Nat.le_of_ble_eq_true rfl) dX6_init_42 ⟨Nat.le_of_ble_eq_true rfl, Nat.le_of_ble_eq_true rfl⟩ (fun u8 H locs hu8 hP hD hS => ?_)
  obtain ⟨T4, eT4⟩ : ∃ z : va_W, z = T3 ++ csMoment X q7 u8 := ⟨_, rfl⟩
  have hP : va_P D vwCl ((q, .inr (6, [.ref q1, .ref q3, .ref q5, .null, .null, .int 0, .int 0, .null, .null, .null, .null, .null, .int 0, .null, .null, .long 0])) :: T4) H := by rw [eT4]; exact hP
  have hD : va_D A ((q, .inr (6, [.ref q1, .ref q3, .ref q5, .null, .null, .int 0, .int 0, .null, .null, .null, .null, .null, .int 0, .null, .null, .long 0])) :: T4) := by rw [eT4]; exact hD
  refine va_putF (D := D) (ci := 6) (v := .ref q7) (ty := .object "BesomYard$Moment") (C := RX6) (T := TX6) (N := 16) hx hb hT inX6 tyX6 tyX6_ok nmX6 hown hK hP hD hS 0 rfl rfl 3 (by decide) (hT _ wf_X6_29) (fun _ h9 => h9) rfl hin rfl (by decide +kernel) rfl rfl (Nat.le_of_ble_eq_true rfl) dX6_init_45 (fun H locs hP hD hS => ?_)
  have hP : va_P D vwCl ((q, .inr (6, [.ref q1, .ref q3, .ref q5, .ref q7, .null, .int 0, .int 0, .null, .null, .null, .null, .null, .int 0, .null, .null, .long 0])) :: T4) H := hP
  have hD : va_D A ((q, .inr (6, [.ref q1, .ref q3, .ref q5, .ref q7, .null, .int 0, .int 0, .null, .null, .null, .null, .null, .int 0, .null, .null, .long 0])) :: T4) := hD
  refine lv_aload_n hx hb dX6_init_48 rfl (lv_at hl 0 rfl) ?_
  refine va_new (ci := 3) (fs := [.null]) (C := RX3) (T := TX3) (N := 1) hx hb hT inX3 tyX3 tyX3_ok hown (hT _ wcl_X6_33) (hT _ win_X3) (hT _ wn_X3) hK hP hD hS hA rfl (fun j hj => by rcases (show j = 0 by omega) with rfl <;> rfl) (Nat.le_of_ble_eq_true rfl) (Nat.le_of_ble_eq_true rfl) dX6_init_49 (fun q9 H hP hD hS => ?_)
  have hP : va_P D vwCl (((q, .inr (6, [.ref q1, .ref q3, .ref q5, .ref q7, .null, .int 0, .int 0, .null, .null, .null, .null, .null, .int 0, .null, .null, .long 0])) :: T4) ++ [(q9, .inr (3, [.null]))]) H := hP
  have hD : va_D A (((q, .inr (6, [.ref q1, .ref q3, .ref q5, .ref q7, .null, .int 0, .int 0, .null, .null, .null, .null, .null, .int 0, .null, .null, .long 0])) :: T4) ++ [(q9, .inr (3, [.null]))]) := hD
  refine lv_dup hx hb dX6_init_52 rfl ?_
  refine lv_bipush (v := 10) hx hb dX6_init_53 (by decide) ?_
  refine k_I (As := [.int 10]) (rest := [.ref q9, .ref q]) (wr := ((q, .inr (6, [.ref q1, .ref q3, .ref q5, .ref q7, .null, .int 0, .int 0, .null, .null, .null, .null, .null, .int 0, .null, .null, .long 0])) :: T4)) (cs := csShelf X 10 q9) ⟨hx, hb, hml, hown, hT⟩ (c_X3_init l D X H.size q9 10 (by decide)) (gd_I wc_X3_init) (hT _ wl_X6_35) (hT _ wn_X3) (hT _ wi_X3_init) rfl hd_X3_init ⟨rfl, rfl⟩ ⟨Nat.le_of_ble_eq_true rfl, Nat.le_of_ble_eq_true rfl⟩ hK hP hD hS hA hF hO rfl hl.1 rfl (Nat.le_of_ble_eq_true rfl) dX6_init_55 ⟨Nat.le_of_ble_eq_true rfl, Nat.le_of_ble_eq_true rfl⟩ (fun u10 H locs hu10 hP hD hS => ?_)
  obtain ⟨T5, eT5⟩ : ∃ z : va_W, z = T4 ++ csShelf X 10 q9 u10 := ⟨_, rfl⟩
  have hP : va_P D vwCl ((q, .inr (6, [.ref q1, .ref q3, .ref q5, .ref q7, .null, .int 0, .int 0, .null, .null, .null, .null, .null, .int 0, .null, .null, .long 0])) :: T5) H := by rw [eT5]; exact hP
  have hD : va_D A ((q, .inr (6, [.ref q1, .ref q3, .ref q5, .ref q7, .null, .int 0, .int 0, .null, .null, .null, .null, .null, .int 0, .null, .null, .long 0])) :: T5) := by rw [eT5]; exact hD
  refine va_putF (D := D) (ci := 6) (v := .ref q9) (ty := .object "BesomYard$Shelf") (C := RX6) (T := TX6) (N := 16) hx hb hT inX6 tyX6 tyX6_ok nmX6 hown hK hP hD hS 0 rfl rfl 4 (by decide) (hT _ wf_X6_38) (fun _ h9 => h9) rfl hin rfl (by decide +kernel) rfl rfl (Nat.le_of_ble_eq_true rfl) dX6_init_58 (fun H locs hP hD hS => ?_)
  have hP : va_P D vwCl ((q, .inr (6, [.ref q1, .ref q3, .ref q5, .ref q7, .ref q9, .int 0, .int 0, .null, .null, .null, .null, .null, .int 0, .null, .null, .long 0])) :: T5) H := hP
  have hD : va_D A ((q, .inr (6, [.ref q1, .ref q3, .ref q5, .ref q7, .ref q9, .int 0, .int 0, .null, .null, .null, .null, .null, .int 0, .null, .null, .long 0])) :: T5) := hD
  refine lv_aload_n hx hb dX6_init_61 rfl (lv_at hl 0 rfl) ?_
  refine va_new (ci := 3) (fs := [.null]) (C := RX3) (T := TX3) (N := 1) hx hb hT inX3 tyX3 tyX3_ok hown (hT _ wcl_X6_33) (hT _ win_X3) (hT _ wn_X3) hK hP hD hS hA rfl (fun j hj => by rcases (show j = 0 by omega) with rfl <;> rfl) (Nat.le_of_ble_eq_true rfl) (Nat.le_of_ble_eq_true rfl) dX6_init_62 (fun q11 H hP hD hS => ?_)
  have hP : va_P D vwCl (((q, .inr (6, [.ref q1, .ref q3, .ref q5, .ref q7, .ref q9, .int 0, .int 0, .null, .null, .null, .null, .null, .int 0, .null, .null, .long 0])) :: T5) ++ [(q11, .inr (3, [.null]))]) H := hP
  have hD : va_D A (((q, .inr (6, [.ref q1, .ref q3, .ref q5, .ref q7, .ref q9, .int 0, .int 0, .null, .null, .null, .null, .null, .int 0, .null, .null, .long 0])) :: T5) ++ [(q11, .inr (3, [.null]))]) := hD
  refine lv_dup hx hb dX6_init_65 rfl ?_
  refine lv_iconst (v := 2) hx hb dX6_init_66 (by decide) ?_
  refine k_I (As := [.int 2]) (rest := [.ref q11, .ref q]) (wr := ((q, .inr (6, [.ref q1, .ref q3, .ref q5, .ref q7, .ref q9, .int 0, .int 0, .null, .null, .null, .null, .null, .int 0, .null, .null, .long 0])) :: T5)) (cs := csShelf X 2 q11) ⟨hx, hb, hml, hown, hT⟩ (c_X3_init l D X H.size q11 2 (by decide)) (gd_I wc_X3_init) (hT _ wl_X6_35) (hT _ wn_X3) (hT _ wi_X3_init) rfl hd_X3_init ⟨rfl, rfl⟩ ⟨Nat.le_of_ble_eq_true rfl, Nat.le_of_ble_eq_true rfl⟩ hK hP hD hS hA hF hO rfl hl.1 rfl (Nat.le_of_ble_eq_true rfl) dX6_init_67 ⟨Nat.le_of_ble_eq_true rfl, Nat.le_of_ble_eq_true rfl⟩ (fun u12 H locs hu12 hP hD hS => ?_)
  obtain ⟨T6, eT6⟩ : ∃ z : va_W, z = T5 ++ csShelf X 2 q11 u12 := ⟨_, rfl⟩
  have hP : va_P D vwCl ((q, .inr (6, [.ref q1, .ref q3, .ref q5, .ref q7, .ref q9, .int 0, .int 0, .null, .null, .null, .null, .null, .int 0, .null, .null, .long 0])) :: T6) H := by rw [eT6]; exact hP
  have hD : va_D A ((q, .inr (6, [.ref q1, .ref q3, .ref q5, .ref q7, .ref q9, .int 0, .int 0, .null, .null, .null, .null, .null, .int 0, .null, .null, .long 0])) :: T6) := by rw [eT6]; exact hD
  refine va_putF (D := D) (ci := 6) (v := .ref q11) (ty := .object "BesomYard$Shelf") (C := RX6) (T := TX6) (N := 16) hx hb hT inX6 tyX6 tyX6_ok nmX6 hown hK hP hD hS 0 rfl rfl 7 (by decide) (hT _ wf_X6_42) (fun _ h9 => h9) rfl hin rfl (by decide +kernel) rfl rfl (Nat.le_of_ble_eq_true rfl) dX6_init_70 (fun H locs hP hD hS => ?_)
  have hP : va_P D vwCl ((q, .inr (6, [.ref q1, .ref q3, .ref q5, .ref q7, .ref q9, .int 0, .int 0, .ref q11, .null, .null, .null, .null, .int 0, .null, .null, .long 0])) :: T6) H := hP
  have hD : va_D A ((q, .inr (6, [.ref q1, .ref q3, .ref q5, .ref q7, .ref q9, .int 0, .int 0, .ref q11, .null, .null, .null, .null, .int 0, .null, .null, .long 0])) :: T6) := hD
  refine lv_aload_n hx hb dX6_init_73 rfl (lv_at hl 0 rfl) ?_
  refine lv_iconst (v := 2) hx hb dX6_init_74 (by decide) ?_
  refine g_newa (atype := .boolean) (t0 := 2) (a0 := (2, .inl zf)) hx hb (hT _ war_boolean) rfl rfl (fun C h9 => by cases h9) hK hP hD hS hA (fun _ => rfl) (by decide) rfl (Nat.le_of_ble_eq_true rfl) (Nat.le_of_ble_eq_true rfl) (Nat.le_of_ble_eq_true rfl) dX6_init_75 (fun q13 H hP hD hS => ?_)
  obtain ⟨T7, eT7⟩ : ∃ z : va_W, z = T6 ++ [(q13, .inl (X.2.1 2, 2, .inl zf))] := ⟨_, rfl⟩
  have hP : va_P D vwCl ((q, .inr (6, [.ref q1, .ref q3, .ref q5, .ref q7, .ref q9, .int 0, .int 0, .ref q11, .null, .null, .null, .null, .int 0, .null, .null, .long 0])) :: T7) H := by rw [eT7]; exact hP
  have hD : va_D A ((q, .inr (6, [.ref q1, .ref q3, .ref q5, .ref q7, .ref q9, .int 0, .int 0, .ref q11, .null, .null, .null, .null, .int 0, .null, .null, .long 0])) :: T7) := by rw [eT7]; exact hD
  refine va_putF (D := D) (ci := 6) (v := .ref q13) (ty := .array .boolean) (C := RX6) (T := TX6) (N := 16) hx hb hT inX6 tyX6 tyX6_ok nmX6 hown hK hP hD hS 0 rfl rfl 8 (by decide) (hT _ wf_X6_45) (fun _ h9 => h9) rfl hin rfl (by decide +kernel) rfl rfl (Nat.le_of_ble_eq_true rfl) dX6_init_77 (fun H locs hP hD hS => ?_)
  have hP : va_P D vwCl ((q, .inr (6, [.ref q1, .ref q3, .ref q5, .ref q7, .ref q9, .int 0, .int 0, .ref q11, .ref q13, .null, .null, .null, .int 0, .null, .null, .long 0])) :: T7) H := hP
  have hD : va_D A ((q, .inr (6, [.ref q1, .ref q3, .ref q5, .ref q7, .ref q9, .int 0, .int 0, .ref q11, .ref q13, .null, .null, .null, .int 0, .null, .null, .long 0])) :: T7) := hD
  refine lv_aload_n hx hb dX6_init_80 rfl (lv_at hl 0 rfl) ?_
  refine lv_iconst (v := 5) hx hb dX6_init_81 (by decide) ?_
  refine g_newa (atype := .int) (t0 := 0) (a0 := (5, .inl zf)) hx hb (hT _ war_int) rfl rfl (fun C h9 => by cases h9) hK hP hD hS hA (fun _ => rfl) (by decide) rfl (Nat.le_of_ble_eq_true rfl) (Nat.le_of_ble_eq_true rfl) (Nat.le_of_ble_eq_true rfl) dX6_init_82 (fun q14 H hP hD hS => ?_)
  obtain ⟨T8, eT8⟩ : ∃ z : va_W, z = T7 ++ [(q14, .inl (X.2.1 0, 5, .inl zf))] := ⟨_, rfl⟩
  have hP : va_P D vwCl ((q, .inr (6, [.ref q1, .ref q3, .ref q5, .ref q7, .ref q9, .int 0, .int 0, .ref q11, .ref q13, .null, .null, .null, .int 0, .null, .null, .long 0])) :: T8) H := by rw [eT8]; exact hP
  have hD : va_D A ((q, .inr (6, [.ref q1, .ref q3, .ref q5, .ref q7, .ref q9, .int 0, .int 0, .ref q11, .ref q13, .null, .null, .null, .int 0, .null, .null, .long 0])) :: T8) := by rw [eT8]; exact hD
  refine va_putF (D := D) (ci := 6) (v := .ref q14) (ty := .array .int) (C := RX6) (T := TX6) (N := 16) hx hb hT inX6 tyX6 tyX6_ok nmX6 hown hK hP hD hS 0 rfl rfl 9 (by decide) (hT _ wf_X6_49) (fun _ h9 => h9) rfl hin rfl (by decide +kernel) rfl rfl (Nat.le_of_ble_eq_true rfl) dX6_init_84 (fun H locs hP hD hS => ?_)
  have hP : va_P D vwCl ((q, .inr (6, [.ref q1, .ref q3, .ref q5, .ref q7, .ref q9, .int 0, .int 0, .ref q11, .ref q13, .ref q14, .null, .null, .int 0, .null, .null, .long 0])) :: T8) H := hP
  have hD : va_D A ((q, .inr (6, [.ref q1, .ref q3, .ref q5, .ref q7, .ref q9, .int 0, .int 0, .ref q11, .ref q13, .ref q14, .null, .null, .int 0, .null, .null, .long 0])) :: T8) := hD
  refine lv_aload_n hx hb dX6_init_87 rfl (lv_at hl 0 rfl) ?_
  refine lv_iconst (v := 5) hx hb dX6_init_88 (by decide) ?_
  refine g_newa (atype := .int) (t0 := 0) (a0 := (5, .inl zf)) hx hb (hT _ war_int) rfl rfl (fun C h9 => by cases h9) hK hP hD hS hA (fun _ => rfl) (by decide) rfl (Nat.le_of_ble_eq_true rfl) (Nat.le_of_ble_eq_true rfl) (Nat.le_of_ble_eq_true rfl) dX6_init_89 (fun q15 H hP hD hS => ?_)
  obtain ⟨T9, eT9⟩ : ∃ z : va_W, z = T8 ++ [(q15, .inl (X.2.1 0, 5, .inl zf))] := ⟨_, rfl⟩
  have hP : va_P D vwCl ((q, .inr (6, [.ref q1, .ref q3, .ref q5, .ref q7, .ref q9, .int 0, .int 0, .ref q11, .ref q13, .ref q14, .null, .null, .int 0, .null, .null, .long 0])) :: T9) H := by rw [eT9]; exact hP
  have hD : va_D A ((q, .inr (6, [.ref q1, .ref q3, .ref q5, .ref q7, .ref q9, .int 0, .int 0, .ref q11, .ref q13, .ref q14, .null, .null, .int 0, .null, .null, .long 0])) :: T9) := by rw [eT9]; exact hD
  refine va_putF (D := D) (ci := 6) (v := .ref q15) (ty := .array .int) (C := RX6) (T := TX6) (N := 16) hx hb hT inX6 tyX6 tyX6_ok nmX6 hown hK hP hD hS 0 rfl rfl 10 (by decide) (hT _ wf_X6_53) (fun _ h9 => h9) rfl hin rfl (by decide +kernel) rfl rfl (Nat.le_of_ble_eq_true rfl) dX6_init_91 (fun H locs hP hD hS => ?_)
  have hP : va_P D vwCl ((q, .inr (6, [.ref q1, .ref q3, .ref q5, .ref q7, .ref q9, .int 0, .int 0, .ref q11, .ref q13, .ref q14, .ref q15, .null, .int 0, .null, .null, .long 0])) :: T9) H := hP
  have hD : va_D A ((q, .inr (6, [.ref q1, .ref q3, .ref q5, .ref q7, .ref q9, .int 0, .int 0, .ref q11, .ref q13, .ref q14, .ref q15, .null, .int 0, .null, .null, .long 0])) :: T9) := hD
  refine lv_aload_n hx hb dX6_init_94 rfl (lv_at hl 0 rfl) ?_
  refine lv_iconst (v := 5) hx hb dX6_init_95 (by decide) ?_
  refine g_newa (atype := .int) (t0 := 0) (a0 := (5, .inl zf)) hx hb (hT _ war_int) rfl rfl (fun C h9 => by cases h9) hK hP hD hS hA (fun _ => rfl) (by decide) rfl (Nat.le_of_ble_eq_true rfl) (Nat.le_of_ble_eq_true rfl) (Nat.le_of_ble_eq_true rfl) dX6_init_96 (fun q16 H hP hD hS => ?_)
  obtain ⟨T10, eT10⟩ : ∃ z : va_W, z = T9 ++ [(q16, .inl (X.2.1 0, 5, .inl zf))] := ⟨_, rfl⟩
  have hP : va_P D vwCl ((q, .inr (6, [.ref q1, .ref q3, .ref q5, .ref q7, .ref q9, .int 0, .int 0, .ref q11, .ref q13, .ref q14, .ref q15, .null, .int 0, .null, .null, .long 0])) :: T10) H := by rw [eT10]; exact hP
  have hD : va_D A ((q, .inr (6, [.ref q1, .ref q3, .ref q5, .ref q7, .ref q9, .int 0, .int 0, .ref q11, .ref q13, .ref q14, .ref q15, .null, .int 0, .null, .null, .long 0])) :: T10) := by rw [eT10]; exact hD
  refine va_putF (D := D) (ci := 6) (v := .ref q16) (ty := .array .int) (C := RX6) (T := TX6) (N := 16) hx hb hT inX6 tyX6 tyX6_ok nmX6 hown hK hP hD hS 0 rfl rfl 11 (by decide) (hT _ wf_X6_56) (fun _ h9 => h9) rfl hin rfl (by decide +kernel) rfl rfl (Nat.le_of_ble_eq_true rfl) dX6_init_98 (fun H locs hP hD hS => ?_)
  have hP : va_P D vwCl ((q, .inr (6, [.ref q1, .ref q3, .ref q5, .ref q7, .ref q9, .int 0, .int 0, .ref q11, .ref q13, .ref q14, .ref q15, .ref q16, .int 0, .null, .null, .long 0])) :: T10) H := hP
  have hD : va_D A ((q, .inr (6, [.ref q1, .ref q3, .ref q5, .ref q7, .ref q9, .int 0, .int 0, .ref q11, .ref q13, .ref q14, .ref q15, .ref q16, .int 0, .null, .null, .long 0])) :: T10) := hD
  refine lv_aload_n hx hb dX6_init_101 rfl (lv_at hl 0 rfl) ?_
  refine va_new (ci := 0) (fs := [.null, .int 0]) (C := RX0) (T := TX0) (N := 2) hx hb hT inX0 tyX0 tyX0_ok hown (hT _ wcl_X6_59) (hT _ win_X0) (hT _ wn_X0) hK hP hD hS hA rfl (fun j hj => by rcases (show j = 0 ∨ j = 1 by omega) with rfl | rfl <;> rfl) (Nat.le_of_ble_eq_true rfl) (Nat.le_of_ble_eq_true rfl) dX6_init_102 (fun q17 H hP hD hS => ?_)
  have hP : va_P D vwCl (((q, .inr (6, [.ref q1, .ref q3, .ref q5, .ref q7, .ref q9, .int 0, .int 0, .ref q11, .ref q13, .ref q14, .ref q15, .ref q16, .int 0, .null, .null, .long 0])) :: T10) ++ [(q17, .inr (0, [.null, .int 0]))]) H := hP
  have hD : va_D A (((q, .inr (6, [.ref q1, .ref q3, .ref q5, .ref q7, .ref q9, .int 0, .int 0, .ref q11, .ref q13, .ref q14, .ref q15, .ref q16, .int 0, .null, .null, .long 0])) :: T10) ++ [(q17, .inr (0, [.null, .int 0]))]) := hD
  refine lv_dup hx hb dX6_init_105 rfl ?_
  refine k_IN (As := []) (rest := [.ref q17, .ref q]) (wr := ((q, .inr (6, [.ref q1, .ref q3, .ref q5, .ref q7, .ref q9, .int 0, .int 0, .ref q11, .ref q13, .ref q14, .ref q15, .ref q16, .int 0, .null, .null, .long 0])) :: T10)) (cs := csBesom X q17) ⟨hx, hb, hml, hown, hT⟩ (c_X0_init l D X H.size q17) (gd_I wc_X0_init) hF.1.2.2.2.2.2.1 (hT _ wn_X0) (hT _ wi_X0_init) rfl hd_X0_init ⟨rfl, rfl⟩ ⟨Nat.le_of_ble_eq_true rfl, Nat.le_of_ble_eq_true rfl⟩ hK hP hD hS hA hF hO rfl hl.1 rfl (Nat.le_of_ble_eq_true rfl) dX6_init_106 ⟨Nat.le_of_ble_eq_true rfl, Nat.le_of_ble_eq_true rfl⟩ (fun u18 H locs hu18 hP hD hS => ?_)
  obtain ⟨T11, eT11⟩ : ∃ z : va_W, z = T10 ++ csBesom X q17 u18 := ⟨_, rfl⟩
  have hP : va_P D vwCl ((q, .inr (6, [.ref q1, .ref q3, .ref q5, .ref q7, .ref q9, .int 0, .int 0, .ref q11, .ref q13, .ref q14, .ref q15, .ref q16, .int 0, .null, .null, .long 0])) :: T11) H := by rw [eT11]; exact hP
  have hD : va_D A ((q, .inr (6, [.ref q1, .ref q3, .ref q5, .ref q7, .ref q9, .int 0, .int 0, .ref q11, .ref q13, .ref q14, .ref q15, .ref q16, .int 0, .null, .null, .long 0])) :: T11) := by rw [eT11]; exact hD
  refine va_putF (D := D) (ci := 6) (v := .ref q17) (ty := .object "BesomYard$Besom") (C := RX6) (T := TX6) (N := 16) hx hb hT inX6 tyX6 tyX6_ok nmX6 hown hK hP hD hS 0 rfl rfl 13 (by decide) (hT _ wf_X6_62) (fun _ h9 => h9) rfl hin rfl (by decide +kernel) rfl rfl (Nat.le_of_ble_eq_true rfl) dX6_init_109 (fun H locs hP hD hS => ?_)
  have hP : va_P D vwCl ((q, .inr (6, [.ref q1, .ref q3, .ref q5, .ref q7, .ref q9, .int 0, .int 0, .ref q11, .ref q13, .ref q14, .ref q15, .ref q16, .int 0, .ref q17, .null, .long 0])) :: T11) H := hP
  have hD : va_D A ((q, .inr (6, [.ref q1, .ref q3, .ref q5, .ref q7, .ref q9, .int 0, .int 0, .ref q11, .ref q13, .ref q14, .ref q15, .ref q16, .int 0, .ref q17, .null, .long 0])) :: T11) := hD
  refine lv_aload_n hx hb dX6_init_112 rfl (lv_at hl 0 rfl) ?_
  refine va_new (ci := 2) (fs := [.int 0, .null, .null, .null]) (C := RX2) (T := TX2) (N := 4) hx hb hT inX2 tyX2 tyX2_ok hown (hT _ wcl_X6_66) (hT _ win_X2) (hT _ wn_X2) hK hP hD hS hA rfl (fun j hj => by rcases (show j = 0 ∨ j = 1 ∨ j = 2 ∨ j = 3 by omega) with rfl | rfl | rfl | rfl <;> rfl) (Nat.le_of_ble_eq_true rfl) (Nat.le_of_ble_eq_true rfl) dX6_init_113 (fun q19 H hP hD hS => ?_)
  have hP : va_P D vwCl (((q, .inr (6, [.ref q1, .ref q3, .ref q5, .ref q7, .ref q9, .int 0, .int 0, .ref q11, .ref q13, .ref q14, .ref q15, .ref q16, .int 0, .ref q17, .null, .long 0])) :: T11) ++ [(q19, .inr (2, [.int 0, .null, .null, .null]))]) H := hP
  have hD : va_D A (((q, .inr (6, [.ref q1, .ref q3, .ref q5, .ref q7, .ref q9, .int 0, .int 0, .ref q11, .ref q13, .ref q14, .ref q15, .ref q16, .int 0, .ref q17, .null, .long 0])) :: T11) ++ [(q19, .inr (2, [.int 0, .null, .null, .null]))]) := hD
  refine lv_dup hx hb dX6_init_116 rfl ?_
  refine k_IN (As := []) (rest := [.ref q19, .ref q]) (wr := ((q, .inr (6, [.ref q1, .ref q3, .ref q5, .ref q7, .ref q9, .int 0, .int 0, .ref q11, .ref q13, .ref q14, .ref q15, .ref q16, .int 0, .ref q17, .null, .long 0])) :: T11)) (cs := csPlanner X q19) ⟨hx, hb, hml, hown, hT⟩ (c_X2_init l D X H.size q19) (gd_I wc_X2_init) hF.1.2.2.2.2.2.2.1 (hT _ wn_X2) (hT _ wi_X2_init) rfl hd_X2_init ⟨rfl, rfl⟩ ⟨Nat.le_of_ble_eq_true rfl, Nat.le_of_ble_eq_true rfl⟩ hK hP hD hS hA hF hO rfl hl.1 rfl (Nat.le_of_ble_eq_true rfl) dX6_init_117 ⟨Nat.le_of_ble_eq_true rfl, Nat.le_of_ble_eq_true rfl⟩ (fun u20 H locs hu20 hP hD hS => ?_)
  obtain ⟨T12, eT12⟩ : ∃ z : va_W, z = T11 ++ csPlanner X q19 u20 := ⟨_, rfl⟩
  have hP : va_P D vwCl ((q, .inr (6, [.ref q1, .ref q3, .ref q5, .ref q7, .ref q9, .int 0, .int 0, .ref q11, .ref q13, .ref q14, .ref q15, .ref q16, .int 0, .ref q17, .null, .long 0])) :: T12) H := by rw [eT12]; exact hP
  have hD : va_D A ((q, .inr (6, [.ref q1, .ref q3, .ref q5, .ref q7, .ref q9, .int 0, .int 0, .ref q11, .ref q13, .ref q14, .ref q15, .ref q16, .int 0, .ref q17, .null, .long 0])) :: T12) := by rw [eT12]; exact hD
  refine va_putF (D := D) (ci := 6) (v := .ref q19) (ty := .object "BesomYard$Planner") (C := RX6) (T := TX6) (N := 16) hx hb hT inX6 tyX6 tyX6_ok nmX6 hown hK hP hD hS 0 rfl rfl 14 (by decide) (hT _ wf_X6_69) (fun _ h9 => h9) rfl hin rfl (by decide +kernel) rfl rfl (Nat.le_of_ble_eq_true rfl) dX6_init_120 (fun H locs hP hD hS => ?_)
  have hP : va_P D vwCl ((q, .inr (6, [.ref q1, .ref q3, .ref q5, .ref q7, .ref q9, .int 0, .int 0, .ref q11, .ref q13, .ref q14, .ref q15, .ref q16, .int 0, .ref q17, .ref q19, .long 0])) :: T12) H := hP
  have hD : va_D A ((q, .inr (6, [.ref q1, .ref q3, .ref q5, .ref q7, .ref q9, .int 0, .int 0, .ref q11, .ref q13, .ref q14, .ref q15, .ref q16, .int 0, .ref q17, .ref q19, .long 0])) :: T12) := hD
  refine lv_aload_n hx hb dX6_init_123 rfl (lv_at hl 0 rfl) ?_
  subst eT12
  subst eT11
  subst eT10
  subst eT9
  subst eT8
  subst eT7
  subst eT6
  subst eT5
  subst eT4
  subst eT3
  subst eT2
  subst eT1
  obtain ⟨X1, hX1⟩ : ∃ X1 : Nat → Nat, X1 = adYard q q1 q3 q5 q7 q9 q11 q13 q14 q15 q16 q17 q19 u2 u4 u6 u8 u10 u12 u18 u20 := ⟨_, rfl⟩
  obtain ⟨S0, hS0⟩ : ∃ S0 : CS, S0 = s0Yard u4 u6 := ⟨_, rfl⟩
  have hP : va_P D vwCl (csYard X q q1 q3 q5 q7 q9 q11 q13 q14 q15 q16 q17 q19 u2 u4 u6 u8 u10 u12 u18 u20) H := hP
  have hD : va_D A (csYard X q q1 q3 q5 q7 q9 q11 q13 q14 q15 q16 q17 q19 u2 u4 u6 u8 u10 u12 u18 u20) := hD
  have hP3 : va_P D vwCl (CW (X1, X.2) S0) H := by rw [hX1, hS0]; exact yard_P X q q1 q3 q5 q7 q9 q11 q13 q14 q15 q16 q17 q19 u2 u4 u6 u8 u10 u12 u18 u20 hP
  have hI3 : Inj 75 X1 := by rw [hX1]; exact yard_I X q q1 q3 q5 q7 q9 q11 q13 q14 q15 q16 q17 q19 u2 u4 u6 u8 u10 u12 u18 u20 hD
  have hD3 : ∀ k, k < 75 → A (X1 k) := by rw [hX1]; exact yard_A X q q1 q3 q5 q7 q9 q11 q13 q14 q15 q16 q17 q19 u2 u4 u6 u8 u10 u12 u18 u20 hD
  have hA3 : ∀ a, AX 75 X1 H.size a → A a := by
    intro a ha
    rcases ha with ⟨k, hk, rfl⟩ | ha
    · exact hD3 k hk
    · exact hA a (Nat.le_trans hS.1 ha)
  have hq0 : X1 0 = q := by rw [hX1]; rfl
  have hini : p_X6_startAnew S0 post := h S0 (by rw [hS0]; exact yard_ini hu4 hu6)
  refine g_Vv (Wf := CW (X1, X.2)) (FX := FXc (X1, X.2)) (A := A) (A1 := AX 75 X1 H.size) (tys := tyX X) (b := q) (As := []) (rest := []) ⟨hx, hb, hml, hown, hT⟩ (by have h9 := c_X6_startAnew l D (X1, X.2) hI3 H.size S0 post hini; rw [show ((X1, X.2) : XE).1 0 = q from hq0] at h9; exact h9) (gd_V wl_X6_73 wi_X6_startAnew wv_X6_startAnew wn_X6 wc_X6_startAnew) rfl hd_X6_startAnew ⟨rfl, rfl⟩ ⟨Nat.le_of_ble_eq_true rfl, Nat.le_of_ble_eq_true rfl⟩ (by have h9 := va_recv hK hP3 (ci := 6) (q0 := 0) rfl cw_Yard; rw [show ((X1, X.2) : XE).1 0 = q from hq0] at h9; exact h9) hK hP3 hS FXc.call (fun U hU hW => hF.go hW (fun a h1 h2 => by rw [hU]; exact hS.2.1 a h1 h2) hA3) hA3 rfl hl.1 rfl (Nat.le_of_ble_eq_true rfl) dX6_init_124 ⟨Nat.le_of_ble_eq_true rfl, Nat.le_of_ble_eq_true rfl⟩ (fun S1 H locs h1 hP hS => ?_)
  exact W.vret hx hb hr (fun t ht hW => ⟨⟨(X1, S1), rfl, h1, ⟨by rw [ht]; exact hP, hI3, hq0, hD3⟩⟩, hS.F ht⟩) hS.2.2 dX6_init_127
