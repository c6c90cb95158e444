abbrev mB (D : va_G) (X : XE) (q : Nat) (A : Nat → Prop) : (Nat → Nat) × CS → State → Prop := fun u t => va_P D vwCl (RW (u.1, X.2) u.2) t.heap ∧ Inj 18 u.1 ∧ u.1 0 = q ∧ ∀ k, k < 18 → A (u.1 k)
abbrev rm_X7_init : Room := { frames := 3, cells := 17, slots := 585, locals := 100 }
set_option maxHeartbeats 4000000 in
set_option maxRecDepth 100000 in
theorem c_X7_init (l : Launch) (D : va_G) (X : XE) (sz q : Nat) (post : CS → Prop) (h : p_X7_begins (zm, 0, 0, 0) (fun R1 => p_X7_settles R1 post)) : Met l yX7_init (Cond.code yX7_init cX7_init 1 none :: lw_gd) rm_X7_init (kPc D X sz q (.inr (7, [.int 0, .long 0, .null, .int 0, .int 0, .int 0, .int 0, .int 0, .int 0, .null, .int 0, .null, .null, .null, .null, .null, .null, .null, .null, .null, .null, .int 0, .null, .null, .null, .int 0, .null, .null])) [.ref q]) (va_Qv (fun u : (Nat → Nat) × CS => post u.2) (mB D X q (va_A [(q, (.inr (7, [.int 0, .long 0, .null, .int 0, .int 0, .int 0, .int 0, .int 0, .int 0, .null, .int 0, .null, .null, .null, .null, .null, .null, .null, .null, .null, .null, .int 0, .null, .null, .null, .int 0, .null, .null])))] sz)) (va_A [(q, (.inr (7, [.int 0, .long 0, .null, .int 0, .int 0, .int 0, .int 0, .int 0, .int 0, .null, .int 0, .null, .null, .null, .null, .null, .null, .null, .null, .null, .null, .int 0, .null, .null, .null, .int 0, .null, .null])))] sz)) 17 585 (va_A [(q, (.inr (7, [.int 0, .long 0, .null, .int 0, .int 0, .int 0, .int 0, .int 0, .int 0, .null, .int 0, .null, .null, .null, .null, .null, .null, .null, .null, .null, .null, .int 0, .null, .null, .null, .int 0, .null, .null])))] sz) := by
  refine Met.ofW (cc := cX7_init) (maxL := 1) (ret := none) (by decide) rfl ?_
  intro p e s m args below meth c s₁ B hml hv
  obtain ⟨rfl, hsz, hP, hK, hF, hO⟩ := hv
  have hx := B.exec
  have hb := B.bytes
  have hr := B.returns
  have hts := atoms_spec (ws := (Cond.code yX7_init cX7_init 1 none :: lw_gd)) B.pre
  have hT : ∀ w ∈ lw_gd, w.before _ s = true := fun w h9 => hts w (List.mem_cons_of_mem _ h9)
  have hown : s.vm.findClass RX7 = some m.cls := findClass_of_methodNamed B.named
  have hlocks := B.notSynchronized
  have hin : meth.name = "<init>" := (name_of_methodNamed B.named B.method).1
  subst hsz
  have hD := k_D1 (q := q) (e0 := (.inr (7, [.int 0, .long 0, .null, .int 0, .int 0, .int 0, .int 0, .int 0, .int 0, .null, .int 0, .null, .null, .null, .null, .null, .null, .null, .null, .null, .null, .int 0, .null, .null, .null, .int 0, .null, .null]))) (sz := s.heap.size)
  generalize hAe : va_A [(q, (.inr (7, [.int 0, .long 0, .null, .int 0, .int 0, .int 0, .int 0, .int 0, .int 0, .null, .int 0, .null, .null, .null, .null, .null, .null, .null, .null, .null, .null, .int 0, .null, .null, .null, .int 0, .null, .null])))] s.heap.size = A at hD hF ⊢
  have hA : ∀ a : Nat, s.heap.size ≤ a → A a := fun a h9 => by rw [← hAe]; exact Or.inr h9
  have hS : va_S A s.heap s.heap [] := va_S.rf
  have hl := lv_entry ([.ref q]) (n := 1) (Nat.le_of_ble_eq_true rfl)
  rw [lg_entry_eq]
  generalize (lg_sl ([.ref q]) ++ List.replicate (1 - (lg_sl ([.ref q])).length) Slot.unset).toArray = ls at hl ⊢
  have hl : lv_has ls 1 [(0, .ref q)] := hl
  refine lv_aload_n hx hb dX7_init_0 rfl (lv_at hl 0 rfl) ?_
  refine W.objInit hx hb hown (hT _ wl_X7_1) (hT _ wi_Obj) (hT _ wc_Obj) rfl (by rw [hml]; exact hl.1) rfl dX7_init_1 (Nat.le_of_ble_eq_true rfl) (Nat.le_of_ble_eq_true rfl) ?_
  refine W.eq (g2 := F0 m 4 ls []) rfl ?_
  refine lv_aload_n hx hb dX7_init_4 rfl (lv_at hl 0 rfl) ?_
  refine lv_sipush (v := 200) hx hb dX7_init_5 (by decide) ?_
  refine g_newa (atype := .int) (t0 := 0) (a0 := (200, .inl zf)) hx hb (hT _ war_int) rfl rfl (fun C h9 => by cases h9) hK hP hD hS hA (fun _ => rfl) (by decide) rfl (Nat.le_of_ble_eq_true rfl) (Nat.le_of_ble_eq_true rfl) (Nat.le_of_ble_eq_true rfl) dX7_init_8 (fun q1 H hP hD hS => ?_)
  obtain ⟨T1, eT1⟩ : ∃ z : va_W, z = ([] : va_W) ++ [(q1, .inl (X.2.1 0, 200, .inl zf))] := ⟨_, rfl⟩
  have hP : va_P D vwCl ((q, .inr (7, [.int 0, .long 0, .null, .int 0, .int 0, .int 0, .int 0, .int 0, .int 0, .null, .int 0, .null, .null, .null, .null, .null, .null, .null, .null, .null, .null, .int 0, .null, .null, .null, .int 0, .null, .null])) :: T1) H := by rw [eT1]; exact hP
  have hD : va_D A ((q, .inr (7, [.int 0, .long 0, .null, .int 0, .int 0, .int 0, .int 0, .int 0, .int 0, .null, .int 0, .null, .null, .null, .null, .null, .null, .null, .null, .null, .null, .int 0, .null, .null, .null, .int 0, .null, .null])) :: T1) := by rw [eT1]; exact hD
  refine va_putF (D := D) (ci := 7) (v := .ref q1) (ty := .array .int) (C := RX7) (T := TX7) (N := 28) hx hb hT inX7 tyX7 tyX7_ok nmX7 hown hK hP hD hS 0 rfl rfl 2 (by decide) (hT _ wf_X7_7) (fun _ h9 => h9) rfl hin rfl (by decide +kernel) rfl rfl (Nat.le_of_ble_eq_true rfl) dX7_init_10 (fun H locs hP hD hS => ?_)
  have hP : va_P D vwCl ((q, .inr (7, [.int 0, .long 0, .ref q1, .int 0, .int 0, .int 0, .int 0, .int 0, .int 0, .null, .int 0, .null, .null, .null, .null, .null, .null, .null, .null, .null, .null, .int 0, .null, .null, .null, .int 0, .null, .null])) :: T1) H := hP
  have hD : va_D A ((q, .inr (7, [.int 0, .long 0, .ref q1, .int 0, .int 0, .int 0, .int 0, .int 0, .int 0, .null, .int 0, .null, .null, .null, .null, .null, .null, .null, .null, .null, .null, .int 0, .null, .null, .null, .int 0, .null, .null])) :: T1) := hD
  refine lv_aload_n hx hb dX7_init_13 rfl (lv_at hl 0 rfl) ?_
  refine lv_bipush (v := 12) hx hb dX7_init_14 (by decide) ?_
  refine g_newa (atype := .int) (t0 := 0) (a0 := (12, .inl zf)) hx hb (hT _ war_int) rfl rfl (fun C h9 => by cases h9) hK hP hD hS hA (fun _ => rfl) (by decide) rfl (Nat.le_of_ble_eq_true rfl) (Nat.le_of_ble_eq_true rfl) (Nat.le_of_ble_eq_true rfl) dX7_init_16 (fun q2 H hP hD hS => ?_)
  obtain ⟨T2, eT2⟩ : ∃ z : va_W, z = T1 ++ [(q2, .inl (X.2.1 0, 12, .inl zf))] := ⟨_, rfl⟩
  have hP : va_P D vwCl ((q, .inr (7, [.int 0, .long 0, .ref q1, .int 0, .int 0, .int 0, .int 0, .int 0, .int 0, .null, .int 0, .null, .null, .null, .null, .null, .null, .null, .null, .null, .null, .int 0, .null, .null, .null, .int 0, .null, .null])) :: T2) H := by rw [eT2]; exact hP
  have hD : va_D A ((q, .inr (7, [.int 0, .long 0, .ref q1, .int 0, .int 0, .int 0, .int 0, .int 0, .int 0, .null, .int 0, .null, .null, .null, .null, .null, .null, .null, .null, .null, .null, .int 0, .null, .null, .null, .int 0, .null, .null])) :: T2) := by rw [eT2]; exact hD
  refine va_putF (D := D) (ci := 7) (v := .ref q2) (ty := .array .int) (C := RX7) (T := TX7) (N := 28) hx hb hT inX7 tyX7 tyX7_ok nmX7 hown hK hP hD hS 0 rfl rfl 9 (by decide) (hT _ wf_X7_13) (fun _ h9 => h9) rfl hin rfl (by decide +kernel) rfl rfl (Nat.le_of_ble_eq_true rfl) dX7_init_18 (fun H locs hP hD hS => ?_)
  have hP : va_P D vwCl ((q, .inr (7, [.int 0, .long 0, .ref q1, .int 0, .int 0, .int 0, .int 0, .int 0, .int 0, .ref q2, .int 0, .null, .null, .null, .null, .null, .null, .null, .null, .null, .null, .int 0, .null, .null, .null, .int 0, .null, .null])) :: T2) H := hP
  have hD : va_D A ((q, .inr (7, [.int 0, .long 0, .ref q1, .int 0, .int 0, .int 0, .int 0, .int 0, .int 0, .ref q2, .int 0, .null, .null, .null, .null, .null, .null, .null, .null, .null, .null, .int 0, .null, .null, .null, .int 0, .null, .null])) :: T2) := hD
  refine lv_aload_n hx hb dX7_init_21 rfl (lv_at hl 0 rfl) ?_
  refine lv_bipush (v := 12) hx hb dX7_init_22 (by decide) ?_
  refine g_newa (atype := .int) (t0 := 0) (a0 := (12, .inl zf)) hx hb (hT _ war_int) rfl rfl (fun C h9 => by cases h9) hK hP hD hS hA (fun _ => rfl) (by decide) rfl (Nat.le_of_ble_eq_true rfl) (Nat.le_of_ble_eq_true rfl) (Nat.le_of_ble_eq_true rfl) dX7_init_24 (fun q3 H hP hD hS => ?_)
  obtain ⟨T3, eT3⟩ : ∃ z : va_W, z = T2 ++ [(q3, .inl (X.2.1 0, 12, .inl zf))] := ⟨_, rfl⟩
  have hP : va_P D vwCl ((q, .inr (7, [.int 0, .long 0, .ref q1, .int 0, .int 0, .int 0, .int 0, .int 0, .int 0, .ref q2, .int 0, .null, .null, .null, .null, .null, .null, .null, .null, .null, .null, .int 0, .null, .null, .null, .int 0, .null, .null])) :: T3) H := by rw [eT3]; exact hP
  have hD : va_D A ((q, .inr (7, [.int 0, .long 0, .ref q1, .int 0, .int 0, .int 0, .int 0, .int 0, .int 0, .ref q2, .int 0, .null, .null, .null, .null, .null, .null, .null, .null, .null, .null, .int 0, .null, .null, .null, .int 0, .null, .null])) :: T3) := by rw [eT3]; exact hD
  refine va_putF (D := D) (ci := 7) (v := .ref q3) (ty := .array .int) (C := RX7) (T := TX7) (N := 28) hx hb hT inX7 tyX7 tyX7_ok nmX7 hown hK hP hD hS 0 rfl rfl 11 (by decide) (hT _ wf_X7_16) (fun _ h9 => h9) rfl hin rfl (by decide +kernel) rfl rfl (Nat.le_of_ble_eq_true rfl) dX7_init_26 (fun H locs hP hD hS => ?_)
  have hP : va_P D vwCl ((q, .inr (7, [.int 0, .long 0, .ref q1, .int 0, .int 0, .int 0, .int 0, .int 0, .int 0, .ref q2, .int 0, .ref q3, .null, .null, .null, .null, .null, .null, .null, .null, .null, .int 0, .null, .null, .null, .int 0, .null, .null])) :: T3) H := hP
  have hD : va_D A ((q, .inr (7, [.int 0, .long 0, .ref q1, .int 0, .int 0, .int 0, .int 0, .int 0, .int 0, .ref q2, .int 0, .ref q3, .null, .null, .null, .null, .null, .null, .null, .null, .null, .int 0, .null, .null, .null, .int 0, .null, .null])) :: T3) := hD
  refine lv_aload_n hx hb dX7_init_29 rfl (lv_at hl 0 rfl) ?_
  refine lv_bipush (v := 6) hx hb dX7_init_30 (by decide) ?_
  refine g_newa (atype := .int) (t0 := 0) (a0 := (6, .inl zf)) hx hb (hT _ war_int) rfl rfl (fun C h9 => by cases h9) hK hP hD hS hA (fun _ => rfl) (by decide) rfl (Nat.le_of_ble_eq_true rfl) (Nat.le_of_ble_eq_true rfl) (Nat.le_of_ble_eq_true rfl) dX7_init_32 (fun q4 H hP hD hS => ?_)
  obtain ⟨T4, eT4⟩ : ∃ z : va_W, z = T3 ++ [(q4, .inl (X.2.1 0, 6, .inl zf))] := ⟨_, rfl⟩
  have hP : va_P D vwCl ((q, .inr (7, [.int 0, .long 0, .ref q1, .int 0, .int 0, .int 0, .int 0, .int 0, .int 0, .ref q2, .int 0, .ref q3, .null, .null, .null, .null, .null, .null, .null, .null, .null, .int 0, .null, .null, .null, .int 0, .null, .null])) :: T4) H := by rw [eT4]; exact hP
  have hD : va_D A ((q, .inr (7, [.int 0, .long 0, .ref q1, .int 0, .int 0, .int 0, .int 0, .int 0, .int 0, .ref q2, .int 0, .ref q3, .null, .null, .null, .null, .null, .null, .null, .null, .null, .int 0, .null, .null, .null, .int 0, .null, .null])) :: T4) := by rw [eT4]; exact hD
  refine va_putF (D := D) (ci := 7) (v := .ref q4) (ty := .array .int) (C := RX7) (T := TX7) (N := 28) hx hb hT inX7 tyX7 tyX7_ok nmX7 hown hK hP hD hS 0 rfl rfl 12 (by decide) (hT _ wf_X7_19) (fun _ h9 => h9) rfl hin rfl (by decide +kernel) rfl rfl (Nat.le_of_ble_eq_true rfl) dX7_init_34 (fun H locs hP hD hS => ?_)
  have hP : va_P D vwCl ((q, .inr (7, [.int 0, .long 0, .ref q1, .int 0, .int 0, .int 0, .int 0, .int 0, .int 0, .ref q2, .int 0, .ref q3, .ref q4, .null, .null, .null, .null, .null, .null, .null, .null, .int 0, .null, .null, .null, .int 0, .null, .null])) :: T4) H := hP
  have hD : va_D A ((q, .inr (7, [.int 0, .long 0, .ref q1, .int 0, .int 0, .int 0, .int 0, .int 0, .int 0, .ref q2, .int 0, .ref q3, .ref q4, .null, .null, .null, .null, .null, .null, .null, .null, .int 0, .null, .null, .null, .int 0, .null, .null])) :: T4) := hD
  refine lv_aload_n hx hb dX7_init_37 rfl (lv_at hl 0 rfl) ?_
  refine lv_bipush (v := 12) hx hb dX7_init_38 (by decide) ?_
  refine g_newa (atype := .int) (t0 := 0) (a0 := (12, .inl zf)) hx hb (hT _ war_int) rfl rfl (fun C h9 => by cases h9) hK hP hD hS hA (fun _ => rfl) (by decide) rfl (Nat.le_of_ble_eq_true rfl) (Nat.le_of_ble_eq_true rfl) (Nat.le_of_ble_eq_true rfl) dX7_init_40 (fun q5 H hP hD hS => ?_)
  obtain ⟨T5, eT5⟩ : ∃ z : va_W, z = T4 ++ [(q5, .inl (X.2.1 0, 12, .inl zf))] := ⟨_, rfl⟩
  have hP : va_P D vwCl ((q, .inr (7, [.int 0, .long 0, .ref q1, .int 0, .int 0, .int 0, .int 0, .int 0, .int 0, .ref q2, .int 0, .ref q3, .ref q4, .null, .null, .null, .null, .null, .null, .null, .null, .int 0, .null, .null, .null, .int 0, .null, .null])) :: T5) H := by rw [eT5]; exact hP
  have hD : va_D A ((q, .inr (7, [.int 0, .long 0, .ref q1, .int 0, .int 0, .int 0, .int 0, .int 0, .int 0, .ref q2, .int 0, .ref q3, .ref q4, .null, .null, .null, .null, .null, .null, .null, .null, .int 0, .null, .null, .null, .int 0, .null, .null])) :: T5) := by rw [eT5]; exact hD
  refine va_putF (D := D) (ci := 7) (v := .ref q5) (ty := .array .int) (C := RX7) (T := TX7) (N := 28) hx hb hT inX7 tyX7 tyX7_ok nmX7 hown hK hP hD hS 0 rfl rfl 13 (by decide) (hT _ wf_X7_22) (fun _ h9 => h9) rfl hin rfl (by decide +kernel) rfl rfl (Nat.le_of_ble_eq_true rfl) dX7_init_42 (fun H locs hP hD hS => ?_)
  have hP : va_P D vwCl ((q, .inr (7, [.int 0, .long 0, .ref q1, .int 0, .int 0, .int 0, .int 0, .int 0, .int 0, .ref q2, .int 0, .ref q3, .ref q4, .ref q5, .null, .null, .null, .null, .null, .null, .null, .int 0, .null, .null, .null, .int 0, .null, .null])) :: T5) H := hP
  have hD : va_D A ((q, .inr (7, [.int 0, .long 0, .ref q1, .int 0, .int 0, .int 0, .int 0, .int 0, .int 0, .ref q2, .int 0, .ref q3, .ref q4, .ref q5, .null, .null, .null, .null, .null, .null, .null, .int 0, .null, .null, .null, .int 0, .null, .null])) :: T5) := hD
  refine lv_aload_n hx hb dX7_init_45 rfl (lv_at hl 0 rfl) ?_
  refine lv_bipush (v := 12) hx hb dX7_init_46 (by decide) ?_
  refine g_newa (atype := .int) (t0 := 0) (a0 := (12, .inl zf)) hx hb (hT _ war_int) rfl rfl (fun C h9 => by cases h9) hK hP hD hS hA (fun _ => rfl) (by decide) rfl (Nat.le_of_ble_eq_true rfl) (Nat.le_of_ble_eq_true rfl) (Nat.le_of_ble_eq_true rfl) dX7_init_48 (fun q6 H hP hD hS => ?_)
  obtain ⟨T6, eT6⟩ : ∃ z : va_W, z = T5 ++ [(q6, .inl (X.2.1 0, 12, .inl zf))] := ⟨_, rfl⟩
  have hP : va_P D vwCl ((q, .inr (7, [.int 0, .long 0, .ref q1, .int 0, .int 0, .int 0, .int 0, .int 0, .int 0, .ref q2, .int 0, .ref q3, .ref q4, .ref q5, .null, .null, .null, .null, .null, .null, .null, .int 0, .null, .null, .null, .int 0, .null, .null])) :: T6) H := by rw [eT6]; exact hP
  have hD : va_D A ((q, .inr (7, [.int 0, .long 0, .ref q1, .int 0, .int 0, .int 0, .int 0, .int 0, .int 0, .ref q2, .int 0, .ref q3, .ref q4, .ref q5, .null, .null, .null, .null, .null, .null, .null, .int 0, .null, .null, .null, .int 0, .null, .null])) :: T6) := by rw [eT6]; exact hD
  refine va_putF (D := D) (ci := 7) (v := .ref q6) (ty := .array .int) (C := RX7) (T := TX7) (N := 28) hx hb hT inX7 tyX7 tyX7_ok nmX7 hown hK hP hD hS 0 rfl rfl 14 (by decide) (hT _ wf_X7_25) (fun _ h9 => h9) rfl hin rfl (by decide +kernel) rfl rfl (Nat.le_of_ble_eq_true rfl) dX7_init_50 (fun H locs hP hD hS => ?_)
  have hP : va_P D vwCl ((q, .inr (7, [.int 0, .long 0, .ref q1, .int 0, .int 0, .int 0, .int 0, .int 0, .int 0, .ref q2, .int 0, .ref q3, .ref q4, .ref q5, .ref q6, .null, .null, .null, .null, .null, .null, .int 0, .null, .null, .null, .int 0, .null, .null])) :: T6) H := hP
  have hD : va_D A ((q, .inr (7, [.int 0, .long 0, .ref q1, .int 0, .int 0, .int 0, .int 0, .int 0, .int 0, .ref q2, .int 0, .ref q3, .ref q4, .ref q5, .ref q6, .null, .null, .null, .null, .null, .null, .int 0, .null, .null, .null, .int 0, .null, .null])) :: T6) := hD
  refine lv_aload_n hx hb dX7_init_53 rfl (lv_at hl 0 rfl) ?_
  refine lv_bipush (v := 12) hx hb dX7_init_54 (by decide) ?_
  refine g_newa (atype := .int) (t0 := 0) (a0 := (12, .inl zf)) hx hb (hT _ war_int) rfl rfl (fun C h9 => by cases h9) hK hP hD hS hA (fun _ => rfl) (by decide) rfl (Nat.le_of_ble_eq_true rfl) (Nat.le_of_ble_eq_true rfl) (Nat.le_of_ble_eq_true rfl) dX7_init_56 (fun q7 H hP hD hS => ?_)
  obtain ⟨T7, eT7⟩ : ∃ z : va_W, z = T6 ++ [(q7, .inl (X.2.1 0, 12, .inl zf))] := ⟨_, rfl⟩
  have hP : va_P D vwCl ((q, .inr (7, [.int 0, .long 0, .ref q1, .int 0, .int 0, .int 0, .int 0, .int 0, .int 0, .ref q2, .int 0, .ref q3, .ref q4, .ref q5, .ref q6, .null, .null, .null, .null, .null, .null, .int 0, .null, .null, .null, .int 0, .null, .null])) :: T7) H := by rw [eT7]; exact hP
  have hD : va_D A ((q, .inr (7, [.int 0, .long 0, .ref q1, .int 0, .int 0, .int 0, .int 0, .int 0, .int 0, .ref q2, .int 0, .ref q3, .ref q4, .ref q5, .ref q6, .null, .null, .null, .null, .null, .null, .int 0, .null, .null, .null, .int 0, .null, .null])) :: T7) := by rw [eT7]; exact hD
  refine va_putF (D := D) (ci := 7) (v := .ref q7) (ty := .array .int) (C := RX7) (T := TX7) (N := 28) hx hb hT inX7 tyX7 tyX7_ok nmX7 hown hK hP hD hS 0 rfl rfl 15 (by decide) (hT _ wf_X7_28) (fun _ h9 => h9) rfl hin rfl (by decide +kernel) rfl rfl (Nat.le_of_ble_eq_true rfl) dX7_init_58 (fun H locs hP hD hS => ?_)
  have hP : va_P D vwCl ((q, .inr (7, [.int 0, .long 0, .ref q1, .int 0, .int 0, .int 0, .int 0, .int 0, .int 0, .ref q2, .int 0, .ref q3, .ref q4, .ref q5, .ref q6, .ref q7, .null, .null, .null, .null, .null, .int 0, .null, .null, .null, .int 0, .null, .null])) :: T7) H := hP
  have hD : va_D A ((q, .inr (7, [.int 0, .long 0, .ref q1, .int 0, .int 0, .int 0, .int 0, .int 0, .int 0, .ref q2, .int 0, .ref q3, .ref q4, .ref q5, .ref q6, .ref q7, .null, .null, .null, .null, .null, .int 0, .null, .null, .null, .int 0, .null, .null])) :: T7) := hD
  refine lv_aload_n hx hb dX7_init_61 rfl (lv_at hl 0 rfl) ?_
  refine lv_bipush (v := 21) hx hb dX7_init_62 (by decide) ?_
  refine g_newa (atype := .int) (t0 := 0) (a0 := (21, .inl zf)) hx hb (hT _ war_int) rfl rfl (fun C h9 => by cases h9) hK hP hD hS hA (fun _ => rfl) (by decide) rfl (Nat.le_of_ble_eq_true rfl) (Nat.le_of_ble_eq_true rfl) (Nat.le_of_ble_eq_true rfl) dX7_init_64 (fun q8 H hP hD hS => ?_)
  obtain ⟨T8, eT8⟩ : ∃ z : va_W, z = T7 ++ [(q8, .inl (X.2.1 0, 21, .inl zf))] := ⟨_, rfl⟩
  have hP : va_P D vwCl ((q, .inr (7, [.int 0, .long 0, .ref q1, .int 0, .int 0, .int 0, .int 0, .int 0, .int 0, .ref q2, .int 0, .ref q3, .ref q4, .ref q5, .ref q6, .ref q7, .null, .null, .null, .null, .null, .int 0, .null, .null, .null, .int 0, .null, .null])) :: T8) H := by rw [eT8]; exact hP
  have hD : va_D A ((q, .inr (7, [.int 0, .long 0, .ref q1, .int 0, .int 0, .int 0, .int 0, .int 0, .int 0, .ref q2, .int 0, .ref q3, .ref q4, .ref q5, .ref q6, .ref q7, .null, .null, .null, .null, .null, .int 0, .null, .null, .null, .int 0, .null, .null])) :: T8) := by rw [eT8]; exact hD
  refine va_putF (D := D) (ci := 7) (v := .ref q8) (ty := .array .int) (C := RX7) (T := TX7) (N := 28) hx hb hT inX7 tyX7 tyX7_ok nmX7 hown hK hP hD hS 0 rfl rfl 16 (by decide) (hT _ wf_X7_31) (fun _ h9 => h9) rfl hin rfl (by decide +kernel) rfl rfl (Nat.le_of_ble_eq_true rfl) dX7_init_66 (fun H locs hP hD hS => ?_)
  have hP : va_P D vwCl ((q, .inr (7, [.int 0, .long 0, .ref q1, .int 0, .int 0, .int 0, .int 0, .int 0, .int 0, .ref q2, .int 0, .ref q3, .ref q4, .ref q5, .ref q6, .ref q7, .ref q8, .null, .null, .null, .null, .int 0, .null, .null, .null, .int 0, .null, .null])) :: T8) H := hP
  have hD : va_D A ((q, .inr (7, [.int 0, .long 0, .ref q1, .int 0, .int 0, .int 0, .int 0, .int 0, .int 0, .ref q2, .int 0, .ref q3, .ref q4, .ref q5, .ref q6, .ref q7, .ref q8, .null, .null, .null, .null, .int 0, .null, .null, .null, .int 0, .null, .null])) :: T8) := hD
  refine lv_aload_n hx hb dX7_init_69 rfl (lv_at hl 0 rfl) ?_
  refine lv_bipush (v := 21) hx hb dX7_init_70 (by decide) ?_
  refine g_newa (atype := .int) (t0 := 0) (a0 := (21, .inl zf)) hx hb (hT _ war_int) rfl rfl (fun C h9 => by cases h9) hK hP hD hS hA (fun _ => rfl) (by decide) rfl (Nat.le_of_ble_eq_true rfl) (Nat.le_of_ble_eq_true rfl) (Nat.le_of_ble_eq_true rfl) dX7_init_72 (fun q9 H hP hD hS => ?_)
  obtain ⟨T9, eT9⟩ : ∃ z : va_W, z = T8 ++ [(q9, .inl (X.2.1 0, 21, .inl zf))] := ⟨_, rfl⟩
  have hP : va_P D vwCl ((q, .inr (7, [.int 0, .long 0, .ref q1, .int 0, .int 0, .int 0, .int 0, .int 0, .int 0, .ref q2, .int 0, .ref q3, .ref q4, .ref q5, .ref q6, .ref q7, .ref q8, .null, .null, .null, .null, .int 0, .null, .null, .null, .int 0, .null, .null])) :: T9) H := by rw [eT9]; exact hP
  have hD : va_D A ((q, .inr (7, [.int 0, .long 0, .ref q1, .int 0, .int 0, .int 0, .int 0, .int 0, .int 0, .ref q2, .int 0, .ref q3, .ref q4, .ref q5, .ref q6, .ref q7, .ref q8, .null, .null, .null, .null, .int 0, .null, .null, .null, .int 0, .null, .null])) :: T9) := by rw [eT9]; exact hD
  refine va_putF (D := D) (ci := 7) (v := .ref q9) (ty := .array .int) (C := RX7) (T := TX7) (N := 28) hx hb hT inX7 tyX7 tyX7_ok nmX7 hown hK hP hD hS 0 rfl rfl 17 (by decide) (hT _ wf_X7_34) (fun _ h9 => h9) rfl hin rfl (by decide +kernel) rfl rfl (Nat.le_of_ble_eq_true rfl) dX7_init_74 (fun H locs hP hD hS => ?_)
  have hP : va_P D vwCl ((q, .inr (7, [.int 0, .long 0, .ref q1, .int 0, .int 0, .int 0, .int 0, .int 0, .int 0, .ref q2, .int 0, .ref q3, .ref q4, .ref q5, .ref q6, .ref q7, .ref q8, .ref q9, .null, .null, .null, .int 0, .null, .null, .null, .int 0, .null, .null])) :: T9) H := hP
  have hD : va_D A ((q, .inr (7, [.int 0, .long 0, .ref q1, .int 0, .int 0, .int 0, .int 0, .int 0, .int 0, .ref q2, .int 0, .ref q3, .ref q4, .ref q5, .ref q6, .ref q7, .ref q8, .ref q9, .null, .null, .null, .int 0, .null, .null, .null, .int 0, .null, .null])) :: T9) := hD
  refine lv_aload_n hx hb dX7_init_77 rfl (lv_at hl 0 rfl) ?_
  refine lv_bipush (v := 42) hx hb dX7_init_78 (by decide) ?_
  refine g_newa (atype := .int) (t0 := 0) (a0 := (42, .inl zf)) hx hb (hT _ war_int) rfl rfl (fun C h9 => by cases h9) hK hP hD hS hA (fun _ => rfl) (by decide) rfl (Nat.le_of_ble_eq_true rfl) (Nat.le_of_ble_eq_true rfl) (Nat.le_of_ble_eq_true rfl) dX7_init_80 (fun q10 H hP hD hS => ?_)
  obtain ⟨T10, eT10⟩ : ∃ z : va_W, z = T9 ++ [(q10, .inl (X.2.1 0, 42, .inl zf))] := ⟨_, rfl⟩
  have hP : va_P D vwCl ((q, .inr (7, [.int 0, .long 0, .ref q1, .int 0, .int 0, .int 0, .int 0, .int 0, .int 0, .ref q2, .int 0, .ref q3, .ref q4, .ref q5, .ref q6, .ref q7, .ref q8, .ref q9, .null, .null, .null, .int 0, .null, .null, .null, .int 0, .null, .null])) :: T10) H := by rw [eT10]; exact hP
  have hD : va_D A ((q, .inr (7, [.int 0, .long 0, .ref q1, .int 0, .int 0, .int 0, .int 0, .int 0, .int 0, .ref q2, .int 0, .ref q3, .ref q4, .ref q5, .ref q6, .ref q7, .ref q8, .ref q9, .null, .null, .null, .int 0, .null, .null, .null, .int 0, .null, .null])) :: T10) := by rw [eT10]; exact hD
  refine va_putF (D := D) (ci := 7) (v := .ref q10) (ty := .array .int) (C := RX7) (T := TX7) (N := 28) hx hb hT inX7 tyX7 tyX7_ok nmX7 hown hK hP hD hS 0 rfl rfl 18 (by decide) (hT _ wf_X7_37) (fun _ h9 => h9) rfl hin rfl (by decide +kernel) rfl rfl (Nat.le_of_ble_eq_true rfl) dX7_init_82 (fun H locs hP hD hS => ?_)
  have hP : va_P D vwCl ((q, .inr (7, [.int 0, .long 0, .ref q1, .int 0, .int 0, .int 0, .int 0, .int 0, .int 0, .ref q2, .int 0, .ref q3, .ref q4, .ref q5, .ref q6, .ref q7, .ref q8, .ref q9, .ref q10, .null, .null, .int 0, .null, .null, .null, .int 0, .null, .null])) :: T10) H := hP
  have hD : va_D A ((q, .inr (7, [.int 0, .long 0, .ref q1, .int 0, .int 0, .int 0, .int 0, .int 0, .int 0, .ref q2, .int 0, .ref q3, .ref q4, .ref q5, .ref q6, .ref q7, .ref q8, .ref q9, .ref q10, .null, .null, .int 0, .null, .null, .null, .int 0, .null, .null])) :: T10) := hD
  refine lv_aload_n hx hb dX7_init_85 rfl (lv_at hl 0 rfl) ?_
  refine lv_iconst (v := 2) hx hb dX7_init_86 (by decide) ?_
  refine g_newa (atype := .boolean) (t0 := 2) (a0 := (2, .inl zf)) hx hb (hT _ war_boolean) rfl rfl (fun C h9 => by cases h9) hK hP hD hS hA (fun _ => rfl) (by decide) rfl (Nat.le_of_ble_eq_true rfl) (Nat.le_of_ble_eq_true rfl) (Nat.le_of_ble_eq_true rfl) dX7_init_87 (fun q11 H hP hD hS => ?_)
  obtain ⟨T11, eT11⟩ : ∃ z : va_W, z = T10 ++ [(q11, .inl (X.2.1 2, 2, .inl zf))] := ⟨_, rfl⟩
  have hP : va_P D vwCl ((q, .inr (7, [.int 0, .long 0, .ref q1, .int 0, .int 0, .int 0, .int 0, .int 0, .int 0, .ref q2, .int 0, .ref q3, .ref q4, .ref q5, .ref q6, .ref q7, .ref q8, .ref q9, .ref q10, .null, .null, .int 0, .null, .null, .null, .int 0, .null, .null])) :: T11) H := by rw [eT11]; exact hP
  have hD : va_D A ((q, .inr (7, [.int 0, .long 0, .ref q1, .int 0, .int 0, .int 0, .int 0, .int 0, .int 0, .ref q2, .int 0, .ref q3, .ref q4, .ref q5, .ref q6, .ref q7, .ref q8, .ref q9, .ref q10, .null, .null, .int 0, .null, .null, .null, .int 0, .null, .null])) :: T11) := by rw [eT11]; exact hD
  refine va_putF (D := D) (ci := 7) (v := .ref q11) (ty := .array .boolean) (C := RX7) (T := TX7) (N := 28) hx hb hT inX7 tyX7 tyX7_ok nmX7 hown hK hP hD hS 0 rfl rfl 19 (by decide) (hT _ wf_X7_40) (fun _ h9 => h9) rfl hin rfl (by decide +kernel) rfl rfl (Nat.le_of_ble_eq_true rfl) dX7_init_89 (fun H locs hP hD hS => ?_)
  have hP : va_P D vwCl ((q, .inr (7, [.int 0, .long 0, .ref q1, .int 0, .int 0, .int 0, .int 0, .int 0, .int 0, .ref q2, .int 0, .ref q3, .ref q4, .ref q5, .ref q6, .ref q7, .ref q8, .ref q9, .ref q10, .ref q11, .null, .int 0, .null, .null, .null, .int 0, .null, .null])) :: T11) H := hP
  have hD : va_D A ((q, .inr (7, [.int 0, .long 0, .ref q1, .int 0, .int 0, .int 0, .int 0, .int 0, .int 0, .ref q2, .int 0, .ref q3, .ref q4, .ref q5, .ref q6, .ref q7, .ref q8, .ref q9, .ref q10, .ref q11, .null, .int 0, .null, .null, .null, .int 0, .null, .null])) :: T11) := hD
  refine lv_aload_n hx hb dX7_init_92 rfl (lv_at hl 0 rfl) ?_
  refine lv_sipush (v := 210) hx hb dX7_init_93 (by decide) ?_
  refine g_newa (atype := .int) (t0 := 0) (a0 := (210, .inl zf)) hx hb (hT _ war_int) rfl rfl (fun C h9 => by cases h9) hK hP hD hS hA (fun _ => rfl) (by decide) rfl (Nat.le_of_ble_eq_true rfl) (Nat.le_of_ble_eq_true rfl) (Nat.le_of_ble_eq_true rfl) dX7_init_96 (fun q12 H hP hD hS => ?_)
  obtain ⟨T12, eT12⟩ : ∃ z : va_W, z = T11 ++ [(q12, .inl (X.2.1 0, 210, .inl zf))] := ⟨_, rfl⟩
  have hP : va_P D vwCl ((q, .inr (7, [.int 0, .long 0, .ref q1, .int 0, .int 0, .int 0, .int 0, .int 0, .int 0, .ref q2, .int 0, .ref q3, .ref q4, .ref q5, .ref q6, .ref q7, .ref q8, .ref q9, .ref q10, .ref q11, .null, .int 0, .null, .null, .null, .int 0, .null, .null])) :: T12) H := by rw [eT12]; exact hP
  have hD : va_D A ((q, .inr (7, [.int 0, .long 0, .ref q1, .int 0, .int 0, .int 0, .int 0, .int 0, .int 0, .ref q2, .int 0, .ref q3, .ref q4, .ref q5, .ref q6, .ref q7, .ref q8, .ref q9, .ref q10, .ref q11, .null, .int 0, .null, .null, .null, .int 0, .null, .null])) :: T12) := by rw [eT12]; exact hD
  refine va_putF (D := D) (ci := 7) (v := .ref q12) (ty := .array .int) (C := RX7) (T := TX7) (N := 28) hx hb hT inX7 tyX7 tyX7_ok nmX7 hown hK hP hD hS 0 rfl rfl 20 (by decide) (hT _ wf_X7_44) (fun _ h9 => h9) rfl hin rfl (by decide +kernel) rfl rfl (Nat.le_of_ble_eq_true rfl) dX7_init_98 (fun H locs hP hD hS => ?_)
  have hP : va_P D vwCl ((q, .inr (7, [.int 0, .long 0, .ref q1, .int 0, .int 0, .int 0, .int 0, .int 0, .int 0, .ref q2, .int 0, .ref q3, .ref q4, .ref q5, .ref q6, .ref q7, .ref q8, .ref q9, .ref q10, .ref q11, .ref q12, .int 0, .null, .null, .null, .int 0, .null, .null])) :: T12) H := hP
  have hD : va_D A ((q, .inr (7, [.int 0, .long 0, .ref q1, .int 0, .int 0, .int 0, .int 0, .int 0, .int 0, .ref q2, .int 0, .ref q3, .ref q4, .ref q5, .ref q6, .ref q7, .ref q8, .ref q9, .ref q10, .ref q11, .ref q12, .int 0, .null, .null, .null, .int 0, .null, .null])) :: T12) := hD
  refine lv_aload_n hx hb dX7_init_101 rfl (lv_at hl 0 rfl) ?_
  refine lv_iconst (v := 5) hx hb dX7_init_102 (by decide) ?_
  refine g_newa (atype := .int) (t0 := 0) (a0 := (5, .inl zf)) hx hb (hT _ war_int) rfl rfl (fun C h9 => by cases h9) hK hP hD hS hA (fun _ => rfl) (by decide) rfl (Nat.le_of_ble_eq_true rfl) (Nat.le_of_ble_eq_true rfl) (Nat.le_of_ble_eq_true rfl) dX7_init_103 (fun q13 H hP hD hS => ?_)
  obtain ⟨T13, eT13⟩ : ∃ z : va_W, z = T12 ++ [(q13, .inl (X.2.1 0, 5, .inl zf))] := ⟨_, rfl⟩
  have hP : va_P D vwCl ((q, .inr (7, [.int 0, .long 0, .ref q1, .int 0, .int 0, .int 0, .int 0, .int 0, .int 0, .ref q2, .int 0, .ref q3, .ref q4, .ref q5, .ref q6, .ref q7, .ref q8, .ref q9, .ref q10, .ref q11, .ref q12, .int 0, .null, .null, .null, .int 0, .null, .null])) :: T13) H := by rw [eT13]; exact hP
  have hD : va_D A ((q, .inr (7, [.int 0, .long 0, .ref q1, .int 0, .int 0, .int 0, .int 0, .int 0, .int 0, .ref q2, .int 0, .ref q3, .ref q4, .ref q5, .ref q6, .ref q7, .ref q8, .ref q9, .ref q10, .ref q11, .ref q12, .int 0, .null, .null, .null, .int 0, .null, .null])) :: T13) := by rw [eT13]; exact hD
  refine va_putF (D := D) (ci := 7) (v := .ref q13) (ty := .array .int) (C := RX7) (T := TX7) (N := 28) hx hb hT inX7 tyX7 tyX7_ok nmX7 hown hK hP hD hS 0 rfl rfl 22 (by decide) (hT _ wf_X7_47) (fun _ h9 => h9) rfl hin rfl (by decide +kernel) rfl rfl (Nat.le_of_ble_eq_true rfl) dX7_init_105 (fun H locs hP hD hS => ?_)
  have hP : va_P D vwCl ((q, .inr (7, [.int 0, .long 0, .ref q1, .int 0, .int 0, .int 0, .int 0, .int 0, .int 0, .ref q2, .int 0, .ref q3, .ref q4, .ref q5, .ref q6, .ref q7, .ref q8, .ref q9, .ref q10, .ref q11, .ref q12, .int 0, .ref q13, .null, .null, .int 0, .null, .null])) :: T13) H := hP
  have hD : va_D A ((q, .inr (7, [.int 0, .long 0, .ref q1, .int 0, .int 0, .int 0, .int 0, .int 0, .int 0, .ref q2, .int 0, .ref q3, .ref q4, .ref q5, .ref q6, .ref q7, .ref q8, .ref q9, .ref q10, .ref q11, .ref q12, .int 0, .ref q13, .null, .null, .int 0, .null, .null])) :: T13) := hD
  refine lv_aload_n hx hb dX7_init_108 rfl (lv_at hl 0 rfl) ?_
  refine lv_iconst (v := 5) hx hb dX7_init_109 (by decide) ?_
  refine g_newa (atype := .int) (t0 := 0) (a0 := (5, .inl zf)) hx hb (hT _ war_int) rfl rfl (fun C h9 => by cases h9) hK hP hD hS hA (fun _ => rfl) (by decide) rfl (Nat.le_of_ble_eq_true rfl) (Nat.le_of_ble_eq_true rfl) (Nat.le_of_ble_eq_true rfl) dX7_init_110 (fun q14 H hP hD hS => ?_)
  obtain ⟨T14, eT14⟩ : ∃ z : va_W, z = T13 ++ [(q14, .inl (X.2.1 0, 5, .inl zf))] := ⟨_, rfl⟩
  have hP : va_P D vwCl ((q, .inr (7, [.int 0, .long 0, .ref q1, .int 0, .int 0, .int 0, .int 0, .int 0, .int 0, .ref q2, .int 0, .ref q3, .ref q4, .ref q5, .ref q6, .ref q7, .ref q8, .ref q9, .ref q10, .ref q11, .ref q12, .int 0, .ref q13, .null, .null, .int 0, .null, .null])) :: T14) H := by rw [eT14]; exact hP
  have hD : va_D A ((q, .inr (7, [.int 0, .long 0, .ref q1, .int 0, .int 0, .int 0, .int 0, .int 0, .int 0, .ref q2, .int 0, .ref q3, .ref q4, .ref q5, .ref q6, .ref q7, .ref q8, .ref q9, .ref q10, .ref q11, .ref q12, .int 0, .ref q13, .null, .null, .int 0, .null, .null])) :: T14) := by rw [eT14]; exact hD
  refine va_putF (D := D) (ci := 7) (v := .ref q14) (ty := .array .int) (C := RX7) (T := TX7) (N := 28) hx hb hT inX7 tyX7 tyX7_ok nmX7 hown hK hP hD hS 0 rfl rfl 23 (by decide) (hT _ wf_X7_50) (fun _ h9 => h9) rfl hin rfl (by decide +kernel) rfl rfl (Nat.le_of_ble_eq_true rfl) dX7_init_112 (fun H locs hP hD hS => ?_)
  have hP : va_P D vwCl ((q, .inr (7, [.int 0, .long 0, .ref q1, .int 0, .int 0, .int 0, .int 0, .int 0, .int 0, .ref q2, .int 0, .ref q3, .ref q4, .ref q5, .ref q6, .ref q7, .ref q8, .ref q9, .ref q10, .ref q11, .ref q12, .int 0, .ref q13, .ref q14, .null, .int 0, .null, .null])) :: T14) H := hP
  have hD : va_D A ((q, .inr (7, [.int 0, .long 0, .ref q1, .int 0, .int 0, .int 0, .int 0, .int 0, .int 0, .ref q2, .int 0, .ref q3, .ref q4, .ref q5, .ref q6, .ref q7, .ref q8, .ref q9, .ref q10, .ref q11, .ref q12, .int 0, .ref q13, .ref q14, .null, .int 0, .null, .null])) :: T14) := hD
  refine lv_aload_n hx hb dX7_init_115 rfl (lv_at hl 0 rfl) ?_
  refine lv_iconst (v := 5) hx hb dX7_init_116 (by decide) ?_
  refine g_newa (atype := .int) (t0 := 0) (a0 := (5, .inl zf)) hx hb (hT _ war_int) rfl rfl (fun C h9 => by cases h9) hK hP hD hS hA (fun _ => rfl) (by decide) rfl (Nat.le_of_ble_eq_true rfl) (Nat.le_of_ble_eq_true rfl) (Nat.le_of_ble_eq_true rfl) dX7_init_117 (fun q15 H hP hD hS => ?_)
  obtain ⟨T15, eT15⟩ : ∃ z : va_W, z = T14 ++ [(q15, .inl (X.2.1 0, 5, .inl zf))] := ⟨_, rfl⟩
  have hP : va_P D vwCl ((q, .inr (7, [.int 0, .long 0, .ref q1, .int 0, .int 0, .int 0, .int 0, .int 0, .int 0, .ref q2, .int 0, .ref q3, .ref q4, .ref q5, .ref q6, .ref q7, .ref q8, .ref q9, .ref q10, .ref q11, .ref q12, .int 0, .ref q13, .ref q14, .null, .int 0, .null, .null])) :: T15) H := by rw [eT15]; exact hP
  have hD : va_D A ((q, .inr (7, [.int 0, .long 0, .ref q1, .int 0, .int 0, .int 0, .int 0, .int 0, .int 0, .ref q2, .int 0, .ref q3, .ref q4, .ref q5, .ref q6, .ref q7, .ref q8, .ref q9, .ref q10, .ref q11, .ref q12, .int 0, .ref q13, .ref q14, .null, .int 0, .null, .null])) :: T15) := by rw [eT15]; exact hD
  refine va_putF (D := D) (ci := 7) (v := .ref q15) (ty := .array .int) (C := RX7) (T := TX7) (N := 28) hx hb hT inX7 tyX7 tyX7_ok nmX7 hown hK hP hD hS 0 rfl rfl 24 (by decide) (hT _ wf_X7_53) (fun _ h9 => h9) rfl hin rfl (by decide +kernel) rfl rfl (Nat.le_of_ble_eq_true rfl) dX7_init_119 (fun H locs hP hD hS => ?_)
  have hP : va_P D vwCl ((q, .inr (7, [.int 0, .long 0, .ref q1, .int 0, .int 0, .int 0, .int 0, .int 0, .int 0, .ref q2, .int 0, .ref q3, .ref q4, .ref q5, .ref q6, .ref q7, .ref q8, .ref q9, .ref q10, .ref q11, .ref q12, .int 0, .ref q13, .ref q14, .ref q15, .int 0, .null, .null])) :: T15) H := hP
  have hD : va_D A ((q, .inr (7, [.int 0, .long 0, .ref q1, .int 0, .int 0, .int 0, .int 0, .int 0, .int 0, .ref q2, .int 0, .ref q3, .ref q4, .ref q5, .ref q6, .ref q7, .ref q8, .ref q9, .ref q10, .ref q11, .ref q12, .int 0, .ref q13, .ref q14, .ref q15, .int 0, .null, .null])) :: T15) := hD
  refine lv_aload_n hx hb dX7_init_122 rfl (lv_at hl 0 rfl) ?_
  refine lv_iconst (v := 4) hx hb dX7_init_123 (by decide) ?_
  refine g_newa (atype := .int) (t0 := 0) (a0 := (4, .inl zf)) hx hb (hT _ war_int) rfl rfl (fun C h9 => by cases h9) hK hP hD hS hA (fun _ => rfl) (by decide) rfl (Nat.le_of_ble_eq_true rfl) (Nat.le_of_ble_eq_true rfl) (Nat.le_of_ble_eq_true rfl) dX7_init_124 (fun q16 H hP hD hS => ?_)
  obtain ⟨T16, eT16⟩ : ∃ z : va_W, z = T15 ++ [(q16, .inl (X.2.1 0, 4, .inl zf))] := ⟨_, rfl⟩
  have hP : va_P D vwCl ((q, .inr (7, [.int 0, .long 0, .ref q1, .int 0, .int 0, .int 0, .int 0, .int 0, .int 0, .ref q2, .int 0, .ref q3, .ref q4, .ref q5, .ref q6, .ref q7, .ref q8, .ref q9, .ref q10, .ref q11, .ref q12, .int 0, .ref q13, .ref q14, .ref q15, .int 0, .null, .null])) :: T16) H := by rw [eT16]; exact hP
  have hD : va_D A ((q, .inr (7, [.int 0, .long 0, .ref q1, .int 0, .int 0, .int 0, .int 0, .int 0, .int 0, .ref q2, .int 0, .ref q3, .ref q4, .ref q5, .ref q6, .ref q7, .ref q8, .ref q9, .ref q10, .ref q11, .ref q12, .int 0, .ref q13, .ref q14, .ref q15, .int 0, .null, .null])) :: T16) := by rw [eT16]; exact hD
  refine va_putF (D := D) (ci := 7) (v := .ref q16) (ty := .array .int) (C := RX7) (T := TX7) (N := 28) hx hb hT inX7 tyX7 tyX7_ok nmX7 hown hK hP hD hS 0 rfl rfl 26 (by decide) (hT _ wf_X7_56) (fun _ h9 => h9) rfl hin rfl (by decide +kernel) rfl rfl (Nat.le_of_ble_eq_true rfl) dX7_init_126 (fun H locs hP hD hS => ?_)
  have hP : va_P D vwCl ((q, .inr (7, [.int 0, .long 0, .ref q1, .int 0, .int 0, .int 0, .int 0, .int 0, .int 0, .ref q2, .int 0, .ref q3, .ref q4, .ref q5, .ref q6, .ref q7, .ref q8, .ref q9, .ref q10, .ref q11, .ref q12, .int 0, .ref q13, .ref q14, .ref q15, .int 0, .ref q16, .null])) :: T16) H := hP
  have hD : va_D A ((q, .inr (7, [.int 0, .long 0, .ref q1, .int 0, .int 0, .int 0, .int 0, .int 0, .int 0, .ref q2, .int 0, .ref q3, .ref q4, .ref q5, .ref q6, .ref q7, .ref q8, .ref q9, .ref q10, .ref q11, .ref q12, .int 0, .ref q13, .ref q14, .ref q15, .int 0, .ref q16, .null])) :: T16) := hD
  refine lv_aload_n hx hb dX7_init_129 rfl (lv_at hl 0 rfl) ?_
  refine lv_iconst (v := 4) hx hb dX7_init_130 (by decide) ?_
  refine g_newa (atype := .int) (t0 := 0) (a0 := (4, .inl zf)) hx hb (hT _ war_int) rfl rfl (fun C h9 => by cases h9) hK hP hD hS hA (fun _ => rfl) (by decide) rfl (Nat.le_of_ble_eq_true rfl) (Nat.le_of_ble_eq_true rfl) (Nat.le_of_ble_eq_true rfl) dX7_init_131 (fun q17 H hP hD hS => ?_)
  obtain ⟨T17, eT17⟩ : ∃ z : va_W, z = T16 ++ [(q17, .inl (X.2.1 0, 4, .inl zf))] := ⟨_, rfl⟩
  have hP : va_P D vwCl ((q, .inr (7, [.int 0, .long 0, .ref q1, .int 0, .int 0, .int 0, .int 0, .int 0, .int 0, .ref q2, .int 0, .ref q3, .ref q4, .ref q5, .ref q6, .ref q7, .ref q8, .ref q9, .ref q10, .ref q11, .ref q12, .int 0, .ref q13, .ref q14, .ref q15, .int 0, .ref q16, .null])) :: T17) H := by rw [eT17]; exact hP
  have hD : va_D A ((q, .inr (7, [.int 0, .long 0, .ref q1, .int 0, .int 0, .int 0, .int 0, .int 0, .int 0, .ref q2, .int 0, .ref q3, .ref q4, .ref q5, .ref q6, .ref q7, .ref q8, .ref q9, .ref q10, .ref q11, .ref q12, .int 0, .ref q13, .ref q14, .ref q15, .int 0, .ref q16, .null])) :: T17) := by rw [eT17]; exact hD
  refine va_putF (D := D) (ci := 7) (v := .ref q17) (ty := .array .int) (C := RX7) (T := TX7) (N := 28) hx hb hT inX7 tyX7 tyX7_ok nmX7 hown hK hP hD hS 0 rfl rfl 27 (by decide) (hT _ wf_X7_59) (fun _ h9 => h9) rfl hin rfl (by decide +kernel) rfl rfl (Nat.le_of_ble_eq_true rfl) dX7_init_133 (fun H locs hP hD hS => ?_)
  have hP : va_P D vwCl ((q, .inr (7, [.int 0, .long 0, .ref q1, .int 0, .int 0, .int 0, .int 0, .int 0, .int 0, .ref q2, .int 0, .ref q3, .ref q4, .ref q5, .ref q6, .ref q7, .ref q8, .ref q9, .ref q10, .ref q11, .ref q12, .int 0, .ref q13, .ref q14, .ref q15, .int 0, .ref q16, .ref q17])) :: T17) H := hP
  have hD : va_D A ((q, .inr (7, [.int 0, .long 0, .ref q1, .int 0, .int 0, .int 0, .int 0, .int 0, .int 0, .ref q2, .int 0, .ref q3, .ref q4, .ref q5, .ref q6, .ref q7, .ref q8, .ref q9, .ref q10, .ref q11, .ref q12, .int 0, .ref q13, .ref q14, .ref q15, .int 0, .ref q16, .ref q17])) :: T17) := hD
  refine lv_aload_n hx hb dX7_init_136 rfl (lv_at hl 0 rfl) ?_
  subst eT17
  subst eT16
  subst eT15
  subst eT14
  subst eT13
  subst eT12
  subst eT11
  subst eT10
  subst eT9
  subst eT8
  subst eT7
  subst eT6
  subst eT5
  subst eT4
  subst eT3
  subst eT2
  subst eT1
  obtain ⟨X1, hX1⟩ : ∃ X1 : Nat → Nat, X1 = fun k => ([q, q1, q2, q3, q4, q5, q6, q7, q8, q9, q10, q11, q12, q13, q14, q15, q16, q17] : List Nat).getD k 0 := ⟨_, rfl⟩
  have e3 : RW (X1, X.2) (zm, 0, 0, 0) = ((q, .inr (7, [.int 0, .long 0, .ref q1, .int 0, .int 0, .int 0, .int 0, .int 0, .int 0, .ref q2, .int 0, .ref q3, .ref q4, .ref q5, .ref q6, .ref q7, .ref q8, .ref q9, .ref q10, .ref q11, .ref q12, .int 0, .ref q13, .ref q14, .ref q15, .int 0, .ref q16, .ref q17])) :: (((((((((((((((((([] : va_W) ++ [(q1, .inl (X.2.1 0, 200, .inl zf))]) ++ [(q2, .inl (X.2.1 0, 12, .inl zf))]) ++ [(q3, .inl (X.2.1 0, 12, .inl zf))]) ++ [(q4, .inl (X.2.1 0, 6, .inl zf))]) ++ [(q5, .inl (X.2.1 0, 12, .inl zf))]) ++ [(q6, .inl (X.2.1 0, 12, .inl zf))]) ++ [(q7, .inl (X.2.1 0, 12, .inl zf))]) ++ [(q8, .inl (X.2.1 0, 21, .inl zf))]) ++ [(q9, .inl (X.2.1 0, 21, .inl zf))]) ++ [(q10, .inl (X.2.1 0, 42, .inl zf))]) ++ [(q11, .inl (X.2.1 2, 2, .inl zf))]) ++ [(q12, .inl (X.2.1 0, 210, .inl zf))]) ++ [(q13, .inl (X.2.1 0, 5, .inl zf))]) ++ [(q14, .inl (X.2.1 0, 5, .inl zf))]) ++ [(q15, .inl (X.2.1 0, 5, .inl zf))]) ++ [(q16, .inl (X.2.1 0, 4, .inl zf))]) ++ [(q17, .inl (X.2.1 0, 4, .inl zf))])) := by rw [hX1]; rfl
  have hP3 : va_P D vwCl (RW (X1, X.2) (zm, 0, 0, 0)) H := by rw [e3]; exact hP
  have hD : va_D A (RW (X1, X.2) (zm, 0, 0, 0)) := by rw [e3]; exact hD
  have hI3 : Inj 18 X1 := fun i j hi hj hij => hD.1 i j _ _ (gw_at hi rfl) (gw_at hj rfl) hij
  have hD3 : ∀ k, k < 18 → A (X1 k) := fun k hk => hD.2 k _ (gw_at hk rfl)
  have hA3 : ∀ sz, s.heap.size ≤ sz → ∀ a, AX 18 X1 sz a → A a := by
    intro sz hsz a ha
    rcases ha with ⟨k, hk, rfl⟩ | ha
    · exact hD3 k hk
    · exact hA a (Nat.le_trans hsz ha)
  have hq0 : X1 0 = q := by rw [hX1]; rfl
  refine g_Vv (Wf := RW (X1, X.2)) (FX := FXr (X1, X.2)) (A := A) (A1 := AX 18 X1 H.size) (tys := tyX X) (b := q) (As := []) (rest := []) ⟨hx, hb, hml, hown, hT⟩ (by have h9 := c_X7_begins l D (X1, X.2) hI3 H.size (zm, 0, 0, 0) _ h; rw [show ((X1, X.2) : XE).1 0 = q from hq0] at h9; exact h9) (gd_V wl_X7_62 wi_X7_begins wv_X7_begins wn_X7 wc_X7_begins) rfl hd_X7_begins ⟨rfl, rfl⟩ ⟨Nat.le_of_ble_eq_true rfl, Nat.le_of_ble_eq_true rfl⟩ (by have h9 := va_recv hK hP3 (ci := 7) (q0 := 0) rfl rw_Model; rw [show ((X1, X.2) : XE).1 0 = q from hq0] at h9; exact h9) hK hP3 hS (fun _ _ _ _ _ => trivial) (fun _ _ _ => trivial) (hA3 _ hS.1) rfl hl.1 rfl (Nat.le_of_ble_eq_true rfl) dX7_init_137 ⟨Nat.le_of_ble_eq_true rfl, Nat.le_of_ble_eq_true rfl⟩ (fun S1 H locs h1 hP hS => ?_)
  refine lv_aload_n hx hb dX7_init_140 rfl (lv_at hl 0 rfl) ?_
  refine g_Vv (Wf := RW (X1, X.2)) (FX := FXr (X1, X.2)) (A := A) (A1 := AX 18 X1 H.size) (tys := tyX X) (b := q) (As := []) (rest := []) ⟨hx, hb, hml, hown, hT⟩ (by have h9 := c_X7_settles l D (X1, X.2) hI3 H.size S1 _ h1; rw [show ((X1, X.2) : XE).1 0 = q from hq0] at h9; exact h9) (gd_V wl_X7_65 wi_X7_settles wv_X7_settles wn_X7 wc_X7_settles) rfl hd_X7_settles ⟨rfl, rfl⟩ ⟨Nat.le_of_ble_eq_true rfl, Nat.le_of_ble_eq_true rfl⟩ (by have h9 := va_recv hK hP (ci := 7) (q0 := 0) rfl rw_Model; rw [show ((X1, X.2) : XE).1 0 = q from hq0] at h9; exact h9) hK hP hS (fun _ _ _ _ _ => trivial) (fun _ _ _ => trivial) (hA3 _ hS.1) rfl hl.1 rfl (Nat.le_of_ble_eq_true rfl) dX7_init_141 ⟨Nat.le_of_ble_eq_true rfl, Nat.le_of_ble_eq_true rfl⟩ (fun S2 H locs h1 hP hS => ?_)
  exact W.vret hx hb hr (fun t ht hW => ⟨⟨(X1, S2), rfl, h1, ⟨by rw [ht]; exact hP, hI3, hq0, hD3⟩⟩, hS.F ht⟩) hS.2.2 dX7_init_144
