theorem wi_Obj : Cond.instanceMethod objectInit ∈ lw_gd := gd_t (i := 22) (by decide +kernel) rfl
theorem wc_Obj : Cond.code objectInit ⟨#[0xb1]⟩ 1 none ∈ lw_gd := gd_t (i := 23) (by decide +kernel) rfl
theorem k_D1 {q : Nat} {e0 : va_E} {sz : Nat} : va_D (va_A [(q, e0)] sz) [(q, e0)] := by
  refine ⟨fun i j a b ha hb _ => ?_, fun k x hx => va_A.in hx⟩
  have h1 := (List.getElem?_eq_some_iff.mp ha).1
  have h2 := (List.getElem?_eq_some_iff.mp hb).1
  simp at h1 h2
  omega
abbrev rm_X0_init : Room := { frames := 1, cells := 1, slots := 8, locals := 20 }
set_option maxHeartbeats 4000000 in
set_option maxRecDepth 100000 in
theorem c_X0_init (l : Launch) (D : va_G) (X : XE) (sz q : Nat) : Met l yX0_init (Cond.code yX0_init cX0_init 1 none :: lw_gd) rm_X0_init (kPc D X sz q (.inr (0, [.null, .int 0])) [.ref q]) (va_Qv (fun _ => True) (kB D (csBesom X q) (va_A [(q, (.inr (0, [.null, .int 0])))] sz)) (va_A [(q, (.inr (0, [.null, .int 0])))] sz)) 1 8 (va_A [(q, (.inr (0, [.null, .int 0])))] sz) := by
  refine Met.ofW (cc := cX0_init) (maxL := 1) (ret := none) (by decide) rfl ?_
  intro p e s m args below meth c s₁ B hml hv
  obtain ⟨rfl, hsz, hP, hK, hF, hO⟩ := hv
  have hx := B.exec
  have hb := B.bytes
  have hr := B.returns
  have hts := atoms_spec (ws := (Cond.code yX0_init cX0_init 1 none :: lw_gd)) B.pre
  have hT : ∀ w ∈ lw_gd, w.before _ s = true := fun w h9 => hts w (List.mem_cons_of_mem _ h9)
  have hown : s.vm.findClass RX0 = some m.cls := findClass_of_methodNamed B.named
  have hlocks := B.notSynchronized
  have hin : meth.name = "<init>" := (name_of_methodNamed B.named B.method).1
  subst hsz
  have hD := k_D1 (q := q) (e0 := (.inr (0, [.null, .int 0]))) (sz := s.heap.size)
  generalize hAe : va_A [(q, (.inr (0, [.null, .int 0])))] s.heap.size = A at hD hF ⊢
  have hA : ∀ a : Nat, s.heap.size ≤ a → A a := fun a h9 => by rw [← hAe]; exact Or.inr h9
  have hS : va_S A s.heap s.heap [] := va_S.rf
  have hl := lv_entry ([.ref q]) (n := 1) (Nat.le_of_ble_eq_true rfl)
  rw [lg_entry_eq]
  generalize (lg_sl ([.ref q]) ++ List.replicate (1 - (lg_sl ([.ref q])).length) Slot.unset).toArray = ls at hl ⊢
  have hl : lv_has ls 1 [(0, .ref q)] := hl
  refine lv_aload_n hx hb dX0_init_0 rfl (lv_at hl 0 rfl) ?_
  refine W.objInit hx hb hown (hT _ wl_X0_1) (hT _ wi_Obj) (hT _ wc_Obj) rfl (by rw [hml]; exact hl.1) rfl dX0_init_1 (Nat.le_of_ble_eq_true rfl) (Nat.le_of_ble_eq_true rfl) ?_
  refine W.eq (g2 := F0 m 4 ls []) rfl ?_
  refine lv_aload_n hx hb dX0_init_4 rfl (lv_at hl 0 rfl) ?_
  refine lv_bipush (v := 8) hx hb dX0_init_5 (by decide) ?_
  refine g_newa (atype := .int) (t0 := 0) (a0 := (8, .inl zf)) hx hb (hT _ war_int) rfl rfl (fun C h9 => by cases h9) hK hP hD hS hA (fun _ => rfl) (by decide) rfl (Nat.le_of_ble_eq_true rfl) (Nat.le_of_ble_eq_true rfl) (Nat.le_of_ble_eq_true rfl) dX0_init_7 (fun q1 H hP hD hS => ?_)
  obtain ⟨T1, eT1⟩ : ∃ z : va_W, z = ([] : va_W) ++ [(q1, .inl (X.2.1 0, 8, .inl zf))] := ⟨_, rfl⟩
  have hP : va_P D vwCl ((q, .inr (0, [.null, .int 0])) :: T1) H := by rw [eT1]; exact hP
  have hD : va_D A ((q, .inr (0, [.null, .int 0])) :: T1) := by rw [eT1]; exact hD
  refine va_putF (D := D) (ci := 0) (v := .ref q1) (ty := .array .int) (C := RX0) (T := TX0) (N := 2) hx hb hT inX0 tyX0 tyX0_ok nmX0 hown hK hP hD hS 0 rfl rfl 0 (by decide) (hT _ wf_X0_9) (fun _ h9 => h9) rfl hin rfl (by decide +kernel) rfl rfl (Nat.le_of_ble_eq_true rfl) dX0_init_9 (fun H locs hP hD hS => ?_)
  have hP : va_P D vwCl ((q, .inr (0, [.ref q1, .int 0])) :: T1) H := hP
  have hD : va_D A ((q, .inr (0, [.ref q1, .int 0])) :: T1) := hD
  subst eT1
  exact W.vret hx hb hr (fun t ht hW => ⟨⟨(fun k => [q1].getD k 0, fun _ _ => 0), rfl, trivial, ⟨by rw [ht]; exact hP, hD⟩⟩, hS.F ht⟩) hS.2.2 dX0_init_12
abbrev rm_X2_init : Room := { frames := 1, cells := 3, slots := 13, locals := 20 }
set_option maxHeartbeats 4000000 in
set_option maxRecDepth 100000 in
theorem c_X2_init (l : Launch) (D : va_G) (X : XE) (sz q : Nat) : Met l yX2_init (Cond.code yX2_init cX2_init 1 none :: lw_gd) rm_X2_init (kPc D X sz q (.inr (2, [.int 0, .null, .null, .null])) [.ref q]) (va_Qv (fun _ => True) (kB D (csPlanner X q) (va_A [(q, (.inr (2, [.int 0, .null, .null, .null])))] sz)) (va_A [(q, (.inr (2, [.int 0, .null, .null, .null])))] sz)) 3 13 (va_A [(q, (.inr (2, [.int 0, .null, .null, .null])))] sz) := by
  refine Met.ofW (cc := cX2_init) (maxL := 1) (ret := none) (by decide) rfl ?_
  intro p e s m args below meth c s₁ B hml hv
  obtain ⟨rfl, hsz, hP, hK, hF, hO⟩ := hv
  have hx := B.exec
  have hb := B.bytes
  have hr := B.returns
  have hts := atoms_spec (ws := (Cond.code yX2_init cX2_init 1 none :: lw_gd)) B.pre
  have hT : ∀ w ∈ lw_gd, w.before _ s = true := fun w h9 => hts w (List.mem_cons_of_mem _ h9)
  have hown : s.vm.findClass RX2 = some m.cls := findClass_of_methodNamed B.named
  have hlocks := B.notSynchronized
  have hin : meth.name = "<init>" := (name_of_methodNamed B.named B.method).1
  subst hsz
  have hD := k_D1 (q := q) (e0 := (.inr (2, [.int 0, .null, .null, .null]))) (sz := s.heap.size)
  generalize hAe : va_A [(q, (.inr (2, [.int 0, .null, .null, .null])))] s.heap.size = A at hD hF ⊢
  have hA : ∀ a : Nat, s.heap.size ≤ a → A a := fun a h9 => by rw [← hAe]; exact Or.inr h9
  have hS : va_S A s.heap s.heap [] := va_S.rf
  have hl := lv_entry ([.ref q]) (n := 1) (Nat.le_of_ble_eq_true rfl)
  rw [lg_entry_eq]
  generalize (lg_sl ([.ref q]) ++ List.replicate (1 - (lg_sl ([.ref q])).length) Slot.unset).toArray = ls at hl ⊢
  have hl : lv_has ls 1 [(0, .ref q)] := hl
  refine lv_aload_n hx hb dX2_init_0 rfl (lv_at hl 0 rfl) ?_
  refine W.objInit hx hb hown (hT _ wl_X2_3) (hT _ wi_Obj) (hT _ wc_Obj) rfl (by rw [hml]; exact hl.1) rfl dX2_init_1 (Nat.le_of_ble_eq_true rfl) (Nat.le_of_ble_eq_true rfl) ?_
  refine W.eq (g2 := F0 m 4 ls []) rfl ?_
  refine lv_aload_n hx hb dX2_init_4 rfl (lv_at hl 0 rfl) ?_
  refine lv_iconst (v := 4) hx hb dX2_init_5 (by decide) ?_
  refine g_newa (atype := .int) (t0 := 0) (a0 := (4, .inl zf)) hx hb (hT _ war_int) rfl rfl (fun C h9 => by cases h9) hK hP hD hS hA (fun _ => rfl) (by decide) rfl (Nat.le_of_ble_eq_true rfl) (Nat.le_of_ble_eq_true rfl) (Nat.le_of_ble_eq_true rfl) dX2_init_6 (fun q1 H hP hD hS => ?_)
  obtain ⟨T1, eT1⟩ : ∃ z : va_W, z = ([] : va_W) ++ [(q1, .inl (X.2.1 0, 4, .inl zf))] := ⟨_, rfl⟩
  have hP : va_P D vwCl ((q, .inr (2, [.int 0, .null, .null, .null])) :: T1) H := by rw [eT1]; exact hP
  have hD : va_D A ((q, .inr (2, [.int 0, .null, .null, .null])) :: T1) := by rw [eT1]; exact hD
  refine va_putF (D := D) (ci := 2) (v := .ref q1) (ty := .array .int) (C := RX2) (T := TX2) (N := 4) hx hb hT inX2 tyX2 tyX2_ok nmX2 hown hK hP hD hS 0 rfl rfl 1 (by decide) (hT _ wf_X2_11) (fun _ h9 => h9) rfl hin rfl (by decide +kernel) rfl rfl (Nat.le_of_ble_eq_true rfl) dX2_init_8 (fun H locs hP hD hS => ?_)
  have hP : va_P D vwCl ((q, .inr (2, [.int 0, .ref q1, .null, .null])) :: T1) H := hP
  have hD : va_D A ((q, .inr (2, [.int 0, .ref q1, .null, .null])) :: T1) := hD
  refine lv_aload_n hx hb dX2_init_11 rfl (lv_at hl 0 rfl) ?_
  refine lv_iconst (v := 4) hx hb dX2_init_12 (by decide) ?_
  refine g_newa (atype := .int) (t0 := 0) (a0 := (4, .inl zf)) hx hb (hT _ war_int) rfl rfl (fun C h9 => by cases h9) hK hP hD hS hA (fun _ => rfl) (by decide) rfl (Nat.le_of_ble_eq_true rfl) (Nat.le_of_ble_eq_true rfl) (Nat.le_of_ble_eq_true rfl) dX2_init_13 (fun q2 H hP hD hS => ?_)
  obtain ⟨T2, eT2⟩ : ∃ z : va_W, z = T1 ++ [(q2, .inl (X.2.1 0, 4, .inl zf))] := ⟨_, rfl⟩
  have hP : va_P D vwCl ((q, .inr (2, [.int 0, .ref q1, .null, .null])) :: T2) H := by rw [eT2]; exact hP
  have hD : va_D A ((q, .inr (2, [.int 0, .ref q1, .null, .null])) :: T2) := by rw [eT2]; exact hD
  refine va_putF (D := D) (ci := 2) (v := .ref q2) (ty := .array .int) (C := RX2) (T := TX2) (N := 4) hx hb hT inX2 tyX2 tyX2_ok nmX2 hown hK hP hD hS 0 rfl rfl 2 (by decide) (hT _ wf_X2_15) (fun _ h9 => h9) rfl hin rfl (by decide +kernel) rfl rfl (Nat.le_of_ble_eq_true rfl) dX2_init_15 (fun H locs hP hD hS => ?_)
  have hP : va_P D vwCl ((q, .inr (2, [.int 0, .ref q1, .ref q2, .null])) :: T2) H := hP
  have hD : va_D A ((q, .inr (2, [.int 0, .ref q1, .ref q2, .null])) :: T2) := hD
  refine lv_aload_n hx hb dX2_init_18 rfl (lv_at hl 0 rfl) ?_
  refine lv_iconst (v := 5) hx hb dX2_init_19 (by decide) ?_
  refine g_newa (atype := .int) (t0 := 0) (a0 := (5, .inl zf)) hx hb (hT _ war_int) rfl rfl (fun C h9 => by cases h9) hK hP hD hS hA (fun _ => rfl) (by decide) rfl (Nat.le_of_ble_eq_true rfl) (Nat.le_of_ble_eq_true rfl) (Nat.le_of_ble_eq_true rfl) dX2_init_20 (fun q3 H hP hD hS => ?_)
  obtain ⟨T3, eT3⟩ : ∃ z : va_W, z = T2 ++ [(q3, .inl (X.2.1 0, 5, .inl zf))] := ⟨_, rfl⟩
  have hP : va_P D vwCl ((q, .inr (2, [.int 0, .ref q1, .ref q2, .null])) :: T3) H := by rw [eT3]; exact hP
  have hD : va_D A ((q, .inr (2, [.int 0, .ref q1, .ref q2, .null])) :: T3) := by rw [eT3]; exact hD
  refine va_putF (D := D) (ci := 2) (v := .ref q3) (ty := .array .int) (C := RX2) (T := TX2) (N := 4) hx hb hT inX2 tyX2 tyX2_ok nmX2 hown hK hP hD hS 0 rfl rfl 3 (by decide) (hT _ wf_X2_18) (fun _ h9 => h9) rfl hin rfl (by decide +kernel) rfl rfl (Nat.le_of_ble_eq_true rfl) dX2_init_22 (fun H locs hP hD hS => ?_)
  have hP : va_P D vwCl ((q, .inr (2, [.int 0, .ref q1, .ref q2, .ref q3])) :: T3) H := hP
  have hD : va_D A ((q, .inr (2, [.int 0, .ref q1, .ref q2, .ref q3])) :: T3) := hD
  subst eT3
  subst eT2
  subst eT1
  exact W.vret hx hb hr (fun t ht hW => ⟨⟨(fun k => [q1, q2, q3].getD k 0, fun _ _ => 0), rfl, trivial, ⟨by rw [ht]; exact hP, hD⟩⟩, hS.F ht⟩) hS.2.2 dX2_init_25
abbrev rm_X4_init : Room := { frames := 1, cells := 1, slots := 200, locals := 20 }
set_option maxHeartbeats 4000000 in
set_option maxRecDepth 100000 in
theorem c_X4_init (l : Launch) (D : va_G) (X : XE) (sz q : Nat) : Met l yX4_init (Cond.code yX4_init cX4_init 1 none :: lw_gd) rm_X4_init (kPc D X sz q (.inr (4, [.null, .int 0, .int 0, .int 0, .int 0, .int 0])) [.ref q]) (va_Qv (fun _ => True) (kB D (csText X q) (va_A [(q, (.inr (4, [.null, .int 0, .int 0, .int 0, .int 0, .int 0])))] sz)) (va_A [(q, (.inr (4, [.null, .int 0, .int 0, .int 0, .int 0, .int 0])))] sz)) 1 200 (va_A [(q, (.inr (4, [.null, .int 0, .int 0, .int 0, .int 0, .int 0])))] sz) := by
  refine Met.ofW (cc := cX4_init) (maxL := 1) (ret := none) (by decide) rfl ?_
  intro p e s m args below meth c s₁ B hml hv
  obtain ⟨rfl, hsz, hP, hK, hF, hO⟩ := hv
  have hx := B.exec
  have hb := B.bytes
  have hr := B.returns
  have hts := atoms_spec (ws := (Cond.code yX4_init cX4_init 1 none :: lw_gd)) B.pre
  have hT : ∀ w ∈ lw_gd, w.before _ s = true := fun w h9 => hts w (List.mem_cons_of_mem _ h9)
  have hown : s.vm.findClass RX4 = some m.cls := findClass_of_methodNamed B.named
  have hlocks := B.notSynchronized
  have hin : meth.name = "<init>" := (name_of_methodNamed B.named B.method).1
  subst hsz
  have hD := k_D1 (q := q) (e0 := (.inr (4, [.null, .int 0, .int 0, .int 0, .int 0, .int 0]))) (sz := s.heap.size)
  generalize hAe : va_A [(q, (.inr (4, [.null, .int 0, .int 0, .int 0, .int 0, .int 0])))] s.heap.size = A at hD hF ⊢
  have hA : ∀ a : Nat, s.heap.size ≤ a → A a := fun a h9 => by rw [← hAe]; exact Or.inr h9
  have hS : va_S A s.heap s.heap [] := va_S.rf
  have hl := lv_entry ([.ref q]) (n := 1) (Nat.le_of_ble_eq_true rfl)
  rw [lg_entry_eq]
  generalize (lg_sl ([.ref q]) ++ List.replicate (1 - (lg_sl ([.ref q])).length) Slot.unset).toArray = ls at hl ⊢
  have hl : lv_has ls 1 [(0, .ref q)] := hl
  refine lv_aload_n hx hb dX4_init_0 rfl (lv_at hl 0 rfl) ?_
  refine W.objInit hx hb hown (hT _ wl_X4_1) (hT _ wi_Obj) (hT _ wc_Obj) rfl (by rw [hml]; exact hl.1) rfl dX4_init_1 (Nat.le_of_ble_eq_true rfl) (Nat.le_of_ble_eq_true rfl) ?_
  refine W.eq (g2 := F0 m 4 ls []) rfl ?_
  refine lv_aload_n hx hb dX4_init_4 rfl (lv_at hl 0 rfl) ?_
  refine lv_sipush (v := 200) hx hb dX4_init_5 (by decide) ?_
  refine g_newa (atype := .char) (t0 := 1) (a0 := (200, .inl zf)) hx hb (hT _ war_char) rfl rfl (fun C h9 => by cases h9) hK hP hD hS hA (fun _ => rfl) (by decide) rfl (Nat.le_of_ble_eq_true rfl) (Nat.le_of_ble_eq_true rfl) (Nat.le_of_ble_eq_true rfl) dX4_init_8 (fun q1 H hP hD hS => ?_)
  obtain ⟨T1, eT1⟩ : ∃ z : va_W, z = ([] : va_W) ++ [(q1, .inl (X.2.1 1, 200, .inl zf))] := ⟨_, rfl⟩
  have hP : va_P D vwCl ((q, .inr (4, [.null, .int 0, .int 0, .int 0, .int 0, .int 0])) :: T1) H := by rw [eT1]; exact hP
  have hD : va_D A ((q, .inr (4, [.null, .int 0, .int 0, .int 0, .int 0, .int 0])) :: T1) := by rw [eT1]; exact hD
  refine va_putF (D := D) (ci := 4) (v := .ref q1) (ty := .array .char) (C := RX4) (T := TX4) (N := 6) hx hb hT inX4 tyX4 tyX4_ok nmX4 hown hK hP hD hS 0 rfl rfl 0 (by decide) (hT _ wf_X4_9) (fun _ h9 => h9) rfl hin rfl (by decide +kernel) rfl rfl (Nat.le_of_ble_eq_true rfl) dX4_init_10 (fun H locs hP hD hS => ?_)
  have hP : va_P D vwCl ((q, .inr (4, [.ref q1, .int 0, .int 0, .int 0, .int 0, .int 0])) :: T1) H := hP
  have hD : va_D A ((q, .inr (4, [.ref q1, .int 0, .int 0, .int 0, .int 0, .int 0])) :: T1) := hD
  subst eT1
  exact W.vret hx hb hr (fun t ht hW => ⟨⟨(fun k => [q1].getD k 0, fun _ _ => 0), rfl, trivial, ⟨by rw [ht]; exact hP, hD⟩⟩, hS.F ht⟩) hS.2.2 dX4_init_13
abbrev rm_X1_init : Room := { frames := 2, cells := 3, slots := 16, locals := 41 }
set_option maxHeartbeats 4000000 in
set_option maxRecDepth 100000 in
theorem c_X1_init (l : Launch) (D : va_G) (X : XE) (sz q : Nat) : Met l yX1_init (Cond.code yX1_init cX1_init 1 none :: lw_gd) rm_X1_init (kPc D X sz q (.inr (1, [.null, .null, .int 0, .int 0, .int 0, .int 0, .int 0, .int 0])) [.ref q]) (va_Qv (fun _ => True) (kB D (csMoment X q) (va_A [(q, (.inr (1, [.null, .null, .int 0, .int 0, .int 0, .int 0, .int 0, .int 0])))] sz)) (va_A [(q, (.inr (1, [.null, .null, .int 0, .int 0, .int 0, .int 0, .int 0, .int 0])))] sz)) 3 16 (va_A [(q, (.inr (1, [.null, .null, .int 0, .int 0, .int 0, .int 0, .int 0, .int 0])))] sz) := by
  refine Met.ofW (cc := cX1_init) (maxL := 1) (ret := none) (by decide) rfl ?_
  intro p e s m args below meth c s₁ B hml hv
  obtain ⟨rfl, hsz, hP, hK, hF, hO⟩ := hv
  have hx := B.exec
  have hb := B.bytes
  have hr := B.returns
  have hts := atoms_spec (ws := (Cond.code yX1_init cX1_init 1 none :: lw_gd)) B.pre
  have hT : ∀ w ∈ lw_gd, w.before _ s = true := fun w h9 => hts w (List.mem_cons_of_mem _ h9)
  have hown : s.vm.findClass RX1 = some m.cls := findClass_of_methodNamed B.named
  have hlocks := B.notSynchronized
  have hin : meth.name = "<init>" := (name_of_methodNamed B.named B.method).1
  subst hsz
  have hD := k_D1 (q := q) (e0 := (.inr (1, [.null, .null, .int 0, .int 0, .int 0, .int 0, .int 0, .int 0]))) (sz := s.heap.size)
  generalize hAe : va_A [(q, (.inr (1, [.null, .null, .int 0, .int 0, .int 0, .int 0, .int 0, .int 0])))] s.heap.size = A at hD hF ⊢
  have hA : ∀ a : Nat, s.heap.size ≤ a → A a := fun a h9 => by rw [← hAe]; exact Or.inr h9
  have hS : va_S A s.heap s.heap [] := va_S.rf
  have hl := lv_entry ([.ref q]) (n := 1) (Nat.le_of_ble_eq_true rfl)
  rw [lg_entry_eq]
  generalize (lg_sl ([.ref q]) ++ List.replicate (1 - (lg_sl ([.ref q])).length) Slot.unset).toArray = ls at hl ⊢
  have hl : lv_has ls 1 [(0, .ref q)] := hl
  refine lv_aload_n hx hb dX1_init_0 rfl (lv_at hl 0 rfl) ?_
  refine W.objInit hx hb hown (hT _ wl_X1_1) (hT _ wi_Obj) (hT _ wc_Obj) rfl (by rw [hml]; exact hl.1) rfl dX1_init_1 (Nat.le_of_ble_eq_true rfl) (Nat.le_of_ble_eq_true rfl) ?_
  refine W.eq (g2 := F0 m 4 ls []) rfl ?_
  refine lv_aload_n hx hb dX1_init_4 rfl (lv_at hl 0 rfl) ?_
  refine lv_bipush (v := 6) hx hb dX1_init_5 (by decide) ?_
  refine g_newa (atype := .int) (t0 := 0) (a0 := (6, .inl zf)) hx hb (hT _ war_int) rfl rfl (fun C h9 => by cases h9) hK hP hD hS hA (fun _ => rfl) (by decide) rfl (Nat.le_of_ble_eq_true rfl) (Nat.le_of_ble_eq_true rfl) (Nat.le_of_ble_eq_true rfl) dX1_init_7 (fun q1 H hP hD hS => ?_)
  obtain ⟨T1, eT1⟩ : ∃ z : va_W, z = ([] : va_W) ++ [(q1, .inl (X.2.1 0, 6, .inl zf))] := ⟨_, rfl⟩
  have hP : va_P D vwCl ((q, .inr (1, [.null, .null, .int 0, .int 0, .int 0, .int 0, .int 0, .int 0])) :: T1) H := by rw [eT1]; exact hP
  have hD : va_D A ((q, .inr (1, [.null, .null, .int 0, .int 0, .int 0, .int 0, .int 0, .int 0])) :: T1) := by rw [eT1]; exact hD
  refine va_putF (D := D) (ci := 1) (v := .ref q1) (ty := .array .int) (C := RX1) (T := TX1) (N := 8) hx hb hT inX1 tyX1 tyX1_ok nmX1 hown hK hP hD hS 0 rfl rfl 0 (by decide) (hT _ wf_X1_9) (fun _ h9 => h9) rfl hin rfl (by decide +kernel) rfl rfl (Nat.le_of_ble_eq_true rfl) dX1_init_9 (fun H locs hP hD hS => ?_)
  have hP : va_P D vwCl ((q, .inr (1, [.ref q1, .null, .int 0, .int 0, .int 0, .int 0, .int 0, .int 0])) :: T1) H := hP
  have hD : va_D A ((q, .inr (1, [.ref q1, .null, .int 0, .int 0, .int 0, .int 0, .int 0, .int 0])) :: T1) := hD
  refine lv_aload_n hx hb dX1_init_12 rfl (lv_at hl 0 rfl) ?_
  refine va_new (ci := 0) (fs := [.null, .int 0]) (C := RX0) (T := TX0) (N := 2) hx hb hT inX0 tyX0 tyX0_ok hown (hT _ wcl_X1_15) (hT _ win_X0) (hT _ wn_X0) hK hP hD hS hA rfl (fun j hj => by rcases (show j = 0 ∨ j = 1 by omega) with rfl | rfl <;> rfl) (Nat.le_of_ble_eq_true rfl) (Nat.le_of_ble_eq_true rfl) dX1_init_13 (fun q2 H hP hD hS => ?_)
  have hP : va_P D vwCl (((q, .inr (1, [.ref q1, .null, .int 0, .int 0, .int 0, .int 0, .int 0, .int 0])) :: T1) ++ [(q2, .inr (0, [.null, .int 0]))]) H := hP
  have hD : va_D A (((q, .inr (1, [.ref q1, .null, .int 0, .int 0, .int 0, .int 0, .int 0, .int 0])) :: T1) ++ [(q2, .inr (0, [.null, .int 0]))]) := hD
  refine lv_dup hx hb dX1_init_16 rfl ?_
  refine k_IN (As := []) (rest := [.ref q2, .ref q]) (wr := ((q, .inr (1, [.ref q1, .null, .int 0, .int 0, .int 0, .int 0, .int 0, .int 0])) :: T1)) (cs := csBesom X q2) ⟨hx, hb, hml, hown, hT⟩ (c_X0_init l D X H.size q2) (gd_I wc_X0_init) hF.1.2.2.2.1 (hT _ wn_X0) (hT _ wi_X0_init) rfl hd_X0_init ⟨rfl, rfl⟩ ⟨Nat.le_of_ble_eq_true rfl, Nat.le_of_ble_eq_true rfl⟩ hK hP hD hS hA hF hO rfl hl.1 rfl (Nat.le_of_ble_eq_true rfl) dX1_init_17 ⟨Nat.le_of_ble_eq_true rfl, Nat.le_of_ble_eq_true rfl⟩ (fun u3 H locs hu3 hP hD hS => ?_)
  obtain ⟨T2, eT2⟩ : ∃ z : va_W, z = T1 ++ csBesom X q2 u3 := ⟨_, rfl⟩
  have hP : va_P D vwCl ((q, .inr (1, [.ref q1, .null, .int 0, .int 0, .int 0, .int 0, .int 0, .int 0])) :: T2) H := by rw [eT2]; exact hP
  have hD : va_D A ((q, .inr (1, [.ref q1, .null, .int 0, .int 0, .int 0, .int 0, .int 0, .int 0])) :: T2) := by rw [eT2]; exact hD
  refine va_putF (D := D) (ci := 1) (v := .ref q2) (ty := .object "BesomYard$Besom") (C := RX1) (T := TX1) (N := 8) hx hb hT inX1 tyX1 tyX1_ok nmX1 hown hK hP hD hS 0 rfl rfl 1 (by decide) (hT _ wf_X1_18) (fun _ h9 => h9) rfl hin rfl (by decide +kernel) rfl rfl (Nat.le_of_ble_eq_true rfl) dX1_init_20 (fun H locs hP hD hS => ?_)
  have hP : va_P D vwCl ((q, .inr (1, [.ref q1, .ref q2, .int 0, .int 0, .int 0, .int 0, .int 0, .int 0])) :: T2) H := hP
  have hD : va_D A ((q, .inr (1, [.ref q1, .ref q2, .int 0, .int 0, .int 0, .int 0, .int 0, .int 0])) :: T2) := hD
  subst eT2
  subst eT1
  exact W.vret hx hb hr (fun t ht hW => ⟨⟨(fun k => [q1, q2, u3.1 0].getD k 0, fun _ _ => 0), rfl, trivial, ⟨by rw [ht]; exact hP, hD⟩⟩, hS.F ht⟩) hS.2.2 dX1_init_23
