abbrev rm_X7_cuts : Room := { frames := 3, cells := 0, slots := 0, locals := 68 }
def p_X7_cuts (S : CS) (x1 : Int32) (post : Int32 → CS → Prop) : Prop := ∀ S_1 : CS, S_1 = sti S 0 0 0 → (p_X7_isPart S_1 x1 (fun r_3 S_2 => ((r_3 = 0 → (post (-1) S_2)) ∧ (¬ (r_3 = 0) → (p_X7_notes S_2  (fun S_5 => (p_X7_fells S_5 8 x1 (fun r_8 S_7 => (post r_8 S_7)))))))))
set_option maxHeartbeats 4000000 in
set_option maxRecDepth 100000 in
theorem c_X7_cuts (l : Launch) (D : va_G) (X : XE) (hX : Inj 18 X.1) (sz : Nat) (S : CS) (x1 : Int32) (post : Int32 → CS → Prop) (h : p_X7_cuts S x1 post) : Met l yX7_cuts (Cond.code yX7_cuts cX7_cuts 2 (some .int) :: lw_gd) rm_X7_cuts (gPc D (tyX X) (RW X) (FXr X) (AX 18 X.1 sz) sz S [.ref (X.1 0), .int x1]) (va_Qi post (gB D (RW X)) (AX 18 X.1 sz)) 0 0 (AX 18 X.1 sz) := by
  refine Met.ofW (cc := cX7_cuts) (maxL := 2) (ret := (some .int)) (by decide) rfl ?_
  intro p e s m args below meth c s₁ B hml hv
  obtain ⟨rfl, hsz, hP, hK, hF⟩ := hv
  have hx := B.exec
  have hb := B.bytes
  have hr := B.returns
  have hts := atoms_spec (ws := (Cond.code yX7_cuts cX7_cuts 2 (some .int) :: lw_gd)) B.pre
  have hT : ∀ w ∈ lw_gd, w.before _ s = true := fun w h9 => hts w (List.mem_cons_of_mem _ h9)
  have hown : s.vm.findClass RX7 = some m.cls := findClass_of_methodNamed B.named
  have hlocks := B.notSynchronized
  subst hsz
  have hS : va_S (AX 18 X.1 s.heap.size) s.heap s.heap [] := va_S.rf
  have hl := lv_entry ([.ref (X.1 0), .int x1]) (n := 2) (Nat.le_of_ble_eq_true rfl)
  rw [lg_entry_eq]
  generalize (lg_sl ([.ref (X.1 0), .int x1]) ++ List.replicate (2 - (lg_sl ([.ref (X.1 0), .int x1])).length) Slot.unset).toArray = ls at hl ⊢
  have hl : lv_has ls 2 [(0, .ref (X.1 0)), (1, .int x1)] := hl
  obtain ⟨H, hH⟩ : ∃ H : Heap, H = s.heap := ⟨_, rfl⟩
  obtain ⟨locs, hlc⟩ : ∃ q : List Loc, q = [] := ⟨_, rfl⟩
  have hS : va_S (AX 18 X.1 s.heap.size) s.heap H locs := by rw [hH, hlc]; exact hS
  have hP : va_P D vwCl (RW X S) H := by rw [hH]; exact hP
  show W p l e (headSpec (Cond.code yX7_cuts cX7_cuts 2 (some .int) :: lw_gd) rm_X7_cuts).room s m ([.ref (X.1 0), .int x1] : List Value).toArray below meth c s.heap [] 0 0 (MQ below (va_Qi post (gB D (RW X)) (AX 18 X.1 s.heap.size)) ([.ref (X.1 0), .int x1] : List Value).toArray s 0 0 (AX 18 X.1 s.heap.size)) _
  suffices hgo : W p l e (headSpec (Cond.code yX7_cuts cX7_cuts 2 (some .int) :: lw_gd) rm_X7_cuts).room s m ([.ref (X.1 0), .int x1] : List Value).toArray below meth c H locs 0 0 (MQ below (va_Qi post (gB D (RW X)) (AX 18 X.1 s.heap.size)) ([.ref (X.1 0), .int x1] : List Value).toArray s 0 0 (AX 18 X.1 s.heap.size)) (F0 m 0 ls []) from by rw [hH, hlc] at hgo; exact hgo
  unfold p_X7_cuts at h
  refine lv_aload_n hx hb dX7_cuts_0 rfl (lv_at hl 0 rfl) ?_
  refine lv_iconst (v := 0) hx hb dX7_cuts_1 (by decide) ?_
  refine va_put (D := D) (ci := 7) (v := .int 0) (ty := .int) (C := RX7) (T := TX7) (N := 28) hx hb hT inX7 tyX7 tyX7_ok nmX7 hown hK hP (gw_D hX) hS 0 rw_Model rfl 0 (by decide) (hT _ wf_X7_68) (fun _ h9 => h9) rfl (by decide +kernel) rfl rfl (Nat.le_of_ble_eq_true rfl) dX7_cuts_2 (fun H locs hP _ hS => ?_)
  have hP := rw_st (j := 0) (x := 0) rfl hP
  obtain ⟨S_1, eS_1⟩ : ∃ z : CS, z = sti S 0 0 0 := ⟨_, rfl⟩
  rw [← eS_1] at hP
  have h := h S_1 eS_1
  refine lv_aload_n hx hb dX7_cuts_5 rfl (lv_at hl 0 rfl) ?_
  refine lv_iload_n hx hb dX7_cuts_6 rfl (lv_at hl 1 rfl) ?_
  refine rVi (As := [.int x1]) (rest := []) hX ⟨hx, hb, hml, hown, hT⟩ (c_X7_isPart l D X hX H.size S_1 x1 _ h) (gd_V wl_X7_139 wi_X7_isPart wv_X7_isPart wn_X7 wc_X7_isPart) rfl hd_X7_isPart ⟨rfl, rfl⟩ ⟨Nat.le_of_ble_eq_true rfl, Nat.le_of_ble_eq_true rfl⟩ (va_recv hK hP (ci := 7) (q0 := 0) rfl rw_Model) hK hP hS hF rfl hl.1 rfl (Nat.le_of_ble_eq_true rfl) dX7_cuts_7 ⟨Nat.zero_le _, Nat.zero_le _⟩ (fun r_3 S_2 H locs h hP hS => ?_)
  refine lv_if_ne (tgt := 15) hx hb dX7_cuts_10 (by decide) (fun c_4 => ?_) (fun c_4 => ?_)
  · have h := h.2 c_4
    refine lv_aload_n hx hb dX7_cuts_15 rfl (lv_at hl 0 rfl) ?_
    refine rVv (As := []) (rest := []) hX ⟨hx, hb, hml, hown, hT⟩ (c_X7_notes l D X hX H.size S_2  _ h) (gd_V wl_X7_152 wi_X7_notes wv_X7_notes wn_X7 wc_X7_notes) rfl hd_X7_notes ⟨rfl, rfl⟩ ⟨Nat.le_of_ble_eq_true rfl, Nat.le_of_ble_eq_true rfl⟩ (va_recv hK hP (ci := 7) (q0 := 0) rfl rw_Model) hK hP hS hF rfl hl.1 rfl (Nat.le_of_ble_eq_true rfl) dX7_cuts_16 ⟨Nat.zero_le _, Nat.zero_le _⟩ (fun S_5 H locs h hP hS => ?_)
    refine lv_aload_n hx hb dX7_cuts_19 rfl (lv_at hl 0 rfl) ?_
    refine lv_aload_n hx hb dX7_cuts_20 rfl (lv_at hl 0 rfl) ?_
    refine va_get (D := D) (ci := 7) (v := .ref (X.1 8)) (C := RX7) (T := TX7) (N := 28) hx hb hT inX7 hown hK hP 0 rw_Model rfl 16 (by decide) (hT _ wf_X7_31) (fun _ h9 => h9) rfl dX7_cuts_21 ?_
    refine lv_iload_n hx hb dX7_cuts_24 rfl (lv_at hl 1 rfl) ?_
    refine rVi (As := [.ref (X.1 8), .int x1]) (rest := []) hX ⟨hx, hb, hml, hown, hT⟩ (c_X7_fells l D X hX H.size S_5 8 (by decide) x1 _ h) (gd_V wl_X7_155 wi_X7_fells wv_X7_fells wn_X7 wc_X7_fells) rfl hd_X7_fells ⟨rfl, rfl⟩ ⟨Nat.le_of_ble_eq_true rfl, Nat.le_of_ble_eq_true rfl⟩ (va_recv hK hP (ci := 7) (q0 := 0) rfl rw_Model) hK hP hS hF rfl hl.1 rfl (Nat.le_of_ble_eq_true rfl) dX7_cuts_25 ⟨Nat.zero_le _, Nat.zero_le _⟩ (fun r_8 S_7 H locs h hP hS => ?_)
    exact W.iret (v := r_8) hx hb hr (fun t ht hW => ⟨⟨r_8, S_7, rfl, h, gB_of ht hP⟩, hS.F ht⟩) hS.2.2 dX7_cuts_28
  · have h := h.1 c_4
    refine lv_iconst (v := (-1)) hx hb dX7_cuts_13 (by decide) ?_
    exact W.iret (v := (-1)) hx hb hr (fun t ht hW => ⟨⟨(-1), S_2, rfl, h, gB_of ht hP⟩, hS.F ht⟩) hS.2.2 dX7_cuts_14

abbrev rm_X7_year : Room := { frames := 1, cells := 0, slots := 0, locals := 22 }
def p_X7_year (S : CS)  (post : Int32 → CS → Prop) : Prop := ∀ S_1 : CS, S_1 = sti S 0 0 0 → (((S_1.1 8 1) = 999 → (post (-2) S_1)) ∧ (¬ ((S_1.1 8 1) = 999) → (p_X7_notes S_1  (fun S_3 => (p_X7_grows S_3 8 (fun S_5 => (post (S_5.1 8 1) S_5)))))))
set_option maxHeartbeats 4000000 in
set_option maxRecDepth 100000 in
theorem c_X7_year (l : Launch) (D : va_G) (X : XE) (hX : Inj 18 X.1) (sz : Nat) (S : CS)  (post : Int32 → CS → Prop) (h : p_X7_year S  post) : Met l yX7_year (Cond.code yX7_year cX7_year 1 (some .int) :: lw_gd) rm_X7_year (gPc D (tyX X) (RW X) (FXr X) (AX 18 X.1 sz) sz S [.ref (X.1 0)]) (va_Qi post (gB D (RW X)) (AX 18 X.1 sz)) 0 0 (AX 18 X.1 sz) := by
  refine Met.ofW (cc := cX7_year) (maxL := 1) (ret := (some .int)) (by decide) rfl ?_
  intro p e s m args below meth c s₁ B hml hv
  obtain ⟨rfl, hsz, hP, hK, hF⟩ := hv
  have hx := B.exec
  have hb := B.bytes
  have hr := B.returns
  have hts := atoms_spec (ws := (Cond.code yX7_year cX7_year 1 (some .int) :: lw_gd)) B.pre
  have hT : ∀ w ∈ lw_gd, w.before _ s = true := fun w h9 => hts w (List.mem_cons_of_mem _ h9)
  have hown : s.vm.findClass RX7 = some m.cls := findClass_of_methodNamed B.named
  have hlocks := B.notSynchronized
  subst hsz
  have hS : va_S (AX 18 X.1 s.heap.size) s.heap s.heap [] := va_S.rf
  have hl := lv_entry ([.ref (X.1 0)]) (n := 1) (Nat.le_of_ble_eq_true rfl)
  rw [lg_entry_eq]
  generalize (lg_sl ([.ref (X.1 0)]) ++ List.replicate (1 - (lg_sl ([.ref (X.1 0)])).length) Slot.unset).toArray = ls at hl ⊢
  have hl : lv_has ls 1 [(0, .ref (X.1 0))] := hl
  obtain ⟨H, hH⟩ : ∃ H : Heap, H = s.heap := ⟨_, rfl⟩
  obtain ⟨locs, hlc⟩ : ∃ q : List Loc, q = [] := ⟨_, rfl⟩
  have hS : va_S (AX 18 X.1 s.heap.size) s.heap H locs := by rw [hH, hlc]; exact hS
  have hP : va_P D vwCl (RW X S) H := by rw [hH]; exact hP
  show W p l e (headSpec (Cond.code yX7_year cX7_year 1 (some .int) :: lw_gd) rm_X7_year).room s m ([.ref (X.1 0)] : List Value).toArray below meth c s.heap [] 0 0 (MQ below (va_Qi post (gB D (RW X)) (AX 18 X.1 s.heap.size)) ([.ref (X.1 0)] : List Value).toArray s 0 0 (AX 18 X.1 s.heap.size)) _
  suffices hgo : W p l e (headSpec (Cond.code yX7_year cX7_year 1 (some .int) :: lw_gd) rm_X7_year).room s m ([.ref (X.1 0)] : List Value).toArray below meth c H locs 0 0 (MQ below (va_Qi post (gB D (RW X)) (AX 18 X.1 s.heap.size)) ([.ref (X.1 0)] : List Value).toArray s 0 0 (AX 18 X.1 s.heap.size)) (F0 m 0 ls []) from by rw [hH, hlc] at hgo; exact hgo
  unfold p_X7_year at h
  refine lv_aload_n hx hb dX7_year_0 rfl (lv_at hl 0 rfl) ?_
  refine lv_iconst (v := 0) hx hb dX7_year_1 (by decide) ?_
  refine va_put (D := D) (ci := 7) (v := .int 0) (ty := .int) (C := RX7) (T := TX7) (N := 28) hx hb hT inX7 tyX7 tyX7_ok nmX7 hown hK hP (gw_D hX) hS 0 rw_Model rfl 0 (by decide) (hT _ wf_X7_68) (fun _ h9 => h9) rfl (by decide +kernel) rfl rfl (Nat.le_of_ble_eq_true rfl) dX7_year_2 (fun H locs hP _ hS => ?_)
  have hP := rw_st (j := 0) (x := 0) rfl hP
  obtain ⟨S_1, eS_1⟩ : ∃ z : CS, z = sti S 0 0 0 := ⟨_, rfl⟩
  rw [← eS_1] at hP
  have h := h S_1 eS_1
  refine lv_aload_n hx hb dX7_year_5 rfl (lv_at hl 0 rfl) ?_
  refine va_get (D := D) (ci := 7) (v := .ref (X.1 8)) (C := RX7) (T := TX7) (N := 28) hx hb hT inX7 hown hK hP 0 rw_Model rfl 16 (by decide) (hT _ wf_X7_31) (fun _ h9 => h9) rfl dX7_year_6 ?_
  refine lv_iconst (v := 1) hx hb dX7_year_9 (by decide) ?_
  refine g_iald hx hb hK hP 8 rw_8 rfl (vpc (by decide)) 1 rfl dX7_year_10 ?_
  refine lv_sipush (v := 999) hx hb dX7_year_11 (by decide) ?_
  refine lv_icmp_ne (tgt := 20) hx hb dX7_year_14 (by decide) (fun c_2 => ?_) (fun c_2 => ?_)
  · have h := h.2 c_2
    refine lv_aload_n hx hb dX7_year_20 rfl (lv_at hl 0 rfl) ?_
    refine rVv (As := []) (rest := []) hX ⟨hx, hb, hml, hown, hT⟩ (c_X7_notes l D X hX H.size S_1  _ h) (gd_V wl_X7_152 wi_X7_notes wv_X7_notes wn_X7 wc_X7_notes) rfl hd_X7_notes ⟨rfl, rfl⟩ ⟨Nat.le_of_ble_eq_true rfl, Nat.le_of_ble_eq_true rfl⟩ (va_recv hK hP (ci := 7) (q0 := 0) rfl rw_Model) hK hP hS hF rfl hl.1 rfl (Nat.le_of_ble_eq_true rfl) dX7_year_21 ⟨Nat.zero_le _, Nat.zero_le _⟩ (fun S_3 H locs h hP hS => ?_)
    refine lv_aload_n hx hb dX7_year_24 rfl (lv_at hl 0 rfl) ?_
    refine lv_aload_n hx hb dX7_year_25 rfl (lv_at hl 0 rfl) ?_
    refine va_get (D := D) (ci := 7) (v := .ref (X.1 8)) (C := RX7) (T := TX7) (N := 28) hx hb hT inX7 hown hK hP 0 rw_Model rfl 16 (by decide) (hT _ wf_X7_31) (fun _ h9 => h9) rfl dX7_year_26 ?_
    refine rVv (As := [.ref (X.1 8)]) (rest := []) hX ⟨hx, hb, hml, hown, hT⟩ (c_X7_grows l D X hX H.size S_3 8 (by decide) _ h) (gd_V wl_X7_158 wi_X7_grows wv_X7_grows wn_X7 wc_X7_grows) rfl hd_X7_grows ⟨rfl, rfl⟩ ⟨Nat.le_of_ble_eq_true rfl, Nat.le_of_ble_eq_true rfl⟩ (va_recv hK hP (ci := 7) (q0 := 0) rfl rw_Model) hK hP hS hF rfl hl.1 rfl (Nat.le_of_ble_eq_true rfl) dX7_year_29 ⟨Nat.zero_le _, Nat.zero_le _⟩ (fun S_5 H locs h hP hS => ?_)
    refine lv_aload_n hx hb dX7_year_32 rfl (lv_at hl 0 rfl) ?_
    refine va_get (D := D) (ci := 7) (v := .ref (X.1 8)) (C := RX7) (T := TX7) (N := 28) hx hb hT inX7 hown hK hP 0 rw_Model rfl 16 (by decide) (hT _ wf_X7_31) (fun _ h9 => h9) rfl dX7_year_33 ?_
    refine lv_iconst (v := 1) hx hb dX7_year_36 (by decide) ?_
    refine g_iald hx hb hK hP 8 rw_8 rfl (vpc (by decide)) 1 rfl dX7_year_37 ?_
    exact W.iret (v := S_5.1 8 1) hx hb hr (fun t ht hW => ⟨⟨S_5.1 8 1, S_5, rfl, h, gB_of ht hP⟩, hS.F ht⟩) hS.2.2 dX7_year_38
  · have h := h.1 c_2
    refine lv_bipush (v := (-2)) hx hb dX7_year_17 (by decide) ?_
    exact W.iret (v := (-2)) hx hb hr (fun t ht hW => ⟨⟨(-2), S_1, rfl, h, gB_of ht hP⟩, hS.F ht⟩) hS.2.2 dX7_year_19

abbrev rm_X7_days : Room := { frames := 0, cells := 0, slots := 0, locals := 0 }
def p_X7_days (S : CS) (x1 : Int32) (post : Int32 → CS → Prop) : Prop := (¬ (S.1 2 4) = 0) ∧ (post (((x1 + (S.1 2 4)) - 1) / (S.1 2 4)) S)
set_option maxHeartbeats 4000000 in
set_option maxRecDepth 100000 in
theorem c_X7_days (l : Launch) (D : va_G) (X : XE) (hX : Inj 18 X.1) (sz : Nat) (S : CS) (x1 : Int32) (post : Int32 → CS → Prop) (h : p_X7_days S x1 post) : Met l yX7_days (Cond.code yX7_days cX7_days 2 (some .int) :: lw_gd) rm_X7_days (gPc D (tyX X) (RW X) (FXr X) (AX 18 X.1 sz) sz S [.ref (X.1 0), .int x1]) (va_Qi post (gB D (RW X)) (AX 18 X.1 sz)) 0 0 (AX 18 X.1 sz) := by
  refine Met.ofW (cc := cX7_days) (maxL := 2) (ret := (some .int)) (by decide) rfl ?_
  intro p e s m args below meth c s₁ B hml hv
  obtain ⟨rfl, hsz, hP, hK, hF⟩ := hv
  have hx := B.exec
  have hb := B.bytes
  have hr := B.returns
  have hts := atoms_spec (ws := (Cond.code yX7_days cX7_days 2 (some .int) :: lw_gd)) B.pre
  have hT : ∀ w ∈ lw_gd, w.before _ s = true := fun w h9 => hts w (List.mem_cons_of_mem _ h9)
  have hown : s.vm.findClass RX7 = some m.cls := findClass_of_methodNamed B.named
  have hlocks := B.notSynchronized
  subst hsz
  have hS : va_S (AX 18 X.1 s.heap.size) s.heap s.heap [] := va_S.rf
  have hl := lv_entry ([.ref (X.1 0), .int x1]) (n := 2) (Nat.le_of_ble_eq_true rfl)
  rw [lg_entry_eq]
  generalize (lg_sl ([.ref (X.1 0), .int x1]) ++ List.replicate (2 - (lg_sl ([.ref (X.1 0), .int x1])).length) Slot.unset).toArray = ls at hl ⊢
  have hl : lv_has ls 2 [(0, .ref (X.1 0)), (1, .int x1)] := hl
  obtain ⟨H, hH⟩ : ∃ H : Heap, H = s.heap := ⟨_, rfl⟩
  obtain ⟨locs, hlc⟩ : ∃ q : List Loc, q = [] := ⟨_, rfl⟩
  have hS : va_S (AX 18 X.1 s.heap.size) s.heap H locs := by rw [hH, hlc]; exact hS
  have hP : va_P D vwCl (RW X S) H := by rw [hH]; exact hP
  show W p l e (headSpec (Cond.code yX7_days cX7_days 2 (some .int) :: lw_gd) rm_X7_days).room s m ([.ref (X.1 0), .int x1] : List Value).toArray below meth c s.heap [] 0 0 (MQ below (va_Qi post (gB D (RW X)) (AX 18 X.1 s.heap.size)) ([.ref (X.1 0), .int x1] : List Value).toArray s 0 0 (AX 18 X.1 s.heap.size)) _
  suffices hgo : W p l e (headSpec (Cond.code yX7_days cX7_days 2 (some .int) :: lw_gd) rm_X7_days).room s m ([.ref (X.1 0), .int x1] : List Value).toArray below meth c H locs 0 0 (MQ below (va_Qi post (gB D (RW X)) (AX 18 X.1 s.heap.size)) ([.ref (X.1 0), .int x1] : List Value).toArray s 0 0 (AX 18 X.1 s.heap.size)) (F0 m 0 ls []) from by rw [hH, hlc] at hgo; exact hgo
  unfold p_X7_days at h
  refine lv_iload_n hx hb dX7_days_0 rfl (lv_at hl 1 rfl) ?_
  refine lv_aload_n hx hb dX7_days_1 rfl (lv_at hl 0 rfl) ?_
  refine va_get (D := D) (ci := 7) (v := .ref (X.1 2)) (C := RX7) (T := TX7) (N := 28) hx hb hT inX7 hown hK hP 0 rw_Model rfl 9 (by decide) (hT _ wf_X7_13) (fun _ h9 => h9) rfl dX7_days_2 ?_
  refine lv_iconst (v := 4) hx hb dX7_days_5 (by decide) ?_
  refine g_iald hx hb hK hP 2 rw_2 rfl (vpc (by decide)) 4 rfl dX7_days_6 ?_
  refine lv_iadd hx hb dX7_days_7 ?_
  refine lv_iconst (v := 1) hx hb dX7_days_8 (by decide) ?_
  refine lv_isub hx hb dX7_days_9 ?_
  refine lv_aload_n hx hb dX7_days_10 rfl (lv_at hl 0 rfl) ?_
  refine va_get (D := D) (ci := 7) (v := .ref (X.1 2)) (C := RX7) (T := TX7) (N := 28) hx hb hT inX7 hown hK hP 0 rw_Model rfl 9 (by decide) (hT _ wf_X7_13) (fun _ h9 => h9) rfl dX7_days_11 ?_
  refine lv_iconst (v := 4) hx hb dX7_days_14 (by decide) ?_
  refine g_iald hx hb hK hP 2 rw_2 rfl (vpc (by decide)) 4 rfl dX7_days_15 ?_
  obtain ⟨hne, h⟩ := h
  refine lv_idiv hx hb dX7_days_16 hne ?_
  exact W.iret (v := (((x1 + (S.1 2 4)) - 1) / (S.1 2 4))) hx hb hr (fun t ht hW => ⟨⟨(((x1 + (S.1 2 4)) - 1) / (S.1 2 4)), S, rfl, h, gB_of ht hP⟩, hS.F ht⟩) hS.2.2 dX7_days_17

abbrev rm_X7_binds : Room := { frames := 1, cells := 0, slots := 0, locals := 22 }
def p_X7_binds (S : CS) (x1 : Int32) (post : Int32 → CS → Prop) : Prop := ∀ S_1 : CS, S_1 = sti S 0 0 0 → (p_X7_in S_1 x1 1 99 (fun r_3 S_2 => ((r_3 = 0 → (post (-1) S_2)) ∧ (¬ (r_3 = 0) → (((S_2.1 8 2) < (x1 * (S_2.1 2 3)) → (post (-2) S_2)) ∧ (¬ ((S_2.1 8 2) < (x1 * (S_2.1 2 3))) → (p_X7_days S_2 x1 (fun r_7 S_6 => ((((S_2.1 8 0) + r_7) ≤ 9999 → (p_X7_notes S_6  (fun S_9 => (∀ u_11 : Int32, u_11 = ((S_9.1 8 2) - (x1 * (S_9.1 2 3))) → (∀ S_12 : CS, S_12 = sti S_9 8 2 u_11 → (∀ u_13 : Int32, u_13 = ((S_12.1 8 3) + x1) → (∀ S_14 : CS, S_14 = sti S_12 8 3 u_13 → (p_X7_days S_14 x1 (fun r_16 S_15 => (∀ u_17 : Int32, u_17 = ((S_14.1 8 0) + r_16) → (∀ S_18 : CS, S_18 = sti S_15 8 0 u_17 → (post (S_18.1 8 0) S_18)))))))))))) ∧ (¬ (((S_2.1 8 0) + r_7) ≤ 9999) → (post (-2) S_6)))))))))))
set_option maxHeartbeats 4000000 in
set_option maxRecDepth 100000 in
theorem c_X7_binds (l : Launch) (D : va_G) (X : XE) (hX : Inj 18 X.1) (sz : Nat) (S : CS) (x1 : Int32) (post : Int32 → CS → Prop) (h : p_X7_binds S x1 post) : Met l yX7_binds (Cond.code yX7_binds cX7_binds 2 (some .int) :: lw_gd) rm_X7_binds (gPc D (tyX X) (RW X) (FXr X) (AX 18 X.1 sz) sz S [.ref (X.1 0), .int x1]) (va_Qi post (gB D (RW X)) (AX 18 X.1 sz)) 0 0 (AX 18 X.1 sz) := by
  refine Met.ofW (cc := cX7_binds) (maxL := 2) (ret := (some .int)) (by decide) rfl ?_
  intro p e s m args below meth c s₁ B hml hv
  obtain ⟨rfl, hsz, hP, hK, hF⟩ := hv
  have hx := B.exec
  have hb := B.bytes
  have hr := B.returns
  have hts := atoms_spec (ws := (Cond.code yX7_binds cX7_binds 2 (some .int) :: lw_gd)) B.pre
  have hT : ∀ w ∈ lw_gd, w.before _ s = true := fun w h9 => hts w (List.mem_cons_of_mem _ h9)
  have hown : s.vm.findClass RX7 = some m.cls := findClass_of_methodNamed B.named
  have hlocks := B.notSynchronized
  subst hsz
  have hS : va_S (AX 18 X.1 s.heap.size) s.heap s.heap [] := va_S.rf
  have hl := lv_entry ([.ref (X.1 0), .int x1]) (n := 2) (Nat.le_of_ble_eq_true rfl)
  rw [lg_entry_eq]
  generalize (lg_sl ([.ref (X.1 0), .int x1]) ++ List.replicate (2 - (lg_sl ([.ref (X.1 0), .int x1])).length) Slot.unset).toArray = ls at hl ⊢
  have hl : lv_has ls 2 [(0, .ref (X.1 0)), (1, .int x1)] := hl
  obtain ⟨H, hH⟩ : ∃ H : Heap, H = s.heap := ⟨_, rfl⟩
  obtain ⟨locs, hlc⟩ : ∃ q : List Loc, q = [] := ⟨_, rfl⟩
  have hS : va_S (AX 18 X.1 s.heap.size) s.heap H locs := by rw [hH, hlc]; exact hS
  have hP : va_P D vwCl (RW X S) H := by rw [hH]; exact hP
  show W p l e (headSpec (Cond.code yX7_binds cX7_binds 2 (some .int) :: lw_gd) rm_X7_binds).room s m ([.ref (X.1 0), .int x1] : List Value).toArray below meth c s.heap [] 0 0 (MQ below (va_Qi post (gB D (RW X)) (AX 18 X.1 s.heap.size)) ([.ref (X.1 0), .int x1] : List Value).toArray s 0 0 (AX 18 X.1 s.heap.size)) _
  suffices hgo : W p l e (headSpec (Cond.code yX7_binds cX7_binds 2 (some .int) :: lw_gd) rm_X7_binds).room s m ([.ref (X.1 0), .int x1] : List Value).toArray below meth c H locs 0 0 (MQ below (va_Qi post (gB D (RW X)) (AX 18 X.1 s.heap.size)) ([.ref (X.1 0), .int x1] : List Value).toArray s 0 0 (AX 18 X.1 s.heap.size)) (F0 m 0 ls []) from by rw [hH, hlc] at hgo; exact hgo
  unfold p_X7_binds at h
  refine lv_aload_n hx hb dX7_binds_0 rfl (lv_at hl 0 rfl) ?_
  refine lv_iconst (v := 0) hx hb dX7_binds_1 (by decide) ?_
  refine va_put (D := D) (ci := 7) (v := .int 0) (ty := .int) (C := RX7) (T := TX7) (N := 28) hx hb hT inX7 tyX7 tyX7_ok nmX7 hown hK hP (gw_D hX) hS 0 rw_Model rfl 0 (by decide) (hT _ wf_X7_68) (fun _ h9 => h9) rfl (by decide +kernel) rfl rfl (Nat.le_of_ble_eq_true rfl) dX7_binds_2 (fun H locs hP _ hS => ?_)
  have hP := rw_st (j := 0) (x := 0) rfl hP
  obtain ⟨S_1, eS_1⟩ : ∃ z : CS, z = sti S 0 0 0 := ⟨_, rfl⟩
  rw [← eS_1] at hP
  have h := h S_1 eS_1
  refine lv_iload_n hx hb dX7_binds_5 rfl (lv_at hl 1 rfl) ?_
  refine lv_iconst (v := 1) hx hb dX7_binds_6 (by decide) ?_
  refine lv_bipush (v := 99) hx hb dX7_binds_7 (by decide) ?_
  refine rSi (As := [.int x1, .int 1, .int 99]) (rest := []) hX ⟨hx, hb, hml, hown, hT⟩ (c_X7_in l D X hX H.size S_1 x1 1 99 _ h) (gd_S wl_X7_72 wt_X7_in wn_X7 wc_X7_in) hd_X7_in ⟨rfl, rfl⟩ ⟨Nat.le_of_ble_eq_true rfl, Nat.le_of_ble_eq_true rfl⟩ hK hP hS hF rfl hl.1 rfl (Nat.le_of_ble_eq_true rfl) dX7_binds_9 ⟨Nat.zero_le _, Nat.zero_le _⟩ (fun r_3 S_2 H locs h hP hS => ?_)
  refine lv_if_ne (tgt := 17) hx hb dX7_binds_12 (by decide) (fun c_4 => ?_) (fun c_4 => ?_)
  · have h := h.2 c_4
    refine lv_iload_n hx hb dX7_binds_17 rfl (lv_at hl 1 rfl) ?_
    refine lv_aload_n hx hb dX7_binds_18 rfl (lv_at hl 0 rfl) ?_
    refine va_get (D := D) (ci := 7) (v := .ref (X.1 2)) (C := RX7) (T := TX7) (N := 28) hx hb hT inX7 hown hK hP 0 rw_Model rfl 9 (by decide) (hT _ wf_X7_13) (fun _ h9 => h9) rfl dX7_binds_19 ?_
    refine lv_iconst (v := 3) hx hb dX7_binds_22 (by decide) ?_
    refine g_iald hx hb hK hP 2 rw_2 rfl (vpc (by decide)) 3 rfl dX7_binds_23 ?_
    refine lv_imul hx hb dX7_binds_24 ?_
    refine lv_aload_n hx hb dX7_binds_25 rfl (lv_at hl 0 rfl) ?_
    refine va_get (D := D) (ci := 7) (v := .ref (X.1 8)) (C := RX7) (T := TX7) (N := 28) hx hb hT inX7 hown hK hP 0 rw_Model rfl 16 (by decide) (hT _ wf_X7_31) (fun _ h9 => h9) rfl dX7_binds_26 ?_
    refine lv_iconst (v := 2) hx hb dX7_binds_29 (by decide) ?_
    refine g_iald hx hb hK hP 8 rw_8 rfl (vpc (by decide)) 2 rfl dX7_binds_30 ?_
    refine lv_icmp_gt (tgt := 52) hx hb dX7_binds_31 (by decide) (fun c_5 => ?_) (fun c_5 => ?_)
    · have h := h.1 c_5
      refine lv_bipush (v := (-2)) hx hb dX7_binds_52 (by decide) ?_
      exact W.iret (v := (-2)) hx hb hr (fun t ht hW => ⟨⟨(-2), S_2, rfl, h, gB_of ht hP⟩, hS.F ht⟩) hS.2.2 dX7_binds_54
    · have h := h.2 c_5
      refine lv_aload_n hx hb dX7_binds_34 rfl (lv_at hl 0 rfl) ?_
      refine va_get (D := D) (ci := 7) (v := .ref (X.1 8)) (C := RX7) (T := TX7) (N := 28) hx hb hT inX7 hown hK hP 0 rw_Model rfl 16 (by decide) (hT _ wf_X7_31) (fun _ h9 => h9) rfl dX7_binds_35 ?_
      refine lv_iconst (v := 0) hx hb dX7_binds_38 (by decide) ?_
      refine g_iald hx hb hK hP 8 rw_8 rfl (vpc (by decide)) 0 rfl dX7_binds_39 ?_
      refine lv_aload_n hx hb dX7_binds_40 rfl (lv_at hl 0 rfl) ?_
      refine lv_iload_n hx hb dX7_binds_41 rfl (lv_at hl 1 rfl) ?_
      refine rVi (As := [.int x1]) (rest := [.int (S_2.1 8 0)]) hX ⟨hx, hb, hml, hown, hT⟩ (c_X7_days l D X hX H.size S_2 x1 _ h) (gd_V wl_X7_162 wi_X7_days wv_X7_days wn_X7 wc_X7_days) rfl hd_X7_days ⟨rfl, rfl⟩ ⟨Nat.le_of_ble_eq_true rfl, Nat.le_of_ble_eq_true rfl⟩ (va_recv hK hP (ci := 7) (q0 := 0) rfl rw_Model) hK hP hS hF rfl hl.1 rfl (Nat.le_of_ble_eq_true rfl) dX7_binds_42 ⟨Nat.zero_le _, Nat.zero_le _⟩ (fun r_7 S_6 H locs h hP hS => ?_)
      refine lv_iadd hx hb dX7_binds_45 ?_
      refine lv_sipush (v := 9999) hx hb dX7_binds_46 (by decide) ?_
      refine lv_icmp_le (tgt := 55) hx hb dX7_binds_49 (by decide) (fun c_8 => ?_) (fun c_8 => ?_)
      · have h := h.1 c_8
        refine lv_aload_n hx hb dX7_binds_55 rfl (lv_at hl 0 rfl) ?_
        refine rVv (As := []) (rest := []) hX ⟨hx, hb, hml, hown, hT⟩ (c_X7_notes l D X hX H.size S_6  _ h) (gd_V wl_X7_152 wi_X7_notes wv_X7_notes wn_X7 wc_X7_notes) rfl hd_X7_notes ⟨rfl, rfl⟩ ⟨Nat.le_of_ble_eq_true rfl, Nat.le_of_ble_eq_true rfl⟩ (va_recv hK hP (ci := 7) (q0 := 0) rfl rw_Model) hK hP hS hF rfl hl.1 rfl (Nat.le_of_ble_eq_true rfl) dX7_binds_56 ⟨Nat.zero_le _, Nat.zero_le _⟩ (fun S_9 H locs h hP hS => ?_)
        refine lv_aload_n hx hb dX7_binds_59 rfl (lv_at hl 0 rfl) ?_
        refine va_get (D := D) (ci := 7) (v := .ref (X.1 8)) (C := RX7) (T := TX7) (N := 28) hx hb hT inX7 hown hK hP 0 rw_Model rfl 16 (by decide) (hT _ wf_X7_31) (fun _ h9 => h9) rfl dX7_binds_60 ?_
        refine lv_iconst (v := 2) hx hb dX7_binds_63 (by decide) ?_
        refine lv_dup2_11 hx hb dX7_binds_64 rfl rfl ?_
        refine g_iald hx hb hK hP 8 rw_8 rfl (vpc (by decide)) 2 rfl dX7_binds_65 ?_
        refine lv_iload_n hx hb dX7_binds_66 rfl (lv_at hl 1 rfl) ?_
        refine lv_aload_n hx hb dX7_binds_67 rfl (lv_at hl 0 rfl) ?_
        refine va_get (D := D) (ci := 7) (v := .ref (X.1 2)) (C := RX7) (T := TX7) (N := 28) hx hb hT inX7 hown hK hP 0 rw_Model rfl 9 (by decide) (hT _ wf_X7_13) (fun _ h9 => h9) rfl dX7_binds_68 ?_
        refine lv_iconst (v := 3) hx hb dX7_binds_71 (by decide) ?_
        refine g_iald hx hb hK hP 2 rw_2 rfl (vpc (by decide)) 3 rfl dX7_binds_72 ?_
        refine lv_imul hx hb dX7_binds_73 ?_
        refine lv_isub hx hb dX7_binds_74 ?_
        refine lv_topi (fun u_11 eu_11 => ?_)
        have h := h u_11 eu_11
        refine g_iast hx hb hK hP (gw_D hX) hS 8 rw_8 rfl (vpc (by decide)) 2 rfl dX7_binds_75 (fun H locs hP hS => ?_)
        have hP := rw_st (j := 2) (x := u_11) rfl hP
        obtain ⟨S_12, eS_12⟩ : ∃ z : CS, z = sti S_9 8 2 u_11 := ⟨_, rfl⟩
        rw [← eS_12] at hP
        have h := h S_12 eS_12
        refine lv_aload_n hx hb dX7_binds_76 rfl (lv_at hl 0 rfl) ?_
        refine va_get (D := D) (ci := 7) (v := .ref (X.1 8)) (C := RX7) (T := TX7) (N := 28) hx hb hT inX7 hown hK hP 0 rw_Model rfl 16 (by decide) (hT _ wf_X7_31) (fun _ h9 => h9) rfl dX7_binds_77 ?_
        refine lv_iconst (v := 3) hx hb dX7_binds_80 (by decide) ?_
        refine lv_dup2_11 hx hb dX7_binds_81 rfl rfl ?_
        refine g_iald hx hb hK hP 8 rw_8 rfl (vpc (by decide)) 3 rfl dX7_binds_82 ?_
        refine lv_iload_n hx hb dX7_binds_83 rfl (lv_at hl 1 rfl) ?_
        refine lv_iadd hx hb dX7_binds_84 ?_
        refine lv_topi (fun u_13 eu_13 => ?_)
        have h := h u_13 eu_13
        refine g_iast hx hb hK hP (gw_D hX) hS 8 rw_8 rfl (vpc (by decide)) 3 rfl dX7_binds_85 (fun H locs hP hS => ?_)
        have hP := rw_st (j := 3) (x := u_13) rfl hP
        obtain ⟨S_14, eS_14⟩ : ∃ z : CS, z = sti S_12 8 3 u_13 := ⟨_, rfl⟩
        rw [← eS_14] at hP
        have h := h S_14 eS_14
        refine lv_aload_n hx hb dX7_binds_86 rfl (lv_at hl 0 rfl) ?_
        refine va_get (D := D) (ci := 7) (v := .ref (X.1 8)) (C := RX7) (T := TX7) (N := 28) hx hb hT inX7 hown hK hP 0 rw_Model rfl 16 (by decide) (hT _ wf_X7_31) (fun _ h9 => h9) rfl dX7_binds_87 ?_
        refine lv_iconst (v := 0) hx hb dX7_binds_90 (by decide) ?_
        refine lv_dup2_11 hx hb dX7_binds_91 rfl rfl ?_
        refine g_iald hx hb hK hP 8 rw_8 rfl (vpc (by decide)) 0 rfl dX7_binds_92 ?_
        refine lv_aload_n hx hb dX7_binds_93 rfl (lv_at hl 0 rfl) ?_
        refine lv_iload_n hx hb dX7_binds_94 rfl (lv_at hl 1 rfl) ?_
        refine rVi (As := [.int x1]) (rest := [.int (S_14.1 8 0), .int 0, .ref (X.1 8)]) hX ⟨hx, hb, hml, hown, hT⟩ (c_X7_days l D X hX H.size S_14 x1 _ h) (gd_V wl_X7_162 wi_X7_days wv_X7_days wn_X7 wc_X7_days) rfl hd_X7_days ⟨rfl, rfl⟩ ⟨Nat.le_of_ble_eq_true rfl, Nat.le_of_ble_eq_true rfl⟩ (va_recv hK hP (ci := 7) (q0 := 0) rfl rw_Model) hK hP hS hF rfl hl.1 rfl (Nat.le_of_ble_eq_true rfl) dX7_binds_95 ⟨Nat.zero_le _, Nat.zero_le _⟩ (fun r_16 S_15 H locs h hP hS => ?_)
        refine lv_iadd hx hb dX7_binds_98 ?_
        refine lv_topi (fun u_17 eu_17 => ?_)
        have h := h u_17 eu_17
        refine g_iast hx hb hK hP (gw_D hX) hS 8 rw_8 rfl (vpc (by decide)) 0 rfl dX7_binds_99 (fun H locs hP hS => ?_)
        have hP := rw_st (j := 0) (x := u_17) rfl hP
        obtain ⟨S_18, eS_18⟩ : ∃ z : CS, z = sti S_15 8 0 u_17 := ⟨_, rfl⟩
        rw [← eS_18] at hP
        have h := h S_18 eS_18
        refine lv_aload_n hx hb dX7_binds_100 rfl (lv_at hl 0 rfl) ?_
        refine va_get (D := D) (ci := 7) (v := .ref (X.1 8)) (C := RX7) (T := TX7) (N := 28) hx hb hT inX7 hown hK hP 0 rw_Model rfl 16 (by decide) (hT _ wf_X7_31) (fun _ h9 => h9) rfl dX7_binds_101 ?_
        refine lv_iconst (v := 0) hx hb dX7_binds_104 (by decide) ?_
        refine g_iald hx hb hK hP 8 rw_8 rfl (vpc (by decide)) 0 rfl dX7_binds_105 ?_
        exact W.iret (v := S_18.1 8 0) hx hb hr (fun t ht hW => ⟨⟨S_18.1 8 0, S_18, rfl, h, gB_of ht hP⟩, hS.F ht⟩) hS.2.2 dX7_binds_106
      · have h := h.2 c_8
        refine lv_bipush (v := (-2)) hx hb dX7_binds_52 (by decide) ?_
        exact W.iret (v := (-2)) hx hb hr (fun t ht hW => ⟨⟨(-2), S_6, rfl, h, gB_of ht hP⟩, hS.F ht⟩) hS.2.2 dX7_binds_54
  · have h := h.1 c_4
    refine lv_iconst (v := (-1)) hx hb dX7_binds_15 (by decide) ?_
    exact W.iret (v := (-1)) hx hb hr (fun t ht hW => ⟨⟨(-1), S_2, rfl, h, gB_of ht hP⟩, hS.F ht⟩) hS.2.2 dX7_binds_16

abbrev rm_X7_sends : Room := { frames := 2, cells := 0, slots := 0, locals := 43 }
def p_X7_sends (S : CS) (x1 : Int32) (post : Int32 → CS → Prop) : Prop := ∀ S_1 : CS, S_1 = sti S 0 0 0 → (p_X7_isOrder S_1 x1 (fun r_3 S_2 => ((r_3 = 0 → (post (-1) S_2)) ∧ (¬ (r_3 = 0) → (p_X7_isSent S_2 x1 (fun r_6 S_5 => ((r_6 = 0 → (vp_in x1 12 ∧ (((S_5.1 8 3) < (S_5.1 6 x1.toNatClampNeg) → (post (-2) S_5)) ∧ (¬ ((S_5.1 8 3) < (S_5.1 6 x1.toNatClampNeg)) → (vp_in x1 12 ∧ (((S_5.1 8 0) ≤ (S_5.1 5 x1.toNatClampNeg) → (p_X7_notes S_5  (fun S_10 => (vp_in x1 12 ∧ (∀ u_12 : Int32, u_12 = ((S_10.1 8 3) - (S_10.1 6 x1.toNatClampNeg)) → (∀ S_13 : CS, S_13 = sti S_10 8 3 u_12 → (vp_in x1 12 ∧ (∀ u_14 : Int32, u_14 = ((S_13.1 8 4) + (S_13.1 7 x1.toNatClampNeg)) → (∀ S_15 : CS, S_15 = sti S_13 8 4 u_14 → (∀ u_16 : Int32, u_16 = ((S_15.1 8 5) ||| (1 <<< (x1 &&& 31))) → (∀ S_17 : CS, S_17 = sti S_15 8 5 u_16 → (post (S_17.1 8 4) S_17)))))))))))) ∧ (¬ ((S_5.1 8 0) ≤ (S_5.1 5 x1.toNatClampNeg)) → (post (-2) S_5)))))))) ∧ (¬ (r_6 = 0) → (post (-2) S_5)))))))))
set_option maxHeartbeats 4000000 in
set_option maxRecDepth 100000 in
theorem c_X7_sends (l : Launch) (D : va_G) (X : XE) (hX : Inj 18 X.1) (sz : Nat) (S : CS) (x1 : Int32) (post : Int32 → CS → Prop) (h : p_X7_sends S x1 post) : Met l yX7_sends (Cond.code yX7_sends cX7_sends 2 (some .int) :: lw_gd) rm_X7_sends (gPc D (tyX X) (RW X) (FXr X) (AX 18 X.1 sz) sz S [.ref (X.1 0), .int x1]) (va_Qi post (gB D (RW X)) (AX 18 X.1 sz)) 0 0 (AX 18 X.1 sz) := by
  refine Met.ofW (cc := cX7_sends) (maxL := 2) (ret := (some .int)) (by decide) rfl ?_
  intro p e s m args below meth c s₁ B hml hv
  obtain ⟨rfl, hsz, hP, hK, hF⟩ := hv
  have hx := B.exec
  have hb := B.bytes
  have hr := B.returns
  have hts := atoms_spec (ws := (Cond.code yX7_sends cX7_sends 2 (some .int) :: lw_gd)) B.pre
  have hT : ∀ w ∈ lw_gd, w.before _ s = true := fun w h9 => hts w (List.mem_cons_of_mem _ h9)
  have hown : s.vm.findClass RX7 = some m.cls := findClass_of_methodNamed B.named
  have hlocks := B.notSynchronized
  subst hsz
  have hS : va_S (AX 18 X.1 s.heap.size) s.heap s.heap [] := va_S.rf
  have hl := lv_entry ([.ref (X.1 0), .int x1]) (n := 2) (Nat.le_of_ble_eq_true rfl)
  rw [lg_entry_eq]
  generalize (lg_sl ([.ref (X.1 0), .int x1]) ++ List.replicate (2 - (lg_sl ([.ref (X.1 0), .int x1])).length) Slot.unset).toArray = ls at hl ⊢
  have hl : lv_has ls 2 [(0, .ref (X.1 0)), (1, .int x1)] := hl
  obtain ⟨H, hH⟩ : ∃ H : Heap, H = s.heap := ⟨_, rfl⟩
  obtain ⟨locs, hlc⟩ : ∃ q : List Loc, q = [] := ⟨_, rfl⟩
  have hS : va_S (AX 18 X.1 s.heap.size) s.heap H locs := by rw [hH, hlc]; exact hS
  have hP : va_P D vwCl (RW X S) H := by rw [hH]; exact hP
  show W p l e (headSpec (Cond.code yX7_sends cX7_sends 2 (some .int) :: lw_gd) rm_X7_sends).room s m ([.ref (X.1 0), .int x1] : List Value).toArray below meth c s.heap [] 0 0 (MQ below (va_Qi post (gB D (RW X)) (AX 18 X.1 s.heap.size)) ([.ref (X.1 0), .int x1] : List Value).toArray s 0 0 (AX 18 X.1 s.heap.size)) _
  suffices hgo : W p l e (headSpec (Cond.code yX7_sends cX7_sends 2 (some .int) :: lw_gd) rm_X7_sends).room s m ([.ref (X.1 0), .int x1] : List Value).toArray below meth c H locs 0 0 (MQ below (va_Qi post (gB D (RW X)) (AX 18 X.1 s.heap.size)) ([.ref (X.1 0), .int x1] : List Value).toArray s 0 0 (AX 18 X.1 s.heap.size)) (F0 m 0 ls []) from by rw [hH, hlc] at hgo; exact hgo
  unfold p_X7_sends at h
  refine lv_aload_n hx hb dX7_sends_0 rfl (lv_at hl 0 rfl) ?_
  refine lv_iconst (v := 0) hx hb dX7_sends_1 (by decide) ?_
  refine va_put (D := D) (ci := 7) (v := .int 0) (ty := .int) (C := RX7) (T := TX7) (N := 28) hx hb hT inX7 tyX7 tyX7_ok nmX7 hown hK hP (gw_D hX) hS 0 rw_Model rfl 0 (by decide) (hT _ wf_X7_68) (fun _ h9 => h9) rfl (by decide +kernel) rfl rfl (Nat.le_of_ble_eq_true rfl) dX7_sends_2 (fun H locs hP _ hS => ?_)
  have hP := rw_st (j := 0) (x := 0) rfl hP
  obtain ⟨S_1, eS_1⟩ : ∃ z : CS, z = sti S 0 0 0 := ⟨_, rfl⟩
  rw [← eS_1] at hP
  have h := h S_1 eS_1
  refine lv_aload_n hx hb dX7_sends_5 rfl (lv_at hl 0 rfl) ?_
  refine lv_iload_n hx hb dX7_sends_6 rfl (lv_at hl 1 rfl) ?_
  refine rVi (As := [.int x1]) (rest := []) hX ⟨hx, hb, hml, hown, hT⟩ (c_X7_isOrder l D X hX H.size S_1 x1 _ h) (gd_V wl_X7_146 wi_X7_isOrder wv_X7_isOrder wn_X7 wc_X7_isOrder) rfl hd_X7_isOrder ⟨rfl, rfl⟩ ⟨Nat.le_of_ble_eq_true rfl, Nat.le_of_ble_eq_true rfl⟩ (va_recv hK hP (ci := 7) (q0 := 0) rfl rw_Model) hK hP hS hF rfl hl.1 rfl (Nat.le_of_ble_eq_true rfl) dX7_sends_7 ⟨Nat.zero_le _, Nat.zero_le _⟩ (fun r_3 S_2 H locs h hP hS => ?_)
  refine lv_if_ne (tgt := 15) hx hb dX7_sends_10 (by decide) (fun c_4 => ?_) (fun c_4 => ?_)
  · have h := h.2 c_4
    refine lv_aload_n hx hb dX7_sends_15 rfl (lv_at hl 0 rfl) ?_
    refine lv_iload_n hx hb dX7_sends_16 rfl (lv_at hl 1 rfl) ?_
    refine rVi (As := [.int x1]) (rest := []) hX ⟨hx, hb, hml, hown, hT⟩ (c_X7_isSent l D X hX H.size S_2 x1 _ h) (gd_V wl_X7_149 wi_X7_isSent wv_X7_isSent wn_X7 wc_X7_isSent) rfl hd_X7_isSent ⟨rfl, rfl⟩ ⟨Nat.le_of_ble_eq_true rfl, Nat.le_of_ble_eq_true rfl⟩ (va_recv hK hP (ci := 7) (q0 := 0) rfl rw_Model) hK hP hS hF rfl hl.1 rfl (Nat.le_of_ble_eq_true rfl) dX7_sends_17 ⟨Nat.zero_le _, Nat.zero_le _⟩ (fun r_6 S_5 H locs h hP hS => ?_)
    refine lv_if_ne (tgt := 53) hx hb dX7_sends_20 (by decide) (fun c_7 => ?_) (fun c_7 => ?_)
    · have h := h.2 c_7
      refine lv_bipush (v := (-2)) hx hb dX7_sends_53 (by decide) ?_
      exact W.iret (v := (-2)) hx hb hr (fun t ht hW => ⟨⟨(-2), S_5, rfl, h, gB_of ht hP⟩, hS.F ht⟩) hS.2.2 dX7_sends_55
    · have h := h.1 c_7
      refine lv_aload_n hx hb dX7_sends_23 rfl (lv_at hl 0 rfl) ?_
      refine va_get (D := D) (ci := 7) (v := .ref (X.1 8)) (C := RX7) (T := TX7) (N := 28) hx hb hT inX7 hown hK hP 0 rw_Model rfl 16 (by decide) (hT _ wf_X7_31) (fun _ h9 => h9) rfl dX7_sends_24 ?_
      refine lv_iconst (v := 3) hx hb dX7_sends_27 (by decide) ?_
      refine g_iald hx hb hK hP 8 rw_8 rfl (vpc (by decide)) 3 rfl dX7_sends_28 ?_
      refine lv_aload_n hx hb dX7_sends_29 rfl (lv_at hl 0 rfl) ?_
      refine va_get (D := D) (ci := 7) (v := .ref (X.1 6)) (C := RX7) (T := TX7) (N := 28) hx hb hT inX7 hown hK hP 0 rw_Model rfl 14 (by decide) (hT _ wf_X7_25) (fun _ h9 => h9) rfl dX7_sends_30 ?_
      refine lv_iload_n hx hb dX7_sends_33 rfl (lv_at hl 1 rfl) ?_
      obtain ⟨hi, h⟩ := h
      refine g_iald hx hb hK hP 6 rw_6 rfl hi x1.toNatClampNeg rfl dX7_sends_34 ?_
      refine lv_icmp_lt (tgt := 53) hx hb dX7_sends_35 (by decide) (fun c_8 => ?_) (fun c_8 => ?_)
      · have h := h.1 c_8
        refine lv_bipush (v := (-2)) hx hb dX7_sends_53 (by decide) ?_
        exact W.iret (v := (-2)) hx hb hr (fun t ht hW => ⟨⟨(-2), S_5, rfl, h, gB_of ht hP⟩, hS.F ht⟩) hS.2.2 dX7_sends_55
      · have h := h.2 c_8
        refine lv_aload_n hx hb dX7_sends_38 rfl (lv_at hl 0 rfl) ?_
        refine va_get (D := D) (ci := 7) (v := .ref (X.1 8)) (C := RX7) (T := TX7) (N := 28) hx hb hT inX7 hown hK hP 0 rw_Model rfl 16 (by decide) (hT _ wf_X7_31) (fun _ h9 => h9) rfl dX7_sends_39 ?_
        refine lv_iconst (v := 0) hx hb dX7_sends_42 (by decide) ?_
        refine g_iald hx hb hK hP 8 rw_8 rfl (vpc (by decide)) 0 rfl dX7_sends_43 ?_
        refine lv_aload_n hx hb dX7_sends_44 rfl (lv_at hl 0 rfl) ?_
        refine va_get (D := D) (ci := 7) (v := .ref (X.1 5)) (C := RX7) (T := TX7) (N := 28) hx hb hT inX7 hown hK hP 0 rw_Model rfl 13 (by decide) (hT _ wf_X7_22) (fun _ h9 => h9) rfl dX7_sends_45 ?_
        refine lv_iload_n hx hb dX7_sends_48 rfl (lv_at hl 1 rfl) ?_
        obtain ⟨hi, h⟩ := h
        refine g_iald hx hb hK hP 5 rw_5 rfl hi x1.toNatClampNeg rfl dX7_sends_49 ?_
        refine lv_icmp_le (tgt := 56) hx hb dX7_sends_50 (by decide) (fun c_9 => ?_) (fun c_9 => ?_)
        · have h := h.1 c_9
          refine lv_aload_n hx hb dX7_sends_56 rfl (lv_at hl 0 rfl) ?_
          refine rVv (As := []) (rest := []) hX ⟨hx, hb, hml, hown, hT⟩ (c_X7_notes l D X hX H.size S_5  _ h) (gd_V wl_X7_152 wi_X7_notes wv_X7_notes wn_X7 wc_X7_notes) rfl hd_X7_notes ⟨rfl, rfl⟩ ⟨Nat.le_of_ble_eq_true rfl, Nat.le_of_ble_eq_true rfl⟩ (va_recv hK hP (ci := 7) (q0 := 0) rfl rw_Model) hK hP hS hF rfl hl.1 rfl (Nat.le_of_ble_eq_true rfl) dX7_sends_57 ⟨Nat.zero_le _, Nat.zero_le _⟩ (fun S_10 H locs h hP hS => ?_)
          refine lv_aload_n hx hb dX7_sends_60 rfl (lv_at hl 0 rfl) ?_
          refine va_get (D := D) (ci := 7) (v := .ref (X.1 8)) (C := RX7) (T := TX7) (N := 28) hx hb hT inX7 hown hK hP 0 rw_Model rfl 16 (by decide) (hT _ wf_X7_31) (fun _ h9 => h9) rfl dX7_sends_61 ?_
          refine lv_iconst (v := 3) hx hb dX7_sends_64 (by decide) ?_
          refine lv_dup2_11 hx hb dX7_sends_65 rfl rfl ?_
          refine g_iald hx hb hK hP 8 rw_8 rfl (vpc (by decide)) 3 rfl dX7_sends_66 ?_
          refine lv_aload_n hx hb dX7_sends_67 rfl (lv_at hl 0 rfl) ?_
          refine va_get (D := D) (ci := 7) (v := .ref (X.1 6)) (C := RX7) (T := TX7) (N := 28) hx hb hT inX7 hown hK hP 0 rw_Model rfl 14 (by decide) (hT _ wf_X7_25) (fun _ h9 => h9) rfl dX7_sends_68 ?_
          refine lv_iload_n hx hb dX7_sends_71 rfl (lv_at hl 1 rfl) ?_
          obtain ⟨hi, h⟩ := h
          refine g_iald hx hb hK hP 6 rw_6 rfl hi x1.toNatClampNeg rfl dX7_sends_72 ?_
          refine lv_isub hx hb dX7_sends_73 ?_
          refine lv_topi (fun u_12 eu_12 => ?_)
          have h := h u_12 eu_12
          refine g_iast hx hb hK hP (gw_D hX) hS 8 rw_8 rfl (vpc (by decide)) 3 rfl dX7_sends_74 (fun H locs hP hS => ?_)
          have hP := rw_st (j := 3) (x := u_12) rfl hP
          obtain ⟨S_13, eS_13⟩ : ∃ z : CS, z = sti S_10 8 3 u_12 := ⟨_, rfl⟩
          rw [← eS_13] at hP
          have h := h S_13 eS_13
          refine lv_aload_n hx hb dX7_sends_75 rfl (lv_at hl 0 rfl) ?_
          refine va_get (D := D) (ci := 7) (v := .ref (X.1 8)) (C := RX7) (T := TX7) (N := 28) hx hb hT inX7 hown hK hP 0 rw_Model rfl 16 (by decide) (hT _ wf_X7_31) (fun _ h9 => h9) rfl dX7_sends_76 ?_
          refine lv_iconst (v := 4) hx hb dX7_sends_79 (by decide) ?_
          refine lv_dup2_11 hx hb dX7_sends_80 rfl rfl ?_
          refine g_iald hx hb hK hP 8 rw_8 rfl (vpc (by decide)) 4 rfl dX7_sends_81 ?_
          refine lv_aload_n hx hb dX7_sends_82 rfl (lv_at hl 0 rfl) ?_
          refine va_get (D := D) (ci := 7) (v := .ref (X.1 7)) (C := RX7) (T := TX7) (N := 28) hx hb hT inX7 hown hK hP 0 rw_Model rfl 15 (by decide) (hT _ wf_X7_28) (fun _ h9 => h9) rfl dX7_sends_83 ?_
          refine lv_iload_n hx hb dX7_sends_86 rfl (lv_at hl 1 rfl) ?_
          obtain ⟨hi, h⟩ := h
          refine g_iald hx hb hK hP 7 rw_7 rfl hi x1.toNatClampNeg rfl dX7_sends_87 ?_
          refine lv_iadd hx hb dX7_sends_88 ?_
          refine lv_topi (fun u_14 eu_14 => ?_)
          have h := h u_14 eu_14
          refine g_iast hx hb hK hP (gw_D hX) hS 8 rw_8 rfl (vpc (by decide)) 4 rfl dX7_sends_89 (fun H locs hP hS => ?_)
          have hP := rw_st (j := 4) (x := u_14) rfl hP
          obtain ⟨S_15, eS_15⟩ : ∃ z : CS, z = sti S_13 8 4 u_14 := ⟨_, rfl⟩
          rw [← eS_15] at hP
          have h := h S_15 eS_15
          refine lv_aload_n hx hb dX7_sends_90 rfl (lv_at hl 0 rfl) ?_
          refine va_get (D := D) (ci := 7) (v := .ref (X.1 8)) (C := RX7) (T := TX7) (N := 28) hx hb hT inX7 hown hK hP 0 rw_Model rfl 16 (by decide) (hT _ wf_X7_31) (fun _ h9 => h9) rfl dX7_sends_91 ?_
          refine lv_iconst (v := 5) hx hb dX7_sends_94 (by decide) ?_
          refine lv_dup2_11 hx hb dX7_sends_95 rfl rfl ?_
          refine g_iald hx hb hK hP 8 rw_8 rfl (vpc (by decide)) 5 rfl dX7_sends_96 ?_
          refine lv_iconst (v := 1) hx hb dX7_sends_97 (by decide) ?_
          refine lv_iload_n hx hb dX7_sends_98 rfl (lv_at hl 1 rfl) ?_
          refine lv_ishl hx hb dX7_sends_99 ?_
          refine lv_ior hx hb dX7_sends_100 ?_
          refine lv_topi (fun u_16 eu_16 => ?_)
          have h := h u_16 eu_16
          refine g_iast hx hb hK hP (gw_D hX) hS 8 rw_8 rfl (vpc (by decide)) 5 rfl dX7_sends_101 (fun H locs hP hS => ?_)
          have hP := rw_st (j := 5) (x := u_16) rfl hP
          obtain ⟨S_17, eS_17⟩ : ∃ z : CS, z = sti S_15 8 5 u_16 := ⟨_, rfl⟩
          rw [← eS_17] at hP
          have h := h S_17 eS_17
          refine lv_aload_n hx hb dX7_sends_102 rfl (lv_at hl 0 rfl) ?_
          refine va_get (D := D) (ci := 7) (v := .ref (X.1 8)) (C := RX7) (T := TX7) (N := 28) hx hb hT inX7 hown hK hP 0 rw_Model rfl 16 (by decide) (hT _ wf_X7_31) (fun _ h9 => h9) rfl dX7_sends_103 ?_
          refine lv_iconst (v := 4) hx hb dX7_sends_106 (by decide) ?_
          refine g_iald hx hb hK hP 8 rw_8 rfl (vpc (by decide)) 4 rfl dX7_sends_107 ?_
          exact W.iret (v := S_17.1 8 4) hx hb hr (fun t ht hW => ⟨⟨S_17.1 8 4, S_17, rfl, h, gB_of ht hP⟩, hS.F ht⟩) hS.2.2 dX7_sends_108
        · have h := h.2 c_9
          refine lv_bipush (v := (-2)) hx hb dX7_sends_53 (by decide) ?_
          exact W.iret (v := (-2)) hx hb hr (fun t ht hW => ⟨⟨(-2), S_5, rfl, h, gB_of ht hP⟩, hS.F ht⟩) hS.2.2 dX7_sends_55
  · have h := h.1 c_4
    refine lv_iconst (v := (-1)) hx hb dX7_sends_13 (by decide) ?_
    exact W.iret (v := (-1)) hx hb hr (fun t ht hW => ⟨⟨(-1), S_2, rfl, h, gB_of ht hP⟩, hS.F ht⟩) hS.2.2 dX7_sends_14

abbrev rm_X7_shortens : Room := { frames := 0, cells := 0, slots := 0, locals := 0 }
def p_X7_shortens (S : CS) (c0 : Nat) (x1 : Int32) (x2 : Int32) (post : CS → Prop) : Prop := ∀ x3_1 : Int32, x3_1 = (7 + (x1 - x1 / 8 * 8)) → (vp_in x3_1 21 ∧ ((x2 ≤ (S.1 c0 x3_1.toNatClampNeg) → (vp_in x3_1 21 ∧ (∀ u_3 : Int32, u_3 = ((S.1 c0 x3_1.toNatClampNeg) - x2) → (vp_in x3_1 21 ∧ (∀ S_4 : CS, S_4 = sti S c0 x3_1.toNatClampNeg u_3 → (post S_4)))))) ∧ (¬ (x2 ≤ (S.1 c0 x3_1.toNatClampNeg)) → (vp_in x3_1 21 ∧ (∀ S_5 : CS, S_5 = sti S c0 x3_1.toNatClampNeg 0 → (post S_5))))))
set_option maxHeartbeats 4000000 in
set_option maxRecDepth 100000 in
theorem c_X7_shortens (l : Launch) (D : va_G) (X : XE) (hX : Inj 18 X.1) (sz : Nat) (S : CS) (c0 : Nat) (hyp_c0 : c0 = 8 ∨ c0 = 9) (x1 : Int32) (x2 : Int32) (post : CS → Prop) (h : p_X7_shortens S c0 x1 x2 post) : Met l yX7_shortens (Cond.code yX7_shortens cX7_shortens 4 none :: lw_gd) rm_X7_shortens (gPc D (tyX X) (RW X) (FXr X) (AX 18 X.1 sz) sz S [.ref (X.1 c0), .int x1, .int x2]) (va_Qv post (gB D (RW X)) (AX 18 X.1 sz)) 0 0 (AX 18 X.1 sz) := by
  refine Met.ofW (cc := cX7_shortens) (maxL := 4) (ret := none) (by decide) rfl ?_
  intro p e s m args below meth c s₁ B hml hv
  obtain ⟨rfl, hsz, hP, hK, hF⟩ := hv
  have hx := B.exec
  have hb := B.bytes
  have hr := B.returns
  have hts := atoms_spec (ws := (Cond.code yX7_shortens cX7_shortens 4 none :: lw_gd)) B.pre
  have hT : ∀ w ∈ lw_gd, w.before _ s = true := fun w h9 => hts w (List.mem_cons_of_mem _ h9)
  have hown : s.vm.findClass RX7 = some m.cls := findClass_of_methodNamed B.named
  have hlocks := B.notSynchronized
  subst hsz
  have hS : va_S (AX 18 X.1 s.heap.size) s.heap s.heap [] := va_S.rf
  have hl := lv_entry ([.ref (X.1 c0), .int x1, .int x2]) (n := 4) (Nat.le_of_ble_eq_true rfl)
  rw [lg_entry_eq]
  generalize (lg_sl ([.ref (X.1 c0), .int x1, .int x2]) ++ List.replicate (4 - (lg_sl ([.ref (X.1 c0), .int x1, .int x2])).length) Slot.unset).toArray = ls at hl ⊢
  have hl : lv_has ls 4 [(0, .ref (X.1 c0)), (1, .int x1), (2, .int x2)] := hl
  obtain ⟨H, hH⟩ : ∃ H : Heap, H = s.heap := ⟨_, rfl⟩
  obtain ⟨locs, hlc⟩ : ∃ q : List Loc, q = [] := ⟨_, rfl⟩
  have hS : va_S (AX 18 X.1 s.heap.size) s.heap H locs := by rw [hH, hlc]; exact hS
  have hP : va_P D vwCl (RW X S) H := by rw [hH]; exact hP
  show W p l e (headSpec (Cond.code yX7_shortens cX7_shortens 4 none :: lw_gd) rm_X7_shortens).room s m ([.ref (X.1 c0), .int x1, .int x2] : List Value).toArray below meth c s.heap [] 0 0 (MQ below (va_Qv post (gB D (RW X)) (AX 18 X.1 s.heap.size)) ([.ref (X.1 c0), .int x1, .int x2] : List Value).toArray s 0 0 (AX 18 X.1 s.heap.size)) _
  suffices hgo : W p l e (headSpec (Cond.code yX7_shortens cX7_shortens 4 none :: lw_gd) rm_X7_shortens).room s m ([.ref (X.1 c0), .int x1, .int x2] : List Value).toArray below meth c H locs 0 0 (MQ below (va_Qv post (gB D (RW X)) (AX 18 X.1 s.heap.size)) ([.ref (X.1 c0), .int x1, .int x2] : List Value).toArray s 0 0 (AX 18 X.1 s.heap.size)) (F0 m 0 ls []) from by rw [hH, hlc] at hgo; exact hgo
  unfold p_X7_shortens at h
  refine lv_bipush (v := 7) hx hb dX7_shortens_0 (by decide) ?_
  refine lv_iload_n hx hb dX7_shortens_2 rfl (lv_at hl 1 rfl) ?_
  refine lv_bipush (v := 8) hx hb dX7_shortens_3 (by decide) ?_
  refine lv_irem hx hb dX7_shortens_5 (by decide) ?_
  refine lv_iadd hx hb dX7_shortens_6 ?_
  refine lv_topi (fun x3_1 ex3_1 => ?_)
  have h := h x3_1 ex3_1
  refine lv_istore_n (lv' := [(3, .int x3_1), (0, .ref (X.1 c0)), (1, .int x1), (2, .int x2)]) hx hb dX7_shortens_7 rfl hl (by decide) rfl (fun ls hl => ?_)
  refine lv_aload_n hx hb dX7_shortens_8 rfl (lv_at hl 1 rfl) ?_
  refine lv_iload_n hx hb dX7_shortens_9 rfl (lv_at hl 0 rfl) ?_
  refine lv_aload_n hx hb dX7_shortens_10 rfl (lv_at hl 1 rfl) ?_
  refine lv_iload_n hx hb dX7_shortens_11 rfl (lv_at hl 0 rfl) ?_
  obtain ⟨hi, h⟩ := h
  refine g_iald hx hb hK hP c0 (rw_sw hyp_c0) rfl hi x3_1.toNatClampNeg rfl dX7_shortens_12 ?_
  refine lv_iload_n hx hb dX7_shortens_13 rfl (lv_at hl 3 rfl) ?_
  refine lv_icmp_ge (tgt := 21) hx hb dX7_shortens_14 (by decide) (fun c_2 => ?_) (fun c_2 => ?_)
  · have h := h.1 c_2
    refine lv_aload_n hx hb dX7_shortens_21 rfl (lv_at hl 1 rfl) ?_
    refine lv_iload_n hx hb dX7_shortens_22 rfl (lv_at hl 0 rfl) ?_
    obtain ⟨hi, h⟩ := h
    refine g_iald hx hb hK hP c0 (rw_sw hyp_c0) rfl hi x3_1.toNatClampNeg rfl dX7_shortens_23 ?_
    refine lv_iload_n hx hb dX7_shortens_24 rfl (lv_at hl 3 rfl) ?_
    refine lv_isub hx hb dX7_shortens_25 ?_
    refine lv_topi (fun u_3 eu_3 => ?_)
    have h := h u_3 eu_3
    obtain ⟨hi, h⟩ := h
    refine g_iast hx hb hK hP (gw_D hX) hS c0 (rw_sw hyp_c0) rfl hi x3_1.toNatClampNeg rfl dX7_shortens_26 (fun H locs hP hS => ?_)
    have hP := rw_st (j := x3_1.toNatClampNeg) (x := u_3) (rce_sw X _ hyp_c0 _) hP
    obtain ⟨S_4, eS_4⟩ : ∃ z : CS, z = sti S c0 x3_1.toNatClampNeg u_3 := ⟨_, rfl⟩
    rw [← eS_4] at hP
    have h := h S_4 eS_4
    exact W.vret hx hb hr (fun t ht hW => ⟨⟨S_4, rfl, h, gB_of ht hP⟩, hS.F ht⟩) hS.2.2 dX7_shortens_27
  · have h := h.2 c_2
    refine lv_iconst (v := 0) hx hb dX7_shortens_17 (by decide) ?_
    refine lv_goto (tgt := 26) hx hb dX7_shortens_18 (by decide) ?_
    obtain ⟨hi, h⟩ := h
    refine g_iast hx hb hK hP (gw_D hX) hS c0 (rw_sw hyp_c0) rfl hi x3_1.toNatClampNeg rfl dX7_shortens_26 (fun H locs hP hS => ?_)
    have hP := rw_st (j := x3_1.toNatClampNeg) (x := 0) (rce_sw X _ hyp_c0 _) hP
    obtain ⟨S_5, eS_5⟩ : ∃ z : CS, z = sti S c0 x3_1.toNatClampNeg 0 := ⟨_, rfl⟩
    rw [← eS_5] at hP
    have h := h S_5 eS_5
    exact W.vret hx hb hr (fun t ht hW => ⟨⟨S_5, rfl, h, gB_of ht hP⟩, hS.F ht⟩) hS.2.2 dX7_shortens_27

abbrev rm_X7_sweep : Room := { frames := 1, cells := 0, slots := 0, locals := 23 }
def p_X7_sweep (S : CS) (c0 : Nat) (post : CS → Prop) : Prop := p_X7_shortens S c0 (S.1 c0 6) 2 (fun S_1 => (p_X7_shortens S_1 c0 ((S_1.1 c0 6) + 1) 1 (fun S_3 => (p_X7_shortens S_3 c0 ((S_3.1 c0 6) + 7) 1 (fun S_5 => (post S_5))))))
set_option maxHeartbeats 4000000 in
set_option maxRecDepth 100000 in
theorem c_X7_sweep (l : Launch) (D : va_G) (X : XE) (hX : Inj 18 X.1) (sz : Nat) (S : CS) (c0 : Nat) (hyp_c0 : c0 = 8 ∨ c0 = 9) (post : CS → Prop) (h : p_X7_sweep S c0 post) : Met l yX7_sweep (Cond.code yX7_sweep cX7_sweep 1 none :: lw_gd) rm_X7_sweep (gPc D (tyX X) (RW X) (FXr X) (AX 18 X.1 sz) sz S [.ref (X.1 c0)]) (va_Qv post (gB D (RW X)) (AX 18 X.1 sz)) 0 0 (AX 18 X.1 sz) := by
  refine Met.ofW (cc := cX7_sweep) (maxL := 1) (ret := none) (by decide) rfl ?_
  intro p e s m args below meth c s₁ B hml hv
  obtain ⟨rfl, hsz, hP, hK, hF⟩ := hv
  have hx := B.exec
  have hb := B.bytes
  have hr := B.returns
  have hts := atoms_spec (ws := (Cond.code yX7_sweep cX7_sweep 1 none :: lw_gd)) B.pre
  have hT : ∀ w ∈ lw_gd, w.before _ s = true := fun w h9 => hts w (List.mem_cons_of_mem _ h9)
  have hown : s.vm.findClass RX7 = some m.cls := findClass_of_methodNamed B.named
  have hlocks := B.notSynchronized
  subst hsz
  have hS : va_S (AX 18 X.1 s.heap.size) s.heap s.heap [] := va_S.rf
  have hl := lv_entry ([.ref (X.1 c0)]) (n := 1) (Nat.le_of_ble_eq_true rfl)
  rw [lg_entry_eq]
  generalize (lg_sl ([.ref (X.1 c0)]) ++ List.replicate (1 - (lg_sl ([.ref (X.1 c0)])).length) Slot.unset).toArray = ls at hl ⊢
  have hl : lv_has ls 1 [(0, .ref (X.1 c0))] := hl
  obtain ⟨H, hH⟩ : ∃ H : Heap, H = s.heap := ⟨_, rfl⟩
  obtain ⟨locs, hlc⟩ : ∃ q : List Loc, q = [] := ⟨_, rfl⟩
  have hS : va_S (AX 18 X.1 s.heap.size) s.heap H locs := by rw [hH, hlc]; exact hS
  have hP : va_P D vwCl (RW X S) H := by rw [hH]; exact hP
  show W p l e (headSpec (Cond.code yX7_sweep cX7_sweep 1 none :: lw_gd) rm_X7_sweep).room s m ([.ref (X.1 c0)] : List Value).toArray below meth c s.heap [] 0 0 (MQ below (va_Qv post (gB D (RW X)) (AX 18 X.1 s.heap.size)) ([.ref (X.1 c0)] : List Value).toArray s 0 0 (AX 18 X.1 s.heap.size)) _
  suffices hgo : W p l e (headSpec (Cond.code yX7_sweep cX7_sweep 1 none :: lw_gd) rm_X7_sweep).room s m ([.ref (X.1 c0)] : List Value).toArray below meth c H locs 0 0 (MQ below (va_Qv post (gB D (RW X)) (AX 18 X.1 s.heap.size)) ([.ref (X.1 c0)] : List Value).toArray s 0 0 (AX 18 X.1 s.heap.size)) (F0 m 0 ls []) from by rw [hH, hlc] at hgo; exact hgo
  unfold p_X7_sweep at h
  refine lv_aload_n hx hb dX7_sweep_0 rfl (lv_at hl 0 rfl) ?_
  refine lv_aload_n hx hb dX7_sweep_1 rfl (lv_at hl 0 rfl) ?_
  refine lv_bipush (v := 6) hx hb dX7_sweep_2 (by decide) ?_
  refine g_iald hx hb hK hP c0 (rw_sw hyp_c0) rfl (vpc (by decide)) 6 rfl dX7_sweep_4 ?_
  refine lv_iconst (v := 2) hx hb dX7_sweep_5 (by decide) ?_
  refine rSv (As := [.ref (X.1 c0), .int (S.1 c0 6), .int 2]) (rest := []) hX ⟨hx, hb, hml, hown, hT⟩ (c_X7_shortens l D X hX H.size S c0 hyp_c0 (S.1 c0 6) 2 _ h) (gd_S wl_X7_165 wt_X7_shortens wn_X7 wc_X7_shortens) hd_X7_shortens ⟨rfl, rfl⟩ ⟨Nat.le_of_ble_eq_true rfl, Nat.le_of_ble_eq_true rfl⟩ hK hP hS hF rfl hl.1 rfl (Nat.le_of_ble_eq_true rfl) dX7_sweep_6 ⟨Nat.zero_le _, Nat.zero_le _⟩ (fun S_1 H locs h hP hS => ?_)
  refine lv_aload_n hx hb dX7_sweep_9 rfl (lv_at hl 0 rfl) ?_
  refine lv_aload_n hx hb dX7_sweep_10 rfl (lv_at hl 0 rfl) ?_
  refine lv_bipush (v := 6) hx hb dX7_sweep_11 (by decide) ?_
  refine g_iald hx hb hK hP c0 (rw_sw hyp_c0) rfl (vpc (by decide)) 6 rfl dX7_sweep_13 ?_
  refine lv_iconst (v := 1) hx hb dX7_sweep_14 (by decide) ?_
  refine lv_iadd hx hb dX7_sweep_15 ?_
  refine lv_iconst (v := 1) hx hb dX7_sweep_16 (by decide) ?_
  refine rSv (As := [.ref (X.1 c0), .int ((S_1.1 c0 6) + 1), .int 1]) (rest := []) hX ⟨hx, hb, hml, hown, hT⟩ (c_X7_shortens l D X hX H.size S_1 c0 hyp_c0 ((S_1.1 c0 6) + 1) 1 _ h) (gd_S wl_X7_165 wt_X7_shortens wn_X7 wc_X7_shortens) hd_X7_shortens ⟨rfl, rfl⟩ ⟨Nat.le_of_ble_eq_true rfl, Nat.le_of_ble_eq_true rfl⟩ hK hP hS hF rfl hl.1 rfl (Nat.le_of_ble_eq_true rfl) dX7_sweep_17 ⟨Nat.zero_le _, Nat.zero_le _⟩ (fun S_3 H locs h hP hS => ?_)
  refine lv_aload_n hx hb dX7_sweep_20 rfl (lv_at hl 0 rfl) ?_
  refine lv_aload_n hx hb dX7_sweep_21 rfl (lv_at hl 0 rfl) ?_
  refine lv_bipush (v := 6) hx hb dX7_sweep_22 (by decide) ?_
  refine g_iald hx hb hK hP c0 (rw_sw hyp_c0) rfl (vpc (by decide)) 6 rfl dX7_sweep_24 ?_
  refine lv_bipush (v := 7) hx hb dX7_sweep_25 (by decide) ?_
  refine lv_iadd hx hb dX7_sweep_27 ?_
  refine lv_iconst (v := 1) hx hb dX7_sweep_28 (by decide) ?_
  refine rSv (As := [.ref (X.1 c0), .int ((S_3.1 c0 6) + 7), .int 1]) (rest := []) hX ⟨hx, hb, hml, hown, hT⟩ (c_X7_shortens l D X hX H.size S_3 c0 hyp_c0 ((S_3.1 c0 6) + 7) 1 _ h) (gd_S wl_X7_165 wt_X7_shortens wn_X7 wc_X7_shortens) hd_X7_shortens ⟨rfl, rfl⟩ ⟨Nat.le_of_ble_eq_true rfl, Nat.le_of_ble_eq_true rfl⟩ hK hP hS hF rfl hl.1 rfl (Nat.le_of_ble_eq_true rfl) dX7_sweep_29 ⟨Nat.zero_le _, Nat.zero_le _⟩ (fun S_5 H locs h hP hS => ?_)
  exact W.vret hx hb hr (fun t ht hW => ⟨⟨S_5, rfl, h, gB_of ht hP⟩, hS.F ht⟩) hS.2.2 dX7_sweep_32

abbrev rm_X7_sweeps : Room := { frames := 2, cells := 0, slots := 0, locals := 43 }
def p_X7_sweeps (S : CS)  (post : Int32 → CS → Prop) : Prop := ∀ S_1 : CS, S_1 = sti S 0 0 0 → (p_X7_notes S_1  (fun S_2 => (p_X7_sweep S_2 8 (fun S_4 => (vp_in (7 + (S_4.1 8 6)) 21 ∧ (post (S_4.1 8 ((7 + (S_4.1 8 6)).toNatClampNeg)) S_4))))))
set_option maxHeartbeats 4000000 in
set_option maxRecDepth 100000 in
theorem c_X7_sweeps (l : Launch) (D : va_G) (X : XE) (hX : Inj 18 X.1) (sz : Nat) (S : CS)  (post : Int32 → CS → Prop) (h : p_X7_sweeps S  post) : Met l yX7_sweeps (Cond.code yX7_sweeps cX7_sweeps 1 (some .int) :: lw_gd) rm_X7_sweeps (gPc D (tyX X) (RW X) (FXr X) (AX 18 X.1 sz) sz S [.ref (X.1 0)]) (va_Qi post (gB D (RW X)) (AX 18 X.1 sz)) 0 0 (AX 18 X.1 sz) := by
  refine Met.ofW (cc := cX7_sweeps) (maxL := 1) (ret := (some .int)) (by decide) rfl ?_
  intro p e s m args below meth c s₁ B hml hv
  obtain ⟨rfl, hsz, hP, hK, hF⟩ := hv
  have hx := B.exec
  have hb := B.bytes
  have hr := B.returns
  have hts := atoms_spec (ws := (Cond.code yX7_sweeps cX7_sweeps 1 (some .int) :: lw_gd)) B.pre
  have hT : ∀ w ∈ lw_gd, w.before _ s = true := fun w h9 => hts w (List.mem_cons_of_mem _ h9)
  have hown : s.vm.findClass RX7 = some m.cls := findClass_of_methodNamed B.named
  have hlocks := B.notSynchronized
  subst hsz
  have hS : va_S (AX 18 X.1 s.heap.size) s.heap s.heap [] := va_S.rf
  have hl := lv_entry ([.ref (X.1 0)]) (n := 1) (Nat.le_of_ble_eq_true rfl)
  rw [lg_entry_eq]
  generalize (lg_sl ([.ref (X.1 0)]) ++ List.replicate (1 - (lg_sl ([.ref (X.1 0)])).length) Slot.unset).toArray = ls at hl ⊢
  have hl : lv_has ls 1 [(0, .ref (X.1 0))] := hl
  obtain ⟨H, hH⟩ : ∃ H : Heap, H = s.heap := ⟨_, rfl⟩
  obtain ⟨locs, hlc⟩ : ∃ q : List Loc, q = [] := ⟨_, rfl⟩
  have hS : va_S (AX 18 X.1 s.heap.size) s.heap H locs := by rw [hH, hlc]; exact hS
  have hP : va_P D vwCl (RW X S) H := by rw [hH]; exact hP
  show W p l e (headSpec (Cond.code yX7_sweeps cX7_sweeps 1 (some .int) :: lw_gd) rm_X7_sweeps).room s m ([.ref (X.1 0)] : List Value).toArray below meth c s.heap [] 0 0 (MQ below (va_Qi post (gB D (RW X)) (AX 18 X.1 s.heap.size)) ([.ref (X.1 0)] : List Value).toArray s 0 0 (AX 18 X.1 s.heap.size)) _
  suffices hgo : W p l e (headSpec (Cond.code yX7_sweeps cX7_sweeps 1 (some .int) :: lw_gd) rm_X7_sweeps).room s m ([.ref (X.1 0)] : List Value).toArray below meth c H locs 0 0 (MQ below (va_Qi post (gB D (RW X)) (AX 18 X.1 s.heap.size)) ([.ref (X.1 0)] : List Value).toArray s 0 0 (AX 18 X.1 s.heap.size)) (F0 m 0 ls []) from by rw [hH, hlc] at hgo; exact hgo
  unfold p_X7_sweeps at h
  refine lv_aload_n hx hb dX7_sweeps_0 rfl (lv_at hl 0 rfl) ?_
  refine lv_iconst (v := 0) hx hb dX7_sweeps_1 (by decide) ?_
  refine va_put (D := D) (ci := 7) (v := .int 0) (ty := .int) (C := RX7) (T := TX7) (N := 28) hx hb hT inX7 tyX7 tyX7_ok nmX7 hown hK hP (gw_D hX) hS 0 rw_Model rfl 0 (by decide) (hT _ wf_X7_68) (fun _ h9 => h9) rfl (by decide +kernel) rfl rfl (Nat.le_of_ble_eq_true rfl) dX7_sweeps_2 (fun H locs hP _ hS => ?_)
  have hP := rw_st (j := 0) (x := 0) rfl hP
  obtain ⟨S_1, eS_1⟩ : ∃ z : CS, z = sti S 0 0 0 := ⟨_, rfl⟩
  rw [← eS_1] at hP
  have h := h S_1 eS_1
  refine lv_aload_n hx hb dX7_sweeps_5 rfl (lv_at hl 0 rfl) ?_
  refine rVv (As := []) (rest := []) hX ⟨hx, hb, hml, hown, hT⟩ (c_X7_notes l D X hX H.size S_1  _ h) (gd_V wl_X7_152 wi_X7_notes wv_X7_notes wn_X7 wc_X7_notes) rfl hd_X7_notes ⟨rfl, rfl⟩ ⟨Nat.le_of_ble_eq_true rfl, Nat.le_of_ble_eq_true rfl⟩ (va_recv hK hP (ci := 7) (q0 := 0) rfl rw_Model) hK hP hS hF rfl hl.1 rfl (Nat.le_of_ble_eq_true rfl) dX7_sweeps_6 ⟨Nat.zero_le _, Nat.zero_le _⟩ (fun S_2 H locs h hP hS => ?_)
  refine lv_aload_n hx hb dX7_sweeps_9 rfl (lv_at hl 0 rfl) ?_
  refine va_get (D := D) (ci := 7) (v := .ref (X.1 8)) (C := RX7) (T := TX7) (N := 28) hx hb hT inX7 hown hK hP 0 rw_Model rfl 16 (by decide) (hT _ wf_X7_31) (fun _ h9 => h9) rfl dX7_sweeps_10 ?_
  refine rSv (As := [.ref (X.1 8)]) (rest := []) hX ⟨hx, hb, hml, hown, hT⟩ (c_X7_sweep l D X hX H.size S_2 8 (by decide) _ h) (gd_S wl_X7_169 wt_X7_sweep wn_X7 wc_X7_sweep) hd_X7_sweep ⟨rfl, rfl⟩ ⟨Nat.le_of_ble_eq_true rfl, Nat.le_of_ble_eq_true rfl⟩ hK hP hS hF rfl hl.1 rfl (Nat.le_of_ble_eq_true rfl) dX7_sweeps_13 ⟨Nat.zero_le _, Nat.zero_le _⟩ (fun S_4 H locs h hP hS => ?_)
  refine lv_aload_n hx hb dX7_sweeps_16 rfl (lv_at hl 0 rfl) ?_
  refine va_get (D := D) (ci := 7) (v := .ref (X.1 8)) (C := RX7) (T := TX7) (N := 28) hx hb hT inX7 hown hK hP 0 rw_Model rfl 16 (by decide) (hT _ wf_X7_31) (fun _ h9 => h9) rfl dX7_sweeps_17 ?_
  refine lv_bipush (v := 7) hx hb dX7_sweeps_20 (by decide) ?_
  refine lv_aload_n hx hb dX7_sweeps_22 rfl (lv_at hl 0 rfl) ?_
  refine va_get (D := D) (ci := 7) (v := .ref (X.1 8)) (C := RX7) (T := TX7) (N := 28) hx hb hT inX7 hown hK hP 0 rw_Model rfl 16 (by decide) (hT _ wf_X7_31) (fun _ h9 => h9) rfl dX7_sweeps_23 ?_
  refine lv_bipush (v := 6) hx hb dX7_sweeps_26 (by decide) ?_
  refine g_iald hx hb hK hP 8 rw_8 rfl (vpc (by decide)) 6 rfl dX7_sweeps_28 ?_
  refine lv_iadd hx hb dX7_sweeps_29 ?_
  obtain ⟨hi, h⟩ := h
  refine g_iald hx hb hK hP 8 rw_8 rfl hi ((7 + (S_4.1 8 6)).toNatClampNeg) rfl dX7_sweeps_30 ?_
  exact W.iret (v := S_4.1 8 ((7 + (S_4.1 8 6)).toNatClampNeg)) hx hb hr (fun t ht hW => ⟨⟨S_4.1 8 ((7 + (S_4.1 8 6)).toNatClampNeg), S_4, rfl, h, gB_of ht hP⟩, hS.F ht⟩) hS.2.2 dX7_sweeps_31

abbrev rm_X7_spins : Room := { frames := 1, cells := 0, slots := 0, locals := 22 }
def p_X7_spins (S : CS) (x1 : Int32) (post : Int32 → CS → Prop) : Prop := ∀ S_1 : CS, S_1 = sti S 0 0 0 → (p_X7_in S_1 x1 1 7 (fun r_3 S_2 => ((r_3 = 0 → (post (-1) S_2)) ∧ (¬ (r_3 = 0) → (p_X7_notes S_2  (fun S_5 => (∀ u_7 : Int32, u_7 = (((S_5.1 8 6) + x1) - ((S_5.1 8 6) + x1) / 8 * 8) → (∀ S_8 : CS, S_8 = sti S_5 8 6 u_7 → (post (S_8.1 8 6) S_8)))))))))
set_option maxHeartbeats 4000000 in
set_option maxRecDepth 100000 in
theorem c_X7_spins (l : Launch) (D : va_G) (X : XE) (hX : Inj 18 X.1) (sz : Nat) (S : CS) (x1 : Int32) (post : Int32 → CS → Prop) (h : p_X7_spins S x1 post) : Met l yX7_spins (Cond.code yX7_spins cX7_spins 2 (some .int) :: lw_gd) rm_X7_spins (gPc D (tyX X) (RW X) (FXr X) (AX 18 X.1 sz) sz S [.ref (X.1 0), .int x1]) (va_Qi post (gB D (RW X)) (AX 18 X.1 sz)) 0 0 (AX 18 X.1 sz) := by
  refine Met.ofW (cc := cX7_spins) (maxL := 2) (ret := (some .int)) (by decide) rfl ?_
  intro p e s m args below meth c s₁ B hml hv
  obtain ⟨rfl, hsz, hP, hK, hF⟩ := hv
  have hx := B.exec
  have hb := B.bytes
  have hr := B.returns
  have hts := atoms_spec (ws := (Cond.code yX7_spins cX7_spins 2 (some .int) :: lw_gd)) B.pre
  have hT : ∀ w ∈ lw_gd, w.before _ s = true := fun w h9 => hts w (List.mem_cons_of_mem _ h9)
  have hown : s.vm.findClass RX7 = some m.cls := findClass_of_methodNamed B.named
  have hlocks := B.notSynchronized
  subst hsz
  have hS : va_S (AX 18 X.1 s.heap.size) s.heap s.heap [] := va_S.rf
  have hl := lv_entry ([.ref (X.1 0), .int x1]) (n := 2) (Nat.le_of_ble_eq_true rfl)
  rw [lg_entry_eq]
  generalize (lg_sl ([.ref (X.1 0), .int x1]) ++ List.replicate (2 - (lg_sl ([.ref (X.1 0), .int x1])).length) Slot.unset).toArray = ls at hl ⊢
  have hl : lv_has ls 2 [(0, .ref (X.1 0)), (1, .int x1)] := hl
  obtain ⟨H, hH⟩ : ∃ H : Heap, H = s.heap := ⟨_, rfl⟩
  obtain ⟨locs, hlc⟩ : ∃ q : List Loc, q = [] := ⟨_, rfl⟩
  have hS : va_S (AX 18 X.1 s.heap.size) s.heap H locs := by rw [hH, hlc]; exact hS
  have hP : va_P D vwCl (RW X S) H := by rw [hH]; exact hP
  show W p l e (headSpec (Cond.code yX7_spins cX7_spins 2 (some .int) :: lw_gd) rm_X7_spins).room s m ([.ref (X.1 0), .int x1] : List Value).toArray below meth c s.heap [] 0 0 (MQ below (va_Qi post (gB D (RW X)) (AX 18 X.1 s.heap.size)) ([.ref (X.1 0), .int x1] : List Value).toArray s 0 0 (AX 18 X.1 s.heap.size)) _
  suffices hgo : W p l e (headSpec (Cond.code yX7_spins cX7_spins 2 (some .int) :: lw_gd) rm_X7_spins).room s m ([.ref (X.1 0), .int x1] : List Value).toArray below meth c H locs 0 0 (MQ below (va_Qi post (gB D (RW X)) (AX 18 X.1 s.heap.size)) ([.ref (X.1 0), .int x1] : List Value).toArray s 0 0 (AX 18 X.1 s.heap.size)) (F0 m 0 ls []) from by rw [hH, hlc] at hgo; exact hgo
  unfold p_X7_spins at h
  refine lv_aload_n hx hb dX7_spins_0 rfl (lv_at hl 0 rfl) ?_
  refine lv_iconst (v := 0) hx hb dX7_spins_1 (by decide) ?_
  refine va_put (D := D) (ci := 7) (v := .int 0) (ty := .int) (C := RX7) (T := TX7) (N := 28) hx hb hT inX7 tyX7 tyX7_ok nmX7 hown hK hP (gw_D hX) hS 0 rw_Model rfl 0 (by decide) (hT _ wf_X7_68) (fun _ h9 => h9) rfl (by decide +kernel) rfl rfl (Nat.le_of_ble_eq_true rfl) dX7_spins_2 (fun H locs hP _ hS => ?_)
  have hP := rw_st (j := 0) (x := 0) rfl hP
  obtain ⟨S_1, eS_1⟩ : ∃ z : CS, z = sti S 0 0 0 := ⟨_, rfl⟩
  rw [← eS_1] at hP
  have h := h S_1 eS_1
  refine lv_iload_n hx hb dX7_spins_5 rfl (lv_at hl 1 rfl) ?_
  refine lv_iconst (v := 1) hx hb dX7_spins_6 (by decide) ?_
  refine lv_bipush (v := 7) hx hb dX7_spins_7 (by decide) ?_
  refine rSi (As := [.int x1, .int 1, .int 7]) (rest := []) hX ⟨hx, hb, hml, hown, hT⟩ (c_X7_in l D X hX H.size S_1 x1 1 7 _ h) (gd_S wl_X7_72 wt_X7_in wn_X7 wc_X7_in) hd_X7_in ⟨rfl, rfl⟩ ⟨Nat.le_of_ble_eq_true rfl, Nat.le_of_ble_eq_true rfl⟩ hK hP hS hF rfl hl.1 rfl (Nat.le_of_ble_eq_true rfl) dX7_spins_9 ⟨Nat.zero_le _, Nat.zero_le _⟩ (fun r_3 S_2 H locs h hP hS => ?_)
  refine lv_if_ne (tgt := 17) hx hb dX7_spins_12 (by decide) (fun c_4 => ?_) (fun c_4 => ?_)
  · have h := h.2 c_4
    refine lv_aload_n hx hb dX7_spins_17 rfl (lv_at hl 0 rfl) ?_
    refine rVv (As := []) (rest := []) hX ⟨hx, hb, hml, hown, hT⟩ (c_X7_notes l D X hX H.size S_2  _ h) (gd_V wl_X7_152 wi_X7_notes wv_X7_notes wn_X7 wc_X7_notes) rfl hd_X7_notes ⟨rfl, rfl⟩ ⟨Nat.le_of_ble_eq_true rfl, Nat.le_of_ble_eq_true rfl⟩ (va_recv hK hP (ci := 7) (q0 := 0) rfl rw_Model) hK hP hS hF rfl hl.1 rfl (Nat.le_of_ble_eq_true rfl) dX7_spins_18 ⟨Nat.zero_le _, Nat.zero_le _⟩ (fun S_5 H locs h hP hS => ?_)
    refine lv_aload_n hx hb dX7_spins_21 rfl (lv_at hl 0 rfl) ?_
    refine va_get (D := D) (ci := 7) (v := .ref (X.1 8)) (C := RX7) (T := TX7) (N := 28) hx hb hT inX7 hown hK hP 0 rw_Model rfl 16 (by decide) (hT _ wf_X7_31) (fun _ h9 => h9) rfl dX7_spins_22 ?_
    refine lv_bipush (v := 6) hx hb dX7_spins_25 (by decide) ?_
    refine lv_aload_n hx hb dX7_spins_27 rfl (lv_at hl 0 rfl) ?_
    refine va_get (D := D) (ci := 7) (v := .ref (X.1 8)) (C := RX7) (T := TX7) (N := 28) hx hb hT inX7 hown hK hP 0 rw_Model rfl 16 (by decide) (hT _ wf_X7_31) (fun _ h9 => h9) rfl dX7_spins_28 ?_
    refine lv_bipush (v := 6) hx hb dX7_spins_31 (by decide) ?_
    refine g_iald hx hb hK hP 8 rw_8 rfl (vpc (by decide)) 6 rfl dX7_spins_33 ?_
    refine lv_iload_n hx hb dX7_spins_34 rfl (lv_at hl 1 rfl) ?_
    refine lv_iadd hx hb dX7_spins_35 ?_
    refine lv_bipush (v := 8) hx hb dX7_spins_36 (by decide) ?_
    refine lv_irem hx hb dX7_spins_38 (by decide) ?_
    refine lv_topi (fun u_7 eu_7 => ?_)
    have h := h u_7 eu_7
    refine g_iast hx hb hK hP (gw_D hX) hS 8 rw_8 rfl (vpc (by decide)) 6 rfl dX7_spins_39 (fun H locs hP hS => ?_)
    have hP := rw_st (j := 6) (x := u_7) rfl hP
    obtain ⟨S_8, eS_8⟩ : ∃ z : CS, z = sti S_5 8 6 u_7 := ⟨_, rfl⟩
    rw [← eS_8] at hP
    have h := h S_8 eS_8
    refine lv_aload_n hx hb dX7_spins_40 rfl (lv_at hl 0 rfl) ?_
    refine va_get (D := D) (ci := 7) (v := .ref (X.1 8)) (C := RX7) (T := TX7) (N := 28) hx hb hT inX7 hown hK hP 0 rw_Model rfl 16 (by decide) (hT _ wf_X7_31) (fun _ h9 => h9) rfl dX7_spins_41 ?_
    refine lv_bipush (v := 6) hx hb dX7_spins_44 (by decide) ?_
    refine g_iald hx hb hK hP 8 rw_8 rfl (vpc (by decide)) 6 rfl dX7_spins_46 ?_
    exact W.iret (v := S_8.1 8 6) hx hb hr (fun t ht hW => ⟨⟨S_8.1 8 6, S_8, rfl, h, gB_of ht hP⟩, hS.F ht⟩) hS.2.2 dX7_spins_47
  · have h := h.1 c_4
    refine lv_iconst (v := (-1)) hx hb dX7_spins_15 (by decide) ?_
    exact W.iret (v := (-1)) hx hb hr (fun t ht hW => ⟨⟨(-1), S_2, rfl, h, gB_of ht hP⟩, hS.F ht⟩) hS.2.2 dX7_spins_16

abbrev rm_X7_undo : Room := { frames := 0, cells := 0, slots := 0, locals := 0 }
def q_X7_undo_27  (post : Int32 → CS → Prop) : Nat → Int32 → CS → Prop
  | 0, _, _ => False
  | n9 + 1, y1, S => (21 ≤ y1 → (post (S.1 0 21) S)) ∧ (¬ (21 ≤ y1) → (vp_in ((21 * (S.1 0 21)) + y1) 210 ∧ (∀ u_6 : Int32, u_6 = S.1 12 (((21 * (S.1 0 21)) + y1).toNatClampNeg) → (vp_in y1 21 ∧ (∀ S_7 : CS, S_7 = sti S 8 y1.toNatClampNeg u_6 → (∀ x1_8 : Int32, x1_8 = y1 + 1 → (q_X7_undo_27 post n9 x1_8 S_7)))))))
def p_X7_undo (S : CS)  (post : Int32 → CS → Prop) : Prop := ∀ S_1 : CS, S_1 = sti S 0 0 0 → (((S_1.1 0 21) = 0 → (post (-2) S_1)) ∧ (¬ ((S_1.1 0 21) = 0) → (∀ u_3 : Int32, u_3 = ((S_1.1 0 21) - 1) → (∀ S_4 : CS, S_4 = sti S_1 0 21 u_3 → (∃ n, q_X7_undo_27 post n 0 S_4)))))
set_option maxHeartbeats 4000000 in
set_option maxRecDepth 100000 in
theorem c_X7_undo (l : Launch) (D : va_G) (X : XE) (hX : Inj 18 X.1) (sz : Nat) (S : CS)  (post : Int32 → CS → Prop) (h : p_X7_undo S  post) : Met l yX7_undo (Cond.code yX7_undo cX7_undo 2 (some .int) :: lw_gd) rm_X7_undo (gPc D (tyX X) (RW X) (FXr X) (AX 18 X.1 sz) sz S [.ref (X.1 0)]) (va_Qi post (gB D (RW X)) (AX 18 X.1 sz)) 0 0 (AX 18 X.1 sz) := by
  refine Met.ofW (cc := cX7_undo) (maxL := 2) (ret := (some .int)) (by decide) rfl ?_
  intro p e s m args below meth c s₁ B hml hv
  obtain ⟨rfl, hsz, hP, hK, hF⟩ := hv
  have hx := B.exec
  have hb := B.bytes
  have hr := B.returns
  have hts := atoms_spec (ws := (Cond.code yX7_undo cX7_undo 2 (some .int) :: lw_gd)) B.pre
  have hT : ∀ w ∈ lw_gd, w.before _ s = true := fun w h9 => hts w (List.mem_cons_of_mem _ h9)
  have hown : s.vm.findClass RX7 = some m.cls := findClass_of_methodNamed B.named
  have hlocks := B.notSynchronized
  subst hsz
  have hS : va_S (AX 18 X.1 s.heap.size) s.heap s.heap [] := va_S.rf
  have W27 : ∀ n1 : Nat, ∀ (y1 : Int32) (S : CS) (H : Heap) (locs : List Loc) (ls : Array Slot), va_P D vwCl (RW X S) H → va_S (AX 18 X.1 s.heap.size) s.heap H locs → lv_has ls 2 [(0, .ref (X.1 0)), (1, .int y1)] → q_X7_undo_27 post n1 y1 S → W p l e (headSpec (Cond.code yX7_undo cX7_undo 2 (some .int) :: lw_gd) rm_X7_undo).room s m ([.ref (X.1 0)] : List Value).toArray below meth c H locs 0 0 (MQ below (va_Qi post (gB D (RW X)) (AX 18 X.1 s.heap.size)) ([.ref (X.1 0)] : List Value).toArray s 0 0 (AX 18 X.1 s.heap.size)) (F0 m 27 ls []) := by
    intro n1
    induction n1 with
    | zero => intro y1 S H locs ls hP hS hl h; exact h.elim
    | succ n9 ih =>
      intro y1 S H locs ls hP hS hl h
      rw [q_X7_undo_27] at h
      refine lv_iload_n hx hb dX7_undo_27 rfl (lv_at hl 1 rfl) ?_
      refine lv_bipush (v := 21) hx hb dX7_undo_28 (by decide) ?_
      refine lv_icmp_ge (tgt := 59) hx hb dX7_undo_30 (by decide) (fun c_5 => ?_) (fun c_5 => ?_)
      · have h := h.1 c_5
        refine lv_aload_n hx hb dX7_undo_59 rfl (lv_at hl 0 rfl) ?_
        refine va_get (D := D) (ci := 7) (v := .int (S.1 0 21)) (C := RX7) (T := TX7) (N := 28) hx hb hT inX7 hown hK hP 0 rw_Model rfl 21 (by decide) (hT _ wf_X7_133) (fun _ h9 => h9) rfl dX7_undo_60 ?_
        exact W.iret (v := S.1 0 21) hx hb hr (fun t ht hW => ⟨⟨S.1 0 21, S, rfl, h, gB_of ht hP⟩, hS.F ht⟩) hS.2.2 dX7_undo_63
      · have h := h.2 c_5
        refine lv_aload_n hx hb dX7_undo_33 rfl (lv_at hl 0 rfl) ?_
        refine va_get (D := D) (ci := 7) (v := .ref (X.1 8)) (C := RX7) (T := TX7) (N := 28) hx hb hT inX7 hown hK hP 0 rw_Model rfl 16 (by decide) (hT _ wf_X7_31) (fun _ h9 => h9) rfl dX7_undo_34 ?_
        refine lv_iload_n hx hb dX7_undo_37 rfl (lv_at hl 1 rfl) ?_
        refine lv_aload_n hx hb dX7_undo_38 rfl (lv_at hl 0 rfl) ?_
        refine va_get (D := D) (ci := 7) (v := .ref (X.1 12)) (C := RX7) (T := TX7) (N := 28) hx hb hT inX7 hown hK hP 0 rw_Model rfl 20 (by decide) (hT _ wf_X7_44) (fun _ h9 => h9) rfl dX7_undo_39 ?_
        refine lv_bipush (v := 21) hx hb dX7_undo_42 (by decide) ?_
        refine lv_aload_n hx hb dX7_undo_44 rfl (lv_at hl 0 rfl) ?_
        refine va_get (D := D) (ci := 7) (v := .int (S.1 0 21)) (C := RX7) (T := TX7) (N := 28) hx hb hT inX7 hown hK hP 0 rw_Model rfl 21 (by decide) (hT _ wf_X7_133) (fun _ h9 => h9) rfl dX7_undo_45 ?_
        refine lv_imul hx hb dX7_undo_48 ?_
        refine lv_iload_n hx hb dX7_undo_49 rfl (lv_at hl 1 rfl) ?_
        refine lv_iadd hx hb dX7_undo_50 ?_
        obtain ⟨hi, h⟩ := h
        refine g_iald hx hb hK hP 12 rw_12 rfl hi (((21 * (S.1 0 21)) + y1).toNatClampNeg) rfl dX7_undo_51 ?_
        refine lv_topi (fun u_6 eu_6 => ?_)
        have h := h u_6 eu_6
        obtain ⟨hi, h⟩ := h
        refine g_iast hx hb hK hP (gw_D hX) hS 8 rw_8 rfl hi y1.toNatClampNeg rfl dX7_undo_52 (fun H locs hP hS => ?_)
        have hP := rw_st (j := y1.toNatClampNeg) (x := u_6) rfl hP
        obtain ⟨S_7, eS_7⟩ : ∃ z : CS, z = sti S 8 y1.toNatClampNeg u_6 := ⟨_, rfl⟩
        rw [← eS_7] at hP
        have h := h S_7 eS_7
        obtain ⟨x1_8, ex1_8⟩ : ∃ z : Int32, z = y1 + 1 := ⟨_, rfl⟩
        refine lv_iinc (v := x1_8) (lv' := [(1, .int x1_8), (0, .ref (X.1 0))]) hx hb dX7_undo_53 hl (k := 1) rfl (by rw [ex1_8]; rfl) (by decide) rfl (fun ls hl => ?_)
        have h := h x1_8 ex1_8
        refine lv_goto (tgt := 27) hx hb dX7_undo_56 (by decide) ?_
        exact ih x1_8 S_7 H locs ls hP hS (lv_sub hl [1, 0] rfl) h
  have hl := lv_entry ([.ref (X.1 0)]) (n := 2) (Nat.le_of_ble_eq_true rfl)
  rw [lg_entry_eq]
  generalize (lg_sl ([.ref (X.1 0)]) ++ List.replicate (2 - (lg_sl ([.ref (X.1 0)])).length) Slot.unset).toArray = ls at hl ⊢
  have hl : lv_has ls 2 [(0, .ref (X.1 0))] := hl
  obtain ⟨H, hH⟩ : ∃ H : Heap, H = s.heap := ⟨_, rfl⟩
  obtain ⟨locs, hlc⟩ : ∃ q : List Loc, q = [] := ⟨_, rfl⟩
  have hS : va_S (AX 18 X.1 s.heap.size) s.heap H locs := by rw [hH, hlc]; exact hS
  have hP : va_P D vwCl (RW X S) H := by rw [hH]; exact hP
  show W p l e (headSpec (Cond.code yX7_undo cX7_undo 2 (some .int) :: lw_gd) rm_X7_undo).room s m ([.ref (X.1 0)] : List Value).toArray below meth c s.heap [] 0 0 (MQ below (va_Qi post (gB D (RW X)) (AX 18 X.1 s.heap.size)) ([.ref (X.1 0)] : List Value).toArray s 0 0 (AX 18 X.1 s.heap.size)) _
  suffices hgo : W p l e (headSpec (Cond.code yX7_undo cX7_undo 2 (some .int) :: lw_gd) rm_X7_undo).room s m ([.ref (X.1 0)] : List Value).toArray below meth c H locs 0 0 (MQ below (va_Qi post (gB D (RW X)) (AX 18 X.1 s.heap.size)) ([.ref (X.1 0)] : List Value).toArray s 0 0 (AX 18 X.1 s.heap.size)) (F0 m 0 ls []) from by rw [hH, hlc] at hgo; exact hgo
  unfold p_X7_undo at h
  refine lv_aload_n hx hb dX7_undo_0 rfl (lv_at hl 0 rfl) ?_
  refine lv_iconst (v := 0) hx hb dX7_undo_1 (by decide) ?_
  refine va_put (D := D) (ci := 7) (v := .int 0) (ty := .int) (C := RX7) (T := TX7) (N := 28) hx hb hT inX7 tyX7 tyX7_ok nmX7 hown hK hP (gw_D hX) hS 0 rw_Model rfl 0 (by decide) (hT _ wf_X7_68) (fun _ h9 => h9) rfl (by decide +kernel) rfl rfl (Nat.le_of_ble_eq_true rfl) dX7_undo_2 (fun H locs hP _ hS => ?_)
  have hP := rw_st (j := 0) (x := 0) rfl hP
  obtain ⟨S_1, eS_1⟩ : ∃ z : CS, z = sti S 0 0 0 := ⟨_, rfl⟩
  rw [← eS_1] at hP
  have h := h S_1 eS_1
  refine lv_aload_n hx hb dX7_undo_5 rfl (lv_at hl 0 rfl) ?_
  refine va_get (D := D) (ci := 7) (v := .int (S_1.1 0 21)) (C := RX7) (T := TX7) (N := 28) hx hb hT inX7 hown hK hP 0 rw_Model rfl 21 (by decide) (hT _ wf_X7_133) (fun _ h9 => h9) rfl dX7_undo_6 ?_
  refine lv_if_ne (tgt := 15) hx hb dX7_undo_9 (by decide) (fun c_2 => ?_) (fun c_2 => ?_)
  · have h := h.2 c_2
    refine lv_aload_n hx hb dX7_undo_15 rfl (lv_at hl 0 rfl) ?_
    refine lv_dup hx hb dX7_undo_16 rfl ?_
    refine va_get (D := D) (ci := 7) (v := .int (S_1.1 0 21)) (C := RX7) (T := TX7) (N := 28) hx hb hT inX7 hown hK hP 0 rw_Model rfl 21 (by decide) (hT _ wf_X7_133) (fun _ h9 => h9) rfl dX7_undo_17 ?_
    refine lv_iconst (v := 1) hx hb dX7_undo_20 (by decide) ?_
    refine lv_isub hx hb dX7_undo_21 ?_
    refine lv_topi (fun u_3 eu_3 => ?_)
    have h := h u_3 eu_3
    refine va_put (D := D) (ci := 7) (v := .int u_3) (ty := .int) (C := RX7) (T := TX7) (N := 28) hx hb hT inX7 tyX7 tyX7_ok nmX7 hown hK hP (gw_D hX) hS 0 rw_Model rfl 21 (by decide) (hT _ wf_X7_133) (fun _ h9 => h9) rfl (by decide +kernel) rfl rfl (Nat.le_of_ble_eq_true rfl) dX7_undo_22 (fun H locs hP _ hS => ?_)
    have hP := rw_st (j := 21) (x := u_3) rfl hP
    obtain ⟨S_4, eS_4⟩ : ∃ z : CS, z = sti S_1 0 21 u_3 := ⟨_, rfl⟩
    rw [← eS_4] at hP
    have h := h S_4 eS_4
    refine lv_iconst (v := 0) hx hb dX7_undo_25 (by decide) ?_
    refine lv_istore_n (lv' := [(1, .int 0), (0, .ref (X.1 0))]) hx hb dX7_undo_26 rfl hl (by decide) rfl (fun ls hl => ?_)
    obtain ⟨n1, h⟩ := h
    exact W27  n1 0 S_4 H locs ls hP hS (lv_sub hl [1, 0] rfl) h
  · have h := h.1 c_2
    refine lv_bipush (v := (-2)) hx hb dX7_undo_12 (by decide) ?_
    exact W.iret (v := (-2)) hx hb hr (fun t ht hW => ⟨⟨(-2), S_1, rfl, h, gB_of ht hP⟩, hS.F ht⟩) hS.2.2 dX7_undo_14

abbrev rm_X7_asNow : Room := { frames := 0, cells := 0, slots := 0, locals := 0 }
def q_X7_asNow_2  (post : CS → Prop) : Nat → Int32 → CS → Prop
  | 0, _, _ => False
  | n9 + 1, y1, S => (21 ≤ y1 → (post S)) ∧ (¬ (21 ≤ y1) → (vp_in y1 21 ∧ (∀ u_2 : Int32, u_2 = S.1 8 y1.toNatClampNeg → (vp_in y1 21 ∧ (∀ S_3 : CS, S_3 = sti S 9 y1.toNatClampNeg u_2 → (∀ x1_4 : Int32, x1_4 = y1 + 1 → (q_X7_asNow_2 post n9 x1_4 S_3)))))))
def p_X7_asNow (S : CS)  (post : CS → Prop) : Prop := ∃ n, q_X7_asNow_2 post n 0 S
set_option maxHeartbeats 4000000 in
set_option maxRecDepth 100000 in
theorem c_X7_asNow (l : Launch) (D : va_G) (X : XE) (hX : Inj 18 X.1) (sz : Nat) (S : CS)  (post : CS → Prop) (h : p_X7_asNow S  post) : Met l yX7_asNow (Cond.code yX7_asNow cX7_asNow 2 none :: lw_gd) rm_X7_asNow (gPc D (tyX X) (RW X) (FXr X) (AX 18 X.1 sz) sz S [.ref (X.1 0)]) (va_Qv post (gB D (RW X)) (AX 18 X.1 sz)) 0 0 (AX 18 X.1 sz) := by
  refine Met.ofW (cc := cX7_asNow) (maxL := 2) (ret := none) (by decide) rfl ?_
  intro p e s m args below meth c s₁ B hml hv
  obtain ⟨rfl, hsz, hP, hK, hF⟩ := hv
  have hx := B.exec
  have hb := B.bytes
  have hr := B.returns
  have hts := atoms_spec (ws := (Cond.code yX7_asNow cX7_asNow 2 none :: lw_gd)) B.pre
  have hT : ∀ w ∈ lw_gd, w.before _ s = true := fun w h9 => hts w (List.mem_cons_of_mem _ h9)
  have hown : s.vm.findClass RX7 = some m.cls := findClass_of_methodNamed B.named
  have hlocks := B.notSynchronized
  subst hsz
  have hS : va_S (AX 18 X.1 s.heap.size) s.heap s.heap [] := va_S.rf
  have W2 : ∀ n1 : Nat, ∀ (y1 : Int32) (S : CS) (H : Heap) (locs : List Loc) (ls : Array Slot), va_P D vwCl (RW X S) H → va_S (AX 18 X.1 s.heap.size) s.heap H locs → lv_has ls 2 [(0, .ref (X.1 0)), (1, .int y1)] → q_X7_asNow_2 post n1 y1 S → W p l e (headSpec (Cond.code yX7_asNow cX7_asNow 2 none :: lw_gd) rm_X7_asNow).room s m ([.ref (X.1 0)] : List Value).toArray below meth c H locs 0 0 (MQ below (va_Qv post (gB D (RW X)) (AX 18 X.1 s.heap.size)) ([.ref (X.1 0)] : List Value).toArray s 0 0 (AX 18 X.1 s.heap.size)) (F0 m 2 ls []) := by
    intro n1
    induction n1 with
    | zero => intro y1 S H locs ls hP hS hl h; exact h.elim
    | succ n9 ih =>
      intro y1 S H locs ls hP hS hl h
      rw [q_X7_asNow_2] at h
      refine lv_iload_n hx hb dX7_asNow_2 rfl (lv_at hl 1 rfl) ?_
      refine lv_bipush (v := 21) hx hb dX7_asNow_3 (by decide) ?_
      refine lv_icmp_ge (tgt := 26) hx hb dX7_asNow_5 (by decide) (fun c_1 => ?_) (fun c_1 => ?_)
      · have h := h.1 c_1
        exact W.vret hx hb hr (fun t ht hW => ⟨⟨S, rfl, h, gB_of ht hP⟩, hS.F ht⟩) hS.2.2 dX7_asNow_26
      · have h := h.2 c_1
        refine lv_aload_n hx hb dX7_asNow_8 rfl (lv_at hl 0 rfl) ?_
        refine va_get (D := D) (ci := 7) (v := .ref (X.1 9)) (C := RX7) (T := TX7) (N := 28) hx hb hT inX7 hown hK hP 0 rw_Model rfl 17 (by decide) (hT _ wf_X7_34) (fun _ h9 => h9) rfl dX7_asNow_9 ?_
        refine lv_iload_n hx hb dX7_asNow_12 rfl (lv_at hl 1 rfl) ?_
        refine lv_aload_n hx hb dX7_asNow_13 rfl (lv_at hl 0 rfl) ?_
        refine va_get (D := D) (ci := 7) (v := .ref (X.1 8)) (C := RX7) (T := TX7) (N := 28) hx hb hT inX7 hown hK hP 0 rw_Model rfl 16 (by decide) (hT _ wf_X7_31) (fun _ h9 => h9) rfl dX7_asNow_14 ?_
        refine lv_iload_n hx hb dX7_asNow_17 rfl (lv_at hl 1 rfl) ?_
        obtain ⟨hi, h⟩ := h
        refine g_iald hx hb hK hP 8 rw_8 rfl hi y1.toNatClampNeg rfl dX7_asNow_18 ?_
        refine lv_topi (fun u_2 eu_2 => ?_)
        have h := h u_2 eu_2
        obtain ⟨hi, h⟩ := h
        refine g_iast hx hb hK hP (gw_D hX) hS 9 rw_9 rfl hi y1.toNatClampNeg rfl dX7_asNow_19 (fun H locs hP hS => ?_)
        have hP := rw_st (j := y1.toNatClampNeg) (x := u_2) rfl hP
        obtain ⟨S_3, eS_3⟩ : ∃ z : CS, z = sti S 9 y1.toNatClampNeg u_2 := ⟨_, rfl⟩
        rw [← eS_3] at hP
        have h := h S_3 eS_3
        obtain ⟨x1_4, ex1_4⟩ : ∃ z : Int32, z = y1 + 1 := ⟨_, rfl⟩
        refine lv_iinc (v := x1_4) (lv' := [(1, .int x1_4), (0, .ref (X.1 0))]) hx hb dX7_asNow_20 hl (k := 1) rfl (by rw [ex1_4]; rfl) (by decide) rfl (fun ls hl => ?_)
        have h := h x1_4 ex1_4
        refine lv_goto (tgt := 2) hx hb dX7_asNow_23 (by decide) ?_
        exact ih x1_4 S_3 H locs ls hP hS (lv_sub hl [1, 0] rfl) h
  have hl := lv_entry ([.ref (X.1 0)]) (n := 2) (Nat.le_of_ble_eq_true rfl)
  rw [lg_entry_eq]
  generalize (lg_sl ([.ref (X.1 0)]) ++ List.replicate (2 - (lg_sl ([.ref (X.1 0)])).length) Slot.unset).toArray = ls at hl ⊢
  have hl : lv_has ls 2 [(0, .ref (X.1 0))] := hl
  obtain ⟨H, hH⟩ : ∃ H : Heap, H = s.heap := ⟨_, rfl⟩
  obtain ⟨locs, hlc⟩ : ∃ q : List Loc, q = [] := ⟨_, rfl⟩
  have hS : va_S (AX 18 X.1 s.heap.size) s.heap H locs := by rw [hH, hlc]; exact hS
  have hP : va_P D vwCl (RW X S) H := by rw [hH]; exact hP
  show W p l e (headSpec (Cond.code yX7_asNow cX7_asNow 2 none :: lw_gd) rm_X7_asNow).room s m ([.ref (X.1 0)] : List Value).toArray below meth c s.heap [] 0 0 (MQ below (va_Qv post (gB D (RW X)) (AX 18 X.1 s.heap.size)) ([.ref (X.1 0)] : List Value).toArray s 0 0 (AX 18 X.1 s.heap.size)) _
  suffices hgo : W p l e (headSpec (Cond.code yX7_asNow cX7_asNow 2 none :: lw_gd) rm_X7_asNow).room s m ([.ref (X.1 0)] : List Value).toArray below meth c H locs 0 0 (MQ below (va_Qv post (gB D (RW X)) (AX 18 X.1 s.heap.size)) ([.ref (X.1 0)] : List Value).toArray s 0 0 (AX 18 X.1 s.heap.size)) (F0 m 0 ls []) from by rw [hH, hlc] at hgo; exact hgo
  unfold p_X7_asNow at h
  refine lv_iconst (v := 0) hx hb dX7_asNow_0 (by decide) ?_
  refine lv_istore_n (lv' := [(1, .int 0), (0, .ref (X.1 0))]) hx hb dX7_asNow_1 rfl hl (by decide) rfl (fun ls hl => ?_)
  obtain ⟨n1, h⟩ := h
  exact W2  n1 0 S H locs ls hP hS (lv_sub hl [1, 0] rfl) h

abbrev rm_X7_inYears : Room := { frames := 2, cells := 0, slots := 0, locals := 43 }
def p_X7_inYears (S : CS) (x1 : Int32) (x2 : Int32) (post : Int32 → CS → Prop) : Prop := ∀ S_1 : CS, S_1 = sti S 0 0 0 → (p_X7_isPart S_1 x1 (fun r_3 S_2 => ((r_3 = 0 → (post (-1) S_2)) ∧ (¬ (r_3 = 0) → (p_X7_in S_2 x2 0 30 (fun r_6 S_5 => ((r_6 = 0 → (post (-1) S_5)) ∧ (¬ (r_6 = 0) → (vp_in (15 + x1) 21 ∧ (∀ x3_8 : Int32, x3_8 = ((S_5.1 8 ((15 + x1).toNatClampNeg)) + x2) → (vp_in x1 12 ∧ ((x3_8 ≤ 40 → (p_X7_givesAt S_5 (S_5.1 3 x1.toNatClampNeg) x3_8 (fun r_11 S_10 => (post r_11 S_10)))) ∧ (¬ (x3_8 ≤ 40) → (p_X7_givesAt S_5 (S_5.1 3 x1.toNatClampNeg) 40 (fun r_13 S_12 => (post r_13 S_12))))))))))))))))
set_option maxHeartbeats 4000000 in
set_option maxRecDepth 100000 in
theorem c_X7_inYears (l : Launch) (D : va_G) (X : XE) (hX : Inj 18 X.1) (sz : Nat) (S : CS) (x1 : Int32) (x2 : Int32) (post : Int32 → CS → Prop) (h : p_X7_inYears S x1 x2 post) : Met l yX7_inYears (Cond.code yX7_inYears cX7_inYears 4 (some .int) :: lw_gd) rm_X7_inYears (gPc D (tyX X) (RW X) (FXr X) (AX 18 X.1 sz) sz S [.ref (X.1 0), .int x1, .int x2]) (va_Qi post (gB D (RW X)) (AX 18 X.1 sz)) 0 0 (AX 18 X.1 sz) := by
  refine Met.ofW (cc := cX7_inYears) (maxL := 4) (ret := (some .int)) (by decide) rfl ?_
  intro p e s m args below meth c s₁ B hml hv
  obtain ⟨rfl, hsz, hP, hK, hF⟩ := hv
  have hx := B.exec
  have hb := B.bytes
  have hr := B.returns
  have hts := atoms_spec (ws := (Cond.code yX7_inYears cX7_inYears 4 (some .int) :: lw_gd)) B.pre
  have hT : ∀ w ∈ lw_gd, w.before _ s = true := fun w h9 => hts w (List.mem_cons_of_mem _ h9)
  have hown : s.vm.findClass RX7 = some m.cls := findClass_of_methodNamed B.named
  have hlocks := B.notSynchronized
  subst hsz
  have hS : va_S (AX 18 X.1 s.heap.size) s.heap s.heap [] := va_S.rf
  have hl := lv_entry ([.ref (X.1 0), .int x1, .int x2]) (n := 4) (Nat.le_of_ble_eq_true rfl)
  rw [lg_entry_eq]
  generalize (lg_sl ([.ref (X.1 0), .int x1, .int x2]) ++ List.replicate (4 - (lg_sl ([.ref (X.1 0), .int x1, .int x2])).length) Slot.unset).toArray = ls at hl ⊢
  have hl : lv_has ls 4 [(0, .ref (X.1 0)), (1, .int x1), (2, .int x2)] := hl
  obtain ⟨H, hH⟩ : ∃ H : Heap, H = s.heap := ⟨_, rfl⟩
  obtain ⟨locs, hlc⟩ : ∃ q : List Loc, q = [] := ⟨_, rfl⟩
  have hS : va_S (AX 18 X.1 s.heap.size) s.heap H locs := by rw [hH, hlc]; exact hS
  have hP : va_P D vwCl (RW X S) H := by rw [hH]; exact hP
  show W p l e (headSpec (Cond.code yX7_inYears cX7_inYears 4 (some .int) :: lw_gd) rm_X7_inYears).room s m ([.ref (X.1 0), .int x1, .int x2] : List Value).toArray below meth c s.heap [] 0 0 (MQ below (va_Qi post (gB D (RW X)) (AX 18 X.1 s.heap.size)) ([.ref (X.1 0), .int x1, .int x2] : List Value).toArray s 0 0 (AX 18 X.1 s.heap.size)) _
  suffices hgo : W p l e (headSpec (Cond.code yX7_inYears cX7_inYears 4 (some .int) :: lw_gd) rm_X7_inYears).room s m ([.ref (X.1 0), .int x1, .int x2] : List Value).toArray below meth c H locs 0 0 (MQ below (va_Qi post (gB D (RW X)) (AX 18 X.1 s.heap.size)) ([.ref (X.1 0), .int x1, .int x2] : List Value).toArray s 0 0 (AX 18 X.1 s.heap.size)) (F0 m 0 ls []) from by rw [hH, hlc] at hgo; exact hgo
  unfold p_X7_inYears at h
  refine lv_aload_n hx hb dX7_inYears_0 rfl (lv_at hl 0 rfl) ?_
  refine lv_iconst (v := 0) hx hb dX7_inYears_1 (by decide) ?_
  refine va_put (D := D) (ci := 7) (v := .int 0) (ty := .int) (C := RX7) (T := TX7) (N := 28) hx hb hT inX7 tyX7 tyX7_ok nmX7 hown hK hP (gw_D hX) hS 0 rw_Model rfl 0 (by decide) (hT _ wf_X7_68) (fun _ h9 => h9) rfl (by decide +kernel) rfl rfl (Nat.le_of_ble_eq_true rfl) dX7_inYears_2 (fun H locs hP _ hS => ?_)
  have hP := rw_st (j := 0) (x := 0) rfl hP
  obtain ⟨S_1, eS_1⟩ : ∃ z : CS, z = sti S 0 0 0 := ⟨_, rfl⟩
  rw [← eS_1] at hP
  have h := h S_1 eS_1
  refine lv_aload_n hx hb dX7_inYears_5 rfl (lv_at hl 0 rfl) ?_
  refine lv_iload_n hx hb dX7_inYears_6 rfl (lv_at hl 1 rfl) ?_
  refine rVi (As := [.int x1]) (rest := []) hX ⟨hx, hb, hml, hown, hT⟩ (c_X7_isPart l D X hX H.size S_1 x1 _ h) (gd_V wl_X7_139 wi_X7_isPart wv_X7_isPart wn_X7 wc_X7_isPart) rfl hd_X7_isPart ⟨rfl, rfl⟩ ⟨Nat.le_of_ble_eq_true rfl, Nat.le_of_ble_eq_true rfl⟩ (va_recv hK hP (ci := 7) (q0 := 0) rfl rw_Model) hK hP hS hF rfl hl.1 rfl (Nat.le_of_ble_eq_true rfl) dX7_inYears_7 ⟨Nat.zero_le _, Nat.zero_le _⟩ (fun r_3 S_2 H locs h hP hS => ?_)
  refine lv_if_eq (tgt := 23) hx hb dX7_inYears_10 (by decide) (fun c_4 => ?_) (fun c_4 => ?_)
  · have h := h.1 c_4
    refine lv_iconst (v := (-1)) hx hb dX7_inYears_23 (by decide) ?_
    exact W.iret (v := (-1)) hx hb hr (fun t ht hW => ⟨⟨(-1), S_2, rfl, h, gB_of ht hP⟩, hS.F ht⟩) hS.2.2 dX7_inYears_24
  · have h := h.2 c_4
    refine lv_iload_n hx hb dX7_inYears_13 rfl (lv_at hl 2 rfl) ?_
    refine lv_iconst (v := 0) hx hb dX7_inYears_14 (by decide) ?_
    refine lv_bipush (v := 30) hx hb dX7_inYears_15 (by decide) ?_
    refine rSi (As := [.int x2, .int 0, .int 30]) (rest := []) hX ⟨hx, hb, hml, hown, hT⟩ (c_X7_in l D X hX H.size S_2 x2 0 30 _ h) (gd_S wl_X7_72 wt_X7_in wn_X7 wc_X7_in) hd_X7_in ⟨rfl, rfl⟩ ⟨Nat.le_of_ble_eq_true rfl, Nat.le_of_ble_eq_true rfl⟩ hK hP hS hF rfl hl.1 rfl (Nat.le_of_ble_eq_true rfl) dX7_inYears_17 ⟨Nat.zero_le _, Nat.zero_le _⟩ (fun r_6 S_5 H locs h hP hS => ?_)
    refine lv_if_ne (tgt := 25) hx hb dX7_inYears_20 (by decide) (fun c_7 => ?_) (fun c_7 => ?_)
    · have h := h.2 c_7
      refine lv_aload_n hx hb dX7_inYears_25 rfl (lv_at hl 0 rfl) ?_
      refine va_get (D := D) (ci := 7) (v := .ref (X.1 8)) (C := RX7) (T := TX7) (N := 28) hx hb hT inX7 hown hK hP 0 rw_Model rfl 16 (by decide) (hT _ wf_X7_31) (fun _ h9 => h9) rfl dX7_inYears_26 ?_
      refine lv_bipush (v := 15) hx hb dX7_inYears_29 (by decide) ?_
      refine lv_iload_n hx hb dX7_inYears_31 rfl (lv_at hl 1 rfl) ?_
      refine lv_iadd hx hb dX7_inYears_32 ?_
      obtain ⟨hi, h⟩ := h
      refine g_iald hx hb hK hP 8 rw_8 rfl hi ((15 + x1).toNatClampNeg) rfl dX7_inYears_33 ?_
      refine lv_iload_n hx hb dX7_inYears_34 rfl (lv_at hl 2 rfl) ?_
      refine lv_iadd hx hb dX7_inYears_35 ?_
      refine lv_topi (fun x3_8 ex3_8 => ?_)
      have h := h x3_8 ex3_8
      refine lv_istore_n (lv' := [(3, .int x3_8), (0, .ref (X.1 0)), (1, .int x1), (2, .int x2)]) hx hb dX7_inYears_36 rfl hl (by decide) rfl (fun ls hl => ?_)
      refine lv_aload_n hx hb dX7_inYears_37 rfl (lv_at hl 1 rfl) ?_
      refine lv_aload_n hx hb dX7_inYears_38 rfl (lv_at hl 1 rfl) ?_
      refine va_get (D := D) (ci := 7) (v := .ref (X.1 3)) (C := RX7) (T := TX7) (N := 28) hx hb hT inX7 hown hK hP 0 rw_Model rfl 11 (by decide) (hT _ wf_X7_16) (fun _ h9 => h9) rfl dX7_inYears_39 ?_
      refine lv_iload_n hx hb dX7_inYears_42 rfl (lv_at hl 2 rfl) ?_
      obtain ⟨hi, h⟩ := h
      refine g_iald hx hb hK hP 3 rw_3 rfl hi x1.toNatClampNeg rfl dX7_inYears_43 ?_
      refine lv_iload_n hx hb dX7_inYears_44 rfl (lv_at hl 0 rfl) ?_
      refine lv_bipush (v := 40) hx hb dX7_inYears_45 (by decide) ?_
      refine lv_icmp_le (tgt := 55) hx hb dX7_inYears_47 (by decide) (fun c_9 => ?_) (fun c_9 => ?_)
      · have h := h.1 c_9
        refine lv_iload_n hx hb dX7_inYears_55 rfl (lv_at hl 0 rfl) ?_
        refine rVi (As := [.int (S_5.1 3 x1.toNatClampNeg), .int x3_8]) (rest := []) hX ⟨hx, hb, hml, hown, hT⟩ (c_X7_givesAt l D X hX H.size S_5 (S_5.1 3 x1.toNatClampNeg) x3_8 _ h) (gd_V wl_X7_136 wi_X7_givesAt wv_X7_givesAt wn_X7 wc_X7_givesAt) rfl hd_X7_givesAt ⟨rfl, rfl⟩ ⟨Nat.le_of_ble_eq_true rfl, Nat.le_of_ble_eq_true rfl⟩ (va_recv hK hP (ci := 7) (q0 := 0) rfl rw_Model) hK hP hS hF rfl hl.1 rfl (Nat.le_of_ble_eq_true rfl) dX7_inYears_56 ⟨Nat.zero_le _, Nat.zero_le _⟩ (fun r_11 S_10 H locs h hP hS => ?_)
        exact W.iret (v := r_11) hx hb hr (fun t ht hW => ⟨⟨r_11, S_10, rfl, h, gB_of ht hP⟩, hS.F ht⟩) hS.2.2 dX7_inYears_59
      · have h := h.2 c_9
        refine lv_bipush (v := 40) hx hb dX7_inYears_50 (by decide) ?_
        refine lv_goto (tgt := 56) hx hb dX7_inYears_52 (by decide) ?_
        refine rVi (As := [.int (S_5.1 3 x1.toNatClampNeg), .int 40]) (rest := []) hX ⟨hx, hb, hml, hown, hT⟩ (c_X7_givesAt l D X hX H.size S_5 (S_5.1 3 x1.toNatClampNeg) 40 _ h) (gd_V wl_X7_136 wi_X7_givesAt wv_X7_givesAt wn_X7 wc_X7_givesAt) rfl hd_X7_givesAt ⟨rfl, rfl⟩ ⟨Nat.le_of_ble_eq_true rfl, Nat.le_of_ble_eq_true rfl⟩ (va_recv hK hP (ci := 7) (q0 := 0) rfl rw_Model) hK hP hS hF rfl hl.1 rfl (Nat.le_of_ble_eq_true rfl) dX7_inYears_56 ⟨Nat.zero_le _, Nat.zero_le _⟩ (fun r_13 S_12 H locs h hP hS => ?_)
        exact W.iret (v := r_13) hx hb hr (fun t ht hW => ⟨⟨r_13, S_12, rfl, h, gB_of ht hP⟩, hS.F ht⟩) hS.2.2 dX7_inYears_59
    · have h := h.1 c_7
      refine lv_iconst (v := (-1)) hx hb dX7_inYears_23 (by decide) ?_
      exact W.iret (v := (-1)) hx hb hr (fun t ht hW => ⟨⟨(-1), S_5, rfl, h, gB_of ht hP⟩, hS.F ht⟩) hS.2.2 dX7_inYears_24

abbrev rm_X7_gcd : Room := { frames := 0, cells := 0, slots := 0, locals := 0 }
def q_X7_gcd_4 (x0 : Int32) (x1 : Int32) (post : Int32 → CS → Prop) : Nat → Int32 → Int32 → CS → Prop
  | 0, _, _, _ => False
  | n9 + 1, y2, y3, S => (y3 = 0 → (post y2 S)) ∧ (¬ (y3 = 0) → ((¬ y3 = 0) ∧ (∀ x4_2 : Int32, x4_2 = (y2 - y2 / y3 * y3) → (q_X7_gcd_4 x0 x1 post n9 y3 x4_2 S))))
def p_X7_gcd (S : CS) (x0 : Int32) (x1 : Int32) (post : Int32 → CS → Prop) : Prop := ∃ n, q_X7_gcd_4 x0 x1 post n x0 x1 S
set_option maxHeartbeats 4000000 in
set_option maxRecDepth 100000 in
theorem c_X7_gcd (l : Launch) (D : va_G) (X : XE) (hX : Inj 18 X.1) (sz : Nat) (S : CS) (x0 : Int32) (x1 : Int32) (post : Int32 → CS → Prop) (h : p_X7_gcd S x0 x1 post) : Met l yX7_gcd (Cond.code yX7_gcd cX7_gcd 5 (some .int) :: lw_gd) rm_X7_gcd (gPc D (tyX X) (RW X) (FXr X) (AX 18 X.1 sz) sz S [.int x0, .int x1]) (va_Qi post (gB D (RW X)) (AX 18 X.1 sz)) 0 0 (AX 18 X.1 sz) := by
  refine Met.ofW (cc := cX7_gcd) (maxL := 5) (ret := (some .int)) (by decide) rfl ?_
  intro p e s m args below meth c s₁ B hml hv
  obtain ⟨rfl, hsz, hP, hK, hF⟩ := hv
  have hx := B.exec
  have hb := B.bytes
  have hr := B.returns
  have hts := atoms_spec (ws := (Cond.code yX7_gcd cX7_gcd 5 (some .int) :: lw_gd)) B.pre
  have hT : ∀ w ∈ lw_gd, w.before _ s = true := fun w h9 => hts w (List.mem_cons_of_mem _ h9)
  have hown : s.vm.findClass RX7 = some m.cls := findClass_of_methodNamed B.named
  have hlocks := B.notSynchronized
  subst hsz
  have hS : va_S (AX 18 X.1 s.heap.size) s.heap s.heap [] := va_S.rf
  have W4 : ∀ n1 : Nat, ∀ (y2 : Int32) (y3 : Int32) (S : CS) (H : Heap) (locs : List Loc) (ls : Array Slot), va_P D vwCl (RW X S) H → va_S (AX 18 X.1 s.heap.size) s.heap H locs → lv_has ls 5 [(2, .int y2), (3, .int y3)] → q_X7_gcd_4 x0 x1 post n1 y2 y3 S → W p l e (headSpec (Cond.code yX7_gcd cX7_gcd 5 (some .int) :: lw_gd) rm_X7_gcd).room s m ([.int x0, .int x1] : List Value).toArray below meth c H locs 0 0 (MQ below (va_Qi post (gB D (RW X)) (AX 18 X.1 s.heap.size)) ([.int x0, .int x1] : List Value).toArray s 0 0 (AX 18 X.1 s.heap.size)) (F0 m 4 ls []) := by
    intro n1
    induction n1 with
    | zero => intro y2 y3 S H locs ls hP hS hl h; exact h.elim
    | succ n9 ih =>
      intro y2 y3 S H locs ls hP hS hl h
      rw [q_X7_gcd_4] at h
      refine lv_iload_n hx hb dX7_gcd_4 rfl (lv_at hl 1 rfl) ?_
      refine lv_if_eq (tgt := 21) hx hb dX7_gcd_5 (by decide) (fun c_1 => ?_) (fun c_1 => ?_)
      · have h := h.1 c_1
        refine lv_iload_n hx hb dX7_gcd_21 rfl (lv_at hl 0 rfl) ?_
        exact W.iret (v := y2) hx hb hr (fun t ht hW => ⟨⟨y2, S, rfl, h, gB_of ht hP⟩, hS.F ht⟩) hS.2.2 dX7_gcd_22
      · have h := h.2 c_1
        refine lv_iload_n hx hb dX7_gcd_8 rfl (lv_at hl 0 rfl) ?_
        refine lv_iload_n hx hb dX7_gcd_9 rfl (lv_at hl 1 rfl) ?_
        obtain ⟨hne, h⟩ := h
        refine lv_irem hx hb dX7_gcd_10 hne ?_
        refine lv_topi (fun x4_2 ex4_2 => ?_)
        have h := h x4_2 ex4_2
        refine lv_istore (lv' := [(4, .int x4_2), (2, .int y2), (3, .int y3)]) hx hb dX7_gcd_11 hl (by decide) rfl (fun ls hl => ?_)
        refine lv_iload_n hx hb dX7_gcd_13 rfl (lv_at hl 2 rfl) ?_
        refine lv_istore_n (lv' := [(2, .int y3), (4, .int x4_2), (3, .int y3)]) hx hb dX7_gcd_14 rfl hl (by decide) rfl (fun ls hl => ?_)
        refine lv_iload hx hb dX7_gcd_15 (lv_at hl 1 rfl) ?_
        refine lv_istore_n (lv' := [(3, .int x4_2), (2, .int y3), (4, .int x4_2)]) hx hb dX7_gcd_17 rfl hl (by decide) rfl (fun ls hl => ?_)
        refine lv_goto (tgt := 4) hx hb dX7_gcd_18 (by decide) ?_
        exact ih y3 x4_2 S H locs ls hP hS (lv_sub hl [1, 0] rfl) h
  have hl := lv_entry ([.int x0, .int x1]) (n := 5) (Nat.le_of_ble_eq_true rfl)
  rw [lg_entry_eq]
  generalize (lg_sl ([.int x0, .int x1]) ++ List.replicate (5 - (lg_sl ([.int x0, .int x1])).length) Slot.unset).toArray = ls at hl ⊢
  have hl : lv_has ls 5 [(0, .int x0), (1, .int x1)] := hl
  obtain ⟨H, hH⟩ : ∃ H : Heap, H = s.heap := ⟨_, rfl⟩
  obtain ⟨locs, hlc⟩ : ∃ q : List Loc, q = [] := ⟨_, rfl⟩
  have hS : va_S (AX 18 X.1 s.heap.size) s.heap H locs := by rw [hH, hlc]; exact hS
  have hP : va_P D vwCl (RW X S) H := by rw [hH]; exact hP
  show W p l e (headSpec (Cond.code yX7_gcd cX7_gcd 5 (some .int) :: lw_gd) rm_X7_gcd).room s m ([.int x0, .int x1] : List Value).toArray below meth c s.heap [] 0 0 (MQ below (va_Qi post (gB D (RW X)) (AX 18 X.1 s.heap.size)) ([.int x0, .int x1] : List Value).toArray s 0 0 (AX 18 X.1 s.heap.size)) _
  suffices hgo : W p l e (headSpec (Cond.code yX7_gcd cX7_gcd 5 (some .int) :: lw_gd) rm_X7_gcd).room s m ([.int x0, .int x1] : List Value).toArray below meth c H locs 0 0 (MQ below (va_Qi post (gB D (RW X)) (AX 18 X.1 s.heap.size)) ([.int x0, .int x1] : List Value).toArray s 0 0 (AX 18 X.1 s.heap.size)) (F0 m 0 ls []) from by rw [hH, hlc] at hgo; exact hgo
  unfold p_X7_gcd at h
  refine lv_iload_n hx hb dX7_gcd_0 rfl (lv_at hl 0 rfl) ?_
  refine lv_istore_n (lv' := [(2, .int x0), (0, .int x0), (1, .int x1)]) hx hb dX7_gcd_1 rfl hl (by decide) rfl (fun ls hl => ?_)
  refine lv_iload_n hx hb dX7_gcd_2 rfl (lv_at hl 2 rfl) ?_
  refine lv_istore_n (lv' := [(3, .int x1), (2, .int x0), (0, .int x0), (1, .int x1)]) hx hb dX7_gcd_3 rfl hl (by decide) rfl (fun ls hl => ?_)
  obtain ⟨n1, h⟩ := h
  exact W4  n1 x0 x1 S H locs ls hP hS (lv_sub hl [1, 0] rfl) h

abbrev rm_X7_turn : Room := { frames := 1, cells := 0, slots := 0, locals := 24 }
def q_X7_turn_31 (x1 : Int32) (x2 : Int32) (post : Int32 → CS → Prop) : Nat → Int32 → Int32 → CS → Prop
  | 0, _, _, _ => False
  | n9 + 1, y3, y4, S => (30 < y4 → (p_X7_givesAt S 1 x1 (fun r_10 S_9 => (p_X7_gcd S_9 r_10 x1 (fun r_12 S_11 => ((x2 = 0 → (p_X7_givesAt S_11 1 x1 (fun r_16 S_15 => ((¬ r_12 = 0) ∧ (post (r_16 / r_12) S_15))))) ∧ (¬ (x2 = 0) → ((x2 = 1 → ((¬ r_12 = 0) ∧ (post (x1 / r_12) S_11))) ∧ (¬ (x2 = 1) → (post y3 S_11)))))))))) ∧ (¬ (30 < y4) → (p_X7_givesAt S 1 y4 (fun r_18 S_17 => (p_X7_givesAt S_17 1 y3 (fun r_20 S_19 => (((r_18 * y3) ≤ (r_20 * y4) → (∀ x4_22 : Int32, x4_22 = y4 + 1 → (q_X7_turn_31 x1 x2 post n9 y3 x4_22 S_19))) ∧ (¬ ((r_18 * y3) ≤ (r_20 * y4)) → (∀ x4_23 : Int32, x4_23 = y4 + 1 → (q_X7_turn_31 x1 x2 post n9 y4 x4_23 S_19)))))))))
def p_X7_turn (S : CS) (x1 : Int32) (x2 : Int32) (post : Int32 → CS → Prop) : Prop := ∀ S_1 : CS, S_1 = sti S 0 0 0 → (p_X7_in S_1 x1 1 30 (fun r_3 S_2 => ((r_3 = 0 → (post (-1) S_2)) ∧ (¬ (r_3 = 0) → (p_X7_in S_2 x2 0 2 (fun r_6 S_5 => ((r_6 = 0 → (post (-1) S_5)) ∧ (¬ (r_6 = 0) → (∃ n, q_X7_turn_31 x1 x2 post n 1 2 S_5)))))))))
set_option maxHeartbeats 4000000 in
set_option maxRecDepth 100000 in
theorem c_X7_turn (l : Launch) (D : va_G) (X : XE) (hX : Inj 18 X.1) (sz : Nat) (S : CS) (x1 : Int32) (x2 : Int32) (post : Int32 → CS → Prop) (h : p_X7_turn S x1 x2 post) : Met l yX7_turn (Cond.code yX7_turn cX7_turn 5 (some .int) :: lw_gd) rm_X7_turn (gPc D (tyX X) (RW X) (FXr X) (AX 18 X.1 sz) sz S [.ref (X.1 0), .int x1, .int x2]) (va_Qi post (gB D (RW X)) (AX 18 X.1 sz)) 0 0 (AX 18 X.1 sz) := by
  refine Met.ofW (cc := cX7_turn) (maxL := 5) (ret := (some .int)) (by decide) rfl ?_
  intro p e s m args below meth c s₁ B hml hv
  obtain ⟨rfl, hsz, hP, hK, hF⟩ := hv
  have hx := B.exec
  have hb := B.bytes
  have hr := B.returns
  have hts := atoms_spec (ws := (Cond.code yX7_turn cX7_turn 5 (some .int) :: lw_gd)) B.pre
  have hT : ∀ w ∈ lw_gd, w.before _ s = true := fun w h9 => hts w (List.mem_cons_of_mem _ h9)
  have hown : s.vm.findClass RX7 = some m.cls := findClass_of_methodNamed B.named
  have hlocks := B.notSynchronized
  subst hsz
  have hS : va_S (AX 18 X.1 s.heap.size) s.heap s.heap [] := va_S.rf
  have W31 : ∀ n1 : Nat, ∀ (y3 : Int32) (y4 : Int32) (S : CS) (H : Heap) (locs : List Loc) (ls : Array Slot), va_P D vwCl (RW X S) H → va_S (AX 18 X.1 s.heap.size) s.heap H locs → lv_has ls 5 [(0, .ref (X.1 0)), (1, .int x1), (2, .int x2), (3, .int y3), (4, .int y4)] → q_X7_turn_31 x1 x2 post n1 y3 y4 S → W p l e (headSpec (Cond.code yX7_turn cX7_turn 5 (some .int) :: lw_gd) rm_X7_turn).room s m ([.ref (X.1 0), .int x1, .int x2] : List Value).toArray below meth c H locs 0 0 (MQ below (va_Qi post (gB D (RW X)) (AX 18 X.1 s.heap.size)) ([.ref (X.1 0), .int x1, .int x2] : List Value).toArray s 0 0 (AX 18 X.1 s.heap.size)) (F0 m 31 ls []) := by
    intro n1
    induction n1 with
    | zero => intro y3 y4 S H locs ls hP hS hl h; exact h.elim
    | succ n9 ih =>
      intro y3 y4 S H locs ls hP hS hl h
      rw [q_X7_turn_31] at h
      refine lv_iload hx hb dX7_turn_31 (lv_at hl 4 rfl) ?_
      refine lv_bipush (v := 30) hx hb dX7_turn_33 (by decide) ?_
      refine lv_icmp_gt (tgt := 72) hx hb dX7_turn_35 (by decide) (fun c_8 => ?_) (fun c_8 => ?_)
      · have h := h.1 c_8
        refine lv_aload_n hx hb dX7_turn_72 rfl (lv_at hl 0 rfl) ?_
        refine lv_iconst (v := 1) hx hb dX7_turn_73 (by decide) ?_
        refine lv_iload_n hx hb dX7_turn_74 rfl (lv_at hl 1 rfl) ?_
        refine rVi (As := [.int 1, .int x1]) (rest := []) hX ⟨hx, hb, hml, hown, hT⟩ (c_X7_givesAt l D X hX H.size S 1 x1 _ h) (gd_V wl_X7_136 wi_X7_givesAt wv_X7_givesAt wn_X7 wc_X7_givesAt) rfl hd_X7_givesAt ⟨rfl, rfl⟩ ⟨Nat.le_of_ble_eq_true rfl, Nat.le_of_ble_eq_true rfl⟩ (va_recv hK hP (ci := 7) (q0 := 0) rfl rw_Model) hK hP hS hF rfl hl.1 rfl (Nat.le_of_ble_eq_true rfl) dX7_turn_75 ⟨Nat.zero_le _, Nat.zero_le _⟩ (fun r_10 S_9 H locs h hP hS => ?_)
        refine lv_iload_n hx hb dX7_turn_78 rfl (lv_at hl 1 rfl) ?_
        refine rSi (As := [.int r_10, .int x1]) (rest := []) hX ⟨hx, hb, hml, hown, hT⟩ (c_X7_gcd l D X hX H.size S_9 r_10 x1 _ h) (gd_S wl_X7_172 wt_X7_gcd wn_X7 wc_X7_gcd) hd_X7_gcd ⟨rfl, rfl⟩ ⟨Nat.le_of_ble_eq_true rfl, Nat.le_of_ble_eq_true rfl⟩ hK hP hS hF rfl hl.1 rfl (Nat.le_of_ble_eq_true rfl) dX7_turn_79 ⟨Nat.zero_le _, Nat.zero_le _⟩ (fun r_12 S_11 H locs h hP hS => ?_)
        refine lv_istore (lv' := [(4, .int r_12), (0, .ref (X.1 0)), (1, .int x1), (2, .int x2), (3, .int y3)]) hx hb dX7_turn_82 hl (by decide) rfl (fun ls hl => ?_)
        refine lv_iload_n hx hb dX7_turn_84 rfl (lv_at hl 3 rfl) ?_
        refine lv_if_ne (tgt := 100) hx hb dX7_turn_85 (by decide) (fun c_13 => ?_) (fun c_13 => ?_)
        · have h := h.2 c_13
          refine lv_iload_n hx hb dX7_turn_100 rfl (lv_at hl 3 rfl) ?_
          refine lv_iconst (v := 1) hx hb dX7_turn_101 (by decide) ?_
          refine lv_icmp_ne (tgt := 112) hx hb dX7_turn_102 (by decide) (fun c_14 => ?_) (fun c_14 => ?_)
          · have h := h.2 c_14
            refine lv_iload_n hx hb dX7_turn_112 rfl (lv_at hl 4 rfl) ?_
            exact W.iret (v := y3) hx hb hr (fun t ht hW => ⟨⟨y3, S_11, rfl, h, gB_of ht hP⟩, hS.F ht⟩) hS.2.2 dX7_turn_113
          · have h := h.1 c_14
            refine lv_iload_n hx hb dX7_turn_105 rfl (lv_at hl 2 rfl) ?_
            refine lv_iload hx hb dX7_turn_106 (lv_at hl 0 rfl) ?_
            obtain ⟨hne, h⟩ := h
            refine lv_idiv hx hb dX7_turn_108 hne ?_
            refine lv_goto (tgt := 113) hx hb dX7_turn_109 (by decide) ?_
            exact W.iret (v := (x1 / r_12)) hx hb hr (fun t ht hW => ⟨⟨(x1 / r_12), S_11, rfl, h, gB_of ht hP⟩, hS.F ht⟩) hS.2.2 dX7_turn_113
        · have h := h.1 c_13
          refine lv_aload_n hx hb dX7_turn_88 rfl (lv_at hl 1 rfl) ?_
          refine lv_iconst (v := 1) hx hb dX7_turn_89 (by decide) ?_
          refine lv_iload_n hx hb dX7_turn_90 rfl (lv_at hl 2 rfl) ?_
          refine rVi (As := [.int 1, .int x1]) (rest := []) hX ⟨hx, hb, hml, hown, hT⟩ (c_X7_givesAt l D X hX H.size S_11 1 x1 _ h) (gd_V wl_X7_136 wi_X7_givesAt wv_X7_givesAt wn_X7 wc_X7_givesAt) rfl hd_X7_givesAt ⟨rfl, rfl⟩ ⟨Nat.le_of_ble_eq_true rfl, Nat.le_of_ble_eq_true rfl⟩ (va_recv hK hP (ci := 7) (q0 := 0) rfl rw_Model) hK hP hS hF rfl hl.1 rfl (Nat.le_of_ble_eq_true rfl) dX7_turn_91 ⟨Nat.zero_le _, Nat.zero_le _⟩ (fun r_16 S_15 H locs h hP hS => ?_)
          refine lv_iload hx hb dX7_turn_94 (lv_at hl 0 rfl) ?_
          obtain ⟨hne, h⟩ := h
          refine lv_idiv hx hb dX7_turn_96 hne ?_
          refine lv_goto (tgt := 113) hx hb dX7_turn_97 (by decide) ?_
          exact W.iret (v := (r_16 / r_12)) hx hb hr (fun t ht hW => ⟨⟨(r_16 / r_12), S_15, rfl, h, gB_of ht hP⟩, hS.F ht⟩) hS.2.2 dX7_turn_113
      · have h := h.2 c_8
        refine lv_aload_n hx hb dX7_turn_38 rfl (lv_at hl 0 rfl) ?_
        refine lv_iconst (v := 1) hx hb dX7_turn_39 (by decide) ?_
        refine lv_iload hx hb dX7_turn_40 (lv_at hl 4 rfl) ?_
        refine rVi (As := [.int 1, .int y4]) (rest := []) hX ⟨hx, hb, hml, hown, hT⟩ (c_X7_givesAt l D X hX H.size S 1 y4 _ h) (gd_V wl_X7_136 wi_X7_givesAt wv_X7_givesAt wn_X7 wc_X7_givesAt) rfl hd_X7_givesAt ⟨rfl, rfl⟩ ⟨Nat.le_of_ble_eq_true rfl, Nat.le_of_ble_eq_true rfl⟩ (va_recv hK hP (ci := 7) (q0 := 0) rfl rw_Model) hK hP hS hF rfl hl.1 rfl (Nat.le_of_ble_eq_true rfl) dX7_turn_42 ⟨Nat.zero_le _, Nat.zero_le _⟩ (fun r_18 S_17 H locs h hP hS => ?_)
        refine lv_iload_n hx hb dX7_turn_45 rfl (lv_at hl 3 rfl) ?_
        refine lv_imul hx hb dX7_turn_46 ?_
        refine lv_aload_n hx hb dX7_turn_47 rfl (lv_at hl 0 rfl) ?_
        refine lv_iconst (v := 1) hx hb dX7_turn_48 (by decide) ?_
        refine lv_iload_n hx hb dX7_turn_49 rfl (lv_at hl 3 rfl) ?_
        refine rVi (As := [.int 1, .int y3]) (rest := [.int (r_18 * y3)]) hX ⟨hx, hb, hml, hown, hT⟩ (c_X7_givesAt l D X hX H.size S_17 1 y3 _ h) (gd_V wl_X7_136 wi_X7_givesAt wv_X7_givesAt wn_X7 wc_X7_givesAt) rfl hd_X7_givesAt ⟨rfl, rfl⟩ ⟨Nat.le_of_ble_eq_true rfl, Nat.le_of_ble_eq_true rfl⟩ (va_recv hK hP (ci := 7) (q0 := 0) rfl rw_Model) hK hP hS hF rfl hl.1 rfl (Nat.le_of_ble_eq_true rfl) dX7_turn_50 ⟨Nat.zero_le _, Nat.zero_le _⟩ (fun r_20 S_19 H locs h hP hS => ?_)
        refine lv_iload hx hb dX7_turn_53 (lv_at hl 4 rfl) ?_
        refine lv_imul hx hb dX7_turn_55 ?_
        refine lv_icmp_le (tgt := 64) hx hb dX7_turn_56 (by decide) (fun c_21 => ?_) (fun c_21 => ?_)
        · have h := h.1 c_21
          refine lv_iload_n hx hb dX7_turn_64 rfl (lv_at hl 3 rfl) ?_
          refine lv_istore_n (lv' := [(3, .int y3), (0, .ref (X.1 0)), (1, .int x1), (2, .int x2), (4, .int y4)]) hx hb dX7_turn_65 rfl hl (by decide) rfl (fun ls hl => ?_)
          obtain ⟨x4_22, ex4_22⟩ : ∃ z : Int32, z = y4 + 1 := ⟨_, rfl⟩
          refine lv_iinc (v := x4_22) (lv' := [(4, .int x4_22), (3, .int y3), (0, .ref (X.1 0)), (1, .int x1), (2, .int x2)]) hx hb dX7_turn_66 hl (k := 4) rfl (by rw [ex4_22]; rfl) (by decide) rfl (fun ls hl => ?_)
          have h := h x4_22 ex4_22
          refine lv_goto (tgt := 31) hx hb dX7_turn_69 (by decide) ?_
          exact ih y3 x4_22 S_19 H locs ls hP hS (lv_sub hl [2, 3, 4, 1, 0] rfl) h
        · have h := h.2 c_21
          refine lv_iload hx hb dX7_turn_59 (lv_at hl 4 rfl) ?_
          refine lv_goto (tgt := 65) hx hb dX7_turn_61 (by decide) ?_
          refine lv_istore_n (lv' := [(3, .int y4), (0, .ref (X.1 0)), (1, .int x1), (2, .int x2), (4, .int y4)]) hx hb dX7_turn_65 rfl hl (by decide) rfl (fun ls hl => ?_)
          obtain ⟨x4_23, ex4_23⟩ : ∃ z : Int32, z = y4 + 1 := ⟨_, rfl⟩
          refine lv_iinc (v := x4_23) (lv' := [(4, .int x4_23), (3, .int y4), (0, .ref (X.1 0)), (1, .int x1), (2, .int x2)]) hx hb dX7_turn_66 hl (k := 4) rfl (by rw [ex4_23]; rfl) (by decide) rfl (fun ls hl => ?_)
          have h := h x4_23 ex4_23
          refine lv_goto (tgt := 31) hx hb dX7_turn_69 (by decide) ?_
          exact ih y4 x4_23 S_19 H locs ls hP hS (lv_sub hl [2, 3, 4, 1, 0] rfl) h
  have hl := lv_entry ([.ref (X.1 0), .int x1, .int x2]) (n := 5) (Nat.le_of_ble_eq_true rfl)
  rw [lg_entry_eq]
  generalize (lg_sl ([.ref (X.1 0), .int x1, .int x2]) ++ List.replicate (5 - (lg_sl ([.ref (X.1 0), .int x1, .int x2])).length) Slot.unset).toArray = ls at hl ⊢
  have hl : lv_has ls 5 [(0, .ref (X.1 0)), (1, .int x1), (2, .int x2)] := hl
  obtain ⟨H, hH⟩ : ∃ H : Heap, H = s.heap := ⟨_, rfl⟩
  obtain ⟨locs, hlc⟩ : ∃ q : List Loc, q = [] := ⟨_, rfl⟩
  have hS : va_S (AX 18 X.1 s.heap.size) s.heap H locs := by rw [hH, hlc]; exact hS
  have hP : va_P D vwCl (RW X S) H := by rw [hH]; exact hP
  show W p l e (headSpec (Cond.code yX7_turn cX7_turn 5 (some .int) :: lw_gd) rm_X7_turn).room s m ([.ref (X.1 0), .int x1, .int x2] : List Value).toArray below meth c s.heap [] 0 0 (MQ below (va_Qi post (gB D (RW X)) (AX 18 X.1 s.heap.size)) ([.ref (X.1 0), .int x1, .int x2] : List Value).toArray s 0 0 (AX 18 X.1 s.heap.size)) _
  suffices hgo : W p l e (headSpec (Cond.code yX7_turn cX7_turn 5 (some .int) :: lw_gd) rm_X7_turn).room s m ([.ref (X.1 0), .int x1, .int x2] : List Value).toArray below meth c H locs 0 0 (MQ below (va_Qi post (gB D (RW X)) (AX 18 X.1 s.heap.size)) ([.ref (X.1 0), .int x1, .int x2] : List Value).toArray s 0 0 (AX 18 X.1 s.heap.size)) (F0 m 0 ls []) from by rw [hH, hlc] at hgo; exact hgo
  unfold p_X7_turn at h
  refine lv_aload_n hx hb dX7_turn_0 rfl (lv_at hl 0 rfl) ?_
  refine lv_iconst (v := 0) hx hb dX7_turn_1 (by decide) ?_
  refine va_put (D := D) (ci := 7) (v := .int 0) (ty := .int) (C := RX7) (T := TX7) (N := 28) hx hb hT inX7 tyX7 tyX7_ok nmX7 hown hK hP (gw_D hX) hS 0 rw_Model rfl 0 (by decide) (hT _ wf_X7_68) (fun _ h9 => h9) rfl (by decide +kernel) rfl rfl (Nat.le_of_ble_eq_true rfl) dX7_turn_2 (fun H locs hP _ hS => ?_)
  have hP := rw_st (j := 0) (x := 0) rfl hP
  obtain ⟨S_1, eS_1⟩ : ∃ z : CS, z = sti S 0 0 0 := ⟨_, rfl⟩
  rw [← eS_1] at hP
  have h := h S_1 eS_1
  refine lv_iload_n hx hb dX7_turn_5 rfl (lv_at hl 1 rfl) ?_
  refine lv_iconst (v := 1) hx hb dX7_turn_6 (by decide) ?_
  refine lv_bipush (v := 30) hx hb dX7_turn_7 (by decide) ?_
  refine rSi (As := [.int x1, .int 1, .int 30]) (rest := []) hX ⟨hx, hb, hml, hown, hT⟩ (c_X7_in l D X hX H.size S_1 x1 1 30 _ h) (gd_S wl_X7_72 wt_X7_in wn_X7 wc_X7_in) hd_X7_in ⟨rfl, rfl⟩ ⟨Nat.le_of_ble_eq_true rfl, Nat.le_of_ble_eq_true rfl⟩ hK hP hS hF rfl hl.1 rfl (Nat.le_of_ble_eq_true rfl) dX7_turn_9 ⟨Nat.zero_le _, Nat.zero_le _⟩ (fun r_3 S_2 H locs h hP hS => ?_)
  refine lv_if_eq (tgt := 24) hx hb dX7_turn_12 (by decide) (fun c_4 => ?_) (fun c_4 => ?_)
  · have h := h.1 c_4
    refine lv_iconst (v := (-1)) hx hb dX7_turn_24 (by decide) ?_
    exact W.iret (v := (-1)) hx hb hr (fun t ht hW => ⟨⟨(-1), S_2, rfl, h, gB_of ht hP⟩, hS.F ht⟩) hS.2.2 dX7_turn_25
  · have h := h.2 c_4
    refine lv_iload_n hx hb dX7_turn_15 rfl (lv_at hl 2 rfl) ?_
    refine lv_iconst (v := 0) hx hb dX7_turn_16 (by decide) ?_
    refine lv_iconst (v := 2) hx hb dX7_turn_17 (by decide) ?_
    refine rSi (As := [.int x2, .int 0, .int 2]) (rest := []) hX ⟨hx, hb, hml, hown, hT⟩ (c_X7_in l D X hX H.size S_2 x2 0 2 _ h) (gd_S wl_X7_72 wt_X7_in wn_X7 wc_X7_in) hd_X7_in ⟨rfl, rfl⟩ ⟨Nat.le_of_ble_eq_true rfl, Nat.le_of_ble_eq_true rfl⟩ hK hP hS hF rfl hl.1 rfl (Nat.le_of_ble_eq_true rfl) dX7_turn_18 ⟨Nat.zero_le _, Nat.zero_le _⟩ (fun r_6 S_5 H locs h hP hS => ?_)
    refine lv_if_ne (tgt := 26) hx hb dX7_turn_21 (by decide) (fun c_7 => ?_) (fun c_7 => ?_)
    · have h := h.2 c_7
      refine lv_iconst (v := 1) hx hb dX7_turn_26 (by decide) ?_
      refine lv_istore_n (lv' := [(3, .int 1), (0, .ref (X.1 0)), (1, .int x1), (2, .int x2)]) hx hb dX7_turn_27 rfl hl (by decide) rfl (fun ls hl => ?_)
      refine lv_iconst (v := 2) hx hb dX7_turn_28 (by decide) ?_
      refine lv_istore (lv' := [(4, .int 2), (3, .int 1), (0, .ref (X.1 0)), (1, .int x1), (2, .int x2)]) hx hb dX7_turn_29 hl (by decide) rfl (fun ls hl => ?_)
      obtain ⟨n1, h⟩ := h
      exact W31  n1 1 2 S_5 H locs ls hP hS (lv_sub hl [2, 3, 4, 1, 0] rfl) h
    · have h := h.1 c_7
      refine lv_iconst (v := (-1)) hx hb dX7_turn_24 (by decide) ?_
      exact W.iret (v := (-1)) hx hb hr (fun t ht hW => ⟨⟨(-1), S_5, rfl, h, gB_of ht hP⟩, hS.F ht⟩) hS.2.2 dX7_turn_25

abbrev rm_X7_twigsBy : Room := { frames := 3, cells := 0, slots := 0, locals := 68 }
def q_X7_twigsBy_43 (x1 : Int32) (K8 : Int32 → Int32 → CS → Prop) (post : Int32 → CS → Prop) (y3 : Int32) (z0 : Int32) (z1 : Int32) (S : CS) : Prop := ∀ x2_7 : Int32, x2_7 = (z1 + z0) → (p_X7_grows S 9 (fun S_8 => (∀ x3_10 : Int32, x3_10 = y3 + 1 → (K8 x2_7 x3_10 S_8))))
def q_X7_twigsBy_8 (x1 : Int32) (post : Int32 → CS → Prop) : Nat → Int32 → Int32 → CS → Prop
  | 0, _, _, _ => False
  | n9 + 1, y2, y3, S => (x1 ≤ y3 → (post y2 S)) ∧ (¬ (x1 ≤ y3) → (vp_in y3 4 ∧ (((S.1 16 y3.toNatClampNeg) = 0 → (q_X7_twigsBy_43 x1 (fun y2' y3' S9 => q_X7_twigsBy_8 x1 post n9 y2' y3' S9) post y3 0 y2 S)) ∧ (¬ ((S.1 16 y3.toNatClampNeg) = 0) → (vp_in y3 4 ∧ (p_X7_fells S 9 ((S.1 16 y3.toNatClampNeg) - 1) (fun r_6 S_5 => (q_X7_twigsBy_43 x1 (fun y2' y3' S9 => q_X7_twigsBy_8 x1 post n9 y2' y3' S9) post y3 r_6 y2 S_5))))))))
def p_X7_twigsBy (S : CS) (x1 : Int32) (post : Int32 → CS → Prop) : Prop := p_X7_asNow S  (fun S_1 => (∃ n, q_X7_twigsBy_8 x1 post n 0 0 S_1))
set_option maxHeartbeats 4000000 in
set_option maxRecDepth 100000 in
theorem c_X7_twigsBy (l : Launch) (D : va_G) (X : XE) (hX : Inj 18 X.1) (sz : Nat) (S : CS) (x1 : Int32) (post : Int32 → CS → Prop) (h : p_X7_twigsBy S x1 post) : Met l yX7_twigsBy (Cond.code yX7_twigsBy cX7_twigsBy 4 (some .int) :: lw_gd) rm_X7_twigsBy (gPc D (tyX X) (RW X) (FXr X) (AX 18 X.1 sz) sz S [.ref (X.1 0), .int x1]) (va_Qi post (gB D (RW X)) (AX 18 X.1 sz)) 0 0 (AX 18 X.1 sz) := by
  refine Met.ofW (cc := cX7_twigsBy) (maxL := 4) (ret := (some .int)) (by decide) rfl ?_
  intro p e s m args below meth c s₁ B hml hv
  obtain ⟨rfl, hsz, hP, hK, hF⟩ := hv
  have hx := B.exec
  have hb := B.bytes
  have hr := B.returns
  have hts := atoms_spec (ws := (Cond.code yX7_twigsBy cX7_twigsBy 4 (some .int) :: lw_gd)) B.pre
  have hT : ∀ w ∈ lw_gd, w.before _ s = true := fun w h9 => hts w (List.mem_cons_of_mem _ h9)
  have hown : s.vm.findClass RX7 = some m.cls := findClass_of_methodNamed B.named
  have hlocks := B.notSynchronized
  subst hsz
  have hS : va_S (AX 18 X.1 s.heap.size) s.heap s.heap [] := va_S.rf
  have W43 : ∀ (K8 : Int32 → Int32 → CS → Prop), (∀ (y2 : Int32) (y3 : Int32) (S : CS) (H : Heap) (locs : List Loc) (ls : Array Slot), va_P D vwCl (RW X S) H → va_S (AX 18 X.1 s.heap.size) s.heap H locs → lv_has ls 4 [(0, .ref (X.1 0)), (1, .int x1), (2, .int y2), (3, .int y3)] → K8 y2 y3 S → W p l e (headSpec (Cond.code yX7_twigsBy cX7_twigsBy 4 (some .int) :: lw_gd) rm_X7_twigsBy).room s m ([.ref (X.1 0), .int x1] : List Value).toArray below meth c H locs 0 0 (MQ below (va_Qi post (gB D (RW X)) (AX 18 X.1 s.heap.size)) ([.ref (X.1 0), .int x1] : List Value).toArray s 0 0 (AX 18 X.1 s.heap.size)) (F0 m 8 ls [])) → ∀ (y3 : Int32) (z0 : Int32) (z1 : Int32) (S : CS) (H : Heap) (locs : List Loc) (ls : Array Slot), va_P D vwCl (RW X S) H → va_S (AX 18 X.1 s.heap.size) s.heap H locs → lv_has ls 4 [(0, .ref (X.1 0)), (1, .int x1), (3, .int y3)] → q_X7_twigsBy_43 x1 K8 post y3 z0 z1 S → W p l e (headSpec (Cond.code yX7_twigsBy cX7_twigsBy 4 (some .int) :: lw_gd) rm_X7_twigsBy).room s m ([.ref (X.1 0), .int x1] : List Value).toArray below meth c H locs 0 0 (MQ below (va_Qi post (gB D (RW X)) (AX 18 X.1 s.heap.size)) ([.ref (X.1 0), .int x1] : List Value).toArray s 0 0 (AX 18 X.1 s.heap.size)) (F0 m 43 ls [.int z0, .int z1]) := by
    intro K8 hK8 y3 z0 z1 S H locs ls hP hS hl h
    unfold q_X7_twigsBy_43 at h
    refine lv_iadd hx hb dX7_twigsBy_43 ?_
    refine lv_topi (fun x2_7 ex2_7 => ?_)
    have h := h x2_7 ex2_7
    refine lv_istore_n (lv' := [(2, .int x2_7), (0, .ref (X.1 0)), (1, .int x1), (3, .int y3)]) hx hb dX7_twigsBy_44 rfl hl (by decide) rfl (fun ls hl => ?_)
    refine lv_aload_n hx hb dX7_twigsBy_45 rfl (lv_at hl 1 rfl) ?_
    refine lv_aload_n hx hb dX7_twigsBy_46 rfl (lv_at hl 1 rfl) ?_
    refine va_get (D := D) (ci := 7) (v := .ref (X.1 9)) (C := RX7) (T := TX7) (N := 28) hx hb hT inX7 hown hK hP 0 rw_Model rfl 17 (by decide) (hT _ wf_X7_34) (fun _ h9 => h9) rfl dX7_twigsBy_47 ?_
    refine rVv (As := [.ref (X.1 9)]) (rest := []) hX ⟨hx, hb, hml, hown, hT⟩ (c_X7_grows l D X hX H.size S 9 (by decide) _ h) (gd_V wl_X7_158 wi_X7_grows wv_X7_grows wn_X7 wc_X7_grows) rfl hd_X7_grows ⟨rfl, rfl⟩ ⟨Nat.le_of_ble_eq_true rfl, Nat.le_of_ble_eq_true rfl⟩ (va_recv hK hP (ci := 7) (q0 := 0) rfl rw_Model) hK hP hS hF rfl hl.1 rfl (Nat.le_of_ble_eq_true rfl) dX7_twigsBy_50 ⟨Nat.zero_le _, Nat.zero_le _⟩ (fun S_8 H locs h hP hS => ?_)
    obtain ⟨x3_10, ex3_10⟩ : ∃ z : Int32, z = y3 + 1 := ⟨_, rfl⟩
    refine lv_iinc (v := x3_10) (lv' := [(3, .int x3_10), (2, .int x2_7), (0, .ref (X.1 0)), (1, .int x1)]) hx hb dX7_twigsBy_53 hl (k := 3) rfl (by rw [ex3_10]; rfl) (by decide) rfl (fun ls hl => ?_)
    have h := h x3_10 ex3_10
    refine lv_goto (tgt := 8) hx hb dX7_twigsBy_56 (by decide) ?_
    exact hK8 x2_7 x3_10 S_8 H locs ls hP hS (lv_sub hl [2, 3, 1, 0] rfl) h
  have W8 : ∀ n1 : Nat, ∀ (y2 : Int32) (y3 : Int32) (S : CS) (H : Heap) (locs : List Loc) (ls : Array Slot), va_P D vwCl (RW X S) H → va_S (AX 18 X.1 s.heap.size) s.heap H locs → lv_has ls 4 [(0, .ref (X.1 0)), (1, .int x1), (2, .int y2), (3, .int y3)] → q_X7_twigsBy_8 x1 post n1 y2 y3 S → W p l e (headSpec (Cond.code yX7_twigsBy cX7_twigsBy 4 (some .int) :: lw_gd) rm_X7_twigsBy).room s m ([.ref (X.1 0), .int x1] : List Value).toArray below meth c H locs 0 0 (MQ below (va_Qi post (gB D (RW X)) (AX 18 X.1 s.heap.size)) ([.ref (X.1 0), .int x1] : List Value).toArray s 0 0 (AX 18 X.1 s.heap.size)) (F0 m 8 ls []) := by
    intro n1
    induction n1 with
    | zero => intro y2 y3 S H locs ls hP hS hl h; exact h.elim
    | succ n9 ih =>
      intro y2 y3 S H locs ls hP hS hl h
      rw [q_X7_twigsBy_8] at h
      refine lv_iload_n hx hb dX7_twigsBy_8 rfl (lv_at hl 3 rfl) ?_
      refine lv_iload_n hx hb dX7_twigsBy_9 rfl (lv_at hl 1 rfl) ?_
      refine lv_icmp_ge (tgt := 59) hx hb dX7_twigsBy_10 (by decide) (fun c_3 => ?_) (fun c_3 => ?_)
      · have h := h.1 c_3
        refine lv_iload_n hx hb dX7_twigsBy_59 rfl (lv_at hl 2 rfl) ?_
        exact W.iret (v := y2) hx hb hr (fun t ht hW => ⟨⟨y2, S, rfl, h, gB_of ht hP⟩, hS.F ht⟩) hS.2.2 dX7_twigsBy_60
      · have h := h.2 c_3
        refine lv_iload_n hx hb dX7_twigsBy_13 rfl (lv_at hl 2 rfl) ?_
        refine lv_aload_n hx hb dX7_twigsBy_14 rfl (lv_at hl 0 rfl) ?_
        refine va_get (D := D) (ci := 7) (v := .ref (X.1 16)) (C := RX7) (T := TX7) (N := 28) hx hb hT inX7 hown hK hP 0 rw_Model rfl 26 (by decide) (hT _ wf_X7_56) (fun _ h9 => h9) rfl dX7_twigsBy_15 ?_
        refine lv_iload_n hx hb dX7_twigsBy_18 rfl (lv_at hl 3 rfl) ?_
        obtain ⟨hi, h⟩ := h
        refine g_iald hx hb hK hP 16 rw_16 rfl hi y3.toNatClampNeg rfl dX7_twigsBy_19 ?_
        refine lv_if_ne (tgt := 27) hx hb dX7_twigsBy_20 (by decide) (fun c_4 => ?_) (fun c_4 => ?_)
        · have h := h.2 c_4
          refine lv_aload_n hx hb dX7_twigsBy_27 rfl (lv_at hl 0 rfl) ?_
          refine lv_aload_n hx hb dX7_twigsBy_28 rfl (lv_at hl 0 rfl) ?_
          refine va_get (D := D) (ci := 7) (v := .ref (X.1 9)) (C := RX7) (T := TX7) (N := 28) hx hb hT inX7 hown hK hP 0 rw_Model rfl 17 (by decide) (hT _ wf_X7_34) (fun _ h9 => h9) rfl dX7_twigsBy_29 ?_
          refine lv_aload_n hx hb dX7_twigsBy_32 rfl (lv_at hl 0 rfl) ?_
          refine va_get (D := D) (ci := 7) (v := .ref (X.1 16)) (C := RX7) (T := TX7) (N := 28) hx hb hT inX7 hown hK hP 0 rw_Model rfl 26 (by decide) (hT _ wf_X7_56) (fun _ h9 => h9) rfl dX7_twigsBy_33 ?_
          refine lv_iload_n hx hb dX7_twigsBy_36 rfl (lv_at hl 3 rfl) ?_
          obtain ⟨hi, h⟩ := h
          refine g_iald hx hb hK hP 16 rw_16 rfl hi y3.toNatClampNeg rfl dX7_twigsBy_37 ?_
          refine lv_iconst (v := 1) hx hb dX7_twigsBy_38 (by decide) ?_
          refine lv_isub hx hb dX7_twigsBy_39 ?_
          refine rVi (As := [.ref (X.1 9), .int ((S.1 16 y3.toNatClampNeg) - 1)]) (rest := [.int y2]) hX ⟨hx, hb, hml, hown, hT⟩ (c_X7_fells l D X hX H.size S 9 (by decide) ((S.1 16 y3.toNatClampNeg) - 1) _ h) (gd_V wl_X7_155 wi_X7_fells wv_X7_fells wn_X7 wc_X7_fells) rfl hd_X7_fells ⟨rfl, rfl⟩ ⟨Nat.le_of_ble_eq_true rfl, Nat.le_of_ble_eq_true rfl⟩ (va_recv hK hP (ci := 7) (q0 := 0) rfl rw_Model) hK hP hS hF rfl hl.1 rfl (Nat.le_of_ble_eq_true rfl) dX7_twigsBy_40 ⟨Nat.zero_le _, Nat.zero_le _⟩ (fun r_6 S_5 H locs h hP hS => ?_)
          exact W43 (fun y2' y3' S9 => q_X7_twigsBy_8 x1 post n9 y2' y3' S9) ih y3 r_6 y2 S_5 H locs ls hP hS (lv_sub hl [0, 1, 3] rfl) h
        · have h := h.1 c_4
          refine lv_iconst (v := 0) hx hb dX7_twigsBy_23 (by decide) ?_
          refine lv_goto (tgt := 43) hx hb dX7_twigsBy_24 (by decide) ?_
          exact W43 (fun y2' y3' S9 => q_X7_twigsBy_8 x1 post n9 y2' y3' S9) ih y3 0 y2 S H locs ls hP hS (lv_sub hl [0, 1, 3] rfl) h
  have hl := lv_entry ([.ref (X.1 0), .int x1]) (n := 4) (Nat.le_of_ble_eq_true rfl)
  rw [lg_entry_eq]
  generalize (lg_sl ([.ref (X.1 0), .int x1]) ++ List.replicate (4 - (lg_sl ([.ref (X.1 0), .int x1])).length) Slot.unset).toArray = ls at hl ⊢
  have hl : lv_has ls 4 [(0, .ref (X.1 0)), (1, .int x1)] := hl
  obtain ⟨H, hH⟩ : ∃ H : Heap, H = s.heap := ⟨_, rfl⟩
  obtain ⟨locs, hlc⟩ : ∃ q : List Loc, q = [] := ⟨_, rfl⟩
  have hS : va_S (AX 18 X.1 s.heap.size) s.heap H locs := by rw [hH, hlc]; exact hS
  have hP : va_P D vwCl (RW X S) H := by rw [hH]; exact hP
  show W p l e (headSpec (Cond.code yX7_twigsBy cX7_twigsBy 4 (some .int) :: lw_gd) rm_X7_twigsBy).room s m ([.ref (X.1 0), .int x1] : List Value).toArray below meth c s.heap [] 0 0 (MQ below (va_Qi post (gB D (RW X)) (AX 18 X.1 s.heap.size)) ([.ref (X.1 0), .int x1] : List Value).toArray s 0 0 (AX 18 X.1 s.heap.size)) _
  suffices hgo : W p l e (headSpec (Cond.code yX7_twigsBy cX7_twigsBy 4 (some .int) :: lw_gd) rm_X7_twigsBy).room s m ([.ref (X.1 0), .int x1] : List Value).toArray below meth c H locs 0 0 (MQ below (va_Qi post (gB D (RW X)) (AX 18 X.1 s.heap.size)) ([.ref (X.1 0), .int x1] : List Value).toArray s 0 0 (AX 18 X.1 s.heap.size)) (F0 m 0 ls []) from by rw [hH, hlc] at hgo; exact hgo
  unfold p_X7_twigsBy at h
  refine lv_aload_n hx hb dX7_twigsBy_0 rfl (lv_at hl 0 rfl) ?_
  refine rVv (As := []) (rest := []) hX ⟨hx, hb, hml, hown, hT⟩ (c_X7_asNow l D X hX H.size S  _ h) (gd_V wl_X7_175 wi_X7_asNow wv_X7_asNow wn_X7 wc_X7_asNow) rfl hd_X7_asNow ⟨rfl, rfl⟩ ⟨Nat.le_of_ble_eq_true rfl, Nat.le_of_ble_eq_true rfl⟩ (va_recv hK hP (ci := 7) (q0 := 0) rfl rw_Model) hK hP hS hF rfl hl.1 rfl (Nat.le_of_ble_eq_true rfl) dX7_twigsBy_1 ⟨Nat.zero_le _, Nat.zero_le _⟩ (fun S_1 H locs h hP hS => ?_)
  refine lv_iconst (v := 0) hx hb dX7_twigsBy_4 (by decide) ?_
  refine lv_istore_n (lv' := [(2, .int 0), (0, .ref (X.1 0)), (1, .int x1)]) hx hb dX7_twigsBy_5 rfl hl (by decide) rfl (fun ls hl => ?_)
  refine lv_iconst (v := 0) hx hb dX7_twigsBy_6 (by decide) ?_
  refine lv_istore_n (lv' := [(3, .int 0), (2, .int 0), (0, .ref (X.1 0)), (1, .int x1)]) hx hb dX7_twigsBy_7 rfl hl (by decide) rfl (fun ls hl => ?_)
  obtain ⟨n1, h⟩ := h
  exact W8  n1 0 0 S_1 H locs ls hP hS (lv_sub hl [2, 3, 1, 0] rfl) h
