abbrev rm_J0_indexOf_7cf53 : Room := { frames := 2, cells := 0, slots := 0, locals := 48 }
def p_J0_indexOf_7cf53 (S : CS) (x1 : Int32) (x2 : Int32) (post : Int32 → CS → Prop) : Prop := p_J0_isLatin1_aae02 S  (fun r_2 S_1 => ((r_2 = 0 → (p_J0_length_8abf5 S_1  (fun r_5 S_4 => (False)))) ∧ (¬ (r_2 = 0) → (p_J0_length_8abf5 S_1  (fun r_7 S_6 => (p_J1_indexOf_4cfef S_6 x1 x2 r_7 (fun r_9 S_8 => (post r_9 S_8))))))))
set_option maxHeartbeats 4000000 in
set_option maxRecDepth 100000 in
theorem c_J0_indexOf_7cf53 (l : Launch) (D : va_G) (X : XE) (hX : Inj 75 X.1) (sz : Nat) (S : CS) (x1 : Int32) (x2 : Int32) (post : Int32 → CS → Prop) (h : p_J0_indexOf_7cf53 S x1 x2 post) : Met l yJ0_indexOf_7cf53 (Cond.code yJ0_indexOf_7cf53 cJ0_indexOf_7cf53 3 (some .int) :: lw_gd) rm_J0_indexOf_7cf53 (gPc D (tyX X) (CW X) (FXc X) (AX 75 X.1 sz) sz S [.ref (X.2.2 6), .int x1, .int x2]) (va_Qi post (gB D (CW X)) (AX 75 X.1 sz)) 0 0 (AX 75 X.1 sz) := by
  refine va_MetF (cc := cJ0_indexOf_7cf53) (maxL := 3) (ret := (some .int)) (by decide +kernel) rfl ?_
  intro p e s m args below meth c s₁ B hml hv
  obtain ⟨rfl, hsz, hP, hK, hF⟩ := hv
  have hx := B.exec
  have hb := B.bytes
  have hr := B.returns
  have hts := atoms_spec (ws := (Cond.code yJ0_indexOf_7cf53 cJ0_indexOf_7cf53 3 (some .int) :: lw_gd)) B.pre
  have hT : ∀ w ∈ lw_gd, w.before _ s = true := fun w h9 => hts w (List.mem_cons_of_mem _ h9)
  have hown : s.vm.findClass RJ0 = some m.cls := findClass_of_methodNamed B.named
  have hlocks := B.notSynchronized
  subst hsz
  have hS : va_S (AX 75 X.1 s.heap.size) s.heap s.heap [] := va_S.rf
  have hl := lv_entry ([.ref (X.2.2 6), .int x1, .int x2]) (n := 3) (Nat.le_of_ble_eq_true rfl)
  rw [lg_entry_eq]
  generalize (lg_sl ([.ref (X.2.2 6), .int x1, .int x2]) ++ List.replicate (3 - (lg_sl ([.ref (X.2.2 6), .int x1, .int x2])).length) Slot.unset).toArray = ls at hl ⊢
  have hl : lv_has ls 3 [(0, .ref (X.2.2 6)), (1, .int x1), (2, .int x2)] := hl
  obtain ⟨H, hH⟩ : ∃ H : Heap, H = s.heap := ⟨_, rfl⟩
  obtain ⟨locs, hlc⟩ : ∃ q : List Loc, q = [] := ⟨_, rfl⟩
  have hS : va_S (AX 75 X.1 s.heap.size) s.heap H locs := by rw [hH, hlc]; exact hS
  have hP : va_P D vwCl (CW X S) H := by rw [hH]; exact hP
  show W p l e (headSpec (Cond.code yJ0_indexOf_7cf53 cJ0_indexOf_7cf53 3 (some .int) :: lw_gd) rm_J0_indexOf_7cf53).room s m ([.ref (X.2.2 6), .int x1, .int x2] : List Value).toArray below meth c s.heap [] 0 0 (MQ below (va_Qi post (gB D (CW X)) (AX 75 X.1 s.heap.size)) ([.ref (X.2.2 6), .int x1, .int x2] : List Value).toArray s 0 0 (AX 75 X.1 s.heap.size)) _
  suffices hgo : W p l e (headSpec (Cond.code yJ0_indexOf_7cf53 cJ0_indexOf_7cf53 3 (some .int) :: lw_gd) rm_J0_indexOf_7cf53).room s m ([.ref (X.2.2 6), .int x1, .int x2] : List Value).toArray below meth c H locs 0 0 (MQ below (va_Qi post (gB D (CW X)) (AX 75 X.1 s.heap.size)) ([.ref (X.2.2 6), .int x1, .int x2] : List Value).toArray s 0 0 (AX 75 X.1 s.heap.size)) (F0 m 0 ls []) from by rw [hH, hlc] at hgo; exact hgo
  unfold p_J0_indexOf_7cf53 at h
  refine lv_aload_n hx hb dJ0_indexOf_7cf53_0 rfl (lv_at hl 0 rfl) ?_
  refine cVi (As := []) (rest := []) hX ⟨hx, hb, hml, hown, hT⟩ (c_J0_isLatin1_aae02 l D X hX H.size S  _ h) (gd_V wl_J0_492 wi_J0_isLatin1_aae02 wv_J0_isLatin1_aae02 wn_J0 wc_J0_isLatin1_aae02) rfl hd_J0_isLatin1_aae02 ⟨rfl, rfl⟩ ⟨Nat.le_of_ble_eq_true rfl, Nat.le_of_ble_eq_true rfl⟩ (vk_recv hF.2.2.2.2.2.2.2.2.1 (i := 0) (by decide) hS) hK hP hS hF rfl hl.1 rfl (Nat.le_of_ble_eq_true rfl) dJ0_indexOf_7cf53_1 ⟨Nat.zero_le _, Nat.zero_le _⟩ (fun r_2 S_1 H locs h hP hS => ?_)
  refine lv_if_eq (tgt := 23) hx hb dJ0_indexOf_7cf53_4 (by decide) (fun c_3 => ?_) (fun c_3 => ?_)
  · have h := h.1 c_3
    refine lv_aload_n hx hb dJ0_indexOf_7cf53_23 rfl (lv_at hl 0 rfl) ?_
    refine vk_getf hx hb (hF.2.2.2.2.2.2.2.2.1.1 0 (by decide)).2.2.1 hS hown (hT _ wf_J0_9) (fun _ h9 => h9) dJ0_indexOf_7cf53_24 ?_
    refine lv_iload_n hx hb dJ0_indexOf_7cf53_27 rfl (lv_at hl 1 rfl) ?_
    refine lv_iload_n hx hb dJ0_indexOf_7cf53_28 rfl (lv_at hl 2 rfl) ?_
    refine lv_aload_n hx hb dJ0_indexOf_7cf53_29 rfl (lv_at hl 0 rfl) ?_
    refine cVi (As := []) (rest := [.int x2, .int x1, .ref (X.2.2 7)]) hX ⟨hx, hb, hml, hown, hT⟩ (c_J0_length_8abf5 l D X hX H.size S_1  _ h) (gd_V wl_J0_505 wi_J0_length_8abf5 wv_J0_length_8abf5 wn_J0 wc_J0_length_8abf5) rfl hd_J0_length_8abf5 ⟨rfl, rfl⟩ ⟨Nat.le_of_ble_eq_true rfl, Nat.le_of_ble_eq_true rfl⟩ (vk_recv hF.2.2.2.2.2.2.2.2.1 (i := 0) (by decide) hS) hK hP hS hF rfl hl.1 rfl (Nat.le_of_ble_eq_true rfl) dJ0_indexOf_7cf53_30 ⟨Nat.zero_le _, Nat.zero_le _⟩ (fun r_5 S_4 H locs h hP hS => ?_)
    exact h.elim
  · have h := h.2 c_3
    refine lv_aload_n hx hb dJ0_indexOf_7cf53_7 rfl (lv_at hl 0 rfl) ?_
    refine vk_getf hx hb (hF.2.2.2.2.2.2.2.2.1.1 0 (by decide)).2.2.1 hS hown (hT _ wf_J0_9) (fun _ h9 => h9) dJ0_indexOf_7cf53_8 ?_
    refine lv_iload_n hx hb dJ0_indexOf_7cf53_11 rfl (lv_at hl 1 rfl) ?_
    refine lv_iload_n hx hb dJ0_indexOf_7cf53_12 rfl (lv_at hl 2 rfl) ?_
    refine lv_aload_n hx hb dJ0_indexOf_7cf53_13 rfl (lv_at hl 0 rfl) ?_
    refine cVi (As := []) (rest := [.int x2, .int x1, .ref (X.2.2 7)]) hX ⟨hx, hb, hml, hown, hT⟩ (c_J0_length_8abf5 l D X hX H.size S_1  _ h) (gd_V wl_J0_505 wi_J0_length_8abf5 wv_J0_length_8abf5 wn_J0 wc_J0_length_8abf5) rfl hd_J0_length_8abf5 ⟨rfl, rfl⟩ ⟨Nat.le_of_ble_eq_true rfl, Nat.le_of_ble_eq_true rfl⟩ (vk_recv hF.2.2.2.2.2.2.2.2.1 (i := 0) (by decide) hS) hK hP hS hF rfl hl.1 rfl (Nat.le_of_ble_eq_true rfl) dJ0_indexOf_7cf53_14 ⟨Nat.zero_le _, Nat.zero_le _⟩ (fun r_7 S_6 H locs h hP hS => ?_)
    refine cSi (As := [.ref (X.2.2 7), .int x1, .int x2, .int r_7]) (rest := []) hX ⟨hx, hb, hml, hown, hT⟩ (c_J1_indexOf_4cfef l D X hX H.size S_6 x1 x2 r_7 _ h) (gd_S wl_J0_637 wt_J1_indexOf_4cfef wn_J1 wc_J1_indexOf_4cfef) hd_J1_indexOf_4cfef ⟨rfl, rfl⟩ ⟨Nat.le_of_ble_eq_true rfl, Nat.le_of_ble_eq_true rfl⟩ hK hP hS hF rfl hl.1 rfl (Nat.le_of_ble_eq_true rfl) dJ0_indexOf_7cf53_17 ⟨Nat.zero_le _, Nat.zero_le _⟩ (fun r_9 S_8 H locs h hP hS => ?_)
    refine lv_goto (tgt := 36) hx hb dJ0_indexOf_7cf53_20 (by decide) ?_
    exact W.iret (v := r_9) hx hb hr (fun t ht hW => ⟨⟨r_9, S_8, rfl, h, gB_of ht hP⟩, hS.F ht⟩) hS.2.2 dJ0_indexOf_7cf53_36

abbrev rm_J0_indexOf_0f7a4 : Room := { frames := 3, cells := 0, slots := 0, locals := 70 }
def p_J0_indexOf_0f7a4 (S : CS) (x1 : Int32) (post : Int32 → CS → Prop) : Prop := p_J0_indexOf_7cf53 S x1 0 (fun r_2 S_1 => (post r_2 S_1))
set_option maxHeartbeats 4000000 in
set_option maxRecDepth 100000 in
theorem c_J0_indexOf_0f7a4 (l : Launch) (D : va_G) (X : XE) (hX : Inj 75 X.1) (sz : Nat) (S : CS) (x1 : Int32) (post : Int32 → CS → Prop) (h : p_J0_indexOf_0f7a4 S x1 post) : Met l yJ0_indexOf_0f7a4 (Cond.code yJ0_indexOf_0f7a4 cJ0_indexOf_0f7a4 2 (some .int) :: lw_gd) rm_J0_indexOf_0f7a4 (gPc D (tyX X) (CW X) (FXc X) (AX 75 X.1 sz) sz S [.ref (X.2.2 6), .int x1]) (va_Qi post (gB D (CW X)) (AX 75 X.1 sz)) 0 0 (AX 75 X.1 sz) := by
  refine va_MetF (cc := cJ0_indexOf_0f7a4) (maxL := 2) (ret := (some .int)) (by decide +kernel) rfl ?_
  intro p e s m args below meth c s₁ B hml hv
  obtain ⟨rfl, hsz, hP, hK, hF⟩ := hv
  have hx := B.exec
  have hb := B.bytes
  have hr := B.returns
  have hts := atoms_spec (ws := (Cond.code yJ0_indexOf_0f7a4 cJ0_indexOf_0f7a4 2 (some .int) :: lw_gd)) B.pre
  have hT : ∀ w ∈ lw_gd, w.before _ s = true := fun w h9 => hts w (List.mem_cons_of_mem _ h9)
  have hown : s.vm.findClass RJ0 = some m.cls := findClass_of_methodNamed B.named
  have hlocks := B.notSynchronized
  subst hsz
  have hS : va_S (AX 75 X.1 s.heap.size) s.heap s.heap [] := va_S.rf
  have hl := lv_entry ([.ref (X.2.2 6), .int x1]) (n := 2) (Nat.le_of_ble_eq_true rfl)
  rw [lg_entry_eq]
  generalize (lg_sl ([.ref (X.2.2 6), .int x1]) ++ List.replicate (2 - (lg_sl ([.ref (X.2.2 6), .int x1])).length) Slot.unset).toArray = ls at hl ⊢
  have hl : lv_has ls 2 [(0, .ref (X.2.2 6)), (1, .int x1)] := hl
  obtain ⟨H, hH⟩ : ∃ H : Heap, H = s.heap := ⟨_, rfl⟩
  obtain ⟨locs, hlc⟩ : ∃ q : List Loc, q = [] := ⟨_, rfl⟩
  have hS : va_S (AX 75 X.1 s.heap.size) s.heap H locs := by rw [hH, hlc]; exact hS
  have hP : va_P D vwCl (CW X S) H := by rw [hH]; exact hP
  show W p l e (headSpec (Cond.code yJ0_indexOf_0f7a4 cJ0_indexOf_0f7a4 2 (some .int) :: lw_gd) rm_J0_indexOf_0f7a4).room s m ([.ref (X.2.2 6), .int x1] : List Value).toArray below meth c s.heap [] 0 0 (MQ below (va_Qi post (gB D (CW X)) (AX 75 X.1 s.heap.size)) ([.ref (X.2.2 6), .int x1] : List Value).toArray s 0 0 (AX 75 X.1 s.heap.size)) _
  suffices hgo : W p l e (headSpec (Cond.code yJ0_indexOf_0f7a4 cJ0_indexOf_0f7a4 2 (some .int) :: lw_gd) rm_J0_indexOf_0f7a4).room s m ([.ref (X.2.2 6), .int x1] : List Value).toArray below meth c H locs 0 0 (MQ below (va_Qi post (gB D (CW X)) (AX 75 X.1 s.heap.size)) ([.ref (X.2.2 6), .int x1] : List Value).toArray s 0 0 (AX 75 X.1 s.heap.size)) (F0 m 0 ls []) from by rw [hH, hlc] at hgo; exact hgo
  unfold p_J0_indexOf_0f7a4 at h
  refine lv_aload_n hx hb dJ0_indexOf_0f7a4_0 rfl (lv_at hl 0 rfl) ?_
  refine lv_iload_n hx hb dJ0_indexOf_0f7a4_1 rfl (lv_at hl 1 rfl) ?_
  refine lv_iconst (v := 0) hx hb dJ0_indexOf_0f7a4_2 (by decide) ?_
  refine cVi (As := [.int x1, .int 0]) (rest := []) hX ⟨hx, hb, hml, hown, hT⟩ (c_J0_indexOf_7cf53 l D X hX H.size S x1 0 _ h) (gd_V wl_J0_633 wi_J0_indexOf_7cf53 wv_J0_indexOf_7cf53 wn_J0 wc_J0_indexOf_7cf53) rfl hd_J0_indexOf_7cf53 ⟨rfl, rfl⟩ ⟨Nat.le_of_ble_eq_true rfl, Nat.le_of_ble_eq_true rfl⟩ (vk_recv hF.2.2.2.2.2.2.2.2.1 (i := 0) (by decide) hS) hK hP hS hF rfl hl.1 rfl (Nat.le_of_ble_eq_true rfl) dJ0_indexOf_0f7a4_3 ⟨Nat.zero_le _, Nat.zero_le _⟩ (fun r_2 S_1 H locs h hP hS => ?_)
  exact W.iret (v := r_2) hx hb hr (fun t ht hW => ⟨⟨r_2, S_1, rfl, h, gB_of ht hP⟩, hS.F ht⟩) hS.2.2 dJ0_indexOf_0f7a4_6

abbrev rm_X5_take : Room := { frames := 1, cells := 0, slots := 0, locals := 21 }
def p_X5_take (S : CS) (tt : Nat) (x1 : Int32) (x2 : Int32) (x3 : Int32) (post : Int32 → CS → Prop) : Prop := p_X5_isPlace S x1 x2 (fun r_2 S_1 => ((r_2 = 0 → (post 0 S_1)) ∧ (¬ (r_2 = 0) → (vp_in x1 9 ∧ ((x3 < (([1, 0, 1, 1, 0, 3, 1, 1, 1] : List Int32).getD x1.toNatClampNeg 0) → (post 0 S_1)) ∧ (¬ (x3 < (([1, 0, 1, 1, 0, 3, 1, 1, 1] : List Int32).getD x1.toNatClampNeg 0)) → (vp_in x1 9 ∧ ((x3 ≤ (([9, 30, 60, 60, 99, 15, 20, 20, 15] : List Int32).getD x1.toNatClampNeg 0) → (vp_in ((x1 * 6) + x2) 54 ∧ (∀ S_6 : CS, S_6 = sti S_1 (tv tt) (((x1 * 6) + x2).toNatClampNeg) x3 → (post 1 S_6)))) ∧ (¬ (x3 ≤ (([9, 30, 60, 60, 99, 15, 20, 20, 15] : List Int32).getD x1.toNatClampNeg 0)) → (post 0 S_1))))))))))
set_option maxHeartbeats 4000000 in
set_option maxRecDepth 100000 in
theorem c_X5_take (l : Launch) (D : va_G) (X : XE) (hX : Inj 75 X.1) (sz : Nat) (S : CS) (tt : Nat) (hyp_tt : tt < 2) (x1 : Int32) (x2 : Int32) (x3 : Int32) (post : Int32 → CS → Prop) (h : p_X5_take S tt x1 x2 x3 post) : Met l yX5_take (Cond.code yX5_take cX5_take 4 (some .boolean) :: lw_gd) rm_X5_take (gPc D (tyX X) (CW X) (FXc X) (AX 75 X.1 sz) sz S [.ref (X.1 (to tt)), .int x1, .int x2, .int x3]) (va_Qi post (gB D (CW X)) (AX 75 X.1 sz)) 0 0 (AX 75 X.1 sz) := by
  refine Met.ofW (cc := cX5_take) (maxL := 4) (ret := (some .boolean)) (by decide) rfl ?_
  intro p e s m args below meth c s₁ B hml hv
  obtain ⟨rfl, hsz, hP, hK, hF⟩ := hv
  have hx := B.exec
  have hb := B.bytes
  have hr := B.returns
  have hts := atoms_spec (ws := (Cond.code yX5_take cX5_take 4 (some .boolean) :: lw_gd)) B.pre
  have hT : ∀ w ∈ lw_gd, w.before _ s = true := fun w h9 => hts w (List.mem_cons_of_mem _ h9)
  have hown : s.vm.findClass RX5 = some m.cls := findClass_of_methodNamed B.named
  have hlocks := B.notSynchronized
  subst hsz
  have hS : va_S (AX 75 X.1 s.heap.size) s.heap s.heap [] := va_S.rf
  have hl := lv_entry ([.ref (X.1 (to tt)), .int x1, .int x2, .int x3]) (n := 4) (Nat.le_of_ble_eq_true rfl)
  rw [lg_entry_eq]
  generalize (lg_sl ([.ref (X.1 (to tt)), .int x1, .int x2, .int x3]) ++ List.replicate (4 - (lg_sl ([.ref (X.1 (to tt)), .int x1, .int x2, .int x3])).length) Slot.unset).toArray = ls at hl ⊢
  have hl : lv_has ls 4 [(0, .ref (X.1 (to tt))), (1, .int x1), (2, .int x2), (3, .int x3)] := hl
  obtain ⟨H, hH⟩ : ∃ H : Heap, H = s.heap := ⟨_, rfl⟩
  obtain ⟨locs, hlc⟩ : ∃ q : List Loc, q = [] := ⟨_, rfl⟩
  have hS : va_S (AX 75 X.1 s.heap.size) s.heap H locs := by rw [hH, hlc]; exact hS
  have hP : va_P D vwCl (CW X S) H := by rw [hH]; exact hP
  show W p l e (headSpec (Cond.code yX5_take cX5_take 4 (some .boolean) :: lw_gd) rm_X5_take).room s m ([.ref (X.1 (to tt)), .int x1, .int x2, .int x3] : List Value).toArray below meth c s.heap [] 0 0 (MQ below (va_Qi post (gB D (CW X)) (AX 75 X.1 s.heap.size)) ([.ref (X.1 (to tt)), .int x1, .int x2, .int x3] : List Value).toArray s 0 0 (AX 75 X.1 s.heap.size)) _
  suffices hgo : W p l e (headSpec (Cond.code yX5_take cX5_take 4 (some .boolean) :: lw_gd) rm_X5_take).room s m ([.ref (X.1 (to tt)), .int x1, .int x2, .int x3] : List Value).toArray below meth c H locs 0 0 (MQ below (va_Qi post (gB D (CW X)) (AX 75 X.1 s.heap.size)) ([.ref (X.1 (to tt)), .int x1, .int x2, .int x3] : List Value).toArray s 0 0 (AX 75 X.1 s.heap.size)) (F0 m 0 ls []) from by rw [hH, hlc] at hgo; exact hgo
  unfold p_X5_take at h
  refine lv_iload_n hx hb dX5_take_0 rfl (lv_at hl 1 rfl) ?_
  refine lv_iload_n hx hb dX5_take_1 rfl (lv_at hl 2 rfl) ?_
  refine cSi (As := [.int x1, .int x2]) (rest := []) hX ⟨hx, hb, hml, hown, hT⟩ (c_X5_isPlace l D X hX H.size S x1 x2 _ h) (gd_S wl_X5_23 wt_X5_isPlace wn_X5 wc_X5_isPlace) hd_X5_isPlace ⟨rfl, rfl⟩ ⟨Nat.le_of_ble_eq_true rfl, Nat.le_of_ble_eq_true rfl⟩ hK hP hS hF rfl hl.1 rfl (Nat.le_of_ble_eq_true rfl) dX5_take_2 ⟨Nat.zero_le _, Nat.zero_le _⟩ (fun r_2 S_1 H locs h hP hS => ?_)
  refine lv_if_eq (tgt := 26) hx hb dX5_take_5 (by decide) (fun c_3 => ?_) (fun c_3 => ?_)
  · have h := h.1 c_3
    refine lv_iconst (v := 0) hx hb dX5_take_26 (by decide) ?_
    exact W.zret (v := 0) hx hb hr rfl (fun t ht hW => ⟨⟨0, S_1, rfl, h, gB_of ht hP⟩, hS.F ht⟩) hS.2.2 dX5_take_27
  · have h := h.2 c_3
    refine lv_iload_n hx hb dX5_take_8 rfl (lv_at hl 3 rfl) ?_
    refine va_gets hx hb hF.2.2.2.2.2.1.1 hS hown (hT _ wf_X5_67) (fun _ h9 => h9) dX5_take_9 ?_
    refine lv_iload_n hx hb dX5_take_12 rfl (lv_at hl 1 rfl) ?_
    obtain ⟨hi, h⟩ := h
    refine g_tald hx hb hF.2.2.2.2.2.1.2 hS hi x1.toNatClampNeg rfl dX5_take_13 ?_
    refine lv_icmp_lt (tgt := 26) hx hb dX5_take_14 (by decide) (fun c_4 => ?_) (fun c_4 => ?_)
    · have h := h.1 c_4
      refine lv_iconst (v := 0) hx hb dX5_take_26 (by decide) ?_
      exact W.zret (v := 0) hx hb hr rfl (fun t ht hW => ⟨⟨0, S_1, rfl, h, gB_of ht hP⟩, hS.F ht⟩) hS.2.2 dX5_take_27
    · have h := h.2 c_4
      refine lv_iload_n hx hb dX5_take_17 rfl (lv_at hl 3 rfl) ?_
      refine va_gets hx hb hF.2.2.2.2.2.2.1.1 hS hown (hT _ wf_X5_70) (fun _ h9 => h9) dX5_take_18 ?_
      refine lv_iload_n hx hb dX5_take_21 rfl (lv_at hl 1 rfl) ?_
      obtain ⟨hi, h⟩ := h
      refine g_tald hx hb hF.2.2.2.2.2.2.1.2 hS hi x1.toNatClampNeg rfl dX5_take_22 ?_
      refine lv_icmp_le (tgt := 28) hx hb dX5_take_23 (by decide) (fun c_5 => ?_) (fun c_5 => ?_)
      · have h := h.1 c_5
        refine lv_aload_n hx hb dX5_take_28 rfl (lv_at hl 0 rfl) ?_
        refine va_get (D := D) (ci := 5) (v := .ref (X.1 (tv tt))) (C := RX5) (T := TX5) (N := 2) hx hb hT inX5 hown hK hP (to tt) (cw_Told (t := tt) (by omega)) rfl 1 (by decide) (hT _ wf_X5_13) (fun _ h9 => h9) rfl dX5_take_29 ?_
        refine lv_iload_n hx hb dX5_take_32 rfl (lv_at hl 1 rfl) ?_
        refine lv_bipush (v := 6) hx hb dX5_take_33 (by decide) ?_
        refine lv_imul hx hb dX5_take_35 ?_
        refine lv_iload_n hx hb dX5_take_36 rfl (lv_at hl 2 rfl) ?_
        refine lv_iadd hx hb dX5_take_37 ?_
        refine lv_iload_n hx hb dX5_take_38 rfl (lv_at hl 3 rfl) ?_
        obtain ⟨hi, h⟩ := h
        refine g_iast hx hb hK hP (gw_D hX) hS (tv tt) (cw_tv (t := tt) (by omega)) rfl hi (((x1 * 6) + x2).toNatClampNeg) rfl dX5_take_39 (fun H locs hP hS => ?_)
        have hP := cw_st (j := ((x1 * 6) + x2).toNatClampNeg) (x := x3) (cce_tv X _ (t := tt) (by omega) _) hP
        obtain ⟨S_6, eS_6⟩ : ∃ z : CS, z = sti S_1 (tv tt) (((x1 * 6) + x2).toNatClampNeg) x3 := ⟨_, rfl⟩
        rw [← eS_6] at hP
        have h := h S_6 eS_6
        refine lv_iconst (v := 1) hx hb dX5_take_40 (by decide) ?_
        exact W.zret (v := 1) hx hb hr rfl (fun t ht hW => ⟨⟨1, S_6, rfl, h, gB_of ht hP⟩, hS.F ht⟩) hS.2.2 dX5_take_41
      · have h := h.2 c_5
        refine lv_iconst (v := 0) hx hb dX5_take_26 (by decide) ?_
        exact W.zret (v := 0) hx hb hr rfl (fun t ht hW => ⟨⟨0, S_1, rfl, h, gB_of ht hP⟩, hS.F ht⟩) hS.2.2 dX5_take_27

abbrev rm_X5_readItem : Room := { frames := 4, cells := 0, slots := 0, locals := 91 }
def q_X5_readItem_53 (tt : Nat) (x2 : Int32) (post : Int32 → CS → Prop) : Nat → Int32 → Int32 → Int32 → CS → Prop
  | 0, _, _, _, _ => False
  | n9 + 1, y3, y4, y5, S => vp_in y3 6 ∧ (((([2, 3, 1, 1, 1, 1] : List Int32).getD y3.toNatClampNeg 0) ≤ y5 → (vp_in y3 6 ∧ (∀ u_9 : Int32, u_9 = ((S.1 (tm tt) y3.toNatClampNeg) + 1) → (vp_in y3 6 ∧ (∀ S_10 : CS, S_10 = sti S (tm tt) y3.toNatClampNeg u_9 → (p_X4_goOn S_10  (fun r_12 S_11 => ((r_12 = 59 → (post 1 S_11)) ∧ (¬ (r_12 = 59) → (post 0 S_11)))))))))) ∧ (¬ ((([2, 3, 1, 1, 1, 1] : List Int32).getD y3.toNatClampNeg 0) ≤ y5) → (p_X4_goOn S  (fun r_15 S_14 => ((r_15 = (-2) → (vp_in y3 6 ∧ (p_X4_tokenNumber S_14  (fun r_18 S_17 => (p_X5_take S_17 tt ((([0, 2, 5, 6, 7, 8] : List Int32).getD y3.toNatClampNeg 0) + y5) y4 r_18 (fun r_20 S_19 => ((r_20 = 0 → (post 0 S_19)) ∧ (¬ (r_20 = 0) → (∀ x5_22 : Int32, x5_22 = y5 + 1 → (q_X5_readItem_53 tt x2 post n9 y3 y4 x5_22 S_19)))))))))) ∧ (¬ (r_15 = (-2)) → (post 0 S_14)))))))
def q_X5_readItem_15 (tt : Nat) (x2 : Int32) (post : Int32 → CS → Prop) (z0 : Int32) (S : CS) : Prop := (z0 < 0 → (post 0 S)) ∧ (¬ (z0 < 0) → ((6 ≤ z0 → (post 0 S)) ∧ (¬ (6 ≤ z0) → (vp_in z0 6 ∧ (vp_in z0 6 ∧ (((S.1 (tm tt) z0.toNatClampNeg) < (([6, 6, 1, 1, 1, 1] : List Int32).getD z0.toNatClampNeg 0) → (vp_in z0 6 ∧ (∀ x4_7 : Int32, x4_7 = S.1 (tm tt) z0.toNatClampNeg → (∃ n, q_X5_readItem_53 tt x2 post n z0 x4_7 0 S)))) ∧ (¬ ((S.1 (tm tt) z0.toNatClampNeg) < (([6, 6, 1, 1, 1, 1] : List Int32).getD z0.toNatClampNeg 0)) → (post 0 S))))))))
def p_X5_readItem (S : CS) (tt : Nat) (x2 : Int32) (post : Int32 → CS → Prop) : Prop := (0 ≤ x2 → (p_J0_indexOf_0f7a4 S ((x2.toUInt32 % 65536).toInt32) (fun r_3 S_2 => (q_X5_readItem_15 tt x2 post r_3 S_2)))) ∧ (¬ (0 ≤ x2) → (q_X5_readItem_15 tt x2 post (-1) S))
set_option maxHeartbeats 4000000 in
set_option maxRecDepth 100000 in
theorem c_X5_readItem (l : Launch) (D : va_G) (X : XE) (hX : Inj 75 X.1) (sz : Nat) (S : CS) (tt : Nat) (hyp_tt : tt < 2) (x2 : Int32) (post : Int32 → CS → Prop) (h : p_X5_readItem S tt x2 post) : Met l yX5_readItem (Cond.code yX5_readItem cX5_readItem 6 (some .boolean) :: lw_gd) rm_X5_readItem (gPc D (tyX X) (CW X) (FXc X) (AX 75 X.1 sz) sz S [.ref (X.1 (to tt)), .ref (X.1 1), .int x2]) (va_Qi post (gB D (CW X)) (AX 75 X.1 sz)) 0 0 (AX 75 X.1 sz) := by
  refine Met.ofW (cc := cX5_readItem) (maxL := 6) (ret := (some .boolean)) (by decide) rfl ?_
  intro p e s m args below meth c s₁ B hml hv
  obtain ⟨rfl, hsz, hP, hK, hF⟩ := hv
  have hx := B.exec
  have hb := B.bytes
  have hr := B.returns
  have hts := atoms_spec (ws := (Cond.code yX5_readItem cX5_readItem 6 (some .boolean) :: lw_gd)) B.pre
  have hT : ∀ w ∈ lw_gd, w.before _ s = true := fun w h9 => hts w (List.mem_cons_of_mem _ h9)
  have hown : s.vm.findClass RX5 = some m.cls := findClass_of_methodNamed B.named
  have hlocks := B.notSynchronized
  subst hsz
  have hS : va_S (AX 75 X.1 s.heap.size) s.heap s.heap [] := va_S.rf
  have W53 : ∀ n1 : Nat, ∀ (y3 : Int32) (y4 : Int32) (y5 : Int32) (S : CS) (H : Heap) (locs : List Loc) (ls : Array Slot), va_P D vwCl (CW X S) H → va_S (AX 75 X.1 s.heap.size) s.heap H locs → lv_has ls 6 [(0, .ref (X.1 (to tt))), (1, .ref (X.1 1)), (3, .int y3), (4, .int y4), (5, .int y5)] → q_X5_readItem_53 tt x2 post n1 y3 y4 y5 S → W p l e (headSpec (Cond.code yX5_readItem cX5_readItem 6 (some .boolean) :: lw_gd) rm_X5_readItem).room s m ([.ref (X.1 (to tt)), .ref (X.1 1), .int x2] : List Value).toArray below meth c H locs 0 0 (MQ below (va_Qi post (gB D (CW X)) (AX 75 X.1 s.heap.size)) ([.ref (X.1 (to tt)), .ref (X.1 1), .int x2] : List Value).toArray s 0 0 (AX 75 X.1 s.heap.size)) (F0 m 53 ls []) := by
    intro n1
    induction n1 with
    | zero => intro y3 y4 y5 S H locs ls hP hS hl h; exact h.elim
    | succ n9 ih =>
      intro y3 y4 y5 S H locs ls hP hS hl h
      rw [q_X5_readItem_53] at h
      refine lv_iload hx hb dX5_readItem_53 (lv_at hl 4 rfl) ?_
      refine va_gets hx hb hF.2.2.2.1.1 hS hown (hT _ wf_X5_54) (fun _ h9 => h9) dX5_readItem_55 ?_
      refine lv_iload_n hx hb dX5_readItem_58 rfl (lv_at hl 2 rfl) ?_
      obtain ⟨hi, h⟩ := h
      refine g_tald hx hb hF.2.2.2.1.2 hS hi y3.toNatClampNeg rfl dX5_readItem_59 ?_
      refine lv_icmp_ge (tgt := 101) hx hb dX5_readItem_60 (by decide) (fun c_8 => ?_) (fun c_8 => ?_)
      · have h := h.1 c_8
        refine lv_aload_n hx hb dX5_readItem_101 rfl (lv_at hl 0 rfl) ?_
        refine va_get (D := D) (ci := 5) (v := .ref (X.1 (tm tt))) (C := RX5) (T := TX5) (N := 2) hx hb hT inX5 hown hK hP (to tt) (cw_Told (t := tt) (by omega)) rfl 0 (by decide) (hT _ wf_X5_9) (fun _ h9 => h9) rfl dX5_readItem_102 ?_
        refine lv_iload_n hx hb dX5_readItem_105 rfl (lv_at hl 2 rfl) ?_
        refine lv_dup2_11 hx hb dX5_readItem_106 rfl rfl ?_
        obtain ⟨hi, h⟩ := h
        refine g_iald hx hb hK hP (tm tt) (cw_tm (t := tt) (by omega)) rfl hi y3.toNatClampNeg rfl dX5_readItem_107 ?_
        refine lv_iconst (v := 1) hx hb dX5_readItem_108 (by decide) ?_
        refine lv_iadd hx hb dX5_readItem_109 ?_
        refine lv_topi (fun u_9 eu_9 => ?_)
        have h := h u_9 eu_9
        obtain ⟨hi, h⟩ := h
        refine g_iast hx hb hK hP (gw_D hX) hS (tm tt) (cw_tm (t := tt) (by omega)) rfl hi y3.toNatClampNeg rfl dX5_readItem_110 (fun H locs hP hS => ?_)
        have hP := cw_st (j := y3.toNatClampNeg) (x := u_9) (cce_tm X _ (t := tt) (by omega) _) hP
        obtain ⟨S_10, eS_10⟩ : ∃ z : CS, z = sti S (tm tt) y3.toNatClampNeg u_9 := ⟨_, rfl⟩
        rw [← eS_10] at hP
        have h := h S_10 eS_10
        refine lv_aload_n hx hb dX5_readItem_111 rfl (lv_at hl 1 rfl) ?_
        refine cVi (As := []) (rest := []) hX ⟨hx, hb, hml, hown, hT⟩ (c_X4_goOn l D X hX H.size S_10  _ h) (gd_V wl_X5_32 wi_X4_goOn wv_X4_goOn wn_X4 wc_X4_goOn) rfl hd_X4_goOn ⟨rfl, rfl⟩ ⟨Nat.le_of_ble_eq_true rfl, Nat.le_of_ble_eq_true rfl⟩ (va_recv hK hP (ci := 4) (q0 := 1) rfl cw_Text) hK hP hS hF rfl hl.1 rfl (Nat.le_of_ble_eq_true rfl) dX5_readItem_112 ⟨Nat.zero_le _, Nat.zero_le _⟩ (fun r_12 S_11 H locs h hP hS => ?_)
        refine lv_bipush (v := 59) hx hb dX5_readItem_115 (by decide) ?_
        refine lv_icmp_ne (tgt := 124) hx hb dX5_readItem_117 (by decide) (fun c_13 => ?_) (fun c_13 => ?_)
        · have h := h.2 c_13
          refine lv_iconst (v := 0) hx hb dX5_readItem_124 (by decide) ?_
          exact W.zret (v := 0) hx hb hr rfl (fun t ht hW => ⟨⟨0, S_11, rfl, h, gB_of ht hP⟩, hS.F ht⟩) hS.2.2 dX5_readItem_125
        · have h := h.1 c_13
          refine lv_iconst (v := 1) hx hb dX5_readItem_120 (by decide) ?_
          refine lv_goto (tgt := 125) hx hb dX5_readItem_121 (by decide) ?_
          exact W.zret (v := 1) hx hb hr rfl (fun t ht hW => ⟨⟨1, S_11, rfl, h, gB_of ht hP⟩, hS.F ht⟩) hS.2.2 dX5_readItem_125
      · have h := h.2 c_8
        refine lv_aload_n hx hb dX5_readItem_63 rfl (lv_at hl 1 rfl) ?_
        refine cVi (As := []) (rest := []) hX ⟨hx, hb, hml, hown, hT⟩ (c_X4_goOn l D X hX H.size S  _ h) (gd_V wl_X5_32 wi_X4_goOn wv_X4_goOn wn_X4 wc_X4_goOn) rfl hd_X4_goOn ⟨rfl, rfl⟩ ⟨Nat.le_of_ble_eq_true rfl, Nat.le_of_ble_eq_true rfl⟩ (va_recv hK hP (ci := 4) (q0 := 1) rfl cw_Text) hK hP hS hF rfl hl.1 rfl (Nat.le_of_ble_eq_true rfl) dX5_readItem_64 ⟨Nat.zero_le _, Nat.zero_le _⟩ (fun r_15 S_14 H locs h hP hS => ?_)
        refine lv_bipush (v := (-2)) hx hb dX5_readItem_67 (by decide) ?_
        refine lv_icmp_ne (tgt := 93) hx hb dX5_readItem_69 (by decide) (fun c_16 => ?_) (fun c_16 => ?_)
        · have h := h.2 c_16
          refine lv_iconst (v := 0) hx hb dX5_readItem_93 (by decide) ?_
          exact W.zret (v := 0) hx hb hr rfl (fun t ht hW => ⟨⟨0, S_14, rfl, h, gB_of ht hP⟩, hS.F ht⟩) hS.2.2 dX5_readItem_94
        · have h := h.1 c_16
          refine lv_aload_n hx hb dX5_readItem_72 rfl (lv_at hl 0 rfl) ?_
          refine va_gets hx hb hF.2.2.2.2.1.1 hS hown (hT _ wf_X5_57) (fun _ h9 => h9) dX5_readItem_73 ?_
          refine lv_iload_n hx hb dX5_readItem_76 rfl (lv_at hl 2 rfl) ?_
          obtain ⟨hi, h⟩ := h
          refine g_tald hx hb hF.2.2.2.2.1.2 hS hi y3.toNatClampNeg rfl dX5_readItem_77 ?_
          refine lv_iload hx hb dX5_readItem_78 (lv_at hl 4 rfl) ?_
          refine lv_iadd hx hb dX5_readItem_80 ?_
          refine lv_iload hx hb dX5_readItem_81 (lv_at hl 3 rfl) ?_
          refine lv_aload_n hx hb dX5_readItem_83 rfl (lv_at hl 1 rfl) ?_
          refine cVi (As := []) (rest := [.int y4, .int ((([0, 2, 5, 6, 7, 8] : List Int32).getD y3.toNatClampNeg 0) + y5), .ref (X.1 (to tt))]) hX ⟨hx, hb, hml, hown, hT⟩ (c_X4_tokenNumber l D X hX H.size S_14  _ h) (gd_V wl_X5_60 wi_X4_tokenNumber wv_X4_tokenNumber wn_X4 wc_X4_tokenNumber) rfl hd_X4_tokenNumber ⟨rfl, rfl⟩ ⟨Nat.le_of_ble_eq_true rfl, Nat.le_of_ble_eq_true rfl⟩ (va_recv hK hP (ci := 4) (q0 := 1) rfl cw_Text) hK hP hS hF rfl hl.1 rfl (Nat.le_of_ble_eq_true rfl) dX5_readItem_84 ⟨Nat.zero_le _, Nat.zero_le _⟩ (fun r_18 S_17 H locs h hP hS => ?_)
          refine cVi (As := [.int ((([0, 2, 5, 6, 7, 8] : List Int32).getD y3.toNatClampNeg 0) + y5), .int y4, .int r_18]) (rest := []) hX ⟨hx, hb, hml, hown, hT⟩ (c_X5_take l D X hX H.size S_17 tt hyp_tt ((([0, 2, 5, 6, 7, 8] : List Int32).getD y3.toNatClampNeg 0) + y5) y4 r_18 _ h) (gd_V wl_X5_63 wi_X5_take wv_X5_take wn_X5 wc_X5_take) rfl hd_X5_take ⟨rfl, rfl⟩ ⟨Nat.le_of_ble_eq_true rfl, Nat.le_of_ble_eq_true rfl⟩ (va_recv hK hP (ci := 5) (q0 := (to tt)) rfl (cw_Told (t := tt) (by omega))) hK hP hS hF rfl hl.1 rfl (Nat.le_of_ble_eq_true rfl) dX5_readItem_87 ⟨Nat.zero_le _, Nat.zero_le _⟩ (fun r_20 S_19 H locs h hP hS => ?_)
          refine lv_if_ne (tgt := 95) hx hb dX5_readItem_90 (by decide) (fun c_21 => ?_) (fun c_21 => ?_)
          · have h := h.2 c_21
            obtain ⟨x5_22, ex5_22⟩ : ∃ z : Int32, z = y5 + 1 := ⟨_, rfl⟩
            refine lv_iinc (v := x5_22) (lv' := [(5, .int x5_22), (0, .ref (X.1 (to tt))), (1, .ref (X.1 1)), (3, .int y3), (4, .int y4)]) hx hb dX5_readItem_95 hl (k := 4) rfl (by rw [ex5_22]; rfl) (by decide) rfl (fun ls hl => ?_)
            have h := h x5_22 ex5_22
            refine lv_goto (tgt := 53) hx hb dX5_readItem_98 (by decide) ?_
            exact ih y3 y4 x5_22 S_19 H locs ls hP hS (lv_sub hl [1, 2, 3, 4, 0] rfl) h
          · have h := h.1 c_21
            refine lv_iconst (v := 0) hx hb dX5_readItem_93 (by decide) ?_
            exact W.zret (v := 0) hx hb hr rfl (fun t ht hW => ⟨⟨0, S_19, rfl, h, gB_of ht hP⟩, hS.F ht⟩) hS.2.2 dX5_readItem_94
  have W15 : ∀ (z0 : Int32) (S : CS) (H : Heap) (locs : List Loc) (ls : Array Slot), va_P D vwCl (CW X S) H → va_S (AX 75 X.1 s.heap.size) s.heap H locs → lv_has ls 6 [(0, .ref (X.1 (to tt))), (1, .ref (X.1 1))] → q_X5_readItem_15 tt x2 post z0 S → W p l e (headSpec (Cond.code yX5_readItem cX5_readItem 6 (some .boolean) :: lw_gd) rm_X5_readItem).room s m ([.ref (X.1 (to tt)), .ref (X.1 1), .int x2] : List Value).toArray below meth c H locs 0 0 (MQ below (va_Qi post (gB D (CW X)) (AX 75 X.1 s.heap.size)) ([.ref (X.1 (to tt)), .ref (X.1 1), .int x2] : List Value).toArray s 0 0 (AX 75 X.1 s.heap.size)) (F0 m 15 ls [.int z0]) := by
    intro z0 S H locs ls hP hS hl h
    unfold q_X5_readItem_15 at h
    refine lv_istore_n (lv' := [(3, .int z0), (0, .ref (X.1 (to tt))), (1, .ref (X.1 1))]) hx hb dX5_readItem_15 rfl hl (by decide) rfl (fun ls hl => ?_)
    refine lv_iload_n hx hb dX5_readItem_16 rfl (lv_at hl 0 rfl) ?_
    refine lv_if_lt (tgt := 40) hx hb dX5_readItem_17 (by decide) (fun c_4 => ?_) (fun c_4 => ?_)
    · have h := h.1 c_4
      refine lv_iconst (v := 0) hx hb dX5_readItem_40 (by decide) ?_
      exact W.zret (v := 0) hx hb hr rfl (fun t ht hW => ⟨⟨0, S, rfl, h, gB_of ht hP⟩, hS.F ht⟩) hS.2.2 dX5_readItem_41
    · have h := h.2 c_4
      refine lv_iload_n hx hb dX5_readItem_20 rfl (lv_at hl 0 rfl) ?_
      refine lv_bipush (v := 6) hx hb dX5_readItem_21 (by decide) ?_
      refine lv_icmp_ge (tgt := 40) hx hb dX5_readItem_23 (by decide) (fun c_5 => ?_) (fun c_5 => ?_)
      · have h := h.1 c_5
        refine lv_iconst (v := 0) hx hb dX5_readItem_40 (by decide) ?_
        exact W.zret (v := 0) hx hb hr rfl (fun t ht hW => ⟨⟨0, S, rfl, h, gB_of ht hP⟩, hS.F ht⟩) hS.2.2 dX5_readItem_41
      · have h := h.2 c_5
        refine lv_aload_n hx hb dX5_readItem_26 rfl (lv_at hl 1 rfl) ?_
        refine va_get (D := D) (ci := 5) (v := .ref (X.1 (tm tt))) (C := RX5) (T := TX5) (N := 2) hx hb hT inX5 hown hK hP (to tt) (cw_Told (t := tt) (by omega)) rfl 0 (by decide) (hT _ wf_X5_9) (fun _ h9 => h9) rfl dX5_readItem_27 ?_
        refine lv_iload_n hx hb dX5_readItem_30 rfl (lv_at hl 0 rfl) ?_
        obtain ⟨hi, h⟩ := h
        refine g_iald hx hb hK hP (tm tt) (cw_tm (t := tt) (by omega)) rfl hi z0.toNatClampNeg rfl dX5_readItem_31 ?_
        refine va_gets hx hb hF.2.2.1.1 hS hown (hT _ wf_X5_51) (fun _ h9 => h9) dX5_readItem_32 ?_
        refine lv_iload_n hx hb dX5_readItem_35 rfl (lv_at hl 0 rfl) ?_
        obtain ⟨hi, h⟩ := h
        refine g_tald hx hb hF.2.2.1.2 hS hi z0.toNatClampNeg rfl dX5_readItem_36 ?_
        refine lv_icmp_lt (tgt := 42) hx hb dX5_readItem_37 (by decide) (fun c_6 => ?_) (fun c_6 => ?_)
        · have h := h.1 c_6
          refine lv_aload_n hx hb dX5_readItem_42 rfl (lv_at hl 1 rfl) ?_
          refine va_get (D := D) (ci := 5) (v := .ref (X.1 (tm tt))) (C := RX5) (T := TX5) (N := 2) hx hb hT inX5 hown hK hP (to tt) (cw_Told (t := tt) (by omega)) rfl 0 (by decide) (hT _ wf_X5_9) (fun _ h9 => h9) rfl dX5_readItem_43 ?_
          refine lv_iload_n hx hb dX5_readItem_46 rfl (lv_at hl 0 rfl) ?_
          obtain ⟨hi, h⟩ := h
          refine g_iald hx hb hK hP (tm tt) (cw_tm (t := tt) (by omega)) rfl hi z0.toNatClampNeg rfl dX5_readItem_47 ?_
          refine lv_topi (fun x4_7 ex4_7 => ?_)
          have h := h x4_7 ex4_7
          refine lv_istore (lv' := [(4, .int x4_7), (3, .int z0), (0, .ref (X.1 (to tt))), (1, .ref (X.1 1))]) hx hb dX5_readItem_48 hl (by decide) rfl (fun ls hl => ?_)
          refine lv_iconst (v := 0) hx hb dX5_readItem_50 (by decide) ?_
          refine lv_istore (lv' := [(5, .int 0), (4, .int x4_7), (3, .int z0), (0, .ref (X.1 (to tt))), (1, .ref (X.1 1))]) hx hb dX5_readItem_51 hl (by decide) rfl (fun ls hl => ?_)
          obtain ⟨n1, h⟩ := h
          exact W53  n1 z0 x4_7 0 S H locs ls hP hS (lv_sub hl [3, 4, 2, 1, 0] rfl) h
        · have h := h.2 c_6
          refine lv_iconst (v := 0) hx hb dX5_readItem_40 (by decide) ?_
          exact W.zret (v := 0) hx hb hr rfl (fun t ht hW => ⟨⟨0, S, rfl, h, gB_of ht hP⟩, hS.F ht⟩) hS.2.2 dX5_readItem_41
  have hl := lv_entry ([.ref (X.1 (to tt)), .ref (X.1 1), .int x2]) (n := 6) (Nat.le_of_ble_eq_true rfl)
  rw [lg_entry_eq]
  generalize (lg_sl ([.ref (X.1 (to tt)), .ref (X.1 1), .int x2]) ++ List.replicate (6 - (lg_sl ([.ref (X.1 (to tt)), .ref (X.1 1), .int x2])).length) Slot.unset).toArray = ls at hl ⊢
  have hl : lv_has ls 6 [(0, .ref (X.1 (to tt))), (1, .ref (X.1 1)), (2, .int x2)] := hl
  obtain ⟨H, hH⟩ : ∃ H : Heap, H = s.heap := ⟨_, rfl⟩
  obtain ⟨locs, hlc⟩ : ∃ q : List Loc, q = [] := ⟨_, rfl⟩
  have hS : va_S (AX 75 X.1 s.heap.size) s.heap H locs := by rw [hH, hlc]; exact hS
  have hP : va_P D vwCl (CW X S) H := by rw [hH]; exact hP
  show W p l e (headSpec (Cond.code yX5_readItem cX5_readItem 6 (some .boolean) :: lw_gd) rm_X5_readItem).room s m ([.ref (X.1 (to tt)), .ref (X.1 1), .int x2] : List Value).toArray below meth c s.heap [] 0 0 (MQ below (va_Qi post (gB D (CW X)) (AX 75 X.1 s.heap.size)) ([.ref (X.1 (to tt)), .ref (X.1 1), .int x2] : List Value).toArray s 0 0 (AX 75 X.1 s.heap.size)) _
  suffices hgo : W p l e (headSpec (Cond.code yX5_readItem cX5_readItem 6 (some .boolean) :: lw_gd) rm_X5_readItem).room s m ([.ref (X.1 (to tt)), .ref (X.1 1), .int x2] : List Value).toArray below meth c H locs 0 0 (MQ below (va_Qi post (gB D (CW X)) (AX 75 X.1 s.heap.size)) ([.ref (X.1 (to tt)), .ref (X.1 1), .int x2] : List Value).toArray s 0 0 (AX 75 X.1 s.heap.size)) (F0 m 0 ls []) from by rw [hH, hlc] at hgo; exact hgo
  unfold p_X5_readItem at h
  refine lv_iload_n hx hb dX5_readItem_0 rfl (lv_at hl 2 rfl) ?_
  refine lv_if_ge (tgt := 8) hx hb dX5_readItem_1 (by decide) (fun c_1 => ?_) (fun c_1 => ?_)
  · have h := h.1 c_1
    refine va_ldcS hx hb hown hF.2.2.2.2.2.2.2.1 dX5_readItem_8 ?_
    refine lv_iload_n hx hb dX5_readItem_10 rfl (lv_at hl 2 rfl) ?_
    refine lv_i2c hx hb dX5_readItem_11 rfl ?_
    refine cVi (As := [.int ((x2.toUInt32 % 65536).toInt32)]) (rest := []) hX ⟨hx, hb, hml, hown, hT⟩ (c_J0_indexOf_0f7a4 l D X hX H.size S ((x2.toUInt32 % 65536).toInt32) _ h) (gd_V wl_X5_45 wi_J0_indexOf_0f7a4 wv_J0_indexOf_0f7a4 wn_J0 wc_J0_indexOf_0f7a4) rfl hd_J0_indexOf_0f7a4 ⟨rfl, rfl⟩ ⟨Nat.le_of_ble_eq_true rfl, Nat.le_of_ble_eq_true rfl⟩ (vk_recv hF.2.2.2.2.2.2.2.2.1 (i := 0) (by decide) hS) hK hP hS hF rfl hl.1 rfl (Nat.le_of_ble_eq_true rfl) dX5_readItem_12 ⟨Nat.zero_le _, Nat.zero_le _⟩ (fun r_3 S_2 H locs h hP hS => ?_)
    exact W15  r_3 S_2 H locs ls hP hS (lv_sub hl [0, 1] rfl) h
  · have h := h.2 c_1
    refine lv_iconst (v := (-1)) hx hb dX5_readItem_4 (by decide) ?_
    refine lv_goto (tgt := 15) hx hb dX5_readItem_5 (by decide) ?_
    exact W15  (-1) S H locs ls hP hS (lv_sub hl [0, 1] rfl) h

abbrev rm_X5_readFrom : Room := { frames := 5, cells := 0, slots := 0, locals := 116 }
def q_X5_readFrom_10 (tt : Nat) (post : Int32 → CS → Prop) : Nat → Int32 → CS → Prop
  | 0, _, _ => False
  | n9 + 1, y2, S => (200 < y2 → (p_X4_tokenStart S  (fun r_7 S_6 => (post ((-10) - r_7) S_6)))) ∧ (¬ (200 < y2) → (p_X4_goOn S  (fun r_9 S_8 => ((r_9 = (-1) → (post y2 S_8)) ∧ (¬ (r_9 = (-1)) → (p_X5_readItem S_8 tt r_9 (fun r_12 S_11 => ((r_12 = 0 → (p_X4_tokenStart S_11  (fun r_16 S_15 => (post ((-10) - r_16) S_15)))) ∧ (¬ (r_12 = 0) → (∀ x2_14 : Int32, x2_14 = y2 + 1 → (q_X5_readFrom_10 tt post n9 x2_14 S_11)))))))))))
def p_X5_readFrom (S : CS) (tt : Nat) (post : Int32 → CS → Prop) : Prop := p_X5_setAsAtFirst S tt (fun S_1 => (p_X4_rewind S_1  (fun S_3 => (∃ n, q_X5_readFrom_10 tt post n 0 S_3))))
set_option maxHeartbeats 4000000 in
set_option maxRecDepth 100000 in
theorem c_X5_readFrom (l : Launch) (D : va_G) (X : XE) (hX : Inj 75 X.1) (sz : Nat) (S : CS) (tt : Nat) (hyp_tt : tt < 2) (post : Int32 → CS → Prop) (h : p_X5_readFrom S tt post) : Met l yX5_readFrom (Cond.code yX5_readFrom cX5_readFrom 4 (some .int) :: lw_gd) rm_X5_readFrom (gPc D (tyX X) (CW X) (FXc X) (AX 75 X.1 sz) sz S [.ref (X.1 (to tt)), .ref (X.1 1)]) (va_Qi post (gB D (CW X)) (AX 75 X.1 sz)) 0 0 (AX 75 X.1 sz) := by
  refine Met.ofW (cc := cX5_readFrom) (maxL := 4) (ret := (some .int)) (by decide) rfl ?_
  intro p e s m args below meth c s₁ B hml hv
  obtain ⟨rfl, hsz, hP, hK, hF⟩ := hv
  have hx := B.exec
  have hb := B.bytes
  have hr := B.returns
  have hts := atoms_spec (ws := (Cond.code yX5_readFrom cX5_readFrom 4 (some .int) :: lw_gd)) B.pre
  have hT : ∀ w ∈ lw_gd, w.before _ s = true := fun w h9 => hts w (List.mem_cons_of_mem _ h9)
  have hown : s.vm.findClass RX5 = some m.cls := findClass_of_methodNamed B.named
  have hlocks := B.notSynchronized
  subst hsz
  have hS : va_S (AX 75 X.1 s.heap.size) s.heap s.heap [] := va_S.rf
  have W10 : ∀ n1 : Nat, ∀ (y2 : Int32) (S : CS) (H : Heap) (locs : List Loc) (ls : Array Slot), va_P D vwCl (CW X S) H → va_S (AX 75 X.1 s.heap.size) s.heap H locs → lv_has ls 4 [(0, .ref (X.1 (to tt))), (1, .ref (X.1 1)), (2, .int y2)] → q_X5_readFrom_10 tt post n1 y2 S → W p l e (headSpec (Cond.code yX5_readFrom cX5_readFrom 4 (some .int) :: lw_gd) rm_X5_readFrom).room s m ([.ref (X.1 (to tt)), .ref (X.1 1)] : List Value).toArray below meth c H locs 0 0 (MQ below (va_Qi post (gB D (CW X)) (AX 75 X.1 s.heap.size)) ([.ref (X.1 (to tt)), .ref (X.1 1)] : List Value).toArray s 0 0 (AX 75 X.1 s.heap.size)) (F0 m 10 ls []) := by
    intro n1
    induction n1 with
    | zero => intro y2 S H locs ls hP hS hl h; exact h.elim
    | succ n9 ih =>
      intro y2 S H locs ls hP hS hl h
      rw [q_X5_readFrom_10] at h
      refine lv_iload_n hx hb dX5_readFrom_10 rfl (lv_at hl 2 rfl) ?_
      refine lv_sipush (v := 200) hx hb dX5_readFrom_11 (by decide) ?_
      refine lv_icmp_gt (tgt := 47) hx hb dX5_readFrom_14 (by decide) (fun c_5 => ?_) (fun c_5 => ?_)
      · have h := h.1 c_5
        refine lv_bipush (v := (-10)) hx hb dX5_readFrom_47 (by decide) ?_
        refine lv_aload_n hx hb dX5_readFrom_49 rfl (lv_at hl 1 rfl) ?_
        refine cVi (As := []) (rest := [.int (-10)]) hX ⟨hx, hb, hml, hown, hT⟩ (c_X4_tokenStart l D X hX H.size S  _ h) (gd_V wl_X5_40 wi_X4_tokenStart wv_X4_tokenStart wn_X4 wc_X4_tokenStart) rfl hd_X4_tokenStart ⟨rfl, rfl⟩ ⟨Nat.le_of_ble_eq_true rfl, Nat.le_of_ble_eq_true rfl⟩ (va_recv hK hP (ci := 4) (q0 := 1) rfl cw_Text) hK hP hS hF rfl hl.1 rfl (Nat.le_of_ble_eq_true rfl) dX5_readFrom_50 ⟨Nat.zero_le _, Nat.zero_le _⟩ (fun r_7 S_6 H locs h hP hS => ?_)
        refine lv_isub hx hb dX5_readFrom_53 ?_
        exact W.iret (v := ((-10) - r_7)) hx hb hr (fun t ht hW => ⟨⟨((-10) - r_7), S_6, rfl, h, gB_of ht hP⟩, hS.F ht⟩) hS.2.2 dX5_readFrom_54
      · have h := h.2 c_5
        refine lv_aload_n hx hb dX5_readFrom_17 rfl (lv_at hl 1 rfl) ?_
        refine cVi (As := []) (rest := []) hX ⟨hx, hb, hml, hown, hT⟩ (c_X4_goOn l D X hX H.size S  _ h) (gd_V wl_X5_32 wi_X4_goOn wv_X4_goOn wn_X4 wc_X4_goOn) rfl hd_X4_goOn ⟨rfl, rfl⟩ ⟨Nat.le_of_ble_eq_true rfl, Nat.le_of_ble_eq_true rfl⟩ (va_recv hK hP (ci := 4) (q0 := 1) rfl cw_Text) hK hP hS hF rfl hl.1 rfl (Nat.le_of_ble_eq_true rfl) dX5_readFrom_18 ⟨Nat.zero_le _, Nat.zero_le _⟩ (fun r_9 S_8 H locs h hP hS => ?_)
        refine lv_istore_n (lv' := [(3, .int r_9), (0, .ref (X.1 (to tt))), (1, .ref (X.1 1)), (2, .int y2)]) hx hb dX5_readFrom_21 rfl hl (by decide) rfl (fun ls hl => ?_)
        refine lv_iload_n hx hb dX5_readFrom_22 rfl (lv_at hl 0 rfl) ?_
        refine lv_iconst (v := (-1)) hx hb dX5_readFrom_23 (by decide) ?_
        refine lv_icmp_ne (tgt := 29) hx hb dX5_readFrom_24 (by decide) (fun c_10 => ?_) (fun c_10 => ?_)
        · have h := h.2 c_10
          refine lv_aload_n hx hb dX5_readFrom_29 rfl (lv_at hl 1 rfl) ?_
          refine lv_aload_n hx hb dX5_readFrom_30 rfl (lv_at hl 2 rfl) ?_
          refine lv_iload_n hx hb dX5_readFrom_31 rfl (lv_at hl 0 rfl) ?_
          refine cVi (As := [.ref (X.1 1), .int r_9]) (rest := []) hX ⟨hx, hb, hml, hown, hT⟩ (c_X5_readItem l D X hX H.size S_8 tt hyp_tt r_9 _ h) (gd_V wl_X5_36 wi_X5_readItem wv_X5_readItem wn_X5 wc_X5_readItem) rfl hd_X5_readItem ⟨rfl, rfl⟩ ⟨Nat.le_of_ble_eq_true rfl, Nat.le_of_ble_eq_true rfl⟩ (va_recv hK hP (ci := 5) (q0 := (to tt)) rfl (cw_Told (t := tt) (by omega))) hK hP hS hF rfl hl.1 rfl (Nat.le_of_ble_eq_true rfl) dX5_readFrom_32 ⟨Nat.zero_le _, Nat.zero_le _⟩ (fun r_12 S_11 H locs h hP hS => ?_)
          refine lv_if_ne (tgt := 41) hx hb dX5_readFrom_35 (by decide) (fun c_13 => ?_) (fun c_13 => ?_)
          · have h := h.2 c_13
            obtain ⟨x2_14, ex2_14⟩ : ∃ z : Int32, z = y2 + 1 := ⟨_, rfl⟩
            refine lv_iinc (v := x2_14) (lv' := [(2, .int x2_14), (3, .int r_9), (0, .ref (X.1 (to tt))), (1, .ref (X.1 1))]) hx hb dX5_readFrom_41 hl (k := 3) rfl (by rw [ex2_14]; rfl) (by decide) rfl (fun ls hl => ?_)
            have h := h x2_14 ex2_14
            refine lv_goto (tgt := 10) hx hb dX5_readFrom_44 (by decide) ?_
            exact ih x2_14 S_11 H locs ls hP hS (lv_sub hl [2, 3, 0] rfl) h
          · have h := h.1 c_13
            refine lv_goto (tgt := 47) hx hb dX5_readFrom_38 (by decide) ?_
            refine lv_bipush (v := (-10)) hx hb dX5_readFrom_47 (by decide) ?_
            refine lv_aload_n hx hb dX5_readFrom_49 rfl (lv_at hl 2 rfl) ?_
            refine cVi (As := []) (rest := [.int (-10)]) hX ⟨hx, hb, hml, hown, hT⟩ (c_X4_tokenStart l D X hX H.size S_11  _ h) (gd_V wl_X5_40 wi_X4_tokenStart wv_X4_tokenStart wn_X4 wc_X4_tokenStart) rfl hd_X4_tokenStart ⟨rfl, rfl⟩ ⟨Nat.le_of_ble_eq_true rfl, Nat.le_of_ble_eq_true rfl⟩ (va_recv hK hP (ci := 4) (q0 := 1) rfl cw_Text) hK hP hS hF rfl hl.1 rfl (Nat.le_of_ble_eq_true rfl) dX5_readFrom_50 ⟨Nat.zero_le _, Nat.zero_le _⟩ (fun r_16 S_15 H locs h hP hS => ?_)
            refine lv_isub hx hb dX5_readFrom_53 ?_
            exact W.iret (v := ((-10) - r_16)) hx hb hr (fun t ht hW => ⟨⟨((-10) - r_16), S_15, rfl, h, gB_of ht hP⟩, hS.F ht⟩) hS.2.2 dX5_readFrom_54
        · have h := h.1 c_10
          refine lv_iload_n hx hb dX5_readFrom_27 rfl (lv_at hl 3 rfl) ?_
          exact W.iret (v := y2) hx hb hr (fun t ht hW => ⟨⟨y2, S_8, rfl, h, gB_of ht hP⟩, hS.F ht⟩) hS.2.2 dX5_readFrom_28
  have hl := lv_entry ([.ref (X.1 (to tt)), .ref (X.1 1)]) (n := 4) (Nat.le_of_ble_eq_true rfl)
  rw [lg_entry_eq]
  generalize (lg_sl ([.ref (X.1 (to tt)), .ref (X.1 1)]) ++ List.replicate (4 - (lg_sl ([.ref (X.1 (to tt)), .ref (X.1 1)])).length) Slot.unset).toArray = ls at hl ⊢
  have hl : lv_has ls 4 [(0, .ref (X.1 (to tt))), (1, .ref (X.1 1))] := hl
  obtain ⟨H, hH⟩ : ∃ H : Heap, H = s.heap := ⟨_, rfl⟩
  obtain ⟨locs, hlc⟩ : ∃ q : List Loc, q = [] := ⟨_, rfl⟩
  have hS : va_S (AX 75 X.1 s.heap.size) s.heap H locs := by rw [hH, hlc]; exact hS
  have hP : va_P D vwCl (CW X S) H := by rw [hH]; exact hP
  show W p l e (headSpec (Cond.code yX5_readFrom cX5_readFrom 4 (some .int) :: lw_gd) rm_X5_readFrom).room s m ([.ref (X.1 (to tt)), .ref (X.1 1)] : List Value).toArray below meth c s.heap [] 0 0 (MQ below (va_Qi post (gB D (CW X)) (AX 75 X.1 s.heap.size)) ([.ref (X.1 (to tt)), .ref (X.1 1)] : List Value).toArray s 0 0 (AX 75 X.1 s.heap.size)) _
  suffices hgo : W p l e (headSpec (Cond.code yX5_readFrom cX5_readFrom 4 (some .int) :: lw_gd) rm_X5_readFrom).room s m ([.ref (X.1 (to tt)), .ref (X.1 1)] : List Value).toArray below meth c H locs 0 0 (MQ below (va_Qi post (gB D (CW X)) (AX 75 X.1 s.heap.size)) ([.ref (X.1 (to tt)), .ref (X.1 1)] : List Value).toArray s 0 0 (AX 75 X.1 s.heap.size)) (F0 m 0 ls []) from by rw [hH, hlc] at hgo; exact hgo
  unfold p_X5_readFrom at h
  refine lv_aload_n hx hb dX5_readFrom_0 rfl (lv_at hl 0 rfl) ?_
  refine cVv (As := []) (rest := []) hX ⟨hx, hb, hml, hown, hT⟩ (c_X5_setAsAtFirst l D X hX H.size S tt hyp_tt _ h) (gd_V wl_X5_16 wi_X5_setAsAtFirst wv_X5_setAsAtFirst wn_X5 wc_X5_setAsAtFirst) rfl hd_X5_setAsAtFirst ⟨rfl, rfl⟩ ⟨Nat.le_of_ble_eq_true rfl, Nat.le_of_ble_eq_true rfl⟩ (va_recv hK hP (ci := 5) (q0 := (to tt)) rfl (cw_Told (t := tt) (by omega))) hK hP hS hF rfl hl.1 rfl (Nat.le_of_ble_eq_true rfl) dX5_readFrom_1 ⟨Nat.zero_le _, Nat.zero_le _⟩ (fun S_1 H locs h hP hS => ?_)
  refine lv_aload_n hx hb dX5_readFrom_4 rfl (lv_at hl 1 rfl) ?_
  refine cVv (As := []) (rest := []) hX ⟨hx, hb, hml, hown, hT⟩ (c_X4_rewind l D X hX H.size S_1  _ h) (gd_V wl_X5_27 wi_X4_rewind wv_X4_rewind wn_X4 wc_X4_rewind) rfl hd_X4_rewind ⟨rfl, rfl⟩ ⟨Nat.le_of_ble_eq_true rfl, Nat.le_of_ble_eq_true rfl⟩ (va_recv hK hP (ci := 4) (q0 := 1) rfl cw_Text) hK hP hS hF rfl hl.1 rfl (Nat.le_of_ble_eq_true rfl) dX5_readFrom_5 ⟨Nat.zero_le _, Nat.zero_le _⟩ (fun S_3 H locs h hP hS => ?_)
  refine lv_iconst (v := 0) hx hb dX5_readFrom_8 (by decide) ?_
  refine lv_istore_n (lv' := [(2, .int 0), (0, .ref (X.1 (to tt))), (1, .ref (X.1 1))]) hx hb dX5_readFrom_9 rfl hl (by decide) rfl (fun ls hl => ?_)
  obtain ⟨n1, h⟩ := h
  exact W10  n1 0 S_3 H locs ls hP hS (lv_sub hl [1, 2, 0] rfl) h

abbrev rm_X1_age : Room := { frames := 0, cells := 0, slots := 0, locals := 0 }
def p_X1_age (S : CS) (mm : Nat) (x1 : Int32) (post : Int32 → CS → Prop) : Prop := (x1 < 0 → (post 0 S)) ∧ (¬ (x1 < 0) → ((x1 < 6 → (vp_in x1 6 ∧ (post (S.1 (mg mm) x1.toNatClampNeg) S))) ∧ (¬ (x1 < 6) → (post 0 S))))
set_option maxHeartbeats 4000000 in
set_option maxRecDepth 100000 in
theorem c_X1_age (l : Launch) (D : va_G) (X : XE) (hX : Inj 75 X.1) (sz : Nat) (S : CS) (mm : Nat) (hyp_mm : mm < 13) (x1 : Int32) (post : Int32 → CS → Prop) (h : p_X1_age S mm x1 post) : Met l yX1_age (Cond.code yX1_age cX1_age 2 (some .int) :: lw_gd) rm_X1_age (gPc D (tyX X) (CW X) (FXc X) (AX 75 X.1 sz) sz S [.ref (X.1 (mo mm)), .int x1]) (va_Qi post (gB D (CW X)) (AX 75 X.1 sz)) 0 0 (AX 75 X.1 sz) := by
  refine Met.ofW (cc := cX1_age) (maxL := 2) (ret := (some .int)) (by decide) rfl ?_
  intro p e s m args below meth c s₁ B hml hv
  obtain ⟨rfl, hsz, hP, hK, hF⟩ := hv
  have hx := B.exec
  have hb := B.bytes
  have hr := B.returns
  have hts := atoms_spec (ws := (Cond.code yX1_age cX1_age 2 (some .int) :: lw_gd)) B.pre
  have hT : ∀ w ∈ lw_gd, w.before _ s = true := fun w h9 => hts w (List.mem_cons_of_mem _ h9)
  have hown : s.vm.findClass RX1 = some m.cls := findClass_of_methodNamed B.named
  have hlocks := B.notSynchronized
  subst hsz
  have hS : va_S (AX 75 X.1 s.heap.size) s.heap s.heap [] := va_S.rf
  have hl := lv_entry ([.ref (X.1 (mo mm)), .int x1]) (n := 2) (Nat.le_of_ble_eq_true rfl)
  rw [lg_entry_eq]
  generalize (lg_sl ([.ref (X.1 (mo mm)), .int x1]) ++ List.replicate (2 - (lg_sl ([.ref (X.1 (mo mm)), .int x1])).length) Slot.unset).toArray = ls at hl ⊢
  have hl : lv_has ls 2 [(0, .ref (X.1 (mo mm))), (1, .int x1)] := hl
  obtain ⟨H, hH⟩ : ∃ H : Heap, H = s.heap := ⟨_, rfl⟩
  obtain ⟨locs, hlc⟩ : ∃ q : List Loc, q = [] := ⟨_, rfl⟩
  have hS : va_S (AX 75 X.1 s.heap.size) s.heap H locs := by rw [hH, hlc]; exact hS
  have hP : va_P D vwCl (CW X S) H := by rw [hH]; exact hP
  show W p l e (headSpec (Cond.code yX1_age cX1_age 2 (some .int) :: lw_gd) rm_X1_age).room s m ([.ref (X.1 (mo mm)), .int x1] : List Value).toArray below meth c s.heap [] 0 0 (MQ below (va_Qi post (gB D (CW X)) (AX 75 X.1 s.heap.size)) ([.ref (X.1 (mo mm)), .int x1] : List Value).toArray s 0 0 (AX 75 X.1 s.heap.size)) _
  suffices hgo : W p l e (headSpec (Cond.code yX1_age cX1_age 2 (some .int) :: lw_gd) rm_X1_age).room s m ([.ref (X.1 (mo mm)), .int x1] : List Value).toArray below meth c H locs 0 0 (MQ below (va_Qi post (gB D (CW X)) (AX 75 X.1 s.heap.size)) ([.ref (X.1 (mo mm)), .int x1] : List Value).toArray s 0 0 (AX 75 X.1 s.heap.size)) (F0 m 0 ls []) from by rw [hH, hlc] at hgo; exact hgo
  unfold p_X1_age at h
  refine lv_iload_n hx hb dX1_age_0 rfl (lv_at hl 1 rfl) ?_
  refine lv_if_lt (tgt := 13) hx hb dX1_age_1 (by decide) (fun c_1 => ?_) (fun c_1 => ?_)
  · have h := h.1 c_1
    refine lv_iconst (v := 0) hx hb dX1_age_13 (by decide) ?_
    refine lv_goto (tgt := 23) hx hb dX1_age_14 (by decide) ?_
    exact W.iret (v := 0) hx hb hr (fun t ht hW => ⟨⟨0, S, rfl, h, gB_of ht hP⟩, hS.F ht⟩) hS.2.2 dX1_age_23
  · have h := h.2 c_1
    refine lv_iload_n hx hb dX1_age_4 rfl (lv_at hl 1 rfl) ?_
    refine lv_aload_n hx hb dX1_age_5 rfl (lv_at hl 0 rfl) ?_
    refine va_get (D := D) (ci := 1) (v := .ref (X.1 (mg mm))) (C := RX1) (T := TX1) (N := 8) hx hb hT inX1 hown hK hP (mo mm) (cw_Moment (m := mm) (by omega)) rfl 0 (by decide) (hT _ wf_X1_9) (fun _ h9 => h9) rfl dX1_age_6 ?_
    refine va_alen hx hb hK hP (mg mm) 0 (cw_mg (m := mm) (by omega)) rfl (v := 6) rfl dX1_age_9 ?_
    refine lv_icmp_lt (tgt := 17) hx hb dX1_age_10 (by decide) (fun c_2 => ?_) (fun c_2 => ?_)
    · have h := h.1 c_2
      refine lv_aload_n hx hb dX1_age_17 rfl (lv_at hl 0 rfl) ?_
      refine va_get (D := D) (ci := 1) (v := .ref (X.1 (mg mm))) (C := RX1) (T := TX1) (N := 8) hx hb hT inX1 hown hK hP (mo mm) (cw_Moment (m := mm) (by omega)) rfl 0 (by decide) (hT _ wf_X1_9) (fun _ h9 => h9) rfl dX1_age_18 ?_
      refine lv_iload_n hx hb dX1_age_21 rfl (lv_at hl 1 rfl) ?_
      obtain ⟨hi, h⟩ := h
      refine g_iald hx hb hK hP (mg mm) (cw_mg (m := mm) (by omega)) rfl hi x1.toNatClampNeg rfl dX1_age_22 ?_
      exact W.iret (v := S.1 (mg mm) x1.toNatClampNeg) hx hb hr (fun t ht hW => ⟨⟨S.1 (mg mm) x1.toNatClampNeg, S, rfl, h, gB_of ht hP⟩, hS.F ht⟩) hS.2.2 dX1_age_23
    · have h := h.2 c_2
      refine lv_iconst (v := 0) hx hb dX1_age_13 (by decide) ?_
      refine lv_goto (tgt := 23) hx hb dX1_age_14 (by decide) ?_
      exact W.iret (v := 0) hx hb hr (fun t ht hW => ⟨⟨0, S, rfl, h, gB_of ht hP⟩, hS.F ht⟩) hS.2.2 dX1_age_23

abbrev rm_X1_wasSent : Room := { frames := 0, cells := 0, slots := 0, locals := 0 }
def p_X1_wasSent (S : CS) (mm : Nat) (x1 : Int32) (post : Int32 → CS → Prop) : Prop := ((((S.1 (mo mm) 6) >>> (x1 &&& 31)) &&& 1) = 1 → (post 1 S)) ∧ (¬ ((((S.1 (mo mm) 6) >>> (x1 &&& 31)) &&& 1) = 1) → (post 0 S))
set_option maxHeartbeats 4000000 in
set_option maxRecDepth 100000 in
theorem c_X1_wasSent (l : Launch) (D : va_G) (X : XE) (hX : Inj 75 X.1) (sz : Nat) (S : CS) (mm : Nat) (hyp_mm : mm < 13) (x1 : Int32) (post : Int32 → CS → Prop) (h : p_X1_wasSent S mm x1 post) : Met l yX1_wasSent (Cond.code yX1_wasSent cX1_wasSent 2 (some .boolean) :: lw_gd) rm_X1_wasSent (gPc D (tyX X) (CW X) (FXc X) (AX 75 X.1 sz) sz S [.ref (X.1 (mo mm)), .int x1]) (va_Qi post (gB D (CW X)) (AX 75 X.1 sz)) 0 0 (AX 75 X.1 sz) := by
  refine Met.ofW (cc := cX1_wasSent) (maxL := 2) (ret := (some .boolean)) (by decide) rfl ?_
  intro p e s m args below meth c s₁ B hml hv
  obtain ⟨rfl, hsz, hP, hK, hF⟩ := hv
  have hx := B.exec
  have hb := B.bytes
  have hr := B.returns
  have hts := atoms_spec (ws := (Cond.code yX1_wasSent cX1_wasSent 2 (some .boolean) :: lw_gd)) B.pre
  have hT : ∀ w ∈ lw_gd, w.before _ s = true := fun w h9 => hts w (List.mem_cons_of_mem _ h9)
  have hown : s.vm.findClass RX1 = some m.cls := findClass_of_methodNamed B.named
  have hlocks := B.notSynchronized
  subst hsz
  have hS : va_S (AX 75 X.1 s.heap.size) s.heap s.heap [] := va_S.rf
  have hl := lv_entry ([.ref (X.1 (mo mm)), .int x1]) (n := 2) (Nat.le_of_ble_eq_true rfl)
  rw [lg_entry_eq]
  generalize (lg_sl ([.ref (X.1 (mo mm)), .int x1]) ++ List.replicate (2 - (lg_sl ([.ref (X.1 (mo mm)), .int x1])).length) Slot.unset).toArray = ls at hl ⊢
  have hl : lv_has ls 2 [(0, .ref (X.1 (mo mm))), (1, .int x1)] := hl
  obtain ⟨H, hH⟩ : ∃ H : Heap, H = s.heap := ⟨_, rfl⟩
  obtain ⟨locs, hlc⟩ : ∃ q : List Loc, q = [] := ⟨_, rfl⟩
  have hS : va_S (AX 75 X.1 s.heap.size) s.heap H locs := by rw [hH, hlc]; exact hS
  have hP : va_P D vwCl (CW X S) H := by rw [hH]; exact hP
  show W p l e (headSpec (Cond.code yX1_wasSent cX1_wasSent 2 (some .boolean) :: lw_gd) rm_X1_wasSent).room s m ([.ref (X.1 (mo mm)), .int x1] : List Value).toArray below meth c s.heap [] 0 0 (MQ below (va_Qi post (gB D (CW X)) (AX 75 X.1 s.heap.size)) ([.ref (X.1 (mo mm)), .int x1] : List Value).toArray s 0 0 (AX 75 X.1 s.heap.size)) _
  suffices hgo : W p l e (headSpec (Cond.code yX1_wasSent cX1_wasSent 2 (some .boolean) :: lw_gd) rm_X1_wasSent).room s m ([.ref (X.1 (mo mm)), .int x1] : List Value).toArray below meth c H locs 0 0 (MQ below (va_Qi post (gB D (CW X)) (AX 75 X.1 s.heap.size)) ([.ref (X.1 (mo mm)), .int x1] : List Value).toArray s 0 0 (AX 75 X.1 s.heap.size)) (F0 m 0 ls []) from by rw [hH, hlc] at hgo; exact hgo
  unfold p_X1_wasSent at h
  refine lv_aload_n hx hb dX1_wasSent_0 rfl (lv_at hl 0 rfl) ?_
  refine va_get (D := D) (ci := 1) (v := .int (S.1 (mo mm) 6)) (C := RX1) (T := TX1) (N := 8) hx hb hT inX1 hown hK hP (mo mm) (cw_Moment (m := mm) (by omega)) rfl 6 (by decide) (hT _ wf_X1_22) (fun _ h9 => h9) rfl dX1_wasSent_1 ?_
  refine lv_iload_n hx hb dX1_wasSent_4 rfl (lv_at hl 1 rfl) ?_
  refine lv_ishr hx hb dX1_wasSent_5 ?_
  refine lv_iconst (v := 1) hx hb dX1_wasSent_6 (by decide) ?_
  refine lv_iand hx hb dX1_wasSent_7 ?_
  refine lv_iconst (v := 1) hx hb dX1_wasSent_8 (by decide) ?_
  refine lv_icmp_ne (tgt := 16) hx hb dX1_wasSent_9 (by decide) (fun c_1 => ?_) (fun c_1 => ?_)
  · have h := h.2 c_1
    refine lv_iconst (v := 0) hx hb dX1_wasSent_16 (by decide) ?_
    exact W.zret (v := 0) hx hb hr rfl (fun t ht hW => ⟨⟨0, S, rfl, h, gB_of ht hP⟩, hS.F ht⟩) hS.2.2 dX1_wasSent_17
  · have h := h.1 c_1
    refine lv_iconst (v := 1) hx hb dX1_wasSent_12 (by decide) ?_
    refine lv_goto (tgt := 17) hx hb dX1_wasSent_13 (by decide) ?_
    exact W.zret (v := 1) hx hb hr rfl (fun t ht hW => ⟨⟨1, S, rfl, h, gB_of ht hP⟩, hS.F ht⟩) hS.2.2 dX1_wasSent_17

abbrev rm_X1_beCut : Room := { frames := 0, cells := 0, slots := 0, locals := 0 }
def p_X1_beCut (S : CS) (mm : Nat) (x1 : Int32) (post : CS → Prop) : Prop := (x1 < 0 → (post S)) ∧ (¬ (x1 < 0) → ((6 ≤ x1 → (post S)) ∧ (¬ (6 ≤ x1) → (vp_in x1 6 ∧ (∀ S_3 : CS, S_3 = sti S (mg mm) x1.toNatClampNeg 0 → (post S_3))))))
set_option maxHeartbeats 4000000 in
set_option maxRecDepth 100000 in
theorem c_X1_beCut (l : Launch) (D : va_G) (X : XE) (hX : Inj 75 X.1) (sz : Nat) (S : CS) (mm : Nat) (hyp_mm : mm < 13) (x1 : Int32) (post : CS → Prop) (h : p_X1_beCut S mm x1 post) : Met l yX1_beCut (Cond.code yX1_beCut cX1_beCut 2 none :: lw_gd) rm_X1_beCut (gPc D (tyX X) (CW X) (FXc X) (AX 75 X.1 sz) sz S [.ref (X.1 (mo mm)), .int x1]) (va_Qv post (gB D (CW X)) (AX 75 X.1 sz)) 0 0 (AX 75 X.1 sz) := by
  refine Met.ofW (cc := cX1_beCut) (maxL := 2) (ret := none) (by decide) rfl ?_
  intro p e s m args below meth c s₁ B hml hv
  obtain ⟨rfl, hsz, hP, hK, hF⟩ := hv
  have hx := B.exec
  have hb := B.bytes
  have hr := B.returns
  have hts := atoms_spec (ws := (Cond.code yX1_beCut cX1_beCut 2 none :: lw_gd)) B.pre
  have hT : ∀ w ∈ lw_gd, w.before _ s = true := fun w h9 => hts w (List.mem_cons_of_mem _ h9)
  have hown : s.vm.findClass RX1 = some m.cls := findClass_of_methodNamed B.named
  have hlocks := B.notSynchronized
  subst hsz
  have hS : va_S (AX 75 X.1 s.heap.size) s.heap s.heap [] := va_S.rf
  have hl := lv_entry ([.ref (X.1 (mo mm)), .int x1]) (n := 2) (Nat.le_of_ble_eq_true rfl)
  rw [lg_entry_eq]
  generalize (lg_sl ([.ref (X.1 (mo mm)), .int x1]) ++ List.replicate (2 - (lg_sl ([.ref (X.1 (mo mm)), .int x1])).length) Slot.unset).toArray = ls at hl ⊢
  have hl : lv_has ls 2 [(0, .ref (X.1 (mo mm))), (1, .int x1)] := hl
  obtain ⟨H, hH⟩ : ∃ H : Heap, H = s.heap := ⟨_, rfl⟩
  obtain ⟨locs, hlc⟩ : ∃ q : List Loc, q = [] := ⟨_, rfl⟩
  have hS : va_S (AX 75 X.1 s.heap.size) s.heap H locs := by rw [hH, hlc]; exact hS
  have hP : va_P D vwCl (CW X S) H := by rw [hH]; exact hP
  show W p l e (headSpec (Cond.code yX1_beCut cX1_beCut 2 none :: lw_gd) rm_X1_beCut).room s m ([.ref (X.1 (mo mm)), .int x1] : List Value).toArray below meth c s.heap [] 0 0 (MQ below (va_Qv post (gB D (CW X)) (AX 75 X.1 s.heap.size)) ([.ref (X.1 (mo mm)), .int x1] : List Value).toArray s 0 0 (AX 75 X.1 s.heap.size)) _
  suffices hgo : W p l e (headSpec (Cond.code yX1_beCut cX1_beCut 2 none :: lw_gd) rm_X1_beCut).room s m ([.ref (X.1 (mo mm)), .int x1] : List Value).toArray below meth c H locs 0 0 (MQ below (va_Qv post (gB D (CW X)) (AX 75 X.1 s.heap.size)) ([.ref (X.1 (mo mm)), .int x1] : List Value).toArray s 0 0 (AX 75 X.1 s.heap.size)) (F0 m 0 ls []) from by rw [hH, hlc] at hgo; exact hgo
  unfold p_X1_beCut at h
  refine lv_iload_n hx hb dX1_beCut_0 rfl (lv_at hl 1 rfl) ?_
  refine lv_if_lt (tgt := 20) hx hb dX1_beCut_1 (by decide) (fun c_1 => ?_) (fun c_1 => ?_)
  · have h := h.1 c_1
    exact W.vret hx hb hr (fun t ht hW => ⟨⟨S, rfl, h, gB_of ht hP⟩, hS.F ht⟩) hS.2.2 dX1_beCut_20
  · have h := h.2 c_1
    refine lv_iload_n hx hb dX1_beCut_4 rfl (lv_at hl 1 rfl) ?_
    refine lv_aload_n hx hb dX1_beCut_5 rfl (lv_at hl 0 rfl) ?_
    refine va_get (D := D) (ci := 1) (v := .ref (X.1 (mg mm))) (C := RX1) (T := TX1) (N := 8) hx hb hT inX1 hown hK hP (mo mm) (cw_Moment (m := mm) (by omega)) rfl 0 (by decide) (hT _ wf_X1_9) (fun _ h9 => h9) rfl dX1_beCut_6 ?_
    refine va_alen hx hb hK hP (mg mm) 0 (cw_mg (m := mm) (by omega)) rfl (v := 6) rfl dX1_beCut_9 ?_
    refine lv_icmp_ge (tgt := 20) hx hb dX1_beCut_10 (by decide) (fun c_2 => ?_) (fun c_2 => ?_)
    · have h := h.1 c_2
      exact W.vret hx hb hr (fun t ht hW => ⟨⟨S, rfl, h, gB_of ht hP⟩, hS.F ht⟩) hS.2.2 dX1_beCut_20
    · have h := h.2 c_2
      refine lv_aload_n hx hb dX1_beCut_13 rfl (lv_at hl 0 rfl) ?_
      refine va_get (D := D) (ci := 1) (v := .ref (X.1 (mg mm))) (C := RX1) (T := TX1) (N := 8) hx hb hT inX1 hown hK hP (mo mm) (cw_Moment (m := mm) (by omega)) rfl 0 (by decide) (hT _ wf_X1_9) (fun _ h9 => h9) rfl dX1_beCut_14 ?_
      refine lv_iload_n hx hb dX1_beCut_17 rfl (lv_at hl 1 rfl) ?_
      refine lv_iconst (v := 0) hx hb dX1_beCut_18 (by decide) ?_
      obtain ⟨hi, h⟩ := h
      refine g_iast hx hb hK hP (gw_D hX) hS (mg mm) (cw_mg (m := mm) (by omega)) rfl hi x1.toNatClampNeg rfl dX1_beCut_19 (fun H locs hP hS => ?_)
      have hP := cw_st (j := x1.toNatClampNeg) (x := 0) (cce_mg X _ (m := mm) (by omega) _) hP
      obtain ⟨S_3, eS_3⟩ : ∃ z : CS, z = sti S (mg mm) x1.toNatClampNeg 0 := ⟨_, rfl⟩
      rw [← eS_3] at hP
      have h := h S_3 eS_3
      exact W.vret hx hb hr (fun t ht hW => ⟨⟨S_3, rfl, h, gB_of ht hP⟩, hS.F ht⟩) hS.2.2 dX1_beCut_20

abbrev rm_X1_growOlder : Room := { frames := 1, cells := 0, slots := 0, locals := 21 }
def q_X1_growOlder_2 (mm : Nat) (post : CS → Prop) : Nat → Int32 → CS → Prop
  | 0, _, _ => False
  | n9 + 1, y1, S => (6 ≤ y1 → (post S)) ∧ (¬ (6 ≤ y1) → (vp_in y1 6 ∧ (∀ u_2 : Int32, u_2 = (if ((S.1 (mg mm) y1.toNatClampNeg) + 1) < 40 then ((S.1 (mg mm) y1.toNatClampNeg) + 1) else 40) → (vp_in y1 6 ∧ (∀ S_3 : CS, S_3 = sti S (mg mm) y1.toNatClampNeg u_2 → (∀ x1_4 : Int32, x1_4 = y1 + 1 → (q_X1_growOlder_2 mm post n9 x1_4 S_3)))))))
def p_X1_growOlder (S : CS) (mm : Nat) (post : CS → Prop) : Prop := ∃ n, q_X1_growOlder_2 mm post n 0 S
set_option maxHeartbeats 4000000 in
set_option maxRecDepth 100000 in
theorem c_X1_growOlder (l : Launch) (D : va_G) (X : XE) (hX : Inj 75 X.1) (sz : Nat) (S : CS) (mm : Nat) (hyp_mm : mm < 13) (post : CS → Prop) (h : p_X1_growOlder S mm post) : Met l yX1_growOlder (Cond.code yX1_growOlder cX1_growOlder 2 none :: lw_gd) rm_X1_growOlder (gPc D (tyX X) (CW X) (FXc X) (AX 75 X.1 sz) sz S [.ref (X.1 (mo mm))]) (va_Qv post (gB D (CW X)) (AX 75 X.1 sz)) 0 0 (AX 75 X.1 sz) := by
  refine Met.ofW (cc := cX1_growOlder) (maxL := 2) (ret := none) (by decide) rfl ?_
  intro p e s m args below meth c s₁ B hml hv
  obtain ⟨rfl, hsz, hP, hK, hF⟩ := hv
  have hx := B.exec
  have hb := B.bytes
  have hr := B.returns
  have hts := atoms_spec (ws := (Cond.code yX1_growOlder cX1_growOlder 2 none :: lw_gd)) B.pre
  have hT : ∀ w ∈ lw_gd, w.before _ s = true := fun w h9 => hts w (List.mem_cons_of_mem _ h9)
  have hown : s.vm.findClass RX1 = some m.cls := findClass_of_methodNamed B.named
  have hlocks := B.notSynchronized
  subst hsz
  have hS : va_S (AX 75 X.1 s.heap.size) s.heap s.heap [] := va_S.rf
  have W2 : ∀ n1 : Nat, ∀ (y1 : Int32) (S : CS) (H : Heap) (locs : List Loc) (ls : Array Slot), va_P D vwCl (CW X S) H → va_S (AX 75 X.1 s.heap.size) s.heap H locs → lv_has ls 2 [(0, .ref (X.1 (mo mm))), (1, .int y1)] → q_X1_growOlder_2 mm post n1 y1 S → W p l e (headSpec (Cond.code yX1_growOlder cX1_growOlder 2 none :: lw_gd) rm_X1_growOlder).room s m ([.ref (X.1 (mo mm))] : List Value).toArray below meth c H locs 0 0 (MQ below (va_Qv post (gB D (CW X)) (AX 75 X.1 s.heap.size)) ([.ref (X.1 (mo mm))] : List Value).toArray s 0 0 (AX 75 X.1 s.heap.size)) (F0 m 2 ls []) := by
    intro n1
    induction n1 with
    | zero => intro y1 S H locs ls hP hS hl h; exact h.elim
    | succ n9 ih =>
      intro y1 S H locs ls hP hS hl h
      rw [q_X1_growOlder_2] at h
      refine lv_iload_n hx hb dX1_growOlder_2 rfl (lv_at hl 1 rfl) ?_
      refine lv_aload_n hx hb dX1_growOlder_3 rfl (lv_at hl 0 rfl) ?_
      refine va_get (D := D) (ci := 1) (v := .ref (X.1 (mg mm))) (C := RX1) (T := TX1) (N := 8) hx hb hT inX1 hown hK hP (mo mm) (cw_Moment (m := mm) (by omega)) rfl 0 (by decide) (hT _ wf_X1_9) (fun _ h9 => h9) rfl dX1_growOlder_4 ?_
      refine va_alen hx hb hK hP (mg mm) 0 (cw_mg (m := mm) (by omega)) rfl (v := 6) rfl dX1_growOlder_7 ?_
      refine lv_icmp_ge (tgt := 36) hx hb dX1_growOlder_8 (by decide) (fun c_1 => ?_) (fun c_1 => ?_)
      · have h := h.1 c_1
        exact W.vret hx hb hr (fun t ht hW => ⟨⟨S, rfl, h, gB_of ht hP⟩, hS.F ht⟩) hS.2.2 dX1_growOlder_36
      · have h := h.2 c_1
        refine lv_aload_n hx hb dX1_growOlder_11 rfl (lv_at hl 0 rfl) ?_
        refine va_get (D := D) (ci := 1) (v := .ref (X.1 (mg mm))) (C := RX1) (T := TX1) (N := 8) hx hb hT inX1 hown hK hP (mo mm) (cw_Moment (m := mm) (by omega)) rfl 0 (by decide) (hT _ wf_X1_9) (fun _ h9 => h9) rfl dX1_growOlder_12 ?_
        refine lv_iload_n hx hb dX1_growOlder_15 rfl (lv_at hl 1 rfl) ?_
        refine lv_bipush (v := 40) hx hb dX1_growOlder_16 (by decide) ?_
        refine lv_aload_n hx hb dX1_growOlder_18 rfl (lv_at hl 0 rfl) ?_
        refine va_get (D := D) (ci := 1) (v := .ref (X.1 (mg mm))) (C := RX1) (T := TX1) (N := 8) hx hb hT inX1 hown hK hP (mo mm) (cw_Moment (m := mm) (by omega)) rfl 0 (by decide) (hT _ wf_X1_9) (fun _ h9 => h9) rfl dX1_growOlder_19 ?_
        refine lv_iload_n hx hb dX1_growOlder_22 rfl (lv_at hl 1 rfl) ?_
        obtain ⟨hi, h⟩ := h
        refine g_iald hx hb hK hP (mg mm) (cw_mg (m := mm) (by omega)) rfl hi y1.toNatClampNeg rfl dX1_growOlder_23 ?_
        refine lv_iconst (v := 1) hx hb dX1_growOlder_24 (by decide) ?_
        refine lv_iadd hx hb dX1_growOlder_25 ?_
        refine va_mmin hx hb (hml.trans hl.1.symm) hown (hT _ wl_X1_26) (hT _ wt_J9_min_7cf53) (hT _ wn_J9) (hT _ wc_J9_min_7cf53) (Nat.le_of_ble_eq_true rfl) (Nat.le_of_ble_eq_true rfl) (Nat.zero_le _) (Nat.zero_le _) dX1_growOlder_26 ?_
        refine lv_topi (fun u_2 eu_2 => ?_)
        have h := h u_2 eu_2
        obtain ⟨hi, h⟩ := h
        refine g_iast hx hb hK hP (gw_D hX) hS (mg mm) (cw_mg (m := mm) (by omega)) rfl hi y1.toNatClampNeg rfl dX1_growOlder_29 (fun H locs hP hS => ?_)
        have hP := cw_st (j := y1.toNatClampNeg) (x := u_2) (cce_mg X _ (m := mm) (by omega) _) hP
        obtain ⟨S_3, eS_3⟩ : ∃ z : CS, z = sti S (mg mm) y1.toNatClampNeg u_2 := ⟨_, rfl⟩
        rw [← eS_3] at hP
        have h := h S_3 eS_3
        obtain ⟨x1_4, ex1_4⟩ : ∃ z : Int32, z = y1 + 1 := ⟨_, rfl⟩
        refine lv_iinc (v := x1_4) (lv' := [(1, .int x1_4), (0, .ref (X.1 (mo mm)))]) hx hb dX1_growOlder_30 hl (k := 1) rfl (by rw [ex1_4]; rfl) (by decide) rfl (fun ls hl => ?_)
        have h := h x1_4 ex1_4
        refine lv_goto (tgt := 2) hx hb dX1_growOlder_33 (by decide) ?_
        exact ih x1_4 S_3 H locs ls hP hS (lv_sub hl [1, 0] rfl) h
  have hl := lv_entry ([.ref (X.1 (mo mm))]) (n := 2) (Nat.le_of_ble_eq_true rfl)
  rw [lg_entry_eq]
  generalize (lg_sl ([.ref (X.1 (mo mm))]) ++ List.replicate (2 - (lg_sl ([.ref (X.1 (mo mm))])).length) Slot.unset).toArray = ls at hl ⊢
  have hl : lv_has ls 2 [(0, .ref (X.1 (mo mm)))] := hl
  obtain ⟨H, hH⟩ : ∃ H : Heap, H = s.heap := ⟨_, rfl⟩
  obtain ⟨locs, hlc⟩ : ∃ q : List Loc, q = [] := ⟨_, rfl⟩
  have hS : va_S (AX 75 X.1 s.heap.size) s.heap H locs := by rw [hH, hlc]; exact hS
  have hP : va_P D vwCl (CW X S) H := by rw [hH]; exact hP
  show W p l e (headSpec (Cond.code yX1_growOlder cX1_growOlder 2 none :: lw_gd) rm_X1_growOlder).room s m ([.ref (X.1 (mo mm))] : List Value).toArray below meth c s.heap [] 0 0 (MQ below (va_Qv post (gB D (CW X)) (AX 75 X.1 s.heap.size)) ([.ref (X.1 (mo mm))] : List Value).toArray s 0 0 (AX 75 X.1 s.heap.size)) _
  suffices hgo : W p l e (headSpec (Cond.code yX1_growOlder cX1_growOlder 2 none :: lw_gd) rm_X1_growOlder).room s m ([.ref (X.1 (mo mm))] : List Value).toArray below meth c H locs 0 0 (MQ below (va_Qv post (gB D (CW X)) (AX 75 X.1 s.heap.size)) ([.ref (X.1 (mo mm))] : List Value).toArray s 0 0 (AX 75 X.1 s.heap.size)) (F0 m 0 ls []) from by rw [hH, hlc] at hgo; exact hgo
  unfold p_X1_growOlder at h
  refine lv_iconst (v := 0) hx hb dX1_growOlder_0 (by decide) ?_
  refine lv_istore_n (lv' := [(1, .int 0), (0, .ref (X.1 (mo mm)))]) hx hb dX1_growOlder_1 rfl hl (by decide) rfl (fun ls hl => ?_)
  obtain ⟨n1, h⟩ := h
  exact W2  n1 0 S H locs ls hP hS (lv_sub hl [1, 0] rfl) h

abbrev rm_X1_begin : Room := { frames := 3, cells := 0, slots := 0, locals := 63 }
def q_X1_begin_2 (mm : Nat) (t1 : Nat) (post : CS → Prop) : Nat → Int32 → CS → Prop
  | 0, _, _ => False
  | n9 + 1, y2, S => (6 ≤ y2 → (p_X5_lengthAtFirst S t1 (fun r_3 S_2 => (p_X0_renew S_2 (mm + 1) r_3 (fun S_4 => (∀ S_6 : CS, S_6 = sti S_4 (mo mm) 2 0 → (∀ S_7 : CS, S_7 = sti S_6 (mo mm) 3 0 → (∀ S_8 : CS, S_8 = sti S_7 (mo mm) 4 0 → (∀ S_9 : CS, S_9 = sti S_8 (mo mm) 5 0 → (∀ S_10 : CS, S_10 = sti S_9 (mo mm) 6 0 → (∀ S_11 : CS, S_11 = sti S_10 (mo mm) 7 0 → (post S_11)))))))))))) ∧ (¬ (6 ≤ y2) → (p_X5_value S t1 1 y2 (fun r_13 S_12 => (vp_in y2 6 ∧ (∀ S_14 : CS, S_14 = sti S_12 (mg mm) y2.toNatClampNeg r_13 → (∀ x2_15 : Int32, x2_15 = y2 + 1 → (q_X1_begin_2 mm t1 post n9 x2_15 S_14)))))))
def p_X1_begin (S : CS) (mm : Nat) (t1 : Nat) (post : CS → Prop) : Prop := ∃ n, q_X1_begin_2 mm t1 post n 0 S
set_option maxHeartbeats 4000000 in
set_option maxRecDepth 100000 in
theorem c_X1_begin (l : Launch) (D : va_G) (X : XE) (hX : Inj 75 X.1) (sz : Nat) (S : CS) (mm : Nat) (hyp_mm : mm < 13) (t1 : Nat) (hyp_t1 : t1 < 2) (post : CS → Prop) (h : p_X1_begin S mm t1 post) : Met l yX1_begin (Cond.code yX1_begin cX1_begin 3 none :: lw_gd) rm_X1_begin (gPc D (tyX X) (CW X) (FXc X) (AX 75 X.1 sz) sz S [.ref (X.1 (mo mm)), .ref (X.1 (to t1))]) (va_Qv post (gB D (CW X)) (AX 75 X.1 sz)) 0 0 (AX 75 X.1 sz) := by
  refine Met.ofW (cc := cX1_begin) (maxL := 3) (ret := none) (by decide) rfl ?_
  intro p e s m args below meth c s₁ B hml hv
  obtain ⟨rfl, hsz, hP, hK, hF⟩ := hv
  have hx := B.exec
  have hb := B.bytes
  have hr := B.returns
  have hts := atoms_spec (ws := (Cond.code yX1_begin cX1_begin 3 none :: lw_gd)) B.pre
  have hT : ∀ w ∈ lw_gd, w.before _ s = true := fun w h9 => hts w (List.mem_cons_of_mem _ h9)
  have hown : s.vm.findClass RX1 = some m.cls := findClass_of_methodNamed B.named
  have hlocks := B.notSynchronized
  subst hsz
  have hS : va_S (AX 75 X.1 s.heap.size) s.heap s.heap [] := va_S.rf
  have W2 : ∀ n1 : Nat, ∀ (y2 : Int32) (S : CS) (H : Heap) (locs : List Loc) (ls : Array Slot), va_P D vwCl (CW X S) H → va_S (AX 75 X.1 s.heap.size) s.heap H locs → lv_has ls 3 [(0, .ref (X.1 (mo mm))), (1, .ref (X.1 (to t1))), (2, .int y2)] → q_X1_begin_2 mm t1 post n1 y2 S → W p l e (headSpec (Cond.code yX1_begin cX1_begin 3 none :: lw_gd) rm_X1_begin).room s m ([.ref (X.1 (mo mm)), .ref (X.1 (to t1))] : List Value).toArray below meth c H locs 0 0 (MQ below (va_Qv post (gB D (CW X)) (AX 75 X.1 s.heap.size)) ([.ref (X.1 (mo mm)), .ref (X.1 (to t1))] : List Value).toArray s 0 0 (AX 75 X.1 s.heap.size)) (F0 m 2 ls []) := by
    intro n1
    induction n1 with
    | zero => intro y2 S H locs ls hP hS hl h; exact h.elim
    | succ n9 ih =>
      intro y2 S H locs ls hP hS hl h
      rw [q_X1_begin_2] at h
      refine lv_iload_n hx hb dX1_begin_2 rfl (lv_at hl 2 rfl) ?_
      refine lv_aload_n hx hb dX1_begin_3 rfl (lv_at hl 0 rfl) ?_
      refine va_get (D := D) (ci := 1) (v := .ref (X.1 (mg mm))) (C := RX1) (T := TX1) (N := 8) hx hb hT inX1 hown hK hP (mo mm) (cw_Moment (m := mm) (by omega)) rfl 0 (by decide) (hT _ wf_X1_9) (fun _ h9 => h9) rfl dX1_begin_4 ?_
      refine va_alen hx hb hK hP (mg mm) 0 (cw_mg (m := mm) (by omega)) rfl (v := 6) rfl dX1_begin_7 ?_
      refine lv_icmp_ge (tgt := 29) hx hb dX1_begin_8 (by decide) (fun c_1 => ?_) (fun c_1 => ?_)
      · have h := h.1 c_1
        refine lv_aload_n hx hb dX1_begin_29 rfl (lv_at hl 0 rfl) ?_
        refine va_get (D := D) (ci := 1) (v := .ref (X.1 (bo (mm + 1)))) (C := RX1) (T := TX1) (N := 8) hx hb hT inX1 hown hK hP (mo mm) (cw_Moment (m := mm) (by omega)) rfl 1 (by decide) (hT _ wf_X1_18) (fun _ h9 => h9) rfl dX1_begin_30 ?_
        refine lv_aload_n hx hb dX1_begin_33 rfl (lv_at hl 1 rfl) ?_
        refine cVi (As := []) (rest := [.ref (X.1 (bo (mm + 1)))]) hX ⟨hx, hb, hml, hown, hT⟩ (c_X5_lengthAtFirst l D X hX H.size S t1 hyp_t1 _ h) (gd_V wl_X1_35 wi_X5_lengthAtFirst wv_X5_lengthAtFirst wn_X5 wc_X5_lengthAtFirst) rfl hd_X5_lengthAtFirst ⟨rfl, rfl⟩ ⟨Nat.le_of_ble_eq_true rfl, Nat.le_of_ble_eq_true rfl⟩ (va_recv hK hP (ci := 5) (q0 := (to t1)) rfl (cw_Told (t := t1) (by omega))) hK hP hS hF rfl hl.1 rfl (Nat.le_of_ble_eq_true rfl) dX1_begin_34 ⟨Nat.zero_le _, Nat.zero_le _⟩ (fun r_3 S_2 H locs h hP hS => ?_)
        refine cVv (As := [.int r_3]) (rest := []) hX ⟨hx, hb, hml, hown, hT⟩ (c_X0_renew l D X hX H.size S_2 (mm + 1) (by omega) r_3 _ h) (gd_V wl_X1_39 wi_X0_renew wv_X0_renew wn_X0 wc_X0_renew) rfl hd_X0_renew ⟨rfl, rfl⟩ ⟨Nat.le_of_ble_eq_true rfl, Nat.le_of_ble_eq_true rfl⟩ (va_recv hK hP (ci := 0) (q0 := (bo (mm + 1))) rfl (cw_Besom (b := mm + 1) (by omega))) hK hP hS hF rfl hl.1 rfl (Nat.le_of_ble_eq_true rfl) dX1_begin_37 ⟨Nat.zero_le _, Nat.zero_le _⟩ (fun S_4 H locs h hP hS => ?_)
        refine lv_aload_n hx hb dX1_begin_40 rfl (lv_at hl 0 rfl) ?_
        refine lv_iconst (v := 0) hx hb dX1_begin_41 (by decide) ?_
        refine va_put (D := D) (ci := 1) (v := .int 0) (ty := .int) (C := RX1) (T := TX1) (N := 8) hx hb hT inX1 tyX1 tyX1_ok nmX1 hown hK hP (gw_D hX) hS (mo mm) (cw_Moment (m := mm) (by omega)) rfl 2 (by decide) (hT _ wf_X1_43) (fun _ h9 => h9) rfl (by decide +kernel) rfl rfl (Nat.le_of_ble_eq_true rfl) dX1_begin_42 (fun H locs hP _ hS => ?_)
        have hP := cw_st (j := 2) (x := 0) (cce_mo X _ (m := mm) (by omega) _) hP
        obtain ⟨S_6, eS_6⟩ : ∃ z : CS, z = sti S_4 (mo mm) 2 0 := ⟨_, rfl⟩
        rw [← eS_6] at hP
        have h := h S_6 eS_6
        refine lv_aload_n hx hb dX1_begin_45 rfl (lv_at hl 0 rfl) ?_
        refine lv_iconst (v := 0) hx hb dX1_begin_46 (by decide) ?_
        refine va_put (D := D) (ci := 1) (v := .int 0) (ty := .int) (C := RX1) (T := TX1) (N := 8) hx hb hT inX1 tyX1 tyX1_ok nmX1 hown hK hP (gw_D hX) hS (mo mm) (cw_Moment (m := mm) (by omega)) rfl 3 (by decide) (hT _ wf_X1_46) (fun _ h9 => h9) rfl (by decide +kernel) rfl rfl (Nat.le_of_ble_eq_true rfl) dX1_begin_47 (fun H locs hP _ hS => ?_)
        have hP := cw_st (j := 3) (x := 0) (cce_mo X _ (m := mm) (by omega) _) hP
        obtain ⟨S_7, eS_7⟩ : ∃ z : CS, z = sti S_6 (mo mm) 3 0 := ⟨_, rfl⟩
        rw [← eS_7] at hP
        have h := h S_7 eS_7
        refine lv_aload_n hx hb dX1_begin_50 rfl (lv_at hl 0 rfl) ?_
        refine lv_iconst (v := 0) hx hb dX1_begin_51 (by decide) ?_
        refine va_put (D := D) (ci := 1) (v := .int 0) (ty := .int) (C := RX1) (T := TX1) (N := 8) hx hb hT inX1 tyX1 tyX1_ok nmX1 hown hK hP (gw_D hX) hS (mo mm) (cw_Moment (m := mm) (by omega)) rfl 4 (by decide) (hT _ wf_X1_49) (fun _ h9 => h9) rfl (by decide +kernel) rfl rfl (Nat.le_of_ble_eq_true rfl) dX1_begin_52 (fun H locs hP _ hS => ?_)
        have hP := cw_st (j := 4) (x := 0) (cce_mo X _ (m := mm) (by omega) _) hP
        obtain ⟨S_8, eS_8⟩ : ∃ z : CS, z = sti S_7 (mo mm) 4 0 := ⟨_, rfl⟩
        rw [← eS_8] at hP
        have h := h S_8 eS_8
        refine lv_aload_n hx hb dX1_begin_55 rfl (lv_at hl 0 rfl) ?_
        refine lv_iconst (v := 0) hx hb dX1_begin_56 (by decide) ?_
        refine va_put (D := D) (ci := 1) (v := .int 0) (ty := .int) (C := RX1) (T := TX1) (N := 8) hx hb hT inX1 tyX1 tyX1_ok nmX1 hown hK hP (gw_D hX) hS (mo mm) (cw_Moment (m := mm) (by omega)) rfl 5 (by decide) (hT _ wf_X1_52) (fun _ h9 => h9) rfl (by decide +kernel) rfl rfl (Nat.le_of_ble_eq_true rfl) dX1_begin_57 (fun H locs hP _ hS => ?_)
        have hP := cw_st (j := 5) (x := 0) (cce_mo X _ (m := mm) (by omega) _) hP
        obtain ⟨S_9, eS_9⟩ : ∃ z : CS, z = sti S_8 (mo mm) 5 0 := ⟨_, rfl⟩
        rw [← eS_9] at hP
        have h := h S_9 eS_9
        refine lv_aload_n hx hb dX1_begin_60 rfl (lv_at hl 0 rfl) ?_
        refine lv_iconst (v := 0) hx hb dX1_begin_61 (by decide) ?_
        refine va_put (D := D) (ci := 1) (v := .int 0) (ty := .int) (C := RX1) (T := TX1) (N := 8) hx hb hT inX1 tyX1 tyX1_ok nmX1 hown hK hP (gw_D hX) hS (mo mm) (cw_Moment (m := mm) (by omega)) rfl 6 (by decide) (hT _ wf_X1_22) (fun _ h9 => h9) rfl (by decide +kernel) rfl rfl (Nat.le_of_ble_eq_true rfl) dX1_begin_62 (fun H locs hP _ hS => ?_)
        have hP := cw_st (j := 6) (x := 0) (cce_mo X _ (m := mm) (by omega) _) hP
        obtain ⟨S_10, eS_10⟩ : ∃ z : CS, z = sti S_9 (mo mm) 6 0 := ⟨_, rfl⟩
        rw [← eS_10] at hP
        have h := h S_10 eS_10
        refine lv_aload_n hx hb dX1_begin_65 rfl (lv_at hl 0 rfl) ?_
        refine lv_iconst (v := 0) hx hb dX1_begin_66 (by decide) ?_
        refine va_put (D := D) (ci := 1) (v := .int 0) (ty := .int) (C := RX1) (T := TX1) (N := 8) hx hb hT inX1 tyX1 tyX1_ok nmX1 hown hK hP (gw_D hX) hS (mo mm) (cw_Moment (m := mm) (by omega)) rfl 7 (by decide) (hT _ wf_X1_55) (fun _ h9 => h9) rfl (by decide +kernel) rfl rfl (Nat.le_of_ble_eq_true rfl) dX1_begin_67 (fun H locs hP _ hS => ?_)
        have hP := cw_st (j := 7) (x := 0) (cce_mo X _ (m := mm) (by omega) _) hP
        obtain ⟨S_11, eS_11⟩ : ∃ z : CS, z = sti S_10 (mo mm) 7 0 := ⟨_, rfl⟩
        rw [← eS_11] at hP
        have h := h S_11 eS_11
        exact W.vret hx hb hr (fun t ht hW => ⟨⟨S_11, rfl, h, gB_of ht hP⟩, hS.F ht⟩) hS.2.2 dX1_begin_70
      · have h := h.2 c_1
        refine lv_aload_n hx hb dX1_begin_11 rfl (lv_at hl 0 rfl) ?_
        refine va_get (D := D) (ci := 1) (v := .ref (X.1 (mg mm))) (C := RX1) (T := TX1) (N := 8) hx hb hT inX1 hown hK hP (mo mm) (cw_Moment (m := mm) (by omega)) rfl 0 (by decide) (hT _ wf_X1_9) (fun _ h9 => h9) rfl dX1_begin_12 ?_
        refine lv_iload_n hx hb dX1_begin_15 rfl (lv_at hl 2 rfl) ?_
        refine lv_aload_n hx hb dX1_begin_16 rfl (lv_at hl 1 rfl) ?_
        refine lv_iconst (v := 1) hx hb dX1_begin_17 (by decide) ?_
        refine lv_iload_n hx hb dX1_begin_18 rfl (lv_at hl 2 rfl) ?_
        refine cVi (As := [.int 1, .int y2]) (rest := [.int y2, .ref (X.1 (mg mm))]) hX ⟨hx, hb, hml, hown, hT⟩ (c_X5_value l D X hX H.size S t1 hyp_t1 1 y2 _ h) (gd_V wl_X1_32 wi_X5_value wv_X5_value wn_X5 wc_X5_value) rfl hd_X5_value ⟨rfl, rfl⟩ ⟨Nat.le_of_ble_eq_true rfl, Nat.le_of_ble_eq_true rfl⟩ (va_recv hK hP (ci := 5) (q0 := (to t1)) rfl (cw_Told (t := t1) (by omega))) hK hP hS hF rfl hl.1 rfl (Nat.le_of_ble_eq_true rfl) dX1_begin_19 ⟨Nat.zero_le _, Nat.zero_le _⟩ (fun r_13 S_12 H locs h hP hS => ?_)
        obtain ⟨hi, h⟩ := h
        refine g_iast hx hb hK hP (gw_D hX) hS (mg mm) (cw_mg (m := mm) (by omega)) rfl hi y2.toNatClampNeg rfl dX1_begin_22 (fun H locs hP hS => ?_)
        have hP := cw_st (j := y2.toNatClampNeg) (x := r_13) (cce_mg X _ (m := mm) (by omega) _) hP
        obtain ⟨S_14, eS_14⟩ : ∃ z : CS, z = sti S_12 (mg mm) y2.toNatClampNeg r_13 := ⟨_, rfl⟩
        rw [← eS_14] at hP
        have h := h S_14 eS_14
        obtain ⟨x2_15, ex2_15⟩ : ∃ z : Int32, z = y2 + 1 := ⟨_, rfl⟩
        refine lv_iinc (v := x2_15) (lv' := [(2, .int x2_15), (0, .ref (X.1 (mo mm))), (1, .ref (X.1 (to t1)))]) hx hb dX1_begin_23 hl (k := 2) rfl (by rw [ex2_15]; rfl) (by decide) rfl (fun ls hl => ?_)
        have h := h x2_15 ex2_15
        refine lv_goto (tgt := 2) hx hb dX1_begin_26 (by decide) ?_
        exact ih x2_15 S_14 H locs ls hP hS (lv_sub hl [1, 2, 0] rfl) h
  have hl := lv_entry ([.ref (X.1 (mo mm)), .ref (X.1 (to t1))]) (n := 3) (Nat.le_of_ble_eq_true rfl)
  rw [lg_entry_eq]
  generalize (lg_sl ([.ref (X.1 (mo mm)), .ref (X.1 (to t1))]) ++ List.replicate (3 - (lg_sl ([.ref (X.1 (mo mm)), .ref (X.1 (to t1))])).length) Slot.unset).toArray = ls at hl ⊢
  have hl : lv_has ls 3 [(0, .ref (X.1 (mo mm))), (1, .ref (X.1 (to t1)))] := hl
  obtain ⟨H, hH⟩ : ∃ H : Heap, H = s.heap := ⟨_, rfl⟩
  obtain ⟨locs, hlc⟩ : ∃ q : List Loc, q = [] := ⟨_, rfl⟩
  have hS : va_S (AX 75 X.1 s.heap.size) s.heap H locs := by rw [hH, hlc]; exact hS
  have hP : va_P D vwCl (CW X S) H := by rw [hH]; exact hP
  show W p l e (headSpec (Cond.code yX1_begin cX1_begin 3 none :: lw_gd) rm_X1_begin).room s m ([.ref (X.1 (mo mm)), .ref (X.1 (to t1))] : List Value).toArray below meth c s.heap [] 0 0 (MQ below (va_Qv post (gB D (CW X)) (AX 75 X.1 s.heap.size)) ([.ref (X.1 (mo mm)), .ref (X.1 (to t1))] : List Value).toArray s 0 0 (AX 75 X.1 s.heap.size)) _
  suffices hgo : W p l e (headSpec (Cond.code yX1_begin cX1_begin 3 none :: lw_gd) rm_X1_begin).room s m ([.ref (X.1 (mo mm)), .ref (X.1 (to t1))] : List Value).toArray below meth c H locs 0 0 (MQ below (va_Qv post (gB D (CW X)) (AX 75 X.1 s.heap.size)) ([.ref (X.1 (mo mm)), .ref (X.1 (to t1))] : List Value).toArray s 0 0 (AX 75 X.1 s.heap.size)) (F0 m 0 ls []) from by rw [hH, hlc] at hgo; exact hgo
  unfold p_X1_begin at h
  refine lv_iconst (v := 0) hx hb dX1_begin_0 (by decide) ?_
  refine lv_istore_n (lv' := [(2, .int 0), (0, .ref (X.1 (mo mm))), (1, .ref (X.1 (to t1)))]) hx hb dX1_begin_1 rfl hl (by decide) rfl (fun ls hl => ?_)
  obtain ⟨n1, h⟩ := h
  exact W2  n1 0 S H locs ls hP hS (lv_sub hl [1, 2, 0] rfl) h

abbrev rm_X1_setAs : Room := { frames := 2, cells := 0, slots := 0, locals := 43 }
def q_X1_setAs_2 (mm : Nat) (m1 : Nat) (post : CS → Prop) : Nat → Int32 → CS → Prop
  | 0, _, _ => False
  | n9 + 1, y2, S => (6 ≤ y2 → (p_X0_setAs S (mm + 1) (m1 + 1) (fun S_2 => (∀ u_4 : Int32, u_4 = S_2.1 (mo m1) 2 → (∀ S_5 : CS, S_5 = sti S_2 (mo mm) 2 u_4 → (∀ u_6 : Int32, u_6 = S_5.1 (mo m1) 3 → (∀ S_7 : CS, S_7 = sti S_5 (mo mm) 3 u_6 → (∀ u_8 : Int32, u_8 = S_7.1 (mo m1) 4 → (∀ S_9 : CS, S_9 = sti S_7 (mo mm) 4 u_8 → (∀ u_10 : Int32, u_10 = S_9.1 (mo m1) 5 → (∀ S_11 : CS, S_11 = sti S_9 (mo mm) 5 u_10 → (∀ u_12 : Int32, u_12 = S_11.1 (mo m1) 6 → (∀ S_13 : CS, S_13 = sti S_11 (mo mm) 6 u_12 → (∀ u_14 : Int32, u_14 = S_13.1 (mo m1) 7 → (∀ S_15 : CS, S_15 = sti S_13 (mo mm) 7 u_14 → (post S_15)))))))))))))))) ∧ (¬ (6 ≤ y2) → (p_X1_age S m1 y2 (fun r_17 S_16 => (vp_in y2 6 ∧ (∀ S_18 : CS, S_18 = sti S_16 (mg mm) y2.toNatClampNeg r_17 → (∀ x2_19 : Int32, x2_19 = y2 + 1 → (q_X1_setAs_2 mm m1 post n9 x2_19 S_18)))))))
def p_X1_setAs (S : CS) (mm : Nat) (m1 : Nat) (post : CS → Prop) : Prop := ∃ n, q_X1_setAs_2 mm m1 post n 0 S
set_option maxHeartbeats 4000000 in
set_option maxRecDepth 100000 in
theorem c_X1_setAs (l : Launch) (D : va_G) (X : XE) (hX : Inj 75 X.1) (sz : Nat) (S : CS) (mm : Nat) (hyp_mm : mm < 13) (m1 : Nat) (hyp_m1 : m1 < 13) (post : CS → Prop) (h : p_X1_setAs S mm m1 post) : Met l yX1_setAs (Cond.code yX1_setAs cX1_setAs 3 none :: lw_gd) rm_X1_setAs (gPc D (tyX X) (CW X) (FXc X) (AX 75 X.1 sz) sz S [.ref (X.1 (mo mm)), .ref (X.1 (mo m1))]) (va_Qv post (gB D (CW X)) (AX 75 X.1 sz)) 0 0 (AX 75 X.1 sz) := by
  refine Met.ofW (cc := cX1_setAs) (maxL := 3) (ret := none) (by decide) rfl ?_
  intro p e s m args below meth c s₁ B hml hv
  obtain ⟨rfl, hsz, hP, hK, hF⟩ := hv
  have hx := B.exec
  have hb := B.bytes
  have hr := B.returns
  have hts := atoms_spec (ws := (Cond.code yX1_setAs cX1_setAs 3 none :: lw_gd)) B.pre
  have hT : ∀ w ∈ lw_gd, w.before _ s = true := fun w h9 => hts w (List.mem_cons_of_mem _ h9)
  have hown : s.vm.findClass RX1 = some m.cls := findClass_of_methodNamed B.named
  have hlocks := B.notSynchronized
  subst hsz
  have hS : va_S (AX 75 X.1 s.heap.size) s.heap s.heap [] := va_S.rf
  have W2 : ∀ n1 : Nat, ∀ (y2 : Int32) (S : CS) (H : Heap) (locs : List Loc) (ls : Array Slot), va_P D vwCl (CW X S) H → va_S (AX 75 X.1 s.heap.size) s.heap H locs → lv_has ls 3 [(0, .ref (X.1 (mo mm))), (1, .ref (X.1 (mo m1))), (2, .int y2)] → q_X1_setAs_2 mm m1 post n1 y2 S → W p l e (headSpec (Cond.code yX1_setAs cX1_setAs 3 none :: lw_gd) rm_X1_setAs).room s m ([.ref (X.1 (mo mm)), .ref (X.1 (mo m1))] : List Value).toArray below meth c H locs 0 0 (MQ below (va_Qv post (gB D (CW X)) (AX 75 X.1 s.heap.size)) ([.ref (X.1 (mo mm)), .ref (X.1 (mo m1))] : List Value).toArray s 0 0 (AX 75 X.1 s.heap.size)) (F0 m 2 ls []) := by
    intro n1
    induction n1 with
    | zero => intro y2 S H locs ls hP hS hl h; exact h.elim
    | succ n9 ih =>
      intro y2 S H locs ls hP hS hl h
      rw [q_X1_setAs_2] at h
      refine lv_iload_n hx hb dX1_setAs_2 rfl (lv_at hl 2 rfl) ?_
      refine lv_aload_n hx hb dX1_setAs_3 rfl (lv_at hl 0 rfl) ?_
      refine va_get (D := D) (ci := 1) (v := .ref (X.1 (mg mm))) (C := RX1) (T := TX1) (N := 8) hx hb hT inX1 hown hK hP (mo mm) (cw_Moment (m := mm) (by omega)) rfl 0 (by decide) (hT _ wf_X1_9) (fun _ h9 => h9) rfl dX1_setAs_4 ?_
      refine va_alen hx hb hK hP (mg mm) 0 (cw_mg (m := mm) (by omega)) rfl (v := 6) rfl dX1_setAs_7 ?_
      refine lv_icmp_ge (tgt := 28) hx hb dX1_setAs_8 (by decide) (fun c_1 => ?_) (fun c_1 => ?_)
      · have h := h.1 c_1
        refine lv_aload_n hx hb dX1_setAs_28 rfl (lv_at hl 0 rfl) ?_
        refine va_get (D := D) (ci := 1) (v := .ref (X.1 (bo (mm + 1)))) (C := RX1) (T := TX1) (N := 8) hx hb hT inX1 hown hK hP (mo mm) (cw_Moment (m := mm) (by omega)) rfl 1 (by decide) (hT _ wf_X1_18) (fun _ h9 => h9) rfl dX1_setAs_29 ?_
        refine lv_aload_n hx hb dX1_setAs_32 rfl (lv_at hl 1 rfl) ?_
        refine va_get (D := D) (ci := 1) (v := .ref (X.1 (bo (m1 + 1)))) (C := RX1) (T := TX1) (N := 8) hx hb hT inX1 hown hK hP (mo m1) (cw_Moment (m := m1) (by omega)) rfl 1 (by decide) (hT _ wf_X1_18) (fun _ h9 => h9) rfl dX1_setAs_33 ?_
        refine cVv (As := [.ref (X.1 (bo (m1 + 1)))]) (rest := []) hX ⟨hx, hb, hml, hown, hT⟩ (c_X0_setAs l D X hX H.size S (mm + 1) (by omega) (m1 + 1) (by omega) _ h) (gd_V wl_X1_62 wi_X0_setAs wv_X0_setAs wn_X0 wc_X0_setAs) rfl hd_X0_setAs ⟨rfl, rfl⟩ ⟨Nat.le_of_ble_eq_true rfl, Nat.le_of_ble_eq_true rfl⟩ (va_recv hK hP (ci := 0) (q0 := (bo (mm + 1))) rfl (cw_Besom (b := mm + 1) (by omega))) hK hP hS hF rfl hl.1 rfl (Nat.le_of_ble_eq_true rfl) dX1_setAs_36 ⟨Nat.zero_le _, Nat.zero_le _⟩ (fun S_2 H locs h hP hS => ?_)
        refine lv_aload_n hx hb dX1_setAs_39 rfl (lv_at hl 0 rfl) ?_
        refine lv_aload_n hx hb dX1_setAs_40 rfl (lv_at hl 1 rfl) ?_
        refine va_get (D := D) (ci := 1) (v := .int (S_2.1 (mo m1) 2)) (C := RX1) (T := TX1) (N := 8) hx hb hT inX1 hown hK hP (mo m1) (cw_Moment (m := m1) (by omega)) rfl 2 (by decide) (hT _ wf_X1_43) (fun _ h9 => h9) rfl dX1_setAs_41 ?_
        refine lv_topi (fun u_4 eu_4 => ?_)
        have h := h u_4 eu_4
        refine va_put (D := D) (ci := 1) (v := .int u_4) (ty := .int) (C := RX1) (T := TX1) (N := 8) hx hb hT inX1 tyX1 tyX1_ok nmX1 hown hK hP (gw_D hX) hS (mo mm) (cw_Moment (m := mm) (by omega)) rfl 2 (by decide) (hT _ wf_X1_43) (fun _ h9 => h9) rfl (by decide +kernel) rfl rfl (Nat.le_of_ble_eq_true rfl) dX1_setAs_44 (fun H locs hP _ hS => ?_)
        have hP := cw_st (j := 2) (x := u_4) (cce_mo X _ (m := mm) (by omega) _) hP
        obtain ⟨S_5, eS_5⟩ : ∃ z : CS, z = sti S_2 (mo mm) 2 u_4 := ⟨_, rfl⟩
        rw [← eS_5] at hP
        have h := h S_5 eS_5
        refine lv_aload_n hx hb dX1_setAs_47 rfl (lv_at hl 0 rfl) ?_
        refine lv_aload_n hx hb dX1_setAs_48 rfl (lv_at hl 1 rfl) ?_
        refine va_get (D := D) (ci := 1) (v := .int (S_5.1 (mo m1) 3)) (C := RX1) (T := TX1) (N := 8) hx hb hT inX1 hown hK hP (mo m1) (cw_Moment (m := m1) (by omega)) rfl 3 (by decide) (hT _ wf_X1_46) (fun _ h9 => h9) rfl dX1_setAs_49 ?_
        refine lv_topi (fun u_6 eu_6 => ?_)
        have h := h u_6 eu_6
        refine va_put (D := D) (ci := 1) (v := .int u_6) (ty := .int) (C := RX1) (T := TX1) (N := 8) hx hb hT inX1 tyX1 tyX1_ok nmX1 hown hK hP (gw_D hX) hS (mo mm) (cw_Moment (m := mm) (by omega)) rfl 3 (by decide) (hT _ wf_X1_46) (fun _ h9 => h9) rfl (by decide +kernel) rfl rfl (Nat.le_of_ble_eq_true rfl) dX1_setAs_52 (fun H locs hP _ hS => ?_)
        have hP := cw_st (j := 3) (x := u_6) (cce_mo X _ (m := mm) (by omega) _) hP
        obtain ⟨S_7, eS_7⟩ : ∃ z : CS, z = sti S_5 (mo mm) 3 u_6 := ⟨_, rfl⟩
        rw [← eS_7] at hP
        have h := h S_7 eS_7
        refine lv_aload_n hx hb dX1_setAs_55 rfl (lv_at hl 0 rfl) ?_
        refine lv_aload_n hx hb dX1_setAs_56 rfl (lv_at hl 1 rfl) ?_
        refine va_get (D := D) (ci := 1) (v := .int (S_7.1 (mo m1) 4)) (C := RX1) (T := TX1) (N := 8) hx hb hT inX1 hown hK hP (mo m1) (cw_Moment (m := m1) (by omega)) rfl 4 (by decide) (hT _ wf_X1_49) (fun _ h9 => h9) rfl dX1_setAs_57 ?_
        refine lv_topi (fun u_8 eu_8 => ?_)
        have h := h u_8 eu_8
        refine va_put (D := D) (ci := 1) (v := .int u_8) (ty := .int) (C := RX1) (T := TX1) (N := 8) hx hb hT inX1 tyX1 tyX1_ok nmX1 hown hK hP (gw_D hX) hS (mo mm) (cw_Moment (m := mm) (by omega)) rfl 4 (by decide) (hT _ wf_X1_49) (fun _ h9 => h9) rfl (by decide +kernel) rfl rfl (Nat.le_of_ble_eq_true rfl) dX1_setAs_60 (fun H locs hP _ hS => ?_)
        have hP := cw_st (j := 4) (x := u_8) (cce_mo X _ (m := mm) (by omega) _) hP
        obtain ⟨S_9, eS_9⟩ : ∃ z : CS, z = sti S_7 (mo mm) 4 u_8 := ⟨_, rfl⟩
        rw [← eS_9] at hP
        have h := h S_9 eS_9
        refine lv_aload_n hx hb dX1_setAs_63 rfl (lv_at hl 0 rfl) ?_
        refine lv_aload_n hx hb dX1_setAs_64 rfl (lv_at hl 1 rfl) ?_
        refine va_get (D := D) (ci := 1) (v := .int (S_9.1 (mo m1) 5)) (C := RX1) (T := TX1) (N := 8) hx hb hT inX1 hown hK hP (mo m1) (cw_Moment (m := m1) (by omega)) rfl 5 (by decide) (hT _ wf_X1_52) (fun _ h9 => h9) rfl dX1_setAs_65 ?_
        refine lv_topi (fun u_10 eu_10 => ?_)
        have h := h u_10 eu_10
        refine va_put (D := D) (ci := 1) (v := .int u_10) (ty := .int) (C := RX1) (T := TX1) (N := 8) hx hb hT inX1 tyX1 tyX1_ok nmX1 hown hK hP (gw_D hX) hS (mo mm) (cw_Moment (m := mm) (by omega)) rfl 5 (by decide) (hT _ wf_X1_52) (fun _ h9 => h9) rfl (by decide +kernel) rfl rfl (Nat.le_of_ble_eq_true rfl) dX1_setAs_68 (fun H locs hP _ hS => ?_)
        have hP := cw_st (j := 5) (x := u_10) (cce_mo X _ (m := mm) (by omega) _) hP
        obtain ⟨S_11, eS_11⟩ : ∃ z : CS, z = sti S_9 (mo mm) 5 u_10 := ⟨_, rfl⟩
        rw [← eS_11] at hP
        have h := h S_11 eS_11
        refine lv_aload_n hx hb dX1_setAs_71 rfl (lv_at hl 0 rfl) ?_
        refine lv_aload_n hx hb dX1_setAs_72 rfl (lv_at hl 1 rfl) ?_
        refine va_get (D := D) (ci := 1) (v := .int (S_11.1 (mo m1) 6)) (C := RX1) (T := TX1) (N := 8) hx hb hT inX1 hown hK hP (mo m1) (cw_Moment (m := m1) (by omega)) rfl 6 (by decide) (hT _ wf_X1_22) (fun _ h9 => h9) rfl dX1_setAs_73 ?_
        refine lv_topi (fun u_12 eu_12 => ?_)
        have h := h u_12 eu_12
        refine va_put (D := D) (ci := 1) (v := .int u_12) (ty := .int) (C := RX1) (T := TX1) (N := 8) hx hb hT inX1 tyX1 tyX1_ok nmX1 hown hK hP (gw_D hX) hS (mo mm) (cw_Moment (m := mm) (by omega)) rfl 6 (by decide) (hT _ wf_X1_22) (fun _ h9 => h9) rfl (by decide +kernel) rfl rfl (Nat.le_of_ble_eq_true rfl) dX1_setAs_76 (fun H locs hP _ hS => ?_)
        have hP := cw_st (j := 6) (x := u_12) (cce_mo X _ (m := mm) (by omega) _) hP
        obtain ⟨S_13, eS_13⟩ : ∃ z : CS, z = sti S_11 (mo mm) 6 u_12 := ⟨_, rfl⟩
        rw [← eS_13] at hP
        have h := h S_13 eS_13
        refine lv_aload_n hx hb dX1_setAs_79 rfl (lv_at hl 0 rfl) ?_
        refine lv_aload_n hx hb dX1_setAs_80 rfl (lv_at hl 1 rfl) ?_
        refine va_get (D := D) (ci := 1) (v := .int (S_13.1 (mo m1) 7)) (C := RX1) (T := TX1) (N := 8) hx hb hT inX1 hown hK hP (mo m1) (cw_Moment (m := m1) (by omega)) rfl 7 (by decide) (hT _ wf_X1_55) (fun _ h9 => h9) rfl dX1_setAs_81 ?_
        refine lv_topi (fun u_14 eu_14 => ?_)
        have h := h u_14 eu_14
        refine va_put (D := D) (ci := 1) (v := .int u_14) (ty := .int) (C := RX1) (T := TX1) (N := 8) hx hb hT inX1 tyX1 tyX1_ok nmX1 hown hK hP (gw_D hX) hS (mo mm) (cw_Moment (m := mm) (by omega)) rfl 7 (by decide) (hT _ wf_X1_55) (fun _ h9 => h9) rfl (by decide +kernel) rfl rfl (Nat.le_of_ble_eq_true rfl) dX1_setAs_84 (fun H locs hP _ hS => ?_)
        have hP := cw_st (j := 7) (x := u_14) (cce_mo X _ (m := mm) (by omega) _) hP
        obtain ⟨S_15, eS_15⟩ : ∃ z : CS, z = sti S_13 (mo mm) 7 u_14 := ⟨_, rfl⟩
        rw [← eS_15] at hP
        have h := h S_15 eS_15
        exact W.vret hx hb hr (fun t ht hW => ⟨⟨S_15, rfl, h, gB_of ht hP⟩, hS.F ht⟩) hS.2.2 dX1_setAs_87
      · have h := h.2 c_1
        refine lv_aload_n hx hb dX1_setAs_11 rfl (lv_at hl 0 rfl) ?_
        refine va_get (D := D) (ci := 1) (v := .ref (X.1 (mg mm))) (C := RX1) (T := TX1) (N := 8) hx hb hT inX1 hown hK hP (mo mm) (cw_Moment (m := mm) (by omega)) rfl 0 (by decide) (hT _ wf_X1_9) (fun _ h9 => h9) rfl dX1_setAs_12 ?_
        refine lv_iload_n hx hb dX1_setAs_15 rfl (lv_at hl 2 rfl) ?_
        refine lv_aload_n hx hb dX1_setAs_16 rfl (lv_at hl 1 rfl) ?_
        refine lv_iload_n hx hb dX1_setAs_17 rfl (lv_at hl 2 rfl) ?_
        refine cVi (As := [.int y2]) (rest := [.int y2, .ref (X.1 (mg mm))]) hX ⟨hx, hb, hml, hown, hT⟩ (c_X1_age l D X hX H.size S m1 hyp_m1 y2 _ h) (gd_V wl_X1_58 wi_X1_age wv_X1_age wn_X1 wc_X1_age) rfl hd_X1_age ⟨rfl, rfl⟩ ⟨Nat.le_of_ble_eq_true rfl, Nat.le_of_ble_eq_true rfl⟩ (va_recv hK hP (ci := 1) (q0 := (mo m1)) rfl (cw_Moment (m := m1) (by omega))) hK hP hS hF rfl hl.1 rfl (Nat.le_of_ble_eq_true rfl) dX1_setAs_18 ⟨Nat.zero_le _, Nat.zero_le _⟩ (fun r_17 S_16 H locs h hP hS => ?_)
        obtain ⟨hi, h⟩ := h
        refine g_iast hx hb hK hP (gw_D hX) hS (mg mm) (cw_mg (m := mm) (by omega)) rfl hi y2.toNatClampNeg rfl dX1_setAs_21 (fun H locs hP hS => ?_)
        have hP := cw_st (j := y2.toNatClampNeg) (x := r_17) (cce_mg X _ (m := mm) (by omega) _) hP
        obtain ⟨S_18, eS_18⟩ : ∃ z : CS, z = sti S_16 (mg mm) y2.toNatClampNeg r_17 := ⟨_, rfl⟩
        rw [← eS_18] at hP
        have h := h S_18 eS_18
        obtain ⟨x2_19, ex2_19⟩ : ∃ z : Int32, z = y2 + 1 := ⟨_, rfl⟩
        refine lv_iinc (v := x2_19) (lv' := [(2, .int x2_19), (0, .ref (X.1 (mo mm))), (1, .ref (X.1 (mo m1)))]) hx hb dX1_setAs_22 hl (k := 2) rfl (by rw [ex2_19]; rfl) (by decide) rfl (fun ls hl => ?_)
        have h := h x2_19 ex2_19
        refine lv_goto (tgt := 2) hx hb dX1_setAs_25 (by decide) ?_
        exact ih x2_19 S_18 H locs ls hP hS (lv_sub hl [1, 2, 0] rfl) h
  have hl := lv_entry ([.ref (X.1 (mo mm)), .ref (X.1 (mo m1))]) (n := 3) (Nat.le_of_ble_eq_true rfl)
  rw [lg_entry_eq]
  generalize (lg_sl ([.ref (X.1 (mo mm)), .ref (X.1 (mo m1))]) ++ List.replicate (3 - (lg_sl ([.ref (X.1 (mo mm)), .ref (X.1 (mo m1))])).length) Slot.unset).toArray = ls at hl ⊢
  have hl : lv_has ls 3 [(0, .ref (X.1 (mo mm))), (1, .ref (X.1 (mo m1)))] := hl
  obtain ⟨H, hH⟩ : ∃ H : Heap, H = s.heap := ⟨_, rfl⟩
  obtain ⟨locs, hlc⟩ : ∃ q : List Loc, q = [] := ⟨_, rfl⟩
  have hS : va_S (AX 75 X.1 s.heap.size) s.heap H locs := by rw [hH, hlc]; exact hS
  have hP : va_P D vwCl (CW X S) H := by rw [hH]; exact hP
  show W p l e (headSpec (Cond.code yX1_setAs cX1_setAs 3 none :: lw_gd) rm_X1_setAs).room s m ([.ref (X.1 (mo mm)), .ref (X.1 (mo m1))] : List Value).toArray below meth c s.heap [] 0 0 (MQ below (va_Qv post (gB D (CW X)) (AX 75 X.1 s.heap.size)) ([.ref (X.1 (mo mm)), .ref (X.1 (mo m1))] : List Value).toArray s 0 0 (AX 75 X.1 s.heap.size)) _
  suffices hgo : W p l e (headSpec (Cond.code yX1_setAs cX1_setAs 3 none :: lw_gd) rm_X1_setAs).room s m ([.ref (X.1 (mo mm)), .ref (X.1 (mo m1))] : List Value).toArray below meth c H locs 0 0 (MQ below (va_Qv post (gB D (CW X)) (AX 75 X.1 s.heap.size)) ([.ref (X.1 (mo mm)), .ref (X.1 (mo m1))] : List Value).toArray s 0 0 (AX 75 X.1 s.heap.size)) (F0 m 0 ls []) from by rw [hH, hlc] at hgo; exact hgo
  unfold p_X1_setAs at h
  refine lv_iconst (v := 0) hx hb dX1_setAs_0 (by decide) ?_
  refine lv_istore_n (lv' := [(2, .int 0), (0, .ref (X.1 (mo mm))), (1, .ref (X.1 (mo m1)))]) hx hb dX1_setAs_1 rfl hl (by decide) rfl (fun ls hl => ?_)
  obtain ⟨n1, h⟩ := h
  exact W2  n1 0 S H locs ls hP hS (lv_sub hl [1, 2, 0] rfl) h

abbrev rm_X3_placeAt : Room := { frames := 0, cells := 0, slots := 0, locals := 0 }
def p_X3_placeAt (S : CS) (hh : Nat) (x1 : Int32) (post : Option Nat → CS → Prop) : Prop := (x1 < 0 → (post none S)) ∧ (¬ (x1 < 0) → ((x1 < (nI (hlen hh)) → (vp_in x1 (hlen hh) ∧ (post (some (hbase hh + x1.toNatClampNeg)) S))) ∧ (¬ (x1 < (nI (hlen hh))) → (post none S))))
set_option maxHeartbeats 4000000 in
set_option maxRecDepth 100000 in
theorem c_X3_placeAt (l : Launch) (D : va_G) (X : XE) (hX : Inj 75 X.1) (sz : Nat) (S : CS) (hh : Nat) (hyp_hh : hh < 2) (x1 : Int32) (post : Option Nat → CS → Prop) (h : p_X3_placeAt S hh x1 post) : Met l yX3_placeAt (Cond.code yX3_placeAt cX3_placeAt 2 (some (.object "BesomYard$Moment")) :: lw_gd) rm_X3_placeAt (gPc D (tyX X) (CW X) (FXc X) (AX 75 X.1 sz) sz S [.ref (X.1 (ho hh)), .int x1]) (va_Qq (fun r9 u9 => ∃ q9 : Option Nat, r9 = q9.map (fun m9 => X.1 (mo m9)) ∧ post q9 u9) (gB D (CW X)) (AX 75 X.1 sz)) 0 0 (AX 75 X.1 sz) := by
  refine Met.ofW (cc := cX3_placeAt) (maxL := 2) (ret := (some (.object "BesomYard$Moment"))) (by decide) rfl ?_
  intro p e s m args below meth c s₁ B hml hv
  obtain ⟨rfl, hsz, hP, hK, hF⟩ := hv
  have hx := B.exec
  have hb := B.bytes
  have hr := B.returns
  have hts := atoms_spec (ws := (Cond.code yX3_placeAt cX3_placeAt 2 (some (.object "BesomYard$Moment")) :: lw_gd)) B.pre
  have hT : ∀ w ∈ lw_gd, w.before _ s = true := fun w h9 => hts w (List.mem_cons_of_mem _ h9)
  have hown : s.vm.findClass RX3 = some m.cls := findClass_of_methodNamed B.named
  have hlocks := B.notSynchronized
  subst hsz
  have hS : va_S (AX 75 X.1 s.heap.size) s.heap s.heap [] := va_S.rf
  have hl := lv_entry ([.ref (X.1 (ho hh)), .int x1]) (n := 2) (Nat.le_of_ble_eq_true rfl)
  rw [lg_entry_eq]
  generalize (lg_sl ([.ref (X.1 (ho hh)), .int x1]) ++ List.replicate (2 - (lg_sl ([.ref (X.1 (ho hh)), .int x1])).length) Slot.unset).toArray = ls at hl ⊢
  have hl : lv_has ls 2 [(0, .ref (X.1 (ho hh))), (1, .int x1)] := hl
  obtain ⟨H, hH⟩ : ∃ H : Heap, H = s.heap := ⟨_, rfl⟩
  obtain ⟨locs, hlc⟩ : ∃ q : List Loc, q = [] := ⟨_, rfl⟩
  have hS : va_S (AX 75 X.1 s.heap.size) s.heap H locs := by rw [hH, hlc]; exact hS
  have hP : va_P D vwCl (CW X S) H := by rw [hH]; exact hP
  show W p l e (headSpec (Cond.code yX3_placeAt cX3_placeAt 2 (some (.object "BesomYard$Moment")) :: lw_gd) rm_X3_placeAt).room s m ([.ref (X.1 (ho hh)), .int x1] : List Value).toArray below meth c s.heap [] 0 0 (MQ below (va_Qq (fun r9 u9 => ∃ q9 : Option Nat, r9 = q9.map (fun m9 => X.1 (mo m9)) ∧ post q9 u9) (gB D (CW X)) (AX 75 X.1 s.heap.size)) ([.ref (X.1 (ho hh)), .int x1] : List Value).toArray s 0 0 (AX 75 X.1 s.heap.size)) _
  suffices hgo : W p l e (headSpec (Cond.code yX3_placeAt cX3_placeAt 2 (some (.object "BesomYard$Moment")) :: lw_gd) rm_X3_placeAt).room s m ([.ref (X.1 (ho hh)), .int x1] : List Value).toArray below meth c H locs 0 0 (MQ below (va_Qq (fun r9 u9 => ∃ q9 : Option Nat, r9 = q9.map (fun m9 => X.1 (mo m9)) ∧ post q9 u9) (gB D (CW X)) (AX 75 X.1 s.heap.size)) ([.ref (X.1 (ho hh)), .int x1] : List Value).toArray s 0 0 (AX 75 X.1 s.heap.size)) (F0 m 0 ls []) from by rw [hH, hlc] at hgo; exact hgo
  unfold p_X3_placeAt at h
  refine lv_iload_n hx hb dX3_placeAt_0 rfl (lv_at hl 1 rfl) ?_
  refine lv_if_lt (tgt := 13) hx hb dX3_placeAt_1 (by decide) (fun c_1 => ?_) (fun c_1 => ?_)
  · have h := h.1 c_1
    refine lv_null hx hb dX3_placeAt_13 ?_
    refine lv_goto (tgt := 23) hx hb dX3_placeAt_14 (by decide) ?_
    exact W.aret (v := .null) (rt := .object "BesomYard$Moment") hx hb hr (Or.inl ⟨_, rfl⟩) (Or.inl rfl) (fun t ht hW => ⟨⟨none, S, rfl, ⟨none, rfl, h⟩, gB_of ht hP⟩, hS.F ht⟩) hS.2.2 dX3_placeAt_23
  · have h := h.2 c_1
    refine lv_iload_n hx hb dX3_placeAt_4 rfl (lv_at hl 1 rfl) ?_
    refine lv_aload_n hx hb dX3_placeAt_5 rfl (lv_at hl 0 rfl) ?_
    refine va_get (D := D) (ci := 3) (v := .ref (X.1 (hp hh))) (C := RX3) (T := TX3) (N := 1) hx hb hT inX3 hown hK hP (ho hh) (cw_Shelf (h := hh) (by omega)) rfl 0 (by decide) (hT _ wf_X3_15) (fun _ h9 => h9) rfl dX3_placeAt_6 ?_
    refine va_alen hx hb hK hP (hp hh) 3 (cw_hp (h := hh) (by omega)) rfl (v := nI (hlen hh)) rfl dX3_placeAt_9 ?_
    refine lv_icmp_lt (tgt := 17) hx hb dX3_placeAt_10 (by decide) (fun c_2 => ?_) (fun c_2 => ?_)
    · have h := h.1 c_2
      refine lv_aload_n hx hb dX3_placeAt_17 rfl (lv_at hl 0 rfl) ?_
      refine va_get (D := D) (ci := 3) (v := .ref (X.1 (hp hh))) (C := RX3) (T := TX3) (N := 1) hx hb hT inX3 hown hK hP (ho hh) (cw_Shelf (h := hh) (by omega)) rfl 0 (by decide) (hT _ wf_X3_15) (fun _ h9 => h9) rfl dX3_placeAt_18 ?_
      refine lv_iload_n hx hb dX3_placeAt_21 rfl (lv_at hl 1 rfl) ?_
      obtain ⟨hi, h⟩ := h
      refine va_aldq hx hb hK hP (hp hh) 3 (cw_hp (h := hh) (by omega)) rfl hi dX3_placeAt_22 ?_
      exact W.aret (v := .ref (X.1 (mo (hbase hh + x1.toNatClampNeg)))) (rt := .object "BesomYard$Moment") hx hb hr (Or.inl ⟨_, rfl⟩) (Or.inr ⟨_, rfl⟩) (fun t ht hW => ⟨⟨some (X.1 (mo (hbase hh + x1.toNatClampNeg))), S, rfl, ⟨some (hbase hh + x1.toNatClampNeg), rfl, h⟩, gB_of ht hP⟩, hS.F ht⟩) hS.2.2 dX3_placeAt_23
    · have h := h.2 c_2
      refine lv_null hx hb dX3_placeAt_13 ?_
      refine lv_goto (tgt := 23) hx hb dX3_placeAt_14 (by decide) ?_
      exact W.aret (v := .null) (rt := .object "BesomYard$Moment") hx hb hr (Or.inl ⟨_, rfl⟩) (Or.inl rfl) (fun t ht hW => ⟨⟨none, S, rfl, ⟨none, rfl, h⟩, gB_of ht hP⟩, hS.F ht⟩) hS.2.2 dX3_placeAt_23

abbrev rm_X3_put : Room := { frames := 3, cells := 0, slots := 0, locals := 65 }
def p_X3_put (S : CS) (hh : Nat) (x1 : Int32) (m2 : Nat) (post : CS → Prop) : Prop := p_X3_placeAt S hh x1 (fun r_2 S_1 => (r_2 = none → (post S_1)) ∧ (∀ m_3 : Nat, r_2 = some m_3 → (m_3 < 13) ∧ (p_X1_setAs S_1 m_3 m2 (fun S_4 => (post S_4)))))
set_option maxHeartbeats 4000000 in
set_option maxRecDepth 100000 in
theorem c_X3_put (l : Launch) (D : va_G) (X : XE) (hX : Inj 75 X.1) (sz : Nat) (S : CS) (hh : Nat) (hyp_hh : hh < 2) (x1 : Int32) (m2 : Nat) (hyp_m2 : m2 < 13) (post : CS → Prop) (h : p_X3_put S hh x1 m2 post) : Met l yX3_put (Cond.code yX3_put cX3_put 4 none :: lw_gd) rm_X3_put (gPc D (tyX X) (CW X) (FXc X) (AX 75 X.1 sz) sz S [.ref (X.1 (ho hh)), .int x1, .ref (X.1 (mo m2))]) (va_Qv post (gB D (CW X)) (AX 75 X.1 sz)) 0 0 (AX 75 X.1 sz) := by
  refine Met.ofW (cc := cX3_put) (maxL := 4) (ret := none) (by decide) rfl ?_
  intro p e s m args below meth c s₁ B hml hv
  obtain ⟨rfl, hsz, hP, hK, hF⟩ := hv
  have hx := B.exec
  have hb := B.bytes
  have hr := B.returns
  have hts := atoms_spec (ws := (Cond.code yX3_put cX3_put 4 none :: lw_gd)) B.pre
  have hT : ∀ w ∈ lw_gd, w.before _ s = true := fun w h9 => hts w (List.mem_cons_of_mem _ h9)
  have hown : s.vm.findClass RX3 = some m.cls := findClass_of_methodNamed B.named
  have hlocks := B.notSynchronized
  subst hsz
  have hS : va_S (AX 75 X.1 s.heap.size) s.heap s.heap [] := va_S.rf
  have hl := lv_entry ([.ref (X.1 (ho hh)), .int x1, .ref (X.1 (mo m2))]) (n := 4) (Nat.le_of_ble_eq_true rfl)
  rw [lg_entry_eq]
  generalize (lg_sl ([.ref (X.1 (ho hh)), .int x1, .ref (X.1 (mo m2))]) ++ List.replicate (4 - (lg_sl ([.ref (X.1 (ho hh)), .int x1, .ref (X.1 (mo m2))])).length) Slot.unset).toArray = ls at hl ⊢
  have hl : lv_has ls 4 [(0, .ref (X.1 (ho hh))), (1, .int x1), (2, .ref (X.1 (mo m2)))] := hl
  obtain ⟨H, hH⟩ : ∃ H : Heap, H = s.heap := ⟨_, rfl⟩
  obtain ⟨locs, hlc⟩ : ∃ q : List Loc, q = [] := ⟨_, rfl⟩
  have hS : va_S (AX 75 X.1 s.heap.size) s.heap H locs := by rw [hH, hlc]; exact hS
  have hP : va_P D vwCl (CW X S) H := by rw [hH]; exact hP
  show W p l e (headSpec (Cond.code yX3_put cX3_put 4 none :: lw_gd) rm_X3_put).room s m ([.ref (X.1 (ho hh)), .int x1, .ref (X.1 (mo m2))] : List Value).toArray below meth c s.heap [] 0 0 (MQ below (va_Qv post (gB D (CW X)) (AX 75 X.1 s.heap.size)) ([.ref (X.1 (ho hh)), .int x1, .ref (X.1 (mo m2))] : List Value).toArray s 0 0 (AX 75 X.1 s.heap.size)) _
  suffices hgo : W p l e (headSpec (Cond.code yX3_put cX3_put 4 none :: lw_gd) rm_X3_put).room s m ([.ref (X.1 (ho hh)), .int x1, .ref (X.1 (mo m2))] : List Value).toArray below meth c H locs 0 0 (MQ below (va_Qv post (gB D (CW X)) (AX 75 X.1 s.heap.size)) ([.ref (X.1 (ho hh)), .int x1, .ref (X.1 (mo m2))] : List Value).toArray s 0 0 (AX 75 X.1 s.heap.size)) (F0 m 0 ls []) from by rw [hH, hlc] at hgo; exact hgo
  unfold p_X3_put at h
  refine lv_aload_n hx hb dX3_put_0 rfl (lv_at hl 0 rfl) ?_
  refine lv_iload_n hx hb dX3_put_1 rfl (lv_at hl 1 rfl) ?_
  refine cVq (As := [.int x1]) (rest := []) hX ⟨hx, hb, hml, hown, hT⟩ (c_X3_placeAt l D X hX H.size S hh hyp_hh x1 _ h) (gd_V wl_X3_22 wi_X3_placeAt wv_X3_placeAt wn_X3 wc_X3_placeAt) rfl hd_X3_placeAt ⟨rfl, rfl⟩ ⟨Nat.le_of_ble_eq_true rfl, Nat.le_of_ble_eq_true rfl⟩ (va_recv hK hP (ci := 3) (q0 := (ho hh)) rfl (cw_Shelf (h := hh) (by omega))) hK hP hS hF rfl hl.1 rfl (Nat.le_of_ble_eq_true rfl) dX3_put_2 ⟨Nat.zero_le _, Nat.zero_le _⟩ (fun r_2 S_1 H locs h hP hS => ?_)
  obtain ⟨hq1, hq2⟩ := h
  rcases r_2 with _ | m_3
  · have h := hq1 rfl
    refine lv_astore_nN (lv' := [(3, .null), (0, .ref (X.1 (ho hh))), (1, .int x1), (2, .ref (X.1 (mo m2)))]) hx hb dX3_put_5 rfl hl (by decide) rfl (fun ls hl => ?_)
    refine lv_aload_nN hx hb dX3_put_6 rfl (lv_at hl 0 rfl) ?_
    refine lv_ifnullN (tgt := 15) hx hb dX3_put_7 (by decide) ?_
    exact W.vret hx hb hr (fun t ht hW => ⟨⟨S_1, rfl, h, gB_of ht hP⟩, hS.F ht⟩) hS.2.2 dX3_put_15
  · obtain ⟨hyp_m_3, h⟩ := hq2 m_3 rfl
    refine lv_astore_n (lv' := [(3, .ref (X.1 (mo m_3))), (0, .ref (X.1 (ho hh))), (1, .int x1), (2, .ref (X.1 (mo m2)))]) hx hb dX3_put_5 rfl hl (by decide) rfl (fun ls hl => ?_)
    refine lv_aload_n hx hb dX3_put_6 rfl (lv_at hl 0 rfl) ?_
    refine lv_ifnull hx hb dX3_put_7 ?_
    refine lv_aload_n hx hb dX3_put_10 rfl (lv_at hl 0 rfl) ?_
    refine lv_aload_n hx hb dX3_put_11 rfl (lv_at hl 3 rfl) ?_
    refine cVv (As := [.ref (X.1 (mo m2))]) (rest := []) hX ⟨hx, hb, hml, hown, hT⟩ (c_X1_setAs l D X hX H.size S_1 m_3 (by omega) m2 hyp_m2 _ h) (gd_V wl_X3_26 wi_X1_setAs wv_X1_setAs wn_X1 wc_X1_setAs) rfl hd_X1_setAs ⟨rfl, rfl⟩ ⟨Nat.le_of_ble_eq_true rfl, Nat.le_of_ble_eq_true rfl⟩ (va_recv hK hP (ci := 1) (q0 := (mo m_3)) rfl (cw_Moment (m := m_3) (by omega))) hK hP hS hF rfl hl.1 rfl (Nat.le_of_ble_eq_true rfl) dX3_put_12 ⟨Nat.zero_le _, Nat.zero_le _⟩ (fun S_4 H locs h hP hS => ?_)
    exact W.vret hx hb hr (fun t ht hW => ⟨⟨S_4, rfl, h, gB_of ht hP⟩, hS.F ht⟩) hS.2.2 dX3_put_15

abbrev rm_X3_take : Room := { frames := 3, cells := 0, slots := 0, locals := 65 }
def p_X3_take (S : CS) (hh : Nat) (x1 : Int32) (m2 : Nat) (post : CS → Prop) : Prop := p_X3_placeAt S hh x1 (fun r_2 S_1 => (r_2 = none → (post S_1)) ∧ (∀ m_3 : Nat, r_2 = some m_3 → (m_3 < 13) ∧ (p_X1_setAs S_1 m2 m_3 (fun S_4 => (post S_4)))))
set_option maxHeartbeats 4000000 in
set_option maxRecDepth 100000 in
theorem c_X3_take (l : Launch) (D : va_G) (X : XE) (hX : Inj 75 X.1) (sz : Nat) (S : CS) (hh : Nat) (hyp_hh : hh < 2) (x1 : Int32) (m2 : Nat) (hyp_m2 : m2 < 13) (post : CS → Prop) (h : p_X3_take S hh x1 m2 post) : Met l yX3_take (Cond.code yX3_take cX3_take 4 none :: lw_gd) rm_X3_take (gPc D (tyX X) (CW X) (FXc X) (AX 75 X.1 sz) sz S [.ref (X.1 (ho hh)), .int x1, .ref (X.1 (mo m2))]) (va_Qv post (gB D (CW X)) (AX 75 X.1 sz)) 0 0 (AX 75 X.1 sz) := by
  refine Met.ofW (cc := cX3_take) (maxL := 4) (ret := none) (by decide) rfl ?_
  intro p e s m args below meth c s₁ B hml hv
  obtain ⟨rfl, hsz, hP, hK, hF⟩ := hv
  have hx := B.exec
  have hb := B.bytes
  have hr := B.returns
  have hts := atoms_spec (ws := (Cond.code yX3_take cX3_take 4 none :: lw_gd)) B.pre
  have hT : ∀ w ∈ lw_gd, w.before _ s = true := fun w h9 => hts w (List.mem_cons_of_mem _ h9)
  have hown : s.vm.findClass RX3 = some m.cls := findClass_of_methodNamed B.named
  have hlocks := B.notSynchronized
  subst hsz
  have hS : va_S (AX 75 X.1 s.heap.size) s.heap s.heap [] := va_S.rf
  have hl := lv_entry ([.ref (X.1 (ho hh)), .int x1, .ref (X.1 (mo m2))]) (n := 4) (Nat.le_of_ble_eq_true rfl)
  rw [lg_entry_eq]
  generalize (lg_sl ([.ref (X.1 (ho hh)), .int x1, .ref (X.1 (mo m2))]) ++ List.replicate (4 - (lg_sl ([.ref (X.1 (ho hh)), .int x1, .ref (X.1 (mo m2))])).length) Slot.unset).toArray = ls at hl ⊢
  have hl : lv_has ls 4 [(0, .ref (X.1 (ho hh))), (1, .int x1), (2, .ref (X.1 (mo m2)))] := hl
  obtain ⟨H, hH⟩ : ∃ H : Heap, H = s.heap := ⟨_, rfl⟩
  obtain ⟨locs, hlc⟩ : ∃ q : List Loc, q = [] := ⟨_, rfl⟩
  have hS : va_S (AX 75 X.1 s.heap.size) s.heap H locs := by rw [hH, hlc]; exact hS
  have hP : va_P D vwCl (CW X S) H := by rw [hH]; exact hP
  show W p l e (headSpec (Cond.code yX3_take cX3_take 4 none :: lw_gd) rm_X3_take).room s m ([.ref (X.1 (ho hh)), .int x1, .ref (X.1 (mo m2))] : List Value).toArray below meth c s.heap [] 0 0 (MQ below (va_Qv post (gB D (CW X)) (AX 75 X.1 s.heap.size)) ([.ref (X.1 (ho hh)), .int x1, .ref (X.1 (mo m2))] : List Value).toArray s 0 0 (AX 75 X.1 s.heap.size)) _
  suffices hgo : W p l e (headSpec (Cond.code yX3_take cX3_take 4 none :: lw_gd) rm_X3_take).room s m ([.ref (X.1 (ho hh)), .int x1, .ref (X.1 (mo m2))] : List Value).toArray below meth c H locs 0 0 (MQ below (va_Qv post (gB D (CW X)) (AX 75 X.1 s.heap.size)) ([.ref (X.1 (ho hh)), .int x1, .ref (X.1 (mo m2))] : List Value).toArray s 0 0 (AX 75 X.1 s.heap.size)) (F0 m 0 ls []) from by rw [hH, hlc] at hgo; exact hgo
  unfold p_X3_take at h
  refine lv_aload_n hx hb dX3_take_0 rfl (lv_at hl 0 rfl) ?_
  refine lv_iload_n hx hb dX3_take_1 rfl (lv_at hl 1 rfl) ?_
  refine cVq (As := [.int x1]) (rest := []) hX ⟨hx, hb, hml, hown, hT⟩ (c_X3_placeAt l D X hX H.size S hh hyp_hh x1 _ h) (gd_V wl_X3_22 wi_X3_placeAt wv_X3_placeAt wn_X3 wc_X3_placeAt) rfl hd_X3_placeAt ⟨rfl, rfl⟩ ⟨Nat.le_of_ble_eq_true rfl, Nat.le_of_ble_eq_true rfl⟩ (va_recv hK hP (ci := 3) (q0 := (ho hh)) rfl (cw_Shelf (h := hh) (by omega))) hK hP hS hF rfl hl.1 rfl (Nat.le_of_ble_eq_true rfl) dX3_take_2 ⟨Nat.zero_le _, Nat.zero_le _⟩ (fun r_2 S_1 H locs h hP hS => ?_)
  obtain ⟨hq1, hq2⟩ := h
  rcases r_2 with _ | m_3
  · have h := hq1 rfl
    refine lv_astore_nN (lv' := [(3, .null), (0, .ref (X.1 (ho hh))), (1, .int x1), (2, .ref (X.1 (mo m2)))]) hx hb dX3_take_5 rfl hl (by decide) rfl (fun ls hl => ?_)
    refine lv_aload_nN hx hb dX3_take_6 rfl (lv_at hl 0 rfl) ?_
    refine lv_ifnullN (tgt := 15) hx hb dX3_take_7 (by decide) ?_
    exact W.vret hx hb hr (fun t ht hW => ⟨⟨S_1, rfl, h, gB_of ht hP⟩, hS.F ht⟩) hS.2.2 dX3_take_15
  · obtain ⟨hyp_m_3, h⟩ := hq2 m_3 rfl
    refine lv_astore_n (lv' := [(3, .ref (X.1 (mo m_3))), (0, .ref (X.1 (ho hh))), (1, .int x1), (2, .ref (X.1 (mo m2)))]) hx hb dX3_take_5 rfl hl (by decide) rfl (fun ls hl => ?_)
    refine lv_aload_n hx hb dX3_take_6 rfl (lv_at hl 0 rfl) ?_
    refine lv_ifnull hx hb dX3_take_7 ?_
    refine lv_aload_n hx hb dX3_take_10 rfl (lv_at hl 3 rfl) ?_
    refine lv_aload_n hx hb dX3_take_11 rfl (lv_at hl 0 rfl) ?_
    refine cVv (As := [.ref (X.1 (mo m_3))]) (rest := []) hX ⟨hx, hb, hml, hown, hT⟩ (c_X1_setAs l D X hX H.size S_1 m2 hyp_m2 m_3 (by omega) _ h) (gd_V wl_X3_26 wi_X1_setAs wv_X1_setAs wn_X1 wc_X1_setAs) rfl hd_X1_setAs ⟨rfl, rfl⟩ ⟨Nat.le_of_ble_eq_true rfl, Nat.le_of_ble_eq_true rfl⟩ (va_recv hK hP (ci := 1) (q0 := (mo m2)) rfl (cw_Moment (m := m2) (by omega))) hK hP hS hF rfl hl.1 rfl (Nat.le_of_ble_eq_true rfl) dX3_take_12 ⟨Nat.zero_le _, Nat.zero_le _⟩ (fun S_4 H locs h hP hS => ?_)
    exact W.vret hx hb hr (fun t ht hW => ⟨⟨S_4, rfl, h, gB_of ht hP⟩, hS.F ht⟩) hS.2.2 dX3_take_15

abbrev rm_X2_mostTwigs : Room := { frames := 0, cells := 0, slots := 0, locals := 0 }
def p_X2_mostTwigs (S : CS)  (post : Int32 → CS → Prop) : Prop := post (S.1 17 0) S
set_option maxHeartbeats 4000000 in
set_option maxRecDepth 100000 in
theorem c_X2_mostTwigs (l : Launch) (D : va_G) (X : XE) (hX : Inj 75 X.1) (sz : Nat) (S : CS)  (post : Int32 → CS → Prop) (h : p_X2_mostTwigs S  post) : Met l yX2_mostTwigs (Cond.code yX2_mostTwigs cX2_mostTwigs 1 (some .int) :: lw_gd) rm_X2_mostTwigs (gPc D (tyX X) (CW X) (FXc X) (AX 75 X.1 sz) sz S [.ref (X.1 17)]) (va_Qi post (gB D (CW X)) (AX 75 X.1 sz)) 0 0 (AX 75 X.1 sz) := by
  refine Met.ofW (cc := cX2_mostTwigs) (maxL := 1) (ret := (some .int)) (by decide) rfl ?_
  intro p e s m args below meth c s₁ B hml hv
  obtain ⟨rfl, hsz, hP, hK, hF⟩ := hv
  have hx := B.exec
  have hb := B.bytes
  have hr := B.returns
  have hts := atoms_spec (ws := (Cond.code yX2_mostTwigs cX2_mostTwigs 1 (some .int) :: lw_gd)) B.pre
  have hT : ∀ w ∈ lw_gd, w.before _ s = true := fun w h9 => hts w (List.mem_cons_of_mem _ h9)
  have hown : s.vm.findClass RX2 = some m.cls := findClass_of_methodNamed B.named
  have hlocks := B.notSynchronized
  subst hsz
  have hS : va_S (AX 75 X.1 s.heap.size) s.heap s.heap [] := va_S.rf
  have hl := lv_entry ([.ref (X.1 17)]) (n := 1) (Nat.le_of_ble_eq_true rfl)
  rw [lg_entry_eq]
  generalize (lg_sl ([.ref (X.1 17)]) ++ List.replicate (1 - (lg_sl ([.ref (X.1 17)])).length) Slot.unset).toArray = ls at hl ⊢
  have hl : lv_has ls 1 [(0, .ref (X.1 17))] := hl
  obtain ⟨H, hH⟩ : ∃ H : Heap, H = s.heap := ⟨_, rfl⟩
  obtain ⟨locs, hlc⟩ : ∃ q : List Loc, q = [] := ⟨_, rfl⟩
  have hS : va_S (AX 75 X.1 s.heap.size) s.heap H locs := by rw [hH, hlc]; exact hS
  have hP : va_P D vwCl (CW X S) H := by rw [hH]; exact hP
  show W p l e (headSpec (Cond.code yX2_mostTwigs cX2_mostTwigs 1 (some .int) :: lw_gd) rm_X2_mostTwigs).room s m ([.ref (X.1 17)] : List Value).toArray below meth c s.heap [] 0 0 (MQ below (va_Qi post (gB D (CW X)) (AX 75 X.1 s.heap.size)) ([.ref (X.1 17)] : List Value).toArray s 0 0 (AX 75 X.1 s.heap.size)) _
  suffices hgo : W p l e (headSpec (Cond.code yX2_mostTwigs cX2_mostTwigs 1 (some .int) :: lw_gd) rm_X2_mostTwigs).room s m ([.ref (X.1 17)] : List Value).toArray below meth c H locs 0 0 (MQ below (va_Qi post (gB D (CW X)) (AX 75 X.1 s.heap.size)) ([.ref (X.1 17)] : List Value).toArray s 0 0 (AX 75 X.1 s.heap.size)) (F0 m 0 ls []) from by rw [hH, hlc] at hgo; exact hgo
  unfold p_X2_mostTwigs at h
  refine lv_aload_n hx hb dX2_mostTwigs_0 rfl (lv_at hl 0 rfl) ?_
  refine va_get (D := D) (ci := 2) (v := .int (S.1 17 0)) (C := RX2) (T := TX2) (N := 4) hx hb hT inX2 hown hK hP 17 cw_Planner rfl 0 (by decide) (hT _ wf_X2_21) (fun _ h9 => h9) rfl dX2_mostTwigs_1 ?_
  exact W.iret (v := S.1 17 0) hx hb hr (fun t ht hW => ⟨⟨S.1 17 0, S, rfl, h, gB_of ht hP⟩, hS.F ht⟩) hS.2.2 dX2_mostTwigs_4

abbrev rm_X2_chosenIn : Room := { frames := 0, cells := 0, slots := 0, locals := 0 }
def p_X2_chosenIn (S : CS) (x1 : Int32) (post : Int32 → CS → Prop) : Prop := (x1 < 0 → (post (-9) S)) ∧ (¬ (x1 < 0) → ((x1 < 4 → (vp_in x1 4 ∧ (((S.1 19 x1.toNatClampNeg) = (-1) → (post (-5) S)) ∧ (¬ ((S.1 19 x1.toNatClampNeg) = (-1)) → (vp_in x1 4 ∧ (post (S.1 19 x1.toNatClampNeg) S)))))) ∧ (¬ (x1 < 4) → (post (-9) S))))
set_option maxHeartbeats 4000000 in
set_option maxRecDepth 100000 in
theorem c_X2_chosenIn (l : Launch) (D : va_G) (X : XE) (hX : Inj 75 X.1) (sz : Nat) (S : CS) (x1 : Int32) (post : Int32 → CS → Prop) (h : p_X2_chosenIn S x1 post) : Met l yX2_chosenIn (Cond.code yX2_chosenIn cX2_chosenIn 2 (some .int) :: lw_gd) rm_X2_chosenIn (gPc D (tyX X) (CW X) (FXc X) (AX 75 X.1 sz) sz S [.ref (X.1 17), .int x1]) (va_Qi post (gB D (CW X)) (AX 75 X.1 sz)) 0 0 (AX 75 X.1 sz) := by
  refine Met.ofW (cc := cX2_chosenIn) (maxL := 2) (ret := (some .int)) (by decide) rfl ?_
  intro p e s m args below meth c s₁ B hml hv
  obtain ⟨rfl, hsz, hP, hK, hF⟩ := hv
  have hx := B.exec
  have hb := B.bytes
  have hr := B.returns
  have hts := atoms_spec (ws := (Cond.code yX2_chosenIn cX2_chosenIn 2 (some .int) :: lw_gd)) B.pre
  have hT : ∀ w ∈ lw_gd, w.before _ s = true := fun w h9 => hts w (List.mem_cons_of_mem _ h9)
  have hown : s.vm.findClass RX2 = some m.cls := findClass_of_methodNamed B.named
  have hlocks := B.notSynchronized
  subst hsz
  have hS : va_S (AX 75 X.1 s.heap.size) s.heap s.heap [] := va_S.rf
  have hl := lv_entry ([.ref (X.1 17), .int x1]) (n := 2) (Nat.le_of_ble_eq_true rfl)
  rw [lg_entry_eq]
  generalize (lg_sl ([.ref (X.1 17), .int x1]) ++ List.replicate (2 - (lg_sl ([.ref (X.1 17), .int x1])).length) Slot.unset).toArray = ls at hl ⊢
  have hl : lv_has ls 2 [(0, .ref (X.1 17)), (1, .int x1)] := hl
  obtain ⟨H, hH⟩ : ∃ H : Heap, H = s.heap := ⟨_, rfl⟩
  obtain ⟨locs, hlc⟩ : ∃ q : List Loc, q = [] := ⟨_, rfl⟩
  have hS : va_S (AX 75 X.1 s.heap.size) s.heap H locs := by rw [hH, hlc]; exact hS
  have hP : va_P D vwCl (CW X S) H := by rw [hH]; exact hP
  show W p l e (headSpec (Cond.code yX2_chosenIn cX2_chosenIn 2 (some .int) :: lw_gd) rm_X2_chosenIn).room s m ([.ref (X.1 17), .int x1] : List Value).toArray below meth c s.heap [] 0 0 (MQ below (va_Qi post (gB D (CW X)) (AX 75 X.1 s.heap.size)) ([.ref (X.1 17), .int x1] : List Value).toArray s 0 0 (AX 75 X.1 s.heap.size)) _
  suffices hgo : W p l e (headSpec (Cond.code yX2_chosenIn cX2_chosenIn 2 (some .int) :: lw_gd) rm_X2_chosenIn).room s m ([.ref (X.1 17), .int x1] : List Value).toArray below meth c H locs 0 0 (MQ below (va_Qi post (gB D (CW X)) (AX 75 X.1 s.heap.size)) ([.ref (X.1 17), .int x1] : List Value).toArray s 0 0 (AX 75 X.1 s.heap.size)) (F0 m 0 ls []) from by rw [hH, hlc] at hgo; exact hgo
  unfold p_X2_chosenIn at h
  refine lv_iload_n hx hb dX2_chosenIn_0 rfl (lv_at hl 1 rfl) ?_
  refine lv_if_lt (tgt := 9) hx hb dX2_chosenIn_1 (by decide) (fun c_1 => ?_) (fun c_1 => ?_)
  · have h := h.1 c_1
    refine lv_bipush (v := (-9)) hx hb dX2_chosenIn_9 (by decide) ?_
    exact W.iret (v := (-9)) hx hb hr (fun t ht hW => ⟨⟨(-9), S, rfl, h, gB_of ht hP⟩, hS.F ht⟩) hS.2.2 dX2_chosenIn_11
  · have h := h.2 c_1
    refine lv_iload_n hx hb dX2_chosenIn_4 rfl (lv_at hl 1 rfl) ?_
    refine lv_iconst (v := 4) hx hb dX2_chosenIn_5 (by decide) ?_
    refine lv_icmp_lt (tgt := 12) hx hb dX2_chosenIn_6 (by decide) (fun c_2 => ?_) (fun c_2 => ?_)
    · have h := h.1 c_2
      refine lv_aload_n hx hb dX2_chosenIn_12 rfl (lv_at hl 0 rfl) ?_
      refine va_get (D := D) (ci := 2) (v := .ref (X.1 19)) (C := RX2) (T := TX2) (N := 4) hx hb hT inX2 hown hK hP 17 cw_Planner rfl 2 (by decide) (hT _ wf_X2_15) (fun _ h9 => h9) rfl dX2_chosenIn_13 ?_
      refine lv_iload_n hx hb dX2_chosenIn_16 rfl (lv_at hl 1 rfl) ?_
      obtain ⟨hi, h⟩ := h
      refine g_iald hx hb hK hP 19 cw_19 rfl hi x1.toNatClampNeg rfl dX2_chosenIn_17 ?_
      refine lv_iconst (v := (-1)) hx hb dX2_chosenIn_18 (by decide) ?_
      refine lv_icmp_ne (tgt := 27) hx hb dX2_chosenIn_19 (by decide) (fun c_3 => ?_) (fun c_3 => ?_)
      · have h := h.2 c_3
        refine lv_aload_n hx hb dX2_chosenIn_27 rfl (lv_at hl 0 rfl) ?_
        refine va_get (D := D) (ci := 2) (v := .ref (X.1 19)) (C := RX2) (T := TX2) (N := 4) hx hb hT inX2 hown hK hP 17 cw_Planner rfl 2 (by decide) (hT _ wf_X2_15) (fun _ h9 => h9) rfl dX2_chosenIn_28 ?_
        refine lv_iload_n hx hb dX2_chosenIn_31 rfl (lv_at hl 1 rfl) ?_
        obtain ⟨hi, h⟩ := h
        refine g_iald hx hb hK hP 19 cw_19 rfl hi x1.toNatClampNeg rfl dX2_chosenIn_32 ?_
        exact W.iret (v := S.1 19 x1.toNatClampNeg) hx hb hr (fun t ht hW => ⟨⟨S.1 19 x1.toNatClampNeg, S, rfl, h, gB_of ht hP⟩, hS.F ht⟩) hS.2.2 dX2_chosenIn_33
      · have h := h.1 c_3
        refine lv_bipush (v := (-5)) hx hb dX2_chosenIn_22 (by decide) ?_
        refine lv_goto (tgt := 33) hx hb dX2_chosenIn_24 (by decide) ?_
        exact W.iret (v := (-5)) hx hb hr (fun t ht hW => ⟨⟨(-5), S, rfl, h, gB_of ht hP⟩, hS.F ht⟩) hS.2.2 dX2_chosenIn_33
    · have h := h.2 c_2
      refine lv_bipush (v := (-9)) hx hb dX2_chosenIn_9 (by decide) ?_
      exact W.iret (v := (-9)) hx hb hr (fun t ht hW => ⟨⟨(-9), S, rfl, h, gB_of ht hP⟩, hS.F ht⟩) hS.2.2 dX2_chosenIn_11

abbrev rm_X6_gift : Room := { frames := 0, cells := 0, slots := 0, locals := 0 }
def q_X6_gift_18 (x0 : Int32) (x1 : Int32) (x2 : Int32) (post : Int32 → CS → Prop) (z0 : Int32) (S : CS) : Prop := (z0 ≤ 0 → (post 0 S)) ∧ (¬ (z0 ≤ 0) → (post (x0 * z0) S))
def p_X6_gift (S : CS) (x0 : Int32) (x1 : Int32) (x2 : Int32) (post : Int32 → CS → Prop) : Prop := (x2 < x1 → (q_X6_gift_18 x0 x1 x2 post ((x2 - 2) - (x1 - x2)) S)) ∧ (¬ (x2 < x1) → (q_X6_gift_18 x0 x1 x2 post (x1 - 2) S))
set_option maxHeartbeats 4000000 in
set_option maxRecDepth 100000 in
theorem c_X6_gift (l : Launch) (D : va_G) (X : XE) (hX : Inj 75 X.1) (sz : Nat) (S : CS) (x0 : Int32) (x1 : Int32) (x2 : Int32) (post : Int32 → CS → Prop) (h : p_X6_gift S x0 x1 x2 post) : Met l yX6_gift (Cond.code yX6_gift cX6_gift 4 (some .int) :: lw_gd) rm_X6_gift (gPc D (tyX X) (CW X) (FXc X) (AX 75 X.1 sz) sz S [.int x0, .int x1, .int x2]) (va_Qi post (gB D (CW X)) (AX 75 X.1 sz)) 0 0 (AX 75 X.1 sz) := by
  refine Met.ofW (cc := cX6_gift) (maxL := 4) (ret := (some .int)) (by decide) rfl ?_
  intro p e s m args below meth c s₁ B hml hv
  obtain ⟨rfl, hsz, hP, hK, hF⟩ := hv
  have hx := B.exec
  have hb := B.bytes
  have hr := B.returns
  have hts := atoms_spec (ws := (Cond.code yX6_gift cX6_gift 4 (some .int) :: lw_gd)) B.pre
  have hT : ∀ w ∈ lw_gd, w.before _ s = true := fun w h9 => hts w (List.mem_cons_of_mem _ h9)
  have hown : s.vm.findClass RX6 = some m.cls := findClass_of_methodNamed B.named
  have hlocks := B.notSynchronized
  subst hsz
  have hS : va_S (AX 75 X.1 s.heap.size) s.heap s.heap [] := va_S.rf
  have W18 : ∀ (z0 : Int32) (S : CS) (H : Heap) (locs : List Loc) (ls : Array Slot), va_P D vwCl (CW X S) H → va_S (AX 75 X.1 s.heap.size) s.heap H locs → lv_has ls 4 [(0, .int x0)] → q_X6_gift_18 x0 x1 x2 post z0 S → W p l e (headSpec (Cond.code yX6_gift cX6_gift 4 (some .int) :: lw_gd) rm_X6_gift).room s m ([.int x0, .int x1, .int x2] : List Value).toArray below meth c H locs 0 0 (MQ below (va_Qi post (gB D (CW X)) (AX 75 X.1 s.heap.size)) ([.int x0, .int x1, .int x2] : List Value).toArray s 0 0 (AX 75 X.1 s.heap.size)) (F0 m 18 ls [.int z0]) := by
    intro z0 S H locs ls hP hS hl h
    unfold q_X6_gift_18 at h
    refine lv_istore_n (lv' := [(3, .int z0), (0, .int x0)]) hx hb dX6_gift_18 rfl hl (by decide) rfl (fun ls hl => ?_)
    refine lv_iload_n hx hb dX6_gift_19 rfl (lv_at hl 0 rfl) ?_
    refine lv_if_le (tgt := 29) hx hb dX6_gift_20 (by decide) (fun c_2 => ?_) (fun c_2 => ?_)
    · have h := h.1 c_2
      refine lv_iconst (v := 0) hx hb dX6_gift_29 (by decide) ?_
      exact W.iret (v := 0) hx hb hr (fun t ht hW => ⟨⟨0, S, rfl, h, gB_of ht hP⟩, hS.F ht⟩) hS.2.2 dX6_gift_30
    · have h := h.2 c_2
      refine lv_iload_n hx hb dX6_gift_23 rfl (lv_at hl 1 rfl) ?_
      refine lv_iload_n hx hb dX6_gift_24 rfl (lv_at hl 0 rfl) ?_
      refine lv_imul hx hb dX6_gift_25 ?_
      refine lv_goto (tgt := 30) hx hb dX6_gift_26 (by decide) ?_
      exact W.iret (v := (x0 * z0)) hx hb hr (fun t ht hW => ⟨⟨(x0 * z0), S, rfl, h, gB_of ht hP⟩, hS.F ht⟩) hS.2.2 dX6_gift_30
  have hl := lv_entry ([.int x0, .int x1, .int x2]) (n := 4) (Nat.le_of_ble_eq_true rfl)
  rw [lg_entry_eq]
  generalize (lg_sl ([.int x0, .int x1, .int x2]) ++ List.replicate (4 - (lg_sl ([.int x0, .int x1, .int x2])).length) Slot.unset).toArray = ls at hl ⊢
  have hl : lv_has ls 4 [(0, .int x0), (1, .int x1), (2, .int x2)] := hl
  obtain ⟨H, hH⟩ : ∃ H : Heap, H = s.heap := ⟨_, rfl⟩
  obtain ⟨locs, hlc⟩ : ∃ q : List Loc, q = [] := ⟨_, rfl⟩
  have hS : va_S (AX 75 X.1 s.heap.size) s.heap H locs := by rw [hH, hlc]; exact hS
  have hP : va_P D vwCl (CW X S) H := by rw [hH]; exact hP
  show W p l e (headSpec (Cond.code yX6_gift cX6_gift 4 (some .int) :: lw_gd) rm_X6_gift).room s m ([.int x0, .int x1, .int x2] : List Value).toArray below meth c s.heap [] 0 0 (MQ below (va_Qi post (gB D (CW X)) (AX 75 X.1 s.heap.size)) ([.int x0, .int x1, .int x2] : List Value).toArray s 0 0 (AX 75 X.1 s.heap.size)) _
  suffices hgo : W p l e (headSpec (Cond.code yX6_gift cX6_gift 4 (some .int) :: lw_gd) rm_X6_gift).room s m ([.int x0, .int x1, .int x2] : List Value).toArray below meth c H locs 0 0 (MQ below (va_Qi post (gB D (CW X)) (AX 75 X.1 s.heap.size)) ([.int x0, .int x1, .int x2] : List Value).toArray s 0 0 (AX 75 X.1 s.heap.size)) (F0 m 0 ls []) from by rw [hH, hlc] at hgo; exact hgo
  unfold p_X6_gift at h
  refine lv_iload_n hx hb dX6_gift_0 rfl (lv_at hl 1 rfl) ?_
  refine lv_iload_n hx hb dX6_gift_1 rfl (lv_at hl 2 rfl) ?_
  refine lv_icmp_gt (tgt := 11) hx hb dX6_gift_2 (by decide) (fun c_1 => ?_) (fun c_1 => ?_)
  · have h := h.1 c_1
    refine lv_iload_n hx hb dX6_gift_11 rfl (lv_at hl 2 rfl) ?_
    refine lv_iconst (v := 2) hx hb dX6_gift_12 (by decide) ?_
    refine lv_isub hx hb dX6_gift_13 ?_
    refine lv_iload_n hx hb dX6_gift_14 rfl (lv_at hl 1 rfl) ?_
    refine lv_iload_n hx hb dX6_gift_15 rfl (lv_at hl 2 rfl) ?_
    refine lv_isub hx hb dX6_gift_16 ?_
    refine lv_isub hx hb dX6_gift_17 ?_
    exact W18  ((x2 - 2) - (x1 - x2)) S H locs ls hP hS (lv_sub hl [0] rfl) h
  · have h := h.2 c_1
    refine lv_iload_n hx hb dX6_gift_5 rfl (lv_at hl 1 rfl) ?_
    refine lv_iconst (v := 2) hx hb dX6_gift_6 (by decide) ?_
    refine lv_isub hx hb dX6_gift_7 ?_
    refine lv_goto (tgt := 18) hx hb dX6_gift_8 (by decide) ?_
    exact W18  (x1 - 2) S H locs ls hP hS (lv_sub hl [0] rfl) h

abbrev rm_X2_gotIn : Room := { frames := 3, cells := 0, slots := 0, locals := 63 }
def q_X2_gotIn_29 (x1 : Int32) (t2 : Nat) (m3 : Nat) (post : Int32 → CS → Prop) : Nat → Int32 → Int32 → Int32 → CS → Prop
  | 0, _, _, _, _ => False
  | n9 + 1, y4, y5, y6, S => (x1 ≤ y6 → (p_X5_value S t2 0 y4 (fun r_8 S_7 => (p_X5_ripe S_7 t2 (fun r_10 S_9 => (p_X6_gift S_9 r_8 y5 r_10 (fun r_12 S_11 => (post r_12 S_11)))))))) ∧ (¬ (x1 ≤ y6) → (vp_in y6 4 ∧ (((S.1 18 y6.toNatClampNeg) = y4 → (∀ x5_15 : Int32, x5_15 = (x1 - y6) → (∀ x6_16 : Int32, x6_16 = y6 + 1 → (q_X2_gotIn_29 x1 t2 m3 post n9 y4 x5_15 x6_16 S)))) ∧ (¬ ((S.1 18 y6.toNatClampNeg) = y4) → (∀ x6_14 : Int32, x6_14 = y6 + 1 → (q_X2_gotIn_29 x1 t2 m3 post n9 y4 y5 x6_14 S))))))
def p_X2_gotIn (S : CS) (x1 : Int32) (t2 : Nat) (m3 : Nat) (post : Int32 → CS → Prop) : Prop := vp_in x1 4 ∧ (∀ x4_1 : Int32, x4_1 = S.1 18 x1.toNatClampNeg → ((x4_1 = (-1) → (post 0 S)) ∧ (¬ (x4_1 = (-1)) → (p_X1_age S m3 x4_1 (fun r_4 S_3 => (∀ x5_5 : Int32, x5_5 = (r_4 + x1) → (∃ n, q_X2_gotIn_29 x1 t2 m3 post n x4_1 x5_5 0 S_3)))))))
set_option maxHeartbeats 4000000 in
set_option maxRecDepth 100000 in
theorem c_X2_gotIn (l : Launch) (D : va_G) (X : XE) (hX : Inj 75 X.1) (sz : Nat) (S : CS) (x1 : Int32) (t2 : Nat) (hyp_t2 : t2 < 2) (m3 : Nat) (hyp_m3 : m3 < 13) (post : Int32 → CS → Prop) (h : p_X2_gotIn S x1 t2 m3 post) : Met l yX2_gotIn (Cond.code yX2_gotIn cX2_gotIn 7 (some .int) :: lw_gd) rm_X2_gotIn (gPc D (tyX X) (CW X) (FXc X) (AX 75 X.1 sz) sz S [.ref (X.1 17), .int x1, .ref (X.1 (to t2)), .ref (X.1 (mo m3))]) (va_Qi post (gB D (CW X)) (AX 75 X.1 sz)) 0 0 (AX 75 X.1 sz) := by
  refine Met.ofW (cc := cX2_gotIn) (maxL := 7) (ret := (some .int)) (by decide) rfl ?_
  intro p e s m args below meth c s₁ B hml hv
  obtain ⟨rfl, hsz, hP, hK, hF⟩ := hv
  have hx := B.exec
  have hb := B.bytes
  have hr := B.returns
  have hts := atoms_spec (ws := (Cond.code yX2_gotIn cX2_gotIn 7 (some .int) :: lw_gd)) B.pre
  have hT : ∀ w ∈ lw_gd, w.before _ s = true := fun w h9 => hts w (List.mem_cons_of_mem _ h9)
  have hown : s.vm.findClass RX2 = some m.cls := findClass_of_methodNamed B.named
  have hlocks := B.notSynchronized
  subst hsz
  have hS : va_S (AX 75 X.1 s.heap.size) s.heap s.heap [] := va_S.rf
  have W29 : ∀ n1 : Nat, ∀ (y4 : Int32) (y5 : Int32) (y6 : Int32) (S : CS) (H : Heap) (locs : List Loc) (ls : Array Slot), va_P D vwCl (CW X S) H → va_S (AX 75 X.1 s.heap.size) s.heap H locs → lv_has ls 7 [(0, .ref (X.1 17)), (1, .int x1), (2, .ref (X.1 (to t2))), (4, .int y4), (5, .int y5), (6, .int y6)] → q_X2_gotIn_29 x1 t2 m3 post n1 y4 y5 y6 S → W p l e (headSpec (Cond.code yX2_gotIn cX2_gotIn 7 (some .int) :: lw_gd) rm_X2_gotIn).room s m ([.ref (X.1 17), .int x1, .ref (X.1 (to t2)), .ref (X.1 (mo m3))] : List Value).toArray below meth c H locs 0 0 (MQ below (va_Qi post (gB D (CW X)) (AX 75 X.1 s.heap.size)) ([.ref (X.1 17), .int x1, .ref (X.1 (to t2)), .ref (X.1 (mo m3))] : List Value).toArray s 0 0 (AX 75 X.1 s.heap.size)) (F0 m 29 ls []) := by
    intro n1
    induction n1 with
    | zero => intro y4 y5 y6 S H locs ls hP hS hl h; exact h.elim
    | succ n9 ih =>
      intro y4 y5 y6 S H locs ls hP hS hl h
      rw [q_X2_gotIn_29] at h
      refine lv_iload hx hb dX2_gotIn_29 (lv_at hl 5 rfl) ?_
      refine lv_iload_n hx hb dX2_gotIn_31 rfl (lv_at hl 1 rfl) ?_
      refine lv_icmp_ge (tgt := 59) hx hb dX2_gotIn_32 (by decide) (fun c_6 => ?_) (fun c_6 => ?_)
      · have h := h.1 c_6
        refine lv_aload_n hx hb dX2_gotIn_59 rfl (lv_at hl 2 rfl) ?_
        refine lv_iconst (v := 0) hx hb dX2_gotIn_60 (by decide) ?_
        refine lv_iload hx hb dX2_gotIn_61 (lv_at hl 3 rfl) ?_
        refine cVi (As := [.int 0, .int y4]) (rest := []) hX ⟨hx, hb, hml, hown, hT⟩ (c_X5_value l D X hX H.size S t2 hyp_t2 0 y4 _ h) (gd_V wl_X2_57 wi_X5_value wv_X5_value wn_X5 wc_X5_value) rfl hd_X5_value ⟨rfl, rfl⟩ ⟨Nat.le_of_ble_eq_true rfl, Nat.le_of_ble_eq_true rfl⟩ (va_recv hK hP (ci := 5) (q0 := (to t2)) rfl (cw_Told (t := t2) (by omega))) hK hP hS hF rfl hl.1 rfl (Nat.le_of_ble_eq_true rfl) dX2_gotIn_63 ⟨Nat.zero_le _, Nat.zero_le _⟩ (fun r_8 S_7 H locs h hP hS => ?_)
        refine lv_iload hx hb dX2_gotIn_66 (lv_at hl 4 rfl) ?_
        refine lv_aload_n hx hb dX2_gotIn_68 rfl (lv_at hl 2 rfl) ?_
        refine cVi (As := []) (rest := [.int y5, .int r_8]) hX ⟨hx, hb, hml, hown, hT⟩ (c_X5_ripe l D X hX H.size S_7 t2 hyp_t2 _ h) (gd_V wl_X2_60 wi_X5_ripe wv_X5_ripe wn_X5 wc_X5_ripe) rfl hd_X5_ripe ⟨rfl, rfl⟩ ⟨Nat.le_of_ble_eq_true rfl, Nat.le_of_ble_eq_true rfl⟩ (va_recv hK hP (ci := 5) (q0 := (to t2)) rfl (cw_Told (t := t2) (by omega))) hK hP hS hF rfl hl.1 rfl (Nat.le_of_ble_eq_true rfl) dX2_gotIn_69 ⟨Nat.zero_le _, Nat.zero_le _⟩ (fun r_10 S_9 H locs h hP hS => ?_)
        refine cSNi (As := [.int r_8, .int y5, .int r_10]) (rest := []) hX ⟨hx, hb, hml, hown, hT⟩ (c_X6_gift l D X hX H.size S_9 r_8 y5 r_10 _ h) (gd_I wc_X6_gift) hF.1.2.2.2.2.2.2.2 (hT _ wn_X6) (hT _ wt_X6_gift) hd_X6_gift ⟨rfl, rfl⟩ ⟨Nat.le_of_ble_eq_true rfl, Nat.le_of_ble_eq_true rfl⟩ hK hP hS hF rfl hl.1 rfl (Nat.le_of_ble_eq_true rfl) dX2_gotIn_72 ⟨Nat.zero_le _, Nat.zero_le _⟩ (fun r_12 S_11 H locs h hP hS => ?_)
        exact W.iret (v := r_12) hx hb hr (fun t ht hW => ⟨⟨r_12, S_11, rfl, h, gB_of ht hP⟩, hS.F ht⟩) hS.2.2 dX2_gotIn_75
      · have h := h.2 c_6
        refine lv_aload_n hx hb dX2_gotIn_35 rfl (lv_at hl 0 rfl) ?_
        refine va_get (D := D) (ci := 2) (v := .ref (X.1 18)) (C := RX2) (T := TX2) (N := 4) hx hb hT inX2 hown hK hP 17 cw_Planner rfl 1 (by decide) (hT _ wf_X2_11) (fun _ h9 => h9) rfl dX2_gotIn_36 ?_
        refine lv_iload hx hb dX2_gotIn_39 (lv_at hl 5 rfl) ?_
        obtain ⟨hi, h⟩ := h
        refine g_iald hx hb hK hP 18 cw_18 rfl hi y6.toNatClampNeg rfl dX2_gotIn_41 ?_
        refine lv_iload hx hb dX2_gotIn_42 (lv_at hl 3 rfl) ?_
        refine lv_icmp_ne (tgt := 53) hx hb dX2_gotIn_44 (by decide) (fun c_13 => ?_) (fun c_13 => ?_)
        · have h := h.2 c_13
          obtain ⟨x6_14, ex6_14⟩ : ∃ z : Int32, z = y6 + 1 := ⟨_, rfl⟩
          refine lv_iinc (v := x6_14) (lv' := [(6, .int x6_14), (0, .ref (X.1 17)), (1, .int x1), (2, .ref (X.1 (to t2))), (4, .int y4), (5, .int y5)]) hx hb dX2_gotIn_53 hl (k := 5) rfl (by rw [ex6_14]; rfl) (by decide) rfl (fun ls hl => ?_)
          have h := h x6_14 ex6_14
          refine lv_goto (tgt := 29) hx hb dX2_gotIn_56 (by decide) ?_
          exact ih y4 y5 x6_14 S H locs ls hP hS (lv_sub hl [1, 2, 3, 4, 5, 0] rfl) h
        · have h := h.1 c_13
          refine lv_iload_n hx hb dX2_gotIn_47 rfl (lv_at hl 1 rfl) ?_
          refine lv_iload hx hb dX2_gotIn_48 (lv_at hl 5 rfl) ?_
          refine lv_isub hx hb dX2_gotIn_50 ?_
          refine lv_topi (fun x5_15 ex5_15 => ?_)
          have h := h x5_15 ex5_15
          refine lv_istore (lv' := [(5, .int x5_15), (0, .ref (X.1 17)), (1, .int x1), (2, .ref (X.1 (to t2))), (4, .int y4), (6, .int y6)]) hx hb dX2_gotIn_51 hl (by decide) rfl (fun ls hl => ?_)
          obtain ⟨x6_16, ex6_16⟩ : ∃ z : Int32, z = y6 + 1 := ⟨_, rfl⟩
          refine lv_iinc (v := x6_16) (lv' := [(6, .int x6_16), (5, .int x5_15), (0, .ref (X.1 17)), (1, .int x1), (2, .ref (X.1 (to t2))), (4, .int y4)]) hx hb dX2_gotIn_53 hl (k := 5) rfl (by rw [ex6_16]; rfl) (by decide) rfl (fun ls hl => ?_)
          have h := h x6_16 ex6_16
          refine lv_goto (tgt := 29) hx hb dX2_gotIn_56 (by decide) ?_
          exact ih y4 x5_15 x6_16 S H locs ls hP hS (lv_sub hl [2, 3, 4, 5, 1, 0] rfl) h
  have hl := lv_entry ([.ref (X.1 17), .int x1, .ref (X.1 (to t2)), .ref (X.1 (mo m3))]) (n := 7) (Nat.le_of_ble_eq_true rfl)
  rw [lg_entry_eq]
  generalize (lg_sl ([.ref (X.1 17), .int x1, .ref (X.1 (to t2)), .ref (X.1 (mo m3))]) ++ List.replicate (7 - (lg_sl ([.ref (X.1 17), .int x1, .ref (X.1 (to t2)), .ref (X.1 (mo m3))])).length) Slot.unset).toArray = ls at hl ⊢
  have hl : lv_has ls 7 [(0, .ref (X.1 17)), (1, .int x1), (2, .ref (X.1 (to t2))), (3, .ref (X.1 (mo m3)))] := hl
  obtain ⟨H, hH⟩ : ∃ H : Heap, H = s.heap := ⟨_, rfl⟩
  obtain ⟨locs, hlc⟩ : ∃ q : List Loc, q = [] := ⟨_, rfl⟩
  have hS : va_S (AX 75 X.1 s.heap.size) s.heap H locs := by rw [hH, hlc]; exact hS
  have hP : va_P D vwCl (CW X S) H := by rw [hH]; exact hP
  show W p l e (headSpec (Cond.code yX2_gotIn cX2_gotIn 7 (some .int) :: lw_gd) rm_X2_gotIn).room s m ([.ref (X.1 17), .int x1, .ref (X.1 (to t2)), .ref (X.1 (mo m3))] : List Value).toArray below meth c s.heap [] 0 0 (MQ below (va_Qi post (gB D (CW X)) (AX 75 X.1 s.heap.size)) ([.ref (X.1 17), .int x1, .ref (X.1 (to t2)), .ref (X.1 (mo m3))] : List Value).toArray s 0 0 (AX 75 X.1 s.heap.size)) _
  suffices hgo : W p l e (headSpec (Cond.code yX2_gotIn cX2_gotIn 7 (some .int) :: lw_gd) rm_X2_gotIn).room s m ([.ref (X.1 17), .int x1, .ref (X.1 (to t2)), .ref (X.1 (mo m3))] : List Value).toArray below meth c H locs 0 0 (MQ below (va_Qi post (gB D (CW X)) (AX 75 X.1 s.heap.size)) ([.ref (X.1 17), .int x1, .ref (X.1 (to t2)), .ref (X.1 (mo m3))] : List Value).toArray s 0 0 (AX 75 X.1 s.heap.size)) (F0 m 0 ls []) from by rw [hH, hlc] at hgo; exact hgo
  unfold p_X2_gotIn at h
  refine lv_aload_n hx hb dX2_gotIn_0 rfl (lv_at hl 0 rfl) ?_
  refine va_get (D := D) (ci := 2) (v := .ref (X.1 18)) (C := RX2) (T := TX2) (N := 4) hx hb hT inX2 hown hK hP 17 cw_Planner rfl 1 (by decide) (hT _ wf_X2_11) (fun _ h9 => h9) rfl dX2_gotIn_1 ?_
  refine lv_iload_n hx hb dX2_gotIn_4 rfl (lv_at hl 1 rfl) ?_
  obtain ⟨hi, h⟩ := h
  refine g_iald hx hb hK hP 18 cw_18 rfl hi x1.toNatClampNeg rfl dX2_gotIn_5 ?_
  refine lv_topi (fun x4_1 ex4_1 => ?_)
  have h := h x4_1 ex4_1
  refine lv_istore (lv' := [(4, .int x4_1), (0, .ref (X.1 17)), (1, .int x1), (2, .ref (X.1 (to t2))), (3, .ref (X.1 (mo m3)))]) hx hb dX2_gotIn_6 hl (by decide) rfl (fun ls hl => ?_)
  refine lv_iload hx hb dX2_gotIn_8 (lv_at hl 0 rfl) ?_
  refine lv_iconst (v := (-1)) hx hb dX2_gotIn_10 (by decide) ?_
  refine lv_icmp_ne (tgt := 16) hx hb dX2_gotIn_11 (by decide) (fun c_2 => ?_) (fun c_2 => ?_)
  · have h := h.2 c_2
    refine lv_aload_n hx hb dX2_gotIn_16 rfl (lv_at hl 4 rfl) ?_
    refine lv_iload hx hb dX2_gotIn_17 (lv_at hl 0 rfl) ?_
    refine cVi (As := [.int x4_1]) (rest := []) hX ⟨hx, hb, hml, hown, hT⟩ (c_X1_age l D X hX H.size S m3 hyp_m3 x4_1 _ h) (gd_V wl_X2_51 wi_X1_age wv_X1_age wn_X1 wc_X1_age) rfl hd_X1_age ⟨rfl, rfl⟩ ⟨Nat.le_of_ble_eq_true rfl, Nat.le_of_ble_eq_true rfl⟩ (va_recv hK hP (ci := 1) (q0 := (mo m3)) rfl (cw_Moment (m := m3) (by omega))) hK hP hS hF rfl hl.1 rfl (Nat.le_of_ble_eq_true rfl) dX2_gotIn_19 ⟨Nat.zero_le _, Nat.zero_le _⟩ (fun r_4 S_3 H locs h hP hS => ?_)
    refine lv_iload_n hx hb dX2_gotIn_22 rfl (lv_at hl 2 rfl) ?_
    refine lv_iadd hx hb dX2_gotIn_23 ?_
    refine lv_topi (fun x5_5 ex5_5 => ?_)
    have h := h x5_5 ex5_5
    refine lv_istore (lv' := [(5, .int x5_5), (4, .int x4_1), (0, .ref (X.1 17)), (1, .int x1), (2, .ref (X.1 (to t2))), (3, .ref (X.1 (mo m3)))]) hx hb dX2_gotIn_24 hl (by decide) rfl (fun ls hl => ?_)
    refine lv_iconst (v := 0) hx hb dX2_gotIn_26 (by decide) ?_
    refine lv_istore (lv' := [(6, .int 0), (5, .int x5_5), (4, .int x4_1), (0, .ref (X.1 17)), (1, .int x1), (2, .ref (X.1 (to t2))), (3, .ref (X.1 (mo m3)))]) hx hb dX2_gotIn_27 hl (by decide) rfl (fun ls hl => ?_)
    obtain ⟨n1, h⟩ := h
    exact W29  n1 x4_1 x5_5 0 S_3 H locs ls hP hS (lv_sub hl [3, 4, 5, 2, 1, 0] rfl) h
  · have h := h.1 c_2
    refine lv_iconst (v := 0) hx hb dX2_gotIn_14 (by decide) ?_
    exact W.iret (v := 0) hx hb hr (fun t ht hW => ⟨⟨0, S, rfl, h, gB_of ht hP⟩, hS.F ht⟩) hS.2.2 dX2_gotIn_15

abbrev rm_X2_compare : Room := { frames := 0, cells := 0, slots := 0, locals := 0 }
def q_X2_compare_15 (x1 : Int32) (post : CS → Prop) : Nat → Int32 → CS → Prop
  | 0, _, _ => False
  | n9 + 1, y2, S => (4 ≤ y2 → (post S)) ∧ (¬ (4 ≤ y2) → (vp_in y2 4 ∧ (∀ u_4 : Int32, u_4 = S.1 18 y2.toNatClampNeg → (vp_in y2 4 ∧ (∀ S_5 : CS, S_5 = sti S 19 y2.toNatClampNeg u_4 → (∀ x2_6 : Int32, x2_6 = y2 + 1 → (q_X2_compare_15 x1 post n9 x2_6 S_5)))))))
def p_X2_compare (S : CS) (x1 : Int32) (post : CS → Prop) : Prop := (x1 ≤ (S.1 17 0) → (post S)) ∧ (¬ (x1 ≤ (S.1 17 0)) → (∀ S_2 : CS, S_2 = sti S 17 0 x1 → (∃ n, q_X2_compare_15 x1 post n 0 S_2)))
set_option maxHeartbeats 4000000 in
set_option maxRecDepth 100000 in
theorem c_X2_compare (l : Launch) (D : va_G) (X : XE) (hX : Inj 75 X.1) (sz : Nat) (S : CS) (x1 : Int32) (post : CS → Prop) (h : p_X2_compare S x1 post) : Met l yX2_compare (Cond.code yX2_compare cX2_compare 3 none :: lw_gd) rm_X2_compare (gPc D (tyX X) (CW X) (FXc X) (AX 75 X.1 sz) sz S [.ref (X.1 17), .int x1]) (va_Qv post (gB D (CW X)) (AX 75 X.1 sz)) 0 0 (AX 75 X.1 sz) := by
  refine Met.ofW (cc := cX2_compare) (maxL := 3) (ret := none) (by decide) rfl ?_
  intro p e s m args below meth c s₁ B hml hv
  obtain ⟨rfl, hsz, hP, hK, hF⟩ := hv
  have hx := B.exec
  have hb := B.bytes
  have hr := B.returns
  have hts := atoms_spec (ws := (Cond.code yX2_compare cX2_compare 3 none :: lw_gd)) B.pre
  have hT : ∀ w ∈ lw_gd, w.before _ s = true := fun w h9 => hts w (List.mem_cons_of_mem _ h9)
  have hown : s.vm.findClass RX2 = some m.cls := findClass_of_methodNamed B.named
  have hlocks := B.notSynchronized
  subst hsz
  have hS : va_S (AX 75 X.1 s.heap.size) s.heap s.heap [] := va_S.rf
  have W15 : ∀ n1 : Nat, ∀ (y2 : Int32) (S : CS) (H : Heap) (locs : List Loc) (ls : Array Slot), va_P D vwCl (CW X S) H → va_S (AX 75 X.1 s.heap.size) s.heap H locs → lv_has ls 3 [(0, .ref (X.1 17)), (2, .int y2)] → q_X2_compare_15 x1 post n1 y2 S → W p l e (headSpec (Cond.code yX2_compare cX2_compare 3 none :: lw_gd) rm_X2_compare).room s m ([.ref (X.1 17), .int x1] : List Value).toArray below meth c H locs 0 0 (MQ below (va_Qv post (gB D (CW X)) (AX 75 X.1 s.heap.size)) ([.ref (X.1 17), .int x1] : List Value).toArray s 0 0 (AX 75 X.1 s.heap.size)) (F0 m 15 ls []) := by
    intro n1
    induction n1 with
    | zero => intro y2 S H locs ls hP hS hl h; exact h.elim
    | succ n9 ih =>
      intro y2 S H locs ls hP hS hl h
      rw [q_X2_compare_15] at h
      refine lv_iload_n hx hb dX2_compare_15 rfl (lv_at hl 1 rfl) ?_
      refine lv_iconst (v := 4) hx hb dX2_compare_16 (by decide) ?_
      refine lv_icmp_ge (tgt := 38) hx hb dX2_compare_17 (by decide) (fun c_3 => ?_) (fun c_3 => ?_)
      · have h := h.1 c_3
        exact W.vret hx hb hr (fun t ht hW => ⟨⟨S, rfl, h, gB_of ht hP⟩, hS.F ht⟩) hS.2.2 dX2_compare_38
      · have h := h.2 c_3
        refine lv_aload_n hx hb dX2_compare_20 rfl (lv_at hl 0 rfl) ?_
        refine va_get (D := D) (ci := 2) (v := .ref (X.1 19)) (C := RX2) (T := TX2) (N := 4) hx hb hT inX2 hown hK hP 17 cw_Planner rfl 2 (by decide) (hT _ wf_X2_15) (fun _ h9 => h9) rfl dX2_compare_21 ?_
        refine lv_iload_n hx hb dX2_compare_24 rfl (lv_at hl 1 rfl) ?_
        refine lv_aload_n hx hb dX2_compare_25 rfl (lv_at hl 0 rfl) ?_
        refine va_get (D := D) (ci := 2) (v := .ref (X.1 18)) (C := RX2) (T := TX2) (N := 4) hx hb hT inX2 hown hK hP 17 cw_Planner rfl 1 (by decide) (hT _ wf_X2_11) (fun _ h9 => h9) rfl dX2_compare_26 ?_
        refine lv_iload_n hx hb dX2_compare_29 rfl (lv_at hl 1 rfl) ?_
        obtain ⟨hi, h⟩ := h
        refine g_iald hx hb hK hP 18 cw_18 rfl hi y2.toNatClampNeg rfl dX2_compare_30 ?_
        refine lv_topi (fun u_4 eu_4 => ?_)
        have h := h u_4 eu_4
        obtain ⟨hi, h⟩ := h
        refine g_iast hx hb hK hP (gw_D hX) hS 19 cw_19 rfl hi y2.toNatClampNeg rfl dX2_compare_31 (fun H locs hP hS => ?_)
        have hP := cw_st (j := y2.toNatClampNeg) (x := u_4) rfl hP
        obtain ⟨S_5, eS_5⟩ : ∃ z : CS, z = sti S 19 y2.toNatClampNeg u_4 := ⟨_, rfl⟩
        rw [← eS_5] at hP
        have h := h S_5 eS_5
        obtain ⟨x2_6, ex2_6⟩ : ∃ z : Int32, z = y2 + 1 := ⟨_, rfl⟩
        refine lv_iinc (v := x2_6) (lv' := [(2, .int x2_6), (0, .ref (X.1 17))]) hx hb dX2_compare_32 hl (k := 1) rfl (by rw [ex2_6]; rfl) (by decide) rfl (fun ls hl => ?_)
        have h := h x2_6 ex2_6
        refine lv_goto (tgt := 15) hx hb dX2_compare_35 (by decide) ?_
        exact ih x2_6 S_5 H locs ls hP hS (lv_sub hl [1, 0] rfl) h
  have hl := lv_entry ([.ref (X.1 17), .int x1]) (n := 3) (Nat.le_of_ble_eq_true rfl)
  rw [lg_entry_eq]
  generalize (lg_sl ([.ref (X.1 17), .int x1]) ++ List.replicate (3 - (lg_sl ([.ref (X.1 17), .int x1])).length) Slot.unset).toArray = ls at hl ⊢
  have hl : lv_has ls 3 [(0, .ref (X.1 17)), (1, .int x1)] := hl
  obtain ⟨H, hH⟩ : ∃ H : Heap, H = s.heap := ⟨_, rfl⟩
  obtain ⟨locs, hlc⟩ : ∃ q : List Loc, q = [] := ⟨_, rfl⟩
  have hS : va_S (AX 75 X.1 s.heap.size) s.heap H locs := by rw [hH, hlc]; exact hS
  have hP : va_P D vwCl (CW X S) H := by rw [hH]; exact hP
  show W p l e (headSpec (Cond.code yX2_compare cX2_compare 3 none :: lw_gd) rm_X2_compare).room s m ([.ref (X.1 17), .int x1] : List Value).toArray below meth c s.heap [] 0 0 (MQ below (va_Qv post (gB D (CW X)) (AX 75 X.1 s.heap.size)) ([.ref (X.1 17), .int x1] : List Value).toArray s 0 0 (AX 75 X.1 s.heap.size)) _
  suffices hgo : W p l e (headSpec (Cond.code yX2_compare cX2_compare 3 none :: lw_gd) rm_X2_compare).room s m ([.ref (X.1 17), .int x1] : List Value).toArray below meth c H locs 0 0 (MQ below (va_Qv post (gB D (CW X)) (AX 75 X.1 s.heap.size)) ([.ref (X.1 17), .int x1] : List Value).toArray s 0 0 (AX 75 X.1 s.heap.size)) (F0 m 0 ls []) from by rw [hH, hlc] at hgo; exact hgo
  unfold p_X2_compare at h
  refine lv_iload_n hx hb dX2_compare_0 rfl (lv_at hl 1 rfl) ?_
  refine lv_aload_n hx hb dX2_compare_1 rfl (lv_at hl 0 rfl) ?_
  refine va_get (D := D) (ci := 2) (v := .int (S.1 17 0)) (C := RX2) (T := TX2) (N := 4) hx hb hT inX2 hown hK hP 17 cw_Planner rfl 0 (by decide) (hT _ wf_X2_21) (fun _ h9 => h9) rfl dX2_compare_2 ?_
  refine lv_icmp_le (tgt := 38) hx hb dX2_compare_5 (by decide) (fun c_1 => ?_) (fun c_1 => ?_)
  · have h := h.1 c_1
    exact W.vret hx hb hr (fun t ht hW => ⟨⟨S, rfl, h, gB_of ht hP⟩, hS.F ht⟩) hS.2.2 dX2_compare_38
  · have h := h.2 c_1
    refine lv_aload_n hx hb dX2_compare_8 rfl (lv_at hl 0 rfl) ?_
    refine lv_iload_n hx hb dX2_compare_9 rfl (lv_at hl 1 rfl) ?_
    refine va_put (D := D) (ci := 2) (v := .int x1) (ty := .int) (C := RX2) (T := TX2) (N := 4) hx hb hT inX2 tyX2 tyX2_ok nmX2 hown hK hP (gw_D hX) hS 17 cw_Planner rfl 0 (by decide) (hT _ wf_X2_21) (fun _ h9 => h9) rfl (by decide +kernel) rfl rfl (Nat.le_of_ble_eq_true rfl) dX2_compare_10 (fun H locs hP _ hS => ?_)
    have hP := cw_st (j := 0) (x := x1) rfl hP
    obtain ⟨S_2, eS_2⟩ : ∃ z : CS, z = sti S 17 0 x1 := ⟨_, rfl⟩
    rw [← eS_2] at hP
    have h := h S_2 eS_2
    refine lv_iconst (v := 0) hx hb dX2_compare_13 (by decide) ?_
    refine lv_istore_n (lv' := [(2, .int 0), (0, .ref (X.1 17)), (1, .int x1)]) hx hb dX2_compare_14 rfl hl (by decide) rfl (fun ls hl => ?_)
    obtain ⟨n1, h⟩ := h
    exact W15  n1 0 S_2 H locs ls hP hS (lv_sub hl [1, 0] rfl) h

abbrev rm_X2_goToNextRow : Room := { frames := 0, cells := 0, slots := 0, locals := 0 }
def q_X2_goToNextRow_4 (x1 : Int32) (x2 : Int32) (post : Int32 → CS → Prop) : Nat → Int32 → CS → Prop
  | 0, _, _ => False
  | n9 + 1, y3, S => (y3 < 0 → (post (-1) S)) ∧ (¬ (y3 < 0) → (vp_in y3 4 ∧ ((x2 ≤ ((S.1 18 y3.toNatClampNeg) + 1) → (vp_in y3 4 ∧ (∀ S_4 : CS, S_4 = sti S 18 y3.toNatClampNeg (-1) → (∀ x3_5 : Int32, x3_5 = y3 + (-1) → (q_X2_goToNextRow_4 x1 x2 post n9 x3_5 S_4))))) ∧ (¬ (x2 ≤ ((S.1 18 y3.toNatClampNeg) + 1)) → (vp_in y3 4 ∧ (∀ u_6 : Int32, u_6 = ((S.1 18 y3.toNatClampNeg) + 1) → (vp_in y3 4 ∧ (∀ S_7 : CS, S_7 = sti S 18 y3.toNatClampNeg u_6 → (post y3 S_7)))))))))
def p_X2_goToNextRow (S : CS) (x1 : Int32) (x2 : Int32) (post : Int32 → CS → Prop) : Prop := ∀ x3_1 : Int32, x3_1 = (x1 - 1) → (∃ n, q_X2_goToNextRow_4 x1 x2 post n x3_1 S)
set_option maxHeartbeats 4000000 in
set_option maxRecDepth 100000 in
theorem c_X2_goToNextRow (l : Launch) (D : va_G) (X : XE) (hX : Inj 75 X.1) (sz : Nat) (S : CS) (x1 : Int32) (x2 : Int32) (post : Int32 → CS → Prop) (h : p_X2_goToNextRow S x1 x2 post) : Met l yX2_goToNextRow (Cond.code yX2_goToNextRow cX2_goToNextRow 4 (some .int) :: lw_gd) rm_X2_goToNextRow (gPc D (tyX X) (CW X) (FXc X) (AX 75 X.1 sz) sz S [.ref (X.1 17), .int x1, .int x2]) (va_Qi post (gB D (CW X)) (AX 75 X.1 sz)) 0 0 (AX 75 X.1 sz) := by
  refine Met.ofW (cc := cX2_goToNextRow) (maxL := 4) (ret := (some .int)) (by decide) rfl ?_
  intro p e s m args below meth c s₁ B hml hv
  obtain ⟨rfl, hsz, hP, hK, hF⟩ := hv
  have hx := B.exec
  have hb := B.bytes
  have hr := B.returns
  have hts := atoms_spec (ws := (Cond.code yX2_goToNextRow cX2_goToNextRow 4 (some .int) :: lw_gd)) B.pre
  have hT : ∀ w ∈ lw_gd, w.before _ s = true := fun w h9 => hts w (List.mem_cons_of_mem _ h9)
  have hown : s.vm.findClass RX2 = some m.cls := findClass_of_methodNamed B.named
  have hlocks := B.notSynchronized
  subst hsz
  have hS : va_S (AX 75 X.1 s.heap.size) s.heap s.heap [] := va_S.rf
  have W4 : ∀ n1 : Nat, ∀ (y3 : Int32) (S : CS) (H : Heap) (locs : List Loc) (ls : Array Slot), va_P D vwCl (CW X S) H → va_S (AX 75 X.1 s.heap.size) s.heap H locs → lv_has ls 4 [(0, .ref (X.1 17)), (2, .int x2), (3, .int y3)] → q_X2_goToNextRow_4 x1 x2 post n1 y3 S → W p l e (headSpec (Cond.code yX2_goToNextRow cX2_goToNextRow 4 (some .int) :: lw_gd) rm_X2_goToNextRow).room s m ([.ref (X.1 17), .int x1, .int x2] : List Value).toArray below meth c H locs 0 0 (MQ below (va_Qi post (gB D (CW X)) (AX 75 X.1 s.heap.size)) ([.ref (X.1 17), .int x1, .int x2] : List Value).toArray s 0 0 (AX 75 X.1 s.heap.size)) (F0 m 4 ls []) := by
    intro n1
    induction n1 with
    | zero => intro y3 S H locs ls hP hS hl h; exact h.elim
    | succ n9 ih =>
      intro y3 S H locs ls hP hS hl h
      rw [q_X2_goToNextRow_4] at h
      refine lv_iload_n hx hb dX2_goToNextRow_4 rfl (lv_at hl 2 rfl) ?_
      refine lv_if_lt (tgt := 45) hx hb dX2_goToNextRow_5 (by decide) (fun c_2 => ?_) (fun c_2 => ?_)
      · have h := h.1 c_2
        refine lv_iconst (v := (-1)) hx hb dX2_goToNextRow_45 (by decide) ?_
        exact W.iret (v := (-1)) hx hb hr (fun t ht hW => ⟨⟨(-1), S, rfl, h, gB_of ht hP⟩, hS.F ht⟩) hS.2.2 dX2_goToNextRow_46
      · have h := h.2 c_2
        refine lv_aload_n hx hb dX2_goToNextRow_8 rfl (lv_at hl 0 rfl) ?_
        refine va_get (D := D) (ci := 2) (v := .ref (X.1 18)) (C := RX2) (T := TX2) (N := 4) hx hb hT inX2 hown hK hP 17 cw_Planner rfl 1 (by decide) (hT _ wf_X2_11) (fun _ h9 => h9) rfl dX2_goToNextRow_9 ?_
        refine lv_iload_n hx hb dX2_goToNextRow_12 rfl (lv_at hl 2 rfl) ?_
        obtain ⟨hi, h⟩ := h
        refine g_iald hx hb hK hP 18 cw_18 rfl hi y3.toNatClampNeg rfl dX2_goToNextRow_13 ?_
        refine lv_iconst (v := 1) hx hb dX2_goToNextRow_14 (by decide) ?_
        refine lv_iadd hx hb dX2_goToNextRow_15 ?_
        refine lv_iload_n hx hb dX2_goToNextRow_16 rfl (lv_at hl 1 rfl) ?_
        refine lv_icmp_ge (tgt := 32) hx hb dX2_goToNextRow_17 (by decide) (fun c_3 => ?_) (fun c_3 => ?_)
        · have h := h.1 c_3
          refine lv_aload_n hx hb dX2_goToNextRow_32 rfl (lv_at hl 0 rfl) ?_
          refine va_get (D := D) (ci := 2) (v := .ref (X.1 18)) (C := RX2) (T := TX2) (N := 4) hx hb hT inX2 hown hK hP 17 cw_Planner rfl 1 (by decide) (hT _ wf_X2_11) (fun _ h9 => h9) rfl dX2_goToNextRow_33 ?_
          refine lv_iload_n hx hb dX2_goToNextRow_36 rfl (lv_at hl 2 rfl) ?_
          refine lv_iconst (v := (-1)) hx hb dX2_goToNextRow_37 (by decide) ?_
          obtain ⟨hi, h⟩ := h
          refine g_iast hx hb hK hP (gw_D hX) hS 18 cw_18 rfl hi y3.toNatClampNeg rfl dX2_goToNextRow_38 (fun H locs hP hS => ?_)
          have hP := cw_st (j := y3.toNatClampNeg) (x := (-1)) rfl hP
          obtain ⟨S_4, eS_4⟩ : ∃ z : CS, z = sti S 18 y3.toNatClampNeg (-1) := ⟨_, rfl⟩
          rw [← eS_4] at hP
          have h := h S_4 eS_4
          obtain ⟨x3_5, ex3_5⟩ : ∃ z : Int32, z = y3 + (-1) := ⟨_, rfl⟩
          refine lv_iinc (v := x3_5) (lv' := [(3, .int x3_5), (0, .ref (X.1 17)), (2, .int x2)]) hx hb dX2_goToNextRow_39 hl (k := 2) rfl (by rw [ex3_5]; rfl) (by decide) rfl (fun ls hl => ?_)
          have h := h x3_5 ex3_5
          refine lv_goto (tgt := 4) hx hb dX2_goToNextRow_42 (by decide) ?_
          exact ih x3_5 S_4 H locs ls hP hS (lv_sub hl [1, 2, 0] rfl) h
        · have h := h.2 c_3
          refine lv_aload_n hx hb dX2_goToNextRow_20 rfl (lv_at hl 0 rfl) ?_
          refine va_get (D := D) (ci := 2) (v := .ref (X.1 18)) (C := RX2) (T := TX2) (N := 4) hx hb hT inX2 hown hK hP 17 cw_Planner rfl 1 (by decide) (hT _ wf_X2_11) (fun _ h9 => h9) rfl dX2_goToNextRow_21 ?_
          refine lv_iload_n hx hb dX2_goToNextRow_24 rfl (lv_at hl 2 rfl) ?_
          refine lv_dup2_11 hx hb dX2_goToNextRow_25 rfl rfl ?_
          obtain ⟨hi, h⟩ := h
          refine g_iald hx hb hK hP 18 cw_18 rfl hi y3.toNatClampNeg rfl dX2_goToNextRow_26 ?_
          refine lv_iconst (v := 1) hx hb dX2_goToNextRow_27 (by decide) ?_
          refine lv_iadd hx hb dX2_goToNextRow_28 ?_
          refine lv_topi (fun u_6 eu_6 => ?_)
          have h := h u_6 eu_6
          obtain ⟨hi, h⟩ := h
          refine g_iast hx hb hK hP (gw_D hX) hS 18 cw_18 rfl hi y3.toNatClampNeg rfl dX2_goToNextRow_29 (fun H locs hP hS => ?_)
          have hP := cw_st (j := y3.toNatClampNeg) (x := u_6) rfl hP
          obtain ⟨S_7, eS_7⟩ : ∃ z : CS, z = sti S 18 y3.toNatClampNeg u_6 := ⟨_, rfl⟩
          rw [← eS_7] at hP
          have h := h S_7 eS_7
          refine lv_iload_n hx hb dX2_goToNextRow_30 rfl (lv_at hl 2 rfl) ?_
          exact W.iret (v := y3) hx hb hr (fun t ht hW => ⟨⟨y3, S_7, rfl, h, gB_of ht hP⟩, hS.F ht⟩) hS.2.2 dX2_goToNextRow_31
  have hl := lv_entry ([.ref (X.1 17), .int x1, .int x2]) (n := 4) (Nat.le_of_ble_eq_true rfl)
  rw [lg_entry_eq]
  generalize (lg_sl ([.ref (X.1 17), .int x1, .int x2]) ++ List.replicate (4 - (lg_sl ([.ref (X.1 17), .int x1, .int x2])).length) Slot.unset).toArray = ls at hl ⊢
  have hl : lv_has ls 4 [(0, .ref (X.1 17)), (1, .int x1), (2, .int x2)] := hl
  obtain ⟨H, hH⟩ : ∃ H : Heap, H = s.heap := ⟨_, rfl⟩
  obtain ⟨locs, hlc⟩ : ∃ q : List Loc, q = [] := ⟨_, rfl⟩
  have hS : va_S (AX 75 X.1 s.heap.size) s.heap H locs := by rw [hH, hlc]; exact hS
  have hP : va_P D vwCl (CW X S) H := by rw [hH]; exact hP
  show W p l e (headSpec (Cond.code yX2_goToNextRow cX2_goToNextRow 4 (some .int) :: lw_gd) rm_X2_goToNextRow).room s m ([.ref (X.1 17), .int x1, .int x2] : List Value).toArray below meth c s.heap [] 0 0 (MQ below (va_Qi post (gB D (CW X)) (AX 75 X.1 s.heap.size)) ([.ref (X.1 17), .int x1, .int x2] : List Value).toArray s 0 0 (AX 75 X.1 s.heap.size)) _
  suffices hgo : W p l e (headSpec (Cond.code yX2_goToNextRow cX2_goToNextRow 4 (some .int) :: lw_gd) rm_X2_goToNextRow).room s m ([.ref (X.1 17), .int x1, .int x2] : List Value).toArray below meth c H locs 0 0 (MQ below (va_Qi post (gB D (CW X)) (AX 75 X.1 s.heap.size)) ([.ref (X.1 17), .int x1, .int x2] : List Value).toArray s 0 0 (AX 75 X.1 s.heap.size)) (F0 m 0 ls []) from by rw [hH, hlc] at hgo; exact hgo
  unfold p_X2_goToNextRow at h
  refine lv_iload_n hx hb dX2_goToNextRow_0 rfl (lv_at hl 1 rfl) ?_
  refine lv_iconst (v := 1) hx hb dX2_goToNextRow_1 (by decide) ?_
  refine lv_isub hx hb dX2_goToNextRow_2 ?_
  refine lv_topi (fun x3_1 ex3_1 => ?_)
  have h := h x3_1 ex3_1
  refine lv_istore_n (lv' := [(3, .int x3_1), (0, .ref (X.1 17)), (1, .int x1), (2, .int x2)]) hx hb dX2_goToNextRow_3 rfl hl (by decide) rfl (fun ls hl => ?_)
  obtain ⟨n1, h⟩ := h
  exact W4  n1 x3_1 S H locs ls hP hS (lv_sub hl [1, 3, 0] rfl) h
