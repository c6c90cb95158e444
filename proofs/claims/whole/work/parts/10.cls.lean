abbrev rm_X0_lengthOf : Room := { frames := 0, cells := 0, slots := 0, locals := 0 }
def p_X0_lengthOf (S : CS) (b : Nat) (x1 : Int32) (post : Int32 → CS → Prop) : Prop := (x1 < 0 → (post 0 S)) ∧ (¬ (x1 < 0) → ((x1 < 8 → (vp_in x1 8 ∧ (post (S.1 (bl b) x1.toNatClampNeg) S))) ∧ (¬ (x1 < 8) → (post 0 S))))
set_option maxHeartbeats 4000000 in
set_option maxRecDepth 100000 in
theorem c_X0_lengthOf (l : Launch) (D : va_G) (X : XE) (hX : Inj 75 X.1) (sz : Nat) (S : CS) (b : Nat) (hyp_b : b < 14) (x1 : Int32) (post : Int32 → CS → Prop) (h : p_X0_lengthOf S b x1 post) : Met l yX0_lengthOf (Cond.code yX0_lengthOf cX0_lengthOf 2 (some .int) :: lw_gd) rm_X0_lengthOf (gPc D (tyX X) (CW X) (FXc X) (AX 75 X.1 sz) sz S [.ref (X.1 (bo b)), .int x1]) (va_Qi post (gB D (CW X)) (AX 75 X.1 sz)) 0 0 (AX 75 X.1 sz) := by
  refine Met.ofW (cc := cX0_lengthOf) (maxL := 2) (ret := (some .int)) (by decide) rfl ?_
  intro p e s m args below meth c s₁ B hml hv
  obtain ⟨rfl, hsz, hP, hK, hF⟩ := hv
  have hx := B.exec
  have hb := B.bytes
  have hr := B.returns
  have hts := atoms_spec (ws := (Cond.code yX0_lengthOf cX0_lengthOf 2 (some .int) :: lw_gd)) B.pre
  have hT : ∀ w ∈ lw_gd, w.before _ s = true := fun w h9 => hts w (List.mem_cons_of_mem _ h9)
  have hown : s.vm.findClass RX0 = some m.cls := findClass_of_methodNamed B.named
  have hlocks := B.notSynchronized
  subst hsz
  have hS : va_S (AX 75 X.1 s.heap.size) s.heap s.heap [] := va_S.rf
  have hl := lv_entry ([.ref (X.1 (bo b)), .int x1]) (n := 2) (Nat.le_of_ble_eq_true rfl)
  rw [lg_entry_eq]
  generalize (lg_sl ([.ref (X.1 (bo b)), .int x1]) ++ List.replicate (2 - (lg_sl ([.ref (X.1 (bo b)), .int x1])).length) Slot.unset).toArray = ls at hl ⊢
  have hl : lv_has ls 2 [(0, .ref (X.1 (bo b))), (1, .int x1)] := hl
  obtain ⟨H, hH⟩ : ∃ H : Heap, H = s.heap := ⟨_, rfl⟩
  obtain ⟨locs, hlc⟩ : ∃ q : List Loc, q = [] := ⟨_, rfl⟩
  have hS : va_S (AX 75 X.1 s.heap.size) s.heap H locs := by rw [hH, hlc]; exact hS
  have hP : va_P D vwCl (CW X S) H := by rw [hH]; exact hP
  show W p l e (headSpec (Cond.code yX0_lengthOf cX0_lengthOf 2 (some .int) :: lw_gd) rm_X0_lengthOf).room s m ([.ref (X.1 (bo b)), .int x1] : List Value).toArray below meth c s.heap [] 0 0 (MQ below (va_Qi post (gB D (CW X)) (AX 75 X.1 s.heap.size)) ([.ref (X.1 (bo b)), .int x1] : List Value).toArray s 0 0 (AX 75 X.1 s.heap.size)) _
  suffices hgo : W p l e (headSpec (Cond.code yX0_lengthOf cX0_lengthOf 2 (some .int) :: lw_gd) rm_X0_lengthOf).room s m ([.ref (X.1 (bo b)), .int x1] : List Value).toArray below meth c H locs 0 0 (MQ below (va_Qi post (gB D (CW X)) (AX 75 X.1 s.heap.size)) ([.ref (X.1 (bo b)), .int x1] : List Value).toArray s 0 0 (AX 75 X.1 s.heap.size)) (F0 m 0 ls []) from by rw [hH, hlc] at hgo; exact hgo
  unfold p_X0_lengthOf at h
  refine lv_iload_n hx hb dX0_lengthOf_0 rfl (lv_at hl 1 rfl) ?_
  refine lv_if_lt (tgt := 10) hx hb dX0_lengthOf_1 (by decide) (fun c_1 => ?_) (fun c_1 => ?_)
  · have h := h.1 c_1
    refine lv_iconst (v := 0) hx hb dX0_lengthOf_10 (by decide) ?_
    refine lv_goto (tgt := 20) hx hb dX0_lengthOf_11 (by decide) ?_
    exact W.iret (v := 0) hx hb hr (fun t ht hW => ⟨⟨0, S, rfl, h, gB_of ht hP⟩, hS.F ht⟩) hS.2.2 dX0_lengthOf_20
  · have h := h.2 c_1
    refine lv_iload_n hx hb dX0_lengthOf_4 rfl (lv_at hl 1 rfl) ?_
    refine lv_bipush (v := 8) hx hb dX0_lengthOf_5 (by decide) ?_
    refine lv_icmp_lt (tgt := 14) hx hb dX0_lengthOf_7 (by decide) (fun c_2 => ?_) (fun c_2 => ?_)
    · have h := h.1 c_2
      refine lv_aload_n hx hb dX0_lengthOf_14 rfl (lv_at hl 0 rfl) ?_
      refine va_get (D := D) (ci := 0) (v := .ref (X.1 (bl b))) (C := RX0) (T := TX0) (N := 2) hx hb hT inX0 hown hK hP (bo b) (cw_Besom (b := b) (by omega)) rfl 0 (by decide) (hT _ wf_X0_9) (fun _ h9 => h9) rfl dX0_lengthOf_15 ?_
      refine lv_iload_n hx hb dX0_lengthOf_18 rfl (lv_at hl 1 rfl) ?_
      obtain ⟨hi, h⟩ := h
      refine g_iald hx hb hK hP (bl b) (cw_bl (b := b) (by omega)) rfl hi x1.toNatClampNeg rfl dX0_lengthOf_19 ?_
      exact W.iret (v := S.1 (bl b) x1.toNatClampNeg) hx hb hr (fun t ht hW => ⟨⟨S.1 (bl b) x1.toNatClampNeg, S, rfl, h, gB_of ht hP⟩, hS.F ht⟩) hS.2.2 dX0_lengthOf_20
    · have h := h.2 c_2
      refine lv_iconst (v := 0) hx hb dX0_lengthOf_10 (by decide) ?_
      refine lv_goto (tgt := 20) hx hb dX0_lengthOf_11 (by decide) ?_
      exact W.iret (v := 0) hx hb hr (fun t ht hW => ⟨⟨0, S, rfl, h, gB_of ht hP⟩, hS.F ht⟩) hS.2.2 dX0_lengthOf_20

abbrev rm_X0_renew : Room := { frames := 0, cells := 0, slots := 0, locals := 0 }
def q_X0_renew_2 (b : Nat) (x1 : Int32) (post : CS → Prop) : Nat → Int32 → CS → Prop
  | 0, _, _ => False
  | n9 + 1, y2, S => (8 ≤ y2 → (∀ S_2 : CS, S_2 = sti S (bo b) 1 0 → (post S_2))) ∧ (¬ (8 ≤ y2) → (vp_in y2 8 ∧ (∀ S_3 : CS, S_3 = sti S (bl b) y2.toNatClampNeg x1 → (∀ x2_4 : Int32, x2_4 = y2 + 1 → (q_X0_renew_2 b x1 post n9 x2_4 S_3)))))
def p_X0_renew (S : CS) (b : Nat) (x1 : Int32) (post : CS → Prop) : Prop := ∃ n, q_X0_renew_2 b x1 post n 0 S
set_option maxHeartbeats 4000000 in
set_option maxRecDepth 100000 in
theorem c_X0_renew (l : Launch) (D : va_G) (X : XE) (hX : Inj 75 X.1) (sz : Nat) (S : CS) (b : Nat) (hyp_b : b < 14) (x1 : Int32) (post : CS → Prop) (h : p_X0_renew S b x1 post) : Met l yX0_renew (Cond.code yX0_renew cX0_renew 3 none :: lw_gd) rm_X0_renew (gPc D (tyX X) (CW X) (FXc X) (AX 75 X.1 sz) sz S [.ref (X.1 (bo b)), .int x1]) (va_Qv post (gB D (CW X)) (AX 75 X.1 sz)) 0 0 (AX 75 X.1 sz) := by
  refine Met.ofW (cc := cX0_renew) (maxL := 3) (ret := none) (by decide) rfl ?_
  intro p e s m args below meth c s₁ B hml hv
  obtain ⟨rfl, hsz, hP, hK, hF⟩ := hv
  have hx := B.exec
  have hb := B.bytes
  have hr := B.returns
  have hts := atoms_spec (ws := (Cond.code yX0_renew cX0_renew 3 none :: lw_gd)) B.pre
  have hT : ∀ w ∈ lw_gd, w.before _ s = true := fun w h9 => hts w (List.mem_cons_of_mem _ h9)
  have hown : s.vm.findClass RX0 = some m.cls := findClass_of_methodNamed B.named
  have hlocks := B.notSynchronized
  subst hsz
  have hS : va_S (AX 75 X.1 s.heap.size) s.heap s.heap [] := va_S.rf
  have W2 : ∀ n1 : Nat, ∀ (y2 : Int32) (S : CS) (H : Heap) (locs : List Loc) (ls : Array Slot), va_P D vwCl (CW X S) H → va_S (AX 75 X.1 s.heap.size) s.heap H locs → lv_has ls 3 [(0, .ref (X.1 (bo b))), (1, .int x1), (2, .int y2)] → q_X0_renew_2 b x1 post n1 y2 S → W p l e (headSpec (Cond.code yX0_renew cX0_renew 3 none :: lw_gd) rm_X0_renew).room s m ([.ref (X.1 (bo b)), .int x1] : List Value).toArray below meth c H locs 0 0 (MQ below (va_Qv post (gB D (CW X)) (AX 75 X.1 s.heap.size)) ([.ref (X.1 (bo b)), .int x1] : List Value).toArray s 0 0 (AX 75 X.1 s.heap.size)) (F0 m 2 ls []) := by
    intro n1
    induction n1 with
    | zero => intro y2 S H locs ls hP hS hl h; exact h.elim
    | succ n9 ih =>
      intro y2 S H locs ls hP hS hl h
      rw [q_X0_renew_2] at h
      refine lv_iload_n hx hb dX0_renew_2 rfl (lv_at hl 2 rfl) ?_
      refine lv_bipush (v := 8) hx hb dX0_renew_3 (by decide) ?_
      refine lv_icmp_ge (tgt := 21) hx hb dX0_renew_5 (by decide) (fun c_1 => ?_) (fun c_1 => ?_)
      · have h := h.1 c_1
        refine lv_aload_n hx hb dX0_renew_21 rfl (lv_at hl 0 rfl) ?_
        refine lv_iconst (v := 0) hx hb dX0_renew_22 (by decide) ?_
        refine va_put (D := D) (ci := 0) (v := .int 0) (ty := .int) (C := RX0) (T := TX0) (N := 2) hx hb hT inX0 tyX0 tyX0_ok nmX0 hown hK hP (gw_D hX) hS (bo b) (cw_Besom (b := b) (by omega)) rfl 1 (by decide) (hT _ wf_X0_13) (fun _ h9 => h9) rfl (by decide +kernel) rfl rfl (Nat.le_of_ble_eq_true rfl) dX0_renew_23 (fun H locs hP _ hS => ?_)
        have hP := cw_st (j := 1) (x := 0) (cce_bo X _ (b := b) (by omega) _) hP
        obtain ⟨S_2, eS_2⟩ : ∃ z : CS, z = sti S (bo b) 1 0 := ⟨_, rfl⟩
        rw [← eS_2] at hP
        have h := h S_2 eS_2
        exact W.vret hx hb hr (fun t ht hW => ⟨⟨S_2, rfl, h, gB_of ht hP⟩, hS.F ht⟩) hS.2.2 dX0_renew_26
      · have h := h.2 c_1
        refine lv_aload_n hx hb dX0_renew_8 rfl (lv_at hl 0 rfl) ?_
        refine va_get (D := D) (ci := 0) (v := .ref (X.1 (bl b))) (C := RX0) (T := TX0) (N := 2) hx hb hT inX0 hown hK hP (bo b) (cw_Besom (b := b) (by omega)) rfl 0 (by decide) (hT _ wf_X0_9) (fun _ h9 => h9) rfl dX0_renew_9 ?_
        refine lv_iload_n hx hb dX0_renew_12 rfl (lv_at hl 2 rfl) ?_
        refine lv_iload_n hx hb dX0_renew_13 rfl (lv_at hl 1 rfl) ?_
        obtain ⟨hi, h⟩ := h
        refine g_iast hx hb hK hP (gw_D hX) hS (bl b) (cw_bl (b := b) (by omega)) rfl hi y2.toNatClampNeg rfl dX0_renew_14 (fun H locs hP hS => ?_)
        have hP := cw_st (j := y2.toNatClampNeg) (x := x1) (cce_bl X _ (b := b) (by omega) _) hP
        obtain ⟨S_3, eS_3⟩ : ∃ z : CS, z = sti S (bl b) y2.toNatClampNeg x1 := ⟨_, rfl⟩
        rw [← eS_3] at hP
        have h := h S_3 eS_3
        obtain ⟨x2_4, ex2_4⟩ : ∃ z : Int32, z = y2 + 1 := ⟨_, rfl⟩
        refine lv_iinc (v := x2_4) (lv' := [(2, .int x2_4), (0, .ref (X.1 (bo b))), (1, .int x1)]) hx hb dX0_renew_15 hl (k := 2) rfl (by rw [ex2_4]; rfl) (by decide) rfl (fun ls hl => ?_)
        have h := h x2_4 ex2_4
        refine lv_goto (tgt := 2) hx hb dX0_renew_18 (by decide) ?_
        exact ih x2_4 S_3 H locs ls hP hS (lv_sub hl [1, 2, 0] rfl) h
  have hl := lv_entry ([.ref (X.1 (bo b)), .int x1]) (n := 3) (Nat.le_of_ble_eq_true rfl)
  rw [lg_entry_eq]
  generalize (lg_sl ([.ref (X.1 (bo b)), .int x1]) ++ List.replicate (3 - (lg_sl ([.ref (X.1 (bo b)), .int x1])).length) Slot.unset).toArray = ls at hl ⊢
  have hl : lv_has ls 3 [(0, .ref (X.1 (bo b))), (1, .int x1)] := hl
  obtain ⟨H, hH⟩ : ∃ H : Heap, H = s.heap := ⟨_, rfl⟩
  obtain ⟨locs, hlc⟩ : ∃ q : List Loc, q = [] := ⟨_, rfl⟩
  have hS : va_S (AX 75 X.1 s.heap.size) s.heap H locs := by rw [hH, hlc]; exact hS
  have hP : va_P D vwCl (CW X S) H := by rw [hH]; exact hP
  show W p l e (headSpec (Cond.code yX0_renew cX0_renew 3 none :: lw_gd) rm_X0_renew).room s m ([.ref (X.1 (bo b)), .int x1] : List Value).toArray below meth c s.heap [] 0 0 (MQ below (va_Qv post (gB D (CW X)) (AX 75 X.1 s.heap.size)) ([.ref (X.1 (bo b)), .int x1] : List Value).toArray s 0 0 (AX 75 X.1 s.heap.size)) _
  suffices hgo : W p l e (headSpec (Cond.code yX0_renew cX0_renew 3 none :: lw_gd) rm_X0_renew).room s m ([.ref (X.1 (bo b)), .int x1] : List Value).toArray below meth c H locs 0 0 (MQ below (va_Qv post (gB D (CW X)) (AX 75 X.1 s.heap.size)) ([.ref (X.1 (bo b)), .int x1] : List Value).toArray s 0 0 (AX 75 X.1 s.heap.size)) (F0 m 0 ls []) from by rw [hH, hlc] at hgo; exact hgo
  unfold p_X0_renew at h
  refine lv_iconst (v := 0) hx hb dX0_renew_0 (by decide) ?_
  refine lv_istore_n (lv' := [(2, .int 0), (0, .ref (X.1 (bo b))), (1, .int x1)]) hx hb dX0_renew_1 rfl hl (by decide) rfl (fun ls hl => ?_)
  obtain ⟨n1, h⟩ := h
  exact W2  n1 0 S H locs ls hP hS (lv_sub hl [1, 2, 0] rfl) h

abbrev rm_X0_setAs : Room := { frames := 1, cells := 0, slots := 0, locals := 21 }
def q_X0_setAs_2 (b : Nat) (b1 : Nat) (post : CS → Prop) : Nat → Int32 → CS → Prop
  | 0, _, _ => False
  | n9 + 1, y2, S => (8 ≤ y2 → (∀ u_2 : Int32, u_2 = S.1 (bo b1) 1 → (∀ S_3 : CS, S_3 = sti S (bo b) 1 u_2 → (post S_3)))) ∧ (¬ (8 ≤ y2) → (p_X0_lengthOf S b1 y2 (fun r_5 S_4 => (vp_in y2 8 ∧ (∀ S_6 : CS, S_6 = sti S_4 (bl b) y2.toNatClampNeg r_5 → (∀ x2_7 : Int32, x2_7 = y2 + 1 → (q_X0_setAs_2 b b1 post n9 x2_7 S_6)))))))
def p_X0_setAs (S : CS) (b : Nat) (b1 : Nat) (post : CS → Prop) : Prop := ∃ n, q_X0_setAs_2 b b1 post n 0 S
set_option maxHeartbeats 4000000 in
set_option maxRecDepth 100000 in
theorem c_X0_setAs (l : Launch) (D : va_G) (X : XE) (hX : Inj 75 X.1) (sz : Nat) (S : CS) (b : Nat) (hyp_b : b < 14) (b1 : Nat) (hyp_b1 : b1 < 14) (post : CS → Prop) (h : p_X0_setAs S b b1 post) : Met l yX0_setAs (Cond.code yX0_setAs cX0_setAs 3 none :: lw_gd) rm_X0_setAs (gPc D (tyX X) (CW X) (FXc X) (AX 75 X.1 sz) sz S [.ref (X.1 (bo b)), .ref (X.1 (bo b1))]) (va_Qv post (gB D (CW X)) (AX 75 X.1 sz)) 0 0 (AX 75 X.1 sz) := by
  refine Met.ofW (cc := cX0_setAs) (maxL := 3) (ret := none) (by decide) rfl ?_
  intro p e s m args below meth c s₁ B hml hv
  obtain ⟨rfl, hsz, hP, hK, hF⟩ := hv
  have hx := B.exec
  have hb := B.bytes
  have hr := B.returns
  have hts := atoms_spec (ws := (Cond.code yX0_setAs cX0_setAs 3 none :: lw_gd)) B.pre
  have hT : ∀ w ∈ lw_gd, w.before _ s = true := fun w h9 => hts w (List.mem_cons_of_mem _ h9)
  have hown : s.vm.findClass RX0 = some m.cls := findClass_of_methodNamed B.named
  have hlocks := B.notSynchronized
  subst hsz
  have hS : va_S (AX 75 X.1 s.heap.size) s.heap s.heap [] := va_S.rf
  have W2 : ∀ n1 : Nat, ∀ (y2 : Int32) (S : CS) (H : Heap) (locs : List Loc) (ls : Array Slot), va_P D vwCl (CW X S) H → va_S (AX 75 X.1 s.heap.size) s.heap H locs → lv_has ls 3 [(0, .ref (X.1 (bo b))), (1, .ref (X.1 (bo b1))), (2, .int y2)] → q_X0_setAs_2 b b1 post n1 y2 S → W p l e (headSpec (Cond.code yX0_setAs cX0_setAs 3 none :: lw_gd) rm_X0_setAs).room s m ([.ref (X.1 (bo b)), .ref (X.1 (bo b1))] : List Value).toArray below meth c H locs 0 0 (MQ below (va_Qv post (gB D (CW X)) (AX 75 X.1 s.heap.size)) ([.ref (X.1 (bo b)), .ref (X.1 (bo b1))] : List Value).toArray s 0 0 (AX 75 X.1 s.heap.size)) (F0 m 2 ls []) := by
    intro n1
    induction n1 with
    | zero => intro y2 S H locs ls hP hS hl h; exact h.elim
    | succ n9 ih =>
      intro y2 S H locs ls hP hS hl h
      rw [q_X0_setAs_2] at h
      refine lv_iload_n hx hb dX0_setAs_2 rfl (lv_at hl 2 rfl) ?_
      refine lv_bipush (v := 8) hx hb dX0_setAs_3 (by decide) ?_
      refine lv_icmp_ge (tgt := 25) hx hb dX0_setAs_5 (by decide) (fun c_1 => ?_) (fun c_1 => ?_)
      · have h := h.1 c_1
        refine lv_aload_n hx hb dX0_setAs_25 rfl (lv_at hl 0 rfl) ?_
        refine lv_aload_n hx hb dX0_setAs_26 rfl (lv_at hl 1 rfl) ?_
        refine va_get (D := D) (ci := 0) (v := .int (S.1 (bo b1) 1)) (C := RX0) (T := TX0) (N := 2) hx hb hT inX0 hown hK hP (bo b1) (cw_Besom (b := b1) (by omega)) rfl 1 (by decide) (hT _ wf_X0_13) (fun _ h9 => h9) rfl dX0_setAs_27 ?_
        refine lv_topi (fun u_2 eu_2 => ?_)
        have h := h u_2 eu_2
        refine va_put (D := D) (ci := 0) (v := .int u_2) (ty := .int) (C := RX0) (T := TX0) (N := 2) hx hb hT inX0 tyX0 tyX0_ok nmX0 hown hK hP (gw_D hX) hS (bo b) (cw_Besom (b := b) (by omega)) rfl 1 (by decide) (hT _ wf_X0_13) (fun _ h9 => h9) rfl (by decide +kernel) rfl rfl (Nat.le_of_ble_eq_true rfl) dX0_setAs_30 (fun H locs hP _ hS => ?_)
        have hP := cw_st (j := 1) (x := u_2) (cce_bo X _ (b := b) (by omega) _) hP
        obtain ⟨S_3, eS_3⟩ : ∃ z : CS, z = sti S (bo b) 1 u_2 := ⟨_, rfl⟩
        rw [← eS_3] at hP
        have h := h S_3 eS_3
        exact W.vret hx hb hr (fun t ht hW => ⟨⟨S_3, rfl, h, gB_of ht hP⟩, hS.F ht⟩) hS.2.2 dX0_setAs_33
      · have h := h.2 c_1
        refine lv_aload_n hx hb dX0_setAs_8 rfl (lv_at hl 0 rfl) ?_
        refine va_get (D := D) (ci := 0) (v := .ref (X.1 (bl b))) (C := RX0) (T := TX0) (N := 2) hx hb hT inX0 hown hK hP (bo b) (cw_Besom (b := b) (by omega)) rfl 0 (by decide) (hT _ wf_X0_9) (fun _ h9 => h9) rfl dX0_setAs_9 ?_
        refine lv_iload_n hx hb dX0_setAs_12 rfl (lv_at hl 2 rfl) ?_
        refine lv_aload_n hx hb dX0_setAs_13 rfl (lv_at hl 1 rfl) ?_
        refine lv_iload_n hx hb dX0_setAs_14 rfl (lv_at hl 2 rfl) ?_
        refine cVi (As := [.int y2]) (rest := [.int y2, .ref (X.1 (bl b))]) hX ⟨hx, hb, hml, hown, hT⟩ (c_X0_lengthOf l D X hX H.size S b1 hyp_b1 y2 _ h) (gd_V wl_X0_17 wi_X0_lengthOf wv_X0_lengthOf wn_X0 wc_X0_lengthOf) rfl hd_X0_lengthOf ⟨rfl, rfl⟩ ⟨Nat.le_of_ble_eq_true rfl, Nat.le_of_ble_eq_true rfl⟩ (va_recv hK hP (ci := 0) (q0 := (bo b1)) rfl (cw_Besom (b := b1) (by omega))) hK hP hS hF rfl hl.1 rfl (Nat.le_of_ble_eq_true rfl) dX0_setAs_15 ⟨Nat.zero_le _, Nat.zero_le _⟩ (fun r_5 S_4 H locs h hP hS => ?_)
        obtain ⟨hi, h⟩ := h
        refine g_iast hx hb hK hP (gw_D hX) hS (bl b) (cw_bl (b := b) (by omega)) rfl hi y2.toNatClampNeg rfl dX0_setAs_18 (fun H locs hP hS => ?_)
        have hP := cw_st (j := y2.toNatClampNeg) (x := r_5) (cce_bl X _ (b := b) (by omega) _) hP
        obtain ⟨S_6, eS_6⟩ : ∃ z : CS, z = sti S_4 (bl b) y2.toNatClampNeg r_5 := ⟨_, rfl⟩
        rw [← eS_6] at hP
        have h := h S_6 eS_6
        obtain ⟨x2_7, ex2_7⟩ : ∃ z : Int32, z = y2 + 1 := ⟨_, rfl⟩
        refine lv_iinc (v := x2_7) (lv' := [(2, .int x2_7), (0, .ref (X.1 (bo b))), (1, .ref (X.1 (bo b1)))]) hx hb dX0_setAs_19 hl (k := 2) rfl (by rw [ex2_7]; rfl) (by decide) rfl (fun ls hl => ?_)
        have h := h x2_7 ex2_7
        refine lv_goto (tgt := 2) hx hb dX0_setAs_22 (by decide) ?_
        exact ih x2_7 S_6 H locs ls hP hS (lv_sub hl [1, 2, 0] rfl) h
  have hl := lv_entry ([.ref (X.1 (bo b)), .ref (X.1 (bo b1))]) (n := 3) (Nat.le_of_ble_eq_true rfl)
  rw [lg_entry_eq]
  generalize (lg_sl ([.ref (X.1 (bo b)), .ref (X.1 (bo b1))]) ++ List.replicate (3 - (lg_sl ([.ref (X.1 (bo b)), .ref (X.1 (bo b1))])).length) Slot.unset).toArray = ls at hl ⊢
  have hl : lv_has ls 3 [(0, .ref (X.1 (bo b))), (1, .ref (X.1 (bo b1)))] := hl
  obtain ⟨H, hH⟩ : ∃ H : Heap, H = s.heap := ⟨_, rfl⟩
  obtain ⟨locs, hlc⟩ : ∃ q : List Loc, q = [] := ⟨_, rfl⟩
  have hS : va_S (AX 75 X.1 s.heap.size) s.heap H locs := by rw [hH, hlc]; exact hS
  have hP : va_P D vwCl (CW X S) H := by rw [hH]; exact hP
  show W p l e (headSpec (Cond.code yX0_setAs cX0_setAs 3 none :: lw_gd) rm_X0_setAs).room s m ([.ref (X.1 (bo b)), .ref (X.1 (bo b1))] : List Value).toArray below meth c s.heap [] 0 0 (MQ below (va_Qv post (gB D (CW X)) (AX 75 X.1 s.heap.size)) ([.ref (X.1 (bo b)), .ref (X.1 (bo b1))] : List Value).toArray s 0 0 (AX 75 X.1 s.heap.size)) _
  suffices hgo : W p l e (headSpec (Cond.code yX0_setAs cX0_setAs 3 none :: lw_gd) rm_X0_setAs).room s m ([.ref (X.1 (bo b)), .ref (X.1 (bo b1))] : List Value).toArray below meth c H locs 0 0 (MQ below (va_Qv post (gB D (CW X)) (AX 75 X.1 s.heap.size)) ([.ref (X.1 (bo b)), .ref (X.1 (bo b1))] : List Value).toArray s 0 0 (AX 75 X.1 s.heap.size)) (F0 m 0 ls []) from by rw [hH, hlc] at hgo; exact hgo
  unfold p_X0_setAs at h
  refine lv_iconst (v := 0) hx hb dX0_setAs_0 (by decide) ?_
  refine lv_istore_n (lv' := [(2, .int 0), (0, .ref (X.1 (bo b))), (1, .ref (X.1 (bo b1)))]) hx hb dX0_setAs_1 rfl hl (by decide) rfl (fun ls hl => ?_)
  obtain ⟨n1, h⟩ := h
  exact W2  n1 0 S H locs ls hP hS (lv_sub hl [1, 2, 0] rfl) h

abbrev rm_J9_floorMod_7cf53 : Room := { frames := 0, cells := 0, slots := 0, locals := 0 }
def p_J9_floorMod_7cf53 (S : CS) (x0 : Int32) (x1 : Int32) (post : Int32 → CS → Prop) : Prop := (¬ x1 = 0) ∧ (∀ x2_1 : Int32, x2_1 = (x0 - x0 / x1 * x1) → ((0 ≤ (x0 ^^^ x1) → (post x2_1 S)) ∧ (¬ (0 ≤ (x0 ^^^ x1)) → ((x2_1 = 0 → (post x2_1 S)) ∧ (¬ (x2_1 = 0) → (post (x2_1 + x1) S))))))
set_option maxHeartbeats 4000000 in
set_option maxRecDepth 100000 in
theorem c_J9_floorMod_7cf53 (l : Launch) (D : va_G) (X : XE) (hX : Inj 75 X.1) (sz : Nat) (S : CS) (x0 : Int32) (x1 : Int32) (post : Int32 → CS → Prop) (h : p_J9_floorMod_7cf53 S x0 x1 post) : Met l yJ9_floorMod_7cf53 (Cond.code yJ9_floorMod_7cf53 cJ9_floorMod_7cf53 3 (some .int) :: lw_gd) rm_J9_floorMod_7cf53 (gPc D (tyX X) (CW X) (FXc X) (AX 75 X.1 sz) sz S [.int x0, .int x1]) (va_Qi post (gB D (CW X)) (AX 75 X.1 sz)) 0 0 (AX 75 X.1 sz) := by
  refine va_MetF (cc := cJ9_floorMod_7cf53) (maxL := 3) (ret := (some .int)) (by decide +kernel) rfl ?_
  intro p e s m args below meth c s₁ B hml hv
  obtain ⟨rfl, hsz, hP, hK, hF⟩ := hv
  have hx := B.exec
  have hb := B.bytes
  have hr := B.returns
  have hts := atoms_spec (ws := (Cond.code yJ9_floorMod_7cf53 cJ9_floorMod_7cf53 3 (some .int) :: lw_gd)) B.pre
  have hT : ∀ w ∈ lw_gd, w.before _ s = true := fun w h9 => hts w (List.mem_cons_of_mem _ h9)
  have hown : s.vm.findClass RJ9 = some m.cls := findClass_of_methodNamed B.named
  have hlocks := B.notSynchronized
  subst hsz
  have hS : va_S (AX 75 X.1 s.heap.size) s.heap s.heap [] := va_S.rf
  have hl := lv_entry ([.int x0, .int x1]) (n := 3) (Nat.le_of_ble_eq_true rfl)
  rw [lg_entry_eq]
  generalize (lg_sl ([.int x0, .int x1]) ++ List.replicate (3 - (lg_sl ([.int x0, .int x1])).length) Slot.unset).toArray = ls at hl ⊢
  have hl : lv_has ls 3 [(0, .int x0), (1, .int x1)] := hl
  obtain ⟨H, hH⟩ : ∃ H : Heap, H = s.heap := ⟨_, rfl⟩
  obtain ⟨locs, hlc⟩ : ∃ q : List Loc, q = [] := ⟨_, rfl⟩
  have hS : va_S (AX 75 X.1 s.heap.size) s.heap H locs := by rw [hH, hlc]; exact hS
  have hP : va_P D vwCl (CW X S) H := by rw [hH]; exact hP
  show W p l e (headSpec (Cond.code yJ9_floorMod_7cf53 cJ9_floorMod_7cf53 3 (some .int) :: lw_gd) rm_J9_floorMod_7cf53).room s m ([.int x0, .int x1] : List Value).toArray below meth c s.heap [] 0 0 (MQ below (va_Qi post (gB D (CW X)) (AX 75 X.1 s.heap.size)) ([.int x0, .int x1] : List Value).toArray s 0 0 (AX 75 X.1 s.heap.size)) _
  suffices hgo : W p l e (headSpec (Cond.code yJ9_floorMod_7cf53 cJ9_floorMod_7cf53 3 (some .int) :: lw_gd) rm_J9_floorMod_7cf53).room s m ([.int x0, .int x1] : List Value).toArray below meth c H locs 0 0 (MQ below (va_Qi post (gB D (CW X)) (AX 75 X.1 s.heap.size)) ([.int x0, .int x1] : List Value).toArray s 0 0 (AX 75 X.1 s.heap.size)) (F0 m 0 ls []) from by rw [hH, hlc] at hgo; exact hgo
  unfold p_J9_floorMod_7cf53 at h
  refine lv_iload_n hx hb dJ9_floorMod_7cf53_0 rfl (lv_at hl 0 rfl) ?_
  refine lv_iload_n hx hb dJ9_floorMod_7cf53_1 rfl (lv_at hl 1 rfl) ?_
  obtain ⟨hne, h⟩ := h
  refine lv_irem hx hb dJ9_floorMod_7cf53_2 hne ?_
  refine lv_topi (fun x2_1 ex2_1 => ?_)
  have h := h x2_1 ex2_1
  refine lv_istore_n (lv' := [(2, .int x2_1), (0, .int x0), (1, .int x1)]) hx hb dJ9_floorMod_7cf53_3 rfl hl (by decide) rfl (fun ls hl => ?_)
  refine lv_iload_n hx hb dJ9_floorMod_7cf53_4 rfl (lv_at hl 1 rfl) ?_
  refine lv_iload_n hx hb dJ9_floorMod_7cf53_5 rfl (lv_at hl 2 rfl) ?_
  refine lv_ixor hx hb dJ9_floorMod_7cf53_6 ?_
  refine lv_if_ge (tgt := 18) hx hb dJ9_floorMod_7cf53_7 (by decide) (fun c_2 => ?_) (fun c_2 => ?_)
  · have h := h.1 c_2
    refine lv_iload_n hx hb dJ9_floorMod_7cf53_18 rfl (lv_at hl 0 rfl) ?_
    exact W.iret (v := x2_1) hx hb hr (fun t ht hW => ⟨⟨x2_1, S, rfl, h, gB_of ht hP⟩, hS.F ht⟩) hS.2.2 dJ9_floorMod_7cf53_19
  · have h := h.2 c_2
    refine lv_iload_n hx hb dJ9_floorMod_7cf53_10 rfl (lv_at hl 0 rfl) ?_
    refine lv_if_eq (tgt := 18) hx hb dJ9_floorMod_7cf53_11 (by decide) (fun c_3 => ?_) (fun c_3 => ?_)
    · have h := h.1 c_3
      refine lv_iload_n hx hb dJ9_floorMod_7cf53_18 rfl (lv_at hl 0 rfl) ?_
      exact W.iret (v := x2_1) hx hb hr (fun t ht hW => ⟨⟨x2_1, S, rfl, h, gB_of ht hP⟩, hS.F ht⟩) hS.2.2 dJ9_floorMod_7cf53_19
    · have h := h.2 c_3
      refine lv_iload_n hx hb dJ9_floorMod_7cf53_14 rfl (lv_at hl 0 rfl) ?_
      refine lv_iload_n hx hb dJ9_floorMod_7cf53_15 rfl (lv_at hl 2 rfl) ?_
      refine lv_iadd hx hb dJ9_floorMod_7cf53_16 ?_
      exact W.iret (v := (x2_1 + x1)) hx hb hr (fun t ht hW => ⟨⟨(x2_1 + x1), S, rfl, h, gB_of ht hP⟩, hS.F ht⟩) hS.2.2 dJ9_floorMod_7cf53_17

abbrev rm_X0_shorten : Room := { frames := 1, cells := 0, slots := 0, locals := 22 }
def p_X0_shorten (S : CS) (b : Nat) (x1 : Int32) (x2 : Int32) (post : CS → Prop) : Prop := p_J9_floorMod_7cf53 S x1 8 (fun r_2 S_1 => (vp_in r_2 8 ∧ (∀ u_3 : Int32, u_3 = (if 0 < ((S_1.1 (bl b) r_2.toNatClampNeg) - x2) then ((S_1.1 (bl b) r_2.toNatClampNeg) - x2) else 0) → (vp_in r_2 8 ∧ (∀ S_4 : CS, S_4 = sti S_1 (bl b) r_2.toNatClampNeg u_3 → (post S_4))))))
set_option maxHeartbeats 4000000 in
set_option maxRecDepth 100000 in
theorem c_X0_shorten (l : Launch) (D : va_G) (X : XE) (hX : Inj 75 X.1) (sz : Nat) (S : CS) (b : Nat) (hyp_b : b < 14) (x1 : Int32) (x2 : Int32) (post : CS → Prop) (h : p_X0_shorten S b x1 x2 post) : Met l yX0_shorten (Cond.code yX0_shorten cX0_shorten 4 none :: lw_gd) rm_X0_shorten (gPc D (tyX X) (CW X) (FXc X) (AX 75 X.1 sz) sz S [.ref (X.1 (bo b)), .int x1, .int x2]) (va_Qv post (gB D (CW X)) (AX 75 X.1 sz)) 0 0 (AX 75 X.1 sz) := by
  refine Met.ofW (cc := cX0_shorten) (maxL := 4) (ret := none) (by decide) rfl ?_
  intro p e s m args below meth c s₁ B hml hv
  obtain ⟨rfl, hsz, hP, hK, hF⟩ := hv
  have hx := B.exec
  have hb := B.bytes
  have hr := B.returns
  have hts := atoms_spec (ws := (Cond.code yX0_shorten cX0_shorten 4 none :: lw_gd)) B.pre
  have hT : ∀ w ∈ lw_gd, w.before _ s = true := fun w h9 => hts w (List.mem_cons_of_mem _ h9)
  have hown : s.vm.findClass RX0 = some m.cls := findClass_of_methodNamed B.named
  have hlocks := B.notSynchronized
  subst hsz
  have hS : va_S (AX 75 X.1 s.heap.size) s.heap s.heap [] := va_S.rf
  have hl := lv_entry ([.ref (X.1 (bo b)), .int x1, .int x2]) (n := 4) (Nat.le_of_ble_eq_true rfl)
  rw [lg_entry_eq]
  generalize (lg_sl ([.ref (X.1 (bo b)), .int x1, .int x2]) ++ List.replicate (4 - (lg_sl ([.ref (X.1 (bo b)), .int x1, .int x2])).length) Slot.unset).toArray = ls at hl ⊢
  have hl : lv_has ls 4 [(0, .ref (X.1 (bo b))), (1, .int x1), (2, .int x2)] := hl
  obtain ⟨H, hH⟩ : ∃ H : Heap, H = s.heap := ⟨_, rfl⟩
  obtain ⟨locs, hlc⟩ : ∃ q : List Loc, q = [] := ⟨_, rfl⟩
  have hS : va_S (AX 75 X.1 s.heap.size) s.heap H locs := by rw [hH, hlc]; exact hS
  have hP : va_P D vwCl (CW X S) H := by rw [hH]; exact hP
  show W p l e (headSpec (Cond.code yX0_shorten cX0_shorten 4 none :: lw_gd) rm_X0_shorten).room s m ([.ref (X.1 (bo b)), .int x1, .int x2] : List Value).toArray below meth c s.heap [] 0 0 (MQ below (va_Qv post (gB D (CW X)) (AX 75 X.1 s.heap.size)) ([.ref (X.1 (bo b)), .int x1, .int x2] : List Value).toArray s 0 0 (AX 75 X.1 s.heap.size)) _
  suffices hgo : W p l e (headSpec (Cond.code yX0_shorten cX0_shorten 4 none :: lw_gd) rm_X0_shorten).room s m ([.ref (X.1 (bo b)), .int x1, .int x2] : List Value).toArray below meth c H locs 0 0 (MQ below (va_Qv post (gB D (CW X)) (AX 75 X.1 s.heap.size)) ([.ref (X.1 (bo b)), .int x1, .int x2] : List Value).toArray s 0 0 (AX 75 X.1 s.heap.size)) (F0 m 0 ls []) from by rw [hH, hlc] at hgo; exact hgo
  unfold p_X0_shorten at h
  refine lv_iload_n hx hb dX0_shorten_0 rfl (lv_at hl 1 rfl) ?_
  refine lv_bipush (v := 8) hx hb dX0_shorten_1 (by decide) ?_
  refine cSi (As := [.int x1, .int 8]) (rest := []) hX ⟨hx, hb, hml, hown, hT⟩ (c_J9_floorMod_7cf53 l D X hX H.size S x1 8 _ h) (gd_S wl_X0_25 wt_J9_floorMod_7cf53 wn_J9 wc_J9_floorMod_7cf53) hd_J9_floorMod_7cf53 ⟨rfl, rfl⟩ ⟨Nat.le_of_ble_eq_true rfl, Nat.le_of_ble_eq_true rfl⟩ hK hP hS hF rfl hl.1 rfl (Nat.le_of_ble_eq_true rfl) dX0_shorten_3 ⟨Nat.zero_le _, Nat.zero_le _⟩ (fun r_2 S_1 H locs h hP hS => ?_)
  refine lv_istore_n (lv' := [(3, .int r_2), (0, .ref (X.1 (bo b))), (1, .int x1), (2, .int x2)]) hx hb dX0_shorten_6 rfl hl (by decide) rfl (fun ls hl => ?_)
  refine lv_aload_n hx hb dX0_shorten_7 rfl (lv_at hl 1 rfl) ?_
  refine va_get (D := D) (ci := 0) (v := .ref (X.1 (bl b))) (C := RX0) (T := TX0) (N := 2) hx hb hT inX0 hown hK hP (bo b) (cw_Besom (b := b) (by omega)) rfl 0 (by decide) (hT _ wf_X0_9) (fun _ h9 => h9) rfl dX0_shorten_8 ?_
  refine lv_iload_n hx hb dX0_shorten_11 rfl (lv_at hl 0 rfl) ?_
  refine lv_iconst (v := 0) hx hb dX0_shorten_12 (by decide) ?_
  refine lv_aload_n hx hb dX0_shorten_13 rfl (lv_at hl 1 rfl) ?_
  refine va_get (D := D) (ci := 0) (v := .ref (X.1 (bl b))) (C := RX0) (T := TX0) (N := 2) hx hb hT inX0 hown hK hP (bo b) (cw_Besom (b := b) (by omega)) rfl 0 (by decide) (hT _ wf_X0_9) (fun _ h9 => h9) rfl dX0_shorten_14 ?_
  refine lv_iload_n hx hb dX0_shorten_17 rfl (lv_at hl 0 rfl) ?_
  obtain ⟨hi, h⟩ := h
  refine g_iald hx hb hK hP (bl b) (cw_bl (b := b) (by omega)) rfl hi r_2.toNatClampNeg rfl dX0_shorten_18 ?_
  refine lv_iload_n hx hb dX0_shorten_19 rfl (lv_at hl 3 rfl) ?_
  refine lv_isub hx hb dX0_shorten_20 ?_
  refine va_mmax hx hb (hml.trans hl.1.symm) hown (hT _ wl_X0_31) (hT _ wt_J9_max_7cf53) (hT _ wn_J9) (hT _ wc_J9_max_7cf53) (Nat.le_of_ble_eq_true rfl) (Nat.le_of_ble_eq_true rfl) (Nat.zero_le _) (Nat.zero_le _) dX0_shorten_21 ?_
  refine lv_topi (fun u_3 eu_3 => ?_)
  have h := h u_3 eu_3
  obtain ⟨hi, h⟩ := h
  refine g_iast hx hb hK hP (gw_D hX) hS (bl b) (cw_bl (b := b) (by omega)) rfl hi r_2.toNatClampNeg rfl dX0_shorten_24 (fun H locs hP hS => ?_)
  have hP := cw_st (j := r_2.toNatClampNeg) (x := u_3) (cce_bl X _ (b := b) (by omega) _) hP
  obtain ⟨S_4, eS_4⟩ : ∃ z : CS, z = sti S_1 (bl b) r_2.toNatClampNeg u_3 := ⟨_, rfl⟩
  rw [← eS_4] at hP
  have h := h S_4 eS_4
  exact W.vret hx hb hr (fun t ht hW => ⟨⟨S_4, rfl, h, gB_of ht hP⟩, hS.F ht⟩) hS.2.2 dX0_shorten_25

abbrev rm_X0_sweep : Room := { frames := 2, cells := 0, slots := 0, locals := 45 }
def p_X0_sweep (S : CS) (b : Nat) (post : CS → Prop) : Prop := p_X0_shorten S b (S.1 (bo b) 1) 2 (fun S_1 => (p_X0_shorten S_1 b ((S_1.1 (bo b) 1) + 1) 1 (fun S_3 => (p_X0_shorten S_3 b ((S_3.1 (bo b) 1) - 1) 1 (fun S_5 => (post S_5))))))
set_option maxHeartbeats 4000000 in
set_option maxRecDepth 100000 in
theorem c_X0_sweep (l : Launch) (D : va_G) (X : XE) (hX : Inj 75 X.1) (sz : Nat) (S : CS) (b : Nat) (hyp_b : b < 14) (post : CS → Prop) (h : p_X0_sweep S b post) : Met l yX0_sweep (Cond.code yX0_sweep cX0_sweep 1 none :: lw_gd) rm_X0_sweep (gPc D (tyX X) (CW X) (FXc X) (AX 75 X.1 sz) sz S [.ref (X.1 (bo b))]) (va_Qv post (gB D (CW X)) (AX 75 X.1 sz)) 0 0 (AX 75 X.1 sz) := by
  refine Met.ofW (cc := cX0_sweep) (maxL := 1) (ret := none) (by decide) rfl ?_
  intro p e s m args below meth c s₁ B hml hv
  obtain ⟨rfl, hsz, hP, hK, hF⟩ := hv
  have hx := B.exec
  have hb := B.bytes
  have hr := B.returns
  have hts := atoms_spec (ws := (Cond.code yX0_sweep cX0_sweep 1 none :: lw_gd)) B.pre
  have hT : ∀ w ∈ lw_gd, w.before _ s = true := fun w h9 => hts w (List.mem_cons_of_mem _ h9)
  have hown : s.vm.findClass RX0 = some m.cls := findClass_of_methodNamed B.named
  have hlocks := B.notSynchronized
  subst hsz
  have hS : va_S (AX 75 X.1 s.heap.size) s.heap s.heap [] := va_S.rf
  have hl := lv_entry ([.ref (X.1 (bo b))]) (n := 1) (Nat.le_of_ble_eq_true rfl)
  rw [lg_entry_eq]
  generalize (lg_sl ([.ref (X.1 (bo b))]) ++ List.replicate (1 - (lg_sl ([.ref (X.1 (bo b))])).length) Slot.unset).toArray = ls at hl ⊢
  have hl : lv_has ls 1 [(0, .ref (X.1 (bo b)))] := hl
  obtain ⟨H, hH⟩ : ∃ H : Heap, H = s.heap := ⟨_, rfl⟩
  obtain ⟨locs, hlc⟩ : ∃ q : List Loc, q = [] := ⟨_, rfl⟩
  have hS : va_S (AX 75 X.1 s.heap.size) s.heap H locs := by rw [hH, hlc]; exact hS
  have hP : va_P D vwCl (CW X S) H := by rw [hH]; exact hP
  show W p l e (headSpec (Cond.code yX0_sweep cX0_sweep 1 none :: lw_gd) rm_X0_sweep).room s m ([.ref (X.1 (bo b))] : List Value).toArray below meth c s.heap [] 0 0 (MQ below (va_Qv post (gB D (CW X)) (AX 75 X.1 s.heap.size)) ([.ref (X.1 (bo b))] : List Value).toArray s 0 0 (AX 75 X.1 s.heap.size)) _
  suffices hgo : W p l e (headSpec (Cond.code yX0_sweep cX0_sweep 1 none :: lw_gd) rm_X0_sweep).room s m ([.ref (X.1 (bo b))] : List Value).toArray below meth c H locs 0 0 (MQ below (va_Qv post (gB D (CW X)) (AX 75 X.1 s.heap.size)) ([.ref (X.1 (bo b))] : List Value).toArray s 0 0 (AX 75 X.1 s.heap.size)) (F0 m 0 ls []) from by rw [hH, hlc] at hgo; exact hgo
  unfold p_X0_sweep at h
  refine lv_aload_n hx hb dX0_sweep_0 rfl (lv_at hl 0 rfl) ?_
  refine lv_aload_n hx hb dX0_sweep_1 rfl (lv_at hl 0 rfl) ?_
  refine va_get (D := D) (ci := 0) (v := .int (S.1 (bo b) 1)) (C := RX0) (T := TX0) (N := 2) hx hb hT inX0 hown hK hP (bo b) (cw_Besom (b := b) (by omega)) rfl 1 (by decide) (hT _ wf_X0_13) (fun _ h9 => h9) rfl dX0_sweep_2 ?_
  refine lv_iconst (v := 2) hx hb dX0_sweep_5 (by decide) ?_
  refine cVv (As := [.int (S.1 (bo b) 1), .int 2]) (rest := []) hX ⟨hx, hb, hml, hown, hT⟩ (c_X0_shorten l D X hX H.size S b hyp_b (S.1 (bo b) 1) 2 _ h) (gd_V wl_X0_21 wi_X0_shorten wv_X0_shorten wn_X0 wc_X0_shorten) rfl hd_X0_shorten ⟨rfl, rfl⟩ ⟨Nat.le_of_ble_eq_true rfl, Nat.le_of_ble_eq_true rfl⟩ (va_recv hK hP (ci := 0) (q0 := (bo b)) rfl (cw_Besom (b := b) (by omega))) hK hP hS hF rfl hl.1 rfl (Nat.le_of_ble_eq_true rfl) dX0_sweep_6 ⟨Nat.zero_le _, Nat.zero_le _⟩ (fun S_1 H locs h hP hS => ?_)
  refine lv_aload_n hx hb dX0_sweep_9 rfl (lv_at hl 0 rfl) ?_
  refine lv_aload_n hx hb dX0_sweep_10 rfl (lv_at hl 0 rfl) ?_
  refine va_get (D := D) (ci := 0) (v := .int (S_1.1 (bo b) 1)) (C := RX0) (T := TX0) (N := 2) hx hb hT inX0 hown hK hP (bo b) (cw_Besom (b := b) (by omega)) rfl 1 (by decide) (hT _ wf_X0_13) (fun _ h9 => h9) rfl dX0_sweep_11 ?_
  refine lv_iconst (v := 1) hx hb dX0_sweep_14 (by decide) ?_
  refine lv_iadd hx hb dX0_sweep_15 ?_
  refine lv_iconst (v := 1) hx hb dX0_sweep_16 (by decide) ?_
  refine cVv (As := [.int ((S_1.1 (bo b) 1) + 1), .int 1]) (rest := []) hX ⟨hx, hb, hml, hown, hT⟩ (c_X0_shorten l D X hX H.size S_1 b hyp_b ((S_1.1 (bo b) 1) + 1) 1 _ h) (gd_V wl_X0_21 wi_X0_shorten wv_X0_shorten wn_X0 wc_X0_shorten) rfl hd_X0_shorten ⟨rfl, rfl⟩ ⟨Nat.le_of_ble_eq_true rfl, Nat.le_of_ble_eq_true rfl⟩ (va_recv hK hP (ci := 0) (q0 := (bo b)) rfl (cw_Besom (b := b) (by omega))) hK hP hS hF rfl hl.1 rfl (Nat.le_of_ble_eq_true rfl) dX0_sweep_17 ⟨Nat.zero_le _, Nat.zero_le _⟩ (fun S_3 H locs h hP hS => ?_)
  refine lv_aload_n hx hb dX0_sweep_20 rfl (lv_at hl 0 rfl) ?_
  refine lv_aload_n hx hb dX0_sweep_21 rfl (lv_at hl 0 rfl) ?_
  refine va_get (D := D) (ci := 0) (v := .int (S_3.1 (bo b) 1)) (C := RX0) (T := TX0) (N := 2) hx hb hT inX0 hown hK hP (bo b) (cw_Besom (b := b) (by omega)) rfl 1 (by decide) (hT _ wf_X0_13) (fun _ h9 => h9) rfl dX0_sweep_22 ?_
  refine lv_iconst (v := 1) hx hb dX0_sweep_25 (by decide) ?_
  refine lv_isub hx hb dX0_sweep_26 ?_
  refine lv_iconst (v := 1) hx hb dX0_sweep_27 (by decide) ?_
  refine cVv (As := [.int ((S_3.1 (bo b) 1) - 1), .int 1]) (rest := []) hX ⟨hx, hb, hml, hown, hT⟩ (c_X0_shorten l D X hX H.size S_3 b hyp_b ((S_3.1 (bo b) 1) - 1) 1 _ h) (gd_V wl_X0_21 wi_X0_shorten wv_X0_shorten wn_X0 wc_X0_shorten) rfl hd_X0_shorten ⟨rfl, rfl⟩ ⟨Nat.le_of_ble_eq_true rfl, Nat.le_of_ble_eq_true rfl⟩ (va_recv hK hP (ci := 0) (q0 := (bo b)) rfl (cw_Besom (b := b) (by omega))) hK hP hS hF rfl hl.1 rfl (Nat.le_of_ble_eq_true rfl) dX0_sweep_28 ⟨Nat.zero_le _, Nat.zero_le _⟩ (fun S_5 H locs h hP hS => ?_)
  exact W.vret hx hb hr (fun t ht hW => ⟨⟨S_5, rfl, h, gB_of ht hP⟩, hS.F ht⟩) hS.2.2 dX0_sweep_31

abbrev rm_X0_turnBy : Room := { frames := 1, cells := 0, slots := 0, locals := 22 }
def p_X0_turnBy (S : CS) (b : Nat) (x1 : Int32) (post : CS → Prop) : Prop := p_J9_floorMod_7cf53 S ((S.1 (bo b) 1) + x1) 8 (fun r_2 S_1 => (∀ S_3 : CS, S_3 = sti S_1 (bo b) 1 r_2 → (post S_3)))
set_option maxHeartbeats 4000000 in
set_option maxRecDepth 100000 in
theorem c_X0_turnBy (l : Launch) (D : va_G) (X : XE) (hX : Inj 75 X.1) (sz : Nat) (S : CS) (b : Nat) (hyp_b : b < 14) (x1 : Int32) (post : CS → Prop) (h : p_X0_turnBy S b x1 post) : Met l yX0_turnBy (Cond.code yX0_turnBy cX0_turnBy 2 none :: lw_gd) rm_X0_turnBy (gPc D (tyX X) (CW X) (FXc X) (AX 75 X.1 sz) sz S [.ref (X.1 (bo b)), .int x1]) (va_Qv post (gB D (CW X)) (AX 75 X.1 sz)) 0 0 (AX 75 X.1 sz) := by
  refine Met.ofW (cc := cX0_turnBy) (maxL := 2) (ret := none) (by decide) rfl ?_
  intro p e s m args below meth c s₁ B hml hv
  obtain ⟨rfl, hsz, hP, hK, hF⟩ := hv
  have hx := B.exec
  have hb := B.bytes
  have hr := B.returns
  have hts := atoms_spec (ws := (Cond.code yX0_turnBy cX0_turnBy 2 none :: lw_gd)) B.pre
  have hT : ∀ w ∈ lw_gd, w.before _ s = true := fun w h9 => hts w (List.mem_cons_of_mem _ h9)
  have hown : s.vm.findClass RX0 = some m.cls := findClass_of_methodNamed B.named
  have hlocks := B.notSynchronized
  subst hsz
  have hS : va_S (AX 75 X.1 s.heap.size) s.heap s.heap [] := va_S.rf
  have hl := lv_entry ([.ref (X.1 (bo b)), .int x1]) (n := 2) (Nat.le_of_ble_eq_true rfl)
  rw [lg_entry_eq]
  generalize (lg_sl ([.ref (X.1 (bo b)), .int x1]) ++ List.replicate (2 - (lg_sl ([.ref (X.1 (bo b)), .int x1])).length) Slot.unset).toArray = ls at hl ⊢
  have hl : lv_has ls 2 [(0, .ref (X.1 (bo b))), (1, .int x1)] := hl
  obtain ⟨H, hH⟩ : ∃ H : Heap, H = s.heap := ⟨_, rfl⟩
  obtain ⟨locs, hlc⟩ : ∃ q : List Loc, q = [] := ⟨_, rfl⟩
  have hS : va_S (AX 75 X.1 s.heap.size) s.heap H locs := by rw [hH, hlc]; exact hS
  have hP : va_P D vwCl (CW X S) H := by rw [hH]; exact hP
  show W p l e (headSpec (Cond.code yX0_turnBy cX0_turnBy 2 none :: lw_gd) rm_X0_turnBy).room s m ([.ref (X.1 (bo b)), .int x1] : List Value).toArray below meth c s.heap [] 0 0 (MQ below (va_Qv post (gB D (CW X)) (AX 75 X.1 s.heap.size)) ([.ref (X.1 (bo b)), .int x1] : List Value).toArray s 0 0 (AX 75 X.1 s.heap.size)) _
  suffices hgo : W p l e (headSpec (Cond.code yX0_turnBy cX0_turnBy 2 none :: lw_gd) rm_X0_turnBy).room s m ([.ref (X.1 (bo b)), .int x1] : List Value).toArray below meth c H locs 0 0 (MQ below (va_Qv post (gB D (CW X)) (AX 75 X.1 s.heap.size)) ([.ref (X.1 (bo b)), .int x1] : List Value).toArray s 0 0 (AX 75 X.1 s.heap.size)) (F0 m 0 ls []) from by rw [hH, hlc] at hgo; exact hgo
  unfold p_X0_turnBy at h
  refine lv_aload_n hx hb dX0_turnBy_0 rfl (lv_at hl 0 rfl) ?_
  refine lv_aload_n hx hb dX0_turnBy_1 rfl (lv_at hl 0 rfl) ?_
  refine va_get (D := D) (ci := 0) (v := .int (S.1 (bo b) 1)) (C := RX0) (T := TX0) (N := 2) hx hb hT inX0 hown hK hP (bo b) (cw_Besom (b := b) (by omega)) rfl 1 (by decide) (hT _ wf_X0_13) (fun _ h9 => h9) rfl dX0_turnBy_2 ?_
  refine lv_iload_n hx hb dX0_turnBy_5 rfl (lv_at hl 1 rfl) ?_
  refine lv_iadd hx hb dX0_turnBy_6 ?_
  refine lv_bipush (v := 8) hx hb dX0_turnBy_7 (by decide) ?_
  refine cSi (As := [.int ((S.1 (bo b) 1) + x1), .int 8]) (rest := [.ref (X.1 (bo b))]) hX ⟨hx, hb, hml, hown, hT⟩ (c_J9_floorMod_7cf53 l D X hX H.size S ((S.1 (bo b) 1) + x1) 8 _ h) (gd_S wl_X0_25 wt_J9_floorMod_7cf53 wn_J9 wc_J9_floorMod_7cf53) hd_J9_floorMod_7cf53 ⟨rfl, rfl⟩ ⟨Nat.le_of_ble_eq_true rfl, Nat.le_of_ble_eq_true rfl⟩ hK hP hS hF rfl hl.1 rfl (Nat.le_of_ble_eq_true rfl) dX0_turnBy_9 ⟨Nat.zero_le _, Nat.zero_le _⟩ (fun r_2 S_1 H locs h hP hS => ?_)
  refine va_put (D := D) (ci := 0) (v := .int r_2) (ty := .int) (C := RX0) (T := TX0) (N := 2) hx hb hT inX0 tyX0 tyX0_ok nmX0 hown hK hP (gw_D hX) hS (bo b) (cw_Besom (b := b) (by omega)) rfl 1 (by decide) (hT _ wf_X0_13) (fun _ h9 => h9) rfl (by decide +kernel) rfl rfl (Nat.le_of_ble_eq_true rfl) dX0_turnBy_12 (fun H locs hP _ hS => ?_)
  have hP := cw_st (j := 1) (x := r_2) (cce_bo X _ (b := b) (by omega) _) hP
  obtain ⟨S_3, eS_3⟩ : ∃ z : CS, z = sti S_1 (bo b) 1 r_2 := ⟨_, rfl⟩
  rw [← eS_3] at hP
  have h := h S_3 eS_3
  exact W.vret hx hb hr (fun t ht hW => ⟨⟨S_3, rfl, h, gB_of ht hP⟩, hS.F ht⟩) hS.2.2 dX0_turnBy_15

abbrev rm_X0_isWornOut : Room := { frames := 0, cells := 0, slots := 0, locals := 0 }
def q_X0_isWornOut_2 (b : Nat) (post : Int32 → CS → Prop) : Nat → Int32 → CS → Prop
  | 0, _, _ => False
  | n9 + 1, y1, S => (8 ≤ y1 → (post 0 S)) ∧ (¬ (8 ≤ y1) → (vp_in y1 8 ∧ (((S.1 (bl b) y1.toNatClampNeg) = 0 → (post 1 S)) ∧ (¬ ((S.1 (bl b) y1.toNatClampNeg) = 0) → (∀ x1_3 : Int32, x1_3 = y1 + 1 → (q_X0_isWornOut_2 b post n9 x1_3 S))))))
def p_X0_isWornOut (S : CS) (b : Nat) (post : Int32 → CS → Prop) : Prop := ∃ n, q_X0_isWornOut_2 b post n 0 S
set_option maxHeartbeats 4000000 in
set_option maxRecDepth 100000 in
theorem c_X0_isWornOut (l : Launch) (D : va_G) (X : XE) (hX : Inj 75 X.1) (sz : Nat) (S : CS) (b : Nat) (hyp_b : b < 14) (post : Int32 → CS → Prop) (h : p_X0_isWornOut S b post) : Met l yX0_isWornOut (Cond.code yX0_isWornOut cX0_isWornOut 2 (some .boolean) :: lw_gd) rm_X0_isWornOut (gPc D (tyX X) (CW X) (FXc X) (AX 75 X.1 sz) sz S [.ref (X.1 (bo b))]) (va_Qi post (gB D (CW X)) (AX 75 X.1 sz)) 0 0 (AX 75 X.1 sz) := by
  refine Met.ofW (cc := cX0_isWornOut) (maxL := 2) (ret := (some .boolean)) (by decide) rfl ?_
  intro p e s m args below meth c s₁ B hml hv
  obtain ⟨rfl, hsz, hP, hK, hF⟩ := hv
  have hx := B.exec
  have hb := B.bytes
  have hr := B.returns
  have hts := atoms_spec (ws := (Cond.code yX0_isWornOut cX0_isWornOut 2 (some .boolean) :: lw_gd)) B.pre
  have hT : ∀ w ∈ lw_gd, w.before _ s = true := fun w h9 => hts w (List.mem_cons_of_mem _ h9)
  have hown : s.vm.findClass RX0 = some m.cls := findClass_of_methodNamed B.named
  have hlocks := B.notSynchronized
  subst hsz
  have hS : va_S (AX 75 X.1 s.heap.size) s.heap s.heap [] := va_S.rf
  have W2 : ∀ n1 : Nat, ∀ (y1 : Int32) (S : CS) (H : Heap) (locs : List Loc) (ls : Array Slot), va_P D vwCl (CW X S) H → va_S (AX 75 X.1 s.heap.size) s.heap H locs → lv_has ls 2 [(0, .ref (X.1 (bo b))), (1, .int y1)] → q_X0_isWornOut_2 b post n1 y1 S → W p l e (headSpec (Cond.code yX0_isWornOut cX0_isWornOut 2 (some .boolean) :: lw_gd) rm_X0_isWornOut).room s m ([.ref (X.1 (bo b))] : List Value).toArray below meth c H locs 0 0 (MQ below (va_Qi post (gB D (CW X)) (AX 75 X.1 s.heap.size)) ([.ref (X.1 (bo b))] : List Value).toArray s 0 0 (AX 75 X.1 s.heap.size)) (F0 m 2 ls []) := by
    intro n1
    induction n1 with
    | zero => intro y1 S H locs ls hP hS hl h; exact h.elim
    | succ n9 ih =>
      intro y1 S H locs ls hP hS hl h
      rw [q_X0_isWornOut_2] at h
      refine lv_iload_n hx hb dX0_isWornOut_2 rfl (lv_at hl 1 rfl) ?_
      refine lv_bipush (v := 8) hx hb dX0_isWornOut_3 (by decide) ?_
      refine lv_icmp_ge (tgt := 25) hx hb dX0_isWornOut_5 (by decide) (fun c_1 => ?_) (fun c_1 => ?_)
      · have h := h.1 c_1
        refine lv_iconst (v := 0) hx hb dX0_isWornOut_25 (by decide) ?_
        exact W.zret (v := 0) hx hb hr rfl (fun t ht hW => ⟨⟨0, S, rfl, h, gB_of ht hP⟩, hS.F ht⟩) hS.2.2 dX0_isWornOut_26
      · have h := h.2 c_1
        refine lv_aload_n hx hb dX0_isWornOut_8 rfl (lv_at hl 0 rfl) ?_
        refine va_get (D := D) (ci := 0) (v := .ref (X.1 (bl b))) (C := RX0) (T := TX0) (N := 2) hx hb hT inX0 hown hK hP (bo b) (cw_Besom (b := b) (by omega)) rfl 0 (by decide) (hT _ wf_X0_9) (fun _ h9 => h9) rfl dX0_isWornOut_9 ?_
        refine lv_iload_n hx hb dX0_isWornOut_12 rfl (lv_at hl 1 rfl) ?_
        obtain ⟨hi, h⟩ := h
        refine g_iald hx hb hK hP (bl b) (cw_bl (b := b) (by omega)) rfl hi y1.toNatClampNeg rfl dX0_isWornOut_13 ?_
        refine lv_if_ne (tgt := 19) hx hb dX0_isWornOut_14 (by decide) (fun c_2 => ?_) (fun c_2 => ?_)
        · have h := h.2 c_2
          obtain ⟨x1_3, ex1_3⟩ : ∃ z : Int32, z = y1 + 1 := ⟨_, rfl⟩
          refine lv_iinc (v := x1_3) (lv' := [(1, .int x1_3), (0, .ref (X.1 (bo b)))]) hx hb dX0_isWornOut_19 hl (k := 1) rfl (by rw [ex1_3]; rfl) (by decide) rfl (fun ls hl => ?_)
          have h := h x1_3 ex1_3
          refine lv_goto (tgt := 2) hx hb dX0_isWornOut_22 (by decide) ?_
          exact ih x1_3 S H locs ls hP hS (lv_sub hl [1, 0] rfl) h
        · have h := h.1 c_2
          refine lv_iconst (v := 1) hx hb dX0_isWornOut_17 (by decide) ?_
          exact W.zret (v := 1) hx hb hr rfl (fun t ht hW => ⟨⟨1, S, rfl, h, gB_of ht hP⟩, hS.F ht⟩) hS.2.2 dX0_isWornOut_18
  have hl := lv_entry ([.ref (X.1 (bo b))]) (n := 2) (Nat.le_of_ble_eq_true rfl)
  rw [lg_entry_eq]
  generalize (lg_sl ([.ref (X.1 (bo b))]) ++ List.replicate (2 - (lg_sl ([.ref (X.1 (bo b))])).length) Slot.unset).toArray = ls at hl ⊢
  have hl : lv_has ls 2 [(0, .ref (X.1 (bo b)))] := hl
  obtain ⟨H, hH⟩ : ∃ H : Heap, H = s.heap := ⟨_, rfl⟩
  obtain ⟨locs, hlc⟩ : ∃ q : List Loc, q = [] := ⟨_, rfl⟩
  have hS : va_S (AX 75 X.1 s.heap.size) s.heap H locs := by rw [hH, hlc]; exact hS
  have hP : va_P D vwCl (CW X S) H := by rw [hH]; exact hP
  show W p l e (headSpec (Cond.code yX0_isWornOut cX0_isWornOut 2 (some .boolean) :: lw_gd) rm_X0_isWornOut).room s m ([.ref (X.1 (bo b))] : List Value).toArray below meth c s.heap [] 0 0 (MQ below (va_Qi post (gB D (CW X)) (AX 75 X.1 s.heap.size)) ([.ref (X.1 (bo b))] : List Value).toArray s 0 0 (AX 75 X.1 s.heap.size)) _
  suffices hgo : W p l e (headSpec (Cond.code yX0_isWornOut cX0_isWornOut 2 (some .boolean) :: lw_gd) rm_X0_isWornOut).room s m ([.ref (X.1 (bo b))] : List Value).toArray below meth c H locs 0 0 (MQ below (va_Qi post (gB D (CW X)) (AX 75 X.1 s.heap.size)) ([.ref (X.1 (bo b))] : List Value).toArray s 0 0 (AX 75 X.1 s.heap.size)) (F0 m 0 ls []) from by rw [hH, hlc] at hgo; exact hgo
  unfold p_X0_isWornOut at h
  refine lv_iconst (v := 0) hx hb dX0_isWornOut_0 (by decide) ?_
  refine lv_istore_n (lv' := [(1, .int 0), (0, .ref (X.1 (bo b)))]) hx hb dX0_isWornOut_1 rfl hl (by decide) rfl (fun ls hl => ?_)
  obtain ⟨n1, h⟩ := h
  exact W2  n1 0 S H locs ls hP hS (lv_sub hl [1, 0] rfl) h

abbrev rm_X4_size : Room := { frames := 0, cells := 0, slots := 0, locals := 0 }
def p_X4_size (S : CS)  (post : Int32 → CS → Prop) : Prop := post (S.1 1 1) S
set_option maxHeartbeats 4000000 in
set_option maxRecDepth 100000 in
theorem c_X4_size (l : Launch) (D : va_G) (X : XE) (hX : Inj 75 X.1) (sz : Nat) (S : CS)  (post : Int32 → CS → Prop) (h : p_X4_size S  post) : Met l yX4_size (Cond.code yX4_size cX4_size 1 (some .int) :: lw_gd) rm_X4_size (gPc D (tyX X) (CW X) (FXc X) (AX 75 X.1 sz) sz S [.ref (X.1 1)]) (va_Qi post (gB D (CW X)) (AX 75 X.1 sz)) 0 0 (AX 75 X.1 sz) := by
  refine Met.ofW (cc := cX4_size) (maxL := 1) (ret := (some .int)) (by decide) rfl ?_
  intro p e s m args below meth c s₁ B hml hv
  obtain ⟨rfl, hsz, hP, hK, hF⟩ := hv
  have hx := B.exec
  have hb := B.bytes
  have hr := B.returns
  have hts := atoms_spec (ws := (Cond.code yX4_size cX4_size 1 (some .int) :: lw_gd)) B.pre
  have hT : ∀ w ∈ lw_gd, w.before _ s = true := fun w h9 => hts w (List.mem_cons_of_mem _ h9)
  have hown : s.vm.findClass RX4 = some m.cls := findClass_of_methodNamed B.named
  have hlocks := B.notSynchronized
  subst hsz
  have hS : va_S (AX 75 X.1 s.heap.size) s.heap s.heap [] := va_S.rf
  have hl := lv_entry ([.ref (X.1 1)]) (n := 1) (Nat.le_of_ble_eq_true rfl)
  rw [lg_entry_eq]
  generalize (lg_sl ([.ref (X.1 1)]) ++ List.replicate (1 - (lg_sl ([.ref (X.1 1)])).length) Slot.unset).toArray = ls at hl ⊢
  have hl : lv_has ls 1 [(0, .ref (X.1 1))] := hl
  obtain ⟨H, hH⟩ : ∃ H : Heap, H = s.heap := ⟨_, rfl⟩
  obtain ⟨locs, hlc⟩ : ∃ q : List Loc, q = [] := ⟨_, rfl⟩
  have hS : va_S (AX 75 X.1 s.heap.size) s.heap H locs := by rw [hH, hlc]; exact hS
  have hP : va_P D vwCl (CW X S) H := by rw [hH]; exact hP
  show W p l e (headSpec (Cond.code yX4_size cX4_size 1 (some .int) :: lw_gd) rm_X4_size).room s m ([.ref (X.1 1)] : List Value).toArray below meth c s.heap [] 0 0 (MQ below (va_Qi post (gB D (CW X)) (AX 75 X.1 s.heap.size)) ([.ref (X.1 1)] : List Value).toArray s 0 0 (AX 75 X.1 s.heap.size)) _
  suffices hgo : W p l e (headSpec (Cond.code yX4_size cX4_size 1 (some .int) :: lw_gd) rm_X4_size).room s m ([.ref (X.1 1)] : List Value).toArray below meth c H locs 0 0 (MQ below (va_Qi post (gB D (CW X)) (AX 75 X.1 s.heap.size)) ([.ref (X.1 1)] : List Value).toArray s 0 0 (AX 75 X.1 s.heap.size)) (F0 m 0 ls []) from by rw [hH, hlc] at hgo; exact hgo
  unfold p_X4_size at h
  refine lv_aload_n hx hb dX4_size_0 rfl (lv_at hl 0 rfl) ?_
  refine va_get (D := D) (ci := 4) (v := .int (S.1 1 1)) (C := RX4) (T := TX4) (N := 6) hx hb hT inX4 hown hK hP 1 cw_Text rfl 1 (by decide) (hT _ wf_X4_13) (fun _ h9 => h9) rfl dX4_size_1 ?_
  exact W.iret (v := S.1 1 1) hx hb hr (fun t ht hW => ⟨⟨S.1 1 1, S, rfl, h, gB_of ht hP⟩, hS.F ht⟩) hS.2.2 dX4_size_4

abbrev rm_X4_empty : Room := { frames := 0, cells := 0, slots := 0, locals := 0 }
def p_X4_empty (S : CS)  (post : CS → Prop) : Prop := ∀ S_1 : CS, S_1 = sti S 1 1 0 → (post S_1)
set_option maxHeartbeats 4000000 in
set_option maxRecDepth 100000 in
theorem c_X4_empty (l : Launch) (D : va_G) (X : XE) (hX : Inj 75 X.1) (sz : Nat) (S : CS)  (post : CS → Prop) (h : p_X4_empty S  post) : Met l yX4_empty (Cond.code yX4_empty cX4_empty 1 none :: lw_gd) rm_X4_empty (gPc D (tyX X) (CW X) (FXc X) (AX 75 X.1 sz) sz S [.ref (X.1 1)]) (va_Qv post (gB D (CW X)) (AX 75 X.1 sz)) 0 0 (AX 75 X.1 sz) := by
  refine Met.ofW (cc := cX4_empty) (maxL := 1) (ret := none) (by decide) rfl ?_
  intro p e s m args below meth c s₁ B hml hv
  obtain ⟨rfl, hsz, hP, hK, hF⟩ := hv
  have hx := B.exec
  have hb := B.bytes
  have hr := B.returns
  have hts := atoms_spec (ws := (Cond.code yX4_empty cX4_empty 1 none :: lw_gd)) B.pre
  have hT : ∀ w ∈ lw_gd, w.before _ s = true := fun w h9 => hts w (List.mem_cons_of_mem _ h9)
  have hown : s.vm.findClass RX4 = some m.cls := findClass_of_methodNamed B.named
  have hlocks := B.notSynchronized
  subst hsz
  have hS : va_S (AX 75 X.1 s.heap.size) s.heap s.heap [] := va_S.rf
  have hl := lv_entry ([.ref (X.1 1)]) (n := 1) (Nat.le_of_ble_eq_true rfl)
  rw [lg_entry_eq]
  generalize (lg_sl ([.ref (X.1 1)]) ++ List.replicate (1 - (lg_sl ([.ref (X.1 1)])).length) Slot.unset).toArray = ls at hl ⊢
  have hl : lv_has ls 1 [(0, .ref (X.1 1))] := hl
  obtain ⟨H, hH⟩ : ∃ H : Heap, H = s.heap := ⟨_, rfl⟩
  obtain ⟨locs, hlc⟩ : ∃ q : List Loc, q = [] := ⟨_, rfl⟩
  have hS : va_S (AX 75 X.1 s.heap.size) s.heap H locs := by rw [hH, hlc]; exact hS
  have hP : va_P D vwCl (CW X S) H := by rw [hH]; exact hP
  show W p l e (headSpec (Cond.code yX4_empty cX4_empty 1 none :: lw_gd) rm_X4_empty).room s m ([.ref (X.1 1)] : List Value).toArray below meth c s.heap [] 0 0 (MQ below (va_Qv post (gB D (CW X)) (AX 75 X.1 s.heap.size)) ([.ref (X.1 1)] : List Value).toArray s 0 0 (AX 75 X.1 s.heap.size)) _
  suffices hgo : W p l e (headSpec (Cond.code yX4_empty cX4_empty 1 none :: lw_gd) rm_X4_empty).room s m ([.ref (X.1 1)] : List Value).toArray below meth c H locs 0 0 (MQ below (va_Qv post (gB D (CW X)) (AX 75 X.1 s.heap.size)) ([.ref (X.1 1)] : List Value).toArray s 0 0 (AX 75 X.1 s.heap.size)) (F0 m 0 ls []) from by rw [hH, hlc] at hgo; exact hgo
  unfold p_X4_empty at h
  refine lv_aload_n hx hb dX4_empty_0 rfl (lv_at hl 0 rfl) ?_
  refine lv_iconst (v := 0) hx hb dX4_empty_1 (by decide) ?_
  refine va_put (D := D) (ci := 4) (v := .int 0) (ty := .int) (C := RX4) (T := TX4) (N := 6) hx hb hT inX4 tyX4 tyX4_ok nmX4 hown hK hP (gw_D hX) hS 1 cw_Text rfl 1 (by decide) (hT _ wf_X4_13) (fun _ h9 => h9) rfl (by decide +kernel) rfl rfl (Nat.le_of_ble_eq_true rfl) dX4_empty_2 (fun H locs hP _ hS => ?_)
  have hP := cw_st (j := 1) (x := 0) rfl hP
  obtain ⟨S_1, eS_1⟩ : ∃ z : CS, z = sti S 1 1 0 := ⟨_, rfl⟩
  rw [← eS_1] at hP
  have h := h S_1 eS_1
  exact W.vret hx hb hr (fun t ht hW => ⟨⟨S_1, rfl, h, gB_of ht hP⟩, hS.F ht⟩) hS.2.2 dX4_empty_5

abbrev rm_X4_add : Room := { frames := 0, cells := 0, slots := 0, locals := 0 }
def p_X4_add (S : CS) (x1 : Int32) (post : Int32 → CS → Prop) : Prop := ((S.1 1 1) < 0 → (post 0 S)) ∧ (¬ ((S.1 1 1) < 0) → (((S.1 1 1) < 200 → (vp_in (S.1 1 1) 200 ∧ (∀ S_3 : CS, S_3 = sti S 2 ((S.1 1 1).toNatClampNeg) (vp_nar .char x1) → (∀ u_4 : Int32, u_4 = ((S_3.1 1 1) + 1) → (∀ S_5 : CS, S_5 = sti S_3 1 1 u_4 → (post 1 S_5)))))) ∧ (¬ ((S.1 1 1) < 200) → (post 0 S))))
set_option maxHeartbeats 4000000 in
set_option maxRecDepth 100000 in
theorem c_X4_add (l : Launch) (D : va_G) (X : XE) (hX : Inj 75 X.1) (sz : Nat) (S : CS) (x1 : Int32) (post : Int32 → CS → Prop) (h : p_X4_add S x1 post) : Met l yX4_add (Cond.code yX4_add cX4_add 2 (some .boolean) :: lw_gd) rm_X4_add (gPc D (tyX X) (CW X) (FXc X) (AX 75 X.1 sz) sz S [.ref (X.1 1), .int x1]) (va_Qi post (gB D (CW X)) (AX 75 X.1 sz)) 0 0 (AX 75 X.1 sz) := by
  refine Met.ofW (cc := cX4_add) (maxL := 2) (ret := (some .boolean)) (by decide) rfl ?_
  intro p e s m args below meth c s₁ B hml hv
  obtain ⟨rfl, hsz, hP, hK, hF⟩ := hv
  have hx := B.exec
  have hb := B.bytes
  have hr := B.returns
  have hts := atoms_spec (ws := (Cond.code yX4_add cX4_add 2 (some .boolean) :: lw_gd)) B.pre
  have hT : ∀ w ∈ lw_gd, w.before _ s = true := fun w h9 => hts w (List.mem_cons_of_mem _ h9)
  have hown : s.vm.findClass RX4 = some m.cls := findClass_of_methodNamed B.named
  have hlocks := B.notSynchronized
  subst hsz
  have hS : va_S (AX 75 X.1 s.heap.size) s.heap s.heap [] := va_S.rf
  have hl := lv_entry ([.ref (X.1 1), .int x1]) (n := 2) (Nat.le_of_ble_eq_true rfl)
  rw [lg_entry_eq]
  generalize (lg_sl ([.ref (X.1 1), .int x1]) ++ List.replicate (2 - (lg_sl ([.ref (X.1 1), .int x1])).length) Slot.unset).toArray = ls at hl ⊢
  have hl : lv_has ls 2 [(0, .ref (X.1 1)), (1, .int x1)] := hl
  obtain ⟨H, hH⟩ : ∃ H : Heap, H = s.heap := ⟨_, rfl⟩
  obtain ⟨locs, hlc⟩ : ∃ q : List Loc, q = [] := ⟨_, rfl⟩
  have hS : va_S (AX 75 X.1 s.heap.size) s.heap H locs := by rw [hH, hlc]; exact hS
  have hP : va_P D vwCl (CW X S) H := by rw [hH]; exact hP
  show W p l e (headSpec (Cond.code yX4_add cX4_add 2 (some .boolean) :: lw_gd) rm_X4_add).room s m ([.ref (X.1 1), .int x1] : List Value).toArray below meth c s.heap [] 0 0 (MQ below (va_Qi post (gB D (CW X)) (AX 75 X.1 s.heap.size)) ([.ref (X.1 1), .int x1] : List Value).toArray s 0 0 (AX 75 X.1 s.heap.size)) _
  suffices hgo : W p l e (headSpec (Cond.code yX4_add cX4_add 2 (some .boolean) :: lw_gd) rm_X4_add).room s m ([.ref (X.1 1), .int x1] : List Value).toArray below meth c H locs 0 0 (MQ below (va_Qi post (gB D (CW X)) (AX 75 X.1 s.heap.size)) ([.ref (X.1 1), .int x1] : List Value).toArray s 0 0 (AX 75 X.1 s.heap.size)) (F0 m 0 ls []) from by rw [hH, hlc] at hgo; exact hgo
  unfold p_X4_add at h
  refine lv_aload_n hx hb dX4_add_0 rfl (lv_at hl 0 rfl) ?_
  refine va_get (D := D) (ci := 4) (v := .int (S.1 1 1)) (C := RX4) (T := TX4) (N := 6) hx hb hT inX4 hown hK hP 1 cw_Text rfl 1 (by decide) (hT _ wf_X4_13) (fun _ h9 => h9) rfl dX4_add_1 ?_
  refine lv_if_lt (tgt := 17) hx hb dX4_add_4 (by decide) (fun c_1 => ?_) (fun c_1 => ?_)
  · have h := h.1 c_1
    refine lv_iconst (v := 0) hx hb dX4_add_17 (by decide) ?_
    exact W.zret (v := 0) hx hb hr rfl (fun t ht hW => ⟨⟨0, S, rfl, h, gB_of ht hP⟩, hS.F ht⟩) hS.2.2 dX4_add_18
  · have h := h.2 c_1
    refine lv_aload_n hx hb dX4_add_7 rfl (lv_at hl 0 rfl) ?_
    refine va_get (D := D) (ci := 4) (v := .int (S.1 1 1)) (C := RX4) (T := TX4) (N := 6) hx hb hT inX4 hown hK hP 1 cw_Text rfl 1 (by decide) (hT _ wf_X4_13) (fun _ h9 => h9) rfl dX4_add_8 ?_
    refine lv_sipush (v := 200) hx hb dX4_add_11 (by decide) ?_
    refine lv_icmp_lt (tgt := 19) hx hb dX4_add_14 (by decide) (fun c_2 => ?_) (fun c_2 => ?_)
    · have h := h.1 c_2
      refine lv_aload_n hx hb dX4_add_19 rfl (lv_at hl 0 rfl) ?_
      refine va_get (D := D) (ci := 4) (v := .ref (X.1 2)) (C := RX4) (T := TX4) (N := 6) hx hb hT inX4 hown hK hP 1 cw_Text rfl 0 (by decide) (hT _ wf_X4_9) (fun _ h9 => h9) rfl dX4_add_20 ?_
      refine lv_aload_n hx hb dX4_add_23 rfl (lv_at hl 0 rfl) ?_
      refine va_get (D := D) (ci := 4) (v := .int (S.1 1 1)) (C := RX4) (T := TX4) (N := 6) hx hb hT inX4 hown hK hP 1 cw_Text rfl 1 (by decide) (hT _ wf_X4_13) (fun _ h9 => h9) rfl dX4_add_24 ?_
      refine lv_iload_n hx hb dX4_add_27 rfl (lv_at hl 1 rfl) ?_
      obtain ⟨hi, h⟩ := h
      refine g_cast hx hb hK hP (gw_D hX) hS 2 cw_2 rfl hi ((S.1 1 1).toNatClampNeg) rfl dX4_add_28 (fun H locs hP hS => ?_)
      have hP := cw_st (j := (S.1 1 1).toNatClampNeg) (x := (vp_nar .char x1)) rfl hP
      obtain ⟨S_3, eS_3⟩ : ∃ z : CS, z = sti S 2 ((S.1 1 1).toNatClampNeg) (vp_nar .char x1) := ⟨_, rfl⟩
      rw [← eS_3] at hP
      have h := h S_3 eS_3
      refine lv_aload_n hx hb dX4_add_29 rfl (lv_at hl 0 rfl) ?_
      refine lv_dup hx hb dX4_add_30 rfl ?_
      refine va_get (D := D) (ci := 4) (v := .int (S_3.1 1 1)) (C := RX4) (T := TX4) (N := 6) hx hb hT inX4 hown hK hP 1 cw_Text rfl 1 (by decide) (hT _ wf_X4_13) (fun _ h9 => h9) rfl dX4_add_31 ?_
      refine lv_iconst (v := 1) hx hb dX4_add_34 (by decide) ?_
      refine lv_iadd hx hb dX4_add_35 ?_
      refine lv_topi (fun u_4 eu_4 => ?_)
      have h := h u_4 eu_4
      refine va_put (D := D) (ci := 4) (v := .int u_4) (ty := .int) (C := RX4) (T := TX4) (N := 6) hx hb hT inX4 tyX4 tyX4_ok nmX4 hown hK hP (gw_D hX) hS 1 cw_Text rfl 1 (by decide) (hT _ wf_X4_13) (fun _ h9 => h9) rfl (by decide +kernel) rfl rfl (Nat.le_of_ble_eq_true rfl) dX4_add_36 (fun H locs hP _ hS => ?_)
      have hP := cw_st (j := 1) (x := u_4) rfl hP
      obtain ⟨S_5, eS_5⟩ : ∃ z : CS, z = sti S_3 1 1 u_4 := ⟨_, rfl⟩
      rw [← eS_5] at hP
      have h := h S_5 eS_5
      refine lv_iconst (v := 1) hx hb dX4_add_39 (by decide) ?_
      exact W.zret (v := 1) hx hb hr rfl (fun t ht hW => ⟨⟨1, S_5, rfl, h, gB_of ht hP⟩, hS.F ht⟩) hS.2.2 dX4_add_40
    · have h := h.2 c_2
      refine lv_iconst (v := 0) hx hb dX4_add_17 (by decide) ?_
      exact W.zret (v := 0) hx hb hr rfl (fun t ht hW => ⟨⟨0, S, rfl, h, gB_of ht hP⟩, hS.F ht⟩) hS.2.2 dX4_add_18

abbrev rm_X4_rewind : Room := { frames := 0, cells := 0, slots := 0, locals := 0 }
def p_X4_rewind (S : CS)  (post : CS → Prop) : Prop := ∀ S_1 : CS, S_1 = sti S 1 3 0 → (post S_1)
set_option maxHeartbeats 4000000 in
set_option maxRecDepth 100000 in
theorem c_X4_rewind (l : Launch) (D : va_G) (X : XE) (hX : Inj 75 X.1) (sz : Nat) (S : CS)  (post : CS → Prop) (h : p_X4_rewind S  post) : Met l yX4_rewind (Cond.code yX4_rewind cX4_rewind 1 none :: lw_gd) rm_X4_rewind (gPc D (tyX X) (CW X) (FXc X) (AX 75 X.1 sz) sz S [.ref (X.1 1)]) (va_Qv post (gB D (CW X)) (AX 75 X.1 sz)) 0 0 (AX 75 X.1 sz) := by
  refine Met.ofW (cc := cX4_rewind) (maxL := 1) (ret := none) (by decide) rfl ?_
  intro p e s m args below meth c s₁ B hml hv
  obtain ⟨rfl, hsz, hP, hK, hF⟩ := hv
  have hx := B.exec
  have hb := B.bytes
  have hr := B.returns
  have hts := atoms_spec (ws := (Cond.code yX4_rewind cX4_rewind 1 none :: lw_gd)) B.pre
  have hT : ∀ w ∈ lw_gd, w.before _ s = true := fun w h9 => hts w (List.mem_cons_of_mem _ h9)
  have hown : s.vm.findClass RX4 = some m.cls := findClass_of_methodNamed B.named
  have hlocks := B.notSynchronized
  subst hsz
  have hS : va_S (AX 75 X.1 s.heap.size) s.heap s.heap [] := va_S.rf
  have hl := lv_entry ([.ref (X.1 1)]) (n := 1) (Nat.le_of_ble_eq_true rfl)
  rw [lg_entry_eq]
  generalize (lg_sl ([.ref (X.1 1)]) ++ List.replicate (1 - (lg_sl ([.ref (X.1 1)])).length) Slot.unset).toArray = ls at hl ⊢
  have hl : lv_has ls 1 [(0, .ref (X.1 1))] := hl
  obtain ⟨H, hH⟩ : ∃ H : Heap, H = s.heap := ⟨_, rfl⟩
  obtain ⟨locs, hlc⟩ : ∃ q : List Loc, q = [] := ⟨_, rfl⟩
  have hS : va_S (AX 75 X.1 s.heap.size) s.heap H locs := by rw [hH, hlc]; exact hS
  have hP : va_P D vwCl (CW X S) H := by rw [hH]; exact hP
  show W p l e (headSpec (Cond.code yX4_rewind cX4_rewind 1 none :: lw_gd) rm_X4_rewind).room s m ([.ref (X.1 1)] : List Value).toArray below meth c s.heap [] 0 0 (MQ below (va_Qv post (gB D (CW X)) (AX 75 X.1 s.heap.size)) ([.ref (X.1 1)] : List Value).toArray s 0 0 (AX 75 X.1 s.heap.size)) _
  suffices hgo : W p l e (headSpec (Cond.code yX4_rewind cX4_rewind 1 none :: lw_gd) rm_X4_rewind).room s m ([.ref (X.1 1)] : List Value).toArray below meth c H locs 0 0 (MQ below (va_Qv post (gB D (CW X)) (AX 75 X.1 s.heap.size)) ([.ref (X.1 1)] : List Value).toArray s 0 0 (AX 75 X.1 s.heap.size)) (F0 m 0 ls []) from by rw [hH, hlc] at hgo; exact hgo
  unfold p_X4_rewind at h
  refine lv_aload_n hx hb dX4_rewind_0 rfl (lv_at hl 0 rfl) ?_
  refine lv_iconst (v := 0) hx hb dX4_rewind_1 (by decide) ?_
  refine va_put (D := D) (ci := 4) (v := .int 0) (ty := .int) (C := RX4) (T := TX4) (N := 6) hx hb hT inX4 tyX4 tyX4_ok nmX4 hown hK hP (gw_D hX) hS 1 cw_Text rfl 3 (by decide) (hT _ wf_X4_17) (fun _ h9 => h9) rfl (by decide +kernel) rfl rfl (Nat.le_of_ble_eq_true rfl) dX4_rewind_2 (fun H locs hP _ hS => ?_)
  have hP := cw_st (j := 3) (x := 0) rfl hP
  obtain ⟨S_1, eS_1⟩ : ∃ z : CS, z = sti S 1 3 0 := ⟨_, rfl⟩
  rw [← eS_1] at hP
  have h := h S_1 eS_1
  exact W.vret hx hb hr (fun t ht hW => ⟨⟨S_1, rfl, h, gB_of ht hP⟩, hS.F ht⟩) hS.2.2 dX4_rewind_5

abbrev rm_X4_tokenStart : Room := { frames := 0, cells := 0, slots := 0, locals := 0 }
def p_X4_tokenStart (S : CS)  (post : Int32 → CS → Prop) : Prop := post (S.1 1 2) S
set_option maxHeartbeats 4000000 in
set_option maxRecDepth 100000 in
theorem c_X4_tokenStart (l : Launch) (D : va_G) (X : XE) (hX : Inj 75 X.1) (sz : Nat) (S : CS)  (post : Int32 → CS → Prop) (h : p_X4_tokenStart S  post) : Met l yX4_tokenStart (Cond.code yX4_tokenStart cX4_tokenStart 1 (some .int) :: lw_gd) rm_X4_tokenStart (gPc D (tyX X) (CW X) (FXc X) (AX 75 X.1 sz) sz S [.ref (X.1 1)]) (va_Qi post (gB D (CW X)) (AX 75 X.1 sz)) 0 0 (AX 75 X.1 sz) := by
  refine Met.ofW (cc := cX4_tokenStart) (maxL := 1) (ret := (some .int)) (by decide) rfl ?_
  intro p e s m args below meth c s₁ B hml hv
  obtain ⟨rfl, hsz, hP, hK, hF⟩ := hv
  have hx := B.exec
  have hb := B.bytes
  have hr := B.returns
  have hts := atoms_spec (ws := (Cond.code yX4_tokenStart cX4_tokenStart 1 (some .int) :: lw_gd)) B.pre
  have hT : ∀ w ∈ lw_gd, w.before _ s = true := fun w h9 => hts w (List.mem_cons_of_mem _ h9)
  have hown : s.vm.findClass RX4 = some m.cls := findClass_of_methodNamed B.named
  have hlocks := B.notSynchronized
  subst hsz
  have hS : va_S (AX 75 X.1 s.heap.size) s.heap s.heap [] := va_S.rf
  have hl := lv_entry ([.ref (X.1 1)]) (n := 1) (Nat.le_of_ble_eq_true rfl)
  rw [lg_entry_eq]
  generalize (lg_sl ([.ref (X.1 1)]) ++ List.replicate (1 - (lg_sl ([.ref (X.1 1)])).length) Slot.unset).toArray = ls at hl ⊢
  have hl : lv_has ls 1 [(0, .ref (X.1 1))] := hl
  obtain ⟨H, hH⟩ : ∃ H : Heap, H = s.heap := ⟨_, rfl⟩
  obtain ⟨locs, hlc⟩ : ∃ q : List Loc, q = [] := ⟨_, rfl⟩
  have hS : va_S (AX 75 X.1 s.heap.size) s.heap H locs := by rw [hH, hlc]; exact hS
  have hP : va_P D vwCl (CW X S) H := by rw [hH]; exact hP
  show W p l e (headSpec (Cond.code yX4_tokenStart cX4_tokenStart 1 (some .int) :: lw_gd) rm_X4_tokenStart).room s m ([.ref (X.1 1)] : List Value).toArray below meth c s.heap [] 0 0 (MQ below (va_Qi post (gB D (CW X)) (AX 75 X.1 s.heap.size)) ([.ref (X.1 1)] : List Value).toArray s 0 0 (AX 75 X.1 s.heap.size)) _
  suffices hgo : W p l e (headSpec (Cond.code yX4_tokenStart cX4_tokenStart 1 (some .int) :: lw_gd) rm_X4_tokenStart).room s m ([.ref (X.1 1)] : List Value).toArray below meth c H locs 0 0 (MQ below (va_Qi post (gB D (CW X)) (AX 75 X.1 s.heap.size)) ([.ref (X.1 1)] : List Value).toArray s 0 0 (AX 75 X.1 s.heap.size)) (F0 m 0 ls []) from by rw [hH, hlc] at hgo; exact hgo
  unfold p_X4_tokenStart at h
  refine lv_aload_n hx hb dX4_tokenStart_0 rfl (lv_at hl 0 rfl) ?_
  refine va_get (D := D) (ci := 4) (v := .int (S.1 1 2)) (C := RX4) (T := TX4) (N := 6) hx hb hT inX4 hown hK hP 1 cw_Text rfl 2 (by decide) (hT _ wf_X4_20) (fun _ h9 => h9) rfl dX4_tokenStart_1 ?_
  exact W.iret (v := S.1 1 2) hx hb hr (fun t ht hW => ⟨⟨S.1 1 2, S, rfl, h, gB_of ht hP⟩, hS.F ht⟩) hS.2.2 dX4_tokenStart_4

abbrev rm_X4_tokenNumber : Room := { frames := 0, cells := 0, slots := 0, locals := 0 }
def p_X4_tokenNumber (S : CS)  (post : Int32 → CS → Prop) : Prop := post (S.1 1 5) S
set_option maxHeartbeats 4000000 in
set_option maxRecDepth 100000 in
theorem c_X4_tokenNumber (l : Launch) (D : va_G) (X : XE) (hX : Inj 75 X.1) (sz : Nat) (S : CS)  (post : Int32 → CS → Prop) (h : p_X4_tokenNumber S  post) : Met l yX4_tokenNumber (Cond.code yX4_tokenNumber cX4_tokenNumber 1 (some .int) :: lw_gd) rm_X4_tokenNumber (gPc D (tyX X) (CW X) (FXc X) (AX 75 X.1 sz) sz S [.ref (X.1 1)]) (va_Qi post (gB D (CW X)) (AX 75 X.1 sz)) 0 0 (AX 75 X.1 sz) := by
  refine Met.ofW (cc := cX4_tokenNumber) (maxL := 1) (ret := (some .int)) (by decide) rfl ?_
  intro p e s m args below meth c s₁ B hml hv
  obtain ⟨rfl, hsz, hP, hK, hF⟩ := hv
  have hx := B.exec
  have hb := B.bytes
  have hr := B.returns
  have hts := atoms_spec (ws := (Cond.code yX4_tokenNumber cX4_tokenNumber 1 (some .int) :: lw_gd)) B.pre
  have hT : ∀ w ∈ lw_gd, w.before _ s = true := fun w h9 => hts w (List.mem_cons_of_mem _ h9)
  have hown : s.vm.findClass RX4 = some m.cls := findClass_of_methodNamed B.named
  have hlocks := B.notSynchronized
  subst hsz
  have hS : va_S (AX 75 X.1 s.heap.size) s.heap s.heap [] := va_S.rf
  have hl := lv_entry ([.ref (X.1 1)]) (n := 1) (Nat.le_of_ble_eq_true rfl)
  rw [lg_entry_eq]
  generalize (lg_sl ([.ref (X.1 1)]) ++ List.replicate (1 - (lg_sl ([.ref (X.1 1)])).length) Slot.unset).toArray = ls at hl ⊢
  have hl : lv_has ls 1 [(0, .ref (X.1 1))] := hl
  obtain ⟨H, hH⟩ : ∃ H : Heap, H = s.heap := ⟨_, rfl⟩
  obtain ⟨locs, hlc⟩ : ∃ q : List Loc, q = [] := ⟨_, rfl⟩
  have hS : va_S (AX 75 X.1 s.heap.size) s.heap H locs := by rw [hH, hlc]; exact hS
  have hP : va_P D vwCl (CW X S) H := by rw [hH]; exact hP
  show W p l e (headSpec (Cond.code yX4_tokenNumber cX4_tokenNumber 1 (some .int) :: lw_gd) rm_X4_tokenNumber).room s m ([.ref (X.1 1)] : List Value).toArray below meth c s.heap [] 0 0 (MQ below (va_Qi post (gB D (CW X)) (AX 75 X.1 s.heap.size)) ([.ref (X.1 1)] : List Value).toArray s 0 0 (AX 75 X.1 s.heap.size)) _
  suffices hgo : W p l e (headSpec (Cond.code yX4_tokenNumber cX4_tokenNumber 1 (some .int) :: lw_gd) rm_X4_tokenNumber).room s m ([.ref (X.1 1)] : List Value).toArray below meth c H locs 0 0 (MQ below (va_Qi post (gB D (CW X)) (AX 75 X.1 s.heap.size)) ([.ref (X.1 1)] : List Value).toArray s 0 0 (AX 75 X.1 s.heap.size)) (F0 m 0 ls []) from by rw [hH, hlc] at hgo; exact hgo
  unfold p_X4_tokenNumber at h
  refine lv_aload_n hx hb dX4_tokenNumber_0 rfl (lv_at hl 0 rfl) ?_
  refine va_get (D := D) (ci := 4) (v := .int (S.1 1 5)) (C := RX4) (T := TX4) (N := 6) hx hb hT inX4 hown hK hP 1 cw_Text rfl 5 (by decide) (hT _ wf_X4_23) (fun _ h9 => h9) rfl dX4_tokenNumber_1 ?_
  exact W.iret (v := S.1 1 5) hx hb hr (fun t ht hW => ⟨⟨S.1 1 5, S, rfl, h, gB_of ht hP⟩, hS.F ht⟩) hS.2.2 dX4_tokenNumber_4

abbrev rm_X4_letterAt : Room := { frames := 0, cells := 0, slots := 0, locals := 0 }
def p_X4_letterAt (S : CS) (x1 : Int32) (post : Int32 → CS → Prop) : Prop := (x1 < 0 → (post 32 S)) ∧ (¬ (x1 < 0) → ((x1 < 200 → (vp_in x1 200 ∧ (post (S.1 2 x1.toNatClampNeg) S))) ∧ (¬ (x1 < 200) → (post 32 S))))
set_option maxHeartbeats 4000000 in
set_option maxRecDepth 100000 in
theorem c_X4_letterAt (l : Launch) (D : va_G) (X : XE) (hX : Inj 75 X.1) (sz : Nat) (S : CS) (x1 : Int32) (post : Int32 → CS → Prop) (h : p_X4_letterAt S x1 post) : Met l yX4_letterAt (Cond.code yX4_letterAt cX4_letterAt 2 (some .int) :: lw_gd) rm_X4_letterAt (gPc D (tyX X) (CW X) (FXc X) (AX 75 X.1 sz) sz S [.ref (X.1 1), .int x1]) (va_Qi post (gB D (CW X)) (AX 75 X.1 sz)) 0 0 (AX 75 X.1 sz) := by
  refine Met.ofW (cc := cX4_letterAt) (maxL := 2) (ret := (some .int)) (by decide) rfl ?_
  intro p e s m args below meth c s₁ B hml hv
  obtain ⟨rfl, hsz, hP, hK, hF⟩ := hv
  have hx := B.exec
  have hb := B.bytes
  have hr := B.returns
  have hts := atoms_spec (ws := (Cond.code yX4_letterAt cX4_letterAt 2 (some .int) :: lw_gd)) B.pre
  have hT : ∀ w ∈ lw_gd, w.before _ s = true := fun w h9 => hts w (List.mem_cons_of_mem _ h9)
  have hown : s.vm.findClass RX4 = some m.cls := findClass_of_methodNamed B.named
  have hlocks := B.notSynchronized
  subst hsz
  have hS : va_S (AX 75 X.1 s.heap.size) s.heap s.heap [] := va_S.rf
  have hl := lv_entry ([.ref (X.1 1), .int x1]) (n := 2) (Nat.le_of_ble_eq_true rfl)
  rw [lg_entry_eq]
  generalize (lg_sl ([.ref (X.1 1), .int x1]) ++ List.replicate (2 - (lg_sl ([.ref (X.1 1), .int x1])).length) Slot.unset).toArray = ls at hl ⊢
  have hl : lv_has ls 2 [(0, .ref (X.1 1)), (1, .int x1)] := hl
  obtain ⟨H, hH⟩ : ∃ H : Heap, H = s.heap := ⟨_, rfl⟩
  obtain ⟨locs, hlc⟩ : ∃ q : List Loc, q = [] := ⟨_, rfl⟩
  have hS : va_S (AX 75 X.1 s.heap.size) s.heap H locs := by rw [hH, hlc]; exact hS
  have hP : va_P D vwCl (CW X S) H := by rw [hH]; exact hP
  show W p l e (headSpec (Cond.code yX4_letterAt cX4_letterAt 2 (some .int) :: lw_gd) rm_X4_letterAt).room s m ([.ref (X.1 1), .int x1] : List Value).toArray below meth c s.heap [] 0 0 (MQ below (va_Qi post (gB D (CW X)) (AX 75 X.1 s.heap.size)) ([.ref (X.1 1), .int x1] : List Value).toArray s 0 0 (AX 75 X.1 s.heap.size)) _
  suffices hgo : W p l e (headSpec (Cond.code yX4_letterAt cX4_letterAt 2 (some .int) :: lw_gd) rm_X4_letterAt).room s m ([.ref (X.1 1), .int x1] : List Value).toArray below meth c H locs 0 0 (MQ below (va_Qi post (gB D (CW X)) (AX 75 X.1 s.heap.size)) ([.ref (X.1 1), .int x1] : List Value).toArray s 0 0 (AX 75 X.1 s.heap.size)) (F0 m 0 ls []) from by rw [hH, hlc] at hgo; exact hgo
  unfold p_X4_letterAt at h
  refine lv_iload_n hx hb dX4_letterAt_0 rfl (lv_at hl 1 rfl) ?_
  refine lv_if_lt (tgt := 11) hx hb dX4_letterAt_1 (by decide) (fun c_1 => ?_) (fun c_1 => ?_)
  · have h := h.1 c_1
    refine lv_bipush (v := 32) hx hb dX4_letterAt_11 (by decide) ?_
    refine lv_goto (tgt := 22) hx hb dX4_letterAt_13 (by decide) ?_
    exact W.iret (v := 32) hx hb hr (fun t ht hW => ⟨⟨32, S, rfl, h, gB_of ht hP⟩, hS.F ht⟩) hS.2.2 dX4_letterAt_22
  · have h := h.2 c_1
    refine lv_iload_n hx hb dX4_letterAt_4 rfl (lv_at hl 1 rfl) ?_
    refine lv_sipush (v := 200) hx hb dX4_letterAt_5 (by decide) ?_
    refine lv_icmp_lt (tgt := 16) hx hb dX4_letterAt_8 (by decide) (fun c_2 => ?_) (fun c_2 => ?_)
    · have h := h.1 c_2
      refine lv_aload_n hx hb dX4_letterAt_16 rfl (lv_at hl 0 rfl) ?_
      refine va_get (D := D) (ci := 4) (v := .ref (X.1 2)) (C := RX4) (T := TX4) (N := 6) hx hb hT inX4 hown hK hP 1 cw_Text rfl 0 (by decide) (hT _ wf_X4_9) (fun _ h9 => h9) rfl dX4_letterAt_17 ?_
      refine lv_iload_n hx hb dX4_letterAt_20 rfl (lv_at hl 1 rfl) ?_
      obtain ⟨hi, h⟩ := h
      refine g_cald hx hb hK hP 2 cw_2 rfl hi x1.toNatClampNeg rfl dX4_letterAt_21 ?_
      exact W.iret (v := S.1 2 x1.toNatClampNeg) hx hb hr (fun t ht hW => ⟨⟨S.1 2 x1.toNatClampNeg, S, rfl, h, gB_of ht hP⟩, hS.F ht⟩) hS.2.2 dX4_letterAt_22
    · have h := h.2 c_2
      refine lv_bipush (v := 32) hx hb dX4_letterAt_11 (by decide) ?_
      refine lv_goto (tgt := 22) hx hb dX4_letterAt_13 (by decide) ?_
      exact W.iret (v := 32) hx hb hr (fun t ht hW => ⟨⟨32, S, rfl, h, gB_of ht hP⟩, hS.F ht⟩) hS.2.2 dX4_letterAt_22

abbrev rm_X4_isDigit : Room := { frames := 1, cells := 0, slots := 0, locals := 21 }
def p_X4_isDigit (S : CS) (x1 : Int32) (post : Int32 → CS → Prop) : Prop := p_X4_letterAt S x1 (fun r_2 S_1 => ((r_2 < 48 → (post 0 S_1)) ∧ (¬ (r_2 < 48) → ((57 < r_2 → (post 0 S_1)) ∧ (¬ (57 < r_2) → (post 1 S_1))))))
set_option maxHeartbeats 4000000 in
set_option maxRecDepth 100000 in
theorem c_X4_isDigit (l : Launch) (D : va_G) (X : XE) (hX : Inj 75 X.1) (sz : Nat) (S : CS) (x1 : Int32) (post : Int32 → CS → Prop) (h : p_X4_isDigit S x1 post) : Met l yX4_isDigit (Cond.code yX4_isDigit cX4_isDigit 3 (some .boolean) :: lw_gd) rm_X4_isDigit (gPc D (tyX X) (CW X) (FXc X) (AX 75 X.1 sz) sz S [.ref (X.1 1), .int x1]) (va_Qi post (gB D (CW X)) (AX 75 X.1 sz)) 0 0 (AX 75 X.1 sz) := by
  refine Met.ofW (cc := cX4_isDigit) (maxL := 3) (ret := (some .boolean)) (by decide) rfl ?_
  intro p e s m args below meth c s₁ B hml hv
  obtain ⟨rfl, hsz, hP, hK, hF⟩ := hv
  have hx := B.exec
  have hb := B.bytes
  have hr := B.returns
  have hts := atoms_spec (ws := (Cond.code yX4_isDigit cX4_isDigit 3 (some .boolean) :: lw_gd)) B.pre
  have hT : ∀ w ∈ lw_gd, w.before _ s = true := fun w h9 => hts w (List.mem_cons_of_mem _ h9)
  have hown : s.vm.findClass RX4 = some m.cls := findClass_of_methodNamed B.named
  have hlocks := B.notSynchronized
  subst hsz
  have hS : va_S (AX 75 X.1 s.heap.size) s.heap s.heap [] := va_S.rf
  have hl := lv_entry ([.ref (X.1 1), .int x1]) (n := 3) (Nat.le_of_ble_eq_true rfl)
  rw [lg_entry_eq]
  generalize (lg_sl ([.ref (X.1 1), .int x1]) ++ List.replicate (3 - (lg_sl ([.ref (X.1 1), .int x1])).length) Slot.unset).toArray = ls at hl ⊢
  have hl : lv_has ls 3 [(0, .ref (X.1 1)), (1, .int x1)] := hl
  obtain ⟨H, hH⟩ : ∃ H : Heap, H = s.heap := ⟨_, rfl⟩
  obtain ⟨locs, hlc⟩ : ∃ q : List Loc, q = [] := ⟨_, rfl⟩
  have hS : va_S (AX 75 X.1 s.heap.size) s.heap H locs := by rw [hH, hlc]; exact hS
  have hP : va_P D vwCl (CW X S) H := by rw [hH]; exact hP
  show W p l e (headSpec (Cond.code yX4_isDigit cX4_isDigit 3 (some .boolean) :: lw_gd) rm_X4_isDigit).room s m ([.ref (X.1 1), .int x1] : List Value).toArray below meth c s.heap [] 0 0 (MQ below (va_Qi post (gB D (CW X)) (AX 75 X.1 s.heap.size)) ([.ref (X.1 1), .int x1] : List Value).toArray s 0 0 (AX 75 X.1 s.heap.size)) _
  suffices hgo : W p l e (headSpec (Cond.code yX4_isDigit cX4_isDigit 3 (some .boolean) :: lw_gd) rm_X4_isDigit).room s m ([.ref (X.1 1), .int x1] : List Value).toArray below meth c H locs 0 0 (MQ below (va_Qi post (gB D (CW X)) (AX 75 X.1 s.heap.size)) ([.ref (X.1 1), .int x1] : List Value).toArray s 0 0 (AX 75 X.1 s.heap.size)) (F0 m 0 ls []) from by rw [hH, hlc] at hgo; exact hgo
  unfold p_X4_isDigit at h
  refine lv_aload_n hx hb dX4_isDigit_0 rfl (lv_at hl 0 rfl) ?_
  refine lv_iload_n hx hb dX4_isDigit_1 rfl (lv_at hl 1 rfl) ?_
  refine cVi (As := [.int x1]) (rest := []) hX ⟨hx, hb, hml, hown, hT⟩ (c_X4_letterAt l D X hX H.size S x1 _ h) (gd_V wl_X4_26 wi_X4_letterAt wv_X4_letterAt wn_X4 wc_X4_letterAt) rfl hd_X4_letterAt ⟨rfl, rfl⟩ ⟨Nat.le_of_ble_eq_true rfl, Nat.le_of_ble_eq_true rfl⟩ (va_recv hK hP (ci := 4) (q0 := 1) rfl cw_Text) hK hP hS hF rfl hl.1 rfl (Nat.le_of_ble_eq_true rfl) dX4_isDigit_2 ⟨Nat.zero_le _, Nat.zero_le _⟩ (fun r_2 S_1 H locs h hP hS => ?_)
  refine lv_istore_n (lv' := [(2, .int r_2), (0, .ref (X.1 1)), (1, .int x1)]) hx hb dX4_isDigit_5 rfl hl (by decide) rfl (fun ls hl => ?_)
  refine lv_iload_n hx hb dX4_isDigit_6 rfl (lv_at hl 0 rfl) ?_
  refine lv_bipush (v := 48) hx hb dX4_isDigit_7 (by decide) ?_
  refine lv_icmp_lt (tgt := 22) hx hb dX4_isDigit_9 (by decide) (fun c_3 => ?_) (fun c_3 => ?_)
  · have h := h.1 c_3
    refine lv_iconst (v := 0) hx hb dX4_isDigit_22 (by decide) ?_
    exact W.zret (v := 0) hx hb hr rfl (fun t ht hW => ⟨⟨0, S_1, rfl, h, gB_of ht hP⟩, hS.F ht⟩) hS.2.2 dX4_isDigit_23
  · have h := h.2 c_3
    refine lv_iload_n hx hb dX4_isDigit_12 rfl (lv_at hl 0 rfl) ?_
    refine lv_bipush (v := 57) hx hb dX4_isDigit_13 (by decide) ?_
    refine lv_icmp_gt (tgt := 22) hx hb dX4_isDigit_15 (by decide) (fun c_4 => ?_) (fun c_4 => ?_)
    · have h := h.1 c_4
      refine lv_iconst (v := 0) hx hb dX4_isDigit_22 (by decide) ?_
      exact W.zret (v := 0) hx hb hr rfl (fun t ht hW => ⟨⟨0, S_1, rfl, h, gB_of ht hP⟩, hS.F ht⟩) hS.2.2 dX4_isDigit_23
    · have h := h.2 c_4
      refine lv_iconst (v := 1) hx hb dX4_isDigit_18 (by decide) ?_
      refine lv_goto (tgt := 23) hx hb dX4_isDigit_19 (by decide) ?_
      exact W.zret (v := 1) hx hb hr rfl (fun t ht hW => ⟨⟨1, S_1, rfl, h, gB_of ht hP⟩, hS.F ht⟩) hS.2.2 dX4_isDigit_23

abbrev rm_X4_readNumber : Room := { frames := 2, cells := 0, slots := 0, locals := 43 }
def q_X4_readNumber_99  (post : CS → Prop) (z0 : Int32) (S : CS) : Prop := (z0 = 0 → (((S.1 1 5) ≤ 99 → (∀ S_9 : CS, S_9 = sti S 1 4 (-2) → (post S_9))) ∧ (¬ ((S.1 1 5) ≤ 99) → (∀ S_10 : CS, S_10 = sti S 1 4 (-3) → (post S_10))))) ∧ (¬ (z0 = 0) → (∀ S_7 : CS, S_7 = sti S 1 4 (-3) → (post S_7)))
def q_X4_readNumber_68  (post : CS → Prop) (S : CS) : Prop := p_X4_letterAt S (S.1 1 2) (fun r_4 S_3 => ((r_4 = 48 → ((((S_3.1 1 3) - (S_3.1 1 2)) ≤ 1 → (q_X4_readNumber_99 post 0 S_3)) ∧ (¬ (((S_3.1 1 3) - (S_3.1 1 2)) ≤ 1) → (q_X4_readNumber_99 post 1 S_3)))) ∧ (¬ (r_4 = 48) → (q_X4_readNumber_99 post 0 S_3))))
def q_X4_readNumber_5  (post : CS → Prop) : Nat → CS → Prop
  | 0, _ => False
  | n9 + 1, S => ((S.1 1 1) ≤ (S.1 1 3) → (q_X4_readNumber_68 post  S)) ∧ (¬ ((S.1 1 1) ≤ (S.1 1 3)) → (p_X4_isDigit S (S.1 1 3) (fun r_13 S_12 => ((r_13 = 0 → (q_X4_readNumber_68 post  S_12)) ∧ (¬ (r_13 = 0) → (p_X4_letterAt S_12 (S_12.1 1 3) (fun r_16 S_15 => (∀ u_17 : Int32, u_17 = (if ((((S_12.1 1 5) * 10) + r_16) - 48) < 100 then ((((S_12.1 1 5) * 10) + r_16) - 48) else 100) → (∀ S_18 : CS, S_18 = sti S_15 1 5 u_17 → (∀ u_19 : Int32, u_19 = ((S_18.1 1 3) + 1) → (∀ S_20 : CS, S_20 = sti S_18 1 3 u_19 → (q_X4_readNumber_5 post n9  S_20))))))))))))
def p_X4_readNumber (S : CS)  (post : CS → Prop) : Prop := ∀ S_1 : CS, S_1 = sti S 1 5 0 → (∃ n, q_X4_readNumber_5 post n  S_1)
set_option maxHeartbeats 4000000 in
set_option maxRecDepth 100000 in
theorem c_X4_readNumber (l : Launch) (D : va_G) (X : XE) (hX : Inj 75 X.1) (sz : Nat) (S : CS)  (post : CS → Prop) (h : p_X4_readNumber S  post) : Met l yX4_readNumber (Cond.code yX4_readNumber cX4_readNumber 2 none :: lw_gd) rm_X4_readNumber (gPc D (tyX X) (CW X) (FXc X) (AX 75 X.1 sz) sz S [.ref (X.1 1)]) (va_Qv post (gB D (CW X)) (AX 75 X.1 sz)) 0 0 (AX 75 X.1 sz) := by
  refine Met.ofW (cc := cX4_readNumber) (maxL := 2) (ret := none) (by decide) rfl ?_
  intro p e s m args below meth c s₁ B hml hv
  obtain ⟨rfl, hsz, hP, hK, hF⟩ := hv
  have hx := B.exec
  have hb := B.bytes
  have hr := B.returns
  have hts := atoms_spec (ws := (Cond.code yX4_readNumber cX4_readNumber 2 none :: lw_gd)) B.pre
  have hT : ∀ w ∈ lw_gd, w.before _ s = true := fun w h9 => hts w (List.mem_cons_of_mem _ h9)
  have hown : s.vm.findClass RX4 = some m.cls := findClass_of_methodNamed B.named
  have hlocks := B.notSynchronized
  subst hsz
  have hS : va_S (AX 75 X.1 s.heap.size) s.heap s.heap [] := va_S.rf
  have W99 : ∀ (z0 : Int32) (S : CS) (H : Heap) (locs : List Loc) (ls : Array Slot), va_P D vwCl (CW X S) H → va_S (AX 75 X.1 s.heap.size) s.heap H locs → lv_has ls 2 [(0, .ref (X.1 1))] → q_X4_readNumber_99 post z0 S → W p l e (headSpec (Cond.code yX4_readNumber cX4_readNumber 2 none :: lw_gd) rm_X4_readNumber).room s m ([.ref (X.1 1)] : List Value).toArray below meth c H locs 0 0 (MQ below (va_Qv post (gB D (CW X)) (AX 75 X.1 s.heap.size)) ([.ref (X.1 1)] : List Value).toArray s 0 0 (AX 75 X.1 s.heap.size)) (F0 m 99 ls [.int z0]) := by
    intro z0 S H locs ls hP hS hl h
    unfold q_X4_readNumber_99 at h
    refine lv_istore_n (lv' := [(1, .int z0), (0, .ref (X.1 1))]) hx hb dX4_readNumber_99 rfl hl (by decide) rfl (fun ls hl => ?_)
    refine lv_aload_n hx hb dX4_readNumber_100 rfl (lv_at hl 1 rfl) ?_
    refine lv_iload_n hx hb dX4_readNumber_101 rfl (lv_at hl 0 rfl) ?_
    refine lv_if_ne (tgt := 114) hx hb dX4_readNumber_102 (by decide) (fun c_6 => ?_) (fun c_6 => ?_)
    · have h := h.2 c_6
      refine lv_bipush (v := (-3)) hx hb dX4_readNumber_114 (by decide) ?_
      refine lv_goto (tgt := 121) hx hb dX4_readNumber_116 (by decide) ?_
      refine va_put (D := D) (ci := 4) (v := .int (-3)) (ty := .int) (C := RX4) (T := TX4) (N := 6) hx hb hT inX4 tyX4 tyX4_ok nmX4 hown hK hP (gw_D hX) hS 1 cw_Text rfl 4 (by decide) (hT _ wf_X4_30) (fun _ h9 => h9) rfl (by decide +kernel) rfl rfl (Nat.le_of_ble_eq_true rfl) dX4_readNumber_121 (fun H locs hP _ hS => ?_)
      have hP := cw_st (j := 4) (x := (-3)) rfl hP
      obtain ⟨S_7, eS_7⟩ : ∃ z : CS, z = sti S 1 4 (-3) := ⟨_, rfl⟩
      rw [← eS_7] at hP
      have h := h S_7 eS_7
      exact W.vret hx hb hr (fun t ht hW => ⟨⟨S_7, rfl, h, gB_of ht hP⟩, hS.F ht⟩) hS.2.2 dX4_readNumber_124
    · have h := h.1 c_6
      refine lv_aload_n hx hb dX4_readNumber_105 rfl (lv_at hl 1 rfl) ?_
      refine va_get (D := D) (ci := 4) (v := .int (S.1 1 5)) (C := RX4) (T := TX4) (N := 6) hx hb hT inX4 hown hK hP 1 cw_Text rfl 5 (by decide) (hT _ wf_X4_23) (fun _ h9 => h9) rfl dX4_readNumber_106 ?_
      refine lv_bipush (v := 99) hx hb dX4_readNumber_109 (by decide) ?_
      refine lv_icmp_le (tgt := 119) hx hb dX4_readNumber_111 (by decide) (fun c_8 => ?_) (fun c_8 => ?_)
      · have h := h.1 c_8
        refine lv_bipush (v := (-2)) hx hb dX4_readNumber_119 (by decide) ?_
        refine va_put (D := D) (ci := 4) (v := .int (-2)) (ty := .int) (C := RX4) (T := TX4) (N := 6) hx hb hT inX4 tyX4 tyX4_ok nmX4 hown hK hP (gw_D hX) hS 1 cw_Text rfl 4 (by decide) (hT _ wf_X4_30) (fun _ h9 => h9) rfl (by decide +kernel) rfl rfl (Nat.le_of_ble_eq_true rfl) dX4_readNumber_121 (fun H locs hP _ hS => ?_)
        have hP := cw_st (j := 4) (x := (-2)) rfl hP
        obtain ⟨S_9, eS_9⟩ : ∃ z : CS, z = sti S 1 4 (-2) := ⟨_, rfl⟩
        rw [← eS_9] at hP
        have h := h S_9 eS_9
        exact W.vret hx hb hr (fun t ht hW => ⟨⟨S_9, rfl, h, gB_of ht hP⟩, hS.F ht⟩) hS.2.2 dX4_readNumber_124
      · have h := h.2 c_8
        refine lv_bipush (v := (-3)) hx hb dX4_readNumber_114 (by decide) ?_
        refine lv_goto (tgt := 121) hx hb dX4_readNumber_116 (by decide) ?_
        refine va_put (D := D) (ci := 4) (v := .int (-3)) (ty := .int) (C := RX4) (T := TX4) (N := 6) hx hb hT inX4 tyX4 tyX4_ok nmX4 hown hK hP (gw_D hX) hS 1 cw_Text rfl 4 (by decide) (hT _ wf_X4_30) (fun _ h9 => h9) rfl (by decide +kernel) rfl rfl (Nat.le_of_ble_eq_true rfl) dX4_readNumber_121 (fun H locs hP _ hS => ?_)
        have hP := cw_st (j := 4) (x := (-3)) rfl hP
        obtain ⟨S_10, eS_10⟩ : ∃ z : CS, z = sti S 1 4 (-3) := ⟨_, rfl⟩
        rw [← eS_10] at hP
        have h := h S_10 eS_10
        exact W.vret hx hb hr (fun t ht hW => ⟨⟨S_10, rfl, h, gB_of ht hP⟩, hS.F ht⟩) hS.2.2 dX4_readNumber_124
  have W68 : ∀ (S : CS) (H : Heap) (locs : List Loc) (ls : Array Slot), va_P D vwCl (CW X S) H → va_S (AX 75 X.1 s.heap.size) s.heap H locs → lv_has ls 2 [(0, .ref (X.1 1))] → q_X4_readNumber_68 post  S → W p l e (headSpec (Cond.code yX4_readNumber cX4_readNumber 2 none :: lw_gd) rm_X4_readNumber).room s m ([.ref (X.1 1)] : List Value).toArray below meth c H locs 0 0 (MQ below (va_Qv post (gB D (CW X)) (AX 75 X.1 s.heap.size)) ([.ref (X.1 1)] : List Value).toArray s 0 0 (AX 75 X.1 s.heap.size)) (F0 m 68 ls []) := by
    intro S H locs ls hP hS hl h
    unfold q_X4_readNumber_68 at h
    refine lv_aload_n hx hb dX4_readNumber_68 rfl (lv_at hl 0 rfl) ?_
    refine lv_aload_n hx hb dX4_readNumber_69 rfl (lv_at hl 0 rfl) ?_
    refine va_get (D := D) (ci := 4) (v := .int (S.1 1 2)) (C := RX4) (T := TX4) (N := 6) hx hb hT inX4 hown hK hP 1 cw_Text rfl 2 (by decide) (hT _ wf_X4_20) (fun _ h9 => h9) rfl dX4_readNumber_70 ?_
    refine cVi (As := [.int (S.1 1 2)]) (rest := []) hX ⟨hx, hb, hml, hown, hT⟩ (c_X4_letterAt l D X hX H.size S (S.1 1 2) _ h) (gd_V wl_X4_26 wi_X4_letterAt wv_X4_letterAt wn_X4 wc_X4_letterAt) rfl hd_X4_letterAt ⟨rfl, rfl⟩ ⟨Nat.le_of_ble_eq_true rfl, Nat.le_of_ble_eq_true rfl⟩ (va_recv hK hP (ci := 4) (q0 := 1) rfl cw_Text) hK hP hS hF rfl hl.1 rfl (Nat.le_of_ble_eq_true rfl) dX4_readNumber_73 ⟨Nat.zero_le _, Nat.zero_le _⟩ (fun r_4 S_3 H locs h hP hS => ?_)
    refine lv_bipush (v := 48) hx hb dX4_readNumber_76 (by decide) ?_
    refine lv_icmp_ne (tgt := 98) hx hb dX4_readNumber_78 (by decide) (fun c_5 => ?_) (fun c_5 => ?_)
    · have h := h.2 c_5
      refine lv_iconst (v := 0) hx hb dX4_readNumber_98 (by decide) ?_
      exact W99  0 S_3 H locs ls hP hS hl h
    · have h := h.1 c_5
      refine lv_aload_n hx hb dX4_readNumber_81 rfl (lv_at hl 0 rfl) ?_
      refine va_get (D := D) (ci := 4) (v := .int (S_3.1 1 3)) (C := RX4) (T := TX4) (N := 6) hx hb hT inX4 hown hK hP 1 cw_Text rfl 3 (by decide) (hT _ wf_X4_17) (fun _ h9 => h9) rfl dX4_readNumber_82 ?_
      refine lv_aload_n hx hb dX4_readNumber_85 rfl (lv_at hl 0 rfl) ?_
      refine va_get (D := D) (ci := 4) (v := .int (S_3.1 1 2)) (C := RX4) (T := TX4) (N := 6) hx hb hT inX4 hown hK hP 1 cw_Text rfl 2 (by decide) (hT _ wf_X4_20) (fun _ h9 => h9) rfl dX4_readNumber_86 ?_
      refine lv_isub hx hb dX4_readNumber_89 ?_
      refine lv_iconst (v := 1) hx hb dX4_readNumber_90 (by decide) ?_
      refine lv_icmp_le (tgt := 98) hx hb dX4_readNumber_91 (by decide) (fun c_11 => ?_) (fun c_11 => ?_)
      · have h := h.1 c_11
        refine lv_iconst (v := 0) hx hb dX4_readNumber_98 (by decide) ?_
        exact W99  0 S_3 H locs ls hP hS hl h
      · have h := h.2 c_11
        refine lv_iconst (v := 1) hx hb dX4_readNumber_94 (by decide) ?_
        refine lv_goto (tgt := 99) hx hb dX4_readNumber_95 (by decide) ?_
        exact W99  1 S_3 H locs ls hP hS hl h
  have W5 : ∀ n1 : Nat, ∀ (S : CS) (H : Heap) (locs : List Loc) (ls : Array Slot), va_P D vwCl (CW X S) H → va_S (AX 75 X.1 s.heap.size) s.heap H locs → lv_has ls 2 [(0, .ref (X.1 1))] → q_X4_readNumber_5 post n1  S → W p l e (headSpec (Cond.code yX4_readNumber cX4_readNumber 2 none :: lw_gd) rm_X4_readNumber).room s m ([.ref (X.1 1)] : List Value).toArray below meth c H locs 0 0 (MQ below (va_Qv post (gB D (CW X)) (AX 75 X.1 s.heap.size)) ([.ref (X.1 1)] : List Value).toArray s 0 0 (AX 75 X.1 s.heap.size)) (F0 m 5 ls []) := by
    intro n1
    induction n1 with
    | zero => intro S H locs ls hP hS hl h; exact h.elim
    | succ n9 ih =>
      intro S H locs ls hP hS hl h
      rw [q_X4_readNumber_5] at h
      refine lv_aload_n hx hb dX4_readNumber_5 rfl (lv_at hl 0 rfl) ?_
      refine va_get (D := D) (ci := 4) (v := .int (S.1 1 3)) (C := RX4) (T := TX4) (N := 6) hx hb hT inX4 hown hK hP 1 cw_Text rfl 3 (by decide) (hT _ wf_X4_17) (fun _ h9 => h9) rfl dX4_readNumber_6 ?_
      refine lv_aload_n hx hb dX4_readNumber_9 rfl (lv_at hl 0 rfl) ?_
      refine va_get (D := D) (ci := 4) (v := .int (S.1 1 1)) (C := RX4) (T := TX4) (N := 6) hx hb hT inX4 hown hK hP 1 cw_Text rfl 1 (by decide) (hT _ wf_X4_13) (fun _ h9 => h9) rfl dX4_readNumber_10 ?_
      refine lv_icmp_ge (tgt := 68) hx hb dX4_readNumber_13 (by decide) (fun c_2 => ?_) (fun c_2 => ?_)
      · have h := h.1 c_2
        exact W68   S H locs ls hP hS hl h
      · have h := h.2 c_2
        refine lv_aload_n hx hb dX4_readNumber_16 rfl (lv_at hl 0 rfl) ?_
        refine lv_aload_n hx hb dX4_readNumber_17 rfl (lv_at hl 0 rfl) ?_
        refine va_get (D := D) (ci := 4) (v := .int (S.1 1 3)) (C := RX4) (T := TX4) (N := 6) hx hb hT inX4 hown hK hP 1 cw_Text rfl 3 (by decide) (hT _ wf_X4_17) (fun _ h9 => h9) rfl dX4_readNumber_18 ?_
        refine cVi (As := [.int (S.1 1 3)]) (rest := []) hX ⟨hx, hb, hml, hown, hT⟩ (c_X4_isDigit l D X hX H.size S (S.1 1 3) _ h) (gd_V wl_X4_33 wi_X4_isDigit wv_X4_isDigit wn_X4 wc_X4_isDigit) rfl hd_X4_isDigit ⟨rfl, rfl⟩ ⟨Nat.le_of_ble_eq_true rfl, Nat.le_of_ble_eq_true rfl⟩ (va_recv hK hP (ci := 4) (q0 := 1) rfl cw_Text) hK hP hS hF rfl hl.1 rfl (Nat.le_of_ble_eq_true rfl) dX4_readNumber_21 ⟨Nat.zero_le _, Nat.zero_le _⟩ (fun r_13 S_12 H locs h hP hS => ?_)
        refine lv_if_eq (tgt := 68) hx hb dX4_readNumber_24 (by decide) (fun c_14 => ?_) (fun c_14 => ?_)
        · have h := h.1 c_14
          exact W68   S_12 H locs ls hP hS hl h
        · have h := h.2 c_14
          refine lv_aload_n hx hb dX4_readNumber_27 rfl (lv_at hl 0 rfl) ?_
          refine lv_bipush (v := 100) hx hb dX4_readNumber_28 (by decide) ?_
          refine lv_aload_n hx hb dX4_readNumber_30 rfl (lv_at hl 0 rfl) ?_
          refine va_get (D := D) (ci := 4) (v := .int (S_12.1 1 5)) (C := RX4) (T := TX4) (N := 6) hx hb hT inX4 hown hK hP 1 cw_Text rfl 5 (by decide) (hT _ wf_X4_23) (fun _ h9 => h9) rfl dX4_readNumber_31 ?_
          refine lv_bipush (v := 10) hx hb dX4_readNumber_34 (by decide) ?_
          refine lv_imul hx hb dX4_readNumber_36 ?_
          refine lv_aload_n hx hb dX4_readNumber_37 rfl (lv_at hl 0 rfl) ?_
          refine lv_aload_n hx hb dX4_readNumber_38 rfl (lv_at hl 0 rfl) ?_
          refine va_get (D := D) (ci := 4) (v := .int (S_12.1 1 3)) (C := RX4) (T := TX4) (N := 6) hx hb hT inX4 hown hK hP 1 cw_Text rfl 3 (by decide) (hT _ wf_X4_17) (fun _ h9 => h9) rfl dX4_readNumber_39 ?_
          refine cVi (As := [.int (S_12.1 1 3)]) (rest := [.int ((S_12.1 1 5) * 10), .int 100, .ref (X.1 1)]) hX ⟨hx, hb, hml, hown, hT⟩ (c_X4_letterAt l D X hX H.size S_12 (S_12.1 1 3) _ h) (gd_V wl_X4_26 wi_X4_letterAt wv_X4_letterAt wn_X4 wc_X4_letterAt) rfl hd_X4_letterAt ⟨rfl, rfl⟩ ⟨Nat.le_of_ble_eq_true rfl, Nat.le_of_ble_eq_true rfl⟩ (va_recv hK hP (ci := 4) (q0 := 1) rfl cw_Text) hK hP hS hF rfl hl.1 rfl (Nat.le_of_ble_eq_true rfl) dX4_readNumber_42 ⟨Nat.zero_le _, Nat.zero_le _⟩ (fun r_16 S_15 H locs h hP hS => ?_)
          refine lv_iadd hx hb dX4_readNumber_45 ?_
          refine lv_bipush (v := 48) hx hb dX4_readNumber_46 (by decide) ?_
          refine lv_isub hx hb dX4_readNumber_48 ?_
          refine va_mmin hx hb (hml.trans hl.1.symm) hown (hT _ wl_X4_40) (hT _ wt_J9_min_7cf53) (hT _ wn_J9) (hT _ wc_J9_min_7cf53) (Nat.le_of_ble_eq_true rfl) (Nat.le_of_ble_eq_true rfl) (Nat.zero_le _) (Nat.zero_le _) dX4_readNumber_49 ?_
          refine lv_topi (fun u_17 eu_17 => ?_)
          have h := h u_17 eu_17
          refine va_put (D := D) (ci := 4) (v := .int u_17) (ty := .int) (C := RX4) (T := TX4) (N := 6) hx hb hT inX4 tyX4 tyX4_ok nmX4 hown hK hP (gw_D hX) hS 1 cw_Text rfl 5 (by decide) (hT _ wf_X4_23) (fun _ h9 => h9) rfl (by decide +kernel) rfl rfl (Nat.le_of_ble_eq_true rfl) dX4_readNumber_52 (fun H locs hP _ hS => ?_)
          have hP := cw_st (j := 5) (x := u_17) rfl hP
          obtain ⟨S_18, eS_18⟩ : ∃ z : CS, z = sti S_15 1 5 u_17 := ⟨_, rfl⟩
          rw [← eS_18] at hP
          have h := h S_18 eS_18
          refine lv_aload_n hx hb dX4_readNumber_55 rfl (lv_at hl 0 rfl) ?_
          refine lv_dup hx hb dX4_readNumber_56 rfl ?_
          refine va_get (D := D) (ci := 4) (v := .int (S_18.1 1 3)) (C := RX4) (T := TX4) (N := 6) hx hb hT inX4 hown hK hP 1 cw_Text rfl 3 (by decide) (hT _ wf_X4_17) (fun _ h9 => h9) rfl dX4_readNumber_57 ?_
          refine lv_iconst (v := 1) hx hb dX4_readNumber_60 (by decide) ?_
          refine lv_iadd hx hb dX4_readNumber_61 ?_
          refine lv_topi (fun u_19 eu_19 => ?_)
          have h := h u_19 eu_19
          refine va_put (D := D) (ci := 4) (v := .int u_19) (ty := .int) (C := RX4) (T := TX4) (N := 6) hx hb hT inX4 tyX4 tyX4_ok nmX4 hown hK hP (gw_D hX) hS 1 cw_Text rfl 3 (by decide) (hT _ wf_X4_17) (fun _ h9 => h9) rfl (by decide +kernel) rfl rfl (Nat.le_of_ble_eq_true rfl) dX4_readNumber_62 (fun H locs hP _ hS => ?_)
          have hP := cw_st (j := 3) (x := u_19) rfl hP
          obtain ⟨S_20, eS_20⟩ : ∃ z : CS, z = sti S_18 1 3 u_19 := ⟨_, rfl⟩
          rw [← eS_20] at hP
          have h := h S_20 eS_20
          refine lv_goto (tgt := 5) hx hb dX4_readNumber_65 (by decide) ?_
          exact ih  S_20 H locs ls hP hS hl h
  have hl := lv_entry ([.ref (X.1 1)]) (n := 2) (Nat.le_of_ble_eq_true rfl)
  rw [lg_entry_eq]
  generalize (lg_sl ([.ref (X.1 1)]) ++ List.replicate (2 - (lg_sl ([.ref (X.1 1)])).length) Slot.unset).toArray = ls at hl ⊢
  have hl : lv_has ls 2 [(0, .ref (X.1 1))] := hl
  obtain ⟨H, hH⟩ : ∃ H : Heap, H = s.heap := ⟨_, rfl⟩
  obtain ⟨locs, hlc⟩ : ∃ q : List Loc, q = [] := ⟨_, rfl⟩
  have hS : va_S (AX 75 X.1 s.heap.size) s.heap H locs := by rw [hH, hlc]; exact hS
  have hP : va_P D vwCl (CW X S) H := by rw [hH]; exact hP
  show W p l e (headSpec (Cond.code yX4_readNumber cX4_readNumber 2 none :: lw_gd) rm_X4_readNumber).room s m ([.ref (X.1 1)] : List Value).toArray below meth c s.heap [] 0 0 (MQ below (va_Qv post (gB D (CW X)) (AX 75 X.1 s.heap.size)) ([.ref (X.1 1)] : List Value).toArray s 0 0 (AX 75 X.1 s.heap.size)) _
  suffices hgo : W p l e (headSpec (Cond.code yX4_readNumber cX4_readNumber 2 none :: lw_gd) rm_X4_readNumber).room s m ([.ref (X.1 1)] : List Value).toArray below meth c H locs 0 0 (MQ below (va_Qv post (gB D (CW X)) (AX 75 X.1 s.heap.size)) ([.ref (X.1 1)] : List Value).toArray s 0 0 (AX 75 X.1 s.heap.size)) (F0 m 0 ls []) from by rw [hH, hlc] at hgo; exact hgo
  unfold p_X4_readNumber at h
  refine lv_aload_n hx hb dX4_readNumber_0 rfl (lv_at hl 0 rfl) ?_
  refine lv_iconst (v := 0) hx hb dX4_readNumber_1 (by decide) ?_
  refine va_put (D := D) (ci := 4) (v := .int 0) (ty := .int) (C := RX4) (T := TX4) (N := 6) hx hb hT inX4 tyX4 tyX4_ok nmX4 hown hK hP (gw_D hX) hS 1 cw_Text rfl 5 (by decide) (hT _ wf_X4_23) (fun _ h9 => h9) rfl (by decide +kernel) rfl rfl (Nat.le_of_ble_eq_true rfl) dX4_readNumber_2 (fun H locs hP _ hS => ?_)
  have hP := cw_st (j := 5) (x := 0) rfl hP
  obtain ⟨S_1, eS_1⟩ : ∃ z : CS, z = sti S 1 5 0 := ⟨_, rfl⟩
  rw [← eS_1] at hP
  have h := h S_1 eS_1
  obtain ⟨n1, h⟩ := h
  exact W5  n1  S_1 H locs ls hP hS hl h

abbrev rm_X4_goOn : Room := { frames := 3, cells := 0, slots := 0, locals := 64 }
def q_X4_goOn_45  (post : Int32 → CS → Prop) (S : CS) : Prop := ∀ u_4 : Int32, u_4 = S.1 1 2 → (∀ S_5 : CS, S_5 = sti S 1 3 u_4 → (((S_5.1 1 2) < (S_5.1 1 1) → (p_X4_isDigit S_5 (S_5.1 1 2) (fun r_8 S_7 => ((r_8 = 0 → (p_X4_letterAt S_7 (S_7.1 1 2) (fun r_11 S_10 => (∀ S_12 : CS, S_12 = sti S_10 1 4 r_11 → (∀ u_13 : Int32, u_13 = ((S_12.1 1 3) + 1) → (∀ S_14 : CS, S_14 = sti S_12 1 3 u_13 → (post (S_14.1 1 4) S_14))))))) ∧ (¬ (r_8 = 0) → (p_X4_readNumber S_7  (fun S_15 => (post (S_15.1 1 4) S_15)))))))) ∧ (¬ ((S_5.1 1 2) < (S_5.1 1 1)) → (∀ S_17 : CS, S_17 = sti S_5 1 4 (-1) → (post (S_17.1 1 4) S_17)))))
def q_X4_goOn_8  (post : Int32 → CS → Prop) : Nat → CS → Prop
  | 0, _ => False
  | n9 + 1, S => ((S.1 1 1) ≤ (S.1 1 2) → (q_X4_goOn_45 post  S)) ∧ (¬ ((S.1 1 1) ≤ (S.1 1 2)) → (p_X4_letterAt S (S.1 1 2) (fun r_19 S_18 => ((r_19 = 32 → (∀ u_21 : Int32, u_21 = ((S_18.1 1 2) + 1) → (∀ S_22 : CS, S_22 = sti S_18 1 2 u_21 → (q_X4_goOn_8 post n9  S_22)))) ∧ (¬ (r_19 = 32) → (q_X4_goOn_45 post  S_18))))))
def p_X4_goOn (S : CS)  (post : Int32 → CS → Prop) : Prop := ∀ u_1 : Int32, u_1 = S.1 1 3 → (∀ S_2 : CS, S_2 = sti S 1 2 u_1 → (∃ n, q_X4_goOn_8 post n  S_2))
set_option maxHeartbeats 4000000 in
set_option maxRecDepth 100000 in
theorem c_X4_goOn (l : Launch) (D : va_G) (X : XE) (hX : Inj 75 X.1) (sz : Nat) (S : CS)  (post : Int32 → CS → Prop) (h : p_X4_goOn S  post) : Met l yX4_goOn (Cond.code yX4_goOn cX4_goOn 1 (some .int) :: lw_gd) rm_X4_goOn (gPc D (tyX X) (CW X) (FXc X) (AX 75 X.1 sz) sz S [.ref (X.1 1)]) (va_Qi post (gB D (CW X)) (AX 75 X.1 sz)) 0 0 (AX 75 X.1 sz) := by
  refine Met.ofW (cc := cX4_goOn) (maxL := 1) (ret := (some .int)) (by decide) rfl ?_
  intro p e s m args below meth c s₁ B hml hv
  obtain ⟨rfl, hsz, hP, hK, hF⟩ := hv
  have hx := B.exec
  have hb := B.bytes
  have hr := B.returns
  have hts := atoms_spec (ws := (Cond.code yX4_goOn cX4_goOn 1 (some .int) :: lw_gd)) B.pre
  have hT : ∀ w ∈ lw_gd, w.before _ s = true := fun w h9 => hts w (List.mem_cons_of_mem _ h9)
  have hown : s.vm.findClass RX4 = some m.cls := findClass_of_methodNamed B.named
  have hlocks := B.notSynchronized
  subst hsz
  have hS : va_S (AX 75 X.1 s.heap.size) s.heap s.heap [] := va_S.rf
  have W45 : ∀ (S : CS) (H : Heap) (locs : List Loc) (ls : Array Slot), va_P D vwCl (CW X S) H → va_S (AX 75 X.1 s.heap.size) s.heap H locs → lv_has ls 1 [(0, .ref (X.1 1))] → q_X4_goOn_45 post  S → W p l e (headSpec (Cond.code yX4_goOn cX4_goOn 1 (some .int) :: lw_gd) rm_X4_goOn).room s m ([.ref (X.1 1)] : List Value).toArray below meth c H locs 0 0 (MQ below (va_Qi post (gB D (CW X)) (AX 75 X.1 s.heap.size)) ([.ref (X.1 1)] : List Value).toArray s 0 0 (AX 75 X.1 s.heap.size)) (F0 m 45 ls []) := by
    intro S H locs ls hP hS hl h
    unfold q_X4_goOn_45 at h
    refine lv_aload_n hx hb dX4_goOn_45 rfl (lv_at hl 0 rfl) ?_
    refine lv_aload_n hx hb dX4_goOn_46 rfl (lv_at hl 0 rfl) ?_
    refine va_get (D := D) (ci := 4) (v := .int (S.1 1 2)) (C := RX4) (T := TX4) (N := 6) hx hb hT inX4 hown hK hP 1 cw_Text rfl 2 (by decide) (hT _ wf_X4_20) (fun _ h9 => h9) rfl dX4_goOn_47 ?_
    refine lv_topi (fun u_4 eu_4 => ?_)
    have h := h u_4 eu_4
    refine va_put (D := D) (ci := 4) (v := .int u_4) (ty := .int) (C := RX4) (T := TX4) (N := 6) hx hb hT inX4 tyX4 tyX4_ok nmX4 hown hK hP (gw_D hX) hS 1 cw_Text rfl 3 (by decide) (hT _ wf_X4_17) (fun _ h9 => h9) rfl (by decide +kernel) rfl rfl (Nat.le_of_ble_eq_true rfl) dX4_goOn_50 (fun H locs hP _ hS => ?_)
    have hP := cw_st (j := 3) (x := u_4) rfl hP
    obtain ⟨S_5, eS_5⟩ : ∃ z : CS, z = sti S 1 3 u_4 := ⟨_, rfl⟩
    rw [← eS_5] at hP
    have h := h S_5 eS_5
    refine lv_aload_n hx hb dX4_goOn_53 rfl (lv_at hl 0 rfl) ?_
    refine va_get (D := D) (ci := 4) (v := .int (S_5.1 1 2)) (C := RX4) (T := TX4) (N := 6) hx hb hT inX4 hown hK hP 1 cw_Text rfl 2 (by decide) (hT _ wf_X4_20) (fun _ h9 => h9) rfl dX4_goOn_54 ?_
    refine lv_aload_n hx hb dX4_goOn_57 rfl (lv_at hl 0 rfl) ?_
    refine va_get (D := D) (ci := 4) (v := .int (S_5.1 1 1)) (C := RX4) (T := TX4) (N := 6) hx hb hT inX4 hown hK hP 1 cw_Text rfl 1 (by decide) (hT _ wf_X4_13) (fun _ h9 => h9) rfl dX4_goOn_58 ?_
    refine lv_icmp_lt (tgt := 72) hx hb dX4_goOn_61 (by decide) (fun c_6 => ?_) (fun c_6 => ?_)
    · have h := h.1 c_6
      refine lv_aload_n hx hb dX4_goOn_72 rfl (lv_at hl 0 rfl) ?_
      refine lv_aload_n hx hb dX4_goOn_73 rfl (lv_at hl 0 rfl) ?_
      refine va_get (D := D) (ci := 4) (v := .int (S_5.1 1 2)) (C := RX4) (T := TX4) (N := 6) hx hb hT inX4 hown hK hP 1 cw_Text rfl 2 (by decide) (hT _ wf_X4_20) (fun _ h9 => h9) rfl dX4_goOn_74 ?_
      refine cVi (As := [.int (S_5.1 1 2)]) (rest := []) hX ⟨hx, hb, hml, hown, hT⟩ (c_X4_isDigit l D X hX H.size S_5 (S_5.1 1 2) _ h) (gd_V wl_X4_33 wi_X4_isDigit wv_X4_isDigit wn_X4 wc_X4_isDigit) rfl hd_X4_isDigit ⟨rfl, rfl⟩ ⟨Nat.le_of_ble_eq_true rfl, Nat.le_of_ble_eq_true rfl⟩ (va_recv hK hP (ci := 4) (q0 := 1) rfl cw_Text) hK hP hS hF rfl hl.1 rfl (Nat.le_of_ble_eq_true rfl) dX4_goOn_77 ⟨Nat.zero_le _, Nat.zero_le _⟩ (fun r_8 S_7 H locs h hP hS => ?_)
      refine lv_if_eq (tgt := 90) hx hb dX4_goOn_80 (by decide) (fun c_9 => ?_) (fun c_9 => ?_)
      · have h := h.1 c_9
        refine lv_aload_n hx hb dX4_goOn_90 rfl (lv_at hl 0 rfl) ?_
        refine lv_aload_n hx hb dX4_goOn_91 rfl (lv_at hl 0 rfl) ?_
        refine lv_aload_n hx hb dX4_goOn_92 rfl (lv_at hl 0 rfl) ?_
        refine va_get (D := D) (ci := 4) (v := .int (S_7.1 1 2)) (C := RX4) (T := TX4) (N := 6) hx hb hT inX4 hown hK hP 1 cw_Text rfl 2 (by decide) (hT _ wf_X4_20) (fun _ h9 => h9) rfl dX4_goOn_93 ?_
        refine cVi (As := [.int (S_7.1 1 2)]) (rest := [.ref (X.1 1)]) hX ⟨hx, hb, hml, hown, hT⟩ (c_X4_letterAt l D X hX H.size S_7 (S_7.1 1 2) _ h) (gd_V wl_X4_26 wi_X4_letterAt wv_X4_letterAt wn_X4 wc_X4_letterAt) rfl hd_X4_letterAt ⟨rfl, rfl⟩ ⟨Nat.le_of_ble_eq_true rfl, Nat.le_of_ble_eq_true rfl⟩ (va_recv hK hP (ci := 4) (q0 := 1) rfl cw_Text) hK hP hS hF rfl hl.1 rfl (Nat.le_of_ble_eq_true rfl) dX4_goOn_96 ⟨Nat.zero_le _, Nat.zero_le _⟩ (fun r_11 S_10 H locs h hP hS => ?_)
        refine va_put (D := D) (ci := 4) (v := .int r_11) (ty := .int) (C := RX4) (T := TX4) (N := 6) hx hb hT inX4 tyX4 tyX4_ok nmX4 hown hK hP (gw_D hX) hS 1 cw_Text rfl 4 (by decide) (hT _ wf_X4_30) (fun _ h9 => h9) rfl (by decide +kernel) rfl rfl (Nat.le_of_ble_eq_true rfl) dX4_goOn_99 (fun H locs hP _ hS => ?_)
        have hP := cw_st (j := 4) (x := r_11) rfl hP
        obtain ⟨S_12, eS_12⟩ : ∃ z : CS, z = sti S_10 1 4 r_11 := ⟨_, rfl⟩
        rw [← eS_12] at hP
        have h := h S_12 eS_12
        refine lv_aload_n hx hb dX4_goOn_102 rfl (lv_at hl 0 rfl) ?_
        refine lv_dup hx hb dX4_goOn_103 rfl ?_
        refine va_get (D := D) (ci := 4) (v := .int (S_12.1 1 3)) (C := RX4) (T := TX4) (N := 6) hx hb hT inX4 hown hK hP 1 cw_Text rfl 3 (by decide) (hT _ wf_X4_17) (fun _ h9 => h9) rfl dX4_goOn_104 ?_
        refine lv_iconst (v := 1) hx hb dX4_goOn_107 (by decide) ?_
        refine lv_iadd hx hb dX4_goOn_108 ?_
        refine lv_topi (fun u_13 eu_13 => ?_)
        have h := h u_13 eu_13
        refine va_put (D := D) (ci := 4) (v := .int u_13) (ty := .int) (C := RX4) (T := TX4) (N := 6) hx hb hT inX4 tyX4 tyX4_ok nmX4 hown hK hP (gw_D hX) hS 1 cw_Text rfl 3 (by decide) (hT _ wf_X4_17) (fun _ h9 => h9) rfl (by decide +kernel) rfl rfl (Nat.le_of_ble_eq_true rfl) dX4_goOn_109 (fun H locs hP _ hS => ?_)
        have hP := cw_st (j := 3) (x := u_13) rfl hP
        obtain ⟨S_14, eS_14⟩ : ∃ z : CS, z = sti S_12 1 3 u_13 := ⟨_, rfl⟩
        rw [← eS_14] at hP
        have h := h S_14 eS_14
        refine lv_aload_n hx hb dX4_goOn_112 rfl (lv_at hl 0 rfl) ?_
        refine va_get (D := D) (ci := 4) (v := .int (S_14.1 1 4)) (C := RX4) (T := TX4) (N := 6) hx hb hT inX4 hown hK hP 1 cw_Text rfl 4 (by decide) (hT _ wf_X4_30) (fun _ h9 => h9) rfl dX4_goOn_113 ?_
        exact W.iret (v := S_14.1 1 4) hx hb hr (fun t ht hW => ⟨⟨S_14.1 1 4, S_14, rfl, h, gB_of ht hP⟩, hS.F ht⟩) hS.2.2 dX4_goOn_116
      · have h := h.2 c_9
        refine lv_aload_n hx hb dX4_goOn_83 rfl (lv_at hl 0 rfl) ?_
        refine cVv (As := []) (rest := []) hX ⟨hx, hb, hml, hown, hT⟩ (c_X4_readNumber l D X hX H.size S_7  _ h) (gd_V wl_X4_37 wi_X4_readNumber wv_X4_readNumber wn_X4 wc_X4_readNumber) rfl hd_X4_readNumber ⟨rfl, rfl⟩ ⟨Nat.le_of_ble_eq_true rfl, Nat.le_of_ble_eq_true rfl⟩ (va_recv hK hP (ci := 4) (q0 := 1) rfl cw_Text) hK hP hS hF rfl hl.1 rfl (Nat.le_of_ble_eq_true rfl) dX4_goOn_84 ⟨Nat.zero_le _, Nat.zero_le _⟩ (fun S_15 H locs h hP hS => ?_)
        refine lv_goto (tgt := 112) hx hb dX4_goOn_87 (by decide) ?_
        refine lv_aload_n hx hb dX4_goOn_112 rfl (lv_at hl 0 rfl) ?_
        refine va_get (D := D) (ci := 4) (v := .int (S_15.1 1 4)) (C := RX4) (T := TX4) (N := 6) hx hb hT inX4 hown hK hP 1 cw_Text rfl 4 (by decide) (hT _ wf_X4_30) (fun _ h9 => h9) rfl dX4_goOn_113 ?_
        exact W.iret (v := S_15.1 1 4) hx hb hr (fun t ht hW => ⟨⟨S_15.1 1 4, S_15, rfl, h, gB_of ht hP⟩, hS.F ht⟩) hS.2.2 dX4_goOn_116
    · have h := h.2 c_6
      refine lv_aload_n hx hb dX4_goOn_64 rfl (lv_at hl 0 rfl) ?_
      refine lv_iconst (v := (-1)) hx hb dX4_goOn_65 (by decide) ?_
      refine va_put (D := D) (ci := 4) (v := .int (-1)) (ty := .int) (C := RX4) (T := TX4) (N := 6) hx hb hT inX4 tyX4 tyX4_ok nmX4 hown hK hP (gw_D hX) hS 1 cw_Text rfl 4 (by decide) (hT _ wf_X4_30) (fun _ h9 => h9) rfl (by decide +kernel) rfl rfl (Nat.le_of_ble_eq_true rfl) dX4_goOn_66 (fun H locs hP _ hS => ?_)
      have hP := cw_st (j := 4) (x := (-1)) rfl hP
      obtain ⟨S_17, eS_17⟩ : ∃ z : CS, z = sti S_5 1 4 (-1) := ⟨_, rfl⟩
      rw [← eS_17] at hP
      have h := h S_17 eS_17
      refine lv_goto (tgt := 112) hx hb dX4_goOn_69 (by decide) ?_
      refine lv_aload_n hx hb dX4_goOn_112 rfl (lv_at hl 0 rfl) ?_
      refine va_get (D := D) (ci := 4) (v := .int (S_17.1 1 4)) (C := RX4) (T := TX4) (N := 6) hx hb hT inX4 hown hK hP 1 cw_Text rfl 4 (by decide) (hT _ wf_X4_30) (fun _ h9 => h9) rfl dX4_goOn_113 ?_
      exact W.iret (v := S_17.1 1 4) hx hb hr (fun t ht hW => ⟨⟨S_17.1 1 4, S_17, rfl, h, gB_of ht hP⟩, hS.F ht⟩) hS.2.2 dX4_goOn_116
  have W8 : ∀ n1 : Nat, ∀ (S : CS) (H : Heap) (locs : List Loc) (ls : Array Slot), va_P D vwCl (CW X S) H → va_S (AX 75 X.1 s.heap.size) s.heap H locs → lv_has ls 1 [(0, .ref (X.1 1))] → q_X4_goOn_8 post n1  S → W p l e (headSpec (Cond.code yX4_goOn cX4_goOn 1 (some .int) :: lw_gd) rm_X4_goOn).room s m ([.ref (X.1 1)] : List Value).toArray below meth c H locs 0 0 (MQ below (va_Qi post (gB D (CW X)) (AX 75 X.1 s.heap.size)) ([.ref (X.1 1)] : List Value).toArray s 0 0 (AX 75 X.1 s.heap.size)) (F0 m 8 ls []) := by
    intro n1
    induction n1 with
    | zero => intro S H locs ls hP hS hl h; exact h.elim
    | succ n9 ih =>
      intro S H locs ls hP hS hl h
      rw [q_X4_goOn_8] at h
      refine lv_aload_n hx hb dX4_goOn_8 rfl (lv_at hl 0 rfl) ?_
      refine va_get (D := D) (ci := 4) (v := .int (S.1 1 2)) (C := RX4) (T := TX4) (N := 6) hx hb hT inX4 hown hK hP 1 cw_Text rfl 2 (by decide) (hT _ wf_X4_20) (fun _ h9 => h9) rfl dX4_goOn_9 ?_
      refine lv_aload_n hx hb dX4_goOn_12 rfl (lv_at hl 0 rfl) ?_
      refine va_get (D := D) (ci := 4) (v := .int (S.1 1 1)) (C := RX4) (T := TX4) (N := 6) hx hb hT inX4 hown hK hP 1 cw_Text rfl 1 (by decide) (hT _ wf_X4_13) (fun _ h9 => h9) rfl dX4_goOn_13 ?_
      refine lv_icmp_ge (tgt := 45) hx hb dX4_goOn_16 (by decide) (fun c_3 => ?_) (fun c_3 => ?_)
      · have h := h.1 c_3
        exact W45   S H locs ls hP hS hl h
      · have h := h.2 c_3
        refine lv_aload_n hx hb dX4_goOn_19 rfl (lv_at hl 0 rfl) ?_
        refine lv_aload_n hx hb dX4_goOn_20 rfl (lv_at hl 0 rfl) ?_
        refine va_get (D := D) (ci := 4) (v := .int (S.1 1 2)) (C := RX4) (T := TX4) (N := 6) hx hb hT inX4 hown hK hP 1 cw_Text rfl 2 (by decide) (hT _ wf_X4_20) (fun _ h9 => h9) rfl dX4_goOn_21 ?_
        refine cVi (As := [.int (S.1 1 2)]) (rest := []) hX ⟨hx, hb, hml, hown, hT⟩ (c_X4_letterAt l D X hX H.size S (S.1 1 2) _ h) (gd_V wl_X4_26 wi_X4_letterAt wv_X4_letterAt wn_X4 wc_X4_letterAt) rfl hd_X4_letterAt ⟨rfl, rfl⟩ ⟨Nat.le_of_ble_eq_true rfl, Nat.le_of_ble_eq_true rfl⟩ (va_recv hK hP (ci := 4) (q0 := 1) rfl cw_Text) hK hP hS hF rfl hl.1 rfl (Nat.le_of_ble_eq_true rfl) dX4_goOn_24 ⟨Nat.zero_le _, Nat.zero_le _⟩ (fun r_19 S_18 H locs h hP hS => ?_)
        refine lv_bipush (v := 32) hx hb dX4_goOn_27 (by decide) ?_
        refine lv_icmp_ne (tgt := 45) hx hb dX4_goOn_29 (by decide) (fun c_20 => ?_) (fun c_20 => ?_)
        · have h := h.2 c_20
          exact W45   S_18 H locs ls hP hS hl h
        · have h := h.1 c_20
          refine lv_aload_n hx hb dX4_goOn_32 rfl (lv_at hl 0 rfl) ?_
          refine lv_dup hx hb dX4_goOn_33 rfl ?_
          refine va_get (D := D) (ci := 4) (v := .int (S_18.1 1 2)) (C := RX4) (T := TX4) (N := 6) hx hb hT inX4 hown hK hP 1 cw_Text rfl 2 (by decide) (hT _ wf_X4_20) (fun _ h9 => h9) rfl dX4_goOn_34 ?_
          refine lv_iconst (v := 1) hx hb dX4_goOn_37 (by decide) ?_
          refine lv_iadd hx hb dX4_goOn_38 ?_
          refine lv_topi (fun u_21 eu_21 => ?_)
          have h := h u_21 eu_21
          refine va_put (D := D) (ci := 4) (v := .int u_21) (ty := .int) (C := RX4) (T := TX4) (N := 6) hx hb hT inX4 tyX4 tyX4_ok nmX4 hown hK hP (gw_D hX) hS 1 cw_Text rfl 2 (by decide) (hT _ wf_X4_20) (fun _ h9 => h9) rfl (by decide +kernel) rfl rfl (Nat.le_of_ble_eq_true rfl) dX4_goOn_39 (fun H locs hP _ hS => ?_)
          have hP := cw_st (j := 2) (x := u_21) rfl hP
          obtain ⟨S_22, eS_22⟩ : ∃ z : CS, z = sti S_18 1 2 u_21 := ⟨_, rfl⟩
          rw [← eS_22] at hP
          have h := h S_22 eS_22
          refine lv_goto (tgt := 8) hx hb dX4_goOn_42 (by decide) ?_
          exact ih  S_22 H locs ls hP hS hl h
  have hl := lv_entry ([.ref (X.1 1)]) (n := 1) (Nat.le_of_ble_eq_true rfl)
  rw [lg_entry_eq]
  generalize (lg_sl ([.ref (X.1 1)]) ++ List.replicate (1 - (lg_sl ([.ref (X.1 1)])).length) Slot.unset).toArray = ls at hl ⊢
  have hl : lv_has ls 1 [(0, .ref (X.1 1))] := hl
  obtain ⟨H, hH⟩ : ∃ H : Heap, H = s.heap := ⟨_, rfl⟩
  obtain ⟨locs, hlc⟩ : ∃ q : List Loc, q = [] := ⟨_, rfl⟩
  have hS : va_S (AX 75 X.1 s.heap.size) s.heap H locs := by rw [hH, hlc]; exact hS
  have hP : va_P D vwCl (CW X S) H := by rw [hH]; exact hP
  show W p l e (headSpec (Cond.code yX4_goOn cX4_goOn 1 (some .int) :: lw_gd) rm_X4_goOn).room s m ([.ref (X.1 1)] : List Value).toArray below meth c s.heap [] 0 0 (MQ below (va_Qi post (gB D (CW X)) (AX 75 X.1 s.heap.size)) ([.ref (X.1 1)] : List Value).toArray s 0 0 (AX 75 X.1 s.heap.size)) _
  suffices hgo : W p l e (headSpec (Cond.code yX4_goOn cX4_goOn 1 (some .int) :: lw_gd) rm_X4_goOn).room s m ([.ref (X.1 1)] : List Value).toArray below meth c H locs 0 0 (MQ below (va_Qi post (gB D (CW X)) (AX 75 X.1 s.heap.size)) ([.ref (X.1 1)] : List Value).toArray s 0 0 (AX 75 X.1 s.heap.size)) (F0 m 0 ls []) from by rw [hH, hlc] at hgo; exact hgo
  unfold p_X4_goOn at h
  refine lv_aload_n hx hb dX4_goOn_0 rfl (lv_at hl 0 rfl) ?_
  refine lv_aload_n hx hb dX4_goOn_1 rfl (lv_at hl 0 rfl) ?_
  refine va_get (D := D) (ci := 4) (v := .int (S.1 1 3)) (C := RX4) (T := TX4) (N := 6) hx hb hT inX4 hown hK hP 1 cw_Text rfl 3 (by decide) (hT _ wf_X4_17) (fun _ h9 => h9) rfl dX4_goOn_2 ?_
  refine lv_topi (fun u_1 eu_1 => ?_)
  have h := h u_1 eu_1
  refine va_put (D := D) (ci := 4) (v := .int u_1) (ty := .int) (C := RX4) (T := TX4) (N := 6) hx hb hT inX4 tyX4 tyX4_ok nmX4 hown hK hP (gw_D hX) hS 1 cw_Text rfl 2 (by decide) (hT _ wf_X4_20) (fun _ h9 => h9) rfl (by decide +kernel) rfl rfl (Nat.le_of_ble_eq_true rfl) dX4_goOn_5 (fun H locs hP _ hS => ?_)
  have hP := cw_st (j := 2) (x := u_1) rfl hP
  obtain ⟨S_2, eS_2⟩ : ∃ z : CS, z = sti S 1 2 u_1 := ⟨_, rfl⟩
  rw [← eS_2] at hP
  have h := h S_2 eS_2
  obtain ⟨n1, h⟩ := h
  exact W8  n1  S_2 H locs ls hP hS hl h

abbrev rm_X5_parts : Room := { frames := 0, cells := 0, slots := 0, locals := 0 }
def p_X5_parts (S : CS) (tt : Nat) (post : Int32 → CS → Prop) : Prop := post (S.1 (tm tt) 0) S
set_option maxHeartbeats 4000000 in
set_option maxRecDepth 100000 in
theorem c_X5_parts (l : Launch) (D : va_G) (X : XE) (hX : Inj 75 X.1) (sz : Nat) (S : CS) (tt : Nat) (hyp_tt : tt < 2) (post : Int32 → CS → Prop) (h : p_X5_parts S tt post) : Met l yX5_parts (Cond.code yX5_parts cX5_parts 1 (some .int) :: lw_gd) rm_X5_parts (gPc D (tyX X) (CW X) (FXc X) (AX 75 X.1 sz) sz S [.ref (X.1 (to tt))]) (va_Qi post (gB D (CW X)) (AX 75 X.1 sz)) 0 0 (AX 75 X.1 sz) := by
  refine Met.ofW (cc := cX5_parts) (maxL := 1) (ret := (some .int)) (by decide) rfl ?_
  intro p e s m args below meth c s₁ B hml hv
  obtain ⟨rfl, hsz, hP, hK, hF⟩ := hv
  have hx := B.exec
  have hb := B.bytes
  have hr := B.returns
  have hts := atoms_spec (ws := (Cond.code yX5_parts cX5_parts 1 (some .int) :: lw_gd)) B.pre
  have hT : ∀ w ∈ lw_gd, w.before _ s = true := fun w h9 => hts w (List.mem_cons_of_mem _ h9)
  have hown : s.vm.findClass RX5 = some m.cls := findClass_of_methodNamed B.named
  have hlocks := B.notSynchronized
  subst hsz
  have hS : va_S (AX 75 X.1 s.heap.size) s.heap s.heap [] := va_S.rf
  have hl := lv_entry ([.ref (X.1 (to tt))]) (n := 1) (Nat.le_of_ble_eq_true rfl)
  rw [lg_entry_eq]
  generalize (lg_sl ([.ref (X.1 (to tt))]) ++ List.replicate (1 - (lg_sl ([.ref (X.1 (to tt))])).length) Slot.unset).toArray = ls at hl ⊢
  have hl : lv_has ls 1 [(0, .ref (X.1 (to tt)))] := hl
  obtain ⟨H, hH⟩ : ∃ H : Heap, H = s.heap := ⟨_, rfl⟩
  obtain ⟨locs, hlc⟩ : ∃ q : List Loc, q = [] := ⟨_, rfl⟩
  have hS : va_S (AX 75 X.1 s.heap.size) s.heap H locs := by rw [hH, hlc]; exact hS
  have hP : va_P D vwCl (CW X S) H := by rw [hH]; exact hP
  show W p l e (headSpec (Cond.code yX5_parts cX5_parts 1 (some .int) :: lw_gd) rm_X5_parts).room s m ([.ref (X.1 (to tt))] : List Value).toArray below meth c s.heap [] 0 0 (MQ below (va_Qi post (gB D (CW X)) (AX 75 X.1 s.heap.size)) ([.ref (X.1 (to tt))] : List Value).toArray s 0 0 (AX 75 X.1 s.heap.size)) _
  suffices hgo : W p l e (headSpec (Cond.code yX5_parts cX5_parts 1 (some .int) :: lw_gd) rm_X5_parts).room s m ([.ref (X.1 (to tt))] : List Value).toArray below meth c H locs 0 0 (MQ below (va_Qi post (gB D (CW X)) (AX 75 X.1 s.heap.size)) ([.ref (X.1 (to tt))] : List Value).toArray s 0 0 (AX 75 X.1 s.heap.size)) (F0 m 0 ls []) from by rw [hH, hlc] at hgo; exact hgo
  unfold p_X5_parts at h
  refine lv_aload_n hx hb dX5_parts_0 rfl (lv_at hl 0 rfl) ?_
  refine va_get (D := D) (ci := 5) (v := .ref (X.1 (tm tt))) (C := RX5) (T := TX5) (N := 2) hx hb hT inX5 hown hK hP (to tt) (cw_Told (t := tt) (by omega)) rfl 0 (by decide) (hT _ wf_X5_9) (fun _ h9 => h9) rfl dX5_parts_1 ?_
  refine lv_iconst (v := 0) hx hb dX5_parts_4 (by decide) ?_
  refine g_iald hx hb hK hP (tm tt) (cw_tm (t := tt) (by omega)) rfl (vpc (by decide)) 0 rfl dX5_parts_5 ?_
  exact W.iret (v := S.1 (tm tt) 0) hx hb hr (fun t ht hW => ⟨⟨S.1 (tm tt) 0, S, rfl, h, gB_of ht hP⟩, hS.F ht⟩) hS.2.2 dX5_parts_6

abbrev rm_X5_orders : Room := { frames := 0, cells := 0, slots := 0, locals := 0 }
def p_X5_orders (S : CS) (tt : Nat) (post : Int32 → CS → Prop) : Prop := post (S.1 (tm tt) 1) S
set_option maxHeartbeats 4000000 in
set_option maxRecDepth 100000 in
theorem c_X5_orders (l : Launch) (D : va_G) (X : XE) (hX : Inj 75 X.1) (sz : Nat) (S : CS) (tt : Nat) (hyp_tt : tt < 2) (post : Int32 → CS → Prop) (h : p_X5_orders S tt post) : Met l yX5_orders (Cond.code yX5_orders cX5_orders 1 (some .int) :: lw_gd) rm_X5_orders (gPc D (tyX X) (CW X) (FXc X) (AX 75 X.1 sz) sz S [.ref (X.1 (to tt))]) (va_Qi post (gB D (CW X)) (AX 75 X.1 sz)) 0 0 (AX 75 X.1 sz) := by
  refine Met.ofW (cc := cX5_orders) (maxL := 1) (ret := (some .int)) (by decide) rfl ?_
  intro p e s m args below meth c s₁ B hml hv
  obtain ⟨rfl, hsz, hP, hK, hF⟩ := hv
  have hx := B.exec
  have hb := B.bytes
  have hr := B.returns
  have hts := atoms_spec (ws := (Cond.code yX5_orders cX5_orders 1 (some .int) :: lw_gd)) B.pre
  have hT : ∀ w ∈ lw_gd, w.before _ s = true := fun w h9 => hts w (List.mem_cons_of_mem _ h9)
  have hown : s.vm.findClass RX5 = some m.cls := findClass_of_methodNamed B.named
  have hlocks := B.notSynchronized
  subst hsz
  have hS : va_S (AX 75 X.1 s.heap.size) s.heap s.heap [] := va_S.rf
  have hl := lv_entry ([.ref (X.1 (to tt))]) (n := 1) (Nat.le_of_ble_eq_true rfl)
  rw [lg_entry_eq]
  generalize (lg_sl ([.ref (X.1 (to tt))]) ++ List.replicate (1 - (lg_sl ([.ref (X.1 (to tt))])).length) Slot.unset).toArray = ls at hl ⊢
  have hl : lv_has ls 1 [(0, .ref (X.1 (to tt)))] := hl
  obtain ⟨H, hH⟩ : ∃ H : Heap, H = s.heap := ⟨_, rfl⟩
  obtain ⟨locs, hlc⟩ : ∃ q : List Loc, q = [] := ⟨_, rfl⟩
  have hS : va_S (AX 75 X.1 s.heap.size) s.heap H locs := by rw [hH, hlc]; exact hS
  have hP : va_P D vwCl (CW X S) H := by rw [hH]; exact hP
  show W p l e (headSpec (Cond.code yX5_orders cX5_orders 1 (some .int) :: lw_gd) rm_X5_orders).room s m ([.ref (X.1 (to tt))] : List Value).toArray below meth c s.heap [] 0 0 (MQ below (va_Qi post (gB D (CW X)) (AX 75 X.1 s.heap.size)) ([.ref (X.1 (to tt))] : List Value).toArray s 0 0 (AX 75 X.1 s.heap.size)) _
  suffices hgo : W p l e (headSpec (Cond.code yX5_orders cX5_orders 1 (some .int) :: lw_gd) rm_X5_orders).room s m ([.ref (X.1 (to tt))] : List Value).toArray below meth c H locs 0 0 (MQ below (va_Qi post (gB D (CW X)) (AX 75 X.1 s.heap.size)) ([.ref (X.1 (to tt))] : List Value).toArray s 0 0 (AX 75 X.1 s.heap.size)) (F0 m 0 ls []) from by rw [hH, hlc] at hgo; exact hgo
  unfold p_X5_orders at h
  refine lv_aload_n hx hb dX5_orders_0 rfl (lv_at hl 0 rfl) ?_
  refine va_get (D := D) (ci := 5) (v := .ref (X.1 (tm tt))) (C := RX5) (T := TX5) (N := 2) hx hb hT inX5 hown hK hP (to tt) (cw_Told (t := tt) (by omega)) rfl 0 (by decide) (hT _ wf_X5_9) (fun _ h9 => h9) rfl dX5_orders_1 ?_
  refine lv_iconst (v := 1) hx hb dX5_orders_4 (by decide) ?_
  refine g_iald hx hb hK hP (tm tt) (cw_tm (t := tt) (by omega)) rfl (vpc (by decide)) 1 rfl dX5_orders_5 ?_
  exact W.iret (v := S.1 (tm tt) 1) hx hb hr (fun t ht hW => ⟨⟨S.1 (tm tt) 1, S, rfl, h, gB_of ht hP⟩, hS.F ht⟩) hS.2.2 dX5_orders_6

abbrev rm_X5_isPlace : Room := { frames := 0, cells := 0, slots := 0, locals := 0 }
def p_X5_isPlace (S : CS) (x0 : Int32) (x1 : Int32) (post : Int32 → CS → Prop) : Prop := (x0 < 0 → (post 0 S)) ∧ (¬ (x0 < 0) → ((9 ≤ x0 → (post 0 S)) ∧ (¬ (9 ≤ x0) → ((x1 < 0 → (post 0 S)) ∧ (¬ (x1 < 0) → ((6 ≤ x1 → (post 0 S)) ∧ (¬ (6 ≤ x1) → (post 1 S))))))))
set_option maxHeartbeats 4000000 in
set_option maxRecDepth 100000 in
theorem c_X5_isPlace (l : Launch) (D : va_G) (X : XE) (hX : Inj 75 X.1) (sz : Nat) (S : CS) (x0 : Int32) (x1 : Int32) (post : Int32 → CS → Prop) (h : p_X5_isPlace S x0 x1 post) : Met l yX5_isPlace (Cond.code yX5_isPlace cX5_isPlace 2 (some .boolean) :: lw_gd) rm_X5_isPlace (gPc D (tyX X) (CW X) (FXc X) (AX 75 X.1 sz) sz S [.int x0, .int x1]) (va_Qi post (gB D (CW X)) (AX 75 X.1 sz)) 0 0 (AX 75 X.1 sz) := by
  refine Met.ofW (cc := cX5_isPlace) (maxL := 2) (ret := (some .boolean)) (by decide) rfl ?_
  intro p e s m args below meth c s₁ B hml hv
  obtain ⟨rfl, hsz, hP, hK, hF⟩ := hv
  have hx := B.exec
  have hb := B.bytes
  have hr := B.returns
  have hts := atoms_spec (ws := (Cond.code yX5_isPlace cX5_isPlace 2 (some .boolean) :: lw_gd)) B.pre
  have hT : ∀ w ∈ lw_gd, w.before _ s = true := fun w h9 => hts w (List.mem_cons_of_mem _ h9)
  have hown : s.vm.findClass RX5 = some m.cls := findClass_of_methodNamed B.named
  have hlocks := B.notSynchronized
  subst hsz
  have hS : va_S (AX 75 X.1 s.heap.size) s.heap s.heap [] := va_S.rf
  have hl := lv_entry ([.int x0, .int x1]) (n := 2) (Nat.le_of_ble_eq_true rfl)
  rw [lg_entry_eq]
  generalize (lg_sl ([.int x0, .int x1]) ++ List.replicate (2 - (lg_sl ([.int x0, .int x1])).length) Slot.unset).toArray = ls at hl ⊢
  have hl : lv_has ls 2 [(0, .int x0), (1, .int x1)] := hl
  obtain ⟨H, hH⟩ : ∃ H : Heap, H = s.heap := ⟨_, rfl⟩
  obtain ⟨locs, hlc⟩ : ∃ q : List Loc, q = [] := ⟨_, rfl⟩
  have hS : va_S (AX 75 X.1 s.heap.size) s.heap H locs := by rw [hH, hlc]; exact hS
  have hP : va_P D vwCl (CW X S) H := by rw [hH]; exact hP
  show W p l e (headSpec (Cond.code yX5_isPlace cX5_isPlace 2 (some .boolean) :: lw_gd) rm_X5_isPlace).room s m ([.int x0, .int x1] : List Value).toArray below meth c s.heap [] 0 0 (MQ below (va_Qi post (gB D (CW X)) (AX 75 X.1 s.heap.size)) ([.int x0, .int x1] : List Value).toArray s 0 0 (AX 75 X.1 s.heap.size)) _
  suffices hgo : W p l e (headSpec (Cond.code yX5_isPlace cX5_isPlace 2 (some .boolean) :: lw_gd) rm_X5_isPlace).room s m ([.int x0, .int x1] : List Value).toArray below meth c H locs 0 0 (MQ below (va_Qi post (gB D (CW X)) (AX 75 X.1 s.heap.size)) ([.int x0, .int x1] : List Value).toArray s 0 0 (AX 75 X.1 s.heap.size)) (F0 m 0 ls []) from by rw [hH, hlc] at hgo; exact hgo
  unfold p_X5_isPlace at h
  refine lv_iload_n hx hb dX5_isPlace_0 rfl (lv_at hl 0 rfl) ?_
  refine lv_if_lt (tgt := 24) hx hb dX5_isPlace_1 (by decide) (fun c_1 => ?_) (fun c_1 => ?_)
  · have h := h.1 c_1
    refine lv_iconst (v := 0) hx hb dX5_isPlace_24 (by decide) ?_
    exact W.zret (v := 0) hx hb hr rfl (fun t ht hW => ⟨⟨0, S, rfl, h, gB_of ht hP⟩, hS.F ht⟩) hS.2.2 dX5_isPlace_25
  · have h := h.2 c_1
    refine lv_iload_n hx hb dX5_isPlace_4 rfl (lv_at hl 0 rfl) ?_
    refine lv_bipush (v := 9) hx hb dX5_isPlace_5 (by decide) ?_
    refine lv_icmp_ge (tgt := 24) hx hb dX5_isPlace_7 (by decide) (fun c_2 => ?_) (fun c_2 => ?_)
    · have h := h.1 c_2
      refine lv_iconst (v := 0) hx hb dX5_isPlace_24 (by decide) ?_
      exact W.zret (v := 0) hx hb hr rfl (fun t ht hW => ⟨⟨0, S, rfl, h, gB_of ht hP⟩, hS.F ht⟩) hS.2.2 dX5_isPlace_25
    · have h := h.2 c_2
      refine lv_iload_n hx hb dX5_isPlace_10 rfl (lv_at hl 1 rfl) ?_
      refine lv_if_lt (tgt := 24) hx hb dX5_isPlace_11 (by decide) (fun c_3 => ?_) (fun c_3 => ?_)
      · have h := h.1 c_3
        refine lv_iconst (v := 0) hx hb dX5_isPlace_24 (by decide) ?_
        exact W.zret (v := 0) hx hb hr rfl (fun t ht hW => ⟨⟨0, S, rfl, h, gB_of ht hP⟩, hS.F ht⟩) hS.2.2 dX5_isPlace_25
      · have h := h.2 c_3
        refine lv_iload_n hx hb dX5_isPlace_14 rfl (lv_at hl 1 rfl) ?_
        refine lv_bipush (v := 6) hx hb dX5_isPlace_15 (by decide) ?_
        refine lv_icmp_ge (tgt := 24) hx hb dX5_isPlace_17 (by decide) (fun c_4 => ?_) (fun c_4 => ?_)
        · have h := h.1 c_4
          refine lv_iconst (v := 0) hx hb dX5_isPlace_24 (by decide) ?_
          exact W.zret (v := 0) hx hb hr rfl (fun t ht hW => ⟨⟨0, S, rfl, h, gB_of ht hP⟩, hS.F ht⟩) hS.2.2 dX5_isPlace_25
        · have h := h.2 c_4
          refine lv_iconst (v := 1) hx hb dX5_isPlace_20 (by decide) ?_
          refine lv_goto (tgt := 25) hx hb dX5_isPlace_21 (by decide) ?_
          exact W.zret (v := 1) hx hb hr rfl (fun t ht hW => ⟨⟨1, S, rfl, h, gB_of ht hP⟩, hS.F ht⟩) hS.2.2 dX5_isPlace_25

abbrev rm_X5_value : Room := { frames := 1, cells := 0, slots := 0, locals := 21 }
def p_X5_value (S : CS) (tt : Nat) (x1 : Int32) (x2 : Int32) (post : Int32 → CS → Prop) : Prop := p_X5_isPlace S x1 x2 (fun r_2 S_1 => ((r_2 = 0 → (post 0 S_1)) ∧ (¬ (r_2 = 0) → (vp_in ((x1 * 6) + x2) 54 ∧ (post (S_1.1 (tv tt) (((x1 * 6) + x2).toNatClampNeg)) S_1)))))
set_option maxHeartbeats 4000000 in
set_option maxRecDepth 100000 in
theorem c_X5_value (l : Launch) (D : va_G) (X : XE) (hX : Inj 75 X.1) (sz : Nat) (S : CS) (tt : Nat) (hyp_tt : tt < 2) (x1 : Int32) (x2 : Int32) (post : Int32 → CS → Prop) (h : p_X5_value S tt x1 x2 post) : Met l yX5_value (Cond.code yX5_value cX5_value 3 (some .int) :: lw_gd) rm_X5_value (gPc D (tyX X) (CW X) (FXc X) (AX 75 X.1 sz) sz S [.ref (X.1 (to tt)), .int x1, .int x2]) (va_Qi post (gB D (CW X)) (AX 75 X.1 sz)) 0 0 (AX 75 X.1 sz) := by
  refine Met.ofW (cc := cX5_value) (maxL := 3) (ret := (some .int)) (by decide) rfl ?_
  intro p e s m args below meth c s₁ B hml hv
  obtain ⟨rfl, hsz, hP, hK, hF⟩ := hv
  have hx := B.exec
  have hb := B.bytes
  have hr := B.returns
  have hts := atoms_spec (ws := (Cond.code yX5_value cX5_value 3 (some .int) :: lw_gd)) B.pre
  have hT : ∀ w ∈ lw_gd, w.before _ s = true := fun w h9 => hts w (List.mem_cons_of_mem _ h9)
  have hown : s.vm.findClass RX5 = some m.cls := findClass_of_methodNamed B.named
  have hlocks := B.notSynchronized
  subst hsz
  have hS : va_S (AX 75 X.1 s.heap.size) s.heap s.heap [] := va_S.rf
  have hl := lv_entry ([.ref (X.1 (to tt)), .int x1, .int x2]) (n := 3) (Nat.le_of_ble_eq_true rfl)
  rw [lg_entry_eq]
  generalize (lg_sl ([.ref (X.1 (to tt)), .int x1, .int x2]) ++ List.replicate (3 - (lg_sl ([.ref (X.1 (to tt)), .int x1, .int x2])).length) Slot.unset).toArray = ls at hl ⊢
  have hl : lv_has ls 3 [(0, .ref (X.1 (to tt))), (1, .int x1), (2, .int x2)] := hl
  obtain ⟨H, hH⟩ : ∃ H : Heap, H = s.heap := ⟨_, rfl⟩
  obtain ⟨locs, hlc⟩ : ∃ q : List Loc, q = [] := ⟨_, rfl⟩
  have hS : va_S (AX 75 X.1 s.heap.size) s.heap H locs := by rw [hH, hlc]; exact hS
  have hP : va_P D vwCl (CW X S) H := by rw [hH]; exact hP
  show W p l e (headSpec (Cond.code yX5_value cX5_value 3 (some .int) :: lw_gd) rm_X5_value).room s m ([.ref (X.1 (to tt)), .int x1, .int x2] : List Value).toArray below meth c s.heap [] 0 0 (MQ below (va_Qi post (gB D (CW X)) (AX 75 X.1 s.heap.size)) ([.ref (X.1 (to tt)), .int x1, .int x2] : List Value).toArray s 0 0 (AX 75 X.1 s.heap.size)) _
  suffices hgo : W p l e (headSpec (Cond.code yX5_value cX5_value 3 (some .int) :: lw_gd) rm_X5_value).room s m ([.ref (X.1 (to tt)), .int x1, .int x2] : List Value).toArray below meth c H locs 0 0 (MQ below (va_Qi post (gB D (CW X)) (AX 75 X.1 s.heap.size)) ([.ref (X.1 (to tt)), .int x1, .int x2] : List Value).toArray s 0 0 (AX 75 X.1 s.heap.size)) (F0 m 0 ls []) from by rw [hH, hlc] at hgo; exact hgo
  unfold p_X5_value at h
  refine lv_iload_n hx hb dX5_value_0 rfl (lv_at hl 1 rfl) ?_
  refine lv_iload_n hx hb dX5_value_1 rfl (lv_at hl 2 rfl) ?_
  refine cSi (As := [.int x1, .int x2]) (rest := []) hX ⟨hx, hb, hml, hown, hT⟩ (c_X5_isPlace l D X hX H.size S x1 x2 _ h) (gd_S wl_X5_23 wt_X5_isPlace wn_X5 wc_X5_isPlace) hd_X5_isPlace ⟨rfl, rfl⟩ ⟨Nat.le_of_ble_eq_true rfl, Nat.le_of_ble_eq_true rfl⟩ hK hP hS hF rfl hl.1 rfl (Nat.le_of_ble_eq_true rfl) dX5_value_2 ⟨Nat.zero_le _, Nat.zero_le _⟩ (fun r_2 S_1 H locs h hP hS => ?_)
  refine lv_if_eq (tgt := 22) hx hb dX5_value_5 (by decide) (fun c_3 => ?_) (fun c_3 => ?_)
  · have h := h.1 c_3
    refine lv_iconst (v := 0) hx hb dX5_value_22 (by decide) ?_
    exact W.iret (v := 0) hx hb hr (fun t ht hW => ⟨⟨0, S_1, rfl, h, gB_of ht hP⟩, hS.F ht⟩) hS.2.2 dX5_value_23
  · have h := h.2 c_3
    refine lv_aload_n hx hb dX5_value_8 rfl (lv_at hl 0 rfl) ?_
    refine va_get (D := D) (ci := 5) (v := .ref (X.1 (tv tt))) (C := RX5) (T := TX5) (N := 2) hx hb hT inX5 hown hK hP (to tt) (cw_Told (t := tt) (by omega)) rfl 1 (by decide) (hT _ wf_X5_13) (fun _ h9 => h9) rfl dX5_value_9 ?_
    refine lv_iload_n hx hb dX5_value_12 rfl (lv_at hl 1 rfl) ?_
    refine lv_bipush (v := 6) hx hb dX5_value_13 (by decide) ?_
    refine lv_imul hx hb dX5_value_15 ?_
    refine lv_iload_n hx hb dX5_value_16 rfl (lv_at hl 2 rfl) ?_
    refine lv_iadd hx hb dX5_value_17 ?_
    obtain ⟨hi, h⟩ := h
    refine g_iald hx hb hK hP (tv tt) (cw_tv (t := tt) (by omega)) rfl hi (((x1 * 6) + x2).toNatClampNeg) rfl dX5_value_18 ?_
    refine lv_goto (tgt := 23) hx hb dX5_value_19 (by decide) ?_
    exact W.iret (v := S_1.1 (tv tt) (((x1 * 6) + x2).toNatClampNeg)) hx hb hr (fun t ht hW => ⟨⟨S_1.1 (tv tt) (((x1 * 6) + x2).toNatClampNeg), S_1, rfl, h, gB_of ht hP⟩, hS.F ht⟩) hS.2.2 dX5_value_23

abbrev rm_X5_ripe : Room := { frames := 2, cells := 0, slots := 0, locals := 43 }
def p_X5_ripe (S : CS) (tt : Nat) (post : Int32 → CS → Prop) : Prop := p_X5_value S tt 5 0 (fun r_2 S_1 => (post r_2 S_1))
set_option maxHeartbeats 4000000 in
set_option maxRecDepth 100000 in
theorem c_X5_ripe (l : Launch) (D : va_G) (X : XE) (hX : Inj 75 X.1) (sz : Nat) (S : CS) (tt : Nat) (hyp_tt : tt < 2) (post : Int32 → CS → Prop) (h : p_X5_ripe S tt post) : Met l yX5_ripe (Cond.code yX5_ripe cX5_ripe 1 (some .int) :: lw_gd) rm_X5_ripe (gPc D (tyX X) (CW X) (FXc X) (AX 75 X.1 sz) sz S [.ref (X.1 (to tt))]) (va_Qi post (gB D (CW X)) (AX 75 X.1 sz)) 0 0 (AX 75 X.1 sz) := by
  refine Met.ofW (cc := cX5_ripe) (maxL := 1) (ret := (some .int)) (by decide) rfl ?_
  intro p e s m args below meth c s₁ B hml hv
  obtain ⟨rfl, hsz, hP, hK, hF⟩ := hv
  have hx := B.exec
  have hb := B.bytes
  have hr := B.returns
  have hts := atoms_spec (ws := (Cond.code yX5_ripe cX5_ripe 1 (some .int) :: lw_gd)) B.pre
  have hT : ∀ w ∈ lw_gd, w.before _ s = true := fun w h9 => hts w (List.mem_cons_of_mem _ h9)
  have hown : s.vm.findClass RX5 = some m.cls := findClass_of_methodNamed B.named
  have hlocks := B.notSynchronized
  subst hsz
  have hS : va_S (AX 75 X.1 s.heap.size) s.heap s.heap [] := va_S.rf
  have hl := lv_entry ([.ref (X.1 (to tt))]) (n := 1) (Nat.le_of_ble_eq_true rfl)
  rw [lg_entry_eq]
  generalize (lg_sl ([.ref (X.1 (to tt))]) ++ List.replicate (1 - (lg_sl ([.ref (X.1 (to tt))])).length) Slot.unset).toArray = ls at hl ⊢
  have hl : lv_has ls 1 [(0, .ref (X.1 (to tt)))] := hl
  obtain ⟨H, hH⟩ : ∃ H : Heap, H = s.heap := ⟨_, rfl⟩
  obtain ⟨locs, hlc⟩ : ∃ q : List Loc, q = [] := ⟨_, rfl⟩
  have hS : va_S (AX 75 X.1 s.heap.size) s.heap H locs := by rw [hH, hlc]; exact hS
  have hP : va_P D vwCl (CW X S) H := by rw [hH]; exact hP
  show W p l e (headSpec (Cond.code yX5_ripe cX5_ripe 1 (some .int) :: lw_gd) rm_X5_ripe).room s m ([.ref (X.1 (to tt))] : List Value).toArray below meth c s.heap [] 0 0 (MQ below (va_Qi post (gB D (CW X)) (AX 75 X.1 s.heap.size)) ([.ref (X.1 (to tt))] : List Value).toArray s 0 0 (AX 75 X.1 s.heap.size)) _
  suffices hgo : W p l e (headSpec (Cond.code yX5_ripe cX5_ripe 1 (some .int) :: lw_gd) rm_X5_ripe).room s m ([.ref (X.1 (to tt))] : List Value).toArray below meth c H locs 0 0 (MQ below (va_Qi post (gB D (CW X)) (AX 75 X.1 s.heap.size)) ([.ref (X.1 (to tt))] : List Value).toArray s 0 0 (AX 75 X.1 s.heap.size)) (F0 m 0 ls []) from by rw [hH, hlc] at hgo; exact hgo
  unfold p_X5_ripe at h
  refine lv_aload_n hx hb dX5_ripe_0 rfl (lv_at hl 0 rfl) ?_
  refine lv_iconst (v := 5) hx hb dX5_ripe_1 (by decide) ?_
  refine lv_iconst (v := 0) hx hb dX5_ripe_2 (by decide) ?_
  refine cVi (As := [.int 5, .int 0]) (rest := []) hX ⟨hx, hb, hml, hown, hT⟩ (c_X5_value l D X hX H.size S tt hyp_tt 5 0 _ h) (gd_V wl_X5_19 wi_X5_value wv_X5_value wn_X5 wc_X5_value) rfl hd_X5_value ⟨rfl, rfl⟩ ⟨Nat.le_of_ble_eq_true rfl, Nat.le_of_ble_eq_true rfl⟩ (va_recv hK hP (ci := 5) (q0 := (to tt)) rfl (cw_Told (t := tt) (by omega))) hK hP hS hF rfl hl.1 rfl (Nat.le_of_ble_eq_true rfl) dX5_ripe_3 ⟨Nat.zero_le _, Nat.zero_le _⟩ (fun r_2 S_1 H locs h hP hS => ?_)
  exact W.iret (v := r_2) hx hb hr (fun t ht hW => ⟨⟨r_2, S_1, rfl, h, gB_of ht hP⟩, hS.F ht⟩) hS.2.2 dX5_ripe_6

abbrev rm_X5_twigs : Room := { frames := 2, cells := 0, slots := 0, locals := 43 }
def p_X5_twigs (S : CS) (tt : Nat) (post : Int32 → CS → Prop) : Prop := p_X5_value S tt 6 0 (fun r_2 S_1 => (post r_2 S_1))
set_option maxHeartbeats 4000000 in
set_option maxRecDepth 100000 in
theorem c_X5_twigs (l : Launch) (D : va_G) (X : XE) (hX : Inj 75 X.1) (sz : Nat) (S : CS) (tt : Nat) (hyp_tt : tt < 2) (post : Int32 → CS → Prop) (h : p_X5_twigs S tt post) : Met l yX5_twigs (Cond.code yX5_twigs cX5_twigs 1 (some .int) :: lw_gd) rm_X5_twigs (gPc D (tyX X) (CW X) (FXc X) (AX 75 X.1 sz) sz S [.ref (X.1 (to tt))]) (va_Qi post (gB D (CW X)) (AX 75 X.1 sz)) 0 0 (AX 75 X.1 sz) := by
  refine Met.ofW (cc := cX5_twigs) (maxL := 1) (ret := (some .int)) (by decide) rfl ?_
  intro p e s m args below meth c s₁ B hml hv
  obtain ⟨rfl, hsz, hP, hK, hF⟩ := hv
  have hx := B.exec
  have hb := B.bytes
  have hr := B.returns
  have hts := atoms_spec (ws := (Cond.code yX5_twigs cX5_twigs 1 (some .int) :: lw_gd)) B.pre
  have hT : ∀ w ∈ lw_gd, w.before _ s = true := fun w h9 => hts w (List.mem_cons_of_mem _ h9)
  have hown : s.vm.findClass RX5 = some m.cls := findClass_of_methodNamed B.named
  have hlocks := B.notSynchronized
  subst hsz
  have hS : va_S (AX 75 X.1 s.heap.size) s.heap s.heap [] := va_S.rf
  have hl := lv_entry ([.ref (X.1 (to tt))]) (n := 1) (Nat.le_of_ble_eq_true rfl)
  rw [lg_entry_eq]
  generalize (lg_sl ([.ref (X.1 (to tt))]) ++ List.replicate (1 - (lg_sl ([.ref (X.1 (to tt))])).length) Slot.unset).toArray = ls at hl ⊢
  have hl : lv_has ls 1 [(0, .ref (X.1 (to tt)))] := hl
  obtain ⟨H, hH⟩ : ∃ H : Heap, H = s.heap := ⟨_, rfl⟩
  obtain ⟨locs, hlc⟩ : ∃ q : List Loc, q = [] := ⟨_, rfl⟩
  have hS : va_S (AX 75 X.1 s.heap.size) s.heap H locs := by rw [hH, hlc]; exact hS
  have hP : va_P D vwCl (CW X S) H := by rw [hH]; exact hP
  show W p l e (headSpec (Cond.code yX5_twigs cX5_twigs 1 (some .int) :: lw_gd) rm_X5_twigs).room s m ([.ref (X.1 (to tt))] : List Value).toArray below meth c s.heap [] 0 0 (MQ below (va_Qi post (gB D (CW X)) (AX 75 X.1 s.heap.size)) ([.ref (X.1 (to tt))] : List Value).toArray s 0 0 (AX 75 X.1 s.heap.size)) _
  suffices hgo : W p l e (headSpec (Cond.code yX5_twigs cX5_twigs 1 (some .int) :: lw_gd) rm_X5_twigs).room s m ([.ref (X.1 (to tt))] : List Value).toArray below meth c H locs 0 0 (MQ below (va_Qi post (gB D (CW X)) (AX 75 X.1 s.heap.size)) ([.ref (X.1 (to tt))] : List Value).toArray s 0 0 (AX 75 X.1 s.heap.size)) (F0 m 0 ls []) from by rw [hH, hlc] at hgo; exact hgo
  unfold p_X5_twigs at h
  refine lv_aload_n hx hb dX5_twigs_0 rfl (lv_at hl 0 rfl) ?_
  refine lv_bipush (v := 6) hx hb dX5_twigs_1 (by decide) ?_
  refine lv_iconst (v := 0) hx hb dX5_twigs_3 (by decide) ?_
  refine cVi (As := [.int 6, .int 0]) (rest := []) hX ⟨hx, hb, hml, hown, hT⟩ (c_X5_value l D X hX H.size S tt hyp_tt 6 0 _ h) (gd_V wl_X5_19 wi_X5_value wv_X5_value wn_X5 wc_X5_value) rfl hd_X5_value ⟨rfl, rfl⟩ ⟨Nat.le_of_ble_eq_true rfl, Nat.le_of_ble_eq_true rfl⟩ (va_recv hK hP (ci := 5) (q0 := (to tt)) rfl (cw_Told (t := tt) (by omega))) hK hP hS hF rfl hl.1 rfl (Nat.le_of_ble_eq_true rfl) dX5_twigs_4 ⟨Nat.zero_le _, Nat.zero_le _⟩ (fun r_2 S_1 H locs h hP hS => ?_)
  exact W.iret (v := r_2) hx hb hr (fun t ht hW => ⟨⟨r_2, S_1, rfl, h, gB_of ht hP⟩, hS.F ht⟩) hS.2.2 dX5_twigs_7

abbrev rm_X5_pace : Room := { frames := 2, cells := 0, slots := 0, locals := 43 }
def p_X5_pace (S : CS) (tt : Nat) (post : Int32 → CS → Prop) : Prop := p_X5_value S tt 7 0 (fun r_2 S_1 => (post r_2 S_1))
set_option maxHeartbeats 4000000 in
set_option maxRecDepth 100000 in
theorem c_X5_pace (l : Launch) (D : va_G) (X : XE) (hX : Inj 75 X.1) (sz : Nat) (S : CS) (tt : Nat) (hyp_tt : tt < 2) (post : Int32 → CS → Prop) (h : p_X5_pace S tt post) : Met l yX5_pace (Cond.code yX5_pace cX5_pace 1 (some .int) :: lw_gd) rm_X5_pace (gPc D (tyX X) (CW X) (FXc X) (AX 75 X.1 sz) sz S [.ref (X.1 (to tt))]) (va_Qi post (gB D (CW X)) (AX 75 X.1 sz)) 0 0 (AX 75 X.1 sz) := by
  refine Met.ofW (cc := cX5_pace) (maxL := 1) (ret := (some .int)) (by decide) rfl ?_
  intro p e s m args below meth c s₁ B hml hv
  obtain ⟨rfl, hsz, hP, hK, hF⟩ := hv
  have hx := B.exec
  have hb := B.bytes
  have hr := B.returns
  have hts := atoms_spec (ws := (Cond.code yX5_pace cX5_pace 1 (some .int) :: lw_gd)) B.pre
  have hT : ∀ w ∈ lw_gd, w.before _ s = true := fun w h9 => hts w (List.mem_cons_of_mem _ h9)
  have hown : s.vm.findClass RX5 = some m.cls := findClass_of_methodNamed B.named
  have hlocks := B.notSynchronized
  subst hsz
  have hS : va_S (AX 75 X.1 s.heap.size) s.heap s.heap [] := va_S.rf
  have hl := lv_entry ([.ref (X.1 (to tt))]) (n := 1) (Nat.le_of_ble_eq_true rfl)
  rw [lg_entry_eq]
  generalize (lg_sl ([.ref (X.1 (to tt))]) ++ List.replicate (1 - (lg_sl ([.ref (X.1 (to tt))])).length) Slot.unset).toArray = ls at hl ⊢
  have hl : lv_has ls 1 [(0, .ref (X.1 (to tt)))] := hl
  obtain ⟨H, hH⟩ : ∃ H : Heap, H = s.heap := ⟨_, rfl⟩
  obtain ⟨locs, hlc⟩ : ∃ q : List Loc, q = [] := ⟨_, rfl⟩
  have hS : va_S (AX 75 X.1 s.heap.size) s.heap H locs := by rw [hH, hlc]; exact hS
  have hP : va_P D vwCl (CW X S) H := by rw [hH]; exact hP
  show W p l e (headSpec (Cond.code yX5_pace cX5_pace 1 (some .int) :: lw_gd) rm_X5_pace).room s m ([.ref (X.1 (to tt))] : List Value).toArray below meth c s.heap [] 0 0 (MQ below (va_Qi post (gB D (CW X)) (AX 75 X.1 s.heap.size)) ([.ref (X.1 (to tt))] : List Value).toArray s 0 0 (AX 75 X.1 s.heap.size)) _
  suffices hgo : W p l e (headSpec (Cond.code yX5_pace cX5_pace 1 (some .int) :: lw_gd) rm_X5_pace).room s m ([.ref (X.1 (to tt))] : List Value).toArray below meth c H locs 0 0 (MQ below (va_Qi post (gB D (CW X)) (AX 75 X.1 s.heap.size)) ([.ref (X.1 (to tt))] : List Value).toArray s 0 0 (AX 75 X.1 s.heap.size)) (F0 m 0 ls []) from by rw [hH, hlc] at hgo; exact hgo
  unfold p_X5_pace at h
  refine lv_aload_n hx hb dX5_pace_0 rfl (lv_at hl 0 rfl) ?_
  refine lv_bipush (v := 7) hx hb dX5_pace_1 (by decide) ?_
  refine lv_iconst (v := 0) hx hb dX5_pace_3 (by decide) ?_
  refine cVi (As := [.int 7, .int 0]) (rest := []) hX ⟨hx, hb, hml, hown, hT⟩ (c_X5_value l D X hX H.size S tt hyp_tt 7 0 _ h) (gd_V wl_X5_19 wi_X5_value wv_X5_value wn_X5 wc_X5_value) rfl hd_X5_value ⟨rfl, rfl⟩ ⟨Nat.le_of_ble_eq_true rfl, Nat.le_of_ble_eq_true rfl⟩ (va_recv hK hP (ci := 5) (q0 := (to tt)) rfl (cw_Told (t := tt) (by omega))) hK hP hS hF rfl hl.1 rfl (Nat.le_of_ble_eq_true rfl) dX5_pace_4 ⟨Nat.zero_le _, Nat.zero_le _⟩ (fun r_2 S_1 H locs h hP hS => ?_)
  exact W.iret (v := r_2) hx hb hr (fun t ht hW => ⟨⟨r_2, S_1, rfl, h, gB_of ht hP⟩, hS.F ht⟩) hS.2.2 dX5_pace_7

abbrev rm_X5_lengthAtFirst : Room := { frames := 2, cells := 0, slots := 0, locals := 43 }
def p_X5_lengthAtFirst (S : CS) (tt : Nat) (post : Int32 → CS → Prop) : Prop := p_X5_value S tt 8 0 (fun r_2 S_1 => (post r_2 S_1))
set_option maxHeartbeats 4000000 in
set_option maxRecDepth 100000 in
theorem c_X5_lengthAtFirst (l : Launch) (D : va_G) (X : XE) (hX : Inj 75 X.1) (sz : Nat) (S : CS) (tt : Nat) (hyp_tt : tt < 2) (post : Int32 → CS → Prop) (h : p_X5_lengthAtFirst S tt post) : Met l yX5_lengthAtFirst (Cond.code yX5_lengthAtFirst cX5_lengthAtFirst 1 (some .int) :: lw_gd) rm_X5_lengthAtFirst (gPc D (tyX X) (CW X) (FXc X) (AX 75 X.1 sz) sz S [.ref (X.1 (to tt))]) (va_Qi post (gB D (CW X)) (AX 75 X.1 sz)) 0 0 (AX 75 X.1 sz) := by
  refine Met.ofW (cc := cX5_lengthAtFirst) (maxL := 1) (ret := (some .int)) (by decide) rfl ?_
  intro p e s m args below meth c s₁ B hml hv
  obtain ⟨rfl, hsz, hP, hK, hF⟩ := hv
  have hx := B.exec
  have hb := B.bytes
  have hr := B.returns
  have hts := atoms_spec (ws := (Cond.code yX5_lengthAtFirst cX5_lengthAtFirst 1 (some .int) :: lw_gd)) B.pre
  have hT : ∀ w ∈ lw_gd, w.before _ s = true := fun w h9 => hts w (List.mem_cons_of_mem _ h9)
  have hown : s.vm.findClass RX5 = some m.cls := findClass_of_methodNamed B.named
  have hlocks := B.notSynchronized
  subst hsz
  have hS : va_S (AX 75 X.1 s.heap.size) s.heap s.heap [] := va_S.rf
  have hl := lv_entry ([.ref (X.1 (to tt))]) (n := 1) (Nat.le_of_ble_eq_true rfl)
  rw [lg_entry_eq]
  generalize (lg_sl ([.ref (X.1 (to tt))]) ++ List.replicate (1 - (lg_sl ([.ref (X.1 (to tt))])).length) Slot.unset).toArray = ls at hl ⊢
  have hl : lv_has ls 1 [(0, .ref (X.1 (to tt)))] := hl
  obtain ⟨H, hH⟩ : ∃ H : Heap, H = s.heap := ⟨_, rfl⟩
  obtain ⟨locs, hlc⟩ : ∃ q : List Loc, q = [] := ⟨_, rfl⟩
  have hS : va_S (AX 75 X.1 s.heap.size) s.heap H locs := by rw [hH, hlc]; exact hS
  have hP : va_P D vwCl (CW X S) H := by rw [hH]; exact hP
  show W p l e (headSpec (Cond.code yX5_lengthAtFirst cX5_lengthAtFirst 1 (some .int) :: lw_gd) rm_X5_lengthAtFirst).room s m ([.ref (X.1 (to tt))] : List Value).toArray below meth c s.heap [] 0 0 (MQ below (va_Qi post (gB D (CW X)) (AX 75 X.1 s.heap.size)) ([.ref (X.1 (to tt))] : List Value).toArray s 0 0 (AX 75 X.1 s.heap.size)) _
  suffices hgo : W p l e (headSpec (Cond.code yX5_lengthAtFirst cX5_lengthAtFirst 1 (some .int) :: lw_gd) rm_X5_lengthAtFirst).room s m ([.ref (X.1 (to tt))] : List Value).toArray below meth c H locs 0 0 (MQ below (va_Qi post (gB D (CW X)) (AX 75 X.1 s.heap.size)) ([.ref (X.1 (to tt))] : List Value).toArray s 0 0 (AX 75 X.1 s.heap.size)) (F0 m 0 ls []) from by rw [hH, hlc] at hgo; exact hgo
  unfold p_X5_lengthAtFirst at h
  refine lv_aload_n hx hb dX5_lengthAtFirst_0 rfl (lv_at hl 0 rfl) ?_
  refine lv_bipush (v := 8) hx hb dX5_lengthAtFirst_1 (by decide) ?_
  refine lv_iconst (v := 0) hx hb dX5_lengthAtFirst_3 (by decide) ?_
  refine cVi (As := [.int 8, .int 0]) (rest := []) hX ⟨hx, hb, hml, hown, hT⟩ (c_X5_value l D X hX H.size S tt hyp_tt 8 0 _ h) (gd_V wl_X5_19 wi_X5_value wv_X5_value wn_X5 wc_X5_value) rfl hd_X5_value ⟨rfl, rfl⟩ ⟨Nat.le_of_ble_eq_true rfl, Nat.le_of_ble_eq_true rfl⟩ (va_recv hK hP (ci := 5) (q0 := (to tt)) rfl (cw_Told (t := tt) (by omega))) hK hP hS hF rfl hl.1 rfl (Nat.le_of_ble_eq_true rfl) dX5_lengthAtFirst_4 ⟨Nat.zero_le _, Nat.zero_le _⟩ (fun r_2 S_1 H locs h hP hS => ?_)
  exact W.iret (v := r_2) hx hb hr (fun t ht hW => ⟨⟨r_2, S_1, rfl, h, gB_of ht hP⟩, hS.F ht⟩) hS.2.2 dX5_lengthAtFirst_7

abbrev rm_X5_setAsAtFirst : Room := { frames := 0, cells := 0, slots := 0, locals := 0 }
def q_X5_setAsAtFirst_31 (tt : Nat) (K23 : Int32 → CS → Prop) (post : CS → Prop) : Nat → Int32 → Int32 → CS → Prop
  | 0, _, _, _ => False
  | n9 + 1, y1, y2, S => (6 ≤ y2 → (∀ x1_4 : Int32, x1_4 = y1 + 1 → (K23 x1_4 S))) ∧ (¬ (6 ≤ y2) → (vp_in y1 9 ∧ (∀ u_5 : Int32, u_5 = (([0, 0, 0, 0, 0, 9, 3, 11, 9] : List Int32).getD y1.toNatClampNeg 0) → (vp_in ((y1 * 6) + y2) 54 ∧ (∀ S_6 : CS, S_6 = sti S (tv tt) (((y1 * 6) + y2).toNatClampNeg) u_5 → (∀ x2_7 : Int32, x2_7 = y2 + 1 → (q_X5_setAsAtFirst_31 tt K23 post n9 y1 x2_7 S_6)))))))
def q_X5_setAsAtFirst_23 (tt : Nat) (post : CS → Prop) : Nat → Int32 → CS → Prop
  | 0, _, _ => False
  | n9 + 1, y1, S => (9 ≤ y1 → (post S)) ∧ (¬ (9 ≤ y1) → (∃ n, q_X5_setAsAtFirst_31 tt (fun y1' S9 => q_X5_setAsAtFirst_23 tt post n9 y1' S9) post n y1 0 S))
def q_X5_setAsAtFirst_2 (tt : Nat) (post : CS → Prop) : Nat → Int32 → CS → Prop
  | 0, _, _ => False
  | n9 + 1, y1, S => (6 ≤ y1 → (∃ n, q_X5_setAsAtFirst_23 tt post n 0 S)) ∧ (¬ (6 ≤ y1) → (vp_in y1 6 ∧ (∀ S_8 : CS, S_8 = sti S (tm tt) y1.toNatClampNeg 0 → (∀ x1_9 : Int32, x1_9 = y1 + 1 → (q_X5_setAsAtFirst_2 tt post n9 x1_9 S_8)))))
def p_X5_setAsAtFirst (S : CS) (tt : Nat) (post : CS → Prop) : Prop := ∃ n, q_X5_setAsAtFirst_2 tt post n 0 S
set_option maxHeartbeats 4000000 in
set_option maxRecDepth 100000 in
theorem c_X5_setAsAtFirst (l : Launch) (D : va_G) (X : XE) (hX : Inj 75 X.1) (sz : Nat) (S : CS) (tt : Nat) (hyp_tt : tt < 2) (post : CS → Prop) (h : p_X5_setAsAtFirst S tt post) : Met l yX5_setAsAtFirst (Cond.code yX5_setAsAtFirst cX5_setAsAtFirst 3 none :: lw_gd) rm_X5_setAsAtFirst (gPc D (tyX X) (CW X) (FXc X) (AX 75 X.1 sz) sz S [.ref (X.1 (to tt))]) (va_Qv post (gB D (CW X)) (AX 75 X.1 sz)) 0 0 (AX 75 X.1 sz) := by
  refine Met.ofW (cc := cX5_setAsAtFirst) (maxL := 3) (ret := none) (by decide) rfl ?_
  intro p e s m args below meth c s₁ B hml hv
  obtain ⟨rfl, hsz, hP, hK, hF⟩ := hv
  have hx := B.exec
  have hb := B.bytes
  have hr := B.returns
  have hts := atoms_spec (ws := (Cond.code yX5_setAsAtFirst cX5_setAsAtFirst 3 none :: lw_gd)) B.pre
  have hT : ∀ w ∈ lw_gd, w.before _ s = true := fun w h9 => hts w (List.mem_cons_of_mem _ h9)
  have hown : s.vm.findClass RX5 = some m.cls := findClass_of_methodNamed B.named
  have hlocks := B.notSynchronized
  subst hsz
  have hS : va_S (AX 75 X.1 s.heap.size) s.heap s.heap [] := va_S.rf
  have W31 : ∀ (K23 : Int32 → CS → Prop), (∀ (y1 : Int32) (S : CS) (H : Heap) (locs : List Loc) (ls : Array Slot), va_P D vwCl (CW X S) H → va_S (AX 75 X.1 s.heap.size) s.heap H locs → lv_has ls 3 [(0, .ref (X.1 (to tt))), (1, .int y1)] → K23 y1 S → W p l e (headSpec (Cond.code yX5_setAsAtFirst cX5_setAsAtFirst 3 none :: lw_gd) rm_X5_setAsAtFirst).room s m ([.ref (X.1 (to tt))] : List Value).toArray below meth c H locs 0 0 (MQ below (va_Qv post (gB D (CW X)) (AX 75 X.1 s.heap.size)) ([.ref (X.1 (to tt))] : List Value).toArray s 0 0 (AX 75 X.1 s.heap.size)) (F0 m 23 ls [])) → ∀ n1 : Nat, ∀ (y1 : Int32) (y2 : Int32) (S : CS) (H : Heap) (locs : List Loc) (ls : Array Slot), va_P D vwCl (CW X S) H → va_S (AX 75 X.1 s.heap.size) s.heap H locs → lv_has ls 3 [(0, .ref (X.1 (to tt))), (1, .int y1), (2, .int y2)] → q_X5_setAsAtFirst_31 tt K23 post n1 y1 y2 S → W p l e (headSpec (Cond.code yX5_setAsAtFirst cX5_setAsAtFirst 3 none :: lw_gd) rm_X5_setAsAtFirst).room s m ([.ref (X.1 (to tt))] : List Value).toArray below meth c H locs 0 0 (MQ below (va_Qv post (gB D (CW X)) (AX 75 X.1 s.heap.size)) ([.ref (X.1 (to tt))] : List Value).toArray s 0 0 (AX 75 X.1 s.heap.size)) (F0 m 31 ls []) := by
    intro K23 hK23
    intro n1
    induction n1 with
    | zero => intro y1 y2 S H locs ls hP hS hl h; exact h.elim
    | succ n9 ih =>
      intro y1 y2 S H locs ls hP hS hl h
      rw [q_X5_setAsAtFirst_31] at h
      refine lv_iload_n hx hb dX5_setAsAtFirst_31 rfl (lv_at hl 2 rfl) ?_
      refine lv_bipush (v := 6) hx hb dX5_setAsAtFirst_32 (by decide) ?_
      refine lv_icmp_ge (tgt := 59) hx hb dX5_setAsAtFirst_34 (by decide) (fun c_3 => ?_) (fun c_3 => ?_)
      · have h := h.1 c_3
        obtain ⟨x1_4, ex1_4⟩ : ∃ z : Int32, z = y1 + 1 := ⟨_, rfl⟩
        refine lv_iinc (v := x1_4) (lv' := [(1, .int x1_4), (0, .ref (X.1 (to tt))), (2, .int y2)]) hx hb dX5_setAsAtFirst_59 hl (k := 1) rfl (by rw [ex1_4]; rfl) (by decide) rfl (fun ls hl => ?_)
        have h := h x1_4 ex1_4
        refine lv_goto (tgt := 23) hx hb dX5_setAsAtFirst_62 (by decide) ?_
        exact hK23 x1_4 S H locs ls hP hS (lv_sub hl [1, 0] rfl) h
      · have h := h.2 c_3
        refine lv_aload_n hx hb dX5_setAsAtFirst_37 rfl (lv_at hl 0 rfl) ?_
        refine va_get (D := D) (ci := 5) (v := .ref (X.1 (tv tt))) (C := RX5) (T := TX5) (N := 2) hx hb hT inX5 hown hK hP (to tt) (cw_Told (t := tt) (by omega)) rfl 1 (by decide) (hT _ wf_X5_13) (fun _ h9 => h9) rfl dX5_setAsAtFirst_38 ?_
        refine lv_iload_n hx hb dX5_setAsAtFirst_41 rfl (lv_at hl 1 rfl) ?_
        refine lv_bipush (v := 6) hx hb dX5_setAsAtFirst_42 (by decide) ?_
        refine lv_imul hx hb dX5_setAsAtFirst_44 ?_
        refine lv_iload_n hx hb dX5_setAsAtFirst_45 rfl (lv_at hl 2 rfl) ?_
        refine lv_iadd hx hb dX5_setAsAtFirst_46 ?_
        refine va_gets hx hb hF.2.1.1 hS hown (hT _ wf_X5_73) (fun _ h9 => h9) dX5_setAsAtFirst_47 ?_
        refine lv_iload_n hx hb dX5_setAsAtFirst_50 rfl (lv_at hl 1 rfl) ?_
        obtain ⟨hi, h⟩ := h
        refine g_tald hx hb hF.2.1.2 hS hi y1.toNatClampNeg rfl dX5_setAsAtFirst_51 ?_
        refine lv_topi (fun u_5 eu_5 => ?_)
        have h := h u_5 eu_5
        obtain ⟨hi, h⟩ := h
        refine g_iast hx hb hK hP (gw_D hX) hS (tv tt) (cw_tv (t := tt) (by omega)) rfl hi (((y1 * 6) + y2).toNatClampNeg) rfl dX5_setAsAtFirst_52 (fun H locs hP hS => ?_)
        have hP := cw_st (j := ((y1 * 6) + y2).toNatClampNeg) (x := u_5) (cce_tv X _ (t := tt) (by omega) _) hP
        obtain ⟨S_6, eS_6⟩ : ∃ z : CS, z = sti S (tv tt) (((y1 * 6) + y2).toNatClampNeg) u_5 := ⟨_, rfl⟩
        rw [← eS_6] at hP
        have h := h S_6 eS_6
        obtain ⟨x2_7, ex2_7⟩ : ∃ z : Int32, z = y2 + 1 := ⟨_, rfl⟩
        refine lv_iinc (v := x2_7) (lv' := [(2, .int x2_7), (0, .ref (X.1 (to tt))), (1, .int y1)]) hx hb dX5_setAsAtFirst_53 hl (k := 2) rfl (by rw [ex2_7]; rfl) (by decide) rfl (fun ls hl => ?_)
        have h := h x2_7 ex2_7
        refine lv_goto (tgt := 31) hx hb dX5_setAsAtFirst_56 (by decide) ?_
        exact ih y1 x2_7 S_6 H locs ls hP hS (lv_sub hl [1, 2, 0] rfl) h
  have W23 : ∀ n1 : Nat, ∀ (y1 : Int32) (S : CS) (H : Heap) (locs : List Loc) (ls : Array Slot), va_P D vwCl (CW X S) H → va_S (AX 75 X.1 s.heap.size) s.heap H locs → lv_has ls 3 [(0, .ref (X.1 (to tt))), (1, .int y1)] → q_X5_setAsAtFirst_23 tt post n1 y1 S → W p l e (headSpec (Cond.code yX5_setAsAtFirst cX5_setAsAtFirst 3 none :: lw_gd) rm_X5_setAsAtFirst).room s m ([.ref (X.1 (to tt))] : List Value).toArray below meth c H locs 0 0 (MQ below (va_Qv post (gB D (CW X)) (AX 75 X.1 s.heap.size)) ([.ref (X.1 (to tt))] : List Value).toArray s 0 0 (AX 75 X.1 s.heap.size)) (F0 m 23 ls []) := by
    intro n1
    induction n1 with
    | zero => intro y1 S H locs ls hP hS hl h; exact h.elim
    | succ n9 ih =>
      intro y1 S H locs ls hP hS hl h
      rw [q_X5_setAsAtFirst_23] at h
      refine lv_iload_n hx hb dX5_setAsAtFirst_23 rfl (lv_at hl 1 rfl) ?_
      refine lv_bipush (v := 9) hx hb dX5_setAsAtFirst_24 (by decide) ?_
      refine lv_icmp_ge (tgt := 65) hx hb dX5_setAsAtFirst_26 (by decide) (fun c_2 => ?_) (fun c_2 => ?_)
      · have h := h.1 c_2
        exact W.vret hx hb hr (fun t ht hW => ⟨⟨S, rfl, h, gB_of ht hP⟩, hS.F ht⟩) hS.2.2 dX5_setAsAtFirst_65
      · have h := h.2 c_2
        refine lv_iconst (v := 0) hx hb dX5_setAsAtFirst_29 (by decide) ?_
        refine lv_istore_n (lv' := [(2, .int 0), (0, .ref (X.1 (to tt))), (1, .int y1)]) hx hb dX5_setAsAtFirst_30 rfl hl (by decide) rfl (fun ls hl => ?_)
        obtain ⟨n1, h⟩ := h
        exact W31 (fun y1' S9 => q_X5_setAsAtFirst_23 tt post n9 y1' S9) ih n1 y1 0 S H locs ls hP hS (lv_sub hl [1, 2, 0] rfl) h
  have W2 : ∀ n1 : Nat, ∀ (y1 : Int32) (S : CS) (H : Heap) (locs : List Loc) (ls : Array Slot), va_P D vwCl (CW X S) H → va_S (AX 75 X.1 s.heap.size) s.heap H locs → lv_has ls 3 [(0, .ref (X.1 (to tt))), (1, .int y1)] → q_X5_setAsAtFirst_2 tt post n1 y1 S → W p l e (headSpec (Cond.code yX5_setAsAtFirst cX5_setAsAtFirst 3 none :: lw_gd) rm_X5_setAsAtFirst).room s m ([.ref (X.1 (to tt))] : List Value).toArray below meth c H locs 0 0 (MQ below (va_Qv post (gB D (CW X)) (AX 75 X.1 s.heap.size)) ([.ref (X.1 (to tt))] : List Value).toArray s 0 0 (AX 75 X.1 s.heap.size)) (F0 m 2 ls []) := by
    intro n1
    induction n1 with
    | zero => intro y1 S H locs ls hP hS hl h; exact h.elim
    | succ n9 ih =>
      intro y1 S H locs ls hP hS hl h
      rw [q_X5_setAsAtFirst_2] at h
      refine lv_iload_n hx hb dX5_setAsAtFirst_2 rfl (lv_at hl 1 rfl) ?_
      refine lv_bipush (v := 6) hx hb dX5_setAsAtFirst_3 (by decide) ?_
      refine lv_icmp_ge (tgt := 21) hx hb dX5_setAsAtFirst_5 (by decide) (fun c_1 => ?_) (fun c_1 => ?_)
      · have h := h.1 c_1
        refine lv_iconst (v := 0) hx hb dX5_setAsAtFirst_21 (by decide) ?_
        refine lv_istore_n (lv' := [(1, .int 0), (0, .ref (X.1 (to tt)))]) hx hb dX5_setAsAtFirst_22 rfl hl (by decide) rfl (fun ls hl => ?_)
        obtain ⟨n1, h⟩ := h
        exact W23  n1 0 S H locs ls hP hS (lv_sub hl [1, 0] rfl) h
      · have h := h.2 c_1
        refine lv_aload_n hx hb dX5_setAsAtFirst_8 rfl (lv_at hl 0 rfl) ?_
        refine va_get (D := D) (ci := 5) (v := .ref (X.1 (tm tt))) (C := RX5) (T := TX5) (N := 2) hx hb hT inX5 hown hK hP (to tt) (cw_Told (t := tt) (by omega)) rfl 0 (by decide) (hT _ wf_X5_9) (fun _ h9 => h9) rfl dX5_setAsAtFirst_9 ?_
        refine lv_iload_n hx hb dX5_setAsAtFirst_12 rfl (lv_at hl 1 rfl) ?_
        refine lv_iconst (v := 0) hx hb dX5_setAsAtFirst_13 (by decide) ?_
        obtain ⟨hi, h⟩ := h
        refine g_iast hx hb hK hP (gw_D hX) hS (tm tt) (cw_tm (t := tt) (by omega)) rfl hi y1.toNatClampNeg rfl dX5_setAsAtFirst_14 (fun H locs hP hS => ?_)
        have hP := cw_st (j := y1.toNatClampNeg) (x := 0) (cce_tm X _ (t := tt) (by omega) _) hP
        obtain ⟨S_8, eS_8⟩ : ∃ z : CS, z = sti S (tm tt) y1.toNatClampNeg 0 := ⟨_, rfl⟩
        rw [← eS_8] at hP
        have h := h S_8 eS_8
        obtain ⟨x1_9, ex1_9⟩ : ∃ z : Int32, z = y1 + 1 := ⟨_, rfl⟩
        refine lv_iinc (v := x1_9) (lv' := [(1, .int x1_9), (0, .ref (X.1 (to tt)))]) hx hb dX5_setAsAtFirst_15 hl (k := 1) rfl (by rw [ex1_9]; rfl) (by decide) rfl (fun ls hl => ?_)
        have h := h x1_9 ex1_9
        refine lv_goto (tgt := 2) hx hb dX5_setAsAtFirst_18 (by decide) ?_
        exact ih x1_9 S_8 H locs ls hP hS (lv_sub hl [1, 0] rfl) h
  have hl := lv_entry ([.ref (X.1 (to tt))]) (n := 3) (Nat.le_of_ble_eq_true rfl)
  rw [lg_entry_eq]
  generalize (lg_sl ([.ref (X.1 (to tt))]) ++ List.replicate (3 - (lg_sl ([.ref (X.1 (to tt))])).length) Slot.unset).toArray = ls at hl ⊢
  have hl : lv_has ls 3 [(0, .ref (X.1 (to tt)))] := hl
  obtain ⟨H, hH⟩ : ∃ H : Heap, H = s.heap := ⟨_, rfl⟩
  obtain ⟨locs, hlc⟩ : ∃ q : List Loc, q = [] := ⟨_, rfl⟩
  have hS : va_S (AX 75 X.1 s.heap.size) s.heap H locs := by rw [hH, hlc]; exact hS
  have hP : va_P D vwCl (CW X S) H := by rw [hH]; exact hP
  show W p l e (headSpec (Cond.code yX5_setAsAtFirst cX5_setAsAtFirst 3 none :: lw_gd) rm_X5_setAsAtFirst).room s m ([.ref (X.1 (to tt))] : List Value).toArray below meth c s.heap [] 0 0 (MQ below (va_Qv post (gB D (CW X)) (AX 75 X.1 s.heap.size)) ([.ref (X.1 (to tt))] : List Value).toArray s 0 0 (AX 75 X.1 s.heap.size)) _
  suffices hgo : W p l e (headSpec (Cond.code yX5_setAsAtFirst cX5_setAsAtFirst 3 none :: lw_gd) rm_X5_setAsAtFirst).room s m ([.ref (X.1 (to tt))] : List Value).toArray below meth c H locs 0 0 (MQ below (va_Qv post (gB D (CW X)) (AX 75 X.1 s.heap.size)) ([.ref (X.1 (to tt))] : List Value).toArray s 0 0 (AX 75 X.1 s.heap.size)) (F0 m 0 ls []) from by rw [hH, hlc] at hgo; exact hgo
  unfold p_X5_setAsAtFirst at h
  refine lv_iconst (v := 0) hx hb dX5_setAsAtFirst_0 (by decide) ?_
  refine lv_istore_n (lv' := [(1, .int 0), (0, .ref (X.1 (to tt)))]) hx hb dX5_setAsAtFirst_1 rfl hl (by decide) rfl (fun ls hl => ?_)
  obtain ⟨n1, h⟩ := h
  exact W2  n1 0 S H locs ls hP hS (lv_sub hl [1, 0] rfl) h

abbrev rm_J0_isLatin1_aae02 : Room := { frames := 0, cells := 0, slots := 0, locals := 0 }
def p_J0_isLatin1_aae02 (S : CS)  (post : Int32 → CS → Prop) : Prop := post 1 S
set_option maxHeartbeats 4000000 in
set_option maxRecDepth 100000 in
theorem c_J0_isLatin1_aae02 (l : Launch) (D : va_G) (X : XE) (hX : Inj 75 X.1) (sz : Nat) (S : CS)  (post : Int32 → CS → Prop) (h : p_J0_isLatin1_aae02 S  post) : Met l yJ0_isLatin1_aae02 (Cond.code yJ0_isLatin1_aae02 cJ0_isLatin1_aae02 1 (some .boolean) :: lw_gd) rm_J0_isLatin1_aae02 (gPc D (tyX X) (CW X) (FXc X) (AX 75 X.1 sz) sz S [.ref (X.2.2 6)]) (va_Qi post (gB D (CW X)) (AX 75 X.1 sz)) 0 0 (AX 75 X.1 sz) := by
  refine va_MetF (cc := cJ0_isLatin1_aae02) (maxL := 1) (ret := (some .boolean)) (by decide +kernel) rfl ?_
  intro p e s m args below meth c s₁ B hml hv
  obtain ⟨rfl, hsz, hP, hK, hF⟩ := hv
  have hx := B.exec
  have hb := B.bytes
  have hr := B.returns
  have hts := atoms_spec (ws := (Cond.code yJ0_isLatin1_aae02 cJ0_isLatin1_aae02 1 (some .boolean) :: lw_gd)) B.pre
  have hT : ∀ w ∈ lw_gd, w.before _ s = true := fun w h9 => hts w (List.mem_cons_of_mem _ h9)
  have hown : s.vm.findClass RJ0 = some m.cls := findClass_of_methodNamed B.named
  have hlocks := B.notSynchronized
  subst hsz
  have hS : va_S (AX 75 X.1 s.heap.size) s.heap s.heap [] := va_S.rf
  have hl := lv_entry ([.ref (X.2.2 6)]) (n := 1) (Nat.le_of_ble_eq_true rfl)
  rw [lg_entry_eq]
  generalize (lg_sl ([.ref (X.2.2 6)]) ++ List.replicate (1 - (lg_sl ([.ref (X.2.2 6)])).length) Slot.unset).toArray = ls at hl ⊢
  have hl : lv_has ls 1 [(0, .ref (X.2.2 6))] := hl
  obtain ⟨H, hH⟩ : ∃ H : Heap, H = s.heap := ⟨_, rfl⟩
  obtain ⟨locs, hlc⟩ : ∃ q : List Loc, q = [] := ⟨_, rfl⟩
  have hS : va_S (AX 75 X.1 s.heap.size) s.heap H locs := by rw [hH, hlc]; exact hS
  have hP : va_P D vwCl (CW X S) H := by rw [hH]; exact hP
  show W p l e (headSpec (Cond.code yJ0_isLatin1_aae02 cJ0_isLatin1_aae02 1 (some .boolean) :: lw_gd) rm_J0_isLatin1_aae02).room s m ([.ref (X.2.2 6)] : List Value).toArray below meth c s.heap [] 0 0 (MQ below (va_Qi post (gB D (CW X)) (AX 75 X.1 s.heap.size)) ([.ref (X.2.2 6)] : List Value).toArray s 0 0 (AX 75 X.1 s.heap.size)) _
  suffices hgo : W p l e (headSpec (Cond.code yJ0_isLatin1_aae02 cJ0_isLatin1_aae02 1 (some .boolean) :: lw_gd) rm_J0_isLatin1_aae02).room s m ([.ref (X.2.2 6)] : List Value).toArray below meth c H locs 0 0 (MQ below (va_Qi post (gB D (CW X)) (AX 75 X.1 s.heap.size)) ([.ref (X.2.2 6)] : List Value).toArray s 0 0 (AX 75 X.1 s.heap.size)) (F0 m 0 ls []) from by rw [hH, hlc] at hgo; exact hgo
  unfold p_J0_isLatin1_aae02 at h
  refine va_gets hx hb hF.2.2.2.2.2.2.2.2.2 hS hown (hT _ wf_J0_38) (fun _ h9 => h9) dJ0_isLatin1_aae02_0 ?_
  refine lv_if_eq (tgt := 17) hx hb dJ0_isLatin1_aae02_3 (by decide) (fun c9 => absurd c9 (by decide)) (fun _ => ?_)
  refine lv_aload_n hx hb dJ0_isLatin1_aae02_6 rfl (lv_at hl 0 rfl) ?_
  refine vk_getf hx hb (hF.2.2.2.2.2.2.2.2.1.1 0 (by decide)).2.1 hS hown (hT _ wf_J0_15) (fun _ h9 => h9) dJ0_isLatin1_aae02_7 ?_
  refine lv_if_ne (tgt := 17) hx hb dJ0_isLatin1_aae02_10 (by decide) (fun c9 => absurd c9 (by decide)) (fun _ => ?_)
  refine lv_iconst (v := 1) hx hb dJ0_isLatin1_aae02_13 (by decide) ?_
  refine lv_goto (tgt := 18) hx hb dJ0_isLatin1_aae02_14 (by decide) ?_
  exact W.zret (v := 1) hx hb hr rfl (fun t ht hW => ⟨⟨1, S, rfl, h, gB_of ht hP⟩, hS.F ht⟩) hS.2.2 dJ0_isLatin1_aae02_18

abbrev rm_J0_coder_7d493 : Room := { frames := 0, cells := 0, slots := 0, locals := 0 }
def p_J0_coder_7d493 (S : CS)  (post : Int32 → CS → Prop) : Prop := post 0 S
set_option maxHeartbeats 4000000 in
set_option maxRecDepth 100000 in
theorem c_J0_coder_7d493 (l : Launch) (D : va_G) (X : XE) (hX : Inj 75 X.1) (sz : Nat) (S : CS)  (post : Int32 → CS → Prop) (h : p_J0_coder_7d493 S  post) : Met l yJ0_coder_7d493 (Cond.code yJ0_coder_7d493 cJ0_coder_7d493 1 (some .byte) :: lw_gd) rm_J0_coder_7d493 (gPc D (tyX X) (CW X) (FXc X) (AX 75 X.1 sz) sz S [.ref (X.2.2 6)]) (va_Qi post (gB D (CW X)) (AX 75 X.1 sz)) 0 0 (AX 75 X.1 sz) := by
  refine va_MetF (cc := cJ0_coder_7d493) (maxL := 1) (ret := (some .byte)) (by decide +kernel) rfl ?_
  intro p e s m args below meth c s₁ B hml hv
  obtain ⟨rfl, hsz, hP, hK, hF⟩ := hv
  have hx := B.exec
  have hb := B.bytes
  have hr := B.returns
  have hts := atoms_spec (ws := (Cond.code yJ0_coder_7d493 cJ0_coder_7d493 1 (some .byte) :: lw_gd)) B.pre
  have hT : ∀ w ∈ lw_gd, w.before _ s = true := fun w h9 => hts w (List.mem_cons_of_mem _ h9)
  have hown : s.vm.findClass RJ0 = some m.cls := findClass_of_methodNamed B.named
  have hlocks := B.notSynchronized
  subst hsz
  have hS : va_S (AX 75 X.1 s.heap.size) s.heap s.heap [] := va_S.rf
  have hl := lv_entry ([.ref (X.2.2 6)]) (n := 1) (Nat.le_of_ble_eq_true rfl)
  rw [lg_entry_eq]
  generalize (lg_sl ([.ref (X.2.2 6)]) ++ List.replicate (1 - (lg_sl ([.ref (X.2.2 6)])).length) Slot.unset).toArray = ls at hl ⊢
  have hl : lv_has ls 1 [(0, .ref (X.2.2 6))] := hl
  obtain ⟨H, hH⟩ : ∃ H : Heap, H = s.heap := ⟨_, rfl⟩
  obtain ⟨locs, hlc⟩ : ∃ q : List Loc, q = [] := ⟨_, rfl⟩
  have hS : va_S (AX 75 X.1 s.heap.size) s.heap H locs := by rw [hH, hlc]; exact hS
  have hP : va_P D vwCl (CW X S) H := by rw [hH]; exact hP
  show W p l e (headSpec (Cond.code yJ0_coder_7d493 cJ0_coder_7d493 1 (some .byte) :: lw_gd) rm_J0_coder_7d493).room s m ([.ref (X.2.2 6)] : List Value).toArray below meth c s.heap [] 0 0 (MQ below (va_Qi post (gB D (CW X)) (AX 75 X.1 s.heap.size)) ([.ref (X.2.2 6)] : List Value).toArray s 0 0 (AX 75 X.1 s.heap.size)) _
  suffices hgo : W p l e (headSpec (Cond.code yJ0_coder_7d493 cJ0_coder_7d493 1 (some .byte) :: lw_gd) rm_J0_coder_7d493).room s m ([.ref (X.2.2 6)] : List Value).toArray below meth c H locs 0 0 (MQ below (va_Qi post (gB D (CW X)) (AX 75 X.1 s.heap.size)) ([.ref (X.2.2 6)] : List Value).toArray s 0 0 (AX 75 X.1 s.heap.size)) (F0 m 0 ls []) from by rw [hH, hlc] at hgo; exact hgo
  unfold p_J0_coder_7d493 at h
  refine va_gets hx hb hF.2.2.2.2.2.2.2.2.2 hS hown (hT _ wf_J0_38) (fun _ h9 => h9) dJ0_coder_7d493_0 ?_
  refine lv_if_eq (tgt := 13) hx hb dJ0_coder_7d493_3 (by decide) (fun c9 => absurd c9 (by decide)) (fun _ => ?_)
  refine lv_aload_n hx hb dJ0_coder_7d493_6 rfl (lv_at hl 0 rfl) ?_
  refine vk_getf hx hb (hF.2.2.2.2.2.2.2.2.1.1 0 (by decide)).2.1 hS hown (hT _ wf_J0_15) (fun _ h9 => h9) dJ0_coder_7d493_7 ?_
  refine lv_goto (tgt := 14) hx hb dJ0_coder_7d493_10 (by decide) ?_
  exact W.zret (v := 0) hx hb hr rfl (fun t ht hW => ⟨⟨0, S, rfl, h, gB_of ht hP⟩, hS.F ht⟩) hS.2.2 dJ0_coder_7d493_14

abbrev rm_J0_length_8abf5 : Room := { frames := 1, cells := 0, slots := 0, locals := 20 }
def p_J0_length_8abf5 (S : CS)  (post : Int32 → CS → Prop) : Prop := p_J0_coder_7d493 S  (fun r_2 S_1 => (post (6 >>> (r_2 &&& 31)) S_1))
set_option maxHeartbeats 4000000 in
set_option maxRecDepth 100000 in
theorem c_J0_length_8abf5 (l : Launch) (D : va_G) (X : XE) (hX : Inj 75 X.1) (sz : Nat) (S : CS)  (post : Int32 → CS → Prop) (h : p_J0_length_8abf5 S  post) : Met l yJ0_length_8abf5 (Cond.code yJ0_length_8abf5 cJ0_length_8abf5 1 (some .int) :: lw_gd) rm_J0_length_8abf5 (gPc D (tyX X) (CW X) (FXc X) (AX 75 X.1 sz) sz S [.ref (X.2.2 6)]) (va_Qi post (gB D (CW X)) (AX 75 X.1 sz)) 0 0 (AX 75 X.1 sz) := by
  refine va_MetF (cc := cJ0_length_8abf5) (maxL := 1) (ret := (some .int)) (by decide +kernel) rfl ?_
  intro p e s m args below meth c s₁ B hml hv
  obtain ⟨rfl, hsz, hP, hK, hF⟩ := hv
  have hx := B.exec
  have hb := B.bytes
  have hr := B.returns
  have hts := atoms_spec (ws := (Cond.code yJ0_length_8abf5 cJ0_length_8abf5 1 (some .int) :: lw_gd)) B.pre
  have hT : ∀ w ∈ lw_gd, w.before _ s = true := fun w h9 => hts w (List.mem_cons_of_mem _ h9)
  have hown : s.vm.findClass RJ0 = some m.cls := findClass_of_methodNamed B.named
  have hlocks := B.notSynchronized
  subst hsz
  have hS : va_S (AX 75 X.1 s.heap.size) s.heap s.heap [] := va_S.rf
  have hl := lv_entry ([.ref (X.2.2 6)]) (n := 1) (Nat.le_of_ble_eq_true rfl)
  rw [lg_entry_eq]
  generalize (lg_sl ([.ref (X.2.2 6)]) ++ List.replicate (1 - (lg_sl ([.ref (X.2.2 6)])).length) Slot.unset).toArray = ls at hl ⊢
  have hl : lv_has ls 1 [(0, .ref (X.2.2 6))] := hl
  obtain ⟨H, hH⟩ : ∃ H : Heap, H = s.heap := ⟨_, rfl⟩
  obtain ⟨locs, hlc⟩ : ∃ q : List Loc, q = [] := ⟨_, rfl⟩
  have hS : va_S (AX 75 X.1 s.heap.size) s.heap H locs := by rw [hH, hlc]; exact hS
  have hP : va_P D vwCl (CW X S) H := by rw [hH]; exact hP
  show W p l e (headSpec (Cond.code yJ0_length_8abf5 cJ0_length_8abf5 1 (some .int) :: lw_gd) rm_J0_length_8abf5).room s m ([.ref (X.2.2 6)] : List Value).toArray below meth c s.heap [] 0 0 (MQ below (va_Qi post (gB D (CW X)) (AX 75 X.1 s.heap.size)) ([.ref (X.2.2 6)] : List Value).toArray s 0 0 (AX 75 X.1 s.heap.size)) _
  suffices hgo : W p l e (headSpec (Cond.code yJ0_length_8abf5 cJ0_length_8abf5 1 (some .int) :: lw_gd) rm_J0_length_8abf5).room s m ([.ref (X.2.2 6)] : List Value).toArray below meth c H locs 0 0 (MQ below (va_Qi post (gB D (CW X)) (AX 75 X.1 s.heap.size)) ([.ref (X.2.2 6)] : List Value).toArray s 0 0 (AX 75 X.1 s.heap.size)) (F0 m 0 ls []) from by rw [hH, hlc] at hgo; exact hgo
  unfold p_J0_length_8abf5 at h
  refine lv_aload_n hx hb dJ0_length_8abf5_0 rfl (lv_at hl 0 rfl) ?_
  refine vk_getf hx hb (hF.2.2.2.2.2.2.2.2.1.1 0 (by decide)).2.2.1 hS hown (hT _ wf_J0_9) (fun _ h9 => h9) dJ0_length_8abf5_1 ?_
  refine va_tlen hx hb (hF.2.2.2.2.2.2.2.2.1.1 0 (by decide)).2.2.2 hS (v := 6) (by decide) dJ0_length_8abf5_4 ?_
  refine lv_aload_n hx hb dJ0_length_8abf5_5 rfl (lv_at hl 0 rfl) ?_
  refine cVi (As := []) (rest := [.int 6]) hX ⟨hx, hb, hml, hown, hT⟩ (c_J0_coder_7d493 l D X hX H.size S  _ h) (gd_V wl_J0_335 wi_J0_coder_7d493 wv_J0_coder_7d493 wn_J0 wc_J0_coder_7d493) rfl hd_J0_coder_7d493 ⟨rfl, rfl⟩ ⟨Nat.le_of_ble_eq_true rfl, Nat.le_of_ble_eq_true rfl⟩ (vk_recv hF.2.2.2.2.2.2.2.2.1 (i := 0) (by decide) hS) hK hP hS hF rfl hl.1 rfl (Nat.le_of_ble_eq_true rfl) dJ0_length_8abf5_6 ⟨Nat.zero_le _, Nat.zero_le _⟩ (fun r_2 S_1 H locs h hP hS => ?_)
  refine lv_ishr hx hb dJ0_length_8abf5_9 ?_
  exact W.iret (v := (6 >>> (r_2 &&& 31))) hx hb hr (fun t ht hW => ⟨⟨(6 >>> (r_2 &&& 31)), S_1, rfl, h, gB_of ht hP⟩, hS.F ht⟩) hS.2.2 dJ0_length_8abf5_10

abbrev rm_J1_canEncode_9a6ad : Room := { frames := 0, cells := 0, slots := 0, locals := 0 }
def p_J1_canEncode_9a6ad (S : CS) (x0 : Int32) (post : Int32 → CS → Prop) : Prop := (x0 < 0 → (post 0 S)) ∧ (¬ (x0 < 0) → ((255 < x0 → (post 0 S)) ∧ (¬ (255 < x0) → (post 1 S))))
set_option maxHeartbeats 4000000 in
set_option maxRecDepth 100000 in
theorem c_J1_canEncode_9a6ad (l : Launch) (D : va_G) (X : XE) (hX : Inj 75 X.1) (sz : Nat) (S : CS) (x0 : Int32) (post : Int32 → CS → Prop) (h : p_J1_canEncode_9a6ad S x0 post) : Met l yJ1_canEncode_9a6ad (Cond.code yJ1_canEncode_9a6ad cJ1_canEncode_9a6ad 1 (some .boolean) :: lw_gd) rm_J1_canEncode_9a6ad (gPc D (tyX X) (CW X) (FXc X) (AX 75 X.1 sz) sz S [.int x0]) (va_Qi post (gB D (CW X)) (AX 75 X.1 sz)) 0 0 (AX 75 X.1 sz) := by
  refine va_MetF (cc := cJ1_canEncode_9a6ad) (maxL := 1) (ret := (some .boolean)) (by decide +kernel) rfl ?_
  intro p e s m args below meth c s₁ B hml hv
  obtain ⟨rfl, hsz, hP, hK, hF⟩ := hv
  have hx := B.exec
  have hb := B.bytes
  have hr := B.returns
  have hts := atoms_spec (ws := (Cond.code yJ1_canEncode_9a6ad cJ1_canEncode_9a6ad 1 (some .boolean) :: lw_gd)) B.pre
  have hT : ∀ w ∈ lw_gd, w.before _ s = true := fun w h9 => hts w (List.mem_cons_of_mem _ h9)
  have hown : s.vm.findClass RJ1 = some m.cls := findClass_of_methodNamed B.named
  have hlocks := B.notSynchronized
  subst hsz
  have hS : va_S (AX 75 X.1 s.heap.size) s.heap s.heap [] := va_S.rf
  have hl := lv_entry ([.int x0]) (n := 1) (Nat.le_of_ble_eq_true rfl)
  rw [lg_entry_eq]
  generalize (lg_sl ([.int x0]) ++ List.replicate (1 - (lg_sl ([.int x0])).length) Slot.unset).toArray = ls at hl ⊢
  have hl : lv_has ls 1 [(0, .int x0)] := hl
  obtain ⟨H, hH⟩ : ∃ H : Heap, H = s.heap := ⟨_, rfl⟩
  obtain ⟨locs, hlc⟩ : ∃ q : List Loc, q = [] := ⟨_, rfl⟩
  have hS : va_S (AX 75 X.1 s.heap.size) s.heap H locs := by rw [hH, hlc]; exact hS
  have hP : va_P D vwCl (CW X S) H := by rw [hH]; exact hP
  show W p l e (headSpec (Cond.code yJ1_canEncode_9a6ad cJ1_canEncode_9a6ad 1 (some .boolean) :: lw_gd) rm_J1_canEncode_9a6ad).room s m ([.int x0] : List Value).toArray below meth c s.heap [] 0 0 (MQ below (va_Qi post (gB D (CW X)) (AX 75 X.1 s.heap.size)) ([.int x0] : List Value).toArray s 0 0 (AX 75 X.1 s.heap.size)) _
  suffices hgo : W p l e (headSpec (Cond.code yJ1_canEncode_9a6ad cJ1_canEncode_9a6ad 1 (some .boolean) :: lw_gd) rm_J1_canEncode_9a6ad).room s m ([.int x0] : List Value).toArray below meth c H locs 0 0 (MQ below (va_Qi post (gB D (CW X)) (AX 75 X.1 s.heap.size)) ([.int x0] : List Value).toArray s 0 0 (AX 75 X.1 s.heap.size)) (F0 m 0 ls []) from by rw [hH, hlc] at hgo; exact hgo
  unfold p_J1_canEncode_9a6ad at h
  refine lv_iload_n hx hb dJ1_canEncode_9a6ad_0 rfl (lv_at hl 0 rfl) ?_
  refine lv_if_lt (tgt := 15) hx hb dJ1_canEncode_9a6ad_1 (by decide) (fun c_1 => ?_) (fun c_1 => ?_)
  · have h := h.1 c_1
    refine lv_iconst (v := 0) hx hb dJ1_canEncode_9a6ad_15 (by decide) ?_
    exact W.zret (v := 0) hx hb hr rfl (fun t ht hW => ⟨⟨0, S, rfl, h, gB_of ht hP⟩, hS.F ht⟩) hS.2.2 dJ1_canEncode_9a6ad_16
  · have h := h.2 c_1
    refine lv_iload_n hx hb dJ1_canEncode_9a6ad_4 rfl (lv_at hl 0 rfl) ?_
    refine lv_sipush (v := 255) hx hb dJ1_canEncode_9a6ad_5 (by decide) ?_
    refine lv_icmp_gt (tgt := 15) hx hb dJ1_canEncode_9a6ad_8 (by decide) (fun c_2 => ?_) (fun c_2 => ?_)
    · have h := h.1 c_2
      refine lv_iconst (v := 0) hx hb dJ1_canEncode_9a6ad_15 (by decide) ?_
      exact W.zret (v := 0) hx hb hr rfl (fun t ht hW => ⟨⟨0, S, rfl, h, gB_of ht hP⟩, hS.F ht⟩) hS.2.2 dJ1_canEncode_9a6ad_16
    · have h := h.2 c_2
      refine lv_iconst (v := 1) hx hb dJ1_canEncode_9a6ad_11 (by decide) ?_
      refine lv_goto (tgt := 16) hx hb dJ1_canEncode_9a6ad_12 (by decide) ?_
      exact W.zret (v := 1) hx hb hr rfl (fun t ht hW => ⟨⟨1, S, rfl, h, gB_of ht hP⟩, hS.F ht⟩) hS.2.2 dJ1_canEncode_9a6ad_16

abbrev rm_J1_indexOfChar_4cfef : Room := { frames := 0, cells := 0, slots := 0, locals := 0 }
def q_J1_indexOfChar_4cfef_7 (x1 : Int32) (x2 : Int32) (x3 : Int32) (post : Int32 → CS → Prop) : Nat → Int32 → Int32 → CS → Prop
  | 0, _, _, _ => False
  | n9 + 1, y4, y5, S => (x3 ≤ y5 → (post (-1) S)) ∧ (¬ (x3 ≤ y5) → (vp_in y5 6 ∧ (((([119, 111, 114, 116, 112, 108] : List Int32).getD y5.toNatClampNeg 0) = y4 → (post y5 S)) ∧ (¬ ((([119, 111, 114, 116, 112, 108] : List Int32).getD y5.toNatClampNeg 0) = y4) → (∀ x5_4 : Int32, x5_4 = y5 + 1 → (q_J1_indexOfChar_4cfef_7 x1 x2 x3 post n9 y4 x5_4 S))))))
def p_J1_indexOfChar_4cfef (S : CS) (x1 : Int32) (x2 : Int32) (x3 : Int32) (post : Int32 → CS → Prop) : Prop := ∀ x4_1 : Int32, x4_1 = (x1).toInt8.toInt32 → (∃ n, q_J1_indexOfChar_4cfef_7 x1 x2 x3 post n x4_1 x2 S)
set_option maxHeartbeats 4000000 in
set_option maxRecDepth 100000 in
theorem c_J1_indexOfChar_4cfef (l : Launch) (D : va_G) (X : XE) (hX : Inj 75 X.1) (sz : Nat) (S : CS) (x1 : Int32) (x2 : Int32) (x3 : Int32) (post : Int32 → CS → Prop) (h : p_J1_indexOfChar_4cfef S x1 x2 x3 post) : Met l yJ1_indexOfChar_4cfef (Cond.code yJ1_indexOfChar_4cfef cJ1_indexOfChar_4cfef 6 (some .int) :: lw_gd) rm_J1_indexOfChar_4cfef (gPc D (tyX X) (CW X) (FXc X) (AX 75 X.1 sz) sz S [.ref (X.2.2 7), .int x1, .int x2, .int x3]) (va_Qi post (gB D (CW X)) (AX 75 X.1 sz)) 0 0 (AX 75 X.1 sz) := by
  refine va_MetF (cc := cJ1_indexOfChar_4cfef) (maxL := 6) (ret := (some .int)) (by decide +kernel) rfl ?_
  intro p e s m args below meth c s₁ B hml hv
  obtain ⟨rfl, hsz, hP, hK, hF⟩ := hv
  have hx := B.exec
  have hb := B.bytes
  have hr := B.returns
  have hts := atoms_spec (ws := (Cond.code yJ1_indexOfChar_4cfef cJ1_indexOfChar_4cfef 6 (some .int) :: lw_gd)) B.pre
  have hT : ∀ w ∈ lw_gd, w.before _ s = true := fun w h9 => hts w (List.mem_cons_of_mem _ h9)
  have hown : s.vm.findClass RJ1 = some m.cls := findClass_of_methodNamed B.named
  have hlocks := B.notSynchronized
  subst hsz
  have hS : va_S (AX 75 X.1 s.heap.size) s.heap s.heap [] := va_S.rf
  have W7 : ∀ n1 : Nat, ∀ (y4 : Int32) (y5 : Int32) (S : CS) (H : Heap) (locs : List Loc) (ls : Array Slot), va_P D vwCl (CW X S) H → va_S (AX 75 X.1 s.heap.size) s.heap H locs → lv_has ls 6 [(0, .ref (X.2.2 7)), (3, .int x3), (4, .int y4), (5, .int y5)] → q_J1_indexOfChar_4cfef_7 x1 x2 x3 post n1 y4 y5 S → W p l e (headSpec (Cond.code yJ1_indexOfChar_4cfef cJ1_indexOfChar_4cfef 6 (some .int) :: lw_gd) rm_J1_indexOfChar_4cfef).room s m ([.ref (X.2.2 7), .int x1, .int x2, .int x3] : List Value).toArray below meth c H locs 0 0 (MQ below (va_Qi post (gB D (CW X)) (AX 75 X.1 s.heap.size)) ([.ref (X.2.2 7), .int x1, .int x2, .int x3] : List Value).toArray s 0 0 (AX 75 X.1 s.heap.size)) (F0 m 7 ls []) := by
    intro n1
    induction n1 with
    | zero => intro y4 y5 S H locs ls hP hS hl h; exact h.elim
    | succ n9 ih =>
      intro y4 y5 S H locs ls hP hS hl h
      rw [q_J1_indexOfChar_4cfef_7] at h
      refine lv_iload hx hb dJ1_indexOfChar_4cfef_7 (lv_at hl 3 rfl) ?_
      refine lv_iload_n hx hb dJ1_indexOfChar_4cfef_9 rfl (lv_at hl 1 rfl) ?_
      refine lv_icmp_ge (tgt := 31) hx hb dJ1_indexOfChar_4cfef_10 (by decide) (fun c_2 => ?_) (fun c_2 => ?_)
      · have h := h.1 c_2
        refine lv_iconst (v := (-1)) hx hb dJ1_indexOfChar_4cfef_31 (by decide) ?_
        exact W.iret (v := (-1)) hx hb hr (fun t ht hW => ⟨⟨(-1), S, rfl, h, gB_of ht hP⟩, hS.F ht⟩) hS.2.2 dJ1_indexOfChar_4cfef_32
      · have h := h.2 c_2
        refine lv_aload_n hx hb dJ1_indexOfChar_4cfef_13 rfl (lv_at hl 0 rfl) ?_
        refine lv_iload hx hb dJ1_indexOfChar_4cfef_14 (lv_at hl 3 rfl) ?_
        obtain ⟨hi, h⟩ := h
        refine va_tb hx hb (hF.2.2.2.2.2.2.2.2.1.1 0 (by decide)).2.2.2 hS hi (v := .int (([119, 111, 114, 116, 112, 108] : List Int32).getD y5.toNatClampNeg 0)) rfl dJ1_indexOfChar_4cfef_16 ?_
        refine lv_iload hx hb dJ1_indexOfChar_4cfef_17 (lv_at hl 2 rfl) ?_
        refine lv_icmp_ne (tgt := 25) hx hb dJ1_indexOfChar_4cfef_19 (by decide) (fun c_3 => ?_) (fun c_3 => ?_)
        · have h := h.2 c_3
          obtain ⟨x5_4, ex5_4⟩ : ∃ z : Int32, z = y5 + 1 := ⟨_, rfl⟩
          refine lv_iinc (v := x5_4) (lv' := [(5, .int x5_4), (0, .ref (X.2.2 7)), (3, .int x3), (4, .int y4)]) hx hb dJ1_indexOfChar_4cfef_25 hl (k := 3) rfl (by rw [ex5_4]; rfl) (by decide) rfl (fun ls hl => ?_)
          have h := h x5_4 ex5_4
          refine lv_goto (tgt := 7) hx hb dJ1_indexOfChar_4cfef_28 (by decide) ?_
          exact ih y4 x5_4 S H locs ls hP hS (lv_sub hl [1, 2, 3, 0] rfl) h
        · have h := h.1 c_3
          refine lv_iload hx hb dJ1_indexOfChar_4cfef_22 (lv_at hl 3 rfl) ?_
          exact W.iret (v := y5) hx hb hr (fun t ht hW => ⟨⟨y5, S, rfl, h, gB_of ht hP⟩, hS.F ht⟩) hS.2.2 dJ1_indexOfChar_4cfef_24
  have hl := lv_entry ([.ref (X.2.2 7), .int x1, .int x2, .int x3]) (n := 6) (Nat.le_of_ble_eq_true rfl)
  rw [lg_entry_eq]
  generalize (lg_sl ([.ref (X.2.2 7), .int x1, .int x2, .int x3]) ++ List.replicate (6 - (lg_sl ([.ref (X.2.2 7), .int x1, .int x2, .int x3])).length) Slot.unset).toArray = ls at hl ⊢
  have hl : lv_has ls 6 [(0, .ref (X.2.2 7)), (1, .int x1), (2, .int x2), (3, .int x3)] := hl
  obtain ⟨H, hH⟩ : ∃ H : Heap, H = s.heap := ⟨_, rfl⟩
  obtain ⟨locs, hlc⟩ : ∃ q : List Loc, q = [] := ⟨_, rfl⟩
  have hS : va_S (AX 75 X.1 s.heap.size) s.heap H locs := by rw [hH, hlc]; exact hS
  have hP : va_P D vwCl (CW X S) H := by rw [hH]; exact hP
  show W p l e (headSpec (Cond.code yJ1_indexOfChar_4cfef cJ1_indexOfChar_4cfef 6 (some .int) :: lw_gd) rm_J1_indexOfChar_4cfef).room s m ([.ref (X.2.2 7), .int x1, .int x2, .int x3] : List Value).toArray below meth c s.heap [] 0 0 (MQ below (va_Qi post (gB D (CW X)) (AX 75 X.1 s.heap.size)) ([.ref (X.2.2 7), .int x1, .int x2, .int x3] : List Value).toArray s 0 0 (AX 75 X.1 s.heap.size)) _
  suffices hgo : W p l e (headSpec (Cond.code yJ1_indexOfChar_4cfef cJ1_indexOfChar_4cfef 6 (some .int) :: lw_gd) rm_J1_indexOfChar_4cfef).room s m ([.ref (X.2.2 7), .int x1, .int x2, .int x3] : List Value).toArray below meth c H locs 0 0 (MQ below (va_Qi post (gB D (CW X)) (AX 75 X.1 s.heap.size)) ([.ref (X.2.2 7), .int x1, .int x2, .int x3] : List Value).toArray s 0 0 (AX 75 X.1 s.heap.size)) (F0 m 0 ls []) from by rw [hH, hlc] at hgo; exact hgo
  unfold p_J1_indexOfChar_4cfef at h
  refine lv_iload_n hx hb dJ1_indexOfChar_4cfef_0 rfl (lv_at hl 1 rfl) ?_
  refine lv_i2b hx hb dJ1_indexOfChar_4cfef_1 rfl ?_
  refine lv_topi (fun x4_1 ex4_1 => ?_)
  have h := h x4_1 ex4_1
  refine lv_istore (lv' := [(4, .int x4_1), (0, .ref (X.2.2 7)), (1, .int x1), (2, .int x2), (3, .int x3)]) hx hb dJ1_indexOfChar_4cfef_2 hl (by decide) rfl (fun ls hl => ?_)
  refine lv_iload_n hx hb dJ1_indexOfChar_4cfef_4 rfl (lv_at hl 3 rfl) ?_
  refine lv_istore (lv' := [(5, .int x2), (4, .int x4_1), (0, .ref (X.2.2 7)), (1, .int x1), (2, .int x2), (3, .int x3)]) hx hb dJ1_indexOfChar_4cfef_5 hl (by decide) rfl (fun ls hl => ?_)
  obtain ⟨n1, h⟩ := h
  exact W7  n1 x4_1 x2 S H locs ls hP hS (lv_sub hl [2, 5, 1, 0] rfl) h

abbrev rm_J1_indexOf_4cfef : Room := { frames := 1, cells := 0, slots := 0, locals := 25 }
def p_J1_indexOf_4cfef (S : CS) (x1 : Int32) (x2 : Int32) (x3 : Int32) (post : Int32 → CS → Prop) : Prop := p_J1_canEncode_9a6ad S x1 (fun r_2 S_1 => ((r_2 = 0 → (post (-1) S_1)) ∧ (¬ (r_2 = 0) → (∀ x2_4 : Int32, x2_4 = (if x2 < 0 then 0 else x2) → (∀ x3_5 : Int32, x3_5 = (if 6 < x3 then 6 else x3) → ((x2_4 < x3_5 → (p_J1_indexOfChar_4cfef S_1 x1 x2_4 x3_5 (fun r_8 S_7 => (post r_8 S_7)))) ∧ (¬ (x2_4 < x3_5) → (post (-1) S_1))))))))
set_option maxHeartbeats 4000000 in
set_option maxRecDepth 100000 in
theorem c_J1_indexOf_4cfef (l : Launch) (D : va_G) (X : XE) (hX : Inj 75 X.1) (sz : Nat) (S : CS) (x1 : Int32) (x2 : Int32) (x3 : Int32) (post : Int32 → CS → Prop) (h : p_J1_indexOf_4cfef S x1 x2 x3 post) : Met l yJ1_indexOf_4cfef (Cond.code yJ1_indexOf_4cfef cJ1_indexOf_4cfef 4 (some .int) :: lw_gd) rm_J1_indexOf_4cfef (gPc D (tyX X) (CW X) (FXc X) (AX 75 X.1 sz) sz S [.ref (X.2.2 7), .int x1, .int x2, .int x3]) (va_Qi post (gB D (CW X)) (AX 75 X.1 sz)) 0 0 (AX 75 X.1 sz) := by
  refine va_MetF (cc := cJ1_indexOf_4cfef) (maxL := 4) (ret := (some .int)) (by decide +kernel) rfl ?_
  intro p e s m args below meth c s₁ B hml hv
  obtain ⟨rfl, hsz, hP, hK, hF⟩ := hv
  have hx := B.exec
  have hb := B.bytes
  have hr := B.returns
  have hts := atoms_spec (ws := (Cond.code yJ1_indexOf_4cfef cJ1_indexOf_4cfef 4 (some .int) :: lw_gd)) B.pre
  have hT : ∀ w ∈ lw_gd, w.before _ s = true := fun w h9 => hts w (List.mem_cons_of_mem _ h9)
  have hown : s.vm.findClass RJ1 = some m.cls := findClass_of_methodNamed B.named
  have hlocks := B.notSynchronized
  subst hsz
  have hS : va_S (AX 75 X.1 s.heap.size) s.heap s.heap [] := va_S.rf
  have hl := lv_entry ([.ref (X.2.2 7), .int x1, .int x2, .int x3]) (n := 4) (Nat.le_of_ble_eq_true rfl)
  rw [lg_entry_eq]
  generalize (lg_sl ([.ref (X.2.2 7), .int x1, .int x2, .int x3]) ++ List.replicate (4 - (lg_sl ([.ref (X.2.2 7), .int x1, .int x2, .int x3])).length) Slot.unset).toArray = ls at hl ⊢
  have hl : lv_has ls 4 [(0, .ref (X.2.2 7)), (1, .int x1), (2, .int x2), (3, .int x3)] := hl
  obtain ⟨H, hH⟩ : ∃ H : Heap, H = s.heap := ⟨_, rfl⟩
  obtain ⟨locs, hlc⟩ : ∃ q : List Loc, q = [] := ⟨_, rfl⟩
  have hS : va_S (AX 75 X.1 s.heap.size) s.heap H locs := by rw [hH, hlc]; exact hS
  have hP : va_P D vwCl (CW X S) H := by rw [hH]; exact hP
  show W p l e (headSpec (Cond.code yJ1_indexOf_4cfef cJ1_indexOf_4cfef 4 (some .int) :: lw_gd) rm_J1_indexOf_4cfef).room s m ([.ref (X.2.2 7), .int x1, .int x2, .int x3] : List Value).toArray below meth c s.heap [] 0 0 (MQ below (va_Qi post (gB D (CW X)) (AX 75 X.1 s.heap.size)) ([.ref (X.2.2 7), .int x1, .int x2, .int x3] : List Value).toArray s 0 0 (AX 75 X.1 s.heap.size)) _
  suffices hgo : W p l e (headSpec (Cond.code yJ1_indexOf_4cfef cJ1_indexOf_4cfef 4 (some .int) :: lw_gd) rm_J1_indexOf_4cfef).room s m ([.ref (X.2.2 7), .int x1, .int x2, .int x3] : List Value).toArray below meth c H locs 0 0 (MQ below (va_Qi post (gB D (CW X)) (AX 75 X.1 s.heap.size)) ([.ref (X.2.2 7), .int x1, .int x2, .int x3] : List Value).toArray s 0 0 (AX 75 X.1 s.heap.size)) (F0 m 0 ls []) from by rw [hH, hlc] at hgo; exact hgo
  unfold p_J1_indexOf_4cfef at h
  refine lv_iload_n hx hb dJ1_indexOf_4cfef_0 rfl (lv_at hl 1 rfl) ?_
  refine cSi (As := [.int x1]) (rest := []) hX ⟨hx, hb, hml, hown, hT⟩ (c_J1_canEncode_9a6ad l D X hX H.size S x1 _ h) (gd_S wl_J1_88 wt_J1_canEncode_9a6ad wn_J1 wc_J1_canEncode_9a6ad) hd_J1_canEncode_9a6ad ⟨rfl, rfl⟩ ⟨Nat.le_of_ble_eq_true rfl, Nat.le_of_ble_eq_true rfl⟩ hK hP hS hF rfl hl.1 rfl (Nat.le_of_ble_eq_true rfl) dJ1_indexOf_4cfef_1 ⟨Nat.zero_le _, Nat.zero_le _⟩ (fun r_2 S_1 H locs h hP hS => ?_)
  refine lv_if_ne (tgt := 9) hx hb dJ1_indexOf_4cfef_4 (by decide) (fun c_3 => ?_) (fun c_3 => ?_)
  · have h := h.2 c_3
    refine lv_iload_n hx hb dJ1_indexOf_4cfef_9 rfl (lv_at hl 2 rfl) ?_
    refine lv_iconst (v := 0) hx hb dJ1_indexOf_4cfef_10 (by decide) ?_
    refine va_mmax hx hb (hml.trans hl.1.symm) hown (hT _ wl_J1_92) (hT _ wt_J9_max_7cf53) (hT _ wn_J9) (hT _ wc_J9_max_7cf53) (Nat.le_of_ble_eq_true rfl) (Nat.le_of_ble_eq_true rfl) (Nat.zero_le _) (Nat.zero_le _) dJ1_indexOf_4cfef_11 ?_
    refine lv_topi (fun x2_4 ex2_4 => ?_)
    have h := h x2_4 ex2_4
    refine lv_istore_n (lv' := [(2, .int x2_4), (0, .ref (X.2.2 7)), (1, .int x1), (3, .int x3)]) hx hb dJ1_indexOf_4cfef_14 rfl hl (by decide) rfl (fun ls hl => ?_)
    refine lv_iload_n hx hb dJ1_indexOf_4cfef_15 rfl (lv_at hl 3 rfl) ?_
    refine lv_aload_n hx hb dJ1_indexOf_4cfef_16 rfl (lv_at hl 1 rfl) ?_
    refine va_tlen hx hb (hF.2.2.2.2.2.2.2.2.1.1 0 (by decide)).2.2.2 hS (v := 6) (by decide) dJ1_indexOf_4cfef_17 ?_
    refine va_mmin hx hb (hml.trans hl.1.symm) hown (hT _ wl_J1_38) (hT _ wt_J9_min_7cf53) (hT _ wn_J9) (hT _ wc_J9_min_7cf53) (Nat.le_of_ble_eq_true rfl) (Nat.le_of_ble_eq_true rfl) (Nat.zero_le _) (Nat.zero_le _) dJ1_indexOf_4cfef_18 ?_
    refine lv_topi (fun x3_5 ex3_5 => ?_)
    have h := h x3_5 ex3_5
    refine lv_istore_n (lv' := [(3, .int x3_5), (2, .int x2_4), (0, .ref (X.2.2 7)), (1, .int x1)]) hx hb dJ1_indexOf_4cfef_21 rfl hl (by decide) rfl (fun ls hl => ?_)
    refine lv_iload_n hx hb dJ1_indexOf_4cfef_22 rfl (lv_at hl 1 rfl) ?_
    refine lv_iload_n hx hb dJ1_indexOf_4cfef_23 rfl (lv_at hl 0 rfl) ?_
    refine lv_icmp_lt (tgt := 29) hx hb dJ1_indexOf_4cfef_24 (by decide) (fun c_6 => ?_) (fun c_6 => ?_)
    · have h := h.1 c_6
      refine lv_aload_n hx hb dJ1_indexOf_4cfef_29 rfl (lv_at hl 2 rfl) ?_
      refine lv_iload_n hx hb dJ1_indexOf_4cfef_30 rfl (lv_at hl 3 rfl) ?_
      refine lv_iload_n hx hb dJ1_indexOf_4cfef_31 rfl (lv_at hl 1 rfl) ?_
      refine lv_iload_n hx hb dJ1_indexOf_4cfef_32 rfl (lv_at hl 0 rfl) ?_
      refine cSi (As := [.ref (X.2.2 7), .int x1, .int x2_4, .int x3_5]) (rest := []) hX ⟨hx, hb, hml, hown, hT⟩ (c_J1_indexOfChar_4cfef l D X hX H.size S_1 x1 x2_4 x3_5 _ h) (gd_S wl_J1_95 wt_J1_indexOfChar_4cfef wn_J1 wc_J1_indexOfChar_4cfef) hd_J1_indexOfChar_4cfef ⟨rfl, rfl⟩ ⟨Nat.le_of_ble_eq_true rfl, Nat.le_of_ble_eq_true rfl⟩ hK hP hS hF rfl hl.1 rfl (Nat.le_of_ble_eq_true rfl) dJ1_indexOf_4cfef_33 ⟨Nat.zero_le _, Nat.zero_le _⟩ (fun r_8 S_7 H locs h hP hS => ?_)
      exact W.iret (v := r_8) hx hb hr (fun t ht hW => ⟨⟨r_8, S_7, rfl, h, gB_of ht hP⟩, hS.F ht⟩) hS.2.2 dJ1_indexOf_4cfef_36
    · have h := h.2 c_6
      refine lv_iconst (v := (-1)) hx hb dJ1_indexOf_4cfef_27 (by decide) ?_
      exact W.iret (v := (-1)) hx hb hr (fun t ht hW => ⟨⟨(-1), S_1, rfl, h, gB_of ht hP⟩, hS.F ht⟩) hS.2.2 dJ1_indexOf_4cfef_28
  · have h := h.1 c_3
    refine lv_iconst (v := (-1)) hx hb dJ1_indexOf_4cfef_7 (by decide) ?_
    exact W.iret (v := (-1)) hx hb hr (fun t ht hW => ⟨⟨(-1), S_1, rfl, h, gB_of ht hP⟩, hS.F ht⟩) hS.2.2 dJ1_indexOf_4cfef_8
