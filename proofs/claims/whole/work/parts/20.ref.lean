abbrev rm_X7_in : Room := { frames := 0, cells := 0, slots := 0, locals := 0 }
def p_X7_in (S : CS) (x0 : Int32) (x1 : Int32) (x2 : Int32) (post : Int32 → CS → Prop) : Prop := (x0 < x1 → (post 0 S)) ∧ (¬ (x0 < x1) → ((x2 < x0 → (post 0 S)) ∧ (¬ (x2 < x0) → (post 1 S))))
set_option maxHeartbeats 4000000 in
set_option maxRecDepth 100000 in
theorem c_X7_in (l : Launch) (D : va_G) (X : XE) (hX : Inj 18 X.1) (sz : Nat) (S : CS) (x0 : Int32) (x1 : Int32) (x2 : Int32) (post : Int32 → CS → Prop) (h : p_X7_in S x0 x1 x2 post) : Met l yX7_in (Cond.code yX7_in cX7_in 3 (some .boolean) :: lw_gd) rm_X7_in (gPc D (tyX X) (RW X) (FXr X) (AX 18 X.1 sz) sz S [.int x0, .int x1, .int x2]) (va_Qi post (gB D (RW X)) (AX 18 X.1 sz)) 0 0 (AX 18 X.1 sz) := by
  refine Met.ofW (cc := cX7_in) (maxL := 3) (ret := (some .boolean)) (by decide) rfl ?_
  intro p e s m args below meth c s₁ B hml hv
  obtain ⟨rfl, hsz, hP, hK, hF⟩ := hv
  have hx := B.exec
  have hb := B.bytes
  have hr := B.returns
  have hts := atoms_spec (ws := (Cond.code yX7_in cX7_in 3 (some .boolean) :: lw_gd)) B.pre
  have hT : ∀ w ∈ lw_gd, w.before _ s = true := fun w h9 => hts w (List.mem_cons_of_mem _ h9)
  have hown : s.vm.findClass RX7 = some m.cls := findClass_of_methodNamed B.named
  have hlocks := B.notSynchronized
  subst hsz
  have hS : va_S (AX 18 X.1 s.heap.size) s.heap s.heap [] := va_S.rf
  have hl := lv_entry ([.int x0, .int x1, .int x2]) (n := 3) (Nat.le_of_ble_eq_true rfl)
  rw [lg_entry_eq]
  generalize (lg_sl ([.int x0, .int x1, .int x2]) ++ List.replicate (3 - (lg_sl ([.int x0, .int x1, .int x2])).length) Slot.unset).toArray = ls at hl ⊢
  have hl : lv_has ls 3 [(0, .int x0), (1, .int x1), (2, .int x2)] := hl
  obtain ⟨H, hH⟩ : ∃ H : Heap, H = s.heap := ⟨_, rfl⟩
  obtain ⟨locs, hlc⟩ : ∃ q : List Loc, q = [] := ⟨_, rfl⟩
  have hS : va_S (AX 18 X.1 s.heap.size) s.heap H locs := by rw [hH, hlc]; exact hS
  have hP : va_P D vwCl (RW X S) H := by rw [hH]; exact hP
  show W p l e (headSpec (Cond.code yX7_in cX7_in 3 (some .boolean) :: lw_gd) rm_X7_in).room s m ([.int x0, .int x1, .int x2] : List Value).toArray below meth c s.heap [] 0 0 (MQ below (va_Qi post (gB D (RW X)) (AX 18 X.1 s.heap.size)) ([.int x0, .int x1, .int x2] : List Value).toArray s 0 0 (AX 18 X.1 s.heap.size)) _
  suffices hgo : W p l e (headSpec (Cond.code yX7_in cX7_in 3 (some .boolean) :: lw_gd) rm_X7_in).room s m ([.int x0, .int x1, .int x2] : List Value).toArray below meth c H locs 0 0 (MQ below (va_Qi post (gB D (RW X)) (AX 18 X.1 s.heap.size)) ([.int x0, .int x1, .int x2] : List Value).toArray s 0 0 (AX 18 X.1 s.heap.size)) (F0 m 0 ls []) from by rw [hH, hlc] at hgo; exact hgo
  unfold p_X7_in at h
  refine lv_iload_n hx hb dX7_in_0 rfl (lv_at hl 0 rfl) ?_
  refine lv_iload_n hx hb dX7_in_1 rfl (lv_at hl 1 rfl) ?_
  refine lv_icmp_lt (tgt := 14) hx hb dX7_in_2 (by decide) (fun c_1 => ?_) (fun c_1 => ?_)
  · have h := h.1 c_1
    refine lv_iconst (v := 0) hx hb dX7_in_14 (by decide) ?_
    exact W.zret (v := 0) hx hb hr rfl (fun t ht hW => ⟨⟨0, S, rfl, h, gB_of ht hP⟩, hS.F ht⟩) hS.2.2 dX7_in_15
  · have h := h.2 c_1
    refine lv_iload_n hx hb dX7_in_5 rfl (lv_at hl 0 rfl) ?_
    refine lv_iload_n hx hb dX7_in_6 rfl (lv_at hl 2 rfl) ?_
    refine lv_icmp_gt (tgt := 14) hx hb dX7_in_7 (by decide) (fun c_2 => ?_) (fun c_2 => ?_)
    · have h := h.1 c_2
      refine lv_iconst (v := 0) hx hb dX7_in_14 (by decide) ?_
      exact W.zret (v := 0) hx hb hr rfl (fun t ht hW => ⟨⟨0, S, rfl, h, gB_of ht hP⟩, hS.F ht⟩) hS.2.2 dX7_in_15
    · have h := h.2 c_2
      refine lv_iconst (v := 1) hx hb dX7_in_10 (by decide) ?_
      refine lv_goto (tgt := 15) hx hb dX7_in_11 (by decide) ?_
      exact W.zret (v := 1) hx hb hr rfl (fun t ht hW => ⟨⟨1, S, rfl, h, gB_of ht hP⟩, hS.F ht⟩) hS.2.2 dX7_in_15

abbrev rm_X7_ones : Room := { frames := 0, cells := 0, slots := 0, locals := 0 }
def q_X7_ones_4 (x0 : Int32) (post : Int32 → CS → Prop) : Nat → Int32 → Int32 → CS → Prop
  | 0, _, _, _ => False
  | n9 + 1, y1, y2, S => (8 ≤ y2 → (post y1 S)) ∧ (¬ (8 ≤ y2) → (∀ x1_2 : Int32, x1_2 = (y1 + ((x0 >>> (y2 &&& 31)) &&& 1)) → (∀ x2_3 : Int32, x2_3 = y2 + 1 → (q_X7_ones_4 x0 post n9 x1_2 x2_3 S))))
def p_X7_ones (S : CS) (x0 : Int32) (post : Int32 → CS → Prop) : Prop := ∃ n, q_X7_ones_4 x0 post n 0 0 S
set_option maxHeartbeats 4000000 in
set_option maxRecDepth 100000 in
theorem c_X7_ones (l : Launch) (D : va_G) (X : XE) (hX : Inj 18 X.1) (sz : Nat) (S : CS) (x0 : Int32) (post : Int32 → CS → Prop) (h : p_X7_ones S x0 post) : Met l yX7_ones (Cond.code yX7_ones cX7_ones 3 (some .int) :: lw_gd) rm_X7_ones (gPc D (tyX X) (RW X) (FXr X) (AX 18 X.1 sz) sz S [.int x0]) (va_Qi post (gB D (RW X)) (AX 18 X.1 sz)) 0 0 (AX 18 X.1 sz) := by
  refine Met.ofW (cc := cX7_ones) (maxL := 3) (ret := (some .int)) (by decide) rfl ?_
  intro p e s m args below meth c s₁ B hml hv
  obtain ⟨rfl, hsz, hP, hK, hF⟩ := hv
  have hx := B.exec
  have hb := B.bytes
  have hr := B.returns
  have hts := atoms_spec (ws := (Cond.code yX7_ones cX7_ones 3 (some .int) :: lw_gd)) B.pre
  have hT : ∀ w ∈ lw_gd, w.before _ s = true := fun w h9 => hts w (List.mem_cons_of_mem _ h9)
  have hown : s.vm.findClass RX7 = some m.cls := findClass_of_methodNamed B.named
  have hlocks := B.notSynchronized
  subst hsz
  have hS : va_S (AX 18 X.1 s.heap.size) s.heap s.heap [] := va_S.rf
  have W4 : ∀ n1 : Nat, ∀ (y1 : Int32) (y2 : Int32) (S : CS) (H : Heap) (locs : List Loc) (ls : Array Slot), va_P D vwCl (RW X S) H → va_S (AX 18 X.1 s.heap.size) s.heap H locs → lv_has ls 3 [(0, .int x0), (1, .int y1), (2, .int y2)] → q_X7_ones_4 x0 post n1 y1 y2 S → W p l e (headSpec (Cond.code yX7_ones cX7_ones 3 (some .int) :: lw_gd) rm_X7_ones).room s m ([.int x0] : List Value).toArray below meth c H locs 0 0 (MQ below (va_Qi post (gB D (RW X)) (AX 18 X.1 s.heap.size)) ([.int x0] : List Value).toArray s 0 0 (AX 18 X.1 s.heap.size)) (F0 m 4 ls []) := by
    intro n1
    induction n1 with
    | zero => intro y1 y2 S H locs ls hP hS hl h; exact h.elim
    | succ n9 ih =>
      intro y1 y2 S H locs ls hP hS hl h
      rw [q_X7_ones_4] at h
      refine lv_iload_n hx hb dX7_ones_4 rfl (lv_at hl 2 rfl) ?_
      refine lv_bipush (v := 8) hx hb dX7_ones_5 (by decide) ?_
      refine lv_icmp_ge (tgt := 24) hx hb dX7_ones_7 (by decide) (fun c_1 => ?_) (fun c_1 => ?_)
      · have h := h.1 c_1
        refine lv_iload_n hx hb dX7_ones_24 rfl (lv_at hl 1 rfl) ?_
        exact W.iret (v := y1) hx hb hr (fun t ht hW => ⟨⟨y1, S, rfl, h, gB_of ht hP⟩, hS.F ht⟩) hS.2.2 dX7_ones_25
      · have h := h.2 c_1
        refine lv_iload_n hx hb dX7_ones_10 rfl (lv_at hl 1 rfl) ?_
        refine lv_iload_n hx hb dX7_ones_11 rfl (lv_at hl 0 rfl) ?_
        refine lv_iload_n hx hb dX7_ones_12 rfl (lv_at hl 2 rfl) ?_
        refine lv_ishr hx hb dX7_ones_13 ?_
        refine lv_iconst (v := 1) hx hb dX7_ones_14 (by decide) ?_
        refine lv_iand hx hb dX7_ones_15 ?_
        refine lv_iadd hx hb dX7_ones_16 ?_
        refine lv_topi (fun x1_2 ex1_2 => ?_)
        have h := h x1_2 ex1_2
        refine lv_istore_n (lv' := [(1, .int x1_2), (0, .int x0), (2, .int y2)]) hx hb dX7_ones_17 rfl hl (by decide) rfl (fun ls hl => ?_)
        obtain ⟨x2_3, ex2_3⟩ : ∃ z : Int32, z = y2 + 1 := ⟨_, rfl⟩
        refine lv_iinc (v := x2_3) (lv' := [(2, .int x2_3), (1, .int x1_2), (0, .int x0)]) hx hb dX7_ones_18 hl (k := 2) rfl (by rw [ex2_3]; rfl) (by decide) rfl (fun ls hl => ?_)
        have h := h x2_3 ex2_3
        refine lv_goto (tgt := 4) hx hb dX7_ones_21 (by decide) ?_
        exact ih x1_2 x2_3 S H locs ls hP hS (lv_sub hl [2, 1, 0] rfl) h
  have hl := lv_entry ([.int x0]) (n := 3) (Nat.le_of_ble_eq_true rfl)
  rw [lg_entry_eq]
  generalize (lg_sl ([.int x0]) ++ List.replicate (3 - (lg_sl ([.int x0])).length) Slot.unset).toArray = ls at hl ⊢
  have hl : lv_has ls 3 [(0, .int x0)] := hl
  obtain ⟨H, hH⟩ : ∃ H : Heap, H = s.heap := ⟨_, rfl⟩
  obtain ⟨locs, hlc⟩ : ∃ q : List Loc, q = [] := ⟨_, rfl⟩
  have hS : va_S (AX 18 X.1 s.heap.size) s.heap H locs := by rw [hH, hlc]; exact hS
  have hP : va_P D vwCl (RW X S) H := by rw [hH]; exact hP
  show W p l e (headSpec (Cond.code yX7_ones cX7_ones 3 (some .int) :: lw_gd) rm_X7_ones).room s m ([.int x0] : List Value).toArray below meth c s.heap [] 0 0 (MQ below (va_Qi post (gB D (RW X)) (AX 18 X.1 s.heap.size)) ([.int x0] : List Value).toArray s 0 0 (AX 18 X.1 s.heap.size)) _
  suffices hgo : W p l e (headSpec (Cond.code yX7_ones cX7_ones 3 (some .int) :: lw_gd) rm_X7_ones).room s m ([.int x0] : List Value).toArray below meth c H locs 0 0 (MQ below (va_Qi post (gB D (RW X)) (AX 18 X.1 s.heap.size)) ([.int x0] : List Value).toArray s 0 0 (AX 18 X.1 s.heap.size)) (F0 m 0 ls []) from by rw [hH, hlc] at hgo; exact hgo
  unfold p_X7_ones at h
  refine lv_iconst (v := 0) hx hb dX7_ones_0 (by decide) ?_
  refine lv_istore_n (lv' := [(1, .int 0), (0, .int x0)]) hx hb dX7_ones_1 rfl hl (by decide) rfl (fun ls hl => ?_)
  refine lv_iconst (v := 0) hx hb dX7_ones_2 (by decide) ?_
  refine lv_istore_n (lv' := [(2, .int 0), (1, .int 0), (0, .int x0)]) hx hb dX7_ones_3 rfl hl (by decide) rfl (fun ls hl => ?_)
  obtain ⟨n1, h⟩ := h
  exact W4  n1 0 0 S H locs ls hP hS (lv_sub hl [2, 1, 0] rfl) h

abbrev rm_X7_type : Room := { frames := 1, cells := 0, slots := 0, locals := 22 }
def p_X7_type (S : CS) (x1 : Int32) (post : Int32 → CS → Prop) : Prop := ∀ S_1 : CS, S_1 = sti S 0 0 0 → (p_X7_in S_1 x1 0 255 (fun r_3 S_2 => ((r_3 = 0 → (post (-1) S_2)) ∧ (¬ (r_3 = 0) → (((S_2.1 0 3) = 200 → (post (-3) S_2)) ∧ (¬ ((S_2.1 0 3) = 200) → (vp_in (S_2.1 0 3) 200 ∧ (∀ S_6 : CS, S_6 = sti S_2 1 ((S_2.1 0 3).toNatClampNeg) x1 → (∀ u_7 : Int32, u_7 = ((S_6.1 0 3) + 1) → (∀ S_8 : CS, S_8 = sti S_6 0 3 u_7 → (post (S_8.1 0 3) S_8)))))))))))
set_option maxHeartbeats 4000000 in
set_option maxRecDepth 100000 in
theorem c_X7_type (l : Launch) (D : va_G) (X : XE) (hX : Inj 18 X.1) (sz : Nat) (S : CS) (x1 : Int32) (post : Int32 → CS → Prop) (h : p_X7_type S x1 post) : Met l yX7_type (Cond.code yX7_type cX7_type 2 (some .int) :: lw_gd) rm_X7_type (gPc D (tyX X) (RW X) (FXr X) (AX 18 X.1 sz) sz S [.ref (X.1 0), .int x1]) (va_Qi post (gB D (RW X)) (AX 18 X.1 sz)) 0 0 (AX 18 X.1 sz) := by
  refine Met.ofW (cc := cX7_type) (maxL := 2) (ret := (some .int)) (by decide) rfl ?_
  intro p e s m args below meth c s₁ B hml hv
  obtain ⟨rfl, hsz, hP, hK, hF⟩ := hv
  have hx := B.exec
  have hb := B.bytes
  have hr := B.returns
  have hts := atoms_spec (ws := (Cond.code yX7_type cX7_type 2 (some .int) :: lw_gd)) B.pre
  have hT : ∀ w ∈ lw_gd, w.before _ s = true := fun w h9 => hts w (List.mem_cons_of_mem _ h9)
  have hown : s.vm.findClass RX7 = some m.cls := findClass_of_methodNamed B.named
  have hlocks := B.notSynchronized
  subst hsz
  have hS : va_S (AX 18 X.1 s.heap.size) s.heap s.heap [] := va_S.rf
  have hl := lv_entry ([.ref (X.1 0), .int x1]) (n := 2) (Nat.le_of_ble_eq_true rfl)
  rw [lg_entry_eq]
  generalize (lg_sl ([.ref (X.1 0), .int x1]) ++ List.replicate (2 - (lg_sl ([.ref (X.1 0), .int x1])).length) Slot.unset).toArray = ls at hl ⊢
  have hl : lv_has ls 2 [(0, .ref (X.1 0)), (1, .int x1)] := hl
  obtain ⟨H, hH⟩ : ∃ H : Heap, H = s.heap := ⟨_, rfl⟩
  obtain ⟨locs, hlc⟩ : ∃ q : List Loc, q = [] := ⟨_, rfl⟩
  have hS : va_S (AX 18 X.1 s.heap.size) s.heap H locs := by rw [hH, hlc]; exact hS
  have hP : va_P D vwCl (RW X S) H := by rw [hH]; exact hP
  show W p l e (headSpec (Cond.code yX7_type cX7_type 2 (some .int) :: lw_gd) rm_X7_type).room s m ([.ref (X.1 0), .int x1] : List Value).toArray below meth c s.heap [] 0 0 (MQ below (va_Qi post (gB D (RW X)) (AX 18 X.1 s.heap.size)) ([.ref (X.1 0), .int x1] : List Value).toArray s 0 0 (AX 18 X.1 s.heap.size)) _
  suffices hgo : W p l e (headSpec (Cond.code yX7_type cX7_type 2 (some .int) :: lw_gd) rm_X7_type).room s m ([.ref (X.1 0), .int x1] : List Value).toArray below meth c H locs 0 0 (MQ below (va_Qi post (gB D (RW X)) (AX 18 X.1 s.heap.size)) ([.ref (X.1 0), .int x1] : List Value).toArray s 0 0 (AX 18 X.1 s.heap.size)) (F0 m 0 ls []) from by rw [hH, hlc] at hgo; exact hgo
  unfold p_X7_type at h
  refine lv_aload_n hx hb dX7_type_0 rfl (lv_at hl 0 rfl) ?_
  refine lv_iconst (v := 0) hx hb dX7_type_1 (by decide) ?_
  refine va_put (D := D) (ci := 7) (v := .int 0) (ty := .int) (C := RX7) (T := TX7) (N := 28) hx hb hT inX7 tyX7 tyX7_ok nmX7 hown hK hP (gw_D hX) hS 0 rw_Model rfl 0 (by decide) (hT _ wf_X7_68) (fun _ h9 => h9) rfl (by decide +kernel) rfl rfl (Nat.le_of_ble_eq_true rfl) dX7_type_2 (fun H locs hP _ hS => ?_)
  have hP := rw_st (j := 0) (x := 0) rfl hP
  obtain ⟨S_1, eS_1⟩ : ∃ z : CS, z = sti S 0 0 0 := ⟨_, rfl⟩
  rw [← eS_1] at hP
  have h := h S_1 eS_1
  refine lv_iload_n hx hb dX7_type_5 rfl (lv_at hl 1 rfl) ?_
  refine lv_iconst (v := 0) hx hb dX7_type_6 (by decide) ?_
  refine lv_sipush (v := 255) hx hb dX7_type_7 (by decide) ?_
  refine rSi (As := [.int x1, .int 0, .int 255]) (rest := []) hX ⟨hx, hb, hml, hown, hT⟩ (c_X7_in l D X hX H.size S_1 x1 0 255 _ h) (gd_S wl_X7_72 wt_X7_in wn_X7 wc_X7_in) hd_X7_in ⟨rfl, rfl⟩ ⟨Nat.le_of_ble_eq_true rfl, Nat.le_of_ble_eq_true rfl⟩ hK hP hS hF rfl hl.1 rfl (Nat.le_of_ble_eq_true rfl) dX7_type_10 ⟨Nat.zero_le _, Nat.zero_le _⟩ (fun r_3 S_2 H locs h hP hS => ?_)
  refine lv_if_ne (tgt := 18) hx hb dX7_type_13 (by decide) (fun c_4 => ?_) (fun c_4 => ?_)
  · have h := h.2 c_4
    refine lv_aload_n hx hb dX7_type_18 rfl (lv_at hl 0 rfl) ?_
    refine va_get (D := D) (ci := 7) (v := .int (S_2.1 0 3)) (C := RX7) (T := TX7) (N := 28) hx hb hT inX7 hown hK hP 0 rw_Model rfl 3 (by decide) (hT _ wf_X7_76) (fun _ h9 => h9) rfl dX7_type_19 ?_
    refine lv_sipush (v := 200) hx hb dX7_type_22 (by decide) ?_
    refine lv_icmp_ne (tgt := 31) hx hb dX7_type_25 (by decide) (fun c_5 => ?_) (fun c_5 => ?_)
    · have h := h.2 c_5
      refine lv_aload_n hx hb dX7_type_31 rfl (lv_at hl 0 rfl) ?_
      refine va_get (D := D) (ci := 7) (v := .ref (X.1 1)) (C := RX7) (T := TX7) (N := 28) hx hb hT inX7 hown hK hP 0 rw_Model rfl 2 (by decide) (hT _ wf_X7_7) (fun _ h9 => h9) rfl dX7_type_32 ?_
      refine lv_aload_n hx hb dX7_type_35 rfl (lv_at hl 0 rfl) ?_
      refine va_get (D := D) (ci := 7) (v := .int (S_2.1 0 3)) (C := RX7) (T := TX7) (N := 28) hx hb hT inX7 hown hK hP 0 rw_Model rfl 3 (by decide) (hT _ wf_X7_76) (fun _ h9 => h9) rfl dX7_type_36 ?_
      refine lv_iload_n hx hb dX7_type_39 rfl (lv_at hl 1 rfl) ?_
      obtain ⟨hi, h⟩ := h
      refine g_iast hx hb hK hP (gw_D hX) hS 1 rw_1 rfl hi ((S_2.1 0 3).toNatClampNeg) rfl dX7_type_40 (fun H locs hP hS => ?_)
      have hP := rw_st (j := (S_2.1 0 3).toNatClampNeg) (x := x1) rfl hP
      obtain ⟨S_6, eS_6⟩ : ∃ z : CS, z = sti S_2 1 ((S_2.1 0 3).toNatClampNeg) x1 := ⟨_, rfl⟩
      rw [← eS_6] at hP
      have h := h S_6 eS_6
      refine lv_aload_n hx hb dX7_type_41 rfl (lv_at hl 0 rfl) ?_
      refine lv_dup hx hb dX7_type_42 rfl ?_
      refine va_get (D := D) (ci := 7) (v := .int (S_6.1 0 3)) (C := RX7) (T := TX7) (N := 28) hx hb hT inX7 hown hK hP 0 rw_Model rfl 3 (by decide) (hT _ wf_X7_76) (fun _ h9 => h9) rfl dX7_type_43 ?_
      refine lv_iconst (v := 1) hx hb dX7_type_46 (by decide) ?_
      refine lv_iadd hx hb dX7_type_47 ?_
      refine lv_topi (fun u_7 eu_7 => ?_)
      have h := h u_7 eu_7
      refine va_put (D := D) (ci := 7) (v := .int u_7) (ty := .int) (C := RX7) (T := TX7) (N := 28) hx hb hT inX7 tyX7 tyX7_ok nmX7 hown hK hP (gw_D hX) hS 0 rw_Model rfl 3 (by decide) (hT _ wf_X7_76) (fun _ h9 => h9) rfl (by decide +kernel) rfl rfl (Nat.le_of_ble_eq_true rfl) dX7_type_48 (fun H locs hP _ hS => ?_)
      have hP := rw_st (j := 3) (x := u_7) rfl hP
      obtain ⟨S_8, eS_8⟩ : ∃ z : CS, z = sti S_6 0 3 u_7 := ⟨_, rfl⟩
      rw [← eS_8] at hP
      have h := h S_8 eS_8
      refine lv_aload_n hx hb dX7_type_51 rfl (lv_at hl 0 rfl) ?_
      refine va_get (D := D) (ci := 7) (v := .int (S_8.1 0 3)) (C := RX7) (T := TX7) (N := 28) hx hb hT inX7 hown hK hP 0 rw_Model rfl 3 (by decide) (hT _ wf_X7_76) (fun _ h9 => h9) rfl dX7_type_52 ?_
      exact W.iret (v := S_8.1 0 3) hx hb hr (fun t ht hW => ⟨⟨S_8.1 0 3, S_8, rfl, h, gB_of ht hP⟩, hS.F ht⟩) hS.2.2 dX7_type_55
    · have h := h.1 c_5
      refine lv_bipush (v := (-3)) hx hb dX7_type_28 (by decide) ?_
      exact W.iret (v := (-3)) hx hb hr (fun t ht hW => ⟨⟨(-3), S_2, rfl, h, gB_of ht hP⟩, hS.F ht⟩) hS.2.2 dX7_type_30
  · have h := h.1 c_4
    refine lv_iconst (v := (-1)) hx hb dX7_type_16 (by decide) ?_
    exact W.iret (v := (-1)) hx hb hr (fun t ht hW => ⟨⟨(-1), S_2, rfl, h, gB_of ht hP⟩, hS.F ht⟩) hS.2.2 dX7_type_17

abbrev rm_X7_clear : Room := { frames := 0, cells := 0, slots := 0, locals := 0 }
def p_X7_clear (S : CS)  (post : Int32 → CS → Prop) : Prop := ∀ S_1 : CS, S_1 = sti S 0 0 0 → (∀ x1_2 : Int32, x1_2 = S_1.1 0 3 → (∀ S_3 : CS, S_3 = sti S_1 0 3 0 → (post x1_2 S_3)))
set_option maxHeartbeats 4000000 in
set_option maxRecDepth 100000 in
theorem c_X7_clear (l : Launch) (D : va_G) (X : XE) (hX : Inj 18 X.1) (sz : Nat) (S : CS)  (post : Int32 → CS → Prop) (h : p_X7_clear S  post) : Met l yX7_clear (Cond.code yX7_clear cX7_clear 2 (some .int) :: lw_gd) rm_X7_clear (gPc D (tyX X) (RW X) (FXr X) (AX 18 X.1 sz) sz S [.ref (X.1 0)]) (va_Qi post (gB D (RW X)) (AX 18 X.1 sz)) 0 0 (AX 18 X.1 sz) := by
  refine Met.ofW (cc := cX7_clear) (maxL := 2) (ret := (some .int)) (by decide) rfl ?_
  intro p e s m args below meth c s₁ B hml hv
  obtain ⟨rfl, hsz, hP, hK, hF⟩ := hv
  have hx := B.exec
  have hb := B.bytes
  have hr := B.returns
  have hts := atoms_spec (ws := (Cond.code yX7_clear cX7_clear 2 (some .int) :: lw_gd)) B.pre
  have hT : ∀ w ∈ lw_gd, w.before _ s = true := fun w h9 => hts w (List.mem_cons_of_mem _ h9)
  have hown : s.vm.findClass RX7 = some m.cls := findClass_of_methodNamed B.named
  have hlocks := B.notSynchronized
  subst hsz
  have hS : va_S (AX 18 X.1 s.heap.size) s.heap s.heap [] := va_S.rf
  have hl := lv_entry ([.ref (X.1 0)]) (n := 2) (Nat.le_of_ble_eq_true rfl)
  rw [lg_entry_eq]
  generalize (lg_sl ([.ref (X.1 0)]) ++ List.replicate (2 - (lg_sl ([.ref (X.1 0)])).length) Slot.unset).toArray = ls at hl ⊢
  have hl : lv_has ls 2 [(0, .ref (X.1 0))] := hl
  obtain ⟨H, hH⟩ : ∃ H : Heap, H = s.heap := ⟨_, rfl⟩
  obtain ⟨locs, hlc⟩ : ∃ q : List Loc, q = [] := ⟨_, rfl⟩
  have hS : va_S (AX 18 X.1 s.heap.size) s.heap H locs := by rw [hH, hlc]; exact hS
  have hP : va_P D vwCl (RW X S) H := by rw [hH]; exact hP
  show W p l e (headSpec (Cond.code yX7_clear cX7_clear 2 (some .int) :: lw_gd) rm_X7_clear).room s m ([.ref (X.1 0)] : List Value).toArray below meth c s.heap [] 0 0 (MQ below (va_Qi post (gB D (RW X)) (AX 18 X.1 s.heap.size)) ([.ref (X.1 0)] : List Value).toArray s 0 0 (AX 18 X.1 s.heap.size)) _
  suffices hgo : W p l e (headSpec (Cond.code yX7_clear cX7_clear 2 (some .int) :: lw_gd) rm_X7_clear).room s m ([.ref (X.1 0)] : List Value).toArray below meth c H locs 0 0 (MQ below (va_Qi post (gB D (RW X)) (AX 18 X.1 s.heap.size)) ([.ref (X.1 0)] : List Value).toArray s 0 0 (AX 18 X.1 s.heap.size)) (F0 m 0 ls []) from by rw [hH, hlc] at hgo; exact hgo
  unfold p_X7_clear at h
  refine lv_aload_n hx hb dX7_clear_0 rfl (lv_at hl 0 rfl) ?_
  refine lv_iconst (v := 0) hx hb dX7_clear_1 (by decide) ?_
  refine va_put (D := D) (ci := 7) (v := .int 0) (ty := .int) (C := RX7) (T := TX7) (N := 28) hx hb hT inX7 tyX7 tyX7_ok nmX7 hown hK hP (gw_D hX) hS 0 rw_Model rfl 0 (by decide) (hT _ wf_X7_68) (fun _ h9 => h9) rfl (by decide +kernel) rfl rfl (Nat.le_of_ble_eq_true rfl) dX7_clear_2 (fun H locs hP _ hS => ?_)
  have hP := rw_st (j := 0) (x := 0) rfl hP
  obtain ⟨S_1, eS_1⟩ : ∃ z : CS, z = sti S 0 0 0 := ⟨_, rfl⟩
  rw [← eS_1] at hP
  have h := h S_1 eS_1
  refine lv_aload_n hx hb dX7_clear_5 rfl (lv_at hl 0 rfl) ?_
  refine va_get (D := D) (ci := 7) (v := .int (S_1.1 0 3)) (C := RX7) (T := TX7) (N := 28) hx hb hT inX7 hown hK hP 0 rw_Model rfl 3 (by decide) (hT _ wf_X7_76) (fun _ h9 => h9) rfl dX7_clear_6 ?_
  refine lv_topi (fun x1_2 ex1_2 => ?_)
  have h := h x1_2 ex1_2
  refine lv_istore_n (lv' := [(1, .int x1_2), (0, .ref (X.1 0))]) hx hb dX7_clear_9 rfl hl (by decide) rfl (fun ls hl => ?_)
  refine lv_aload_n hx hb dX7_clear_10 rfl (lv_at hl 1 rfl) ?_
  refine lv_iconst (v := 0) hx hb dX7_clear_11 (by decide) ?_
  refine va_put (D := D) (ci := 7) (v := .int 0) (ty := .int) (C := RX7) (T := TX7) (N := 28) hx hb hT inX7 tyX7 tyX7_ok nmX7 hown hK hP (gw_D hX) hS 0 rw_Model rfl 3 (by decide) (hT _ wf_X7_76) (fun _ h9 => h9) rfl (by decide +kernel) rfl rfl (Nat.le_of_ble_eq_true rfl) dX7_clear_12 (fun H locs hP _ hS => ?_)
  have hP := rw_st (j := 3) (x := 0) rfl hP
  obtain ⟨S_3, eS_3⟩ : ∃ z : CS, z = sti S_1 0 3 0 := ⟨_, rfl⟩
  rw [← eS_3] at hP
  have h := h S_3 eS_3
  refine lv_iload_n hx hb dX7_clear_15 rfl (lv_at hl 0 rfl) ?_
  exact W.iret (v := x1_2) hx hb hr (fun t ht hW => ⟨⟨x1_2, S_3, rfl, h, gB_of ht hP⟩, hS.F ht⟩) hS.2.2 dX7_clear_16

abbrev rm_X7_letterAt : Room := { frames := 0, cells := 0, slots := 0, locals := 0 }
def p_X7_letterAt (S : CS) (x1 : Int32) (post : Int32 → CS → Prop) : Prop := ((S.1 0 3) ≤ x1 → (post (-1) S)) ∧ (¬ ((S.1 0 3) ≤ x1) → (vp_in x1 200 ∧ (post (S.1 1 x1.toNatClampNeg) S)))
set_option maxHeartbeats 4000000 in
set_option maxRecDepth 100000 in
theorem c_X7_letterAt (l : Launch) (D : va_G) (X : XE) (hX : Inj 18 X.1) (sz : Nat) (S : CS) (x1 : Int32) (post : Int32 → CS → Prop) (h : p_X7_letterAt S x1 post) : Met l yX7_letterAt (Cond.code yX7_letterAt cX7_letterAt 2 (some .int) :: lw_gd) rm_X7_letterAt (gPc D (tyX X) (RW X) (FXr X) (AX 18 X.1 sz) sz S [.ref (X.1 0), .int x1]) (va_Qi post (gB D (RW X)) (AX 18 X.1 sz)) 0 0 (AX 18 X.1 sz) := by
  refine Met.ofW (cc := cX7_letterAt) (maxL := 2) (ret := (some .int)) (by decide) rfl ?_
  intro p e s m args below meth c s₁ B hml hv
  obtain ⟨rfl, hsz, hP, hK, hF⟩ := hv
  have hx := B.exec
  have hb := B.bytes
  have hr := B.returns
  have hts := atoms_spec (ws := (Cond.code yX7_letterAt cX7_letterAt 2 (some .int) :: lw_gd)) B.pre
  have hT : ∀ w ∈ lw_gd, w.before _ s = true := fun w h9 => hts w (List.mem_cons_of_mem _ h9)
  have hown : s.vm.findClass RX7 = some m.cls := findClass_of_methodNamed B.named
  have hlocks := B.notSynchronized
  subst hsz
  have hS : va_S (AX 18 X.1 s.heap.size) s.heap s.heap [] := va_S.rf
  have hl := lv_entry ([.ref (X.1 0), .int x1]) (n := 2) (Nat.le_of_ble_eq_true rfl)
  rw [lg_entry_eq]
  generalize (lg_sl ([.ref (X.1 0), .int x1]) ++ List.replicate (2 - (lg_sl ([.ref (X.1 0), .int x1])).length) Slot.unset).toArray = ls at hl ⊢
  have hl : lv_has ls 2 [(0, .ref (X.1 0)), (1, .int x1)] := hl
  obtain ⟨H, hH⟩ : ∃ H : Heap, H = s.heap := ⟨_, rfl⟩
  obtain ⟨locs, hlc⟩ : ∃ q : List Loc, q = [] := ⟨_, rfl⟩
  have hS : va_S (AX 18 X.1 s.heap.size) s.heap H locs := by rw [hH, hlc]; exact hS
  have hP : va_P D vwCl (RW X S) H := by rw [hH]; exact hP
  show W p l e (headSpec (Cond.code yX7_letterAt cX7_letterAt 2 (some .int) :: lw_gd) rm_X7_letterAt).room s m ([.ref (X.1 0), .int x1] : List Value).toArray below meth c s.heap [] 0 0 (MQ below (va_Qi post (gB D (RW X)) (AX 18 X.1 s.heap.size)) ([.ref (X.1 0), .int x1] : List Value).toArray s 0 0 (AX 18 X.1 s.heap.size)) _
  suffices hgo : W p l e (headSpec (Cond.code yX7_letterAt cX7_letterAt 2 (some .int) :: lw_gd) rm_X7_letterAt).room s m ([.ref (X.1 0), .int x1] : List Value).toArray below meth c H locs 0 0 (MQ below (va_Qi post (gB D (RW X)) (AX 18 X.1 s.heap.size)) ([.ref (X.1 0), .int x1] : List Value).toArray s 0 0 (AX 18 X.1 s.heap.size)) (F0 m 0 ls []) from by rw [hH, hlc] at hgo; exact hgo
  unfold p_X7_letterAt at h
  refine lv_iload_n hx hb dX7_letterAt_0 rfl (lv_at hl 1 rfl) ?_
  refine lv_aload_n hx hb dX7_letterAt_1 rfl (lv_at hl 0 rfl) ?_
  refine va_get (D := D) (ci := 7) (v := .int (S.1 0 3)) (C := RX7) (T := TX7) (N := 28) hx hb hT inX7 hown hK hP 0 rw_Model rfl 3 (by decide) (hT _ wf_X7_76) (fun _ h9 => h9) rfl dX7_letterAt_2 ?_
  refine lv_icmp_ge (tgt := 17) hx hb dX7_letterAt_5 (by decide) (fun c_1 => ?_) (fun c_1 => ?_)
  · have h := h.1 c_1
    refine lv_iconst (v := (-1)) hx hb dX7_letterAt_17 (by decide) ?_
    exact W.iret (v := (-1)) hx hb hr (fun t ht hW => ⟨⟨(-1), S, rfl, h, gB_of ht hP⟩, hS.F ht⟩) hS.2.2 dX7_letterAt_18
  · have h := h.2 c_1
    refine lv_aload_n hx hb dX7_letterAt_8 rfl (lv_at hl 0 rfl) ?_
    refine va_get (D := D) (ci := 7) (v := .ref (X.1 1)) (C := RX7) (T := TX7) (N := 28) hx hb hT inX7 hown hK hP 0 rw_Model rfl 2 (by decide) (hT _ wf_X7_7) (fun _ h9 => h9) rfl dX7_letterAt_9 ?_
    refine lv_iload_n hx hb dX7_letterAt_12 rfl (lv_at hl 1 rfl) ?_
    obtain ⟨hi, h⟩ := h
    refine g_iald hx hb hK hP 1 rw_1 rfl hi x1.toNatClampNeg rfl dX7_letterAt_13 ?_
    refine lv_goto (tgt := 18) hx hb dX7_letterAt_14 (by decide) ?_
    exact W.iret (v := S.1 1 x1.toNatClampNeg) hx hb hr (fun t ht hW => ⟨⟨S.1 1 x1.toNatClampNeg, S, rfl, h, gB_of ht hP⟩, hS.F ht⟩) hS.2.2 dX7_letterAt_18

abbrev rm_X7_isLetter : Room := { frames := 0, cells := 0, slots := 0, locals := 0 }
def p_X7_isLetter (S : CS) (x0 : Int32) (post : Int32 → CS → Prop) : Prop := (x0 = 119 → (post 1 S)) ∧ (¬ (x0 = 119) → ((x0 = 111 → (post 1 S)) ∧ (¬ (x0 = 111) → ((x0 = 114 → (post 1 S)) ∧ (¬ (x0 = 114) → ((x0 = 116 → (post 1 S)) ∧ (¬ (x0 = 116) → ((x0 = 112 → (post 1 S)) ∧ (¬ (x0 = 112) → ((x0 = 108 → (post 1 S)) ∧ (¬ (x0 = 108) → (post 0 S))))))))))))
set_option maxHeartbeats 4000000 in
set_option maxRecDepth 100000 in
theorem c_X7_isLetter (l : Launch) (D : va_G) (X : XE) (hX : Inj 18 X.1) (sz : Nat) (S : CS) (x0 : Int32) (post : Int32 → CS → Prop) (h : p_X7_isLetter S x0 post) : Met l yX7_isLetter (Cond.code yX7_isLetter cX7_isLetter 1 (some .boolean) :: lw_gd) rm_X7_isLetter (gPc D (tyX X) (RW X) (FXr X) (AX 18 X.1 sz) sz S [.int x0]) (va_Qi post (gB D (RW X)) (AX 18 X.1 sz)) 0 0 (AX 18 X.1 sz) := by
  refine Met.ofW (cc := cX7_isLetter) (maxL := 1) (ret := (some .boolean)) (by decide) rfl ?_
  intro p e s m args below meth c s₁ B hml hv
  obtain ⟨rfl, hsz, hP, hK, hF⟩ := hv
  have hx := B.exec
  have hb := B.bytes
  have hr := B.returns
  have hts := atoms_spec (ws := (Cond.code yX7_isLetter cX7_isLetter 1 (some .boolean) :: lw_gd)) B.pre
  have hT : ∀ w ∈ lw_gd, w.before _ s = true := fun w h9 => hts w (List.mem_cons_of_mem _ h9)
  have hown : s.vm.findClass RX7 = some m.cls := findClass_of_methodNamed B.named
  have hlocks := B.notSynchronized
  subst hsz
  have hS : va_S (AX 18 X.1 s.heap.size) s.heap s.heap [] := va_S.rf
  have hl := lv_entry ([.int x0]) (n := 1) (Nat.le_of_ble_eq_true rfl)
  rw [lg_entry_eq]
  generalize (lg_sl ([.int x0]) ++ List.replicate (1 - (lg_sl ([.int x0])).length) Slot.unset).toArray = ls at hl ⊢
  have hl : lv_has ls 1 [(0, .int x0)] := hl
  obtain ⟨H, hH⟩ : ∃ H : Heap, H = s.heap := ⟨_, rfl⟩
  obtain ⟨locs, hlc⟩ : ∃ q : List Loc, q = [] := ⟨_, rfl⟩
  have hS : va_S (AX 18 X.1 s.heap.size) s.heap H locs := by rw [hH, hlc]; exact hS
  have hP : va_P D vwCl (RW X S) H := by rw [hH]; exact hP
  show W p l e (headSpec (Cond.code yX7_isLetter cX7_isLetter 1 (some .boolean) :: lw_gd) rm_X7_isLetter).room s m ([.int x0] : List Value).toArray below meth c s.heap [] 0 0 (MQ below (va_Qi post (gB D (RW X)) (AX 18 X.1 s.heap.size)) ([.int x0] : List Value).toArray s 0 0 (AX 18 X.1 s.heap.size)) _
  suffices hgo : W p l e (headSpec (Cond.code yX7_isLetter cX7_isLetter 1 (some .boolean) :: lw_gd) rm_X7_isLetter).room s m ([.int x0] : List Value).toArray below meth c H locs 0 0 (MQ below (va_Qi post (gB D (RW X)) (AX 18 X.1 s.heap.size)) ([.int x0] : List Value).toArray s 0 0 (AX 18 X.1 s.heap.size)) (F0 m 0 ls []) from by rw [hH, hlc] at hgo; exact hgo
  unfold p_X7_isLetter at h
  refine lv_iload_n hx hb dX7_isLetter_0 rfl (lv_at hl 0 rfl) ?_
  refine lv_bipush (v := 119) hx hb dX7_isLetter_1 (by decide) ?_
  refine lv_icmp_eq (tgt := 36) hx hb dX7_isLetter_3 (by decide) (fun c_1 => ?_) (fun c_1 => ?_)
  · have h := h.1 c_1
    refine lv_iconst (v := 1) hx hb dX7_isLetter_36 (by decide) ?_
    refine lv_goto (tgt := 41) hx hb dX7_isLetter_37 (by decide) ?_
    exact W.zret (v := 1) hx hb hr rfl (fun t ht hW => ⟨⟨1, S, rfl, h, gB_of ht hP⟩, hS.F ht⟩) hS.2.2 dX7_isLetter_41
  · have h := h.2 c_1
    refine lv_iload_n hx hb dX7_isLetter_6 rfl (lv_at hl 0 rfl) ?_
    refine lv_bipush (v := 111) hx hb dX7_isLetter_7 (by decide) ?_
    refine lv_icmp_eq (tgt := 36) hx hb dX7_isLetter_9 (by decide) (fun c_2 => ?_) (fun c_2 => ?_)
    · have h := h.1 c_2
      refine lv_iconst (v := 1) hx hb dX7_isLetter_36 (by decide) ?_
      refine lv_goto (tgt := 41) hx hb dX7_isLetter_37 (by decide) ?_
      exact W.zret (v := 1) hx hb hr rfl (fun t ht hW => ⟨⟨1, S, rfl, h, gB_of ht hP⟩, hS.F ht⟩) hS.2.2 dX7_isLetter_41
    · have h := h.2 c_2
      refine lv_iload_n hx hb dX7_isLetter_12 rfl (lv_at hl 0 rfl) ?_
      refine lv_bipush (v := 114) hx hb dX7_isLetter_13 (by decide) ?_
      refine lv_icmp_eq (tgt := 36) hx hb dX7_isLetter_15 (by decide) (fun c_3 => ?_) (fun c_3 => ?_)
      · have h := h.1 c_3
        refine lv_iconst (v := 1) hx hb dX7_isLetter_36 (by decide) ?_
        refine lv_goto (tgt := 41) hx hb dX7_isLetter_37 (by decide) ?_
        exact W.zret (v := 1) hx hb hr rfl (fun t ht hW => ⟨⟨1, S, rfl, h, gB_of ht hP⟩, hS.F ht⟩) hS.2.2 dX7_isLetter_41
      · have h := h.2 c_3
        refine lv_iload_n hx hb dX7_isLetter_18 rfl (lv_at hl 0 rfl) ?_
        refine lv_bipush (v := 116) hx hb dX7_isLetter_19 (by decide) ?_
        refine lv_icmp_eq (tgt := 36) hx hb dX7_isLetter_21 (by decide) (fun c_4 => ?_) (fun c_4 => ?_)
        · have h := h.1 c_4
          refine lv_iconst (v := 1) hx hb dX7_isLetter_36 (by decide) ?_
          refine lv_goto (tgt := 41) hx hb dX7_isLetter_37 (by decide) ?_
          exact W.zret (v := 1) hx hb hr rfl (fun t ht hW => ⟨⟨1, S, rfl, h, gB_of ht hP⟩, hS.F ht⟩) hS.2.2 dX7_isLetter_41
        · have h := h.2 c_4
          refine lv_iload_n hx hb dX7_isLetter_24 rfl (lv_at hl 0 rfl) ?_
          refine lv_bipush (v := 112) hx hb dX7_isLetter_25 (by decide) ?_
          refine lv_icmp_eq (tgt := 36) hx hb dX7_isLetter_27 (by decide) (fun c_5 => ?_) (fun c_5 => ?_)
          · have h := h.1 c_5
            refine lv_iconst (v := 1) hx hb dX7_isLetter_36 (by decide) ?_
            refine lv_goto (tgt := 41) hx hb dX7_isLetter_37 (by decide) ?_
            exact W.zret (v := 1) hx hb hr rfl (fun t ht hW => ⟨⟨1, S, rfl, h, gB_of ht hP⟩, hS.F ht⟩) hS.2.2 dX7_isLetter_41
          · have h := h.2 c_5
            refine lv_iload_n hx hb dX7_isLetter_30 rfl (lv_at hl 0 rfl) ?_
            refine lv_bipush (v := 108) hx hb dX7_isLetter_31 (by decide) ?_
            refine lv_icmp_ne (tgt := 40) hx hb dX7_isLetter_33 (by decide) (fun c_6 => ?_) (fun c_6 => ?_)
            · have h := h.2 c_6
              refine lv_iconst (v := 0) hx hb dX7_isLetter_40 (by decide) ?_
              exact W.zret (v := 0) hx hb hr rfl (fun t ht hW => ⟨⟨0, S, rfl, h, gB_of ht hP⟩, hS.F ht⟩) hS.2.2 dX7_isLetter_41
            · have h := h.1 c_6
              refine lv_iconst (v := 1) hx hb dX7_isLetter_36 (by decide) ?_
              refine lv_goto (tgt := 41) hx hb dX7_isLetter_37 (by decide) ?_
              exact W.zret (v := 1) hx hb hr rfl (fun t ht hW => ⟨⟨1, S, rfl, h, gB_of ht hP⟩, hS.F ht⟩) hS.2.2 dX7_isLetter_41

abbrev rm_X7_advances : Room := { frames := 1, cells := 0, slots := 0, locals := 22 }
def q_X7_advances_125  (K71 : Int32 → CS → Prop) (post : CS → Prop) (y1 : Int32) (z0 : Int32) (S : CS) : Prop := ∀ S_38 : CS, S_38 = sti S 0 7 z0 → (∀ u_39 : Int32, u_39 = ((S_38.1 0 4) + 1) → (∀ S_40 : CS, S_40 = sti S_38 0 4 u_39 → (K71 y1 S_40)))
def q_X7_advances_71  (post : CS → Prop) : Nat → Int32 → CS → Prop
  | 0, _, _ => False
  | n9 + 1, y1, S => p_X7_letterAt S (S.1 0 4) (fun r_24 S_23 => (p_X7_in S_23 r_24 48 57 (fun r_26 S_25 => ((r_26 = 0 → ((99 < (S_25.1 0 7) → (∀ S_29 : CS, S_29 = sti S_25 0 5 4 → (post S_29))) ∧ (¬ (99 < (S_25.1 0 7)) → ((y1 = 48 → ((((S_25.1 0 4) - (S_25.1 0 6)) ≤ 1 → (∀ S_33 : CS, S_33 = sti S_25 0 5 2 → (post S_33))) ∧ (¬ (((S_25.1 0 4) - (S_25.1 0 6)) ≤ 1) → (∀ S_34 : CS, S_34 = sti S_25 0 5 4 → (post S_34))))) ∧ (¬ (y1 = 48) → (∀ S_31 : CS, S_31 = sti S_25 0 5 2 → (post S_31))))))) ∧ (¬ (r_26 = 0) → (((S_25.1 0 7) ≤ 99 → (p_X7_letterAt S_25 (S_25.1 0 4) (fun r_37 S_36 => (q_X7_advances_125 (fun y1' S9 => q_X7_advances_71 post n9 y1' S9) post y1 (((10 * (S_25.1 0 7)) + r_37) - 48) S_36)))) ∧ (¬ ((S_25.1 0 7) ≤ 99) → (q_X7_advances_125 (fun y1' S9 => q_X7_advances_71 post n9 y1' S9) post y1 (S_25.1 0 7) S_25))))))))
def q_X7_advances_0  (post : CS → Prop) : Nat → CS → Prop
  | 0, _ => False
  | n9 + 1, S => p_X7_letterAt S (S.1 0 4) (fun r_45 S_44 => ((r_45 = 32 → (∀ u_67 : Int32, u_67 = ((S_44.1 0 4) + 1) → (∀ S_68 : CS, S_68 = sti S_44 0 4 u_67 → (q_X7_advances_0 post n9  S_68)))) ∧ (¬ (r_45 = 32) → (∀ u_47 : Int32, u_47 = S_44.1 0 4 → (∀ S_48 : CS, S_48 = sti S_44 0 6 u_47 → (p_X7_letterAt S_48 (S_48.1 0 4) (fun r_50 S_49 => ((0 ≤ r_50 → (p_X7_in S_49 r_50 48 57 (fun r_53 S_52 => ((r_53 = 0 → (∀ u_55 : Int32, u_55 = ((S_52.1 0 4) + 1) → (∀ S_56 : CS, S_56 = sti S_52 0 4 u_55 → (∀ S_57 : CS, S_57 = sti S_56 0 7 r_50 → ((r_50 = 59 → (∀ S_64 : CS, S_64 = sti S_57 0 5 3 → (post S_64))) ∧ (¬ (r_50 = 59) → (p_X7_isLetter S_57 r_50 (fun r_60 S_59 => ((r_60 = 0 → (∀ S_62 : CS, S_62 = sti S_59 0 5 4 → (post S_62))) ∧ (¬ (r_60 = 0) → (∀ S_63 : CS, S_63 = sti S_59 0 5 1 → (post S_63)))))))))))) ∧ (¬ (r_53 = 0) → (∀ S_65 : CS, S_65 = sti S_52 0 7 0 → (∃ n, q_X7_advances_71 post n r_50 S_65))))))) ∧ (¬ (0 ≤ r_50) → (∀ S_66 : CS, S_66 = sti S_49 0 5 0 → (post S_66)))))))))))
def p_X7_advances (S : CS)  (post : CS → Prop) : Prop := p_X7_letterAt S (S.1 0 4) (fun r_2 S_1 => ((r_2 = 32 → (∀ u_42 : Int32, u_42 = ((S_1.1 0 4) + 1) → (∀ S_43 : CS, S_43 = sti S_1 0 4 u_42 → (∃ n, q_X7_advances_0 post n  S_43)))) ∧ (¬ (r_2 = 32) → (∀ u_4 : Int32, u_4 = S_1.1 0 4 → (∀ S_5 : CS, S_5 = sti S_1 0 6 u_4 → (p_X7_letterAt S_5 (S_5.1 0 4) (fun r_7 S_6 => ((0 ≤ r_7 → (p_X7_in S_6 r_7 48 57 (fun r_10 S_9 => ((r_10 = 0 → (∀ u_12 : Int32, u_12 = ((S_9.1 0 4) + 1) → (∀ S_13 : CS, S_13 = sti S_9 0 4 u_12 → (∀ S_14 : CS, S_14 = sti S_13 0 7 r_7 → ((r_7 = 59 → (∀ S_21 : CS, S_21 = sti S_14 0 5 3 → (post S_21))) ∧ (¬ (r_7 = 59) → (p_X7_isLetter S_14 r_7 (fun r_17 S_16 => ((r_17 = 0 → (∀ S_19 : CS, S_19 = sti S_16 0 5 4 → (post S_19))) ∧ (¬ (r_17 = 0) → (∀ S_20 : CS, S_20 = sti S_16 0 5 1 → (post S_20)))))))))))) ∧ (¬ (r_10 = 0) → (∀ S_22 : CS, S_22 = sti S_9 0 7 0 → (∃ n, q_X7_advances_71 post n r_7 S_22))))))) ∧ (¬ (0 ≤ r_7) → (∀ S_41 : CS, S_41 = sti S_6 0 5 0 → (post S_41)))))))))))
set_option maxHeartbeats 4000000 in
set_option maxRecDepth 100000 in
theorem c_X7_advances (l : Launch) (D : va_G) (X : XE) (hX : Inj 18 X.1) (sz : Nat) (S : CS)  (post : CS → Prop) (h : p_X7_advances S  post) : Met l yX7_advances (Cond.code yX7_advances cX7_advances 2 none :: lw_gd) rm_X7_advances (gPc D (tyX X) (RW X) (FXr X) (AX 18 X.1 sz) sz S [.ref (X.1 0)]) (va_Qv post (gB D (RW X)) (AX 18 X.1 sz)) 0 0 (AX 18 X.1 sz) := by
  refine Met.ofW (cc := cX7_advances) (maxL := 2) (ret := none) (by decide) rfl ?_
  intro p e s m args below meth c s₁ B hml hv
  obtain ⟨rfl, hsz, hP, hK, hF⟩ := hv
  have hx := B.exec
  have hb := B.bytes
  have hr := B.returns
  have hts := atoms_spec (ws := (Cond.code yX7_advances cX7_advances 2 none :: lw_gd)) B.pre
  have hT : ∀ w ∈ lw_gd, w.before _ s = true := fun w h9 => hts w (List.mem_cons_of_mem _ h9)
  have hown : s.vm.findClass RX7 = some m.cls := findClass_of_methodNamed B.named
  have hlocks := B.notSynchronized
  subst hsz
  have hS : va_S (AX 18 X.1 s.heap.size) s.heap s.heap [] := va_S.rf
  have W125 : ∀ (K71 : Int32 → CS → Prop), (∀ (y1 : Int32) (S : CS) (H : Heap) (locs : List Loc) (ls : Array Slot), va_P D vwCl (RW X S) H → va_S (AX 18 X.1 s.heap.size) s.heap H locs → lv_has ls 2 [(0, .ref (X.1 0)), (1, .int y1)] → K71 y1 S → W p l e (headSpec (Cond.code yX7_advances cX7_advances 2 none :: lw_gd) rm_X7_advances).room s m ([.ref (X.1 0)] : List Value).toArray below meth c H locs 0 0 (MQ below (va_Qv post (gB D (RW X)) (AX 18 X.1 s.heap.size)) ([.ref (X.1 0)] : List Value).toArray s 0 0 (AX 18 X.1 s.heap.size)) (F0 m 71 ls [])) → ∀ (y1 : Int32) (z0 : Int32) (S : CS) (H : Heap) (locs : List Loc) (ls : Array Slot), va_P D vwCl (RW X S) H → va_S (AX 18 X.1 s.heap.size) s.heap H locs → lv_has ls 2 [(0, .ref (X.1 0)), (1, .int y1)] → q_X7_advances_125 K71 post y1 z0 S → W p l e (headSpec (Cond.code yX7_advances cX7_advances 2 none :: lw_gd) rm_X7_advances).room s m ([.ref (X.1 0)] : List Value).toArray below meth c H locs 0 0 (MQ below (va_Qv post (gB D (RW X)) (AX 18 X.1 s.heap.size)) ([.ref (X.1 0)] : List Value).toArray s 0 0 (AX 18 X.1 s.heap.size)) (F0 m 125 ls [.int z0, .ref (X.1 0)]) := by
    intro K71 hK71 y1 z0 S H locs ls hP hS hl h
    unfold q_X7_advances_125 at h
    refine va_put (D := D) (ci := 7) (v := .int z0) (ty := .int) (C := RX7) (T := TX7) (N := 28) hx hb hT inX7 tyX7 tyX7_ok nmX7 hown hK hP (gw_D hX) hS 0 rw_Model rfl 7 (by decide) (hT _ wf_X7_92) (fun _ h9 => h9) rfl (by decide +kernel) rfl rfl (Nat.le_of_ble_eq_true rfl) dX7_advances_125 (fun H locs hP _ hS => ?_)
    have hP := rw_st (j := 7) (x := z0) rfl hP
    obtain ⟨S_38, eS_38⟩ : ∃ z : CS, z = sti S 0 7 z0 := ⟨_, rfl⟩
    rw [← eS_38] at hP
    have h := h S_38 eS_38
    refine lv_aload_n hx hb dX7_advances_128 rfl (lv_at hl 0 rfl) ?_
    refine lv_dup hx hb dX7_advances_129 rfl ?_
    refine va_get (D := D) (ci := 7) (v := .int (S_38.1 0 4)) (C := RX7) (T := TX7) (N := 28) hx hb hT inX7 hown hK hP 0 rw_Model rfl 4 (by decide) (hT _ wf_X7_79) (fun _ h9 => h9) rfl dX7_advances_130 ?_
    refine lv_iconst (v := 1) hx hb dX7_advances_133 (by decide) ?_
    refine lv_iadd hx hb dX7_advances_134 ?_
    refine lv_topi (fun u_39 eu_39 => ?_)
    have h := h u_39 eu_39
    refine va_put (D := D) (ci := 7) (v := .int u_39) (ty := .int) (C := RX7) (T := TX7) (N := 28) hx hb hT inX7 tyX7 tyX7_ok nmX7 hown hK hP (gw_D hX) hS 0 rw_Model rfl 4 (by decide) (hT _ wf_X7_79) (fun _ h9 => h9) rfl (by decide +kernel) rfl rfl (Nat.le_of_ble_eq_true rfl) dX7_advances_135 (fun H locs hP _ hS => ?_)
    have hP := rw_st (j := 4) (x := u_39) rfl hP
    obtain ⟨S_40, eS_40⟩ : ∃ z : CS, z = sti S_38 0 4 u_39 := ⟨_, rfl⟩
    rw [← eS_40] at hP
    have h := h S_40 eS_40
    refine lv_goto (tgt := 71) hx hb dX7_advances_138 (by decide) ?_
    exact hK71 y1 S_40 H locs ls hP hS hl h
  have W71 : ∀ n1 : Nat, ∀ (y1 : Int32) (S : CS) (H : Heap) (locs : List Loc) (ls : Array Slot), va_P D vwCl (RW X S) H → va_S (AX 18 X.1 s.heap.size) s.heap H locs → lv_has ls 2 [(0, .ref (X.1 0)), (1, .int y1)] → q_X7_advances_71 post n1 y1 S → W p l e (headSpec (Cond.code yX7_advances cX7_advances 2 none :: lw_gd) rm_X7_advances).room s m ([.ref (X.1 0)] : List Value).toArray below meth c H locs 0 0 (MQ below (va_Qv post (gB D (RW X)) (AX 18 X.1 s.heap.size)) ([.ref (X.1 0)] : List Value).toArray s 0 0 (AX 18 X.1 s.heap.size)) (F0 m 71 ls []) := by
    intro n1
    induction n1 with
    | zero => intro y1 S H locs ls hP hS hl h; exact h.elim
    | succ n9 ih =>
      intro y1 S H locs ls hP hS hl h
      rw [q_X7_advances_71] at h
      refine lv_aload_n hx hb dX7_advances_71 rfl (lv_at hl 0 rfl) ?_
      refine lv_aload_n hx hb dX7_advances_72 rfl (lv_at hl 0 rfl) ?_
      refine va_get (D := D) (ci := 7) (v := .int (S.1 0 4)) (C := RX7) (T := TX7) (N := 28) hx hb hT inX7 hown hK hP 0 rw_Model rfl 4 (by decide) (hT _ wf_X7_79) (fun _ h9 => h9) rfl dX7_advances_73 ?_
      refine rVi (As := [.int (S.1 0 4)]) (rest := []) hX ⟨hx, hb, hml, hown, hT⟩ (c_X7_letterAt l D X hX H.size S (S.1 0 4) _ h) (gd_V wl_X7_82 wi_X7_letterAt wv_X7_letterAt wn_X7 wc_X7_letterAt) rfl hd_X7_letterAt ⟨rfl, rfl⟩ ⟨Nat.le_of_ble_eq_true rfl, Nat.le_of_ble_eq_true rfl⟩ (va_recv hK hP (ci := 7) (q0 := 0) rfl rw_Model) hK hP hS hF rfl hl.1 rfl (Nat.le_of_ble_eq_true rfl) dX7_advances_76 ⟨Nat.zero_le _, Nat.zero_le _⟩ (fun r_24 S_23 H locs h hP hS => ?_)
      refine lv_bipush (v := 48) hx hb dX7_advances_79 (by decide) ?_
      refine lv_bipush (v := 57) hx hb dX7_advances_81 (by decide) ?_
      refine rSi (As := [.int r_24, .int 48, .int 57]) (rest := []) hX ⟨hx, hb, hml, hown, hT⟩ (c_X7_in l D X hX H.size S_23 r_24 48 57 _ h) (gd_S wl_X7_72 wt_X7_in wn_X7 wc_X7_in) hd_X7_in ⟨rfl, rfl⟩ ⟨Nat.le_of_ble_eq_true rfl, Nat.le_of_ble_eq_true rfl⟩ hK hP hS hF rfl hl.1 rfl (Nat.le_of_ble_eq_true rfl) dX7_advances_83 ⟨Nat.zero_le _, Nat.zero_le _⟩ (fun r_26 S_25 H locs h hP hS => ?_)
      refine lv_if_eq (tgt := 141) hx hb dX7_advances_86 (by decide) (fun c_27 => ?_) (fun c_27 => ?_)
      · have h := h.1 c_27
        refine lv_aload_n hx hb dX7_advances_141 rfl (lv_at hl 0 rfl) ?_
        refine lv_aload_n hx hb dX7_advances_142 rfl (lv_at hl 0 rfl) ?_
        refine va_get (D := D) (ci := 7) (v := .int (S_25.1 0 7)) (C := RX7) (T := TX7) (N := 28) hx hb hT inX7 hown hK hP 0 rw_Model rfl 7 (by decide) (hT _ wf_X7_92) (fun _ h9 => h9) rfl dX7_advances_143 ?_
        refine lv_bipush (v := 99) hx hb dX7_advances_146 (by decide) ?_
        refine lv_icmp_gt (tgt := 170) hx hb dX7_advances_148 (by decide) (fun c_28 => ?_) (fun c_28 => ?_)
        · have h := h.1 c_28
          refine lv_iconst (v := 4) hx hb dX7_advances_170 (by decide) ?_
          refine lv_goto (tgt := 175) hx hb dX7_advances_171 (by decide) ?_
          refine va_put (D := D) (ci := 7) (v := .int 4) (ty := .int) (C := RX7) (T := TX7) (N := 28) hx hb hT inX7 tyX7 tyX7_ok nmX7 hown hK hP (gw_D hX) hS 0 rw_Model rfl 5 (by decide) (hT _ wf_X7_89) (fun _ h9 => h9) rfl (by decide +kernel) rfl rfl (Nat.le_of_ble_eq_true rfl) dX7_advances_175 (fun H locs hP _ hS => ?_)
          have hP := rw_st (j := 5) (x := 4) rfl hP
          obtain ⟨S_29, eS_29⟩ : ∃ z : CS, z = sti S_25 0 5 4 := ⟨_, rfl⟩
          rw [← eS_29] at hP
          have h := h S_29 eS_29
          refine lv_goto (tgt := 222) hx hb dX7_advances_178 (by decide) ?_
          exact W.vret hx hb hr (fun t ht hW => ⟨⟨S_29, rfl, h, gB_of ht hP⟩, hS.F ht⟩) hS.2.2 dX7_advances_222
        · have h := h.2 c_28
          refine lv_iload_n hx hb dX7_advances_151 rfl (lv_at hl 1 rfl) ?_
          refine lv_bipush (v := 48) hx hb dX7_advances_152 (by decide) ?_
          refine lv_icmp_ne (tgt := 174) hx hb dX7_advances_154 (by decide) (fun c_30 => ?_) (fun c_30 => ?_)
          · have h := h.2 c_30
            refine lv_iconst (v := 2) hx hb dX7_advances_174 (by decide) ?_
            refine va_put (D := D) (ci := 7) (v := .int 2) (ty := .int) (C := RX7) (T := TX7) (N := 28) hx hb hT inX7 tyX7 tyX7_ok nmX7 hown hK hP (gw_D hX) hS 0 rw_Model rfl 5 (by decide) (hT _ wf_X7_89) (fun _ h9 => h9) rfl (by decide +kernel) rfl rfl (Nat.le_of_ble_eq_true rfl) dX7_advances_175 (fun H locs hP _ hS => ?_)
            have hP := rw_st (j := 5) (x := 2) rfl hP
            obtain ⟨S_31, eS_31⟩ : ∃ z : CS, z = sti S_25 0 5 2 := ⟨_, rfl⟩
            rw [← eS_31] at hP
            have h := h S_31 eS_31
            refine lv_goto (tgt := 222) hx hb dX7_advances_178 (by decide) ?_
            exact W.vret hx hb hr (fun t ht hW => ⟨⟨S_31, rfl, h, gB_of ht hP⟩, hS.F ht⟩) hS.2.2 dX7_advances_222
          · have h := h.1 c_30
            refine lv_aload_n hx hb dX7_advances_157 rfl (lv_at hl 0 rfl) ?_
            refine va_get (D := D) (ci := 7) (v := .int (S_25.1 0 4)) (C := RX7) (T := TX7) (N := 28) hx hb hT inX7 hown hK hP 0 rw_Model rfl 4 (by decide) (hT _ wf_X7_79) (fun _ h9 => h9) rfl dX7_advances_158 ?_
            refine lv_aload_n hx hb dX7_advances_161 rfl (lv_at hl 0 rfl) ?_
            refine va_get (D := D) (ci := 7) (v := .int (S_25.1 0 6)) (C := RX7) (T := TX7) (N := 28) hx hb hT inX7 hown hK hP 0 rw_Model rfl 6 (by decide) (hT _ wf_X7_86) (fun _ h9 => h9) rfl dX7_advances_162 ?_
            refine lv_isub hx hb dX7_advances_165 ?_
            refine lv_iconst (v := 1) hx hb dX7_advances_166 (by decide) ?_
            refine lv_icmp_le (tgt := 174) hx hb dX7_advances_167 (by decide) (fun c_32 => ?_) (fun c_32 => ?_)
            · have h := h.1 c_32
              refine lv_iconst (v := 2) hx hb dX7_advances_174 (by decide) ?_
              refine va_put (D := D) (ci := 7) (v := .int 2) (ty := .int) (C := RX7) (T := TX7) (N := 28) hx hb hT inX7 tyX7 tyX7_ok nmX7 hown hK hP (gw_D hX) hS 0 rw_Model rfl 5 (by decide) (hT _ wf_X7_89) (fun _ h9 => h9) rfl (by decide +kernel) rfl rfl (Nat.le_of_ble_eq_true rfl) dX7_advances_175 (fun H locs hP _ hS => ?_)
              have hP := rw_st (j := 5) (x := 2) rfl hP
              obtain ⟨S_33, eS_33⟩ : ∃ z : CS, z = sti S_25 0 5 2 := ⟨_, rfl⟩
              rw [← eS_33] at hP
              have h := h S_33 eS_33
              refine lv_goto (tgt := 222) hx hb dX7_advances_178 (by decide) ?_
              exact W.vret hx hb hr (fun t ht hW => ⟨⟨S_33, rfl, h, gB_of ht hP⟩, hS.F ht⟩) hS.2.2 dX7_advances_222
            · have h := h.2 c_32
              refine lv_iconst (v := 4) hx hb dX7_advances_170 (by decide) ?_
              refine lv_goto (tgt := 175) hx hb dX7_advances_171 (by decide) ?_
              refine va_put (D := D) (ci := 7) (v := .int 4) (ty := .int) (C := RX7) (T := TX7) (N := 28) hx hb hT inX7 tyX7 tyX7_ok nmX7 hown hK hP (gw_D hX) hS 0 rw_Model rfl 5 (by decide) (hT _ wf_X7_89) (fun _ h9 => h9) rfl (by decide +kernel) rfl rfl (Nat.le_of_ble_eq_true rfl) dX7_advances_175 (fun H locs hP _ hS => ?_)
              have hP := rw_st (j := 5) (x := 4) rfl hP
              obtain ⟨S_34, eS_34⟩ : ∃ z : CS, z = sti S_25 0 5 4 := ⟨_, rfl⟩
              rw [← eS_34] at hP
              have h := h S_34 eS_34
              refine lv_goto (tgt := 222) hx hb dX7_advances_178 (by decide) ?_
              exact W.vret hx hb hr (fun t ht hW => ⟨⟨S_34, rfl, h, gB_of ht hP⟩, hS.F ht⟩) hS.2.2 dX7_advances_222
      · have h := h.2 c_27
        refine lv_aload_n hx hb dX7_advances_89 rfl (lv_at hl 0 rfl) ?_
        refine lv_aload_n hx hb dX7_advances_90 rfl (lv_at hl 0 rfl) ?_
        refine va_get (D := D) (ci := 7) (v := .int (S_25.1 0 7)) (C := RX7) (T := TX7) (N := 28) hx hb hT inX7 hown hK hP 0 rw_Model rfl 7 (by decide) (hT _ wf_X7_92) (fun _ h9 => h9) rfl dX7_advances_91 ?_
        refine lv_bipush (v := 99) hx hb dX7_advances_94 (by decide) ?_
        refine lv_icmp_le (tgt := 106) hx hb dX7_advances_96 (by decide) (fun c_35 => ?_) (fun c_35 => ?_)
        · have h := h.1 c_35
          refine lv_bipush (v := 10) hx hb dX7_advances_106 (by decide) ?_
          refine lv_aload_n hx hb dX7_advances_108 rfl (lv_at hl 0 rfl) ?_
          refine va_get (D := D) (ci := 7) (v := .int (S_25.1 0 7)) (C := RX7) (T := TX7) (N := 28) hx hb hT inX7 hown hK hP 0 rw_Model rfl 7 (by decide) (hT _ wf_X7_92) (fun _ h9 => h9) rfl dX7_advances_109 ?_
          refine lv_imul hx hb dX7_advances_112 ?_
          refine lv_aload_n hx hb dX7_advances_113 rfl (lv_at hl 0 rfl) ?_
          refine lv_aload_n hx hb dX7_advances_114 rfl (lv_at hl 0 rfl) ?_
          refine va_get (D := D) (ci := 7) (v := .int (S_25.1 0 4)) (C := RX7) (T := TX7) (N := 28) hx hb hT inX7 hown hK hP 0 rw_Model rfl 4 (by decide) (hT _ wf_X7_79) (fun _ h9 => h9) rfl dX7_advances_115 ?_
          refine rVi (As := [.int (S_25.1 0 4)]) (rest := [.int (10 * (S_25.1 0 7)), .ref (X.1 0)]) hX ⟨hx, hb, hml, hown, hT⟩ (c_X7_letterAt l D X hX H.size S_25 (S_25.1 0 4) _ h) (gd_V wl_X7_82 wi_X7_letterAt wv_X7_letterAt wn_X7 wc_X7_letterAt) rfl hd_X7_letterAt ⟨rfl, rfl⟩ ⟨Nat.le_of_ble_eq_true rfl, Nat.le_of_ble_eq_true rfl⟩ (va_recv hK hP (ci := 7) (q0 := 0) rfl rw_Model) hK hP hS hF rfl hl.1 rfl (Nat.le_of_ble_eq_true rfl) dX7_advances_118 ⟨Nat.zero_le _, Nat.zero_le _⟩ (fun r_37 S_36 H locs h hP hS => ?_)
          refine lv_iadd hx hb dX7_advances_121 ?_
          refine lv_bipush (v := 48) hx hb dX7_advances_122 (by decide) ?_
          refine lv_isub hx hb dX7_advances_124 ?_
          exact W125 (fun y1' S9 => q_X7_advances_71 post n9 y1' S9) ih y1 (((10 * (S_25.1 0 7)) + r_37) - 48) S_36 H locs ls hP hS hl h
        · have h := h.2 c_35
          refine lv_aload_n hx hb dX7_advances_99 rfl (lv_at hl 0 rfl) ?_
          refine va_get (D := D) (ci := 7) (v := .int (S_25.1 0 7)) (C := RX7) (T := TX7) (N := 28) hx hb hT inX7 hown hK hP 0 rw_Model rfl 7 (by decide) (hT _ wf_X7_92) (fun _ h9 => h9) rfl dX7_advances_100 ?_
          refine lv_goto (tgt := 125) hx hb dX7_advances_103 (by decide) ?_
          exact W125 (fun y1' S9 => q_X7_advances_71 post n9 y1' S9) ih y1 (S_25.1 0 7) S_25 H locs ls hP hS hl h
  have W0 : ∀ n1 : Nat, ∀ (S : CS) (H : Heap) (locs : List Loc) (ls : Array Slot), va_P D vwCl (RW X S) H → va_S (AX 18 X.1 s.heap.size) s.heap H locs → lv_has ls 2 [(0, .ref (X.1 0))] → q_X7_advances_0 post n1  S → W p l e (headSpec (Cond.code yX7_advances cX7_advances 2 none :: lw_gd) rm_X7_advances).room s m ([.ref (X.1 0)] : List Value).toArray below meth c H locs 0 0 (MQ below (va_Qv post (gB D (RW X)) (AX 18 X.1 s.heap.size)) ([.ref (X.1 0)] : List Value).toArray s 0 0 (AX 18 X.1 s.heap.size)) (F0 m 0 ls []) := by
    intro n1
    induction n1 with
    | zero => intro S H locs ls hP hS hl h; exact h.elim
    | succ n9 ih =>
      intro S H locs ls hP hS hl h
      rw [q_X7_advances_0] at h
      refine lv_aload_n hx hb dX7_advances_0 rfl (lv_at hl 0 rfl) ?_
      refine lv_aload_n hx hb dX7_advances_1 rfl (lv_at hl 0 rfl) ?_
      refine va_get (D := D) (ci := 7) (v := .int (S.1 0 4)) (C := RX7) (T := TX7) (N := 28) hx hb hT inX7 hown hK hP 0 rw_Model rfl 4 (by decide) (hT _ wf_X7_79) (fun _ h9 => h9) rfl dX7_advances_2 ?_
      refine rVi (As := [.int (S.1 0 4)]) (rest := []) hX ⟨hx, hb, hml, hown, hT⟩ (c_X7_letterAt l D X hX H.size S (S.1 0 4) _ h) (gd_V wl_X7_82 wi_X7_letterAt wv_X7_letterAt wn_X7 wc_X7_letterAt) rfl hd_X7_letterAt ⟨rfl, rfl⟩ ⟨Nat.le_of_ble_eq_true rfl, Nat.le_of_ble_eq_true rfl⟩ (va_recv hK hP (ci := 7) (q0 := 0) rfl rw_Model) hK hP hS hF rfl hl.1 rfl (Nat.le_of_ble_eq_true rfl) dX7_advances_5 ⟨Nat.zero_le _, Nat.zero_le _⟩ (fun r_45 S_44 H locs h hP hS => ?_)
      refine lv_bipush (v := 32) hx hb dX7_advances_8 (by decide) ?_
      refine lv_icmp_ne (tgt := 26) hx hb dX7_advances_10 (by decide) (fun c_46 => ?_) (fun c_46 => ?_)
      · have h := h.2 c_46
        refine lv_aload_n hx hb dX7_advances_26 rfl (lv_at hl 0 rfl) ?_
        refine lv_aload_n hx hb dX7_advances_27 rfl (lv_at hl 0 rfl) ?_
        refine va_get (D := D) (ci := 7) (v := .int (S_44.1 0 4)) (C := RX7) (T := TX7) (N := 28) hx hb hT inX7 hown hK hP 0 rw_Model rfl 4 (by decide) (hT _ wf_X7_79) (fun _ h9 => h9) rfl dX7_advances_28 ?_
        refine lv_topi (fun u_47 eu_47 => ?_)
        have h := h u_47 eu_47
        refine va_put (D := D) (ci := 7) (v := .int u_47) (ty := .int) (C := RX7) (T := TX7) (N := 28) hx hb hT inX7 tyX7 tyX7_ok nmX7 hown hK hP (gw_D hX) hS 0 rw_Model rfl 6 (by decide) (hT _ wf_X7_86) (fun _ h9 => h9) rfl (by decide +kernel) rfl rfl (Nat.le_of_ble_eq_true rfl) dX7_advances_31 (fun H locs hP _ hS => ?_)
        have hP := rw_st (j := 6) (x := u_47) rfl hP
        obtain ⟨S_48, eS_48⟩ : ∃ z : CS, z = sti S_44 0 6 u_47 := ⟨_, rfl⟩
        rw [← eS_48] at hP
        have h := h S_48 eS_48
        refine lv_aload_n hx hb dX7_advances_34 rfl (lv_at hl 0 rfl) ?_
        refine lv_aload_n hx hb dX7_advances_35 rfl (lv_at hl 0 rfl) ?_
        refine va_get (D := D) (ci := 7) (v := .int (S_48.1 0 4)) (C := RX7) (T := TX7) (N := 28) hx hb hT inX7 hown hK hP 0 rw_Model rfl 4 (by decide) (hT _ wf_X7_79) (fun _ h9 => h9) rfl dX7_advances_36 ?_
        refine rVi (As := [.int (S_48.1 0 4)]) (rest := []) hX ⟨hx, hb, hml, hown, hT⟩ (c_X7_letterAt l D X hX H.size S_48 (S_48.1 0 4) _ h) (gd_V wl_X7_82 wi_X7_letterAt wv_X7_letterAt wn_X7 wc_X7_letterAt) rfl hd_X7_letterAt ⟨rfl, rfl⟩ ⟨Nat.le_of_ble_eq_true rfl, Nat.le_of_ble_eq_true rfl⟩ (va_recv hK hP (ci := 7) (q0 := 0) rfl rw_Model) hK hP hS hF rfl hl.1 rfl (Nat.le_of_ble_eq_true rfl) dX7_advances_39 ⟨Nat.zero_le _, Nat.zero_le _⟩ (fun r_50 S_49 H locs h hP hS => ?_)
        refine lv_istore_n (lv' := [(1, .int r_50), (0, .ref (X.1 0))]) hx hb dX7_advances_42 rfl hl (by decide) rfl (fun ls hl => ?_)
        refine lv_iload_n hx hb dX7_advances_43 rfl (lv_at hl 0 rfl) ?_
        refine lv_if_ge (tgt := 55) hx hb dX7_advances_44 (by decide) (fun c_51 => ?_) (fun c_51 => ?_)
        · have h := h.1 c_51
          refine lv_iload_n hx hb dX7_advances_55 rfl (lv_at hl 0 rfl) ?_
          refine lv_bipush (v := 48) hx hb dX7_advances_56 (by decide) ?_
          refine lv_bipush (v := 57) hx hb dX7_advances_58 (by decide) ?_
          refine rSi (As := [.int r_50, .int 48, .int 57]) (rest := []) hX ⟨hx, hb, hml, hown, hT⟩ (c_X7_in l D X hX H.size S_49 r_50 48 57 _ h) (gd_S wl_X7_72 wt_X7_in wn_X7 wc_X7_in) hd_X7_in ⟨rfl, rfl⟩ ⟨Nat.le_of_ble_eq_true rfl, Nat.le_of_ble_eq_true rfl⟩ hK hP hS hF rfl hl.1 rfl (Nat.le_of_ble_eq_true rfl) dX7_advances_60 ⟨Nat.zero_le _, Nat.zero_le _⟩ (fun r_53 S_52 H locs h hP hS => ?_)
          refine lv_if_eq (tgt := 181) hx hb dX7_advances_63 (by decide) (fun c_54 => ?_) (fun c_54 => ?_)
          · have h := h.1 c_54
            refine lv_aload_n hx hb dX7_advances_181 rfl (lv_at hl 1 rfl) ?_
            refine lv_dup hx hb dX7_advances_182 rfl ?_
            refine va_get (D := D) (ci := 7) (v := .int (S_52.1 0 4)) (C := RX7) (T := TX7) (N := 28) hx hb hT inX7 hown hK hP 0 rw_Model rfl 4 (by decide) (hT _ wf_X7_79) (fun _ h9 => h9) rfl dX7_advances_183 ?_
            refine lv_iconst (v := 1) hx hb dX7_advances_186 (by decide) ?_
            refine lv_iadd hx hb dX7_advances_187 ?_
            refine lv_topi (fun u_55 eu_55 => ?_)
            have h := h u_55 eu_55
            refine va_put (D := D) (ci := 7) (v := .int u_55) (ty := .int) (C := RX7) (T := TX7) (N := 28) hx hb hT inX7 tyX7 tyX7_ok nmX7 hown hK hP (gw_D hX) hS 0 rw_Model rfl 4 (by decide) (hT _ wf_X7_79) (fun _ h9 => h9) rfl (by decide +kernel) rfl rfl (Nat.le_of_ble_eq_true rfl) dX7_advances_188 (fun H locs hP _ hS => ?_)
            have hP := rw_st (j := 4) (x := u_55) rfl hP
            obtain ⟨S_56, eS_56⟩ : ∃ z : CS, z = sti S_52 0 4 u_55 := ⟨_, rfl⟩
            rw [← eS_56] at hP
            have h := h S_56 eS_56
            refine lv_aload_n hx hb dX7_advances_191 rfl (lv_at hl 1 rfl) ?_
            refine lv_iload_n hx hb dX7_advances_192 rfl (lv_at hl 0 rfl) ?_
            refine va_put (D := D) (ci := 7) (v := .int r_50) (ty := .int) (C := RX7) (T := TX7) (N := 28) hx hb hT inX7 tyX7 tyX7_ok nmX7 hown hK hP (gw_D hX) hS 0 rw_Model rfl 7 (by decide) (hT _ wf_X7_92) (fun _ h9 => h9) rfl (by decide +kernel) rfl rfl (Nat.le_of_ble_eq_true rfl) dX7_advances_193 (fun H locs hP _ hS => ?_)
            have hP := rw_st (j := 7) (x := r_50) rfl hP
            obtain ⟨S_57, eS_57⟩ : ∃ z : CS, z = sti S_56 0 7 r_50 := ⟨_, rfl⟩
            rw [← eS_57] at hP
            have h := h S_57 eS_57
            refine lv_aload_n hx hb dX7_advances_196 rfl (lv_at hl 1 rfl) ?_
            refine lv_iload_n hx hb dX7_advances_197 rfl (lv_at hl 0 rfl) ?_
            refine lv_bipush (v := 59) hx hb dX7_advances_198 (by decide) ?_
            refine lv_icmp_ne (tgt := 207) hx hb dX7_advances_200 (by decide) (fun c_58 => ?_) (fun c_58 => ?_)
            · have h := h.2 c_58
              refine lv_iload_n hx hb dX7_advances_207 rfl (lv_at hl 0 rfl) ?_
              refine rSi (As := [.int r_50]) (rest := [.ref (X.1 0)]) hX ⟨hx, hb, hml, hown, hT⟩ (c_X7_isLetter l D X hX H.size S_57 r_50 _ h) (gd_S wl_X7_95 wt_X7_isLetter wn_X7 wc_X7_isLetter) hd_X7_isLetter ⟨rfl, rfl⟩ ⟨Nat.le_of_ble_eq_true rfl, Nat.le_of_ble_eq_true rfl⟩ hK hP hS hF rfl hl.1 rfl (Nat.le_of_ble_eq_true rfl) dX7_advances_208 ⟨Nat.zero_le _, Nat.zero_le _⟩ (fun r_60 S_59 H locs h hP hS => ?_)
              refine lv_if_eq (tgt := 218) hx hb dX7_advances_211 (by decide) (fun c_61 => ?_) (fun c_61 => ?_)
              · have h := h.1 c_61
                refine lv_iconst (v := 4) hx hb dX7_advances_218 (by decide) ?_
                refine va_put (D := D) (ci := 7) (v := .int 4) (ty := .int) (C := RX7) (T := TX7) (N := 28) hx hb hT inX7 tyX7 tyX7_ok nmX7 hown hK hP (gw_D hX) hS 0 rw_Model rfl 5 (by decide) (hT _ wf_X7_89) (fun _ h9 => h9) rfl (by decide +kernel) rfl rfl (Nat.le_of_ble_eq_true rfl) dX7_advances_219 (fun H locs hP _ hS => ?_)
                have hP := rw_st (j := 5) (x := 4) rfl hP
                obtain ⟨S_62, eS_62⟩ : ∃ z : CS, z = sti S_59 0 5 4 := ⟨_, rfl⟩
                rw [← eS_62] at hP
                have h := h S_62 eS_62
                exact W.vret hx hb hr (fun t ht hW => ⟨⟨S_62, rfl, h, gB_of ht hP⟩, hS.F ht⟩) hS.2.2 dX7_advances_222
              · have h := h.2 c_61
                refine lv_iconst (v := 1) hx hb dX7_advances_214 (by decide) ?_
                refine lv_goto (tgt := 219) hx hb dX7_advances_215 (by decide) ?_
                refine va_put (D := D) (ci := 7) (v := .int 1) (ty := .int) (C := RX7) (T := TX7) (N := 28) hx hb hT inX7 tyX7 tyX7_ok nmX7 hown hK hP (gw_D hX) hS 0 rw_Model rfl 5 (by decide) (hT _ wf_X7_89) (fun _ h9 => h9) rfl (by decide +kernel) rfl rfl (Nat.le_of_ble_eq_true rfl) dX7_advances_219 (fun H locs hP _ hS => ?_)
                have hP := rw_st (j := 5) (x := 1) rfl hP
                obtain ⟨S_63, eS_63⟩ : ∃ z : CS, z = sti S_59 0 5 1 := ⟨_, rfl⟩
                rw [← eS_63] at hP
                have h := h S_63 eS_63
                exact W.vret hx hb hr (fun t ht hW => ⟨⟨S_63, rfl, h, gB_of ht hP⟩, hS.F ht⟩) hS.2.2 dX7_advances_222
            · have h := h.1 c_58
              refine lv_iconst (v := 3) hx hb dX7_advances_203 (by decide) ?_
              refine lv_goto (tgt := 219) hx hb dX7_advances_204 (by decide) ?_
              refine va_put (D := D) (ci := 7) (v := .int 3) (ty := .int) (C := RX7) (T := TX7) (N := 28) hx hb hT inX7 tyX7 tyX7_ok nmX7 hown hK hP (gw_D hX) hS 0 rw_Model rfl 5 (by decide) (hT _ wf_X7_89) (fun _ h9 => h9) rfl (by decide +kernel) rfl rfl (Nat.le_of_ble_eq_true rfl) dX7_advances_219 (fun H locs hP _ hS => ?_)
              have hP := rw_st (j := 5) (x := 3) rfl hP
              obtain ⟨S_64, eS_64⟩ : ∃ z : CS, z = sti S_57 0 5 3 := ⟨_, rfl⟩
              rw [← eS_64] at hP
              have h := h S_64 eS_64
              exact W.vret hx hb hr (fun t ht hW => ⟨⟨S_64, rfl, h, gB_of ht hP⟩, hS.F ht⟩) hS.2.2 dX7_advances_222
          · have h := h.2 c_54
            refine lv_aload_n hx hb dX7_advances_66 rfl (lv_at hl 1 rfl) ?_
            refine lv_iconst (v := 0) hx hb dX7_advances_67 (by decide) ?_
            refine va_put (D := D) (ci := 7) (v := .int 0) (ty := .int) (C := RX7) (T := TX7) (N := 28) hx hb hT inX7 tyX7 tyX7_ok nmX7 hown hK hP (gw_D hX) hS 0 rw_Model rfl 7 (by decide) (hT _ wf_X7_92) (fun _ h9 => h9) rfl (by decide +kernel) rfl rfl (Nat.le_of_ble_eq_true rfl) dX7_advances_68 (fun H locs hP _ hS => ?_)
            have hP := rw_st (j := 7) (x := 0) rfl hP
            obtain ⟨S_65, eS_65⟩ : ∃ z : CS, z = sti S_52 0 7 0 := ⟨_, rfl⟩
            rw [← eS_65] at hP
            have h := h S_65 eS_65
            obtain ⟨n1, h⟩ := h
            exact W71  n1 r_50 S_65 H locs ls hP hS (lv_sub hl [1, 0] rfl) h
        · have h := h.2 c_51
          refine lv_aload_n hx hb dX7_advances_47 rfl (lv_at hl 1 rfl) ?_
          refine lv_iconst (v := 0) hx hb dX7_advances_48 (by decide) ?_
          refine va_put (D := D) (ci := 7) (v := .int 0) (ty := .int) (C := RX7) (T := TX7) (N := 28) hx hb hT inX7 tyX7 tyX7_ok nmX7 hown hK hP (gw_D hX) hS 0 rw_Model rfl 5 (by decide) (hT _ wf_X7_89) (fun _ h9 => h9) rfl (by decide +kernel) rfl rfl (Nat.le_of_ble_eq_true rfl) dX7_advances_49 (fun H locs hP _ hS => ?_)
          have hP := rw_st (j := 5) (x := 0) rfl hP
          obtain ⟨S_66, eS_66⟩ : ∃ z : CS, z = sti S_49 0 5 0 := ⟨_, rfl⟩
          rw [← eS_66] at hP
          have h := h S_66 eS_66
          refine lv_goto (tgt := 222) hx hb dX7_advances_52 (by decide) ?_
          exact W.vret hx hb hr (fun t ht hW => ⟨⟨S_66, rfl, h, gB_of ht hP⟩, hS.F ht⟩) hS.2.2 dX7_advances_222
      · have h := h.1 c_46
        refine lv_aload_n hx hb dX7_advances_13 rfl (lv_at hl 0 rfl) ?_
        refine lv_dup hx hb dX7_advances_14 rfl ?_
        refine va_get (D := D) (ci := 7) (v := .int (S_44.1 0 4)) (C := RX7) (T := TX7) (N := 28) hx hb hT inX7 hown hK hP 0 rw_Model rfl 4 (by decide) (hT _ wf_X7_79) (fun _ h9 => h9) rfl dX7_advances_15 ?_
        refine lv_iconst (v := 1) hx hb dX7_advances_18 (by decide) ?_
        refine lv_iadd hx hb dX7_advances_19 ?_
        refine lv_topi (fun u_67 eu_67 => ?_)
        have h := h u_67 eu_67
        refine va_put (D := D) (ci := 7) (v := .int u_67) (ty := .int) (C := RX7) (T := TX7) (N := 28) hx hb hT inX7 tyX7 tyX7_ok nmX7 hown hK hP (gw_D hX) hS 0 rw_Model rfl 4 (by decide) (hT _ wf_X7_79) (fun _ h9 => h9) rfl (by decide +kernel) rfl rfl (Nat.le_of_ble_eq_true rfl) dX7_advances_20 (fun H locs hP _ hS => ?_)
        have hP := rw_st (j := 4) (x := u_67) rfl hP
        obtain ⟨S_68, eS_68⟩ : ∃ z : CS, z = sti S_44 0 4 u_67 := ⟨_, rfl⟩
        rw [← eS_68] at hP
        have h := h S_68 eS_68
        refine lv_goto (tgt := 0) hx hb dX7_advances_23 (by decide) ?_
        exact ih  S_68 H locs ls hP hS hl h
  have hl := lv_entry ([.ref (X.1 0)]) (n := 2) (Nat.le_of_ble_eq_true rfl)
  rw [lg_entry_eq]
  generalize (lg_sl ([.ref (X.1 0)]) ++ List.replicate (2 - (lg_sl ([.ref (X.1 0)])).length) Slot.unset).toArray = ls at hl ⊢
  have hl : lv_has ls 2 [(0, .ref (X.1 0))] := hl
  obtain ⟨H, hH⟩ : ∃ H : Heap, H = s.heap := ⟨_, rfl⟩
  obtain ⟨locs, hlc⟩ : ∃ q : List Loc, q = [] := ⟨_, rfl⟩
  have hS : va_S (AX 18 X.1 s.heap.size) s.heap H locs := by rw [hH, hlc]; exact hS
  have hP : va_P D vwCl (RW X S) H := by rw [hH]; exact hP
  show W p l e (headSpec (Cond.code yX7_advances cX7_advances 2 none :: lw_gd) rm_X7_advances).room s m ([.ref (X.1 0)] : List Value).toArray below meth c s.heap [] 0 0 (MQ below (va_Qv post (gB D (RW X)) (AX 18 X.1 s.heap.size)) ([.ref (X.1 0)] : List Value).toArray s 0 0 (AX 18 X.1 s.heap.size)) _
  suffices hgo : W p l e (headSpec (Cond.code yX7_advances cX7_advances 2 none :: lw_gd) rm_X7_advances).room s m ([.ref (X.1 0)] : List Value).toArray below meth c H locs 0 0 (MQ below (va_Qv post (gB D (RW X)) (AX 18 X.1 s.heap.size)) ([.ref (X.1 0)] : List Value).toArray s 0 0 (AX 18 X.1 s.heap.size)) (F0 m 0 ls []) from by rw [hH, hlc] at hgo; exact hgo
  unfold p_X7_advances at h
  refine lv_aload_n hx hb dX7_advances_0 rfl (lv_at hl 0 rfl) ?_
  refine lv_aload_n hx hb dX7_advances_1 rfl (lv_at hl 0 rfl) ?_
  refine va_get (D := D) (ci := 7) (v := .int (S.1 0 4)) (C := RX7) (T := TX7) (N := 28) hx hb hT inX7 hown hK hP 0 rw_Model rfl 4 (by decide) (hT _ wf_X7_79) (fun _ h9 => h9) rfl dX7_advances_2 ?_
  refine rVi (As := [.int (S.1 0 4)]) (rest := []) hX ⟨hx, hb, hml, hown, hT⟩ (c_X7_letterAt l D X hX H.size S (S.1 0 4) _ h) (gd_V wl_X7_82 wi_X7_letterAt wv_X7_letterAt wn_X7 wc_X7_letterAt) rfl hd_X7_letterAt ⟨rfl, rfl⟩ ⟨Nat.le_of_ble_eq_true rfl, Nat.le_of_ble_eq_true rfl⟩ (va_recv hK hP (ci := 7) (q0 := 0) rfl rw_Model) hK hP hS hF rfl hl.1 rfl (Nat.le_of_ble_eq_true rfl) dX7_advances_5 ⟨Nat.zero_le _, Nat.zero_le _⟩ (fun r_2 S_1 H locs h hP hS => ?_)
  refine lv_bipush (v := 32) hx hb dX7_advances_8 (by decide) ?_
  refine lv_icmp_ne (tgt := 26) hx hb dX7_advances_10 (by decide) (fun c_3 => ?_) (fun c_3 => ?_)
  · have h := h.2 c_3
    refine lv_aload_n hx hb dX7_advances_26 rfl (lv_at hl 0 rfl) ?_
    refine lv_aload_n hx hb dX7_advances_27 rfl (lv_at hl 0 rfl) ?_
    refine va_get (D := D) (ci := 7) (v := .int (S_1.1 0 4)) (C := RX7) (T := TX7) (N := 28) hx hb hT inX7 hown hK hP 0 rw_Model rfl 4 (by decide) (hT _ wf_X7_79) (fun _ h9 => h9) rfl dX7_advances_28 ?_
    refine lv_topi (fun u_4 eu_4 => ?_)
    have h := h u_4 eu_4
    refine va_put (D := D) (ci := 7) (v := .int u_4) (ty := .int) (C := RX7) (T := TX7) (N := 28) hx hb hT inX7 tyX7 tyX7_ok nmX7 hown hK hP (gw_D hX) hS 0 rw_Model rfl 6 (by decide) (hT _ wf_X7_86) (fun _ h9 => h9) rfl (by decide +kernel) rfl rfl (Nat.le_of_ble_eq_true rfl) dX7_advances_31 (fun H locs hP _ hS => ?_)
    have hP := rw_st (j := 6) (x := u_4) rfl hP
    obtain ⟨S_5, eS_5⟩ : ∃ z : CS, z = sti S_1 0 6 u_4 := ⟨_, rfl⟩
    rw [← eS_5] at hP
    have h := h S_5 eS_5
    refine lv_aload_n hx hb dX7_advances_34 rfl (lv_at hl 0 rfl) ?_
    refine lv_aload_n hx hb dX7_advances_35 rfl (lv_at hl 0 rfl) ?_
    refine va_get (D := D) (ci := 7) (v := .int (S_5.1 0 4)) (C := RX7) (T := TX7) (N := 28) hx hb hT inX7 hown hK hP 0 rw_Model rfl 4 (by decide) (hT _ wf_X7_79) (fun _ h9 => h9) rfl dX7_advances_36 ?_
    refine rVi (As := [.int (S_5.1 0 4)]) (rest := []) hX ⟨hx, hb, hml, hown, hT⟩ (c_X7_letterAt l D X hX H.size S_5 (S_5.1 0 4) _ h) (gd_V wl_X7_82 wi_X7_letterAt wv_X7_letterAt wn_X7 wc_X7_letterAt) rfl hd_X7_letterAt ⟨rfl, rfl⟩ ⟨Nat.le_of_ble_eq_true rfl, Nat.le_of_ble_eq_true rfl⟩ (va_recv hK hP (ci := 7) (q0 := 0) rfl rw_Model) hK hP hS hF rfl hl.1 rfl (Nat.le_of_ble_eq_true rfl) dX7_advances_39 ⟨Nat.zero_le _, Nat.zero_le _⟩ (fun r_7 S_6 H locs h hP hS => ?_)
    refine lv_istore_n (lv' := [(1, .int r_7), (0, .ref (X.1 0))]) hx hb dX7_advances_42 rfl hl (by decide) rfl (fun ls hl => ?_)
    refine lv_iload_n hx hb dX7_advances_43 rfl (lv_at hl 0 rfl) ?_
    refine lv_if_ge (tgt := 55) hx hb dX7_advances_44 (by decide) (fun c_8 => ?_) (fun c_8 => ?_)
    · have h := h.1 c_8
      refine lv_iload_n hx hb dX7_advances_55 rfl (lv_at hl 0 rfl) ?_
      refine lv_bipush (v := 48) hx hb dX7_advances_56 (by decide) ?_
      refine lv_bipush (v := 57) hx hb dX7_advances_58 (by decide) ?_
      refine rSi (As := [.int r_7, .int 48, .int 57]) (rest := []) hX ⟨hx, hb, hml, hown, hT⟩ (c_X7_in l D X hX H.size S_6 r_7 48 57 _ h) (gd_S wl_X7_72 wt_X7_in wn_X7 wc_X7_in) hd_X7_in ⟨rfl, rfl⟩ ⟨Nat.le_of_ble_eq_true rfl, Nat.le_of_ble_eq_true rfl⟩ hK hP hS hF rfl hl.1 rfl (Nat.le_of_ble_eq_true rfl) dX7_advances_60 ⟨Nat.zero_le _, Nat.zero_le _⟩ (fun r_10 S_9 H locs h hP hS => ?_)
      refine lv_if_eq (tgt := 181) hx hb dX7_advances_63 (by decide) (fun c_11 => ?_) (fun c_11 => ?_)
      · have h := h.1 c_11
        refine lv_aload_n hx hb dX7_advances_181 rfl (lv_at hl 1 rfl) ?_
        refine lv_dup hx hb dX7_advances_182 rfl ?_
        refine va_get (D := D) (ci := 7) (v := .int (S_9.1 0 4)) (C := RX7) (T := TX7) (N := 28) hx hb hT inX7 hown hK hP 0 rw_Model rfl 4 (by decide) (hT _ wf_X7_79) (fun _ h9 => h9) rfl dX7_advances_183 ?_
        refine lv_iconst (v := 1) hx hb dX7_advances_186 (by decide) ?_
        refine lv_iadd hx hb dX7_advances_187 ?_
        refine lv_topi (fun u_12 eu_12 => ?_)
        have h := h u_12 eu_12
        refine va_put (D := D) (ci := 7) (v := .int u_12) (ty := .int) (C := RX7) (T := TX7) (N := 28) hx hb hT inX7 tyX7 tyX7_ok nmX7 hown hK hP (gw_D hX) hS 0 rw_Model rfl 4 (by decide) (hT _ wf_X7_79) (fun _ h9 => h9) rfl (by decide +kernel) rfl rfl (Nat.le_of_ble_eq_true rfl) dX7_advances_188 (fun H locs hP _ hS => ?_)
        have hP := rw_st (j := 4) (x := u_12) rfl hP
        obtain ⟨S_13, eS_13⟩ : ∃ z : CS, z = sti S_9 0 4 u_12 := ⟨_, rfl⟩
        rw [← eS_13] at hP
        have h := h S_13 eS_13
        refine lv_aload_n hx hb dX7_advances_191 rfl (lv_at hl 1 rfl) ?_
        refine lv_iload_n hx hb dX7_advances_192 rfl (lv_at hl 0 rfl) ?_
        refine va_put (D := D) (ci := 7) (v := .int r_7) (ty := .int) (C := RX7) (T := TX7) (N := 28) hx hb hT inX7 tyX7 tyX7_ok nmX7 hown hK hP (gw_D hX) hS 0 rw_Model rfl 7 (by decide) (hT _ wf_X7_92) (fun _ h9 => h9) rfl (by decide +kernel) rfl rfl (Nat.le_of_ble_eq_true rfl) dX7_advances_193 (fun H locs hP _ hS => ?_)
        have hP := rw_st (j := 7) (x := r_7) rfl hP
        obtain ⟨S_14, eS_14⟩ : ∃ z : CS, z = sti S_13 0 7 r_7 := ⟨_, rfl⟩
        rw [← eS_14] at hP
        have h := h S_14 eS_14
        refine lv_aload_n hx hb dX7_advances_196 rfl (lv_at hl 1 rfl) ?_
        refine lv_iload_n hx hb dX7_advances_197 rfl (lv_at hl 0 rfl) ?_
        refine lv_bipush (v := 59) hx hb dX7_advances_198 (by decide) ?_
        refine lv_icmp_ne (tgt := 207) hx hb dX7_advances_200 (by decide) (fun c_15 => ?_) (fun c_15 => ?_)
        · have h := h.2 c_15
          refine lv_iload_n hx hb dX7_advances_207 rfl (lv_at hl 0 rfl) ?_
          refine rSi (As := [.int r_7]) (rest := [.ref (X.1 0)]) hX ⟨hx, hb, hml, hown, hT⟩ (c_X7_isLetter l D X hX H.size S_14 r_7 _ h) (gd_S wl_X7_95 wt_X7_isLetter wn_X7 wc_X7_isLetter) hd_X7_isLetter ⟨rfl, rfl⟩ ⟨Nat.le_of_ble_eq_true rfl, Nat.le_of_ble_eq_true rfl⟩ hK hP hS hF rfl hl.1 rfl (Nat.le_of_ble_eq_true rfl) dX7_advances_208 ⟨Nat.zero_le _, Nat.zero_le _⟩ (fun r_17 S_16 H locs h hP hS => ?_)
          refine lv_if_eq (tgt := 218) hx hb dX7_advances_211 (by decide) (fun c_18 => ?_) (fun c_18 => ?_)
          · have h := h.1 c_18
            refine lv_iconst (v := 4) hx hb dX7_advances_218 (by decide) ?_
            refine va_put (D := D) (ci := 7) (v := .int 4) (ty := .int) (C := RX7) (T := TX7) (N := 28) hx hb hT inX7 tyX7 tyX7_ok nmX7 hown hK hP (gw_D hX) hS 0 rw_Model rfl 5 (by decide) (hT _ wf_X7_89) (fun _ h9 => h9) rfl (by decide +kernel) rfl rfl (Nat.le_of_ble_eq_true rfl) dX7_advances_219 (fun H locs hP _ hS => ?_)
            have hP := rw_st (j := 5) (x := 4) rfl hP
            obtain ⟨S_19, eS_19⟩ : ∃ z : CS, z = sti S_16 0 5 4 := ⟨_, rfl⟩
            rw [← eS_19] at hP
            have h := h S_19 eS_19
            exact W.vret hx hb hr (fun t ht hW => ⟨⟨S_19, rfl, h, gB_of ht hP⟩, hS.F ht⟩) hS.2.2 dX7_advances_222
          · have h := h.2 c_18
            refine lv_iconst (v := 1) hx hb dX7_advances_214 (by decide) ?_
            refine lv_goto (tgt := 219) hx hb dX7_advances_215 (by decide) ?_
            refine va_put (D := D) (ci := 7) (v := .int 1) (ty := .int) (C := RX7) (T := TX7) (N := 28) hx hb hT inX7 tyX7 tyX7_ok nmX7 hown hK hP (gw_D hX) hS 0 rw_Model rfl 5 (by decide) (hT _ wf_X7_89) (fun _ h9 => h9) rfl (by decide +kernel) rfl rfl (Nat.le_of_ble_eq_true rfl) dX7_advances_219 (fun H locs hP _ hS => ?_)
            have hP := rw_st (j := 5) (x := 1) rfl hP
            obtain ⟨S_20, eS_20⟩ : ∃ z : CS, z = sti S_16 0 5 1 := ⟨_, rfl⟩
            rw [← eS_20] at hP
            have h := h S_20 eS_20
            exact W.vret hx hb hr (fun t ht hW => ⟨⟨S_20, rfl, h, gB_of ht hP⟩, hS.F ht⟩) hS.2.2 dX7_advances_222
        · have h := h.1 c_15
          refine lv_iconst (v := 3) hx hb dX7_advances_203 (by decide) ?_
          refine lv_goto (tgt := 219) hx hb dX7_advances_204 (by decide) ?_
          refine va_put (D := D) (ci := 7) (v := .int 3) (ty := .int) (C := RX7) (T := TX7) (N := 28) hx hb hT inX7 tyX7 tyX7_ok nmX7 hown hK hP (gw_D hX) hS 0 rw_Model rfl 5 (by decide) (hT _ wf_X7_89) (fun _ h9 => h9) rfl (by decide +kernel) rfl rfl (Nat.le_of_ble_eq_true rfl) dX7_advances_219 (fun H locs hP _ hS => ?_)
          have hP := rw_st (j := 5) (x := 3) rfl hP
          obtain ⟨S_21, eS_21⟩ : ∃ z : CS, z = sti S_14 0 5 3 := ⟨_, rfl⟩
          rw [← eS_21] at hP
          have h := h S_21 eS_21
          exact W.vret hx hb hr (fun t ht hW => ⟨⟨S_21, rfl, h, gB_of ht hP⟩, hS.F ht⟩) hS.2.2 dX7_advances_222
      · have h := h.2 c_11
        refine lv_aload_n hx hb dX7_advances_66 rfl (lv_at hl 1 rfl) ?_
        refine lv_iconst (v := 0) hx hb dX7_advances_67 (by decide) ?_
        refine va_put (D := D) (ci := 7) (v := .int 0) (ty := .int) (C := RX7) (T := TX7) (N := 28) hx hb hT inX7 tyX7 tyX7_ok nmX7 hown hK hP (gw_D hX) hS 0 rw_Model rfl 7 (by decide) (hT _ wf_X7_92) (fun _ h9 => h9) rfl (by decide +kernel) rfl rfl (Nat.le_of_ble_eq_true rfl) dX7_advances_68 (fun H locs hP _ hS => ?_)
        have hP := rw_st (j := 7) (x := 0) rfl hP
        obtain ⟨S_22, eS_22⟩ : ∃ z : CS, z = sti S_9 0 7 0 := ⟨_, rfl⟩
        rw [← eS_22] at hP
        have h := h S_22 eS_22
        obtain ⟨n1, h⟩ := h
        exact W71  n1 r_7 S_22 H locs ls hP hS (lv_sub hl [1, 0] rfl) h
    · have h := h.2 c_8
      refine lv_aload_n hx hb dX7_advances_47 rfl (lv_at hl 1 rfl) ?_
      refine lv_iconst (v := 0) hx hb dX7_advances_48 (by decide) ?_
      refine va_put (D := D) (ci := 7) (v := .int 0) (ty := .int) (C := RX7) (T := TX7) (N := 28) hx hb hT inX7 tyX7 tyX7_ok nmX7 hown hK hP (gw_D hX) hS 0 rw_Model rfl 5 (by decide) (hT _ wf_X7_89) (fun _ h9 => h9) rfl (by decide +kernel) rfl rfl (Nat.le_of_ble_eq_true rfl) dX7_advances_49 (fun H locs hP _ hS => ?_)
      have hP := rw_st (j := 5) (x := 0) rfl hP
      obtain ⟨S_41, eS_41⟩ : ∃ z : CS, z = sti S_6 0 5 0 := ⟨_, rfl⟩
      rw [← eS_41] at hP
      have h := h S_41 eS_41
      refine lv_goto (tgt := 222) hx hb dX7_advances_52 (by decide) ?_
      exact W.vret hx hb hr (fun t ht hW => ⟨⟨S_41, rfl, h, gB_of ht hP⟩, hS.F ht⟩) hS.2.2 dX7_advances_222
  · have h := h.1 c_3
    refine lv_aload_n hx hb dX7_advances_13 rfl (lv_at hl 0 rfl) ?_
    refine lv_dup hx hb dX7_advances_14 rfl ?_
    refine va_get (D := D) (ci := 7) (v := .int (S_1.1 0 4)) (C := RX7) (T := TX7) (N := 28) hx hb hT inX7 hown hK hP 0 rw_Model rfl 4 (by decide) (hT _ wf_X7_79) (fun _ h9 => h9) rfl dX7_advances_15 ?_
    refine lv_iconst (v := 1) hx hb dX7_advances_18 (by decide) ?_
    refine lv_iadd hx hb dX7_advances_19 ?_
    refine lv_topi (fun u_42 eu_42 => ?_)
    have h := h u_42 eu_42
    refine va_put (D := D) (ci := 7) (v := .int u_42) (ty := .int) (C := RX7) (T := TX7) (N := 28) hx hb hT inX7 tyX7 tyX7_ok nmX7 hown hK hP (gw_D hX) hS 0 rw_Model rfl 4 (by decide) (hT _ wf_X7_79) (fun _ h9 => h9) rfl (by decide +kernel) rfl rfl (Nat.le_of_ble_eq_true rfl) dX7_advances_20 (fun H locs hP _ hS => ?_)
    have hP := rw_st (j := 4) (x := u_42) rfl hP
    obtain ⟨S_43, eS_43⟩ : ∃ z : CS, z = sti S_1 0 4 u_42 := ⟨_, rfl⟩
    rw [← eS_43] at hP
    have h := h S_43 eS_43
    refine lv_goto (tgt := 0) hx hb dX7_advances_23 (by decide) ?_
    obtain ⟨n1, h⟩ := h
    exact W0  n1  S_43 H locs ls hP hS hl h

abbrev rm_X7_isWell : Room := { frames := 0, cells := 0, slots := 0, locals := 0 }
def p_X7_isWell (S : CS)  (post : Int32 → CS → Prop) : Prop := (0 ≤ (S.1 0 8) → (post 0 S)) ∧ (¬ (0 ≤ (S.1 0 8)) → (post 1 S))
set_option maxHeartbeats 4000000 in
set_option maxRecDepth 100000 in
theorem c_X7_isWell (l : Launch) (D : va_G) (X : XE) (hX : Inj 18 X.1) (sz : Nat) (S : CS)  (post : Int32 → CS → Prop) (h : p_X7_isWell S  post) : Met l yX7_isWell (Cond.code yX7_isWell cX7_isWell 1 (some .boolean) :: lw_gd) rm_X7_isWell (gPc D (tyX X) (RW X) (FXr X) (AX 18 X.1 sz) sz S [.ref (X.1 0)]) (va_Qi post (gB D (RW X)) (AX 18 X.1 sz)) 0 0 (AX 18 X.1 sz) := by
  refine Met.ofW (cc := cX7_isWell) (maxL := 1) (ret := (some .boolean)) (by decide) rfl ?_
  intro p e s m args below meth c s₁ B hml hv
  obtain ⟨rfl, hsz, hP, hK, hF⟩ := hv
  have hx := B.exec
  have hb := B.bytes
  have hr := B.returns
  have hts := atoms_spec (ws := (Cond.code yX7_isWell cX7_isWell 1 (some .boolean) :: lw_gd)) B.pre
  have hT : ∀ w ∈ lw_gd, w.before _ s = true := fun w h9 => hts w (List.mem_cons_of_mem _ h9)
  have hown : s.vm.findClass RX7 = some m.cls := findClass_of_methodNamed B.named
  have hlocks := B.notSynchronized
  subst hsz
  have hS : va_S (AX 18 X.1 s.heap.size) s.heap s.heap [] := va_S.rf
  have hl := lv_entry ([.ref (X.1 0)]) (n := 1) (Nat.le_of_ble_eq_true rfl)
  rw [lg_entry_eq]
  generalize (lg_sl ([.ref (X.1 0)]) ++ List.replicate (1 - (lg_sl ([.ref (X.1 0)])).length) Slot.unset).toArray = ls at hl ⊢
  have hl : lv_has ls 1 [(0, .ref (X.1 0))] := hl
  obtain ⟨H, hH⟩ : ∃ H : Heap, H = s.heap := ⟨_, rfl⟩
  obtain ⟨locs, hlc⟩ : ∃ q : List Loc, q = [] := ⟨_, rfl⟩
  have hS : va_S (AX 18 X.1 s.heap.size) s.heap H locs := by rw [hH, hlc]; exact hS
  have hP : va_P D vwCl (RW X S) H := by rw [hH]; exact hP
  show W p l e (headSpec (Cond.code yX7_isWell cX7_isWell 1 (some .boolean) :: lw_gd) rm_X7_isWell).room s m ([.ref (X.1 0)] : List Value).toArray below meth c s.heap [] 0 0 (MQ below (va_Qi post (gB D (RW X)) (AX 18 X.1 s.heap.size)) ([.ref (X.1 0)] : List Value).toArray s 0 0 (AX 18 X.1 s.heap.size)) _
  suffices hgo : W p l e (headSpec (Cond.code yX7_isWell cX7_isWell 1 (some .boolean) :: lw_gd) rm_X7_isWell).room s m ([.ref (X.1 0)] : List Value).toArray below meth c H locs 0 0 (MQ below (va_Qi post (gB D (RW X)) (AX 18 X.1 s.heap.size)) ([.ref (X.1 0)] : List Value).toArray s 0 0 (AX 18 X.1 s.heap.size)) (F0 m 0 ls []) from by rw [hH, hlc] at hgo; exact hgo
  unfold p_X7_isWell at h
  refine lv_aload_n hx hb dX7_isWell_0 rfl (lv_at hl 0 rfl) ?_
  refine va_get (D := D) (ci := 7) (v := .int (S.1 0 8)) (C := RX7) (T := TX7) (N := 28) hx hb hT inX7 hown hK hP 0 rw_Model rfl 8 (by decide) (hT _ wf_X7_99) (fun _ h9 => h9) rfl dX7_isWell_1 ?_
  refine lv_if_ge (tgt := 11) hx hb dX7_isWell_4 (by decide) (fun c_1 => ?_) (fun c_1 => ?_)
  · have h := h.1 c_1
    refine lv_iconst (v := 0) hx hb dX7_isWell_11 (by decide) ?_
    exact W.zret (v := 0) hx hb hr rfl (fun t ht hW => ⟨⟨0, S, rfl, h, gB_of ht hP⟩, hS.F ht⟩) hS.2.2 dX7_isWell_12
  · have h := h.2 c_1
    refine lv_iconst (v := 1) hx hb dX7_isWell_7 (by decide) ?_
    refine lv_goto (tgt := 12) hx hb dX7_isWell_8 (by decide) ?_
    exact W.zret (v := 1) hx hb hr rfl (fun t ht hW => ⟨⟨1, S, rfl, h, gB_of ht hP⟩, hS.F ht⟩) hS.2.2 dX7_isWell_12

abbrev rm_X7_takes : Room := { frames := 2, cells := 0, slots := 0, locals := 43 }
def p_X7_takes (S : CS) (x1 : Int32) (post : Int32 → CS → Prop) : Prop := p_X7_isWell S  (fun r_2 S_1 => ((r_2 = 0 → (post 0 S_1)) ∧ (¬ (r_2 = 0) → ((x1 = 0 → (∀ u_8 : Int32, u_8 = S_1.1 0 6 → (∀ S_9 : CS, S_9 = sti S_1 0 8 u_8 → (post 0 S_9)))) ∧ (¬ (x1 = 0) → (∀ x2_5 : Int32, x2_5 = S_1.1 0 7 → (p_X7_advances S_1  (fun S_6 => (post x2_5 S_6)))))))))
set_option maxHeartbeats 4000000 in
set_option maxRecDepth 100000 in
theorem c_X7_takes (l : Launch) (D : va_G) (X : XE) (hX : Inj 18 X.1) (sz : Nat) (S : CS) (x1 : Int32) (post : Int32 → CS → Prop) (h : p_X7_takes S x1 post) : Met l yX7_takes (Cond.code yX7_takes cX7_takes 3 (some .int) :: lw_gd) rm_X7_takes (gPc D (tyX X) (RW X) (FXr X) (AX 18 X.1 sz) sz S [.ref (X.1 0), .int x1]) (va_Qi post (gB D (RW X)) (AX 18 X.1 sz)) 0 0 (AX 18 X.1 sz) := by
  refine Met.ofW (cc := cX7_takes) (maxL := 3) (ret := (some .int)) (by decide) rfl ?_
  intro p e s m args below meth c s₁ B hml hv
  obtain ⟨rfl, hsz, hP, hK, hF⟩ := hv
  have hx := B.exec
  have hb := B.bytes
  have hr := B.returns
  have hts := atoms_spec (ws := (Cond.code yX7_takes cX7_takes 3 (some .int) :: lw_gd)) B.pre
  have hT : ∀ w ∈ lw_gd, w.before _ s = true := fun w h9 => hts w (List.mem_cons_of_mem _ h9)
  have hown : s.vm.findClass RX7 = some m.cls := findClass_of_methodNamed B.named
  have hlocks := B.notSynchronized
  subst hsz
  have hS : va_S (AX 18 X.1 s.heap.size) s.heap s.heap [] := va_S.rf
  have hl := lv_entry ([.ref (X.1 0), .int x1]) (n := 3) (Nat.le_of_ble_eq_true rfl)
  rw [lg_entry_eq]
  generalize (lg_sl ([.ref (X.1 0), .int x1]) ++ List.replicate (3 - (lg_sl ([.ref (X.1 0), .int x1])).length) Slot.unset).toArray = ls at hl ⊢
  have hl : lv_has ls 3 [(0, .ref (X.1 0)), (1, .int x1)] := hl
  obtain ⟨H, hH⟩ : ∃ H : Heap, H = s.heap := ⟨_, rfl⟩
  obtain ⟨locs, hlc⟩ : ∃ q : List Loc, q = [] := ⟨_, rfl⟩
  have hS : va_S (AX 18 X.1 s.heap.size) s.heap H locs := by rw [hH, hlc]; exact hS
  have hP : va_P D vwCl (RW X S) H := by rw [hH]; exact hP
  show W p l e (headSpec (Cond.code yX7_takes cX7_takes 3 (some .int) :: lw_gd) rm_X7_takes).room s m ([.ref (X.1 0), .int x1] : List Value).toArray below meth c s.heap [] 0 0 (MQ below (va_Qi post (gB D (RW X)) (AX 18 X.1 s.heap.size)) ([.ref (X.1 0), .int x1] : List Value).toArray s 0 0 (AX 18 X.1 s.heap.size)) _
  suffices hgo : W p l e (headSpec (Cond.code yX7_takes cX7_takes 3 (some .int) :: lw_gd) rm_X7_takes).room s m ([.ref (X.1 0), .int x1] : List Value).toArray below meth c H locs 0 0 (MQ below (va_Qi post (gB D (RW X)) (AX 18 X.1 s.heap.size)) ([.ref (X.1 0), .int x1] : List Value).toArray s 0 0 (AX 18 X.1 s.heap.size)) (F0 m 0 ls []) from by rw [hH, hlc] at hgo; exact hgo
  unfold p_X7_takes at h
  refine lv_aload_n hx hb dX7_takes_0 rfl (lv_at hl 0 rfl) ?_
  refine rVi (As := []) (rest := []) hX ⟨hx, hb, hml, hown, hT⟩ (c_X7_isWell l D X hX H.size S  _ h) (gd_V wl_X7_102 wi_X7_isWell wv_X7_isWell wn_X7 wc_X7_isWell) rfl hd_X7_isWell ⟨rfl, rfl⟩ ⟨Nat.le_of_ble_eq_true rfl, Nat.le_of_ble_eq_true rfl⟩ (va_recv hK hP (ci := 7) (q0 := 0) rfl rw_Model) hK hP hS hF rfl hl.1 rfl (Nat.le_of_ble_eq_true rfl) dX7_takes_1 ⟨Nat.zero_le _, Nat.zero_le _⟩ (fun r_2 S_1 H locs h hP hS => ?_)
  refine lv_if_ne (tgt := 9) hx hb dX7_takes_4 (by decide) (fun c_3 => ?_) (fun c_3 => ?_)
  · have h := h.2 c_3
    refine lv_iload_n hx hb dX7_takes_9 rfl (lv_at hl 1 rfl) ?_
    refine lv_if_ne (tgt := 23) hx hb dX7_takes_10 (by decide) (fun c_4 => ?_) (fun c_4 => ?_)
    · have h := h.2 c_4
      refine lv_aload_n hx hb dX7_takes_23 rfl (lv_at hl 0 rfl) ?_
      refine va_get (D := D) (ci := 7) (v := .int (S_1.1 0 7)) (C := RX7) (T := TX7) (N := 28) hx hb hT inX7 hown hK hP 0 rw_Model rfl 7 (by decide) (hT _ wf_X7_92) (fun _ h9 => h9) rfl dX7_takes_24 ?_
      refine lv_topi (fun x2_5 ex2_5 => ?_)
      have h := h x2_5 ex2_5
      refine lv_istore_n (lv' := [(2, .int x2_5), (0, .ref (X.1 0)), (1, .int x1)]) hx hb dX7_takes_27 rfl hl (by decide) rfl (fun ls hl => ?_)
      refine lv_aload_n hx hb dX7_takes_28 rfl (lv_at hl 1 rfl) ?_
      refine rVv (As := []) (rest := []) hX ⟨hx, hb, hml, hown, hT⟩ (c_X7_advances l D X hX H.size S_1  _ h) (gd_V wl_X7_106 wi_X7_advances wv_X7_advances wn_X7 wc_X7_advances) rfl hd_X7_advances ⟨rfl, rfl⟩ ⟨Nat.le_of_ble_eq_true rfl, Nat.le_of_ble_eq_true rfl⟩ (va_recv hK hP (ci := 7) (q0 := 0) rfl rw_Model) hK hP hS hF rfl hl.1 rfl (Nat.le_of_ble_eq_true rfl) dX7_takes_29 ⟨Nat.zero_le _, Nat.zero_le _⟩ (fun S_6 H locs h hP hS => ?_)
      refine lv_iload_n hx hb dX7_takes_32 rfl (lv_at hl 0 rfl) ?_
      exact W.iret (v := x2_5) hx hb hr (fun t ht hW => ⟨⟨x2_5, S_6, rfl, h, gB_of ht hP⟩, hS.F ht⟩) hS.2.2 dX7_takes_33
    · have h := h.1 c_4
      refine lv_aload_n hx hb dX7_takes_13 rfl (lv_at hl 0 rfl) ?_
      refine lv_aload_n hx hb dX7_takes_14 rfl (lv_at hl 0 rfl) ?_
      refine va_get (D := D) (ci := 7) (v := .int (S_1.1 0 6)) (C := RX7) (T := TX7) (N := 28) hx hb hT inX7 hown hK hP 0 rw_Model rfl 6 (by decide) (hT _ wf_X7_86) (fun _ h9 => h9) rfl dX7_takes_15 ?_
      refine lv_topi (fun u_8 eu_8 => ?_)
      have h := h u_8 eu_8
      refine va_put (D := D) (ci := 7) (v := .int u_8) (ty := .int) (C := RX7) (T := TX7) (N := 28) hx hb hT inX7 tyX7 tyX7_ok nmX7 hown hK hP (gw_D hX) hS 0 rw_Model rfl 8 (by decide) (hT _ wf_X7_99) (fun _ h9 => h9) rfl (by decide +kernel) rfl rfl (Nat.le_of_ble_eq_true rfl) dX7_takes_18 (fun H locs hP _ hS => ?_)
      have hP := rw_st (j := 8) (x := u_8) rfl hP
      obtain ⟨S_9, eS_9⟩ : ∃ z : CS, z = sti S_1 0 8 u_8 := ⟨_, rfl⟩
      rw [← eS_9] at hP
      have h := h S_9 eS_9
      refine lv_iconst (v := 0) hx hb dX7_takes_21 (by decide) ?_
      exact W.iret (v := 0) hx hb hr (fun t ht hW => ⟨⟨0, S_9, rfl, h, gB_of ht hP⟩, hS.F ht⟩) hS.2.2 dX7_takes_22
  · have h := h.1 c_3
    refine lv_iconst (v := 0) hx hb dX7_takes_7 (by decide) ?_
    exact W.iret (v := 0) hx hb hr (fun t ht hW => ⟨⟨0, S_1, rfl, h, gB_of ht hP⟩, hS.F ht⟩) hS.2.2 dX7_takes_8

abbrev rm_X7_number : Room := { frames := 3, cells := 0, slots := 0, locals := 65 }
def p_X7_number (S : CS) (x1 : Int32) (x2 : Int32) (post : Int32 → CS → Prop) : Prop := ((S.1 0 5) = 2 → (p_X7_in S (S.1 0 7) x1 x2 (fun r_5 S_4 => ((r_5 = 0 → (p_X7_takes S_4 0 (fun r_8 S_7 => (post r_8 S_7)))) ∧ (¬ (r_5 = 0) → (p_X7_takes S_4 1 (fun r_10 S_9 => (post r_10 S_9)))))))) ∧ (¬ ((S.1 0 5) = 2) → (p_X7_takes S 0 (fun r_3 S_2 => (post r_3 S_2))))
set_option maxHeartbeats 4000000 in
set_option maxRecDepth 100000 in
theorem c_X7_number (l : Launch) (D : va_G) (X : XE) (hX : Inj 18 X.1) (sz : Nat) (S : CS) (x1 : Int32) (x2 : Int32) (post : Int32 → CS → Prop) (h : p_X7_number S x1 x2 post) : Met l yX7_number (Cond.code yX7_number cX7_number 3 (some .int) :: lw_gd) rm_X7_number (gPc D (tyX X) (RW X) (FXr X) (AX 18 X.1 sz) sz S [.ref (X.1 0), .int x1, .int x2]) (va_Qi post (gB D (RW X)) (AX 18 X.1 sz)) 0 0 (AX 18 X.1 sz) := by
  refine Met.ofW (cc := cX7_number) (maxL := 3) (ret := (some .int)) (by decide) rfl ?_
  intro p e s m args below meth c s₁ B hml hv
  obtain ⟨rfl, hsz, hP, hK, hF⟩ := hv
  have hx := B.exec
  have hb := B.bytes
  have hr := B.returns
  have hts := atoms_spec (ws := (Cond.code yX7_number cX7_number 3 (some .int) :: lw_gd)) B.pre
  have hT : ∀ w ∈ lw_gd, w.before _ s = true := fun w h9 => hts w (List.mem_cons_of_mem _ h9)
  have hown : s.vm.findClass RX7 = some m.cls := findClass_of_methodNamed B.named
  have hlocks := B.notSynchronized
  subst hsz
  have hS : va_S (AX 18 X.1 s.heap.size) s.heap s.heap [] := va_S.rf
  have hl := lv_entry ([.ref (X.1 0), .int x1, .int x2]) (n := 3) (Nat.le_of_ble_eq_true rfl)
  rw [lg_entry_eq]
  generalize (lg_sl ([.ref (X.1 0), .int x1, .int x2]) ++ List.replicate (3 - (lg_sl ([.ref (X.1 0), .int x1, .int x2])).length) Slot.unset).toArray = ls at hl ⊢
  have hl : lv_has ls 3 [(0, .ref (X.1 0)), (1, .int x1), (2, .int x2)] := hl
  obtain ⟨H, hH⟩ : ∃ H : Heap, H = s.heap := ⟨_, rfl⟩
  obtain ⟨locs, hlc⟩ : ∃ q : List Loc, q = [] := ⟨_, rfl⟩
  have hS : va_S (AX 18 X.1 s.heap.size) s.heap H locs := by rw [hH, hlc]; exact hS
  have hP : va_P D vwCl (RW X S) H := by rw [hH]; exact hP
  show W p l e (headSpec (Cond.code yX7_number cX7_number 3 (some .int) :: lw_gd) rm_X7_number).room s m ([.ref (X.1 0), .int x1, .int x2] : List Value).toArray below meth c s.heap [] 0 0 (MQ below (va_Qi post (gB D (RW X)) (AX 18 X.1 s.heap.size)) ([.ref (X.1 0), .int x1, .int x2] : List Value).toArray s 0 0 (AX 18 X.1 s.heap.size)) _
  suffices hgo : W p l e (headSpec (Cond.code yX7_number cX7_number 3 (some .int) :: lw_gd) rm_X7_number).room s m ([.ref (X.1 0), .int x1, .int x2] : List Value).toArray below meth c H locs 0 0 (MQ below (va_Qi post (gB D (RW X)) (AX 18 X.1 s.heap.size)) ([.ref (X.1 0), .int x1, .int x2] : List Value).toArray s 0 0 (AX 18 X.1 s.heap.size)) (F0 m 0 ls []) from by rw [hH, hlc] at hgo; exact hgo
  unfold p_X7_number at h
  refine lv_aload_n hx hb dX7_number_0 rfl (lv_at hl 0 rfl) ?_
  refine lv_aload_n hx hb dX7_number_1 rfl (lv_at hl 0 rfl) ?_
  refine va_get (D := D) (ci := 7) (v := .int (S.1 0 5)) (C := RX7) (T := TX7) (N := 28) hx hb hT inX7 hown hK hP 0 rw_Model rfl 5 (by decide) (hT _ wf_X7_89) (fun _ h9 => h9) rfl dX7_number_2 ?_
  refine lv_iconst (v := 2) hx hb dX7_number_5 (by decide) ?_
  refine lv_icmp_ne (tgt := 25) hx hb dX7_number_6 (by decide) (fun c_1 => ?_) (fun c_1 => ?_)
  · have h := h.2 c_1
    refine lv_iconst (v := 0) hx hb dX7_number_25 (by decide) ?_
    refine rVi (As := [.int 0]) (rest := []) hX ⟨hx, hb, hml, hown, hT⟩ (c_X7_takes l D X hX H.size S 0 _ h) (gd_V wl_X7_109 wi_X7_takes wv_X7_takes wn_X7 wc_X7_takes) rfl hd_X7_takes ⟨rfl, rfl⟩ ⟨Nat.le_of_ble_eq_true rfl, Nat.le_of_ble_eq_true rfl⟩ (va_recv hK hP (ci := 7) (q0 := 0) rfl rw_Model) hK hP hS hF rfl hl.1 rfl (Nat.le_of_ble_eq_true rfl) dX7_number_26 ⟨Nat.zero_le _, Nat.zero_le _⟩ (fun r_3 S_2 H locs h hP hS => ?_)
    exact W.iret (v := r_3) hx hb hr (fun t ht hW => ⟨⟨r_3, S_2, rfl, h, gB_of ht hP⟩, hS.F ht⟩) hS.2.2 dX7_number_29
  · have h := h.1 c_1
    refine lv_aload_n hx hb dX7_number_9 rfl (lv_at hl 0 rfl) ?_
    refine va_get (D := D) (ci := 7) (v := .int (S.1 0 7)) (C := RX7) (T := TX7) (N := 28) hx hb hT inX7 hown hK hP 0 rw_Model rfl 7 (by decide) (hT _ wf_X7_92) (fun _ h9 => h9) rfl dX7_number_10 ?_
    refine lv_iload_n hx hb dX7_number_13 rfl (lv_at hl 1 rfl) ?_
    refine lv_iload_n hx hb dX7_number_14 rfl (lv_at hl 2 rfl) ?_
    refine rSi (As := [.int (S.1 0 7), .int x1, .int x2]) (rest := [.ref (X.1 0)]) hX ⟨hx, hb, hml, hown, hT⟩ (c_X7_in l D X hX H.size S (S.1 0 7) x1 x2 _ h) (gd_S wl_X7_72 wt_X7_in wn_X7 wc_X7_in) hd_X7_in ⟨rfl, rfl⟩ ⟨Nat.le_of_ble_eq_true rfl, Nat.le_of_ble_eq_true rfl⟩ hK hP hS hF rfl hl.1 rfl (Nat.le_of_ble_eq_true rfl) dX7_number_15 ⟨Nat.zero_le _, Nat.zero_le _⟩ (fun r_5 S_4 H locs h hP hS => ?_)
    refine lv_if_eq (tgt := 25) hx hb dX7_number_18 (by decide) (fun c_6 => ?_) (fun c_6 => ?_)
    · have h := h.1 c_6
      refine lv_iconst (v := 0) hx hb dX7_number_25 (by decide) ?_
      refine rVi (As := [.int 0]) (rest := []) hX ⟨hx, hb, hml, hown, hT⟩ (c_X7_takes l D X hX H.size S_4 0 _ h) (gd_V wl_X7_109 wi_X7_takes wv_X7_takes wn_X7 wc_X7_takes) rfl hd_X7_takes ⟨rfl, rfl⟩ ⟨Nat.le_of_ble_eq_true rfl, Nat.le_of_ble_eq_true rfl⟩ (va_recv hK hP (ci := 7) (q0 := 0) rfl rw_Model) hK hP hS hF rfl hl.1 rfl (Nat.le_of_ble_eq_true rfl) dX7_number_26 ⟨Nat.zero_le _, Nat.zero_le _⟩ (fun r_8 S_7 H locs h hP hS => ?_)
      exact W.iret (v := r_8) hx hb hr (fun t ht hW => ⟨⟨r_8, S_7, rfl, h, gB_of ht hP⟩, hS.F ht⟩) hS.2.2 dX7_number_29
    · have h := h.2 c_6
      refine lv_iconst (v := 1) hx hb dX7_number_21 (by decide) ?_
      refine lv_goto (tgt := 26) hx hb dX7_number_22 (by decide) ?_
      refine rVi (As := [.int 1]) (rest := []) hX ⟨hx, hb, hml, hown, hT⟩ (c_X7_takes l D X hX H.size S_4 1 _ h) (gd_V wl_X7_109 wi_X7_takes wv_X7_takes wn_X7 wc_X7_takes) rfl hd_X7_takes ⟨rfl, rfl⟩ ⟨Nat.le_of_ble_eq_true rfl, Nat.le_of_ble_eq_true rfl⟩ (va_recv hK hP (ci := 7) (q0 := 0) rfl rw_Model) hK hP hS hF rfl hl.1 rfl (Nat.le_of_ble_eq_true rfl) dX7_number_26 ⟨Nat.zero_le _, Nat.zero_le _⟩ (fun r_10 S_9 H locs h hP hS => ?_)
      exact W.iret (v := r_10) hx hb hr (fun t ht hW => ⟨⟨r_10, S_9, rfl, h, gB_of ht hP⟩, hS.F ht⟩) hS.2.2 dX7_number_29

abbrev rm_X7_begins : Room := { frames := 0, cells := 0, slots := 0, locals := 0 }
def p_X7_begins (S : CS)  (post : CS → Prop) : Prop := ∀ S_1 : CS, S_1 = sti S 0 10 0 → (∀ S_2 : CS, S_2 = sti S_1 2 6 0 → (∀ S_3 : CS, S_3 = sti S_2 2 7 0 → (∀ S_4 : CS, S_4 = sti S_3 2 8 9 → (∀ S_5 : CS, S_5 = sti S_4 2 9 3 → (∀ S_6 : CS, S_6 = sti S_5 2 10 11 → (∀ S_7 : CS, S_7 = sti S_6 2 11 9 → (post S_7)))))))
set_option maxHeartbeats 4000000 in
set_option maxRecDepth 100000 in
theorem c_X7_begins (l : Launch) (D : va_G) (X : XE) (hX : Inj 18 X.1) (sz : Nat) (S : CS)  (post : CS → Prop) (h : p_X7_begins S  post) : Met l yX7_begins (Cond.code yX7_begins cX7_begins 1 none :: lw_gd) rm_X7_begins (gPc D (tyX X) (RW X) (FXr X) (AX 18 X.1 sz) sz S [.ref (X.1 0)]) (va_Qv post (gB D (RW X)) (AX 18 X.1 sz)) 0 0 (AX 18 X.1 sz) := by
  refine Met.ofW (cc := cX7_begins) (maxL := 1) (ret := none) (by decide) rfl ?_
  intro p e s m args below meth c s₁ B hml hv
  obtain ⟨rfl, hsz, hP, hK, hF⟩ := hv
  have hx := B.exec
  have hb := B.bytes
  have hr := B.returns
  have hts := atoms_spec (ws := (Cond.code yX7_begins cX7_begins 1 none :: lw_gd)) B.pre
  have hT : ∀ w ∈ lw_gd, w.before _ s = true := fun w h9 => hts w (List.mem_cons_of_mem _ h9)
  have hown : s.vm.findClass RX7 = some m.cls := findClass_of_methodNamed B.named
  have hlocks := B.notSynchronized
  subst hsz
  have hS : va_S (AX 18 X.1 s.heap.size) s.heap s.heap [] := va_S.rf
  have hl := lv_entry ([.ref (X.1 0)]) (n := 1) (Nat.le_of_ble_eq_true rfl)
  rw [lg_entry_eq]
  generalize (lg_sl ([.ref (X.1 0)]) ++ List.replicate (1 - (lg_sl ([.ref (X.1 0)])).length) Slot.unset).toArray = ls at hl ⊢
  have hl : lv_has ls 1 [(0, .ref (X.1 0))] := hl
  obtain ⟨H, hH⟩ : ∃ H : Heap, H = s.heap := ⟨_, rfl⟩
  obtain ⟨locs, hlc⟩ : ∃ q : List Loc, q = [] := ⟨_, rfl⟩
  have hS : va_S (AX 18 X.1 s.heap.size) s.heap H locs := by rw [hH, hlc]; exact hS
  have hP : va_P D vwCl (RW X S) H := by rw [hH]; exact hP
  show W p l e (headSpec (Cond.code yX7_begins cX7_begins 1 none :: lw_gd) rm_X7_begins).room s m ([.ref (X.1 0)] : List Value).toArray below meth c s.heap [] 0 0 (MQ below (va_Qv post (gB D (RW X)) (AX 18 X.1 s.heap.size)) ([.ref (X.1 0)] : List Value).toArray s 0 0 (AX 18 X.1 s.heap.size)) _
  suffices hgo : W p l e (headSpec (Cond.code yX7_begins cX7_begins 1 none :: lw_gd) rm_X7_begins).room s m ([.ref (X.1 0)] : List Value).toArray below meth c H locs 0 0 (MQ below (va_Qv post (gB D (RW X)) (AX 18 X.1 s.heap.size)) ([.ref (X.1 0)] : List Value).toArray s 0 0 (AX 18 X.1 s.heap.size)) (F0 m 0 ls []) from by rw [hH, hlc] at hgo; exact hgo
  unfold p_X7_begins at h
  refine lv_aload_n hx hb dX7_begins_0 rfl (lv_at hl 0 rfl) ?_
  refine lv_iconst (v := 0) hx hb dX7_begins_1 (by decide) ?_
  refine va_put (D := D) (ci := 7) (v := .int 0) (ty := .int) (C := RX7) (T := TX7) (N := 28) hx hb hT inX7 tyX7 tyX7_ok nmX7 hown hK hP (gw_D hX) hS 0 rw_Model rfl 10 (by decide) (hT _ wf_X7_113) (fun _ h9 => h9) rfl (by decide +kernel) rfl rfl (Nat.le_of_ble_eq_true rfl) dX7_begins_2 (fun H locs hP _ hS => ?_)
  have hP := rw_st (j := 10) (x := 0) rfl hP
  obtain ⟨S_1, eS_1⟩ : ∃ z : CS, z = sti S 0 10 0 := ⟨_, rfl⟩
  rw [← eS_1] at hP
  have h := h S_1 eS_1
  refine lv_aload_n hx hb dX7_begins_5 rfl (lv_at hl 0 rfl) ?_
  refine va_get (D := D) (ci := 7) (v := .ref (X.1 2)) (C := RX7) (T := TX7) (N := 28) hx hb hT inX7 hown hK hP 0 rw_Model rfl 9 (by decide) (hT _ wf_X7_13) (fun _ h9 => h9) rfl dX7_begins_6 ?_
  refine lv_bipush (v := 6) hx hb dX7_begins_9 (by decide) ?_
  refine lv_iconst (v := 0) hx hb dX7_begins_11 (by decide) ?_
  refine g_iast hx hb hK hP (gw_D hX) hS 2 rw_2 rfl (vpc (by decide)) 6 rfl dX7_begins_12 (fun H locs hP hS => ?_)
  have hP := rw_st (j := 6) (x := 0) rfl hP
  obtain ⟨S_2, eS_2⟩ : ∃ z : CS, z = sti S_1 2 6 0 := ⟨_, rfl⟩
  rw [← eS_2] at hP
  have h := h S_2 eS_2
  refine lv_aload_n hx hb dX7_begins_13 rfl (lv_at hl 0 rfl) ?_
  refine va_get (D := D) (ci := 7) (v := .ref (X.1 2)) (C := RX7) (T := TX7) (N := 28) hx hb hT inX7 hown hK hP 0 rw_Model rfl 9 (by decide) (hT _ wf_X7_13) (fun _ h9 => h9) rfl dX7_begins_14 ?_
  refine lv_bipush (v := 7) hx hb dX7_begins_17 (by decide) ?_
  refine lv_iconst (v := 0) hx hb dX7_begins_19 (by decide) ?_
  refine g_iast hx hb hK hP (gw_D hX) hS 2 rw_2 rfl (vpc (by decide)) 7 rfl dX7_begins_20 (fun H locs hP hS => ?_)
  have hP := rw_st (j := 7) (x := 0) rfl hP
  obtain ⟨S_3, eS_3⟩ : ∃ z : CS, z = sti S_2 2 7 0 := ⟨_, rfl⟩
  rw [← eS_3] at hP
  have h := h S_3 eS_3
  refine lv_aload_n hx hb dX7_begins_21 rfl (lv_at hl 0 rfl) ?_
  refine va_get (D := D) (ci := 7) (v := .ref (X.1 2)) (C := RX7) (T := TX7) (N := 28) hx hb hT inX7 hown hK hP 0 rw_Model rfl 9 (by decide) (hT _ wf_X7_13) (fun _ h9 => h9) rfl dX7_begins_22 ?_
  refine lv_bipush (v := 8) hx hb dX7_begins_25 (by decide) ?_
  refine lv_bipush (v := 9) hx hb dX7_begins_27 (by decide) ?_
  refine g_iast hx hb hK hP (gw_D hX) hS 2 rw_2 rfl (vpc (by decide)) 8 rfl dX7_begins_29 (fun H locs hP hS => ?_)
  have hP := rw_st (j := 8) (x := 9) rfl hP
  obtain ⟨S_4, eS_4⟩ : ∃ z : CS, z = sti S_3 2 8 9 := ⟨_, rfl⟩
  rw [← eS_4] at hP
  have h := h S_4 eS_4
  refine lv_aload_n hx hb dX7_begins_30 rfl (lv_at hl 0 rfl) ?_
  refine va_get (D := D) (ci := 7) (v := .ref (X.1 2)) (C := RX7) (T := TX7) (N := 28) hx hb hT inX7 hown hK hP 0 rw_Model rfl 9 (by decide) (hT _ wf_X7_13) (fun _ h9 => h9) rfl dX7_begins_31 ?_
  refine lv_bipush (v := 9) hx hb dX7_begins_34 (by decide) ?_
  refine lv_iconst (v := 3) hx hb dX7_begins_36 (by decide) ?_
  refine g_iast hx hb hK hP (gw_D hX) hS 2 rw_2 rfl (vpc (by decide)) 9 rfl dX7_begins_37 (fun H locs hP hS => ?_)
  have hP := rw_st (j := 9) (x := 3) rfl hP
  obtain ⟨S_5, eS_5⟩ : ∃ z : CS, z = sti S_4 2 9 3 := ⟨_, rfl⟩
  rw [← eS_5] at hP
  have h := h S_5 eS_5
  refine lv_aload_n hx hb dX7_begins_38 rfl (lv_at hl 0 rfl) ?_
  refine va_get (D := D) (ci := 7) (v := .ref (X.1 2)) (C := RX7) (T := TX7) (N := 28) hx hb hT inX7 hown hK hP 0 rw_Model rfl 9 (by decide) (hT _ wf_X7_13) (fun _ h9 => h9) rfl dX7_begins_39 ?_
  refine lv_bipush (v := 10) hx hb dX7_begins_42 (by decide) ?_
  refine lv_bipush (v := 11) hx hb dX7_begins_44 (by decide) ?_
  refine g_iast hx hb hK hP (gw_D hX) hS 2 rw_2 rfl (vpc (by decide)) 10 rfl dX7_begins_46 (fun H locs hP hS => ?_)
  have hP := rw_st (j := 10) (x := 11) rfl hP
  obtain ⟨S_6, eS_6⟩ : ∃ z : CS, z = sti S_5 2 10 11 := ⟨_, rfl⟩
  rw [← eS_6] at hP
  have h := h S_6 eS_6
  refine lv_aload_n hx hb dX7_begins_47 rfl (lv_at hl 0 rfl) ?_
  refine va_get (D := D) (ci := 7) (v := .ref (X.1 2)) (C := RX7) (T := TX7) (N := 28) hx hb hT inX7 hown hK hP 0 rw_Model rfl 9 (by decide) (hT _ wf_X7_13) (fun _ h9 => h9) rfl dX7_begins_48 ?_
  refine lv_bipush (v := 11) hx hb dX7_begins_51 (by decide) ?_
  refine lv_bipush (v := 9) hx hb dX7_begins_53 (by decide) ?_
  refine g_iast hx hb hK hP (gw_D hX) hS 2 rw_2 rfl (vpc (by decide)) 11 rfl dX7_begins_55 (fun H locs hP hS => ?_)
  have hP := rw_st (j := 11) (x := 9) rfl hP
  obtain ⟨S_7, eS_7⟩ : ∃ z : CS, z = sti S_6 2 11 9 := ⟨_, rfl⟩
  rw [← eS_7] at hP
  have h := h S_7 eS_7
  exact W.vret hx hb hr (fun t ht hW => ⟨⟨S_7, rfl, h, gB_of ht hP⟩, hS.F ht⟩) hS.2.2 dX7_begins_56

abbrev rm_X7_fixed : Room := { frames := 0, cells := 0, slots := 0, locals := 0 }
def p_X7_fixed (S : CS) (x0 : Int32) (post : Int32 → CS → Prop) : Prop := (x0 = 114 → (post 2 S)) ∧ (¬ (x0 = 114) → ((x0 = 116 → (post 3 S)) ∧ (¬ (x0 = 116) → ((x0 = 112 → (post 4 S)) ∧ (¬ (x0 = 112) → (post 5 S))))))
set_option maxHeartbeats 4000000 in
set_option maxRecDepth 100000 in
theorem c_X7_fixed (l : Launch) (D : va_G) (X : XE) (hX : Inj 18 X.1) (sz : Nat) (S : CS) (x0 : Int32) (post : Int32 → CS → Prop) (h : p_X7_fixed S x0 post) : Met l yX7_fixed (Cond.code yX7_fixed cX7_fixed 1 (some .int) :: lw_gd) rm_X7_fixed (gPc D (tyX X) (RW X) (FXr X) (AX 18 X.1 sz) sz S [.int x0]) (va_Qi post (gB D (RW X)) (AX 18 X.1 sz)) 0 0 (AX 18 X.1 sz) := by
  refine Met.ofW (cc := cX7_fixed) (maxL := 1) (ret := (some .int)) (by decide) rfl ?_
  intro p e s m args below meth c s₁ B hml hv
  obtain ⟨rfl, hsz, hP, hK, hF⟩ := hv
  have hx := B.exec
  have hb := B.bytes
  have hr := B.returns
  have hts := atoms_spec (ws := (Cond.code yX7_fixed cX7_fixed 1 (some .int) :: lw_gd)) B.pre
  have hT : ∀ w ∈ lw_gd, w.before _ s = true := fun w h9 => hts w (List.mem_cons_of_mem _ h9)
  have hown : s.vm.findClass RX7 = some m.cls := findClass_of_methodNamed B.named
  have hlocks := B.notSynchronized
  subst hsz
  have hS : va_S (AX 18 X.1 s.heap.size) s.heap s.heap [] := va_S.rf
  have hl := lv_entry ([.int x0]) (n := 1) (Nat.le_of_ble_eq_true rfl)
  rw [lg_entry_eq]
  generalize (lg_sl ([.int x0]) ++ List.replicate (1 - (lg_sl ([.int x0])).length) Slot.unset).toArray = ls at hl ⊢
  have hl : lv_has ls 1 [(0, .int x0)] := hl
  obtain ⟨H, hH⟩ : ∃ H : Heap, H = s.heap := ⟨_, rfl⟩
  obtain ⟨locs, hlc⟩ : ∃ q : List Loc, q = [] := ⟨_, rfl⟩
  have hS : va_S (AX 18 X.1 s.heap.size) s.heap H locs := by rw [hH, hlc]; exact hS
  have hP : va_P D vwCl (RW X S) H := by rw [hH]; exact hP
  show W p l e (headSpec (Cond.code yX7_fixed cX7_fixed 1 (some .int) :: lw_gd) rm_X7_fixed).room s m ([.int x0] : List Value).toArray below meth c s.heap [] 0 0 (MQ below (va_Qi post (gB D (RW X)) (AX 18 X.1 s.heap.size)) ([.int x0] : List Value).toArray s 0 0 (AX 18 X.1 s.heap.size)) _
  suffices hgo : W p l e (headSpec (Cond.code yX7_fixed cX7_fixed 1 (some .int) :: lw_gd) rm_X7_fixed).room s m ([.int x0] : List Value).toArray below meth c H locs 0 0 (MQ below (va_Qi post (gB D (RW X)) (AX 18 X.1 s.heap.size)) ([.int x0] : List Value).toArray s 0 0 (AX 18 X.1 s.heap.size)) (F0 m 0 ls []) from by rw [hH, hlc] at hgo; exact hgo
  unfold p_X7_fixed at h
  refine lv_iload_n hx hb dX7_fixed_0 rfl (lv_at hl 0 rfl) ?_
  refine lv_bipush (v := 114) hx hb dX7_fixed_1 (by decide) ?_
  refine lv_icmp_ne (tgt := 10) hx hb dX7_fixed_3 (by decide) (fun c_1 => ?_) (fun c_1 => ?_)
  · have h := h.2 c_1
    refine lv_iload_n hx hb dX7_fixed_10 rfl (lv_at hl 0 rfl) ?_
    refine lv_bipush (v := 116) hx hb dX7_fixed_11 (by decide) ?_
    refine lv_icmp_ne (tgt := 20) hx hb dX7_fixed_13 (by decide) (fun c_2 => ?_) (fun c_2 => ?_)
    · have h := h.2 c_2
      refine lv_iload_n hx hb dX7_fixed_20 rfl (lv_at hl 0 rfl) ?_
      refine lv_bipush (v := 112) hx hb dX7_fixed_21 (by decide) ?_
      refine lv_icmp_ne (tgt := 30) hx hb dX7_fixed_23 (by decide) (fun c_3 => ?_) (fun c_3 => ?_)
      · have h := h.2 c_3
        refine lv_iconst (v := 5) hx hb dX7_fixed_30 (by decide) ?_
        exact W.iret (v := 5) hx hb hr (fun t ht hW => ⟨⟨5, S, rfl, h, gB_of ht hP⟩, hS.F ht⟩) hS.2.2 dX7_fixed_31
      · have h := h.1 c_3
        refine lv_iconst (v := 4) hx hb dX7_fixed_26 (by decide) ?_
        refine lv_goto (tgt := 31) hx hb dX7_fixed_27 (by decide) ?_
        exact W.iret (v := 4) hx hb hr (fun t ht hW => ⟨⟨4, S, rfl, h, gB_of ht hP⟩, hS.F ht⟩) hS.2.2 dX7_fixed_31
    · have h := h.1 c_2
      refine lv_iconst (v := 3) hx hb dX7_fixed_16 (by decide) ?_
      refine lv_goto (tgt := 31) hx hb dX7_fixed_17 (by decide) ?_
      exact W.iret (v := 3) hx hb hr (fun t ht hW => ⟨⟨3, S, rfl, h, gB_of ht hP⟩, hS.F ht⟩) hS.2.2 dX7_fixed_31
  · have h := h.1 c_1
    refine lv_iconst (v := 2) hx hb dX7_fixed_6 (by decide) ?_
    refine lv_goto (tgt := 31) hx hb dX7_fixed_7 (by decide) ?_
    exact W.iret (v := 2) hx hb hr (fun t ht hW => ⟨⟨2, S, rfl, h, gB_of ht hP⟩, hS.F ht⟩) hS.2.2 dX7_fixed_31

abbrev rm_X7_mayBegin : Room := { frames := 1, cells := 0, slots := 0, locals := 20 }
def q_X7_mayBegin_38  (post : Int32 → CS → Prop) (z0 : Int32) (S : CS) : Prop := vp_in (6 + z0) 12 ∧ ((6 ≤ (S.1 2 ((6 + z0).toNatClampNeg)) → (post 0 S)) ∧ (¬ (6 ≤ (S.1 2 ((6 + z0).toNatClampNeg))) → (post 1 S)))
def q_X7_mayBegin_18  (post : Int32 → CS → Prop) (S : CS) : Prop := ((S.1 0 7) = 119 → (q_X7_mayBegin_38 post 0 S)) ∧ (¬ ((S.1 0 7) = 119) → (q_X7_mayBegin_38 post 1 S))
def p_X7_mayBegin (S : CS)  (post : Int32 → CS → Prop) : Prop := ((S.1 0 7) = 119 → (q_X7_mayBegin_18 post  S)) ∧ (¬ ((S.1 0 7) = 119) → (((S.1 0 7) = 111 → (q_X7_mayBegin_18 post  S)) ∧ (¬ ((S.1 0 7) = 111) → (p_X7_fixed S (S.1 0 7) (fun r_6 S_5 => (((((S.1 0 10) >>> (r_6 &&& 31)) &&& 1) = 0 → (post 1 S_5)) ∧ (¬ ((((S.1 0 10) >>> (r_6 &&& 31)) &&& 1) = 0) → (post 0 S_5))))))))
set_option maxHeartbeats 4000000 in
set_option maxRecDepth 100000 in
theorem c_X7_mayBegin (l : Launch) (D : va_G) (X : XE) (hX : Inj 18 X.1) (sz : Nat) (S : CS)  (post : Int32 → CS → Prop) (h : p_X7_mayBegin S  post) : Met l yX7_mayBegin (Cond.code yX7_mayBegin cX7_mayBegin 1 (some .boolean) :: lw_gd) rm_X7_mayBegin (gPc D (tyX X) (RW X) (FXr X) (AX 18 X.1 sz) sz S [.ref (X.1 0)]) (va_Qi post (gB D (RW X)) (AX 18 X.1 sz)) 0 0 (AX 18 X.1 sz) := by
  refine Met.ofW (cc := cX7_mayBegin) (maxL := 1) (ret := (some .boolean)) (by decide) rfl ?_
  intro p e s m args below meth c s₁ B hml hv
  obtain ⟨rfl, hsz, hP, hK, hF⟩ := hv
  have hx := B.exec
  have hb := B.bytes
  have hr := B.returns
  have hts := atoms_spec (ws := (Cond.code yX7_mayBegin cX7_mayBegin 1 (some .boolean) :: lw_gd)) B.pre
  have hT : ∀ w ∈ lw_gd, w.before _ s = true := fun w h9 => hts w (List.mem_cons_of_mem _ h9)
  have hown : s.vm.findClass RX7 = some m.cls := findClass_of_methodNamed B.named
  have hlocks := B.notSynchronized
  subst hsz
  have hS : va_S (AX 18 X.1 s.heap.size) s.heap s.heap [] := va_S.rf
  have W38 : ∀ (z0 : Int32) (S : CS) (H : Heap) (locs : List Loc) (ls : Array Slot), va_P D vwCl (RW X S) H → va_S (AX 18 X.1 s.heap.size) s.heap H locs → lv_has ls 1 [] → q_X7_mayBegin_38 post z0 S → W p l e (headSpec (Cond.code yX7_mayBegin cX7_mayBegin 1 (some .boolean) :: lw_gd) rm_X7_mayBegin).room s m ([.ref (X.1 0)] : List Value).toArray below meth c H locs 0 0 (MQ below (va_Qi post (gB D (RW X)) (AX 18 X.1 s.heap.size)) ([.ref (X.1 0)] : List Value).toArray s 0 0 (AX 18 X.1 s.heap.size)) (F0 m 38 ls [.int z0, .int 6, .ref (X.1 2)]) := by
    intro z0 S H locs ls hP hS hl h
    unfold q_X7_mayBegin_38 at h
    refine lv_iadd hx hb dX7_mayBegin_38 ?_
    obtain ⟨hi, h⟩ := h
    refine g_iald hx hb hK hP 2 rw_2 rfl hi ((6 + z0).toNatClampNeg) rfl dX7_mayBegin_39 ?_
    refine lv_bipush (v := 6) hx hb dX7_mayBegin_40 (by decide) ?_
    refine lv_icmp_ge (tgt := 49) hx hb dX7_mayBegin_42 (by decide) (fun c_3 => ?_) (fun c_3 => ?_)
    · have h := h.1 c_3
      refine lv_iconst (v := 0) hx hb dX7_mayBegin_49 (by decide) ?_
      exact W.zret (v := 0) hx hb hr rfl (fun t ht hW => ⟨⟨0, S, rfl, h, gB_of ht hP⟩, hS.F ht⟩) hS.2.2 dX7_mayBegin_50
    · have h := h.2 c_3
      refine lv_iconst (v := 1) hx hb dX7_mayBegin_45 (by decide) ?_
      refine lv_goto (tgt := 50) hx hb dX7_mayBegin_46 (by decide) ?_
      exact W.zret (v := 1) hx hb hr rfl (fun t ht hW => ⟨⟨1, S, rfl, h, gB_of ht hP⟩, hS.F ht⟩) hS.2.2 dX7_mayBegin_50
  have W18 : ∀ (S : CS) (H : Heap) (locs : List Loc) (ls : Array Slot), va_P D vwCl (RW X S) H → va_S (AX 18 X.1 s.heap.size) s.heap H locs → lv_has ls 1 [(0, .ref (X.1 0))] → q_X7_mayBegin_18 post  S → W p l e (headSpec (Cond.code yX7_mayBegin cX7_mayBegin 1 (some .boolean) :: lw_gd) rm_X7_mayBegin).room s m ([.ref (X.1 0)] : List Value).toArray below meth c H locs 0 0 (MQ below (va_Qi post (gB D (RW X)) (AX 18 X.1 s.heap.size)) ([.ref (X.1 0)] : List Value).toArray s 0 0 (AX 18 X.1 s.heap.size)) (F0 m 18 ls []) := by
    intro S H locs ls hP hS hl h
    unfold q_X7_mayBegin_18 at h
    refine lv_aload_n hx hb dX7_mayBegin_18 rfl (lv_at hl 0 rfl) ?_
    refine va_get (D := D) (ci := 7) (v := .ref (X.1 2)) (C := RX7) (T := TX7) (N := 28) hx hb hT inX7 hown hK hP 0 rw_Model rfl 9 (by decide) (hT _ wf_X7_13) (fun _ h9 => h9) rfl dX7_mayBegin_19 ?_
    refine lv_bipush (v := 6) hx hb dX7_mayBegin_22 (by decide) ?_
    refine lv_aload_n hx hb dX7_mayBegin_24 rfl (lv_at hl 0 rfl) ?_
    refine va_get (D := D) (ci := 7) (v := .int (S.1 0 7)) (C := RX7) (T := TX7) (N := 28) hx hb hT inX7 hown hK hP 0 rw_Model rfl 7 (by decide) (hT _ wf_X7_92) (fun _ h9 => h9) rfl dX7_mayBegin_25 ?_
    refine lv_bipush (v := 119) hx hb dX7_mayBegin_28 (by decide) ?_
    refine lv_icmp_ne (tgt := 37) hx hb dX7_mayBegin_30 (by decide) (fun c_2 => ?_) (fun c_2 => ?_)
    · have h := h.2 c_2
      refine lv_iconst (v := 1) hx hb dX7_mayBegin_37 (by decide) ?_
      exact W38  1 S H locs ls hP hS (lv_sub hl [] rfl) h
    · have h := h.1 c_2
      refine lv_iconst (v := 0) hx hb dX7_mayBegin_33 (by decide) ?_
      refine lv_goto (tgt := 38) hx hb dX7_mayBegin_34 (by decide) ?_
      exact W38  0 S H locs ls hP hS (lv_sub hl [] rfl) h
  have hl := lv_entry ([.ref (X.1 0)]) (n := 1) (Nat.le_of_ble_eq_true rfl)
  rw [lg_entry_eq]
  generalize (lg_sl ([.ref (X.1 0)]) ++ List.replicate (1 - (lg_sl ([.ref (X.1 0)])).length) Slot.unset).toArray = ls at hl ⊢
  have hl : lv_has ls 1 [(0, .ref (X.1 0))] := hl
  obtain ⟨H, hH⟩ : ∃ H : Heap, H = s.heap := ⟨_, rfl⟩
  obtain ⟨locs, hlc⟩ : ∃ q : List Loc, q = [] := ⟨_, rfl⟩
  have hS : va_S (AX 18 X.1 s.heap.size) s.heap H locs := by rw [hH, hlc]; exact hS
  have hP : va_P D vwCl (RW X S) H := by rw [hH]; exact hP
  show W p l e (headSpec (Cond.code yX7_mayBegin cX7_mayBegin 1 (some .boolean) :: lw_gd) rm_X7_mayBegin).room s m ([.ref (X.1 0)] : List Value).toArray below meth c s.heap [] 0 0 (MQ below (va_Qi post (gB D (RW X)) (AX 18 X.1 s.heap.size)) ([.ref (X.1 0)] : List Value).toArray s 0 0 (AX 18 X.1 s.heap.size)) _
  suffices hgo : W p l e (headSpec (Cond.code yX7_mayBegin cX7_mayBegin 1 (some .boolean) :: lw_gd) rm_X7_mayBegin).room s m ([.ref (X.1 0)] : List Value).toArray below meth c H locs 0 0 (MQ below (va_Qi post (gB D (RW X)) (AX 18 X.1 s.heap.size)) ([.ref (X.1 0)] : List Value).toArray s 0 0 (AX 18 X.1 s.heap.size)) (F0 m 0 ls []) from by rw [hH, hlc] at hgo; exact hgo
  unfold p_X7_mayBegin at h
  refine lv_aload_n hx hb dX7_mayBegin_0 rfl (lv_at hl 0 rfl) ?_
  refine va_get (D := D) (ci := 7) (v := .int (S.1 0 7)) (C := RX7) (T := TX7) (N := 28) hx hb hT inX7 hown hK hP 0 rw_Model rfl 7 (by decide) (hT _ wf_X7_92) (fun _ h9 => h9) rfl dX7_mayBegin_1 ?_
  refine lv_bipush (v := 119) hx hb dX7_mayBegin_4 (by decide) ?_
  refine lv_icmp_eq (tgt := 18) hx hb dX7_mayBegin_6 (by decide) (fun c_1 => ?_) (fun c_1 => ?_)
  · have h := h.1 c_1
    exact W18   S H locs ls hP hS hl h
  · have h := h.2 c_1
    refine lv_aload_n hx hb dX7_mayBegin_9 rfl (lv_at hl 0 rfl) ?_
    refine va_get (D := D) (ci := 7) (v := .int (S.1 0 7)) (C := RX7) (T := TX7) (N := 28) hx hb hT inX7 hown hK hP 0 rw_Model rfl 7 (by decide) (hT _ wf_X7_92) (fun _ h9 => h9) rfl dX7_mayBegin_10 ?_
    refine lv_bipush (v := 111) hx hb dX7_mayBegin_13 (by decide) ?_
    refine lv_icmp_ne (tgt := 51) hx hb dX7_mayBegin_15 (by decide) (fun c_4 => ?_) (fun c_4 => ?_)
    · have h := h.2 c_4
      refine lv_aload_n hx hb dX7_mayBegin_51 rfl (lv_at hl 0 rfl) ?_
      refine va_get (D := D) (ci := 7) (v := .int (S.1 0 10)) (C := RX7) (T := TX7) (N := 28) hx hb hT inX7 hown hK hP 0 rw_Model rfl 10 (by decide) (hT _ wf_X7_113) (fun _ h9 => h9) rfl dX7_mayBegin_52 ?_
      refine lv_aload_n hx hb dX7_mayBegin_55 rfl (lv_at hl 0 rfl) ?_
      refine va_get (D := D) (ci := 7) (v := .int (S.1 0 7)) (C := RX7) (T := TX7) (N := 28) hx hb hT inX7 hown hK hP 0 rw_Model rfl 7 (by decide) (hT _ wf_X7_92) (fun _ h9 => h9) rfl dX7_mayBegin_56 ?_
      refine rSi (As := [.int (S.1 0 7)]) (rest := [.int (S.1 0 10)]) hX ⟨hx, hb, hml, hown, hT⟩ (c_X7_fixed l D X hX H.size S (S.1 0 7) _ h) (gd_S wl_X7_116 wt_X7_fixed wn_X7 wc_X7_fixed) hd_X7_fixed ⟨rfl, rfl⟩ ⟨Nat.le_of_ble_eq_true rfl, Nat.le_of_ble_eq_true rfl⟩ hK hP hS hF rfl hl.1 rfl (Nat.le_of_ble_eq_true rfl) dX7_mayBegin_59 ⟨Nat.zero_le _, Nat.zero_le _⟩ (fun r_6 S_5 H locs h hP hS => ?_)
      refine lv_ishr hx hb dX7_mayBegin_62 ?_
      refine lv_iconst (v := 1) hx hb dX7_mayBegin_63 (by decide) ?_
      refine lv_iand hx hb dX7_mayBegin_64 ?_
      refine lv_if_ne (tgt := 72) hx hb dX7_mayBegin_65 (by decide) (fun c_7 => ?_) (fun c_7 => ?_)
      · have h := h.2 c_7
        refine lv_iconst (v := 0) hx hb dX7_mayBegin_72 (by decide) ?_
        exact W.zret (v := 0) hx hb hr rfl (fun t ht hW => ⟨⟨0, S_5, rfl, h, gB_of ht hP⟩, hS.F ht⟩) hS.2.2 dX7_mayBegin_73
      · have h := h.1 c_7
        refine lv_iconst (v := 1) hx hb dX7_mayBegin_68 (by decide) ?_
        refine lv_goto (tgt := 73) hx hb dX7_mayBegin_69 (by decide) ?_
        exact W.zret (v := 1) hx hb hr rfl (fun t ht hW => ⟨⟨1, S_5, rfl, h, gB_of ht hP⟩, hS.F ht⟩) hS.2.2 dX7_mayBegin_73
    · have h := h.1 c_4
      exact W18   S H locs ls hP hS hl h

abbrev rm_X7_readsItem : Room := { frames := 4, cells := 0, slots := 0, locals := 87 }
def q_X7_readsItem_177 (x1 : Int32) (post : CS → Prop) (y2 : Int32) (z0 : Int32) (z1 : Int32) (S : CS) : Prop := vp_in z1 12 ∧ (∀ S_9 : CS, S_9 = sti S 2 z1.toNatClampNeg z0 → (∀ u_10 : Int32, u_10 = ((S_9.1 0 10) ||| (1 <<< (y2 &&& 31))) → (∀ S_11 : CS, S_11 = sti S_9 0 10 u_10 → (post S_11))))
def p_X7_readsItem (S : CS) (x1 : Int32) (post : CS → Prop) : Prop := (x1 = 119 → (∀ x2_28 : Int32, x2_28 = S.1 2 6 → (p_X7_number S 1 9 (fun r_30 S_29 => (vp_in (6 + x2_28) 12 ∧ (∀ S_31 : CS, S_31 = sti S_29 3 ((6 + x2_28).toNatClampNeg) r_30 → (p_X7_number S_31 0 30 (fun r_33 S_32 => (vp_in x2_28 6 ∧ (∀ S_34 : CS, S_34 = sti S_32 4 x2_28.toNatClampNeg r_33 → (∀ u_35 : Int32, u_35 = ((S_34.1 2 6) + 1) → (∀ S_36 : CS, S_36 = sti S_34 2 6 u_35 → (post S_36))))))))))))) ∧ (¬ (x1 = 119) → ((x1 = 111 → (∀ x2_16 : Int32, x2_16 = (6 + (S.1 2 7)) → (p_X7_number S 1 60 (fun r_18 S_17 => (vp_in x2_16 12 ∧ (∀ S_19 : CS, S_19 = sti S_17 5 x2_16.toNatClampNeg r_18 → (p_X7_number S_19 1 60 (fun r_21 S_20 => (vp_in x2_16 12 ∧ (∀ S_22 : CS, S_22 = sti S_20 6 x2_16.toNatClampNeg r_21 → (p_X7_number S_22 0 99 (fun r_24 S_23 => (vp_in x2_16 12 ∧ (∀ S_25 : CS, S_25 = sti S_23 7 x2_16.toNatClampNeg r_24 → (∀ u_26 : Int32, u_26 = ((S_25.1 2 7) + 1) → (∀ S_27 : CS, S_27 = sti S_25 2 7 u_26 → (post S_27))))))))))))))))) ∧ (¬ (x1 = 111) → (p_X7_fixed S x1 (fun r_4 S_3 => ((r_4 = 2 → (p_X7_number S_3 3 15 (fun r_15 S_14 => (q_X7_readsItem_177 x1 post r_4 r_15 (6 + r_4) S_14)))) ∧ (¬ (r_4 = 2) → ((r_4 = 5 → (p_X7_number S_3 1 15 (fun r_13 S_12 => (q_X7_readsItem_177 x1 post r_4 r_13 (6 + r_4) S_12)))) ∧ (¬ (r_4 = 5) → (p_X7_number S_3 1 20 (fun r_8 S_7 => (q_X7_readsItem_177 x1 post r_4 r_8 (6 + r_4) S_7))))))))))))
set_option maxHeartbeats 4000000 in
set_option maxRecDepth 100000 in
theorem c_X7_readsItem (l : Launch) (D : va_G) (X : XE) (hX : Inj 18 X.1) (sz : Nat) (S : CS) (x1 : Int32) (post : CS → Prop) (h : p_X7_readsItem S x1 post) : Met l yX7_readsItem (Cond.code yX7_readsItem cX7_readsItem 3 none :: lw_gd) rm_X7_readsItem (gPc D (tyX X) (RW X) (FXr X) (AX 18 X.1 sz) sz S [.ref (X.1 0), .int x1]) (va_Qv post (gB D (RW X)) (AX 18 X.1 sz)) 0 0 (AX 18 X.1 sz) := by
  refine Met.ofW (cc := cX7_readsItem) (maxL := 3) (ret := none) (by decide) rfl ?_
  intro p e s m args below meth c s₁ B hml hv
  obtain ⟨rfl, hsz, hP, hK, hF⟩ := hv
  have hx := B.exec
  have hb := B.bytes
  have hr := B.returns
  have hts := atoms_spec (ws := (Cond.code yX7_readsItem cX7_readsItem 3 none :: lw_gd)) B.pre
  have hT : ∀ w ∈ lw_gd, w.before _ s = true := fun w h9 => hts w (List.mem_cons_of_mem _ h9)
  have hown : s.vm.findClass RX7 = some m.cls := findClass_of_methodNamed B.named
  have hlocks := B.notSynchronized
  subst hsz
  have hS : va_S (AX 18 X.1 s.heap.size) s.heap s.heap [] := va_S.rf
  have W177 : ∀ (y2 : Int32) (z0 : Int32) (z1 : Int32) (S : CS) (H : Heap) (locs : List Loc) (ls : Array Slot), va_P D vwCl (RW X S) H → va_S (AX 18 X.1 s.heap.size) s.heap H locs → lv_has ls 3 [(0, .ref (X.1 0)), (2, .int y2)] → q_X7_readsItem_177 x1 post y2 z0 z1 S → W p l e (headSpec (Cond.code yX7_readsItem cX7_readsItem 3 none :: lw_gd) rm_X7_readsItem).room s m ([.ref (X.1 0), .int x1] : List Value).toArray below meth c H locs 0 0 (MQ below (va_Qv post (gB D (RW X)) (AX 18 X.1 s.heap.size)) ([.ref (X.1 0), .int x1] : List Value).toArray s 0 0 (AX 18 X.1 s.heap.size)) (F0 m 177 ls [.int z0, .int z1, .ref (X.1 2)]) := by
    intro y2 z0 z1 S H locs ls hP hS hl h
    unfold q_X7_readsItem_177 at h
    obtain ⟨hi, h⟩ := h
    refine g_iast hx hb hK hP (gw_D hX) hS 2 rw_2 rfl hi z1.toNatClampNeg rfl dX7_readsItem_177 (fun H locs hP hS => ?_)
    have hP := rw_st (j := z1.toNatClampNeg) (x := z0) rfl hP
    obtain ⟨S_9, eS_9⟩ : ∃ z : CS, z = sti S 2 z1.toNatClampNeg z0 := ⟨_, rfl⟩
    rw [← eS_9] at hP
    have h := h S_9 eS_9
    refine lv_aload_n hx hb dX7_readsItem_178 rfl (lv_at hl 0 rfl) ?_
    refine lv_dup hx hb dX7_readsItem_179 rfl ?_
    refine va_get (D := D) (ci := 7) (v := .int (S_9.1 0 10)) (C := RX7) (T := TX7) (N := 28) hx hb hT inX7 hown hK hP 0 rw_Model rfl 10 (by decide) (hT _ wf_X7_113) (fun _ h9 => h9) rfl dX7_readsItem_180 ?_
    refine lv_iconst (v := 1) hx hb dX7_readsItem_183 (by decide) ?_
    refine lv_iload_n hx hb dX7_readsItem_184 rfl (lv_at hl 1 rfl) ?_
    refine lv_ishl hx hb dX7_readsItem_185 ?_
    refine lv_ior hx hb dX7_readsItem_186 ?_
    refine lv_topi (fun u_10 eu_10 => ?_)
    have h := h u_10 eu_10
    refine va_put (D := D) (ci := 7) (v := .int u_10) (ty := .int) (C := RX7) (T := TX7) (N := 28) hx hb hT inX7 tyX7 tyX7_ok nmX7 hown hK hP (gw_D hX) hS 0 rw_Model rfl 10 (by decide) (hT _ wf_X7_113) (fun _ h9 => h9) rfl (by decide +kernel) rfl rfl (Nat.le_of_ble_eq_true rfl) dX7_readsItem_187 (fun H locs hP _ hS => ?_)
    have hP := rw_st (j := 10) (x := u_10) rfl hP
    obtain ⟨S_11, eS_11⟩ : ∃ z : CS, z = sti S_9 0 10 u_10 := ⟨_, rfl⟩
    rw [← eS_11] at hP
    have h := h S_11 eS_11
    exact W.vret hx hb hr (fun t ht hW => ⟨⟨S_11, rfl, h, gB_of ht hP⟩, hS.F ht⟩) hS.2.2 dX7_readsItem_190
  have hl := lv_entry ([.ref (X.1 0), .int x1]) (n := 3) (Nat.le_of_ble_eq_true rfl)
  rw [lg_entry_eq]
  generalize (lg_sl ([.ref (X.1 0), .int x1]) ++ List.replicate (3 - (lg_sl ([.ref (X.1 0), .int x1])).length) Slot.unset).toArray = ls at hl ⊢
  have hl : lv_has ls 3 [(0, .ref (X.1 0)), (1, .int x1)] := hl
  obtain ⟨H, hH⟩ : ∃ H : Heap, H = s.heap := ⟨_, rfl⟩
  obtain ⟨locs, hlc⟩ : ∃ q : List Loc, q = [] := ⟨_, rfl⟩
  have hS : va_S (AX 18 X.1 s.heap.size) s.heap H locs := by rw [hH, hlc]; exact hS
  have hP : va_P D vwCl (RW X S) H := by rw [hH]; exact hP
  show W p l e (headSpec (Cond.code yX7_readsItem cX7_readsItem 3 none :: lw_gd) rm_X7_readsItem).room s m ([.ref (X.1 0), .int x1] : List Value).toArray below meth c s.heap [] 0 0 (MQ below (va_Qv post (gB D (RW X)) (AX 18 X.1 s.heap.size)) ([.ref (X.1 0), .int x1] : List Value).toArray s 0 0 (AX 18 X.1 s.heap.size)) _
  suffices hgo : W p l e (headSpec (Cond.code yX7_readsItem cX7_readsItem 3 none :: lw_gd) rm_X7_readsItem).room s m ([.ref (X.1 0), .int x1] : List Value).toArray below meth c H locs 0 0 (MQ below (va_Qv post (gB D (RW X)) (AX 18 X.1 s.heap.size)) ([.ref (X.1 0), .int x1] : List Value).toArray s 0 0 (AX 18 X.1 s.heap.size)) (F0 m 0 ls []) from by rw [hH, hlc] at hgo; exact hgo
  unfold p_X7_readsItem at h
  refine lv_iload_n hx hb dX7_readsItem_0 rfl (lv_at hl 1 rfl) ?_
  refine lv_bipush (v := 119) hx hb dX7_readsItem_1 (by decide) ?_
  refine lv_icmp_ne (tgt := 57) hx hb dX7_readsItem_3 (by decide) (fun c_1 => ?_) (fun c_1 => ?_)
  · have h := h.2 c_1
    refine lv_iload_n hx hb dX7_readsItem_57 rfl (lv_at hl 1 rfl) ?_
    refine lv_bipush (v := 111) hx hb dX7_readsItem_58 (by decide) ?_
    refine lv_icmp_ne (tgt := 127) hx hb dX7_readsItem_60 (by decide) (fun c_2 => ?_) (fun c_2 => ?_)
    · have h := h.2 c_2
      refine lv_iload_n hx hb dX7_readsItem_127 rfl (lv_at hl 1 rfl) ?_
      refine rSi (As := [.int x1]) (rest := []) hX ⟨hx, hb, hml, hown, hT⟩ (c_X7_fixed l D X hX H.size S x1 _ h) (gd_S wl_X7_116 wt_X7_fixed wn_X7 wc_X7_fixed) hd_X7_fixed ⟨rfl, rfl⟩ ⟨Nat.le_of_ble_eq_true rfl, Nat.le_of_ble_eq_true rfl⟩ hK hP hS hF rfl hl.1 rfl (Nat.le_of_ble_eq_true rfl) dX7_readsItem_128 ⟨Nat.zero_le _, Nat.zero_le _⟩ (fun r_4 S_3 H locs h hP hS => ?_)
      refine lv_istore_n (lv' := [(2, .int r_4), (0, .ref (X.1 0)), (1, .int x1)]) hx hb dX7_readsItem_131 rfl hl (by decide) rfl (fun ls hl => ?_)
      refine lv_aload_n hx hb dX7_readsItem_132 rfl (lv_at hl 1 rfl) ?_
      refine va_get (D := D) (ci := 7) (v := .ref (X.1 2)) (C := RX7) (T := TX7) (N := 28) hx hb hT inX7 hown hK hP 0 rw_Model rfl 9 (by decide) (hT _ wf_X7_13) (fun _ h9 => h9) rfl dX7_readsItem_133 ?_
      refine lv_bipush (v := 6) hx hb dX7_readsItem_136 (by decide) ?_
      refine lv_iload_n hx hb dX7_readsItem_138 rfl (lv_at hl 0 rfl) ?_
      refine lv_iadd hx hb dX7_readsItem_139 ?_
      refine lv_iload_n hx hb dX7_readsItem_140 rfl (lv_at hl 0 rfl) ?_
      refine lv_iconst (v := 2) hx hb dX7_readsItem_141 (by decide) ?_
      refine lv_icmp_ne (tgt := 155) hx hb dX7_readsItem_142 (by decide) (fun c_5 => ?_) (fun c_5 => ?_)
      · have h := h.2 c_5
        refine lv_iload_n hx hb dX7_readsItem_155 rfl (lv_at hl 0 rfl) ?_
        refine lv_iconst (v := 5) hx hb dX7_readsItem_156 (by decide) ?_
        refine lv_icmp_ne (tgt := 170) hx hb dX7_readsItem_157 (by decide) (fun c_6 => ?_) (fun c_6 => ?_)
        · have h := h.2 c_6
          refine lv_aload_n hx hb dX7_readsItem_170 rfl (lv_at hl 1 rfl) ?_
          refine lv_iconst (v := 1) hx hb dX7_readsItem_171 (by decide) ?_
          refine lv_bipush (v := 20) hx hb dX7_readsItem_172 (by decide) ?_
          refine rVi (As := [.int 1, .int 20]) (rest := [.int (6 + r_4), .ref (X.1 2)]) hX ⟨hx, hb, hml, hown, hT⟩ (c_X7_number l D X hX H.size S_3 1 20 _ h) (gd_V wl_X7_119 wi_X7_number wv_X7_number wn_X7 wc_X7_number) rfl hd_X7_number ⟨rfl, rfl⟩ ⟨Nat.le_of_ble_eq_true rfl, Nat.le_of_ble_eq_true rfl⟩ (va_recv hK hP (ci := 7) (q0 := 0) rfl rw_Model) hK hP hS hF rfl hl.1 rfl (Nat.le_of_ble_eq_true rfl) dX7_readsItem_174 ⟨Nat.zero_le _, Nat.zero_le _⟩ (fun r_8 S_7 H locs h hP hS => ?_)
          exact W177  r_4 r_8 (6 + r_4) S_7 H locs ls hP hS (lv_sub hl [1, 0] rfl) h
        · have h := h.1 c_6
          refine lv_aload_n hx hb dX7_readsItem_160 rfl (lv_at hl 1 rfl) ?_
          refine lv_iconst (v := 1) hx hb dX7_readsItem_161 (by decide) ?_
          refine lv_bipush (v := 15) hx hb dX7_readsItem_162 (by decide) ?_
          refine rVi (As := [.int 1, .int 15]) (rest := [.int (6 + r_4), .ref (X.1 2)]) hX ⟨hx, hb, hml, hown, hT⟩ (c_X7_number l D X hX H.size S_3 1 15 _ h) (gd_V wl_X7_119 wi_X7_number wv_X7_number wn_X7 wc_X7_number) rfl hd_X7_number ⟨rfl, rfl⟩ ⟨Nat.le_of_ble_eq_true rfl, Nat.le_of_ble_eq_true rfl⟩ (va_recv hK hP (ci := 7) (q0 := 0) rfl rw_Model) hK hP hS hF rfl hl.1 rfl (Nat.le_of_ble_eq_true rfl) dX7_readsItem_164 ⟨Nat.zero_le _, Nat.zero_le _⟩ (fun r_13 S_12 H locs h hP hS => ?_)
          refine lv_goto (tgt := 177) hx hb dX7_readsItem_167 (by decide) ?_
          exact W177  r_4 r_13 (6 + r_4) S_12 H locs ls hP hS (lv_sub hl [1, 0] rfl) h
      · have h := h.1 c_5
        refine lv_aload_n hx hb dX7_readsItem_145 rfl (lv_at hl 1 rfl) ?_
        refine lv_iconst (v := 3) hx hb dX7_readsItem_146 (by decide) ?_
        refine lv_bipush (v := 15) hx hb dX7_readsItem_147 (by decide) ?_
        refine rVi (As := [.int 3, .int 15]) (rest := [.int (6 + r_4), .ref (X.1 2)]) hX ⟨hx, hb, hml, hown, hT⟩ (c_X7_number l D X hX H.size S_3 3 15 _ h) (gd_V wl_X7_119 wi_X7_number wv_X7_number wn_X7 wc_X7_number) rfl hd_X7_number ⟨rfl, rfl⟩ ⟨Nat.le_of_ble_eq_true rfl, Nat.le_of_ble_eq_true rfl⟩ (va_recv hK hP (ci := 7) (q0 := 0) rfl rw_Model) hK hP hS hF rfl hl.1 rfl (Nat.le_of_ble_eq_true rfl) dX7_readsItem_149 ⟨Nat.zero_le _, Nat.zero_le _⟩ (fun r_15 S_14 H locs h hP hS => ?_)
        refine lv_goto (tgt := 177) hx hb dX7_readsItem_152 (by decide) ?_
        exact W177  r_4 r_15 (6 + r_4) S_14 H locs ls hP hS (lv_sub hl [1, 0] rfl) h
    · have h := h.1 c_2
      refine lv_bipush (v := 6) hx hb dX7_readsItem_63 (by decide) ?_
      refine lv_aload_n hx hb dX7_readsItem_65 rfl (lv_at hl 0 rfl) ?_
      refine va_get (D := D) (ci := 7) (v := .ref (X.1 2)) (C := RX7) (T := TX7) (N := 28) hx hb hT inX7 hown hK hP 0 rw_Model rfl 9 (by decide) (hT _ wf_X7_13) (fun _ h9 => h9) rfl dX7_readsItem_66 ?_
      refine lv_bipush (v := 7) hx hb dX7_readsItem_69 (by decide) ?_
      refine g_iald hx hb hK hP 2 rw_2 rfl (vpc (by decide)) 7 rfl dX7_readsItem_71 ?_
      refine lv_iadd hx hb dX7_readsItem_72 ?_
      refine lv_topi (fun x2_16 ex2_16 => ?_)
      have h := h x2_16 ex2_16
      refine lv_istore_n (lv' := [(2, .int x2_16), (0, .ref (X.1 0)), (1, .int x1)]) hx hb dX7_readsItem_73 rfl hl (by decide) rfl (fun ls hl => ?_)
      refine lv_aload_n hx hb dX7_readsItem_74 rfl (lv_at hl 1 rfl) ?_
      refine va_get (D := D) (ci := 7) (v := .ref (X.1 5)) (C := RX7) (T := TX7) (N := 28) hx hb hT inX7 hown hK hP 0 rw_Model rfl 13 (by decide) (hT _ wf_X7_22) (fun _ h9 => h9) rfl dX7_readsItem_75 ?_
      refine lv_iload_n hx hb dX7_readsItem_78 rfl (lv_at hl 0 rfl) ?_
      refine lv_aload_n hx hb dX7_readsItem_79 rfl (lv_at hl 1 rfl) ?_
      refine lv_iconst (v := 1) hx hb dX7_readsItem_80 (by decide) ?_
      refine lv_bipush (v := 60) hx hb dX7_readsItem_81 (by decide) ?_
      refine rVi (As := [.int 1, .int 60]) (rest := [.int x2_16, .ref (X.1 5)]) hX ⟨hx, hb, hml, hown, hT⟩ (c_X7_number l D X hX H.size S 1 60 _ h) (gd_V wl_X7_119 wi_X7_number wv_X7_number wn_X7 wc_X7_number) rfl hd_X7_number ⟨rfl, rfl⟩ ⟨Nat.le_of_ble_eq_true rfl, Nat.le_of_ble_eq_true rfl⟩ (va_recv hK hP (ci := 7) (q0 := 0) rfl rw_Model) hK hP hS hF rfl hl.1 rfl (Nat.le_of_ble_eq_true rfl) dX7_readsItem_83 ⟨Nat.zero_le _, Nat.zero_le _⟩ (fun r_18 S_17 H locs h hP hS => ?_)
      obtain ⟨hi, h⟩ := h
      refine g_iast hx hb hK hP (gw_D hX) hS 5 rw_5 rfl hi x2_16.toNatClampNeg rfl dX7_readsItem_86 (fun H locs hP hS => ?_)
      have hP := rw_st (j := x2_16.toNatClampNeg) (x := r_18) rfl hP
      obtain ⟨S_19, eS_19⟩ : ∃ z : CS, z = sti S_17 5 x2_16.toNatClampNeg r_18 := ⟨_, rfl⟩
      rw [← eS_19] at hP
      have h := h S_19 eS_19
      refine lv_aload_n hx hb dX7_readsItem_87 rfl (lv_at hl 1 rfl) ?_
      refine va_get (D := D) (ci := 7) (v := .ref (X.1 6)) (C := RX7) (T := TX7) (N := 28) hx hb hT inX7 hown hK hP 0 rw_Model rfl 14 (by decide) (hT _ wf_X7_25) (fun _ h9 => h9) rfl dX7_readsItem_88 ?_
      refine lv_iload_n hx hb dX7_readsItem_91 rfl (lv_at hl 0 rfl) ?_
      refine lv_aload_n hx hb dX7_readsItem_92 rfl (lv_at hl 1 rfl) ?_
      refine lv_iconst (v := 1) hx hb dX7_readsItem_93 (by decide) ?_
      refine lv_bipush (v := 60) hx hb dX7_readsItem_94 (by decide) ?_
      refine rVi (As := [.int 1, .int 60]) (rest := [.int x2_16, .ref (X.1 6)]) hX ⟨hx, hb, hml, hown, hT⟩ (c_X7_number l D X hX H.size S_19 1 60 _ h) (gd_V wl_X7_119 wi_X7_number wv_X7_number wn_X7 wc_X7_number) rfl hd_X7_number ⟨rfl, rfl⟩ ⟨Nat.le_of_ble_eq_true rfl, Nat.le_of_ble_eq_true rfl⟩ (va_recv hK hP (ci := 7) (q0 := 0) rfl rw_Model) hK hP hS hF rfl hl.1 rfl (Nat.le_of_ble_eq_true rfl) dX7_readsItem_96 ⟨Nat.zero_le _, Nat.zero_le _⟩ (fun r_21 S_20 H locs h hP hS => ?_)
      obtain ⟨hi, h⟩ := h
      refine g_iast hx hb hK hP (gw_D hX) hS 6 rw_6 rfl hi x2_16.toNatClampNeg rfl dX7_readsItem_99 (fun H locs hP hS => ?_)
      have hP := rw_st (j := x2_16.toNatClampNeg) (x := r_21) rfl hP
      obtain ⟨S_22, eS_22⟩ : ∃ z : CS, z = sti S_20 6 x2_16.toNatClampNeg r_21 := ⟨_, rfl⟩
      rw [← eS_22] at hP
      have h := h S_22 eS_22
      refine lv_aload_n hx hb dX7_readsItem_100 rfl (lv_at hl 1 rfl) ?_
      refine va_get (D := D) (ci := 7) (v := .ref (X.1 7)) (C := RX7) (T := TX7) (N := 28) hx hb hT inX7 hown hK hP 0 rw_Model rfl 15 (by decide) (hT _ wf_X7_28) (fun _ h9 => h9) rfl dX7_readsItem_101 ?_
      refine lv_iload_n hx hb dX7_readsItem_104 rfl (lv_at hl 0 rfl) ?_
      refine lv_aload_n hx hb dX7_readsItem_105 rfl (lv_at hl 1 rfl) ?_
      refine lv_iconst (v := 0) hx hb dX7_readsItem_106 (by decide) ?_
      refine lv_bipush (v := 99) hx hb dX7_readsItem_107 (by decide) ?_
      refine rVi (As := [.int 0, .int 99]) (rest := [.int x2_16, .ref (X.1 7)]) hX ⟨hx, hb, hml, hown, hT⟩ (c_X7_number l D X hX H.size S_22 0 99 _ h) (gd_V wl_X7_119 wi_X7_number wv_X7_number wn_X7 wc_X7_number) rfl hd_X7_number ⟨rfl, rfl⟩ ⟨Nat.le_of_ble_eq_true rfl, Nat.le_of_ble_eq_true rfl⟩ (va_recv hK hP (ci := 7) (q0 := 0) rfl rw_Model) hK hP hS hF rfl hl.1 rfl (Nat.le_of_ble_eq_true rfl) dX7_readsItem_109 ⟨Nat.zero_le _, Nat.zero_le _⟩ (fun r_24 S_23 H locs h hP hS => ?_)
      obtain ⟨hi, h⟩ := h
      refine g_iast hx hb hK hP (gw_D hX) hS 7 rw_7 rfl hi x2_16.toNatClampNeg rfl dX7_readsItem_112 (fun H locs hP hS => ?_)
      have hP := rw_st (j := x2_16.toNatClampNeg) (x := r_24) rfl hP
      obtain ⟨S_25, eS_25⟩ : ∃ z : CS, z = sti S_23 7 x2_16.toNatClampNeg r_24 := ⟨_, rfl⟩
      rw [← eS_25] at hP
      have h := h S_25 eS_25
      refine lv_aload_n hx hb dX7_readsItem_113 rfl (lv_at hl 1 rfl) ?_
      refine va_get (D := D) (ci := 7) (v := .ref (X.1 2)) (C := RX7) (T := TX7) (N := 28) hx hb hT inX7 hown hK hP 0 rw_Model rfl 9 (by decide) (hT _ wf_X7_13) (fun _ h9 => h9) rfl dX7_readsItem_114 ?_
      refine lv_bipush (v := 7) hx hb dX7_readsItem_117 (by decide) ?_
      refine lv_dup2_11 hx hb dX7_readsItem_119 rfl rfl ?_
      refine g_iald hx hb hK hP 2 rw_2 rfl (vpc (by decide)) 7 rfl dX7_readsItem_120 ?_
      refine lv_iconst (v := 1) hx hb dX7_readsItem_121 (by decide) ?_
      refine lv_iadd hx hb dX7_readsItem_122 ?_
      refine lv_topi (fun u_26 eu_26 => ?_)
      have h := h u_26 eu_26
      refine g_iast hx hb hK hP (gw_D hX) hS 2 rw_2 rfl (vpc (by decide)) 7 rfl dX7_readsItem_123 (fun H locs hP hS => ?_)
      have hP := rw_st (j := 7) (x := u_26) rfl hP
      obtain ⟨S_27, eS_27⟩ : ∃ z : CS, z = sti S_25 2 7 u_26 := ⟨_, rfl⟩
      rw [← eS_27] at hP
      have h := h S_27 eS_27
      refine lv_goto (tgt := 190) hx hb dX7_readsItem_124 (by decide) ?_
      exact W.vret hx hb hr (fun t ht hW => ⟨⟨S_27, rfl, h, gB_of ht hP⟩, hS.F ht⟩) hS.2.2 dX7_readsItem_190
  · have h := h.1 c_1
    refine lv_aload_n hx hb dX7_readsItem_6 rfl (lv_at hl 0 rfl) ?_
    refine va_get (D := D) (ci := 7) (v := .ref (X.1 2)) (C := RX7) (T := TX7) (N := 28) hx hb hT inX7 hown hK hP 0 rw_Model rfl 9 (by decide) (hT _ wf_X7_13) (fun _ h9 => h9) rfl dX7_readsItem_7 ?_
    refine lv_bipush (v := 6) hx hb dX7_readsItem_10 (by decide) ?_
    refine g_iald hx hb hK hP 2 rw_2 rfl (vpc (by decide)) 6 rfl dX7_readsItem_12 ?_
    refine lv_topi (fun x2_28 ex2_28 => ?_)
    have h := h x2_28 ex2_28
    refine lv_istore_n (lv' := [(2, .int x2_28), (0, .ref (X.1 0)), (1, .int x1)]) hx hb dX7_readsItem_13 rfl hl (by decide) rfl (fun ls hl => ?_)
    refine lv_aload_n hx hb dX7_readsItem_14 rfl (lv_at hl 1 rfl) ?_
    refine va_get (D := D) (ci := 7) (v := .ref (X.1 3)) (C := RX7) (T := TX7) (N := 28) hx hb hT inX7 hown hK hP 0 rw_Model rfl 11 (by decide) (hT _ wf_X7_16) (fun _ h9 => h9) rfl dX7_readsItem_15 ?_
    refine lv_bipush (v := 6) hx hb dX7_readsItem_18 (by decide) ?_
    refine lv_iload_n hx hb dX7_readsItem_20 rfl (lv_at hl 0 rfl) ?_
    refine lv_iadd hx hb dX7_readsItem_21 ?_
    refine lv_aload_n hx hb dX7_readsItem_22 rfl (lv_at hl 1 rfl) ?_
    refine lv_iconst (v := 1) hx hb dX7_readsItem_23 (by decide) ?_
    refine lv_bipush (v := 9) hx hb dX7_readsItem_24 (by decide) ?_
    refine rVi (As := [.int 1, .int 9]) (rest := [.int (6 + x2_28), .ref (X.1 3)]) hX ⟨hx, hb, hml, hown, hT⟩ (c_X7_number l D X hX H.size S 1 9 _ h) (gd_V wl_X7_119 wi_X7_number wv_X7_number wn_X7 wc_X7_number) rfl hd_X7_number ⟨rfl, rfl⟩ ⟨Nat.le_of_ble_eq_true rfl, Nat.le_of_ble_eq_true rfl⟩ (va_recv hK hP (ci := 7) (q0 := 0) rfl rw_Model) hK hP hS hF rfl hl.1 rfl (Nat.le_of_ble_eq_true rfl) dX7_readsItem_26 ⟨Nat.zero_le _, Nat.zero_le _⟩ (fun r_30 S_29 H locs h hP hS => ?_)
    obtain ⟨hi, h⟩ := h
    refine g_iast hx hb hK hP (gw_D hX) hS 3 rw_3 rfl hi ((6 + x2_28).toNatClampNeg) rfl dX7_readsItem_29 (fun H locs hP hS => ?_)
    have hP := rw_st (j := (6 + x2_28).toNatClampNeg) (x := r_30) rfl hP
    obtain ⟨S_31, eS_31⟩ : ∃ z : CS, z = sti S_29 3 ((6 + x2_28).toNatClampNeg) r_30 := ⟨_, rfl⟩
    rw [← eS_31] at hP
    have h := h S_31 eS_31
    refine lv_aload_n hx hb dX7_readsItem_30 rfl (lv_at hl 1 rfl) ?_
    refine va_get (D := D) (ci := 7) (v := .ref (X.1 4)) (C := RX7) (T := TX7) (N := 28) hx hb hT inX7 hown hK hP 0 rw_Model rfl 12 (by decide) (hT _ wf_X7_19) (fun _ h9 => h9) rfl dX7_readsItem_31 ?_
    refine lv_iload_n hx hb dX7_readsItem_34 rfl (lv_at hl 0 rfl) ?_
    refine lv_aload_n hx hb dX7_readsItem_35 rfl (lv_at hl 1 rfl) ?_
    refine lv_iconst (v := 0) hx hb dX7_readsItem_36 (by decide) ?_
    refine lv_bipush (v := 30) hx hb dX7_readsItem_37 (by decide) ?_
    refine rVi (As := [.int 0, .int 30]) (rest := [.int x2_28, .ref (X.1 4)]) hX ⟨hx, hb, hml, hown, hT⟩ (c_X7_number l D X hX H.size S_31 0 30 _ h) (gd_V wl_X7_119 wi_X7_number wv_X7_number wn_X7 wc_X7_number) rfl hd_X7_number ⟨rfl, rfl⟩ ⟨Nat.le_of_ble_eq_true rfl, Nat.le_of_ble_eq_true rfl⟩ (va_recv hK hP (ci := 7) (q0 := 0) rfl rw_Model) hK hP hS hF rfl hl.1 rfl (Nat.le_of_ble_eq_true rfl) dX7_readsItem_39 ⟨Nat.zero_le _, Nat.zero_le _⟩ (fun r_33 S_32 H locs h hP hS => ?_)
    obtain ⟨hi, h⟩ := h
    refine g_iast hx hb hK hP (gw_D hX) hS 4 rw_4 rfl hi x2_28.toNatClampNeg rfl dX7_readsItem_42 (fun H locs hP hS => ?_)
    have hP := rw_st (j := x2_28.toNatClampNeg) (x := r_33) rfl hP
    obtain ⟨S_34, eS_34⟩ : ∃ z : CS, z = sti S_32 4 x2_28.toNatClampNeg r_33 := ⟨_, rfl⟩
    rw [← eS_34] at hP
    have h := h S_34 eS_34
    refine lv_aload_n hx hb dX7_readsItem_43 rfl (lv_at hl 1 rfl) ?_
    refine va_get (D := D) (ci := 7) (v := .ref (X.1 2)) (C := RX7) (T := TX7) (N := 28) hx hb hT inX7 hown hK hP 0 rw_Model rfl 9 (by decide) (hT _ wf_X7_13) (fun _ h9 => h9) rfl dX7_readsItem_44 ?_
    refine lv_bipush (v := 6) hx hb dX7_readsItem_47 (by decide) ?_
    refine lv_dup2_11 hx hb dX7_readsItem_49 rfl rfl ?_
    refine g_iald hx hb hK hP 2 rw_2 rfl (vpc (by decide)) 6 rfl dX7_readsItem_50 ?_
    refine lv_iconst (v := 1) hx hb dX7_readsItem_51 (by decide) ?_
    refine lv_iadd hx hb dX7_readsItem_52 ?_
    refine lv_topi (fun u_35 eu_35 => ?_)
    have h := h u_35 eu_35
    refine g_iast hx hb hK hP (gw_D hX) hS 2 rw_2 rfl (vpc (by decide)) 6 rfl dX7_readsItem_53 (fun H locs hP hS => ?_)
    have hP := rw_st (j := 6) (x := u_35) rfl hP
    obtain ⟨S_36, eS_36⟩ : ∃ z : CS, z = sti S_34 2 6 u_35 := ⟨_, rfl⟩
    rw [← eS_36] at hP
    have h := h S_36 eS_36
    refine lv_goto (tgt := 190) hx hb dX7_readsItem_54 (by decide) ?_
    exact W.vret hx hb hr (fun t ht hW => ⟨⟨S_36, rfl, h, gB_of ht hP⟩, hS.F ht⟩) hS.2.2 dX7_readsItem_190
