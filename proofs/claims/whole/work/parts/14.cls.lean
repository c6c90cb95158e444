abbrev rm_X6_goesAhead : Room := { frames := 2, cells := 0, slots := 0, locals := 43 }
def p_X6_goesAhead (S : CS) (x1 : Int32) (x2 : Int32) (x3 : Int32) (post : Int32 → CS → Prop) : Prop := (x3 = 0 → ((S.2.1 < 2) ∧ (p_X5_value S S.2.1 2 x1 (fun r_17 S_16 => ((S_16.2.1 < 2) ∧ (p_X5_value S_16 S_16.2.1 2 x2 (fun r_20 S_19 => ((r_20 ≤ r_17 → (post 0 S_19)) ∧ (¬ (r_20 ≤ r_17) → (post 1 S_19)))))))))) ∧ (¬ (x3 = 0) → ((S.2.1 < 2) ∧ (p_X5_value S S.2.1 4 x1 (fun r_4 S_3 => ((S_3.2.1 < 2) ∧ (p_X5_value S_3 S_3.2.1 3 x2 (fun r_7 S_6 => ((S_6.2.1 < 2) ∧ (p_X5_value S_6 S_6.2.1 4 x2 (fun r_10 S_9 => ((S_9.2.1 < 2) ∧ (p_X5_value S_9 S_9.2.1 3 x1 (fun r_13 S_12 => (((r_4 * r_7) ≤ (r_10 * r_13) → (post 0 S_12)) ∧ (¬ ((r_4 * r_7) ≤ (r_10 * r_13)) → (post 1 S_12))))))))))))))))
set_option maxHeartbeats 4000000 in
set_option maxRecDepth 100000 in
theorem c_X6_goesAhead (l : Launch) (D : va_G) (X : XE) (hX : Inj 75 X.1) (sz : Nat) (S : CS) (x1 : Int32) (x2 : Int32) (x3 : Int32) (post : Int32 → CS → Prop) (h : p_X6_goesAhead S x1 x2 x3 post) : Met l yX6_goesAhead (Cond.code yX6_goesAhead cX6_goesAhead 4 (some .boolean) :: lw_gd) rm_X6_goesAhead (gPc D (tyX X) (CW X) (FXc X) (AX 75 X.1 sz) sz S [.ref (X.1 0), .int x1, .int x2, .int x3]) (va_Qi post (gB D (CW X)) (AX 75 X.1 sz)) 0 0 (AX 75 X.1 sz) := by
  refine Met.ofW (cc := cX6_goesAhead) (maxL := 4) (ret := (some .boolean)) (by decide) rfl ?_
  intro p e s m args below meth c s₁ B hml hv
  obtain ⟨rfl, hsz, hP, hK, hF⟩ := hv
  have hx := B.exec
  have hb := B.bytes
  have hr := B.returns
  have hts := atoms_spec (ws := (Cond.code yX6_goesAhead cX6_goesAhead 4 (some .boolean) :: lw_gd)) B.pre
  have hT : ∀ w ∈ lw_gd, w.before _ s = true := fun w h9 => hts w (List.mem_cons_of_mem _ h9)
  have hown : s.vm.findClass RX6 = some m.cls := findClass_of_methodNamed B.named
  have hlocks := B.notSynchronized
  subst hsz
  have hS : va_S (AX 75 X.1 s.heap.size) s.heap s.heap [] := va_S.rf
  have hl := lv_entry ([.ref (X.1 0), .int x1, .int x2, .int x3]) (n := 4) (Nat.le_of_ble_eq_true rfl)
  rw [lg_entry_eq]
  generalize (lg_sl ([.ref (X.1 0), .int x1, .int x2, .int x3]) ++ List.replicate (4 - (lg_sl ([.ref (X.1 0), .int x1, .int x2, .int x3])).length) Slot.unset).toArray = ls at hl ⊢
  have hl : lv_has ls 4 [(0, .ref (X.1 0)), (1, .int x1), (2, .int x2), (3, .int x3)] := hl
  obtain ⟨H, hH⟩ : ∃ H : Heap, H = s.heap := ⟨_, rfl⟩
  obtain ⟨locs, hlc⟩ : ∃ q : List Loc, q = [] := ⟨_, rfl⟩
  have hS : va_S (AX 75 X.1 s.heap.size) s.heap H locs := by rw [hH, hlc]; exact hS
  have hP : va_P D vwCl (CW X S) H := by rw [hH]; exact hP
  show W p l e (headSpec (Cond.code yX6_goesAhead cX6_goesAhead 4 (some .boolean) :: lw_gd) rm_X6_goesAhead).room s m ([.ref (X.1 0), .int x1, .int x2, .int x3] : List Value).toArray below meth c s.heap [] 0 0 (MQ below (va_Qi post (gB D (CW X)) (AX 75 X.1 s.heap.size)) ([.ref (X.1 0), .int x1, .int x2, .int x3] : List Value).toArray s 0 0 (AX 75 X.1 s.heap.size)) _
  suffices hgo : W p l e (headSpec (Cond.code yX6_goesAhead cX6_goesAhead 4 (some .boolean) :: lw_gd) rm_X6_goesAhead).room s m ([.ref (X.1 0), .int x1, .int x2, .int x3] : List Value).toArray below meth c H locs 0 0 (MQ below (va_Qi post (gB D (CW X)) (AX 75 X.1 s.heap.size)) ([.ref (X.1 0), .int x1, .int x2, .int x3] : List Value).toArray s 0 0 (AX 75 X.1 s.heap.size)) (F0 m 0 ls []) from by rw [hH, hlc] at hgo; exact hgo
  unfold p_X6_goesAhead at h
  refine lv_iload_n hx hb dX6_goesAhead_0 rfl (lv_at hl 3 rfl) ?_
  refine lv_if_ne (tgt := 31) hx hb dX6_goesAhead_1 (by decide) (fun c_1 => ?_) (fun c_1 => ?_)
  · have h := h.2 c_1
    refine lv_aload_n hx hb dX6_goesAhead_31 rfl (lv_at hl 0 rfl) ?_
    obtain ⟨ht_2, h⟩ := h
    refine va_get (D := D) (ci := 6) (v := .ref (X.1 (to S.2.1))) (C := RX6) (T := TX6) (N := 16) hx hb hT inX6 hown hK hP 0 cw_Yard rfl 1 (by decide) (hT _ wf_X6_19) (fun _ h9 => h9) rfl dX6_goesAhead_32 ?_
    refine lv_iconst (v := 4) hx hb dX6_goesAhead_35 (by decide) ?_
    refine lv_iload_n hx hb dX6_goesAhead_36 rfl (lv_at hl 1 rfl) ?_
    refine cVi (As := [.int 4, .int x1]) (rest := []) hX ⟨hx, hb, hml, hown, hT⟩ (c_X5_value l D X hX H.size S S.2.1 (by omega) 4 x1 _ h) (gd_V wl_X6_95 wi_X5_value wv_X5_value wn_X5 wc_X5_value) rfl hd_X5_value ⟨rfl, rfl⟩ ⟨Nat.le_of_ble_eq_true rfl, Nat.le_of_ble_eq_true rfl⟩ (va_recv hK hP (ci := 5) (q0 := (to S.2.1)) rfl (cw_Told (t := S.2.1) (by omega))) hK hP hS hF rfl hl.1 rfl (Nat.le_of_ble_eq_true rfl) dX6_goesAhead_37 ⟨Nat.zero_le _, Nat.zero_le _⟩ (fun r_4 S_3 H locs h hP hS => ?_)
    refine lv_aload_n hx hb dX6_goesAhead_40 rfl (lv_at hl 0 rfl) ?_
    obtain ⟨ht_5, h⟩ := h
    refine va_get (D := D) (ci := 6) (v := .ref (X.1 (to S_3.2.1))) (C := RX6) (T := TX6) (N := 16) hx hb hT inX6 hown hK hP 0 cw_Yard rfl 1 (by decide) (hT _ wf_X6_19) (fun _ h9 => h9) rfl dX6_goesAhead_41 ?_
    refine lv_iconst (v := 3) hx hb dX6_goesAhead_44 (by decide) ?_
    refine lv_iload_n hx hb dX6_goesAhead_45 rfl (lv_at hl 2 rfl) ?_
    refine cVi (As := [.int 3, .int x2]) (rest := [.int r_4]) hX ⟨hx, hb, hml, hown, hT⟩ (c_X5_value l D X hX H.size S_3 S_3.2.1 (by omega) 3 x2 _ h) (gd_V wl_X6_95 wi_X5_value wv_X5_value wn_X5 wc_X5_value) rfl hd_X5_value ⟨rfl, rfl⟩ ⟨Nat.le_of_ble_eq_true rfl, Nat.le_of_ble_eq_true rfl⟩ (va_recv hK hP (ci := 5) (q0 := (to S_3.2.1)) rfl (cw_Told (t := S_3.2.1) (by omega))) hK hP hS hF rfl hl.1 rfl (Nat.le_of_ble_eq_true rfl) dX6_goesAhead_46 ⟨Nat.zero_le _, Nat.zero_le _⟩ (fun r_7 S_6 H locs h hP hS => ?_)
    refine lv_imul hx hb dX6_goesAhead_49 ?_
    refine lv_aload_n hx hb dX6_goesAhead_50 rfl (lv_at hl 0 rfl) ?_
    obtain ⟨ht_8, h⟩ := h
    refine va_get (D := D) (ci := 6) (v := .ref (X.1 (to S_6.2.1))) (C := RX6) (T := TX6) (N := 16) hx hb hT inX6 hown hK hP 0 cw_Yard rfl 1 (by decide) (hT _ wf_X6_19) (fun _ h9 => h9) rfl dX6_goesAhead_51 ?_
    refine lv_iconst (v := 4) hx hb dX6_goesAhead_54 (by decide) ?_
    refine lv_iload_n hx hb dX6_goesAhead_55 rfl (lv_at hl 2 rfl) ?_
    refine cVi (As := [.int 4, .int x2]) (rest := [.int (r_4 * r_7)]) hX ⟨hx, hb, hml, hown, hT⟩ (c_X5_value l D X hX H.size S_6 S_6.2.1 (by omega) 4 x2 _ h) (gd_V wl_X6_95 wi_X5_value wv_X5_value wn_X5 wc_X5_value) rfl hd_X5_value ⟨rfl, rfl⟩ ⟨Nat.le_of_ble_eq_true rfl, Nat.le_of_ble_eq_true rfl⟩ (va_recv hK hP (ci := 5) (q0 := (to S_6.2.1)) rfl (cw_Told (t := S_6.2.1) (by omega))) hK hP hS hF rfl hl.1 rfl (Nat.le_of_ble_eq_true rfl) dX6_goesAhead_56 ⟨Nat.zero_le _, Nat.zero_le _⟩ (fun r_10 S_9 H locs h hP hS => ?_)
    refine lv_aload_n hx hb dX6_goesAhead_59 rfl (lv_at hl 0 rfl) ?_
    obtain ⟨ht_11, h⟩ := h
    refine va_get (D := D) (ci := 6) (v := .ref (X.1 (to S_9.2.1))) (C := RX6) (T := TX6) (N := 16) hx hb hT inX6 hown hK hP 0 cw_Yard rfl 1 (by decide) (hT _ wf_X6_19) (fun _ h9 => h9) rfl dX6_goesAhead_60 ?_
    refine lv_iconst (v := 3) hx hb dX6_goesAhead_63 (by decide) ?_
    refine lv_iload_n hx hb dX6_goesAhead_64 rfl (lv_at hl 1 rfl) ?_
    refine cVi (As := [.int 3, .int x1]) (rest := [.int r_10, .int (r_4 * r_7)]) hX ⟨hx, hb, hml, hown, hT⟩ (c_X5_value l D X hX H.size S_9 S_9.2.1 (by omega) 3 x1 _ h) (gd_V wl_X6_95 wi_X5_value wv_X5_value wn_X5 wc_X5_value) rfl hd_X5_value ⟨rfl, rfl⟩ ⟨Nat.le_of_ble_eq_true rfl, Nat.le_of_ble_eq_true rfl⟩ (va_recv hK hP (ci := 5) (q0 := (to S_9.2.1)) rfl (cw_Told (t := S_9.2.1) (by omega))) hK hP hS hF rfl hl.1 rfl (Nat.le_of_ble_eq_true rfl) dX6_goesAhead_65 ⟨Nat.zero_le _, Nat.zero_le _⟩ (fun r_13 S_12 H locs h hP hS => ?_)
    refine lv_imul hx hb dX6_goesAhead_68 ?_
    refine lv_icmp_le (tgt := 76) hx hb dX6_goesAhead_69 (by decide) (fun c_14 => ?_) (fun c_14 => ?_)
    · have h := h.1 c_14
      refine lv_iconst (v := 0) hx hb dX6_goesAhead_76 (by decide) ?_
      exact W.zret (v := 0) hx hb hr rfl (fun t ht hW => ⟨⟨0, S_12, rfl, h, gB_of ht hP⟩, hS.F ht⟩) hS.2.2 dX6_goesAhead_77
    · have h := h.2 c_14
      refine lv_iconst (v := 1) hx hb dX6_goesAhead_72 (by decide) ?_
      refine lv_goto (tgt := 77) hx hb dX6_goesAhead_73 (by decide) ?_
      exact W.zret (v := 1) hx hb hr rfl (fun t ht hW => ⟨⟨1, S_12, rfl, h, gB_of ht hP⟩, hS.F ht⟩) hS.2.2 dX6_goesAhead_77
  · have h := h.1 c_1
    refine lv_aload_n hx hb dX6_goesAhead_4 rfl (lv_at hl 0 rfl) ?_
    obtain ⟨ht_15, h⟩ := h
    refine va_get (D := D) (ci := 6) (v := .ref (X.1 (to S.2.1))) (C := RX6) (T := TX6) (N := 16) hx hb hT inX6 hown hK hP 0 cw_Yard rfl 1 (by decide) (hT _ wf_X6_19) (fun _ h9 => h9) rfl dX6_goesAhead_5 ?_
    refine lv_iconst (v := 2) hx hb dX6_goesAhead_8 (by decide) ?_
    refine lv_iload_n hx hb dX6_goesAhead_9 rfl (lv_at hl 1 rfl) ?_
    refine cVi (As := [.int 2, .int x1]) (rest := []) hX ⟨hx, hb, hml, hown, hT⟩ (c_X5_value l D X hX H.size S S.2.1 (by omega) 2 x1 _ h) (gd_V wl_X6_95 wi_X5_value wv_X5_value wn_X5 wc_X5_value) rfl hd_X5_value ⟨rfl, rfl⟩ ⟨Nat.le_of_ble_eq_true rfl, Nat.le_of_ble_eq_true rfl⟩ (va_recv hK hP (ci := 5) (q0 := (to S.2.1)) rfl (cw_Told (t := S.2.1) (by omega))) hK hP hS hF rfl hl.1 rfl (Nat.le_of_ble_eq_true rfl) dX6_goesAhead_10 ⟨Nat.zero_le _, Nat.zero_le _⟩ (fun r_17 S_16 H locs h hP hS => ?_)
    refine lv_aload_n hx hb dX6_goesAhead_13 rfl (lv_at hl 0 rfl) ?_
    obtain ⟨ht_18, h⟩ := h
    refine va_get (D := D) (ci := 6) (v := .ref (X.1 (to S_16.2.1))) (C := RX6) (T := TX6) (N := 16) hx hb hT inX6 hown hK hP 0 cw_Yard rfl 1 (by decide) (hT _ wf_X6_19) (fun _ h9 => h9) rfl dX6_goesAhead_14 ?_
    refine lv_iconst (v := 2) hx hb dX6_goesAhead_17 (by decide) ?_
    refine lv_iload_n hx hb dX6_goesAhead_18 rfl (lv_at hl 2 rfl) ?_
    refine cVi (As := [.int 2, .int x2]) (rest := [.int r_17]) hX ⟨hx, hb, hml, hown, hT⟩ (c_X5_value l D X hX H.size S_16 S_16.2.1 (by omega) 2 x2 _ h) (gd_V wl_X6_95 wi_X5_value wv_X5_value wn_X5 wc_X5_value) rfl hd_X5_value ⟨rfl, rfl⟩ ⟨Nat.le_of_ble_eq_true rfl, Nat.le_of_ble_eq_true rfl⟩ (va_recv hK hP (ci := 5) (q0 := (to S_16.2.1)) rfl (cw_Told (t := S_16.2.1) (by omega))) hK hP hS hF rfl hl.1 rfl (Nat.le_of_ble_eq_true rfl) dX6_goesAhead_19 ⟨Nat.zero_le _, Nat.zero_le _⟩ (fun r_20 S_19 H locs h hP hS => ?_)
    refine lv_icmp_ge (tgt := 29) hx hb dX6_goesAhead_22 (by decide) (fun c_21 => ?_) (fun c_21 => ?_)
    · have h := h.1 c_21
      refine lv_iconst (v := 0) hx hb dX6_goesAhead_29 (by decide) ?_
      exact W.zret (v := 0) hx hb hr rfl (fun t ht hW => ⟨⟨0, S_19, rfl, h, gB_of ht hP⟩, hS.F ht⟩) hS.2.2 dX6_goesAhead_30
    · have h := h.2 c_21
      refine lv_iconst (v := 1) hx hb dX6_goesAhead_25 (by decide) ?_
      refine lv_goto (tgt := 30) hx hb dX6_goesAhead_26 (by decide) ?_
      exact W.zret (v := 1) hx hb hr rfl (fun t ht hW => ⟨⟨1, S_19, rfl, h, gB_of ht hP⟩, hS.F ht⟩) hS.2.2 dX6_goesAhead_30

abbrev rm_X6_next : Room := { frames := 3, cells := 0, slots := 0, locals := 66 }
def q_X6_next_16 (x1 : Int32) (post : Int32 → CS → Prop) : Nat → Int32 → Int32 → CS → Prop
  | 0, _, _, _ => False
  | n9 + 1, y2, y3, S => (S.2.1 < 2) ∧ (p_X5_orders S S.2.1 (fun r_5 S_4 => ((r_5 ≤ y3 → (post y2 S_4)) ∧ (¬ (r_5 ≤ y3) → (p_X1_wasSent S_4 0 y3 (fun r_8 S_7 => ((r_8 = 0 → ((y2 < 0 → (∀ x3_12 : Int32, x3_12 = y3 + 1 → (q_X6_next_16 x1 post n9 y3 x3_12 S_7))) ∧ (¬ (y2 < 0) → (p_X6_goesAhead S_7 y3 y2 x1 (fun r_14 S_13 => ((r_14 = 0 → (∀ x3_16 : Int32, x3_16 = y3 + 1 → (q_X6_next_16 x1 post n9 y2 x3_16 S_13))) ∧ (¬ (r_14 = 0) → (∀ x3_17 : Int32, x3_17 = y3 + 1 → (q_X6_next_16 x1 post n9 y3 x3_17 S_13))))))))) ∧ (¬ (r_8 = 0) → (∀ x3_10 : Int32, x3_10 = y3 + 1 → (q_X6_next_16 x1 post n9 y2 x3_10 S_7))))))))))
def p_X6_next (S : CS) (x1 : Int32) (post : Int32 → CS → Prop) : Prop := (x1 < 0 → (post (-1) S)) ∧ (¬ (x1 < 0) → ((x1 ≤ 1 → (∃ n, q_X6_next_16 x1 post n (-9) 0 S)) ∧ (¬ (x1 ≤ 1) → (post (-1) S))))
set_option maxHeartbeats 4000000 in
set_option maxRecDepth 100000 in
theorem c_X6_next (l : Launch) (D : va_G) (X : XE) (hX : Inj 75 X.1) (sz : Nat) (S : CS) (x1 : Int32) (post : Int32 → CS → Prop) (h : p_X6_next S x1 post) : Met l yX6_next (Cond.code yX6_next cX6_next 4 (some .int) :: lw_gd) rm_X6_next (gPc D (tyX X) (CW X) (FXc X) (AX 75 X.1 sz) sz S [.ref (X.1 0), .int x1]) (va_Qi post (gB D (CW X)) (AX 75 X.1 sz)) 0 0 (AX 75 X.1 sz) := by
  refine Met.ofW (cc := cX6_next) (maxL := 4) (ret := (some .int)) (by decide) rfl ?_
  intro p e s m args below meth c s₁ B hml hv
  obtain ⟨rfl, hsz, hP, hK, hF⟩ := hv
  have hx := B.exec
  have hb := B.bytes
  have hr := B.returns
  have hts := atoms_spec (ws := (Cond.code yX6_next cX6_next 4 (some .int) :: lw_gd)) B.pre
  have hT : ∀ w ∈ lw_gd, w.before _ s = true := fun w h9 => hts w (List.mem_cons_of_mem _ h9)
  have hown : s.vm.findClass RX6 = some m.cls := findClass_of_methodNamed B.named
  have hlocks := B.notSynchronized
  subst hsz
  have hS : va_S (AX 75 X.1 s.heap.size) s.heap s.heap [] := va_S.rf
  have W16 : ∀ n1 : Nat, ∀ (y2 : Int32) (y3 : Int32) (S : CS) (H : Heap) (locs : List Loc) (ls : Array Slot), va_P D vwCl (CW X S) H → va_S (AX 75 X.1 s.heap.size) s.heap H locs → lv_has ls 4 [(0, .ref (X.1 0)), (1, .int x1), (2, .int y2), (3, .int y3)] → q_X6_next_16 x1 post n1 y2 y3 S → W p l e (headSpec (Cond.code yX6_next cX6_next 4 (some .int) :: lw_gd) rm_X6_next).room s m ([.ref (X.1 0), .int x1] : List Value).toArray below meth c H locs 0 0 (MQ below (va_Qi post (gB D (CW X)) (AX 75 X.1 s.heap.size)) ([.ref (X.1 0), .int x1] : List Value).toArray s 0 0 (AX 75 X.1 s.heap.size)) (F0 m 16 ls []) := by
    intro n1
    induction n1 with
    | zero => intro y2 y3 S H locs ls hP hS hl h; exact h.elim
    | succ n9 ih =>
      intro y2 y3 S H locs ls hP hS hl h
      rw [q_X6_next_16] at h
      refine lv_iload_n hx hb dX6_next_16 rfl (lv_at hl 3 rfl) ?_
      refine lv_aload_n hx hb dX6_next_17 rfl (lv_at hl 0 rfl) ?_
      obtain ⟨ht_3, h⟩ := h
      refine va_get (D := D) (ci := 6) (v := .ref (X.1 (to S.2.1))) (C := RX6) (T := TX6) (N := 16) hx hb hT inX6 hown hK hP 0 cw_Yard rfl 1 (by decide) (hT _ wf_X6_19) (fun _ h9 => h9) rfl dX6_next_18 ?_
      refine cVi (As := []) (rest := [.int y3]) hX ⟨hx, hb, hml, hown, hT⟩ (c_X5_orders l D X hX H.size S S.2.1 (by omega) _ h) (gd_V wl_X6_203 wi_X5_orders wv_X5_orders wn_X5 wc_X5_orders) rfl hd_X5_orders ⟨rfl, rfl⟩ ⟨Nat.le_of_ble_eq_true rfl, Nat.le_of_ble_eq_true rfl⟩ (va_recv hK hP (ci := 5) (q0 := (to S.2.1)) rfl (cw_Told (t := S.2.1) (by omega))) hK hP hS hF rfl hl.1 rfl (Nat.le_of_ble_eq_true rfl) dX6_next_21 ⟨Nat.zero_le _, Nat.zero_le _⟩ (fun r_5 S_4 H locs h hP hS => ?_)
      refine lv_icmp_ge (tgt := 60) hx hb dX6_next_24 (by decide) (fun c_6 => ?_) (fun c_6 => ?_)
      · have h := h.1 c_6
        refine lv_iload_n hx hb dX6_next_60 rfl (lv_at hl 2 rfl) ?_
        exact W.iret (v := y2) hx hb hr (fun t ht hW => ⟨⟨y2, S_4, rfl, h, gB_of ht hP⟩, hS.F ht⟩) hS.2.2 dX6_next_61
      · have h := h.2 c_6
        refine lv_aload_n hx hb dX6_next_27 rfl (lv_at hl 0 rfl) ?_
        refine va_get (D := D) (ci := 6) (v := .ref (X.1 (mo 0))) (C := RX6) (T := TX6) (N := 16) hx hb hT inX6 hown hK hP 0 cw_Yard rfl 3 (by decide) (hT _ wf_X6_29) (fun _ h9 => h9) rfl dX6_next_28 ?_
        refine lv_iload_n hx hb dX6_next_31 rfl (lv_at hl 3 rfl) ?_
        refine cVi (As := [.int y3]) (rest := []) hX ⟨hx, hb, hml, hown, hT⟩ (c_X1_wasSent l D X hX H.size S_4 0 (by decide) y3 _ h) (gd_V wl_X6_109 wi_X1_wasSent wv_X1_wasSent wn_X1 wc_X1_wasSent) rfl hd_X1_wasSent ⟨rfl, rfl⟩ ⟨Nat.le_of_ble_eq_true rfl, Nat.le_of_ble_eq_true rfl⟩ (va_recv hK hP (ci := 1) (q0 := (mo 0)) rfl (cw_Moment (m := 0) (by decide))) hK hP hS hF rfl hl.1 rfl (Nat.le_of_ble_eq_true rfl) dX6_next_32 ⟨Nat.zero_le _, Nat.zero_le _⟩ (fun r_8 S_7 H locs h hP hS => ?_)
        refine lv_if_ne (tgt := 54) hx hb dX6_next_35 (by decide) (fun c_9 => ?_) (fun c_9 => ?_)
        · have h := h.2 c_9
          obtain ⟨x3_10, ex3_10⟩ : ∃ z : Int32, z = y3 + 1 := ⟨_, rfl⟩
          refine lv_iinc (v := x3_10) (lv' := [(3, .int x3_10), (0, .ref (X.1 0)), (1, .int x1), (2, .int y2)]) hx hb dX6_next_54 hl (k := 3) rfl (by rw [ex3_10]; rfl) (by decide) rfl (fun ls hl => ?_)
          have h := h x3_10 ex3_10
          refine lv_goto (tgt := 16) hx hb dX6_next_57 (by decide) ?_
          exact ih y2 x3_10 S_7 H locs ls hP hS (lv_sub hl [1, 2, 3, 0] rfl) h
        · have h := h.1 c_9
          refine lv_iload_n hx hb dX6_next_38 rfl (lv_at hl 2 rfl) ?_
          refine lv_if_lt (tgt := 52) hx hb dX6_next_39 (by decide) (fun c_11 => ?_) (fun c_11 => ?_)
          · have h := h.1 c_11
            refine lv_iload_n hx hb dX6_next_52 rfl (lv_at hl 3 rfl) ?_
            refine lv_istore_n (lv' := [(2, .int y3), (0, .ref (X.1 0)), (1, .int x1), (3, .int y3)]) hx hb dX6_next_53 rfl hl (by decide) rfl (fun ls hl => ?_)
            obtain ⟨x3_12, ex3_12⟩ : ∃ z : Int32, z = y3 + 1 := ⟨_, rfl⟩
            refine lv_iinc (v := x3_12) (lv' := [(3, .int x3_12), (2, .int y3), (0, .ref (X.1 0)), (1, .int x1)]) hx hb dX6_next_54 hl (k := 3) rfl (by rw [ex3_12]; rfl) (by decide) rfl (fun ls hl => ?_)
            have h := h x3_12 ex3_12
            refine lv_goto (tgt := 16) hx hb dX6_next_57 (by decide) ?_
            exact ih y3 x3_12 S_7 H locs ls hP hS (lv_sub hl [2, 3, 1, 0] rfl) h
          · have h := h.2 c_11
            refine lv_aload_n hx hb dX6_next_42 rfl (lv_at hl 0 rfl) ?_
            refine lv_iload_n hx hb dX6_next_43 rfl (lv_at hl 3 rfl) ?_
            refine lv_iload_n hx hb dX6_next_44 rfl (lv_at hl 2 rfl) ?_
            refine lv_iload_n hx hb dX6_next_45 rfl (lv_at hl 1 rfl) ?_
            refine cVi (As := [.int y3, .int y2, .int x1]) (rest := []) hX ⟨hx, hb, hml, hown, hT⟩ (c_X6_goesAhead l D X hX H.size S_7 y3 y2 x1 _ h) (gd_V wl_X6_212 wi_X6_goesAhead wv_X6_goesAhead wn_X6 wc_X6_goesAhead) rfl hd_X6_goesAhead ⟨rfl, rfl⟩ ⟨Nat.le_of_ble_eq_true rfl, Nat.le_of_ble_eq_true rfl⟩ (va_recv hK hP (ci := 6) (q0 := 0) rfl cw_Yard) hK hP hS hF rfl hl.1 rfl (Nat.le_of_ble_eq_true rfl) dX6_next_46 ⟨Nat.zero_le _, Nat.zero_le _⟩ (fun r_14 S_13 H locs h hP hS => ?_)
            refine lv_if_eq (tgt := 54) hx hb dX6_next_49 (by decide) (fun c_15 => ?_) (fun c_15 => ?_)
            · have h := h.1 c_15
              obtain ⟨x3_16, ex3_16⟩ : ∃ z : Int32, z = y3 + 1 := ⟨_, rfl⟩
              refine lv_iinc (v := x3_16) (lv' := [(3, .int x3_16), (0, .ref (X.1 0)), (1, .int x1), (2, .int y2)]) hx hb dX6_next_54 hl (k := 3) rfl (by rw [ex3_16]; rfl) (by decide) rfl (fun ls hl => ?_)
              have h := h x3_16 ex3_16
              refine lv_goto (tgt := 16) hx hb dX6_next_57 (by decide) ?_
              exact ih y2 x3_16 S_13 H locs ls hP hS (lv_sub hl [1, 2, 3, 0] rfl) h
            · have h := h.2 c_15
              refine lv_iload_n hx hb dX6_next_52 rfl (lv_at hl 3 rfl) ?_
              refine lv_istore_n (lv' := [(2, .int y3), (0, .ref (X.1 0)), (1, .int x1), (3, .int y3)]) hx hb dX6_next_53 rfl hl (by decide) rfl (fun ls hl => ?_)
              obtain ⟨x3_17, ex3_17⟩ : ∃ z : Int32, z = y3 + 1 := ⟨_, rfl⟩
              refine lv_iinc (v := x3_17) (lv' := [(3, .int x3_17), (2, .int y3), (0, .ref (X.1 0)), (1, .int x1)]) hx hb dX6_next_54 hl (k := 3) rfl (by rw [ex3_17]; rfl) (by decide) rfl (fun ls hl => ?_)
              have h := h x3_17 ex3_17
              refine lv_goto (tgt := 16) hx hb dX6_next_57 (by decide) ?_
              exact ih y3 x3_17 S_13 H locs ls hP hS (lv_sub hl [2, 3, 1, 0] rfl) h
  have hl := lv_entry ([.ref (X.1 0), .int x1]) (n := 4) (Nat.le_of_ble_eq_true rfl)
  rw [lg_entry_eq]
  generalize (lg_sl ([.ref (X.1 0), .int x1]) ++ List.replicate (4 - (lg_sl ([.ref (X.1 0), .int x1])).length) Slot.unset).toArray = ls at hl ⊢
  have hl : lv_has ls 4 [(0, .ref (X.1 0)), (1, .int x1)] := hl
  obtain ⟨H, hH⟩ : ∃ H : Heap, H = s.heap := ⟨_, rfl⟩
  obtain ⟨locs, hlc⟩ : ∃ q : List Loc, q = [] := ⟨_, rfl⟩
  have hS : va_S (AX 75 X.1 s.heap.size) s.heap H locs := by rw [hH, hlc]; exact hS
  have hP : va_P D vwCl (CW X S) H := by rw [hH]; exact hP
  show W p l e (headSpec (Cond.code yX6_next cX6_next 4 (some .int) :: lw_gd) rm_X6_next).room s m ([.ref (X.1 0), .int x1] : List Value).toArray below meth c s.heap [] 0 0 (MQ below (va_Qi post (gB D (CW X)) (AX 75 X.1 s.heap.size)) ([.ref (X.1 0), .int x1] : List Value).toArray s 0 0 (AX 75 X.1 s.heap.size)) _
  suffices hgo : W p l e (headSpec (Cond.code yX6_next cX6_next 4 (some .int) :: lw_gd) rm_X6_next).room s m ([.ref (X.1 0), .int x1] : List Value).toArray below meth c H locs 0 0 (MQ below (va_Qi post (gB D (CW X)) (AX 75 X.1 s.heap.size)) ([.ref (X.1 0), .int x1] : List Value).toArray s 0 0 (AX 75 X.1 s.heap.size)) (F0 m 0 ls []) from by rw [hH, hlc] at hgo; exact hgo
  unfold p_X6_next at h
  refine lv_iload_n hx hb dX6_next_0 rfl (lv_at hl 1 rfl) ?_
  refine lv_if_lt (tgt := 9) hx hb dX6_next_1 (by decide) (fun c_1 => ?_) (fun c_1 => ?_)
  · have h := h.1 c_1
    refine lv_iconst (v := (-1)) hx hb dX6_next_9 (by decide) ?_
    exact W.iret (v := (-1)) hx hb hr (fun t ht hW => ⟨⟨(-1), S, rfl, h, gB_of ht hP⟩, hS.F ht⟩) hS.2.2 dX6_next_10
  · have h := h.2 c_1
    refine lv_iload_n hx hb dX6_next_4 rfl (lv_at hl 1 rfl) ?_
    refine lv_iconst (v := 1) hx hb dX6_next_5 (by decide) ?_
    refine lv_icmp_le (tgt := 11) hx hb dX6_next_6 (by decide) (fun c_2 => ?_) (fun c_2 => ?_)
    · have h := h.1 c_2
      refine lv_bipush (v := (-9)) hx hb dX6_next_11 (by decide) ?_
      refine lv_istore_n (lv' := [(2, .int (-9)), (0, .ref (X.1 0)), (1, .int x1)]) hx hb dX6_next_13 rfl hl (by decide) rfl (fun ls hl => ?_)
      refine lv_iconst (v := 0) hx hb dX6_next_14 (by decide) ?_
      refine lv_istore_n (lv' := [(3, .int 0), (2, .int (-9)), (0, .ref (X.1 0)), (1, .int x1)]) hx hb dX6_next_15 rfl hl (by decide) rfl (fun ls hl => ?_)
      obtain ⟨n1, h⟩ := h
      exact W16  n1 (-9) 0 S H locs ls hP hS (lv_sub hl [2, 3, 1, 0] rfl) h
    · have h := h.2 c_2
      refine lv_iconst (v := (-1)) hx hb dX6_next_9 (by decide) ?_
      exact W.iret (v := (-1)) hx hb hr (fun t ht hW => ⟨⟨(-1), S, rfl, h, gB_of ht hP⟩, hS.F ht⟩) hS.2.2 dX6_next_10

abbrev rm_X6_besomsToBind : Room := { frames := 2, cells := 0, slots := 0, locals := 43 }
def q_X6_besomsToBind_4  (post : Int32 → CS → Prop) : Nat → Int32 → Int32 → CS → Prop
  | 0, _, _, _ => False
  | n9 + 1, y1, y2, S => (S.2.1 < 2) ∧ (p_X5_orders S S.2.1 (fun r_3 S_2 => ((r_3 ≤ y2 → (post (if 0 < (y1 - (S_2.1 (mo 0) 3)) then (y1 - (S_2.1 (mo 0) 3)) else 0) S_2)) ∧ (¬ (r_3 ≤ y2) → (p_X1_wasSent S_2 0 y2 (fun r_6 S_5 => ((r_6 = 0 → ((S_5.2.1 < 2) ∧ (p_X5_value S_5 S_5.2.1 3 y2 (fun r_11 S_10 => (∀ x1_12 : Int32, x1_12 = (y1 + r_11) → (∀ x2_13 : Int32, x2_13 = y2 + 1 → (q_X6_besomsToBind_4 post n9 x1_12 x2_13 S_10))))))) ∧ (¬ (r_6 = 0) → (∀ x2_8 : Int32, x2_8 = y2 + 1 → (q_X6_besomsToBind_4 post n9 y1 x2_8 S_5))))))))))
def p_X6_besomsToBind (S : CS)  (post : Int32 → CS → Prop) : Prop := ∃ n, q_X6_besomsToBind_4 post n 0 0 S
set_option maxHeartbeats 4000000 in
set_option maxRecDepth 100000 in
theorem c_X6_besomsToBind (l : Launch) (D : va_G) (X : XE) (hX : Inj 75 X.1) (sz : Nat) (S : CS)  (post : Int32 → CS → Prop) (h : p_X6_besomsToBind S  post) : Met l yX6_besomsToBind (Cond.code yX6_besomsToBind cX6_besomsToBind 3 (some .int) :: lw_gd) rm_X6_besomsToBind (gPc D (tyX X) (CW X) (FXc X) (AX 75 X.1 sz) sz S [.ref (X.1 0)]) (va_Qi post (gB D (CW X)) (AX 75 X.1 sz)) 0 0 (AX 75 X.1 sz) := by
  refine Met.ofW (cc := cX6_besomsToBind) (maxL := 3) (ret := (some .int)) (by decide) rfl ?_
  intro p e s m args below meth c s₁ B hml hv
  obtain ⟨rfl, hsz, hP, hK, hF⟩ := hv
  have hx := B.exec
  have hb := B.bytes
  have hr := B.returns
  have hts := atoms_spec (ws := (Cond.code yX6_besomsToBind cX6_besomsToBind 3 (some .int) :: lw_gd)) B.pre
  have hT : ∀ w ∈ lw_gd, w.before _ s = true := fun w h9 => hts w (List.mem_cons_of_mem _ h9)
  have hown : s.vm.findClass RX6 = some m.cls := findClass_of_methodNamed B.named
  have hlocks := B.notSynchronized
  subst hsz
  have hS : va_S (AX 75 X.1 s.heap.size) s.heap s.heap [] := va_S.rf
  have W4 : ∀ n1 : Nat, ∀ (y1 : Int32) (y2 : Int32) (S : CS) (H : Heap) (locs : List Loc) (ls : Array Slot), va_P D vwCl (CW X S) H → va_S (AX 75 X.1 s.heap.size) s.heap H locs → lv_has ls 3 [(0, .ref (X.1 0)), (1, .int y1), (2, .int y2)] → q_X6_besomsToBind_4 post n1 y1 y2 S → W p l e (headSpec (Cond.code yX6_besomsToBind cX6_besomsToBind 3 (some .int) :: lw_gd) rm_X6_besomsToBind).room s m ([.ref (X.1 0)] : List Value).toArray below meth c H locs 0 0 (MQ below (va_Qi post (gB D (CW X)) (AX 75 X.1 s.heap.size)) ([.ref (X.1 0)] : List Value).toArray s 0 0 (AX 75 X.1 s.heap.size)) (F0 m 4 ls []) := by
    intro n1
    induction n1 with
    | zero => intro y1 y2 S H locs ls hP hS hl h; exact h.elim
    | succ n9 ih =>
      intro y1 y2 S H locs ls hP hS hl h
      rw [q_X6_besomsToBind_4] at h
      refine lv_iload_n hx hb dX6_besomsToBind_4 rfl (lv_at hl 2 rfl) ?_
      refine lv_aload_n hx hb dX6_besomsToBind_5 rfl (lv_at hl 0 rfl) ?_
      obtain ⟨ht_1, h⟩ := h
      refine va_get (D := D) (ci := 6) (v := .ref (X.1 (to S.2.1))) (C := RX6) (T := TX6) (N := 16) hx hb hT inX6 hown hK hP 0 cw_Yard rfl 1 (by decide) (hT _ wf_X6_19) (fun _ h9 => h9) rfl dX6_besomsToBind_6 ?_
      refine cVi (As := []) (rest := [.int y2]) hX ⟨hx, hb, hml, hown, hT⟩ (c_X5_orders l D X hX H.size S S.2.1 (by omega) _ h) (gd_V wl_X6_203 wi_X5_orders wv_X5_orders wn_X5 wc_X5_orders) rfl hd_X5_orders ⟨rfl, rfl⟩ ⟨Nat.le_of_ble_eq_true rfl, Nat.le_of_ble_eq_true rfl⟩ (va_recv hK hP (ci := 5) (q0 := (to S.2.1)) rfl (cw_Told (t := S.2.1) (by omega))) hK hP hS hF rfl hl.1 rfl (Nat.le_of_ble_eq_true rfl) dX6_besomsToBind_9 ⟨Nat.zero_le _, Nat.zero_le _⟩ (fun r_3 S_2 H locs h hP hS => ?_)
      refine lv_icmp_ge (tgt := 44) hx hb dX6_besomsToBind_12 (by decide) (fun c_4 => ?_) (fun c_4 => ?_)
      · have h := h.1 c_4
        refine lv_iconst (v := 0) hx hb dX6_besomsToBind_44 (by decide) ?_
        refine lv_iload_n hx hb dX6_besomsToBind_45 rfl (lv_at hl 1 rfl) ?_
        refine lv_aload_n hx hb dX6_besomsToBind_46 rfl (lv_at hl 0 rfl) ?_
        refine va_get (D := D) (ci := 6) (v := .ref (X.1 (mo 0))) (C := RX6) (T := TX6) (N := 16) hx hb hT inX6 hown hK hP 0 cw_Yard rfl 3 (by decide) (hT _ wf_X6_29) (fun _ h9 => h9) rfl dX6_besomsToBind_47 ?_
        refine va_getN (D := D) (ci := 1) (v := .int (S_2.1 (mo 0) 3)) (C := RX1) (T := TX1) (N := 8) hx hb hT inX1 hown hK hP (mo 0) (cw_Moment (m := 0) (by decide)) rfl 3 (by decide) (va_Nw.use rfl hF.1.1.2.2.2.1) (fun _ h9 => h9) rfl dX6_besomsToBind_50 ?_
        refine lv_isub hx hb dX6_besomsToBind_53 ?_
        refine va_mmax hx hb (hml.trans hl.1.symm) hown (hT _ wl_X6_295) (hT _ wt_J9_max_7cf53) (hT _ wn_J9) (hT _ wc_J9_max_7cf53) (Nat.le_of_ble_eq_true rfl) (Nat.le_of_ble_eq_true rfl) (Nat.zero_le _) (Nat.zero_le _) dX6_besomsToBind_54 ?_
        exact W.iret (v := (if 0 < (y1 - (S_2.1 (mo 0) 3)) then (y1 - (S_2.1 (mo 0) 3)) else 0)) hx hb hr (fun t ht hW => ⟨⟨(if 0 < (y1 - (S_2.1 (mo 0) 3)) then (y1 - (S_2.1 (mo 0) 3)) else 0), S_2, rfl, h, gB_of ht hP⟩, hS.F ht⟩) hS.2.2 dX6_besomsToBind_57
      · have h := h.2 c_4
        refine lv_aload_n hx hb dX6_besomsToBind_15 rfl (lv_at hl 0 rfl) ?_
        refine va_get (D := D) (ci := 6) (v := .ref (X.1 (mo 0))) (C := RX6) (T := TX6) (N := 16) hx hb hT inX6 hown hK hP 0 cw_Yard rfl 3 (by decide) (hT _ wf_X6_29) (fun _ h9 => h9) rfl dX6_besomsToBind_16 ?_
        refine lv_iload_n hx hb dX6_besomsToBind_19 rfl (lv_at hl 2 rfl) ?_
        refine cVi (As := [.int y2]) (rest := []) hX ⟨hx, hb, hml, hown, hT⟩ (c_X1_wasSent l D X hX H.size S_2 0 (by decide) y2 _ h) (gd_V wl_X6_109 wi_X1_wasSent wv_X1_wasSent wn_X1 wc_X1_wasSent) rfl hd_X1_wasSent ⟨rfl, rfl⟩ ⟨Nat.le_of_ble_eq_true rfl, Nat.le_of_ble_eq_true rfl⟩ (va_recv hK hP (ci := 1) (q0 := (mo 0)) rfl (cw_Moment (m := 0) (by decide))) hK hP hS hF rfl hl.1 rfl (Nat.le_of_ble_eq_true rfl) dX6_besomsToBind_20 ⟨Nat.zero_le _, Nat.zero_le _⟩ (fun r_6 S_5 H locs h hP hS => ?_)
        refine lv_if_ne (tgt := 38) hx hb dX6_besomsToBind_23 (by decide) (fun c_7 => ?_) (fun c_7 => ?_)
        · have h := h.2 c_7
          obtain ⟨x2_8, ex2_8⟩ : ∃ z : Int32, z = y2 + 1 := ⟨_, rfl⟩
          refine lv_iinc (v := x2_8) (lv' := [(2, .int x2_8), (0, .ref (X.1 0)), (1, .int y1)]) hx hb dX6_besomsToBind_38 hl (k := 2) rfl (by rw [ex2_8]; rfl) (by decide) rfl (fun ls hl => ?_)
          have h := h x2_8 ex2_8
          refine lv_goto (tgt := 4) hx hb dX6_besomsToBind_41 (by decide) ?_
          exact ih y1 x2_8 S_5 H locs ls hP hS (lv_sub hl [1, 2, 0] rfl) h
        · have h := h.1 c_7
          refine lv_iload_n hx hb dX6_besomsToBind_26 rfl (lv_at hl 1 rfl) ?_
          refine lv_aload_n hx hb dX6_besomsToBind_27 rfl (lv_at hl 0 rfl) ?_
          obtain ⟨ht_9, h⟩ := h
          refine va_get (D := D) (ci := 6) (v := .ref (X.1 (to S_5.2.1))) (C := RX6) (T := TX6) (N := 16) hx hb hT inX6 hown hK hP 0 cw_Yard rfl 1 (by decide) (hT _ wf_X6_19) (fun _ h9 => h9) rfl dX6_besomsToBind_28 ?_
          refine lv_iconst (v := 3) hx hb dX6_besomsToBind_31 (by decide) ?_
          refine lv_iload_n hx hb dX6_besomsToBind_32 rfl (lv_at hl 2 rfl) ?_
          refine cVi (As := [.int 3, .int y2]) (rest := [.int y1]) hX ⟨hx, hb, hml, hown, hT⟩ (c_X5_value l D X hX H.size S_5 S_5.2.1 (by omega) 3 y2 _ h) (gd_V wl_X6_95 wi_X5_value wv_X5_value wn_X5 wc_X5_value) rfl hd_X5_value ⟨rfl, rfl⟩ ⟨Nat.le_of_ble_eq_true rfl, Nat.le_of_ble_eq_true rfl⟩ (va_recv hK hP (ci := 5) (q0 := (to S_5.2.1)) rfl (cw_Told (t := S_5.2.1) (by omega))) hK hP hS hF rfl hl.1 rfl (Nat.le_of_ble_eq_true rfl) dX6_besomsToBind_33 ⟨Nat.zero_le _, Nat.zero_le _⟩ (fun r_11 S_10 H locs h hP hS => ?_)
          refine lv_iadd hx hb dX6_besomsToBind_36 ?_
          refine lv_topi (fun x1_12 ex1_12 => ?_)
          have h := h x1_12 ex1_12
          refine lv_istore_n (lv' := [(1, .int x1_12), (0, .ref (X.1 0)), (2, .int y2)]) hx hb dX6_besomsToBind_37 rfl hl (by decide) rfl (fun ls hl => ?_)
          obtain ⟨x2_13, ex2_13⟩ : ∃ z : Int32, z = y2 + 1 := ⟨_, rfl⟩
          refine lv_iinc (v := x2_13) (lv' := [(2, .int x2_13), (1, .int x1_12), (0, .ref (X.1 0))]) hx hb dX6_besomsToBind_38 hl (k := 2) rfl (by rw [ex2_13]; rfl) (by decide) rfl (fun ls hl => ?_)
          have h := h x2_13 ex2_13
          refine lv_goto (tgt := 4) hx hb dX6_besomsToBind_41 (by decide) ?_
          exact ih x1_12 x2_13 S_10 H locs ls hP hS (lv_sub hl [2, 1, 0] rfl) h
  have hl := lv_entry ([.ref (X.1 0)]) (n := 3) (Nat.le_of_ble_eq_true rfl)
  rw [lg_entry_eq]
  generalize (lg_sl ([.ref (X.1 0)]) ++ List.replicate (3 - (lg_sl ([.ref (X.1 0)])).length) Slot.unset).toArray = ls at hl ⊢
  have hl : lv_has ls 3 [(0, .ref (X.1 0))] := hl
  obtain ⟨H, hH⟩ : ∃ H : Heap, H = s.heap := ⟨_, rfl⟩
  obtain ⟨locs, hlc⟩ : ∃ q : List Loc, q = [] := ⟨_, rfl⟩
  have hS : va_S (AX 75 X.1 s.heap.size) s.heap H locs := by rw [hH, hlc]; exact hS
  have hP : va_P D vwCl (CW X S) H := by rw [hH]; exact hP
  show W p l e (headSpec (Cond.code yX6_besomsToBind cX6_besomsToBind 3 (some .int) :: lw_gd) rm_X6_besomsToBind).room s m ([.ref (X.1 0)] : List Value).toArray below meth c s.heap [] 0 0 (MQ below (va_Qi post (gB D (CW X)) (AX 75 X.1 s.heap.size)) ([.ref (X.1 0)] : List Value).toArray s 0 0 (AX 75 X.1 s.heap.size)) _
  suffices hgo : W p l e (headSpec (Cond.code yX6_besomsToBind cX6_besomsToBind 3 (some .int) :: lw_gd) rm_X6_besomsToBind).room s m ([.ref (X.1 0)] : List Value).toArray below meth c H locs 0 0 (MQ below (va_Qi post (gB D (CW X)) (AX 75 X.1 s.heap.size)) ([.ref (X.1 0)] : List Value).toArray s 0 0 (AX 75 X.1 s.heap.size)) (F0 m 0 ls []) from by rw [hH, hlc] at hgo; exact hgo
  unfold p_X6_besomsToBind at h
  refine lv_iconst (v := 0) hx hb dX6_besomsToBind_0 (by decide) ?_
  refine lv_istore_n (lv' := [(1, .int 0), (0, .ref (X.1 0))]) hx hb dX6_besomsToBind_1 rfl hl (by decide) rfl (fun ls hl => ?_)
  refine lv_iconst (v := 0) hx hb dX6_besomsToBind_2 (by decide) ?_
  refine lv_istore_n (lv' := [(2, .int 0), (1, .int 0), (0, .ref (X.1 0))]) hx hb dX6_besomsToBind_3 rfl hl (by decide) rfl (fun ls hl => ?_)
  obtain ⟨n1, h⟩ := h
  exact W4  n1 0 0 S H locs ls hP hS (lv_sub hl [2, 1, 0] rfl) h

abbrev rm_X6_lackingTwigs : Room := { frames := 3, cells := 0, slots := 0, locals := 65 }
def p_X6_lackingTwigs (S : CS)  (post : Int32 → CS → Prop) : Prop := p_X6_besomsToBind S  (fun r_2 S_1 => ((S_1.2.1 < 2) ∧ (p_X5_twigs S_1 S_1.2.1 (fun r_5 S_4 => (post (if 0 < ((r_2 * r_5) - (S_4.1 (mo 0) 2)) then ((r_2 * r_5) - (S_4.1 (mo 0) 2)) else 0) S_4)))))
set_option maxHeartbeats 4000000 in
set_option maxRecDepth 100000 in
theorem c_X6_lackingTwigs (l : Launch) (D : va_G) (X : XE) (hX : Inj 75 X.1) (sz : Nat) (S : CS)  (post : Int32 → CS → Prop) (h : p_X6_lackingTwigs S  post) : Met l yX6_lackingTwigs (Cond.code yX6_lackingTwigs cX6_lackingTwigs 1 (some .int) :: lw_gd) rm_X6_lackingTwigs (gPc D (tyX X) (CW X) (FXc X) (AX 75 X.1 sz) sz S [.ref (X.1 0)]) (va_Qi post (gB D (CW X)) (AX 75 X.1 sz)) 0 0 (AX 75 X.1 sz) := by
  refine Met.ofW (cc := cX6_lackingTwigs) (maxL := 1) (ret := (some .int)) (by decide) rfl ?_
  intro p e s m args below meth c s₁ B hml hv
  obtain ⟨rfl, hsz, hP, hK, hF⟩ := hv
  have hx := B.exec
  have hb := B.bytes
  have hr := B.returns
  have hts := atoms_spec (ws := (Cond.code yX6_lackingTwigs cX6_lackingTwigs 1 (some .int) :: lw_gd)) B.pre
  have hT : ∀ w ∈ lw_gd, w.before _ s = true := fun w h9 => hts w (List.mem_cons_of_mem _ h9)
  have hown : s.vm.findClass RX6 = some m.cls := findClass_of_methodNamed B.named
  have hlocks := B.notSynchronized
  subst hsz
  have hS : va_S (AX 75 X.1 s.heap.size) s.heap s.heap [] := va_S.rf
  have hl := lv_entry ([.ref (X.1 0)]) (n := 1) (Nat.le_of_ble_eq_true rfl)
  rw [lg_entry_eq]
  generalize (lg_sl ([.ref (X.1 0)]) ++ List.replicate (1 - (lg_sl ([.ref (X.1 0)])).length) Slot.unset).toArray = ls at hl ⊢
  have hl : lv_has ls 1 [(0, .ref (X.1 0))] := hl
  obtain ⟨H, hH⟩ : ∃ H : Heap, H = s.heap := ⟨_, rfl⟩
  obtain ⟨locs, hlc⟩ : ∃ q : List Loc, q = [] := ⟨_, rfl⟩
  have hS : va_S (AX 75 X.1 s.heap.size) s.heap H locs := by rw [hH, hlc]; exact hS
  have hP : va_P D vwCl (CW X S) H := by rw [hH]; exact hP
  show W p l e (headSpec (Cond.code yX6_lackingTwigs cX6_lackingTwigs 1 (some .int) :: lw_gd) rm_X6_lackingTwigs).room s m ([.ref (X.1 0)] : List Value).toArray below meth c s.heap [] 0 0 (MQ below (va_Qi post (gB D (CW X)) (AX 75 X.1 s.heap.size)) ([.ref (X.1 0)] : List Value).toArray s 0 0 (AX 75 X.1 s.heap.size)) _
  suffices hgo : W p l e (headSpec (Cond.code yX6_lackingTwigs cX6_lackingTwigs 1 (some .int) :: lw_gd) rm_X6_lackingTwigs).room s m ([.ref (X.1 0)] : List Value).toArray below meth c H locs 0 0 (MQ below (va_Qi post (gB D (CW X)) (AX 75 X.1 s.heap.size)) ([.ref (X.1 0)] : List Value).toArray s 0 0 (AX 75 X.1 s.heap.size)) (F0 m 0 ls []) from by rw [hH, hlc] at hgo; exact hgo
  unfold p_X6_lackingTwigs at h
  refine lv_iconst (v := 0) hx hb dX6_lackingTwigs_0 (by decide) ?_
  refine lv_aload_n hx hb dX6_lackingTwigs_1 rfl (lv_at hl 0 rfl) ?_
  refine cVi (As := []) (rest := [.int 0]) hX ⟨hx, hb, hml, hown, hT⟩ (c_X6_besomsToBind l D X hX H.size S  _ h) (gd_V wl_X6_230 wi_X6_besomsToBind wv_X6_besomsToBind wn_X6 wc_X6_besomsToBind) rfl hd_X6_besomsToBind ⟨rfl, rfl⟩ ⟨Nat.le_of_ble_eq_true rfl, Nat.le_of_ble_eq_true rfl⟩ (va_recv hK hP (ci := 6) (q0 := 0) rfl cw_Yard) hK hP hS hF rfl hl.1 rfl (Nat.le_of_ble_eq_true rfl) dX6_lackingTwigs_2 ⟨Nat.zero_le _, Nat.zero_le _⟩ (fun r_2 S_1 H locs h hP hS => ?_)
  refine lv_aload_n hx hb dX6_lackingTwigs_5 rfl (lv_at hl 0 rfl) ?_
  obtain ⟨ht_3, h⟩ := h
  refine va_get (D := D) (ci := 6) (v := .ref (X.1 (to S_1.2.1))) (C := RX6) (T := TX6) (N := 16) hx hb hT inX6 hown hK hP 0 cw_Yard rfl 1 (by decide) (hT _ wf_X6_19) (fun _ h9 => h9) rfl dX6_lackingTwigs_6 ?_
  refine cVi (As := []) (rest := [.int r_2, .int 0]) hX ⟨hx, hb, hml, hown, hT⟩ (c_X5_twigs l D X hX H.size S_1 S_1.2.1 (by omega) _ h) (gd_V wl_X6_155 wi_X5_twigs wv_X5_twigs wn_X5 wc_X5_twigs) rfl hd_X5_twigs ⟨rfl, rfl⟩ ⟨Nat.le_of_ble_eq_true rfl, Nat.le_of_ble_eq_true rfl⟩ (va_recv hK hP (ci := 5) (q0 := (to S_1.2.1)) rfl (cw_Told (t := S_1.2.1) (by omega))) hK hP hS hF rfl hl.1 rfl (Nat.le_of_ble_eq_true rfl) dX6_lackingTwigs_9 ⟨Nat.zero_le _, Nat.zero_le _⟩ (fun r_5 S_4 H locs h hP hS => ?_)
  refine lv_imul hx hb dX6_lackingTwigs_12 ?_
  refine lv_aload_n hx hb dX6_lackingTwigs_13 rfl (lv_at hl 0 rfl) ?_
  refine va_get (D := D) (ci := 6) (v := .ref (X.1 (mo 0))) (C := RX6) (T := TX6) (N := 16) hx hb hT inX6 hown hK hP 0 cw_Yard rfl 3 (by decide) (hT _ wf_X6_29) (fun _ h9 => h9) rfl dX6_lackingTwigs_14 ?_
  refine va_getN (D := D) (ci := 1) (v := .int (S_4.1 (mo 0) 2)) (C := RX1) (T := TX1) (N := 8) hx hb hT inX1 hown hK hP (mo 0) (cw_Moment (m := 0) (by decide)) rfl 2 (by decide) (va_Nw.use rfl hF.1.1.2.2.1) (fun _ h9 => h9) rfl dX6_lackingTwigs_17 ?_
  refine lv_isub hx hb dX6_lackingTwigs_20 ?_
  refine va_mmax hx hb (hml.trans hl.1.symm) hown (hT _ wl_X6_295) (hT _ wt_J9_max_7cf53) (hT _ wn_J9) (hT _ wc_J9_max_7cf53) (Nat.le_of_ble_eq_true rfl) (Nat.le_of_ble_eq_true rfl) (Nat.zero_le _) (Nat.zero_le _) dX6_lackingTwigs_21 ?_
  exact W.iret (v := (if 0 < ((r_2 * r_5) - (S_4.1 (mo 0) 2)) then ((r_2 * r_5) - (S_4.1 (mo 0) 2)) else 0)) hx hb hr (fun t ht hW => ⟨⟨(if 0 < ((r_2 * r_5) - (S_4.1 (mo 0) 2)) then ((r_2 * r_5) - (S_4.1 (mo 0) 2)) else 0), S_4, rfl, h, gB_of ht hP⟩, hS.F ht⟩) hS.2.2 dX6_lackingTwigs_24

abbrev rm_X6_lack : Room := { frames := 4, cells := 0, slots := 0, locals := 85 }
def p_X6_lack (S : CS)  (post : Int32 → CS → Prop) : Prop := p_X6_lackingTwigs S  (fun r_2 S_1 => (post r_2 S_1))
set_option maxHeartbeats 4000000 in
set_option maxRecDepth 100000 in
theorem c_X6_lack (l : Launch) (D : va_G) (X : XE) (hX : Inj 75 X.1) (sz : Nat) (S : CS)  (post : Int32 → CS → Prop) (h : p_X6_lack S  post) : Met l yX6_lack (Cond.code yX6_lack cX6_lack 1 (some .int) :: lw_gd) rm_X6_lack (gPc D (tyX X) (CW X) (FXc X) (AX 75 X.1 sz) sz S [.ref (X.1 0)]) (va_Qi post (gB D (CW X)) (AX 75 X.1 sz)) 0 0 (AX 75 X.1 sz) := by
  refine Met.ofW (cc := cX6_lack) (maxL := 1) (ret := (some .int)) (by decide) rfl ?_
  intro p e s m args below meth c s₁ B hml hv
  obtain ⟨rfl, hsz, hP, hK, hF⟩ := hv
  have hx := B.exec
  have hb := B.bytes
  have hr := B.returns
  have hts := atoms_spec (ws := (Cond.code yX6_lack cX6_lack 1 (some .int) :: lw_gd)) B.pre
  have hT : ∀ w ∈ lw_gd, w.before _ s = true := fun w h9 => hts w (List.mem_cons_of_mem _ h9)
  have hown : s.vm.findClass RX6 = some m.cls := findClass_of_methodNamed B.named
  have hlocks := B.notSynchronized
  subst hsz
  have hS : va_S (AX 75 X.1 s.heap.size) s.heap s.heap [] := va_S.rf
  have hl := lv_entry ([.ref (X.1 0)]) (n := 1) (Nat.le_of_ble_eq_true rfl)
  rw [lg_entry_eq]
  generalize (lg_sl ([.ref (X.1 0)]) ++ List.replicate (1 - (lg_sl ([.ref (X.1 0)])).length) Slot.unset).toArray = ls at hl ⊢
  have hl : lv_has ls 1 [(0, .ref (X.1 0))] := hl
  obtain ⟨H, hH⟩ : ∃ H : Heap, H = s.heap := ⟨_, rfl⟩
  obtain ⟨locs, hlc⟩ : ∃ q : List Loc, q = [] := ⟨_, rfl⟩
  have hS : va_S (AX 75 X.1 s.heap.size) s.heap H locs := by rw [hH, hlc]; exact hS
  have hP : va_P D vwCl (CW X S) H := by rw [hH]; exact hP
  show W p l e (headSpec (Cond.code yX6_lack cX6_lack 1 (some .int) :: lw_gd) rm_X6_lack).room s m ([.ref (X.1 0)] : List Value).toArray below meth c s.heap [] 0 0 (MQ below (va_Qi post (gB D (CW X)) (AX 75 X.1 s.heap.size)) ([.ref (X.1 0)] : List Value).toArray s 0 0 (AX 75 X.1 s.heap.size)) _
  suffices hgo : W p l e (headSpec (Cond.code yX6_lack cX6_lack 1 (some .int) :: lw_gd) rm_X6_lack).room s m ([.ref (X.1 0)] : List Value).toArray below meth c H locs 0 0 (MQ below (va_Qi post (gB D (CW X)) (AX 75 X.1 s.heap.size)) ([.ref (X.1 0)] : List Value).toArray s 0 0 (AX 75 X.1 s.heap.size)) (F0 m 0 ls []) from by rw [hH, hlc] at hgo; exact hgo
  unfold p_X6_lack at h
  refine lv_aload_n hx hb dX6_lack_0 rfl (lv_at hl 0 rfl) ?_
  refine cVi (As := []) (rest := []) hX ⟨hx, hb, hml, hown, hT⟩ (c_X6_lackingTwigs l D X hX H.size S  _ h) (gd_V wl_X6_216 wi_X6_lackingTwigs wv_X6_lackingTwigs wn_X6 wc_X6_lackingTwigs) rfl hd_X6_lackingTwigs ⟨rfl, rfl⟩ ⟨Nat.le_of_ble_eq_true rfl, Nat.le_of_ble_eq_true rfl⟩ (va_recv hK hP (ci := 6) (q0 := 0) rfl cw_Yard) hK hP hS hF rfl hl.1 rfl (Nat.le_of_ble_eq_true rfl) dX6_lack_1 ⟨Nat.zero_le _, Nat.zero_le _⟩ (fun r_2 S_1 H locs h hP hS => ?_)
  exact W.iret (v := r_2) hx hb hr (fun t ht hW => ⟨⟨r_2, S_1, rfl, h, gB_of ht hP⟩, hS.F ht⟩) hS.2.2 dX6_lack_4

abbrev rm_J6_bitCount_0f7a4 : Room := { frames := 0, cells := 0, slots := 0, locals := 0 }
def p_J6_bitCount_0f7a4 (S : CS) (x0 : Int32) (post : Int32 → CS → Prop) : Prop := ∀ x0_1 : Int32, x0_1 = (x0 - (((x0.toUInt32 >>> ((1 : Int32).toUInt32 &&& Int32.toUInt32 31)).toInt32) &&& 1431655765)) → (∀ x0_2 : Int32, x0_2 = ((x0_1 &&& 858993459) + (((x0_1.toUInt32 >>> ((2 : Int32).toUInt32 &&& Int32.toUInt32 31)).toInt32) &&& 858993459)) → (∀ x0_3 : Int32, x0_3 = ((x0_2 + ((x0_2.toUInt32 >>> ((4 : Int32).toUInt32 &&& Int32.toUInt32 31)).toInt32)) &&& 252645135) → (∀ x0_4 : Int32, x0_4 = (x0_3 + ((x0_3.toUInt32 >>> ((8 : Int32).toUInt32 &&& Int32.toUInt32 31)).toInt32)) → (∀ x0_5 : Int32, x0_5 = (x0_4 + ((x0_4.toUInt32 >>> ((16 : Int32).toUInt32 &&& Int32.toUInt32 31)).toInt32)) → (post (x0_5 &&& 63) S)))))
set_option maxHeartbeats 4000000 in
set_option maxRecDepth 100000 in
theorem c_J6_bitCount_0f7a4 (l : Launch) (D : va_G) (X : XE) (hX : Inj 75 X.1) (sz : Nat) (S : CS) (x0 : Int32) (post : Int32 → CS → Prop) (h : p_J6_bitCount_0f7a4 S x0 post) : Met l yJ6_bitCount_0f7a4 (Cond.code yJ6_bitCount_0f7a4 cJ6_bitCount_0f7a4 1 (some .int) :: lw_gd) rm_J6_bitCount_0f7a4 (gPc D (tyX X) (CW X) (FXc X) (AX 75 X.1 sz) sz S [.int x0]) (va_Qi post (gB D (CW X)) (AX 75 X.1 sz)) 0 0 (AX 75 X.1 sz) := by
  refine va_MetF (cc := cJ6_bitCount_0f7a4) (maxL := 1) (ret := (some .int)) (by decide +kernel) rfl ?_
  intro p e s m args below meth c s₁ B hml hv
  obtain ⟨rfl, hsz, hP, hK, hF⟩ := hv
  have hx := B.exec
  have hb := B.bytes
  have hr := B.returns
  have hts := atoms_spec (ws := (Cond.code yJ6_bitCount_0f7a4 cJ6_bitCount_0f7a4 1 (some .int) :: lw_gd)) B.pre
  have hT : ∀ w ∈ lw_gd, w.before _ s = true := fun w h9 => hts w (List.mem_cons_of_mem _ h9)
  have hown : s.vm.findClass RJ6 = some m.cls := findClass_of_methodNamed B.named
  have hlocks := B.notSynchronized
  subst hsz
  have hS : va_S (AX 75 X.1 s.heap.size) s.heap s.heap [] := va_S.rf
  have hl := lv_entry ([.int x0]) (n := 1) (Nat.le_of_ble_eq_true rfl)
  rw [lg_entry_eq]
  generalize (lg_sl ([.int x0]) ++ List.replicate (1 - (lg_sl ([.int x0])).length) Slot.unset).toArray = ls at hl ⊢
  have hl : lv_has ls 1 [(0, .int x0)] := hl
  obtain ⟨H, hH⟩ : ∃ H : Heap, H = s.heap := ⟨_, rfl⟩
  obtain ⟨locs, hlc⟩ : ∃ q : List Loc, q = [] := ⟨_, rfl⟩
  have hS : va_S (AX 75 X.1 s.heap.size) s.heap H locs := by rw [hH, hlc]; exact hS
  have hP : va_P D vwCl (CW X S) H := by rw [hH]; exact hP
  show W p l e (headSpec (Cond.code yJ6_bitCount_0f7a4 cJ6_bitCount_0f7a4 1 (some .int) :: lw_gd) rm_J6_bitCount_0f7a4).room s m ([.int x0] : List Value).toArray below meth c s.heap [] 0 0 (MQ below (va_Qi post (gB D (CW X)) (AX 75 X.1 s.heap.size)) ([.int x0] : List Value).toArray s 0 0 (AX 75 X.1 s.heap.size)) _
  suffices hgo : W p l e (headSpec (Cond.code yJ6_bitCount_0f7a4 cJ6_bitCount_0f7a4 1 (some .int) :: lw_gd) rm_J6_bitCount_0f7a4).room s m ([.int x0] : List Value).toArray below meth c H locs 0 0 (MQ below (va_Qi post (gB D (CW X)) (AX 75 X.1 s.heap.size)) ([.int x0] : List Value).toArray s 0 0 (AX 75 X.1 s.heap.size)) (F0 m 0 ls []) from by rw [hH, hlc] at hgo; exact hgo
  unfold p_J6_bitCount_0f7a4 at h
  refine lv_iload_n hx hb dJ6_bitCount_0f7a4_0 rfl (lv_at hl 0 rfl) ?_
  refine lv_iload_n hx hb dJ6_bitCount_0f7a4_1 rfl (lv_at hl 0 rfl) ?_
  refine lv_iconst (v := 1) hx hb dJ6_bitCount_0f7a4_2 (by decide) ?_
  refine lv_iushr hx hb dJ6_bitCount_0f7a4_3 rfl ?_
  refine lv_ldcw (v := 1431655765) hx hb hown (hT _ wk_J6_265) dJ6_bitCount_0f7a4_4 ?_
  refine lv_iand hx hb dJ6_bitCount_0f7a4_7 ?_
  refine lv_isub hx hb dJ6_bitCount_0f7a4_8 ?_
  refine lv_topi (fun x0_1 ex0_1 => ?_)
  have h := h x0_1 ex0_1
  refine lv_istore_n (lv' := [(0, .int x0_1)]) hx hb dJ6_bitCount_0f7a4_9 rfl hl (by decide) rfl (fun ls hl => ?_)
  refine lv_iload_n hx hb dJ6_bitCount_0f7a4_10 rfl (lv_at hl 0 rfl) ?_
  refine lv_ldcw (v := 858993459) hx hb hown (hT _ wk_J6_266) dJ6_bitCount_0f7a4_11 ?_
  refine lv_iand hx hb dJ6_bitCount_0f7a4_14 ?_
  refine lv_iload_n hx hb dJ6_bitCount_0f7a4_15 rfl (lv_at hl 0 rfl) ?_
  refine lv_iconst (v := 2) hx hb dJ6_bitCount_0f7a4_16 (by decide) ?_
  refine lv_iushr hx hb dJ6_bitCount_0f7a4_17 rfl ?_
  refine lv_ldcw (v := 858993459) hx hb hown (hT _ wk_J6_266) dJ6_bitCount_0f7a4_18 ?_
  refine lv_iand hx hb dJ6_bitCount_0f7a4_21 ?_
  refine lv_iadd hx hb dJ6_bitCount_0f7a4_22 ?_
  refine lv_topi (fun x0_2 ex0_2 => ?_)
  have h := h x0_2 ex0_2
  refine lv_istore_n (lv' := [(0, .int x0_2)]) hx hb dJ6_bitCount_0f7a4_23 rfl hl (by decide) rfl (fun ls hl => ?_)
  refine lv_iload_n hx hb dJ6_bitCount_0f7a4_24 rfl (lv_at hl 0 rfl) ?_
  refine lv_iload_n hx hb dJ6_bitCount_0f7a4_25 rfl (lv_at hl 0 rfl) ?_
  refine lv_iconst (v := 4) hx hb dJ6_bitCount_0f7a4_26 (by decide) ?_
  refine lv_iushr hx hb dJ6_bitCount_0f7a4_27 rfl ?_
  refine lv_iadd hx hb dJ6_bitCount_0f7a4_28 ?_
  refine lv_ldcw (v := 252645135) hx hb hown (hT _ wk_J6_267) dJ6_bitCount_0f7a4_29 ?_
  refine lv_iand hx hb dJ6_bitCount_0f7a4_32 ?_
  refine lv_topi (fun x0_3 ex0_3 => ?_)
  have h := h x0_3 ex0_3
  refine lv_istore_n (lv' := [(0, .int x0_3)]) hx hb dJ6_bitCount_0f7a4_33 rfl hl (by decide) rfl (fun ls hl => ?_)
  refine lv_iload_n hx hb dJ6_bitCount_0f7a4_34 rfl (lv_at hl 0 rfl) ?_
  refine lv_iload_n hx hb dJ6_bitCount_0f7a4_35 rfl (lv_at hl 0 rfl) ?_
  refine lv_bipush (v := 8) hx hb dJ6_bitCount_0f7a4_36 (by decide) ?_
  refine lv_iushr hx hb dJ6_bitCount_0f7a4_38 rfl ?_
  refine lv_iadd hx hb dJ6_bitCount_0f7a4_39 ?_
  refine lv_topi (fun x0_4 ex0_4 => ?_)
  have h := h x0_4 ex0_4
  refine lv_istore_n (lv' := [(0, .int x0_4)]) hx hb dJ6_bitCount_0f7a4_40 rfl hl (by decide) rfl (fun ls hl => ?_)
  refine lv_iload_n hx hb dJ6_bitCount_0f7a4_41 rfl (lv_at hl 0 rfl) ?_
  refine lv_iload_n hx hb dJ6_bitCount_0f7a4_42 rfl (lv_at hl 0 rfl) ?_
  refine lv_bipush (v := 16) hx hb dJ6_bitCount_0f7a4_43 (by decide) ?_
  refine lv_iushr hx hb dJ6_bitCount_0f7a4_45 rfl ?_
  refine lv_iadd hx hb dJ6_bitCount_0f7a4_46 ?_
  refine lv_topi (fun x0_5 ex0_5 => ?_)
  have h := h x0_5 ex0_5
  refine lv_istore_n (lv' := [(0, .int x0_5)]) hx hb dJ6_bitCount_0f7a4_47 rfl hl (by decide) rfl (fun ls hl => ?_)
  refine lv_iload_n hx hb dJ6_bitCount_0f7a4_48 rfl (lv_at hl 0 rfl) ?_
  refine lv_bipush (v := 63) hx hb dJ6_bitCount_0f7a4_49 (by decide) ?_
  refine lv_iand hx hb dJ6_bitCount_0f7a4_51 ?_
  exact W.iret (v := (x0_5 &&& 63)) hx hb hr (fun t ht hW => ⟨⟨(x0_5 &&& 63), S, rfl, h, gB_of ht hP⟩, hS.F ht⟩) hS.2.2 dJ6_bitCount_0f7a4_52

abbrev rm_X6_giftsOf : Room := { frames := 4, cells := 0, slots := 0, locals := 84 }
def q_X6_giftsOf_4 (x1 : Int32) (post : Int32 → CS → Prop) : Nat → Int32 → Int32 → CS → Prop
  | 0, _, _, _ => False
  | n9 + 1, y2, y3, S => (S.2.1 < 2) ∧ (p_X5_parts S S.2.1 (fun r_3 S_2 => ((r_3 ≤ y3 → (post y2 S_2)) ∧ (¬ (r_3 ≤ y3) → ((((x1 >>> (y3 &&& 31)) &&& 1) = 1 → (p_X6_giftOf S_2 y3 (fun r_8 S_7 => (∀ x2_9 : Int32, x2_9 = (y2 + r_8) → (∀ x3_10 : Int32, x3_10 = y3 + 1 → (q_X6_giftsOf_4 x1 post n9 x2_9 x3_10 S_7)))))) ∧ (¬ (((x1 >>> (y3 &&& 31)) &&& 1) = 1) → (∀ x3_6 : Int32, x3_6 = y3 + 1 → (q_X6_giftsOf_4 x1 post n9 y2 x3_6 S_2))))))))
def p_X6_giftsOf (S : CS) (x1 : Int32) (post : Int32 → CS → Prop) : Prop := ∃ n, q_X6_giftsOf_4 x1 post n 0 0 S
set_option maxHeartbeats 4000000 in
set_option maxRecDepth 100000 in
theorem c_X6_giftsOf (l : Launch) (D : va_G) (X : XE) (hX : Inj 75 X.1) (sz : Nat) (S : CS) (x1 : Int32) (post : Int32 → CS → Prop) (h : p_X6_giftsOf S x1 post) : Met l yX6_giftsOf (Cond.code yX6_giftsOf cX6_giftsOf 4 (some .int) :: lw_gd) rm_X6_giftsOf (gPc D (tyX X) (CW X) (FXc X) (AX 75 X.1 sz) sz S [.ref (X.1 0), .int x1]) (va_Qi post (gB D (CW X)) (AX 75 X.1 sz)) 0 0 (AX 75 X.1 sz) := by
  refine Met.ofW (cc := cX6_giftsOf) (maxL := 4) (ret := (some .int)) (by decide) rfl ?_
  intro p e s m args below meth c s₁ B hml hv
  obtain ⟨rfl, hsz, hP, hK, hF⟩ := hv
  have hx := B.exec
  have hb := B.bytes
  have hr := B.returns
  have hts := atoms_spec (ws := (Cond.code yX6_giftsOf cX6_giftsOf 4 (some .int) :: lw_gd)) B.pre
  have hT : ∀ w ∈ lw_gd, w.before _ s = true := fun w h9 => hts w (List.mem_cons_of_mem _ h9)
  have hown : s.vm.findClass RX6 = some m.cls := findClass_of_methodNamed B.named
  have hlocks := B.notSynchronized
  subst hsz
  have hS : va_S (AX 75 X.1 s.heap.size) s.heap s.heap [] := va_S.rf
  have W4 : ∀ n1 : Nat, ∀ (y2 : Int32) (y3 : Int32) (S : CS) (H : Heap) (locs : List Loc) (ls : Array Slot), va_P D vwCl (CW X S) H → va_S (AX 75 X.1 s.heap.size) s.heap H locs → lv_has ls 4 [(0, .ref (X.1 0)), (1, .int x1), (2, .int y2), (3, .int y3)] → q_X6_giftsOf_4 x1 post n1 y2 y3 S → W p l e (headSpec (Cond.code yX6_giftsOf cX6_giftsOf 4 (some .int) :: lw_gd) rm_X6_giftsOf).room s m ([.ref (X.1 0), .int x1] : List Value).toArray below meth c H locs 0 0 (MQ below (va_Qi post (gB D (CW X)) (AX 75 X.1 s.heap.size)) ([.ref (X.1 0), .int x1] : List Value).toArray s 0 0 (AX 75 X.1 s.heap.size)) (F0 m 4 ls []) := by
    intro n1
    induction n1 with
    | zero => intro y2 y3 S H locs ls hP hS hl h; exact h.elim
    | succ n9 ih =>
      intro y2 y3 S H locs ls hP hS hl h
      rw [q_X6_giftsOf_4] at h
      refine lv_iload_n hx hb dX6_giftsOf_4 rfl (lv_at hl 3 rfl) ?_
      refine lv_aload_n hx hb dX6_giftsOf_5 rfl (lv_at hl 0 rfl) ?_
      obtain ⟨ht_1, h⟩ := h
      refine va_get (D := D) (ci := 6) (v := .ref (X.1 (to S.2.1))) (C := RX6) (T := TX6) (N := 16) hx hb hT inX6 hown hK hP 0 cw_Yard rfl 1 (by decide) (hT _ wf_X6_19) (fun _ h9 => h9) rfl dX6_giftsOf_6 ?_
      refine cVi (As := []) (rest := [.int y3]) hX ⟨hx, hb, hml, hown, hT⟩ (c_X5_parts l D X hX H.size S S.2.1 (by omega) _ h) (gd_V wl_X6_219 wi_X5_parts wv_X5_parts wn_X5 wc_X5_parts) rfl hd_X5_parts ⟨rfl, rfl⟩ ⟨Nat.le_of_ble_eq_true rfl, Nat.le_of_ble_eq_true rfl⟩ (va_recv hK hP (ci := 5) (q0 := (to S.2.1)) rfl (cw_Told (t := S.2.1) (by omega))) hK hP hS hF rfl hl.1 rfl (Nat.le_of_ble_eq_true rfl) dX6_giftsOf_9 ⟨Nat.zero_le _, Nat.zero_le _⟩ (fun r_3 S_2 H locs h hP hS => ?_)
      refine lv_icmp_ge (tgt := 38) hx hb dX6_giftsOf_12 (by decide) (fun c_4 => ?_) (fun c_4 => ?_)
      · have h := h.1 c_4
        refine lv_iload_n hx hb dX6_giftsOf_38 rfl (lv_at hl 2 rfl) ?_
        exact W.iret (v := y2) hx hb hr (fun t ht hW => ⟨⟨y2, S_2, rfl, h, gB_of ht hP⟩, hS.F ht⟩) hS.2.2 dX6_giftsOf_39
      · have h := h.2 c_4
        refine lv_iload_n hx hb dX6_giftsOf_15 rfl (lv_at hl 1 rfl) ?_
        refine lv_iload_n hx hb dX6_giftsOf_16 rfl (lv_at hl 3 rfl) ?_
        refine lv_ishr hx hb dX6_giftsOf_17 ?_
        refine lv_iconst (v := 1) hx hb dX6_giftsOf_18 (by decide) ?_
        refine lv_iand hx hb dX6_giftsOf_19 ?_
        refine lv_iconst (v := 1) hx hb dX6_giftsOf_20 (by decide) ?_
        refine lv_icmp_ne (tgt := 32) hx hb dX6_giftsOf_21 (by decide) (fun c_5 => ?_) (fun c_5 => ?_)
        · have h := h.2 c_5
          obtain ⟨x3_6, ex3_6⟩ : ∃ z : Int32, z = y3 + 1 := ⟨_, rfl⟩
          refine lv_iinc (v := x3_6) (lv' := [(3, .int x3_6), (0, .ref (X.1 0)), (1, .int x1), (2, .int y2)]) hx hb dX6_giftsOf_32 hl (k := 3) rfl (by rw [ex3_6]; rfl) (by decide) rfl (fun ls hl => ?_)
          have h := h x3_6 ex3_6
          refine lv_goto (tgt := 4) hx hb dX6_giftsOf_35 (by decide) ?_
          exact ih y2 x3_6 S_2 H locs ls hP hS (lv_sub hl [1, 2, 3, 0] rfl) h
        · have h := h.1 c_5
          refine lv_iload_n hx hb dX6_giftsOf_24 rfl (lv_at hl 2 rfl) ?_
          refine lv_aload_n hx hb dX6_giftsOf_25 rfl (lv_at hl 0 rfl) ?_
          refine lv_iload_n hx hb dX6_giftsOf_26 rfl (lv_at hl 3 rfl) ?_
          refine cVi (As := [.int y3]) (rest := [.int y2]) hX ⟨hx, hb, hml, hown, hT⟩ (c_X6_giftOf l D X hX H.size S_2 y3 _ h) (gd_V wl_X6_103 wi_X6_giftOf wv_X6_giftOf wn_X6 wc_X6_giftOf) rfl hd_X6_giftOf ⟨rfl, rfl⟩ ⟨Nat.le_of_ble_eq_true rfl, Nat.le_of_ble_eq_true rfl⟩ (va_recv hK hP (ci := 6) (q0 := 0) rfl cw_Yard) hK hP hS hF rfl hl.1 rfl (Nat.le_of_ble_eq_true rfl) dX6_giftsOf_27 ⟨Nat.zero_le _, Nat.zero_le _⟩ (fun r_8 S_7 H locs h hP hS => ?_)
          refine lv_iadd hx hb dX6_giftsOf_30 ?_
          refine lv_topi (fun x2_9 ex2_9 => ?_)
          have h := h x2_9 ex2_9
          refine lv_istore_n (lv' := [(2, .int x2_9), (0, .ref (X.1 0)), (1, .int x1), (3, .int y3)]) hx hb dX6_giftsOf_31 rfl hl (by decide) rfl (fun ls hl => ?_)
          obtain ⟨x3_10, ex3_10⟩ : ∃ z : Int32, z = y3 + 1 := ⟨_, rfl⟩
          refine lv_iinc (v := x3_10) (lv' := [(3, .int x3_10), (2, .int x2_9), (0, .ref (X.1 0)), (1, .int x1)]) hx hb dX6_giftsOf_32 hl (k := 3) rfl (by rw [ex3_10]; rfl) (by decide) rfl (fun ls hl => ?_)
          have h := h x3_10 ex3_10
          refine lv_goto (tgt := 4) hx hb dX6_giftsOf_35 (by decide) ?_
          exact ih x2_9 x3_10 S_7 H locs ls hP hS (lv_sub hl [2, 3, 1, 0] rfl) h
  have hl := lv_entry ([.ref (X.1 0), .int x1]) (n := 4) (Nat.le_of_ble_eq_true rfl)
  rw [lg_entry_eq]
  generalize (lg_sl ([.ref (X.1 0), .int x1]) ++ List.replicate (4 - (lg_sl ([.ref (X.1 0), .int x1])).length) Slot.unset).toArray = ls at hl ⊢
  have hl : lv_has ls 4 [(0, .ref (X.1 0)), (1, .int x1)] := hl
  obtain ⟨H, hH⟩ : ∃ H : Heap, H = s.heap := ⟨_, rfl⟩
  obtain ⟨locs, hlc⟩ : ∃ q : List Loc, q = [] := ⟨_, rfl⟩
  have hS : va_S (AX 75 X.1 s.heap.size) s.heap H locs := by rw [hH, hlc]; exact hS
  have hP : va_P D vwCl (CW X S) H := by rw [hH]; exact hP
  show W p l e (headSpec (Cond.code yX6_giftsOf cX6_giftsOf 4 (some .int) :: lw_gd) rm_X6_giftsOf).room s m ([.ref (X.1 0), .int x1] : List Value).toArray below meth c s.heap [] 0 0 (MQ below (va_Qi post (gB D (CW X)) (AX 75 X.1 s.heap.size)) ([.ref (X.1 0), .int x1] : List Value).toArray s 0 0 (AX 75 X.1 s.heap.size)) _
  suffices hgo : W p l e (headSpec (Cond.code yX6_giftsOf cX6_giftsOf 4 (some .int) :: lw_gd) rm_X6_giftsOf).room s m ([.ref (X.1 0), .int x1] : List Value).toArray below meth c H locs 0 0 (MQ below (va_Qi post (gB D (CW X)) (AX 75 X.1 s.heap.size)) ([.ref (X.1 0), .int x1] : List Value).toArray s 0 0 (AX 75 X.1 s.heap.size)) (F0 m 0 ls []) from by rw [hH, hlc] at hgo; exact hgo
  unfold p_X6_giftsOf at h
  refine lv_iconst (v := 0) hx hb dX6_giftsOf_0 (by decide) ?_
  refine lv_istore_n (lv' := [(2, .int 0), (0, .ref (X.1 0)), (1, .int x1)]) hx hb dX6_giftsOf_1 rfl hl (by decide) rfl (fun ls hl => ?_)
  refine lv_iconst (v := 0) hx hb dX6_giftsOf_2 (by decide) ?_
  refine lv_istore_n (lv' := [(3, .int 0), (2, .int 0), (0, .ref (X.1 0)), (1, .int x1)]) hx hb dX6_giftsOf_3 rfl hl (by decide) rfl (fun ls hl => ?_)
  obtain ⟨n1, h⟩ := h
  exact W4  n1 0 0 S H locs ls hP hS (lv_sub hl [2, 3, 1, 0] rfl) h

abbrev rm_X6_cutFor : Room := { frames := 5, cells := 0, slots := 0, locals := 107 }
def q_X6_cutFor_25  (post : Int32 → CS → Prop) : Nat → Int32 → Int32 → Int32 → Int32 → Int32 → CS → Prop
  | 0, _, _, _, _, _, _ => False
  | n9 + 1, y1, y2, y3, y4, y5, S => (y2 ≤ y5 → (post y3 S)) ∧ (¬ (y2 ≤ y5) → (p_J6_bitCount_0f7a4 S y5 (fun r_9 S_8 => ((y4 ≤ r_9 → (∀ x5_11 : Int32, x5_11 = y5 + 1 → (q_X6_cutFor_25 post n9 y1 y2 y3 y4 x5_11 S_8))) ∧ (¬ (y4 ≤ r_9) → (p_X6_giftsOf S_8 y5 (fun r_13 S_12 => ((r_13 < y1 → (∀ x5_15 : Int32, x5_15 = y5 + 1 → (q_X6_cutFor_25 post n9 y1 y2 y3 y4 x5_15 S_12))) ∧ (¬ (r_13 < y1) → (∀ x5_16 : Int32, x5_16 = y5 + 1 → (q_X6_cutFor_25 post n9 y1 y2 y5 r_9 x5_16 S_12)))))))))))
def p_X6_cutFor (S : CS)  (post : Int32 → CS → Prop) : Prop := p_X6_lackingTwigs S  (fun r_2 S_1 => ((S_1.2.1 < 2) ∧ (p_X5_parts S_1 S_1.2.1 (fun r_5 S_4 => (∀ x2_6 : Int32, x2_6 = (1 <<< (r_5 &&& 31)) → (∃ n, q_X6_cutFor_25 post n r_2 x2_6 (-9) 7 0 S_4))))))
set_option maxHeartbeats 4000000 in
set_option maxRecDepth 100000 in
theorem c_X6_cutFor (l : Launch) (D : va_G) (X : XE) (hX : Inj 75 X.1) (sz : Nat) (S : CS)  (post : Int32 → CS → Prop) (h : p_X6_cutFor S  post) : Met l yX6_cutFor (Cond.code yX6_cutFor cX6_cutFor 7 (some .int) :: lw_gd) rm_X6_cutFor (gPc D (tyX X) (CW X) (FXc X) (AX 75 X.1 sz) sz S [.ref (X.1 0)]) (va_Qi post (gB D (CW X)) (AX 75 X.1 sz)) 0 0 (AX 75 X.1 sz) := by
  refine Met.ofW (cc := cX6_cutFor) (maxL := 7) (ret := (some .int)) (by decide) rfl ?_
  intro p e s m args below meth c s₁ B hml hv
  obtain ⟨rfl, hsz, hP, hK, hF⟩ := hv
  have hx := B.exec
  have hb := B.bytes
  have hr := B.returns
  have hts := atoms_spec (ws := (Cond.code yX6_cutFor cX6_cutFor 7 (some .int) :: lw_gd)) B.pre
  have hT : ∀ w ∈ lw_gd, w.before _ s = true := fun w h9 => hts w (List.mem_cons_of_mem _ h9)
  have hown : s.vm.findClass RX6 = some m.cls := findClass_of_methodNamed B.named
  have hlocks := B.notSynchronized
  subst hsz
  have hS : va_S (AX 75 X.1 s.heap.size) s.heap s.heap [] := va_S.rf
  have W25 : ∀ n1 : Nat, ∀ (y1 : Int32) (y2 : Int32) (y3 : Int32) (y4 : Int32) (y5 : Int32) (S : CS) (H : Heap) (locs : List Loc) (ls : Array Slot), va_P D vwCl (CW X S) H → va_S (AX 75 X.1 s.heap.size) s.heap H locs → lv_has ls 7 [(0, .ref (X.1 0)), (1, .int y1), (2, .int y2), (3, .int y3), (4, .int y4), (5, .int y5)] → q_X6_cutFor_25 post n1 y1 y2 y3 y4 y5 S → W p l e (headSpec (Cond.code yX6_cutFor cX6_cutFor 7 (some .int) :: lw_gd) rm_X6_cutFor).room s m ([.ref (X.1 0)] : List Value).toArray below meth c H locs 0 0 (MQ below (va_Qi post (gB D (CW X)) (AX 75 X.1 s.heap.size)) ([.ref (X.1 0)] : List Value).toArray s 0 0 (AX 75 X.1 s.heap.size)) (F0 m 25 ls []) := by
    intro n1
    induction n1 with
    | zero => intro y1 y2 y3 y4 y5 S H locs ls hP hS hl h; exact h.elim
    | succ n9 ih =>
      intro y1 y2 y3 y4 y5 S H locs ls hP hS hl h
      rw [q_X6_cutFor_25] at h
      refine lv_iload hx hb dX6_cutFor_25 (lv_at hl 5 rfl) ?_
      refine lv_iload_n hx hb dX6_cutFor_27 rfl (lv_at hl 2 rfl) ?_
      refine lv_icmp_ge (tgt := 68) hx hb dX6_cutFor_28 (by decide) (fun c_7 => ?_) (fun c_7 => ?_)
      · have h := h.1 c_7
        refine lv_iload_n hx hb dX6_cutFor_68 rfl (lv_at hl 3 rfl) ?_
        exact W.iret (v := y3) hx hb hr (fun t ht hW => ⟨⟨y3, S, rfl, h, gB_of ht hP⟩, hS.F ht⟩) hS.2.2 dX6_cutFor_69
      · have h := h.2 c_7
        refine lv_iload hx hb dX6_cutFor_31 (lv_at hl 5 rfl) ?_
        refine cSi (As := [.int y5]) (rest := []) hX ⟨hx, hb, hml, hown, hT⟩ (c_J6_bitCount_0f7a4 l D X hX H.size S y5 _ h) (gd_S wl_X6_222 wt_J6_bitCount_0f7a4 wn_J6 wc_J6_bitCount_0f7a4) hd_J6_bitCount_0f7a4 ⟨rfl, rfl⟩ ⟨Nat.le_of_ble_eq_true rfl, Nat.le_of_ble_eq_true rfl⟩ hK hP hS hF rfl hl.1 rfl (Nat.le_of_ble_eq_true rfl) dX6_cutFor_33 ⟨Nat.zero_le _, Nat.zero_le _⟩ (fun r_9 S_8 H locs h hP hS => ?_)
        refine lv_istore (lv' := [(6, .int r_9), (0, .ref (X.1 0)), (1, .int y1), (2, .int y2), (3, .int y3), (4, .int y4), (5, .int y5)]) hx hb dX6_cutFor_36 hl (by decide) rfl (fun ls hl => ?_)
        refine lv_iload hx hb dX6_cutFor_38 (lv_at hl 0 rfl) ?_
        refine lv_iload hx hb dX6_cutFor_40 (lv_at hl 5 rfl) ?_
        refine lv_icmp_ge (tgt := 62) hx hb dX6_cutFor_42 (by decide) (fun c_10 => ?_) (fun c_10 => ?_)
        · have h := h.1 c_10
          obtain ⟨x5_11, ex5_11⟩ : ∃ z : Int32, z = y5 + 1 := ⟨_, rfl⟩
          refine lv_iinc (v := x5_11) (lv' := [(5, .int x5_11), (6, .int r_9), (0, .ref (X.1 0)), (1, .int y1), (2, .int y2), (3, .int y3), (4, .int y4)]) hx hb dX6_cutFor_62 hl (k := 6) rfl (by rw [ex5_11]; rfl) (by decide) rfl (fun ls hl => ?_)
          have h := h x5_11 ex5_11
          refine lv_goto (tgt := 25) hx hb dX6_cutFor_65 (by decide) ?_
          exact ih y1 y2 y3 y4 x5_11 S_8 H locs ls hP hS (lv_sub hl [2, 3, 4, 5, 6, 0] rfl) h
        · have h := h.2 c_10
          refine lv_aload_n hx hb dX6_cutFor_45 rfl (lv_at hl 1 rfl) ?_
          refine lv_iload hx hb dX6_cutFor_46 (lv_at hl 6 rfl) ?_
          refine cVi (As := [.int y5]) (rest := []) hX ⟨hx, hb, hml, hown, hT⟩ (c_X6_giftsOf l D X hX H.size S_8 y5 _ h) (gd_V wl_X6_227 wi_X6_giftsOf wv_X6_giftsOf wn_X6 wc_X6_giftsOf) rfl hd_X6_giftsOf ⟨rfl, rfl⟩ ⟨Nat.le_of_ble_eq_true rfl, Nat.le_of_ble_eq_true rfl⟩ (va_recv hK hP (ci := 6) (q0 := 0) rfl cw_Yard) hK hP hS hF rfl hl.1 rfl (Nat.le_of_ble_eq_true rfl) dX6_cutFor_48 ⟨Nat.zero_le _, Nat.zero_le _⟩ (fun r_13 S_12 H locs h hP hS => ?_)
          refine lv_iload_n hx hb dX6_cutFor_51 rfl (lv_at hl 2 rfl) ?_
          refine lv_icmp_lt (tgt := 62) hx hb dX6_cutFor_52 (by decide) (fun c_14 => ?_) (fun c_14 => ?_)
          · have h := h.1 c_14
            obtain ⟨x5_15, ex5_15⟩ : ∃ z : Int32, z = y5 + 1 := ⟨_, rfl⟩
            refine lv_iinc (v := x5_15) (lv' := [(5, .int x5_15), (6, .int r_9), (0, .ref (X.1 0)), (1, .int y1), (2, .int y2), (3, .int y3), (4, .int y4)]) hx hb dX6_cutFor_62 hl (k := 6) rfl (by rw [ex5_15]; rfl) (by decide) rfl (fun ls hl => ?_)
            have h := h x5_15 ex5_15
            refine lv_goto (tgt := 25) hx hb dX6_cutFor_65 (by decide) ?_
            exact ih y1 y2 y3 y4 x5_15 S_12 H locs ls hP hS (lv_sub hl [2, 3, 4, 5, 6, 0] rfl) h
          · have h := h.2 c_14
            refine lv_iload hx hb dX6_cutFor_55 (lv_at hl 6 rfl) ?_
            refine lv_istore_n (lv' := [(3, .int y5), (6, .int r_9), (0, .ref (X.1 0)), (1, .int y1), (2, .int y2), (4, .int y4), (5, .int y5)]) hx hb dX6_cutFor_57 rfl hl (by decide) rfl (fun ls hl => ?_)
            refine lv_iload hx hb dX6_cutFor_58 (lv_at hl 1 rfl) ?_
            refine lv_istore (lv' := [(4, .int r_9), (3, .int y5), (6, .int r_9), (0, .ref (X.1 0)), (1, .int y1), (2, .int y2), (5, .int y5)]) hx hb dX6_cutFor_60 hl (by decide) rfl (fun ls hl => ?_)
            obtain ⟨x5_16, ex5_16⟩ : ∃ z : Int32, z = y5 + 1 := ⟨_, rfl⟩
            refine lv_iinc (v := x5_16) (lv' := [(5, .int x5_16), (4, .int r_9), (3, .int y5), (6, .int r_9), (0, .ref (X.1 0)), (1, .int y1), (2, .int y2)]) hx hb dX6_cutFor_62 hl (k := 6) rfl (by rw [ex5_16]; rfl) (by decide) rfl (fun ls hl => ?_)
            have h := h x5_16 ex5_16
            refine lv_goto (tgt := 25) hx hb dX6_cutFor_65 (by decide) ?_
            exact ih y1 y2 y5 r_9 x5_16 S_12 H locs ls hP hS (lv_sub hl [4, 5, 6, 2, 1, 0] rfl) h
  have hl := lv_entry ([.ref (X.1 0)]) (n := 7) (Nat.le_of_ble_eq_true rfl)
  rw [lg_entry_eq]
  generalize (lg_sl ([.ref (X.1 0)]) ++ List.replicate (7 - (lg_sl ([.ref (X.1 0)])).length) Slot.unset).toArray = ls at hl ⊢
  have hl : lv_has ls 7 [(0, .ref (X.1 0))] := hl
  obtain ⟨H, hH⟩ : ∃ H : Heap, H = s.heap := ⟨_, rfl⟩
  obtain ⟨locs, hlc⟩ : ∃ q : List Loc, q = [] := ⟨_, rfl⟩
  have hS : va_S (AX 75 X.1 s.heap.size) s.heap H locs := by rw [hH, hlc]; exact hS
  have hP : va_P D vwCl (CW X S) H := by rw [hH]; exact hP
  show W p l e (headSpec (Cond.code yX6_cutFor cX6_cutFor 7 (some .int) :: lw_gd) rm_X6_cutFor).room s m ([.ref (X.1 0)] : List Value).toArray below meth c s.heap [] 0 0 (MQ below (va_Qi post (gB D (CW X)) (AX 75 X.1 s.heap.size)) ([.ref (X.1 0)] : List Value).toArray s 0 0 (AX 75 X.1 s.heap.size)) _
  suffices hgo : W p l e (headSpec (Cond.code yX6_cutFor cX6_cutFor 7 (some .int) :: lw_gd) rm_X6_cutFor).room s m ([.ref (X.1 0)] : List Value).toArray below meth c H locs 0 0 (MQ below (va_Qi post (gB D (CW X)) (AX 75 X.1 s.heap.size)) ([.ref (X.1 0)] : List Value).toArray s 0 0 (AX 75 X.1 s.heap.size)) (F0 m 0 ls []) from by rw [hH, hlc] at hgo; exact hgo
  unfold p_X6_cutFor at h
  refine lv_aload_n hx hb dX6_cutFor_0 rfl (lv_at hl 0 rfl) ?_
  refine cVi (As := []) (rest := []) hX ⟨hx, hb, hml, hown, hT⟩ (c_X6_lackingTwigs l D X hX H.size S  _ h) (gd_V wl_X6_216 wi_X6_lackingTwigs wv_X6_lackingTwigs wn_X6 wc_X6_lackingTwigs) rfl hd_X6_lackingTwigs ⟨rfl, rfl⟩ ⟨Nat.le_of_ble_eq_true rfl, Nat.le_of_ble_eq_true rfl⟩ (va_recv hK hP (ci := 6) (q0 := 0) rfl cw_Yard) hK hP hS hF rfl hl.1 rfl (Nat.le_of_ble_eq_true rfl) dX6_cutFor_1 ⟨Nat.zero_le _, Nat.zero_le _⟩ (fun r_2 S_1 H locs h hP hS => ?_)
  refine lv_istore_n (lv' := [(1, .int r_2), (0, .ref (X.1 0))]) hx hb dX6_cutFor_4 rfl hl (by decide) rfl (fun ls hl => ?_)
  refine lv_iconst (v := 1) hx hb dX6_cutFor_5 (by decide) ?_
  refine lv_aload_n hx hb dX6_cutFor_6 rfl (lv_at hl 1 rfl) ?_
  obtain ⟨ht_3, h⟩ := h
  refine va_get (D := D) (ci := 6) (v := .ref (X.1 (to S_1.2.1))) (C := RX6) (T := TX6) (N := 16) hx hb hT inX6 hown hK hP 0 cw_Yard rfl 1 (by decide) (hT _ wf_X6_19) (fun _ h9 => h9) rfl dX6_cutFor_7 ?_
  refine cVi (As := []) (rest := [.int 1]) hX ⟨hx, hb, hml, hown, hT⟩ (c_X5_parts l D X hX H.size S_1 S_1.2.1 (by omega) _ h) (gd_V wl_X6_219 wi_X5_parts wv_X5_parts wn_X5 wc_X5_parts) rfl hd_X5_parts ⟨rfl, rfl⟩ ⟨Nat.le_of_ble_eq_true rfl, Nat.le_of_ble_eq_true rfl⟩ (va_recv hK hP (ci := 5) (q0 := (to S_1.2.1)) rfl (cw_Told (t := S_1.2.1) (by omega))) hK hP hS hF rfl hl.1 rfl (Nat.le_of_ble_eq_true rfl) dX6_cutFor_10 ⟨Nat.zero_le _, Nat.zero_le _⟩ (fun r_5 S_4 H locs h hP hS => ?_)
  refine lv_ishl hx hb dX6_cutFor_13 ?_
  refine lv_topi (fun x2_6 ex2_6 => ?_)
  have h := h x2_6 ex2_6
  refine lv_istore_n (lv' := [(2, .int x2_6), (1, .int r_2), (0, .ref (X.1 0))]) hx hb dX6_cutFor_14 rfl hl (by decide) rfl (fun ls hl => ?_)
  refine lv_bipush (v := (-9)) hx hb dX6_cutFor_15 (by decide) ?_
  refine lv_istore_n (lv' := [(3, .int (-9)), (2, .int x2_6), (1, .int r_2), (0, .ref (X.1 0))]) hx hb dX6_cutFor_17 rfl hl (by decide) rfl (fun ls hl => ?_)
  refine lv_bipush (v := 7) hx hb dX6_cutFor_18 (by decide) ?_
  refine lv_istore (lv' := [(4, .int 7), (3, .int (-9)), (2, .int x2_6), (1, .int r_2), (0, .ref (X.1 0))]) hx hb dX6_cutFor_20 hl (by decide) rfl (fun ls hl => ?_)
  refine lv_iconst (v := 0) hx hb dX6_cutFor_22 (by decide) ?_
  refine lv_istore (lv' := [(5, .int 0), (4, .int 7), (3, .int (-9)), (2, .int x2_6), (1, .int r_2), (0, .ref (X.1 0))]) hx hb dX6_cutFor_23 hl (by decide) rfl (fun ls hl => ?_)
  obtain ⟨n1, h⟩ := h
  exact W25  n1 r_2 x2_6 (-9) 7 0 S_4 H locs ls hP hS (lv_sub hl [5, 4, 3, 2, 1, 0] rfl) h

abbrev rm_X6_allBy : Room := { frames := 3, cells := 0, slots := 0, locals := 65 }
def p_X6_allBy (S : CS)  (post : Int32 → CS → Prop) : Prop := p_X6_besomsToBind S  (fun r_2 S_1 => ((S_1.2.1 < 2) ∧ (p_X5_pace S_1 S_1.2.1 (fun r_5 S_4 => (p_X6_cutUpwards S_4 r_2 r_5 (fun r_7 S_6 => (post ((S.1 (mo 0) 4) + r_7) S_6)))))))
set_option maxHeartbeats 4000000 in
set_option maxRecDepth 100000 in
theorem c_X6_allBy (l : Launch) (D : va_G) (X : XE) (hX : Inj 75 X.1) (sz : Nat) (S : CS)  (post : Int32 → CS → Prop) (h : p_X6_allBy S  post) : Met l yX6_allBy (Cond.code yX6_allBy cX6_allBy 1 (some .int) :: lw_gd) rm_X6_allBy (gPc D (tyX X) (CW X) (FXc X) (AX 75 X.1 sz) sz S [.ref (X.1 0)]) (va_Qi post (gB D (CW X)) (AX 75 X.1 sz)) 0 0 (AX 75 X.1 sz) := by
  refine Met.ofW (cc := cX6_allBy) (maxL := 1) (ret := (some .int)) (by decide) rfl ?_
  intro p e s m args below meth c s₁ B hml hv
  obtain ⟨rfl, hsz, hP, hK, hF⟩ := hv
  have hx := B.exec
  have hb := B.bytes
  have hr := B.returns
  have hts := atoms_spec (ws := (Cond.code yX6_allBy cX6_allBy 1 (some .int) :: lw_gd)) B.pre
  have hT : ∀ w ∈ lw_gd, w.before _ s = true := fun w h9 => hts w (List.mem_cons_of_mem _ h9)
  have hown : s.vm.findClass RX6 = some m.cls := findClass_of_methodNamed B.named
  have hlocks := B.notSynchronized
  subst hsz
  have hS : va_S (AX 75 X.1 s.heap.size) s.heap s.heap [] := va_S.rf
  have hl := lv_entry ([.ref (X.1 0)]) (n := 1) (Nat.le_of_ble_eq_true rfl)
  rw [lg_entry_eq]
  generalize (lg_sl ([.ref (X.1 0)]) ++ List.replicate (1 - (lg_sl ([.ref (X.1 0)])).length) Slot.unset).toArray = ls at hl ⊢
  have hl : lv_has ls 1 [(0, .ref (X.1 0))] := hl
  obtain ⟨H, hH⟩ : ∃ H : Heap, H = s.heap := ⟨_, rfl⟩
  obtain ⟨locs, hlc⟩ : ∃ q : List Loc, q = [] := ⟨_, rfl⟩
  have hS : va_S (AX 75 X.1 s.heap.size) s.heap H locs := by rw [hH, hlc]; exact hS
  have hP : va_P D vwCl (CW X S) H := by rw [hH]; exact hP
  show W p l e (headSpec (Cond.code yX6_allBy cX6_allBy 1 (some .int) :: lw_gd) rm_X6_allBy).room s m ([.ref (X.1 0)] : List Value).toArray below meth c s.heap [] 0 0 (MQ below (va_Qi post (gB D (CW X)) (AX 75 X.1 s.heap.size)) ([.ref (X.1 0)] : List Value).toArray s 0 0 (AX 75 X.1 s.heap.size)) _
  suffices hgo : W p l e (headSpec (Cond.code yX6_allBy cX6_allBy 1 (some .int) :: lw_gd) rm_X6_allBy).room s m ([.ref (X.1 0)] : List Value).toArray below meth c H locs 0 0 (MQ below (va_Qi post (gB D (CW X)) (AX 75 X.1 s.heap.size)) ([.ref (X.1 0)] : List Value).toArray s 0 0 (AX 75 X.1 s.heap.size)) (F0 m 0 ls []) from by rw [hH, hlc] at hgo; exact hgo
  unfold p_X6_allBy at h
  refine lv_aload_n hx hb dX6_allBy_0 rfl (lv_at hl 0 rfl) ?_
  refine va_get (D := D) (ci := 6) (v := .ref (X.1 (mo 0))) (C := RX6) (T := TX6) (N := 16) hx hb hT inX6 hown hK hP 0 cw_Yard rfl 3 (by decide) (hT _ wf_X6_29) (fun _ h9 => h9) rfl dX6_allBy_1 ?_
  refine va_getN (D := D) (ci := 1) (v := .int (S.1 (mo 0) 4)) (C := RX1) (T := TX1) (N := 8) hx hb hT inX1 hown hK hP (mo 0) (cw_Moment (m := 0) (by decide)) rfl 4 (by decide) (va_Nw.use rfl hF.1.1.2.2.2.2.1) (fun _ h9 => h9) rfl dX6_allBy_4 ?_
  refine lv_aload_n hx hb dX6_allBy_7 rfl (lv_at hl 0 rfl) ?_
  refine cVi (As := []) (rest := [.int (S.1 (mo 0) 4)]) hX ⟨hx, hb, hml, hown, hT⟩ (c_X6_besomsToBind l D X hX H.size S  _ h) (gd_V wl_X6_230 wi_X6_besomsToBind wv_X6_besomsToBind wn_X6 wc_X6_besomsToBind) rfl hd_X6_besomsToBind ⟨rfl, rfl⟩ ⟨Nat.le_of_ble_eq_true rfl, Nat.le_of_ble_eq_true rfl⟩ (va_recv hK hP (ci := 6) (q0 := 0) rfl cw_Yard) hK hP hS hF rfl hl.1 rfl (Nat.le_of_ble_eq_true rfl) dX6_allBy_8 ⟨Nat.zero_le _, Nat.zero_le _⟩ (fun r_2 S_1 H locs h hP hS => ?_)
  refine lv_aload_n hx hb dX6_allBy_11 rfl (lv_at hl 0 rfl) ?_
  obtain ⟨ht_3, h⟩ := h
  refine va_get (D := D) (ci := 6) (v := .ref (X.1 (to S_1.2.1))) (C := RX6) (T := TX6) (N := 16) hx hb hT inX6 hown hK hP 0 cw_Yard rfl 1 (by decide) (hT _ wf_X6_19) (fun _ h9 => h9) rfl dX6_allBy_12 ?_
  refine cVi (As := []) (rest := [.int r_2, .int (S.1 (mo 0) 4)]) hX ⟨hx, hb, hml, hown, hT⟩ (c_X5_pace l D X hX H.size S_1 S_1.2.1 (by omega) _ h) (gd_V wl_X6_158 wi_X5_pace wv_X5_pace wn_X5 wc_X5_pace) rfl hd_X5_pace ⟨rfl, rfl⟩ ⟨Nat.le_of_ble_eq_true rfl, Nat.le_of_ble_eq_true rfl⟩ (va_recv hK hP (ci := 5) (q0 := (to S_1.2.1)) rfl (cw_Told (t := S_1.2.1) (by omega))) hK hP hS hF rfl hl.1 rfl (Nat.le_of_ble_eq_true rfl) dX6_allBy_15 ⟨Nat.zero_le _, Nat.zero_le _⟩ (fun r_5 S_4 H locs h hP hS => ?_)
  refine cSi (As := [.int r_2, .int r_5]) (rest := [.int (S.1 (mo 0) 4)]) hX ⟨hx, hb, hml, hown, hT⟩ (c_X6_cutUpwards l D X hX H.size S_4 r_2 r_5 _ h) (gd_S wl_X6_161 wt_X6_cutUpwards wn_X6 wc_X6_cutUpwards) hd_X6_cutUpwards ⟨rfl, rfl⟩ ⟨Nat.le_of_ble_eq_true rfl, Nat.le_of_ble_eq_true rfl⟩ hK hP hS hF rfl hl.1 rfl (Nat.le_of_ble_eq_true rfl) dX6_allBy_18 ⟨Nat.zero_le _, Nat.zero_le _⟩ (fun r_7 S_6 H locs h hP hS => ?_)
  refine lv_iadd hx hb dX6_allBy_21 ?_
  exact W.iret (v := ((S.1 (mo 0) 4) + r_7)) hx hb hr (fun t ht hW => ⟨⟨((S.1 (mo 0) 4) + r_7), S_6, rfl, h, gB_of ht hP⟩, hS.F ht⟩) hS.2.2 dX6_allBy_22

abbrev rm_X6_sweepingsBy : Room := { frames := 3, cells := 0, slots := 0, locals := 65 }
def q_X6_sweepingsBy_16 (x1 : Int32) (post : Int32 → CS → Prop) : Nat → Int32 → CS → Prop
  | 0, _, _ => False
  | n9 + 1, y2, S => (200 ≤ y2 → (post y2 S)) ∧ (¬ (200 ≤ y2) → (p_X0_isWornOut S 0 (fun r_5 S_4 => ((r_5 = 0 → (p_X0_sweep S_4 0 (fun S_7 => (p_X0_turnBy S_7 0 x1 (fun S_9 => (∀ x2_11 : Int32, x2_11 = y2 + 1 → (q_X6_sweepingsBy_16 x1 post n9 x2_11 S_9))))))) ∧ (¬ (r_5 = 0) → (post y2 S_4))))))
def p_X6_sweepingsBy (S : CS) (x1 : Int32) (post : Int32 → CS → Prop) : Prop := p_X0_setAs S 0 (0 + 1) (fun S_1 => (∃ n, q_X6_sweepingsBy_16 x1 post n 0 S_1))
set_option maxHeartbeats 4000000 in
set_option maxRecDepth 100000 in
theorem c_X6_sweepingsBy (l : Launch) (D : va_G) (X : XE) (hX : Inj 75 X.1) (sz : Nat) (S : CS) (x1 : Int32) (post : Int32 → CS → Prop) (h : p_X6_sweepingsBy S x1 post) : Met l yX6_sweepingsBy (Cond.code yX6_sweepingsBy cX6_sweepingsBy 3 (some .int) :: lw_gd) rm_X6_sweepingsBy (gPc D (tyX X) (CW X) (FXc X) (AX 75 X.1 sz) sz S [.ref (X.1 0), .int x1]) (va_Qi post (gB D (CW X)) (AX 75 X.1 sz)) 0 0 (AX 75 X.1 sz) := by
  refine Met.ofW (cc := cX6_sweepingsBy) (maxL := 3) (ret := (some .int)) (by decide) rfl ?_
  intro p e s m args below meth c s₁ B hml hv
  obtain ⟨rfl, hsz, hP, hK, hF⟩ := hv
  have hx := B.exec
  have hb := B.bytes
  have hr := B.returns
  have hts := atoms_spec (ws := (Cond.code yX6_sweepingsBy cX6_sweepingsBy 3 (some .int) :: lw_gd)) B.pre
  have hT : ∀ w ∈ lw_gd, w.before _ s = true := fun w h9 => hts w (List.mem_cons_of_mem _ h9)
  have hown : s.vm.findClass RX6 = some m.cls := findClass_of_methodNamed B.named
  have hlocks := B.notSynchronized
  subst hsz
  have hS : va_S (AX 75 X.1 s.heap.size) s.heap s.heap [] := va_S.rf
  have W16 : ∀ n1 : Nat, ∀ (y2 : Int32) (S : CS) (H : Heap) (locs : List Loc) (ls : Array Slot), va_P D vwCl (CW X S) H → va_S (AX 75 X.1 s.heap.size) s.heap H locs → lv_has ls 3 [(0, .ref (X.1 0)), (1, .int x1), (2, .int y2)] → q_X6_sweepingsBy_16 x1 post n1 y2 S → W p l e (headSpec (Cond.code yX6_sweepingsBy cX6_sweepingsBy 3 (some .int) :: lw_gd) rm_X6_sweepingsBy).room s m ([.ref (X.1 0), .int x1] : List Value).toArray below meth c H locs 0 0 (MQ below (va_Qi post (gB D (CW X)) (AX 75 X.1 s.heap.size)) ([.ref (X.1 0), .int x1] : List Value).toArray s 0 0 (AX 75 X.1 s.heap.size)) (F0 m 16 ls []) := by
    intro n1
    induction n1 with
    | zero => intro y2 S H locs ls hP hS hl h; exact h.elim
    | succ n9 ih =>
      intro y2 S H locs ls hP hS hl h
      rw [q_X6_sweepingsBy_16] at h
      refine lv_iload_n hx hb dX6_sweepingsBy_16 rfl (lv_at hl 2 rfl) ?_
      refine lv_sipush (v := 200) hx hb dX6_sweepingsBy_17 (by decide) ?_
      refine lv_icmp_ge (tgt := 54) hx hb dX6_sweepingsBy_20 (by decide) (fun c_3 => ?_) (fun c_3 => ?_)
      · have h := h.1 c_3
        refine lv_iload_n hx hb dX6_sweepingsBy_54 rfl (lv_at hl 2 rfl) ?_
        exact W.iret (v := y2) hx hb hr (fun t ht hW => ⟨⟨y2, S, rfl, h, gB_of ht hP⟩, hS.F ht⟩) hS.2.2 dX6_sweepingsBy_55
      · have h := h.2 c_3
        refine lv_aload_n hx hb dX6_sweepingsBy_23 rfl (lv_at hl 0 rfl) ?_
        refine va_get (D := D) (ci := 6) (v := .ref (X.1 (bo 0))) (C := RX6) (T := TX6) (N := 16) hx hb hT inX6 hown hK hP 0 cw_Yard rfl 13 (by decide) (hT _ wf_X6_62) (fun _ h9 => h9) rfl dX6_sweepingsBy_24 ?_
        refine cVi (As := []) (rest := []) hX ⟨hx, hb, hml, hown, hT⟩ (c_X0_isWornOut l D X hX H.size S 0 (by decide) _ h) (gd_V wl_X6_305 wi_X0_isWornOut wv_X0_isWornOut wn_X0 wc_X0_isWornOut) rfl hd_X0_isWornOut ⟨rfl, rfl⟩ ⟨Nat.le_of_ble_eq_true rfl, Nat.le_of_ble_eq_true rfl⟩ (va_recv hK hP (ci := 0) (q0 := (bo 0)) rfl (cw_Besom (b := 0) (by decide))) hK hP hS hF rfl hl.1 rfl (Nat.le_of_ble_eq_true rfl) dX6_sweepingsBy_27 ⟨Nat.zero_le _, Nat.zero_le _⟩ (fun r_5 S_4 H locs h hP hS => ?_)
        refine lv_if_ne (tgt := 54) hx hb dX6_sweepingsBy_30 (by decide) (fun c_6 => ?_) (fun c_6 => ?_)
        · have h := h.2 c_6
          refine lv_iload_n hx hb dX6_sweepingsBy_54 rfl (lv_at hl 2 rfl) ?_
          exact W.iret (v := y2) hx hb hr (fun t ht hW => ⟨⟨y2, S_4, rfl, h, gB_of ht hP⟩, hS.F ht⟩) hS.2.2 dX6_sweepingsBy_55
        · have h := h.1 c_6
          refine lv_aload_n hx hb dX6_sweepingsBy_33 rfl (lv_at hl 0 rfl) ?_
          refine va_get (D := D) (ci := 6) (v := .ref (X.1 (bo 0))) (C := RX6) (T := TX6) (N := 16) hx hb hT inX6 hown hK hP 0 cw_Yard rfl 13 (by decide) (hT _ wf_X6_62) (fun _ h9 => h9) rfl dX6_sweepingsBy_34 ?_
          refine cVv (As := []) (rest := []) hX ⟨hx, hb, hml, hown, hT⟩ (c_X0_sweep l D X hX H.size S_4 0 (by decide) _ h) (gd_V wl_X6_167 wi_X0_sweep wv_X0_sweep wn_X0 wc_X0_sweep) rfl hd_X0_sweep ⟨rfl, rfl⟩ ⟨Nat.le_of_ble_eq_true rfl, Nat.le_of_ble_eq_true rfl⟩ (va_recv hK hP (ci := 0) (q0 := (bo 0)) rfl (cw_Besom (b := 0) (by decide))) hK hP hS hF rfl hl.1 rfl (Nat.le_of_ble_eq_true rfl) dX6_sweepingsBy_37 ⟨Nat.zero_le _, Nat.zero_le _⟩ (fun S_7 H locs h hP hS => ?_)
          refine lv_aload_n hx hb dX6_sweepingsBy_40 rfl (lv_at hl 0 rfl) ?_
          refine va_get (D := D) (ci := 6) (v := .ref (X.1 (bo 0))) (C := RX6) (T := TX6) (N := 16) hx hb hT inX6 hown hK hP 0 cw_Yard rfl 13 (by decide) (hT _ wf_X6_62) (fun _ h9 => h9) rfl dX6_sweepingsBy_41 ?_
          refine lv_iload_n hx hb dX6_sweepingsBy_44 rfl (lv_at hl 1 rfl) ?_
          refine cVv (As := [.int x1]) (rest := []) hX ⟨hx, hb, hml, hown, hT⟩ (c_X0_turnBy l D X hX H.size S_7 0 (by decide) x1 _ h) (gd_V wl_X6_170 wi_X0_turnBy wv_X0_turnBy wn_X0 wc_X0_turnBy) rfl hd_X0_turnBy ⟨rfl, rfl⟩ ⟨Nat.le_of_ble_eq_true rfl, Nat.le_of_ble_eq_true rfl⟩ (va_recv hK hP (ci := 0) (q0 := (bo 0)) rfl (cw_Besom (b := 0) (by decide))) hK hP hS hF rfl hl.1 rfl (Nat.le_of_ble_eq_true rfl) dX6_sweepingsBy_45 ⟨Nat.zero_le _, Nat.zero_le _⟩ (fun S_9 H locs h hP hS => ?_)
          obtain ⟨x2_11, ex2_11⟩ : ∃ z : Int32, z = y2 + 1 := ⟨_, rfl⟩
          refine lv_iinc (v := x2_11) (lv' := [(2, .int x2_11), (0, .ref (X.1 0)), (1, .int x1)]) hx hb dX6_sweepingsBy_48 hl (k := 2) rfl (by rw [ex2_11]; rfl) (by decide) rfl (fun ls hl => ?_)
          have h := h x2_11 ex2_11
          refine lv_goto (tgt := 16) hx hb dX6_sweepingsBy_51 (by decide) ?_
          exact ih x2_11 S_9 H locs ls hP hS (lv_sub hl [1, 2, 0] rfl) h
  have hl := lv_entry ([.ref (X.1 0), .int x1]) (n := 3) (Nat.le_of_ble_eq_true rfl)
  rw [lg_entry_eq]
  generalize (lg_sl ([.ref (X.1 0), .int x1]) ++ List.replicate (3 - (lg_sl ([.ref (X.1 0), .int x1])).length) Slot.unset).toArray = ls at hl ⊢
  have hl : lv_has ls 3 [(0, .ref (X.1 0)), (1, .int x1)] := hl
  obtain ⟨H, hH⟩ : ∃ H : Heap, H = s.heap := ⟨_, rfl⟩
  obtain ⟨locs, hlc⟩ : ∃ q : List Loc, q = [] := ⟨_, rfl⟩
  have hS : va_S (AX 75 X.1 s.heap.size) s.heap H locs := by rw [hH, hlc]; exact hS
  have hP : va_P D vwCl (CW X S) H := by rw [hH]; exact hP
  show W p l e (headSpec (Cond.code yX6_sweepingsBy cX6_sweepingsBy 3 (some .int) :: lw_gd) rm_X6_sweepingsBy).room s m ([.ref (X.1 0), .int x1] : List Value).toArray below meth c s.heap [] 0 0 (MQ below (va_Qi post (gB D (CW X)) (AX 75 X.1 s.heap.size)) ([.ref (X.1 0), .int x1] : List Value).toArray s 0 0 (AX 75 X.1 s.heap.size)) _
  suffices hgo : W p l e (headSpec (Cond.code yX6_sweepingsBy cX6_sweepingsBy 3 (some .int) :: lw_gd) rm_X6_sweepingsBy).room s m ([.ref (X.1 0), .int x1] : List Value).toArray below meth c H locs 0 0 (MQ below (va_Qi post (gB D (CW X)) (AX 75 X.1 s.heap.size)) ([.ref (X.1 0), .int x1] : List Value).toArray s 0 0 (AX 75 X.1 s.heap.size)) (F0 m 0 ls []) from by rw [hH, hlc] at hgo; exact hgo
  unfold p_X6_sweepingsBy at h
  refine lv_aload_n hx hb dX6_sweepingsBy_0 rfl (lv_at hl 0 rfl) ?_
  refine va_get (D := D) (ci := 6) (v := .ref (X.1 (bo 0))) (C := RX6) (T := TX6) (N := 16) hx hb hT inX6 hown hK hP 0 cw_Yard rfl 13 (by decide) (hT _ wf_X6_62) (fun _ h9 => h9) rfl dX6_sweepingsBy_1 ?_
  refine lv_aload_n hx hb dX6_sweepingsBy_4 rfl (lv_at hl 0 rfl) ?_
  refine va_get (D := D) (ci := 6) (v := .ref (X.1 (mo 0))) (C := RX6) (T := TX6) (N := 16) hx hb hT inX6 hown hK hP 0 cw_Yard rfl 3 (by decide) (hT _ wf_X6_29) (fun _ h9 => h9) rfl dX6_sweepingsBy_5 ?_
  refine va_getN (D := D) (ci := 1) (v := .ref (X.1 (bo (0 + 1)))) (C := RX1) (T := TX1) (N := 8) hx hb hT inX1 hown hK hP (mo 0) (cw_Moment (m := 0) (by decide)) rfl 1 (by decide) (va_Nw.use rfl hF.1.1.2.1) (fun _ h9 => h9) rfl dX6_sweepingsBy_8 ?_
  refine cVv (As := [.ref (X.1 (bo (0 + 1)))]) (rest := []) hX ⟨hx, hb, hml, hown, hT⟩ (c_X0_setAs l D X hX H.size S 0 (by decide) (0 + 1) (by omega) _ h) (gd_V wl_X6_301 wi_X0_setAs wv_X0_setAs wn_X0 wc_X0_setAs) rfl hd_X0_setAs ⟨rfl, rfl⟩ ⟨Nat.le_of_ble_eq_true rfl, Nat.le_of_ble_eq_true rfl⟩ (va_recv hK hP (ci := 0) (q0 := (bo 0)) rfl (cw_Besom (b := 0) (by decide))) hK hP hS hF rfl hl.1 rfl (Nat.le_of_ble_eq_true rfl) dX6_sweepingsBy_11 ⟨Nat.zero_le _, Nat.zero_le _⟩ (fun S_1 H locs h hP hS => ?_)
  refine lv_iconst (v := 0) hx hb dX6_sweepingsBy_14 (by decide) ?_
  refine lv_istore_n (lv' := [(2, .int 0), (0, .ref (X.1 0)), (1, .int x1)]) hx hb dX6_sweepingsBy_15 rfl hl (by decide) rfl (fun ls hl => ?_)
  obtain ⟨n1, h⟩ := h
  exact W16  n1 0 S_1 H locs ls hP hS (lv_sub hl [1, 2, 0] rfl) h

abbrev rm_X6_lasts : Room := { frames := 4, cells := 0, slots := 0, locals := 87 }
def p_X6_lasts (S : CS) (x1 : Int32) (post : Int32 → CS → Prop) : Prop := p_X6_isSide S x1 (fun r_2 S_1 => ((r_2 = 0 → (post (-1) S_1)) ∧ (¬ (r_2 = 0) → (p_X6_sweepingsBy S_1 x1 (fun r_5 S_4 => (post r_5 S_4))))))
set_option maxHeartbeats 4000000 in
set_option maxRecDepth 100000 in
theorem c_X6_lasts (l : Launch) (D : va_G) (X : XE) (hX : Inj 75 X.1) (sz : Nat) (S : CS) (x1 : Int32) (post : Int32 → CS → Prop) (h : p_X6_lasts S x1 post) : Met l yX6_lasts (Cond.code yX6_lasts cX6_lasts 2 (some .int) :: lw_gd) rm_X6_lasts (gPc D (tyX X) (CW X) (FXc X) (AX 75 X.1 sz) sz S [.ref (X.1 0), .int x1]) (va_Qi post (gB D (CW X)) (AX 75 X.1 sz)) 0 0 (AX 75 X.1 sz) := by
  refine Met.ofW (cc := cX6_lasts) (maxL := 2) (ret := (some .int)) (by decide) rfl ?_
  intro p e s m args below meth c s₁ B hml hv
  obtain ⟨rfl, hsz, hP, hK, hF⟩ := hv
  have hx := B.exec
  have hb := B.bytes
  have hr := B.returns
  have hts := atoms_spec (ws := (Cond.code yX6_lasts cX6_lasts 2 (some .int) :: lw_gd)) B.pre
  have hT : ∀ w ∈ lw_gd, w.before _ s = true := fun w h9 => hts w (List.mem_cons_of_mem _ h9)
  have hown : s.vm.findClass RX6 = some m.cls := findClass_of_methodNamed B.named
  have hlocks := B.notSynchronized
  subst hsz
  have hS : va_S (AX 75 X.1 s.heap.size) s.heap s.heap [] := va_S.rf
  have hl := lv_entry ([.ref (X.1 0), .int x1]) (n := 2) (Nat.le_of_ble_eq_true rfl)
  rw [lg_entry_eq]
  generalize (lg_sl ([.ref (X.1 0), .int x1]) ++ List.replicate (2 - (lg_sl ([.ref (X.1 0), .int x1])).length) Slot.unset).toArray = ls at hl ⊢
  have hl : lv_has ls 2 [(0, .ref (X.1 0)), (1, .int x1)] := hl
  obtain ⟨H, hH⟩ : ∃ H : Heap, H = s.heap := ⟨_, rfl⟩
  obtain ⟨locs, hlc⟩ : ∃ q : List Loc, q = [] := ⟨_, rfl⟩
  have hS : va_S (AX 75 X.1 s.heap.size) s.heap H locs := by rw [hH, hlc]; exact hS
  have hP : va_P D vwCl (CW X S) H := by rw [hH]; exact hP
  show W p l e (headSpec (Cond.code yX6_lasts cX6_lasts 2 (some .int) :: lw_gd) rm_X6_lasts).room s m ([.ref (X.1 0), .int x1] : List Value).toArray below meth c s.heap [] 0 0 (MQ below (va_Qi post (gB D (CW X)) (AX 75 X.1 s.heap.size)) ([.ref (X.1 0), .int x1] : List Value).toArray s 0 0 (AX 75 X.1 s.heap.size)) _
  suffices hgo : W p l e (headSpec (Cond.code yX6_lasts cX6_lasts 2 (some .int) :: lw_gd) rm_X6_lasts).room s m ([.ref (X.1 0), .int x1] : List Value).toArray below meth c H locs 0 0 (MQ below (va_Qi post (gB D (CW X)) (AX 75 X.1 s.heap.size)) ([.ref (X.1 0), .int x1] : List Value).toArray s 0 0 (AX 75 X.1 s.heap.size)) (F0 m 0 ls []) from by rw [hH, hlc] at hgo; exact hgo
  unfold p_X6_lasts at h
  refine lv_iload_n hx hb dX6_lasts_0 rfl (lv_at hl 1 rfl) ?_
  refine cSi (As := [.int x1]) (rest := []) hX ⟨hx, hb, hml, hown, hT⟩ (c_X6_isSide l D X hX H.size S x1 _ h) (gd_S wl_X6_112 wt_X6_isSide wn_X6 wc_X6_isSide) hd_X6_isSide ⟨rfl, rfl⟩ ⟨Nat.le_of_ble_eq_true rfl, Nat.le_of_ble_eq_true rfl⟩ hK hP hS hF rfl hl.1 rfl (Nat.le_of_ble_eq_true rfl) dX6_lasts_1 ⟨Nat.zero_le _, Nat.zero_le _⟩ (fun r_2 S_1 H locs h hP hS => ?_)
  refine lv_if_eq (tgt := 15) hx hb dX6_lasts_4 (by decide) (fun c_3 => ?_) (fun c_3 => ?_)
  · have h := h.1 c_3
    refine lv_iconst (v := (-1)) hx hb dX6_lasts_15 (by decide) ?_
    exact W.iret (v := (-1)) hx hb hr (fun t ht hW => ⟨⟨(-1), S_1, rfl, h, gB_of ht hP⟩, hS.F ht⟩) hS.2.2 dX6_lasts_16
  · have h := h.2 c_3
    refine lv_aload_n hx hb dX6_lasts_7 rfl (lv_at hl 0 rfl) ?_
    refine lv_iload_n hx hb dX6_lasts_8 rfl (lv_at hl 1 rfl) ?_
    refine cVi (As := [.int x1]) (rest := []) hX ⟨hx, hb, hml, hown, hT⟩ (c_X6_sweepingsBy l D X hX H.size S_1 x1 _ h) (gd_V wl_X6_233 wi_X6_sweepingsBy wv_X6_sweepingsBy wn_X6 wc_X6_sweepingsBy) rfl hd_X6_sweepingsBy ⟨rfl, rfl⟩ ⟨Nat.le_of_ble_eq_true rfl, Nat.le_of_ble_eq_true rfl⟩ (va_recv hK hP (ci := 6) (q0 := 0) rfl cw_Yard) hK hP hS hF rfl hl.1 rfl (Nat.le_of_ble_eq_true rfl) dX6_lasts_9 ⟨Nat.zero_le _, Nat.zero_le _⟩ (fun r_5 S_4 H locs h hP hS => ?_)
    refine lv_goto (tgt := 16) hx hb dX6_lasts_12 (by decide) ?_
    exact W.iret (v := r_5) hx hb hr (fun t ht hW => ⟨⟨r_5, S_4, rfl, h, gB_of ht hP⟩, hS.F ht⟩) hS.2.2 dX6_lasts_16

abbrev rm_X6_latest : Room := { frames := 4, cells := 0, slots := 0, locals := 87 }
def q_X6_latest_6  (post : Int32 → CS → Prop) : Nat → Int32 → Int32 → Int32 → CS → Prop
  | 0, _, _, _, _ => False
  | n9 + 1, y1, y2, y3, S => (8 ≤ y3 → (post y1 S)) ∧ (¬ (8 ≤ y3) → (p_X6_sweepingsBy S y3 (fun r_3 S_2 => ((r_3 ≤ y2 → (∀ x3_5 : Int32, x3_5 = y3 + 1 → (q_X6_latest_6 post n9 y1 y2 x3_5 S_2))) ∧ (¬ (r_3 ≤ y2) → (∀ x3_6 : Int32, x3_6 = y3 + 1 → (q_X6_latest_6 post n9 y3 r_3 x3_6 S_2)))))))
def p_X6_latest (S : CS)  (post : Int32 → CS → Prop) : Prop := ∃ n, q_X6_latest_6 post n 0 (-1) 0 S
set_option maxHeartbeats 4000000 in
set_option maxRecDepth 100000 in
theorem c_X6_latest (l : Launch) (D : va_G) (X : XE) (hX : Inj 75 X.1) (sz : Nat) (S : CS)  (post : Int32 → CS → Prop) (h : p_X6_latest S  post) : Met l yX6_latest (Cond.code yX6_latest cX6_latest 5 (some .int) :: lw_gd) rm_X6_latest (gPc D (tyX X) (CW X) (FXc X) (AX 75 X.1 sz) sz S [.ref (X.1 0)]) (va_Qi post (gB D (CW X)) (AX 75 X.1 sz)) 0 0 (AX 75 X.1 sz) := by
  refine Met.ofW (cc := cX6_latest) (maxL := 5) (ret := (some .int)) (by decide) rfl ?_
  intro p e s m args below meth c s₁ B hml hv
  obtain ⟨rfl, hsz, hP, hK, hF⟩ := hv
  have hx := B.exec
  have hb := B.bytes
  have hr := B.returns
  have hts := atoms_spec (ws := (Cond.code yX6_latest cX6_latest 5 (some .int) :: lw_gd)) B.pre
  have hT : ∀ w ∈ lw_gd, w.before _ s = true := fun w h9 => hts w (List.mem_cons_of_mem _ h9)
  have hown : s.vm.findClass RX6 = some m.cls := findClass_of_methodNamed B.named
  have hlocks := B.notSynchronized
  subst hsz
  have hS : va_S (AX 75 X.1 s.heap.size) s.heap s.heap [] := va_S.rf
  have W6 : ∀ n1 : Nat, ∀ (y1 : Int32) (y2 : Int32) (y3 : Int32) (S : CS) (H : Heap) (locs : List Loc) (ls : Array Slot), va_P D vwCl (CW X S) H → va_S (AX 75 X.1 s.heap.size) s.heap H locs → lv_has ls 5 [(0, .ref (X.1 0)), (1, .int y1), (2, .int y2), (3, .int y3)] → q_X6_latest_6 post n1 y1 y2 y3 S → W p l e (headSpec (Cond.code yX6_latest cX6_latest 5 (some .int) :: lw_gd) rm_X6_latest).room s m ([.ref (X.1 0)] : List Value).toArray below meth c H locs 0 0 (MQ below (va_Qi post (gB D (CW X)) (AX 75 X.1 s.heap.size)) ([.ref (X.1 0)] : List Value).toArray s 0 0 (AX 75 X.1 s.heap.size)) (F0 m 6 ls []) := by
    intro n1
    induction n1 with
    | zero => intro y1 y2 y3 S H locs ls hP hS hl h; exact h.elim
    | succ n9 ih =>
      intro y1 y2 y3 S H locs ls hP hS hl h
      rw [q_X6_latest_6] at h
      refine lv_iload_n hx hb dX6_latest_6 rfl (lv_at hl 3 rfl) ?_
      refine lv_bipush (v := 8) hx hb dX6_latest_7 (by decide) ?_
      refine lv_icmp_ge (tgt := 36) hx hb dX6_latest_9 (by decide) (fun c_1 => ?_) (fun c_1 => ?_)
      · have h := h.1 c_1
        refine lv_iload_n hx hb dX6_latest_36 rfl (lv_at hl 1 rfl) ?_
        exact W.iret (v := y1) hx hb hr (fun t ht hW => ⟨⟨y1, S, rfl, h, gB_of ht hP⟩, hS.F ht⟩) hS.2.2 dX6_latest_37
      · have h := h.2 c_1
        refine lv_aload_n hx hb dX6_latest_12 rfl (lv_at hl 0 rfl) ?_
        refine lv_iload_n hx hb dX6_latest_13 rfl (lv_at hl 3 rfl) ?_
        refine cVi (As := [.int y3]) (rest := []) hX ⟨hx, hb, hml, hown, hT⟩ (c_X6_sweepingsBy l D X hX H.size S y3 _ h) (gd_V wl_X6_233 wi_X6_sweepingsBy wv_X6_sweepingsBy wn_X6 wc_X6_sweepingsBy) rfl hd_X6_sweepingsBy ⟨rfl, rfl⟩ ⟨Nat.le_of_ble_eq_true rfl, Nat.le_of_ble_eq_true rfl⟩ (va_recv hK hP (ci := 6) (q0 := 0) rfl cw_Yard) hK hP hS hF rfl hl.1 rfl (Nat.le_of_ble_eq_true rfl) dX6_latest_14 ⟨Nat.zero_le _, Nat.zero_le _⟩ (fun r_3 S_2 H locs h hP hS => ?_)
        refine lv_istore (lv' := [(4, .int r_3), (0, .ref (X.1 0)), (1, .int y1), (2, .int y2), (3, .int y3)]) hx hb dX6_latest_17 hl (by decide) rfl (fun ls hl => ?_)
        refine lv_iload hx hb dX6_latest_19 (lv_at hl 0 rfl) ?_
        refine lv_iload_n hx hb dX6_latest_21 rfl (lv_at hl 3 rfl) ?_
        refine lv_icmp_le (tgt := 30) hx hb dX6_latest_22 (by decide) (fun c_4 => ?_) (fun c_4 => ?_)
        · have h := h.1 c_4
          obtain ⟨x3_5, ex3_5⟩ : ∃ z : Int32, z = y3 + 1 := ⟨_, rfl⟩
          refine lv_iinc (v := x3_5) (lv' := [(3, .int x3_5), (4, .int r_3), (0, .ref (X.1 0)), (1, .int y1), (2, .int y2)]) hx hb dX6_latest_30 hl (k := 4) rfl (by rw [ex3_5]; rfl) (by decide) rfl (fun ls hl => ?_)
          have h := h x3_5 ex3_5
          refine lv_goto (tgt := 6) hx hb dX6_latest_33 (by decide) ?_
          exact ih y1 y2 x3_5 S_2 H locs ls hP hS (lv_sub hl [2, 3, 4, 0] rfl) h
        · have h := h.2 c_4
          refine lv_iload_n hx hb dX6_latest_25 rfl (lv_at hl 4 rfl) ?_
          refine lv_istore_n (lv' := [(1, .int y3), (4, .int r_3), (0, .ref (X.1 0)), (2, .int y2), (3, .int y3)]) hx hb dX6_latest_26 rfl hl (by decide) rfl (fun ls hl => ?_)
          refine lv_iload hx hb dX6_latest_27 (lv_at hl 1 rfl) ?_
          refine lv_istore_n (lv' := [(2, .int r_3), (1, .int y3), (4, .int r_3), (0, .ref (X.1 0)), (3, .int y3)]) hx hb dX6_latest_29 rfl hl (by decide) rfl (fun ls hl => ?_)
          obtain ⟨x3_6, ex3_6⟩ : ∃ z : Int32, z = y3 + 1 := ⟨_, rfl⟩
          refine lv_iinc (v := x3_6) (lv' := [(3, .int x3_6), (2, .int r_3), (1, .int y3), (4, .int r_3), (0, .ref (X.1 0))]) hx hb dX6_latest_30 hl (k := 4) rfl (by rw [ex3_6]; rfl) (by decide) rfl (fun ls hl => ?_)
          have h := h x3_6 ex3_6
          refine lv_goto (tgt := 6) hx hb dX6_latest_33 (by decide) ?_
          exact ih y3 r_3 x3_6 S_2 H locs ls hP hS (lv_sub hl [4, 2, 1, 0] rfl) h
  have hl := lv_entry ([.ref (X.1 0)]) (n := 5) (Nat.le_of_ble_eq_true rfl)
  rw [lg_entry_eq]
  generalize (lg_sl ([.ref (X.1 0)]) ++ List.replicate (5 - (lg_sl ([.ref (X.1 0)])).length) Slot.unset).toArray = ls at hl ⊢
  have hl : lv_has ls 5 [(0, .ref (X.1 0))] := hl
  obtain ⟨H, hH⟩ : ∃ H : Heap, H = s.heap := ⟨_, rfl⟩
  obtain ⟨locs, hlc⟩ : ∃ q : List Loc, q = [] := ⟨_, rfl⟩
  have hS : va_S (AX 75 X.1 s.heap.size) s.heap H locs := by rw [hH, hlc]; exact hS
  have hP : va_P D vwCl (CW X S) H := by rw [hH]; exact hP
  show W p l e (headSpec (Cond.code yX6_latest cX6_latest 5 (some .int) :: lw_gd) rm_X6_latest).room s m ([.ref (X.1 0)] : List Value).toArray below meth c s.heap [] 0 0 (MQ below (va_Qi post (gB D (CW X)) (AX 75 X.1 s.heap.size)) ([.ref (X.1 0)] : List Value).toArray s 0 0 (AX 75 X.1 s.heap.size)) _
  suffices hgo : W p l e (headSpec (Cond.code yX6_latest cX6_latest 5 (some .int) :: lw_gd) rm_X6_latest).room s m ([.ref (X.1 0)] : List Value).toArray below meth c H locs 0 0 (MQ below (va_Qi post (gB D (CW X)) (AX 75 X.1 s.heap.size)) ([.ref (X.1 0)] : List Value).toArray s 0 0 (AX 75 X.1 s.heap.size)) (F0 m 0 ls []) from by rw [hH, hlc] at hgo; exact hgo
  unfold p_X6_latest at h
  refine lv_iconst (v := 0) hx hb dX6_latest_0 (by decide) ?_
  refine lv_istore_n (lv' := [(1, .int 0), (0, .ref (X.1 0))]) hx hb dX6_latest_1 rfl hl (by decide) rfl (fun ls hl => ?_)
  refine lv_iconst (v := (-1)) hx hb dX6_latest_2 (by decide) ?_
  refine lv_istore_n (lv' := [(2, .int (-1)), (1, .int 0), (0, .ref (X.1 0))]) hx hb dX6_latest_3 rfl hl (by decide) rfl (fun ls hl => ?_)
  refine lv_iconst (v := 0) hx hb dX6_latest_4 (by decide) ?_
  refine lv_istore_n (lv' := [(3, .int 0), (2, .int (-1)), (1, .int 0), (0, .ref (X.1 0))]) hx hb dX6_latest_5 rfl hl (by decide) rfl (fun ls hl => ?_)
  obtain ⟨n1, h⟩ := h
  exact W6  n1 0 (-1) 0 S H locs ls hP hS (lv_sub hl [3, 2, 1, 0] rfl) h

abbrev rm_X6_saw : Room := { frames := 1, cells := 0, slots := 0, locals := 20 }
def p_X6_saw (S : CS) (x1 : Int32) (x2 : Int32) (x3 : Int32) (post : Int32 → CS → Prop) : Prop := (x1 < 0 → (post (-1) S)) ∧ (¬ (x1 < 0) → ((40 < x1 → (post (-1) S)) ∧ (¬ (40 < x1) → (p_X6_isSide S x2 (fun r_4 S_3 => ((r_4 = 0 → (post (-1) S_3)) ∧ (¬ (r_4 = 0) → ((x3 < 0 → (post (-1) S_3)) ∧ (¬ (x3 < 0) → ((x3 ≤ 15 → (((S_3.1 0 12) < 0 → (post (-3) S_3)) ∧ (¬ ((S_3.1 0 12) < 0) → (((S_3.1 0 12) < 5 → (vp_in (S_3.1 0 12) 5 ∧ (∀ S_10 : CS, S_10 = sti S_3 14 ((S_3.1 0 12).toNatClampNeg) x1 → (vp_in (S_10.1 0 12) 5 ∧ (∀ S_11 : CS, S_11 = sti S_10 15 ((S_10.1 0 12).toNatClampNeg) x2 → (vp_in (S_11.1 0 12) 5 ∧ (∀ S_12 : CS, S_12 = sti S_11 16 ((S_11.1 0 12).toNatClampNeg) x3 → (∀ u_13 : Int32, u_13 = ((S_12.1 0 12) + 1) → (∀ S_14 : CS, S_14 = sti S_12 0 12 u_13 → (post (S_14.1 0 12) S_14)))))))))) ∧ (¬ ((S_3.1 0 12) < 5) → (post (-3) S_3)))))) ∧ (¬ (x3 ≤ 15) → (post (-1) S_3))))))))))))
set_option maxHeartbeats 4000000 in
set_option maxRecDepth 100000 in
theorem c_X6_saw (l : Launch) (D : va_G) (X : XE) (hX : Inj 75 X.1) (sz : Nat) (S : CS) (x1 : Int32) (x2 : Int32) (x3 : Int32) (post : Int32 → CS → Prop) (h : p_X6_saw S x1 x2 x3 post) : Met l yX6_saw (Cond.code yX6_saw cX6_saw 4 (some .int) :: lw_gd) rm_X6_saw (gPc D (tyX X) (CW X) (FXc X) (AX 75 X.1 sz) sz S [.ref (X.1 0), .int x1, .int x2, .int x3]) (va_Qi post (gB D (CW X)) (AX 75 X.1 sz)) 0 0 (AX 75 X.1 sz) := by
  refine Met.ofW (cc := cX6_saw) (maxL := 4) (ret := (some .int)) (by decide) rfl ?_
  intro p e s m args below meth c s₁ B hml hv
  obtain ⟨rfl, hsz, hP, hK, hF⟩ := hv
  have hx := B.exec
  have hb := B.bytes
  have hr := B.returns
  have hts := atoms_spec (ws := (Cond.code yX6_saw cX6_saw 4 (some .int) :: lw_gd)) B.pre
  have hT : ∀ w ∈ lw_gd, w.before _ s = true := fun w h9 => hts w (List.mem_cons_of_mem _ h9)
  have hown : s.vm.findClass RX6 = some m.cls := findClass_of_methodNamed B.named
  have hlocks := B.notSynchronized
  subst hsz
  have hS : va_S (AX 75 X.1 s.heap.size) s.heap s.heap [] := va_S.rf
  have hl := lv_entry ([.ref (X.1 0), .int x1, .int x2, .int x3]) (n := 4) (Nat.le_of_ble_eq_true rfl)
  rw [lg_entry_eq]
  generalize (lg_sl ([.ref (X.1 0), .int x1, .int x2, .int x3]) ++ List.replicate (4 - (lg_sl ([.ref (X.1 0), .int x1, .int x2, .int x3])).length) Slot.unset).toArray = ls at hl ⊢
  have hl : lv_has ls 4 [(0, .ref (X.1 0)), (1, .int x1), (2, .int x2), (3, .int x3)] := hl
  obtain ⟨H, hH⟩ : ∃ H : Heap, H = s.heap := ⟨_, rfl⟩
  obtain ⟨locs, hlc⟩ : ∃ q : List Loc, q = [] := ⟨_, rfl⟩
  have hS : va_S (AX 75 X.1 s.heap.size) s.heap H locs := by rw [hH, hlc]; exact hS
  have hP : va_P D vwCl (CW X S) H := by rw [hH]; exact hP
  show W p l e (headSpec (Cond.code yX6_saw cX6_saw 4 (some .int) :: lw_gd) rm_X6_saw).room s m ([.ref (X.1 0), .int x1, .int x2, .int x3] : List Value).toArray below meth c s.heap [] 0 0 (MQ below (va_Qi post (gB D (CW X)) (AX 75 X.1 s.heap.size)) ([.ref (X.1 0), .int x1, .int x2, .int x3] : List Value).toArray s 0 0 (AX 75 X.1 s.heap.size)) _
  suffices hgo : W p l e (headSpec (Cond.code yX6_saw cX6_saw 4 (some .int) :: lw_gd) rm_X6_saw).room s m ([.ref (X.1 0), .int x1, .int x2, .int x3] : List Value).toArray below meth c H locs 0 0 (MQ below (va_Qi post (gB D (CW X)) (AX 75 X.1 s.heap.size)) ([.ref (X.1 0), .int x1, .int x2, .int x3] : List Value).toArray s 0 0 (AX 75 X.1 s.heap.size)) (F0 m 0 ls []) from by rw [hH, hlc] at hgo; exact hgo
  unfold p_X6_saw at h
  refine lv_iload_n hx hb dX6_saw_0 rfl (lv_at hl 1 rfl) ?_
  refine lv_if_lt (tgt := 27) hx hb dX6_saw_1 (by decide) (fun c_1 => ?_) (fun c_1 => ?_)
  · have h := h.1 c_1
    refine lv_iconst (v := (-1)) hx hb dX6_saw_27 (by decide) ?_
    exact W.iret (v := (-1)) hx hb hr (fun t ht hW => ⟨⟨(-1), S, rfl, h, gB_of ht hP⟩, hS.F ht⟩) hS.2.2 dX6_saw_28
  · have h := h.2 c_1
    refine lv_iload_n hx hb dX6_saw_4 rfl (lv_at hl 1 rfl) ?_
    refine lv_bipush (v := 40) hx hb dX6_saw_5 (by decide) ?_
    refine lv_icmp_gt (tgt := 27) hx hb dX6_saw_7 (by decide) (fun c_2 => ?_) (fun c_2 => ?_)
    · have h := h.1 c_2
      refine lv_iconst (v := (-1)) hx hb dX6_saw_27 (by decide) ?_
      exact W.iret (v := (-1)) hx hb hr (fun t ht hW => ⟨⟨(-1), S, rfl, h, gB_of ht hP⟩, hS.F ht⟩) hS.2.2 dX6_saw_28
    · have h := h.2 c_2
      refine lv_iload_n hx hb dX6_saw_10 rfl (lv_at hl 2 rfl) ?_
      refine cSi (As := [.int x2]) (rest := []) hX ⟨hx, hb, hml, hown, hT⟩ (c_X6_isSide l D X hX H.size S x2 _ h) (gd_S wl_X6_112 wt_X6_isSide wn_X6 wc_X6_isSide) hd_X6_isSide ⟨rfl, rfl⟩ ⟨Nat.le_of_ble_eq_true rfl, Nat.le_of_ble_eq_true rfl⟩ hK hP hS hF rfl hl.1 rfl (Nat.le_of_ble_eq_true rfl) dX6_saw_11 ⟨Nat.zero_le _, Nat.zero_le _⟩ (fun r_4 S_3 H locs h hP hS => ?_)
      refine lv_if_eq (tgt := 27) hx hb dX6_saw_14 (by decide) (fun c_5 => ?_) (fun c_5 => ?_)
      · have h := h.1 c_5
        refine lv_iconst (v := (-1)) hx hb dX6_saw_27 (by decide) ?_
        exact W.iret (v := (-1)) hx hb hr (fun t ht hW => ⟨⟨(-1), S_3, rfl, h, gB_of ht hP⟩, hS.F ht⟩) hS.2.2 dX6_saw_28
      · have h := h.2 c_5
        refine lv_iload_n hx hb dX6_saw_17 rfl (lv_at hl 3 rfl) ?_
        refine lv_if_lt (tgt := 27) hx hb dX6_saw_18 (by decide) (fun c_6 => ?_) (fun c_6 => ?_)
        · have h := h.1 c_6
          refine lv_iconst (v := (-1)) hx hb dX6_saw_27 (by decide) ?_
          exact W.iret (v := (-1)) hx hb hr (fun t ht hW => ⟨⟨(-1), S_3, rfl, h, gB_of ht hP⟩, hS.F ht⟩) hS.2.2 dX6_saw_28
        · have h := h.2 c_6
          refine lv_iload_n hx hb dX6_saw_21 rfl (lv_at hl 3 rfl) ?_
          refine lv_bipush (v := 15) hx hb dX6_saw_22 (by decide) ?_
          refine lv_icmp_le (tgt := 29) hx hb dX6_saw_24 (by decide) (fun c_7 => ?_) (fun c_7 => ?_)
          · have h := h.1 c_7
            refine lv_aload_n hx hb dX6_saw_29 rfl (lv_at hl 0 rfl) ?_
            refine va_get (D := D) (ci := 6) (v := .int (S_3.1 0 12)) (C := RX6) (T := TX6) (N := 16) hx hb hT inX6 hown hK hP 0 cw_Yard rfl 12 (by decide) (hT _ wf_X6_236) (fun _ h9 => h9) rfl dX6_saw_30 ?_
            refine lv_if_lt (tgt := 44) hx hb dX6_saw_33 (by decide) (fun c_8 => ?_) (fun c_8 => ?_)
            · have h := h.1 c_8
              refine lv_bipush (v := (-3)) hx hb dX6_saw_44 (by decide) ?_
              exact W.iret (v := (-3)) hx hb hr (fun t ht hW => ⟨⟨(-3), S_3, rfl, h, gB_of ht hP⟩, hS.F ht⟩) hS.2.2 dX6_saw_46
            · have h := h.2 c_8
              refine lv_aload_n hx hb dX6_saw_36 rfl (lv_at hl 0 rfl) ?_
              refine va_get (D := D) (ci := 6) (v := .int (S_3.1 0 12)) (C := RX6) (T := TX6) (N := 16) hx hb hT inX6 hown hK hP 0 cw_Yard rfl 12 (by decide) (hT _ wf_X6_236) (fun _ h9 => h9) rfl dX6_saw_37 ?_
              refine lv_iconst (v := 5) hx hb dX6_saw_40 (by decide) ?_
              refine lv_icmp_lt (tgt := 47) hx hb dX6_saw_41 (by decide) (fun c_9 => ?_) (fun c_9 => ?_)
              · have h := h.1 c_9
                refine lv_aload_n hx hb dX6_saw_47 rfl (lv_at hl 0 rfl) ?_
                refine va_get (D := D) (ci := 6) (v := .ref (X.1 14)) (C := RX6) (T := TX6) (N := 16) hx hb hT inX6 hown hK hP 0 cw_Yard rfl 9 (by decide) (hT _ wf_X6_49) (fun _ h9 => h9) rfl dX6_saw_48 ?_
                refine lv_aload_n hx hb dX6_saw_51 rfl (lv_at hl 0 rfl) ?_
                refine va_get (D := D) (ci := 6) (v := .int (S_3.1 0 12)) (C := RX6) (T := TX6) (N := 16) hx hb hT inX6 hown hK hP 0 cw_Yard rfl 12 (by decide) (hT _ wf_X6_236) (fun _ h9 => h9) rfl dX6_saw_52 ?_
                refine lv_iload_n hx hb dX6_saw_55 rfl (lv_at hl 1 rfl) ?_
                obtain ⟨hi, h⟩ := h
                refine g_iast hx hb hK hP (gw_D hX) hS 14 cw_14 rfl hi ((S_3.1 0 12).toNatClampNeg) rfl dX6_saw_56 (fun H locs hP hS => ?_)
                have hP := cw_st (j := (S_3.1 0 12).toNatClampNeg) (x := x1) rfl hP
                obtain ⟨S_10, eS_10⟩ : ∃ z : CS, z = sti S_3 14 ((S_3.1 0 12).toNatClampNeg) x1 := ⟨_, rfl⟩
                rw [← eS_10] at hP
                have h := h S_10 eS_10
                refine lv_aload_n hx hb dX6_saw_57 rfl (lv_at hl 0 rfl) ?_
                refine va_get (D := D) (ci := 6) (v := .ref (X.1 15)) (C := RX6) (T := TX6) (N := 16) hx hb hT inX6 hown hK hP 0 cw_Yard rfl 10 (by decide) (hT _ wf_X6_53) (fun _ h9 => h9) rfl dX6_saw_58 ?_
                refine lv_aload_n hx hb dX6_saw_61 rfl (lv_at hl 0 rfl) ?_
                refine va_get (D := D) (ci := 6) (v := .int (S_10.1 0 12)) (C := RX6) (T := TX6) (N := 16) hx hb hT inX6 hown hK hP 0 cw_Yard rfl 12 (by decide) (hT _ wf_X6_236) (fun _ h9 => h9) rfl dX6_saw_62 ?_
                refine lv_iload_n hx hb dX6_saw_65 rfl (lv_at hl 2 rfl) ?_
                obtain ⟨hi, h⟩ := h
                refine g_iast hx hb hK hP (gw_D hX) hS 15 cw_15 rfl hi ((S_10.1 0 12).toNatClampNeg) rfl dX6_saw_66 (fun H locs hP hS => ?_)
                have hP := cw_st (j := (S_10.1 0 12).toNatClampNeg) (x := x2) rfl hP
                obtain ⟨S_11, eS_11⟩ : ∃ z : CS, z = sti S_10 15 ((S_10.1 0 12).toNatClampNeg) x2 := ⟨_, rfl⟩
                rw [← eS_11] at hP
                have h := h S_11 eS_11
                refine lv_aload_n hx hb dX6_saw_67 rfl (lv_at hl 0 rfl) ?_
                refine va_get (D := D) (ci := 6) (v := .ref (X.1 16)) (C := RX6) (T := TX6) (N := 16) hx hb hT inX6 hown hK hP 0 cw_Yard rfl 11 (by decide) (hT _ wf_X6_56) (fun _ h9 => h9) rfl dX6_saw_68 ?_
                refine lv_aload_n hx hb dX6_saw_71 rfl (lv_at hl 0 rfl) ?_
                refine va_get (D := D) (ci := 6) (v := .int (S_11.1 0 12)) (C := RX6) (T := TX6) (N := 16) hx hb hT inX6 hown hK hP 0 cw_Yard rfl 12 (by decide) (hT _ wf_X6_236) (fun _ h9 => h9) rfl dX6_saw_72 ?_
                refine lv_iload_n hx hb dX6_saw_75 rfl (lv_at hl 3 rfl) ?_
                obtain ⟨hi, h⟩ := h
                refine g_iast hx hb hK hP (gw_D hX) hS 16 cw_16 rfl hi ((S_11.1 0 12).toNatClampNeg) rfl dX6_saw_76 (fun H locs hP hS => ?_)
                have hP := cw_st (j := (S_11.1 0 12).toNatClampNeg) (x := x3) rfl hP
                obtain ⟨S_12, eS_12⟩ : ∃ z : CS, z = sti S_11 16 ((S_11.1 0 12).toNatClampNeg) x3 := ⟨_, rfl⟩
                rw [← eS_12] at hP
                have h := h S_12 eS_12
                refine lv_aload_n hx hb dX6_saw_77 rfl (lv_at hl 0 rfl) ?_
                refine lv_dup hx hb dX6_saw_78 rfl ?_
                refine va_get (D := D) (ci := 6) (v := .int (S_12.1 0 12)) (C := RX6) (T := TX6) (N := 16) hx hb hT inX6 hown hK hP 0 cw_Yard rfl 12 (by decide) (hT _ wf_X6_236) (fun _ h9 => h9) rfl dX6_saw_79 ?_
                refine lv_iconst (v := 1) hx hb dX6_saw_82 (by decide) ?_
                refine lv_iadd hx hb dX6_saw_83 ?_
                refine lv_topi (fun u_13 eu_13 => ?_)
                have h := h u_13 eu_13
                refine va_put (D := D) (ci := 6) (v := .int u_13) (ty := .int) (C := RX6) (T := TX6) (N := 16) hx hb hT inX6 tyX6 tyX6_ok nmX6 hown hK hP (gw_D hX) hS 0 cw_Yard rfl 12 (by decide) (hT _ wf_X6_236) (fun _ h9 => h9) rfl (by decide +kernel) rfl rfl (Nat.le_of_ble_eq_true rfl) dX6_saw_84 (fun H locs hP _ hS => ?_)
                have hP := cw_st (j := 12) (x := u_13) rfl hP
                obtain ⟨S_14, eS_14⟩ : ∃ z : CS, z = sti S_12 0 12 u_13 := ⟨_, rfl⟩
                rw [← eS_14] at hP
                have h := h S_14 eS_14
                refine lv_aload_n hx hb dX6_saw_87 rfl (lv_at hl 0 rfl) ?_
                refine va_get (D := D) (ci := 6) (v := .int (S_14.1 0 12)) (C := RX6) (T := TX6) (N := 16) hx hb hT inX6 hown hK hP 0 cw_Yard rfl 12 (by decide) (hT _ wf_X6_236) (fun _ h9 => h9) rfl dX6_saw_88 ?_
                exact W.iret (v := S_14.1 0 12) hx hb hr (fun t ht hW => ⟨⟨S_14.1 0 12, S_14, rfl, h, gB_of ht hP⟩, hS.F ht⟩) hS.2.2 dX6_saw_91
              · have h := h.2 c_9
                refine lv_bipush (v := (-3)) hx hb dX6_saw_44 (by decide) ?_
                exact W.iret (v := (-3)) hx hb hr (fun t ht hW => ⟨⟨(-3), S_3, rfl, h, gB_of ht hP⟩, hS.F ht⟩) hS.2.2 dX6_saw_46
          · have h := h.2 c_7
            refine lv_iconst (v := (-1)) hx hb dX6_saw_27 (by decide) ?_
            exact W.iret (v := (-1)) hx hb hr (fun t ht hW => ⟨⟨(-1), S_3, rfl, h, gB_of ht hP⟩, hS.F ht⟩) hS.2.2 dX6_saw_28

abbrev rm_X6_forget : Room := { frames := 0, cells := 0, slots := 0, locals := 0 }
def p_X6_forget (S : CS)  (post : Int32 → CS → Prop) : Prop := ∀ x1_1 : Int32, x1_1 = S.1 0 12 → (∀ S_2 : CS, S_2 = sti S 0 12 0 → (post x1_1 S_2))
set_option maxHeartbeats 4000000 in
set_option maxRecDepth 100000 in
theorem c_X6_forget (l : Launch) (D : va_G) (X : XE) (hX : Inj 75 X.1) (sz : Nat) (S : CS)  (post : Int32 → CS → Prop) (h : p_X6_forget S  post) : Met l yX6_forget (Cond.code yX6_forget cX6_forget 2 (some .int) :: lw_gd) rm_X6_forget (gPc D (tyX X) (CW X) (FXc X) (AX 75 X.1 sz) sz S [.ref (X.1 0)]) (va_Qi post (gB D (CW X)) (AX 75 X.1 sz)) 0 0 (AX 75 X.1 sz) := by
  refine Met.ofW (cc := cX6_forget) (maxL := 2) (ret := (some .int)) (by decide) rfl ?_
  intro p e s m args below meth c s₁ B hml hv
  obtain ⟨rfl, hsz, hP, hK, hF⟩ := hv
  have hx := B.exec
  have hb := B.bytes
  have hr := B.returns
  have hts := atoms_spec (ws := (Cond.code yX6_forget cX6_forget 2 (some .int) :: lw_gd)) B.pre
  have hT : ∀ w ∈ lw_gd, w.before _ s = true := fun w h9 => hts w (List.mem_cons_of_mem _ h9)
  have hown : s.vm.findClass RX6 = some m.cls := findClass_of_methodNamed B.named
  have hlocks := B.notSynchronized
  subst hsz
  have hS : va_S (AX 75 X.1 s.heap.size) s.heap s.heap [] := va_S.rf
  have hl := lv_entry ([.ref (X.1 0)]) (n := 2) (Nat.le_of_ble_eq_true rfl)
  rw [lg_entry_eq]
  generalize (lg_sl ([.ref (X.1 0)]) ++ List.replicate (2 - (lg_sl ([.ref (X.1 0)])).length) Slot.unset).toArray = ls at hl ⊢
  have hl : lv_has ls 2 [(0, .ref (X.1 0))] := hl
  obtain ⟨H, hH⟩ : ∃ H : Heap, H = s.heap := ⟨_, rfl⟩
  obtain ⟨locs, hlc⟩ : ∃ q : List Loc, q = [] := ⟨_, rfl⟩
  have hS : va_S (AX 75 X.1 s.heap.size) s.heap H locs := by rw [hH, hlc]; exact hS
  have hP : va_P D vwCl (CW X S) H := by rw [hH]; exact hP
  show W p l e (headSpec (Cond.code yX6_forget cX6_forget 2 (some .int) :: lw_gd) rm_X6_forget).room s m ([.ref (X.1 0)] : List Value).toArray below meth c s.heap [] 0 0 (MQ below (va_Qi post (gB D (CW X)) (AX 75 X.1 s.heap.size)) ([.ref (X.1 0)] : List Value).toArray s 0 0 (AX 75 X.1 s.heap.size)) _
  suffices hgo : W p l e (headSpec (Cond.code yX6_forget cX6_forget 2 (some .int) :: lw_gd) rm_X6_forget).room s m ([.ref (X.1 0)] : List Value).toArray below meth c H locs 0 0 (MQ below (va_Qi post (gB D (CW X)) (AX 75 X.1 s.heap.size)) ([.ref (X.1 0)] : List Value).toArray s 0 0 (AX 75 X.1 s.heap.size)) (F0 m 0 ls []) from by rw [hH, hlc] at hgo; exact hgo
  unfold p_X6_forget at h
  refine lv_aload_n hx hb dX6_forget_0 rfl (lv_at hl 0 rfl) ?_
  refine va_get (D := D) (ci := 6) (v := .int (S.1 0 12)) (C := RX6) (T := TX6) (N := 16) hx hb hT inX6 hown hK hP 0 cw_Yard rfl 12 (by decide) (hT _ wf_X6_236) (fun _ h9 => h9) rfl dX6_forget_1 ?_
  refine lv_topi (fun x1_1 ex1_1 => ?_)
  have h := h x1_1 ex1_1
  refine lv_istore_n (lv' := [(1, .int x1_1), (0, .ref (X.1 0))]) hx hb dX6_forget_4 rfl hl (by decide) rfl (fun ls hl => ?_)
  refine lv_aload_n hx hb dX6_forget_5 rfl (lv_at hl 1 rfl) ?_
  refine lv_iconst (v := 0) hx hb dX6_forget_6 (by decide) ?_
  refine va_put (D := D) (ci := 6) (v := .int 0) (ty := .int) (C := RX6) (T := TX6) (N := 16) hx hb hT inX6 tyX6 tyX6_ok nmX6 hown hK hP (gw_D hX) hS 0 cw_Yard rfl 12 (by decide) (hT _ wf_X6_236) (fun _ h9 => h9) rfl (by decide +kernel) rfl rfl (Nat.le_of_ble_eq_true rfl) dX6_forget_7 (fun H locs hP _ hS => ?_)
  have hP := cw_st (j := 12) (x := 0) rfl hP
  obtain ⟨S_2, eS_2⟩ : ∃ z : CS, z = sti S 0 12 0 := ⟨_, rfl⟩
  rw [← eS_2] at hP
  have h := h S_2 eS_2
  refine lv_iload_n hx hb dX6_forget_10 rfl (lv_at hl 0 rfl) ?_
  exact W.iret (v := x1_1) hx hb hr (fun t ht hW => ⟨⟨x1_1, S_2, rfl, h, gB_of ht hP⟩, hS.F ht⟩) hS.2.2 dX6_forget_11

abbrev rm_X6_seenFits : Room := { frames := 1, cells := 0, slots := 0, locals := 21 }
def q_X6_seenFits_2 (x1 : Int32) (post : Int32 → CS → Prop) : Nat → Int32 → CS → Prop
  | 0, _, _ => False
  | n9 + 1, y2, S => ((S.1 0 12) ≤ y2 → (post 1 S)) ∧ (¬ ((S.1 0 12) ≤ y2) → ((5 ≤ y2 → (post 1 S)) ∧ (¬ (5 ≤ y2) → (vp_in y2 5 ∧ (((S.1 14 y2.toNatClampNeg) = x1 → (vp_in y2 5 ∧ (p_X0_lengthOf S 0 (S.1 15 y2.toNatClampNeg) (fun r_6 S_5 => (vp_in y2 5 ∧ ((r_6 = (S_5.1 16 y2.toNatClampNeg) → (∀ x2_8 : Int32, x2_8 = y2 + 1 → (q_X6_seenFits_2 x1 post n9 x2_8 S_5))) ∧ (¬ (r_6 = (S_5.1 16 y2.toNatClampNeg)) → (post 0 S_5)))))))) ∧ (¬ ((S.1 14 y2.toNatClampNeg) = x1) → (∀ x2_4 : Int32, x2_4 = y2 + 1 → (q_X6_seenFits_2 x1 post n9 x2_4 S))))))))
def p_X6_seenFits (S : CS) (x1 : Int32) (post : Int32 → CS → Prop) : Prop := ∃ n, q_X6_seenFits_2 x1 post n 0 S
set_option maxHeartbeats 4000000 in
set_option maxRecDepth 100000 in
theorem c_X6_seenFits (l : Launch) (D : va_G) (X : XE) (hX : Inj 75 X.1) (sz : Nat) (S : CS) (x1 : Int32) (post : Int32 → CS → Prop) (h : p_X6_seenFits S x1 post) : Met l yX6_seenFits (Cond.code yX6_seenFits cX6_seenFits 3 (some .boolean) :: lw_gd) rm_X6_seenFits (gPc D (tyX X) (CW X) (FXc X) (AX 75 X.1 sz) sz S [.ref (X.1 0), .int x1]) (va_Qi post (gB D (CW X)) (AX 75 X.1 sz)) 0 0 (AX 75 X.1 sz) := by
  refine Met.ofW (cc := cX6_seenFits) (maxL := 3) (ret := (some .boolean)) (by decide) rfl ?_
  intro p e s m args below meth c s₁ B hml hv
  obtain ⟨rfl, hsz, hP, hK, hF⟩ := hv
  have hx := B.exec
  have hb := B.bytes
  have hr := B.returns
  have hts := atoms_spec (ws := (Cond.code yX6_seenFits cX6_seenFits 3 (some .boolean) :: lw_gd)) B.pre
  have hT : ∀ w ∈ lw_gd, w.before _ s = true := fun w h9 => hts w (List.mem_cons_of_mem _ h9)
  have hown : s.vm.findClass RX6 = some m.cls := findClass_of_methodNamed B.named
  have hlocks := B.notSynchronized
  subst hsz
  have hS : va_S (AX 75 X.1 s.heap.size) s.heap s.heap [] := va_S.rf
  have W2 : ∀ n1 : Nat, ∀ (y2 : Int32) (S : CS) (H : Heap) (locs : List Loc) (ls : Array Slot), va_P D vwCl (CW X S) H → va_S (AX 75 X.1 s.heap.size) s.heap H locs → lv_has ls 3 [(0, .ref (X.1 0)), (1, .int x1), (2, .int y2)] → q_X6_seenFits_2 x1 post n1 y2 S → W p l e (headSpec (Cond.code yX6_seenFits cX6_seenFits 3 (some .boolean) :: lw_gd) rm_X6_seenFits).room s m ([.ref (X.1 0), .int x1] : List Value).toArray below meth c H locs 0 0 (MQ below (va_Qi post (gB D (CW X)) (AX 75 X.1 s.heap.size)) ([.ref (X.1 0), .int x1] : List Value).toArray s 0 0 (AX 75 X.1 s.heap.size)) (F0 m 2 ls []) := by
    intro n1
    induction n1 with
    | zero => intro y2 S H locs ls hP hS hl h; exact h.elim
    | succ n9 ih =>
      intro y2 S H locs ls hP hS hl h
      rw [q_X6_seenFits_2] at h
      refine lv_iload_n hx hb dX6_seenFits_2 rfl (lv_at hl 2 rfl) ?_
      refine lv_aload_n hx hb dX6_seenFits_3 rfl (lv_at hl 0 rfl) ?_
      refine va_get (D := D) (ci := 6) (v := .int (S.1 0 12)) (C := RX6) (T := TX6) (N := 16) hx hb hT inX6 hown hK hP 0 cw_Yard rfl 12 (by decide) (hT _ wf_X6_236) (fun _ h9 => h9) rfl dX6_seenFits_4 ?_
      refine lv_icmp_ge (tgt := 55) hx hb dX6_seenFits_7 (by decide) (fun c_1 => ?_) (fun c_1 => ?_)
      · have h := h.1 c_1
        refine lv_iconst (v := 1) hx hb dX6_seenFits_55 (by decide) ?_
        exact W.zret (v := 1) hx hb hr rfl (fun t ht hW => ⟨⟨1, S, rfl, h, gB_of ht hP⟩, hS.F ht⟩) hS.2.2 dX6_seenFits_56
      · have h := h.2 c_1
        refine lv_iload_n hx hb dX6_seenFits_10 rfl (lv_at hl 2 rfl) ?_
        refine lv_iconst (v := 5) hx hb dX6_seenFits_11 (by decide) ?_
        refine lv_icmp_ge (tgt := 55) hx hb dX6_seenFits_12 (by decide) (fun c_2 => ?_) (fun c_2 => ?_)
        · have h := h.1 c_2
          refine lv_iconst (v := 1) hx hb dX6_seenFits_55 (by decide) ?_
          exact W.zret (v := 1) hx hb hr rfl (fun t ht hW => ⟨⟨1, S, rfl, h, gB_of ht hP⟩, hS.F ht⟩) hS.2.2 dX6_seenFits_56
        · have h := h.2 c_2
          refine lv_aload_n hx hb dX6_seenFits_15 rfl (lv_at hl 0 rfl) ?_
          refine va_get (D := D) (ci := 6) (v := .ref (X.1 14)) (C := RX6) (T := TX6) (N := 16) hx hb hT inX6 hown hK hP 0 cw_Yard rfl 9 (by decide) (hT _ wf_X6_49) (fun _ h9 => h9) rfl dX6_seenFits_16 ?_
          refine lv_iload_n hx hb dX6_seenFits_19 rfl (lv_at hl 2 rfl) ?_
          obtain ⟨hi, h⟩ := h
          refine g_iald hx hb hK hP 14 cw_14 rfl hi y2.toNatClampNeg rfl dX6_seenFits_20 ?_
          refine lv_iload_n hx hb dX6_seenFits_21 rfl (lv_at hl 1 rfl) ?_
          refine lv_icmp_ne (tgt := 49) hx hb dX6_seenFits_22 (by decide) (fun c_3 => ?_) (fun c_3 => ?_)
          · have h := h.2 c_3
            obtain ⟨x2_4, ex2_4⟩ : ∃ z : Int32, z = y2 + 1 := ⟨_, rfl⟩
            refine lv_iinc (v := x2_4) (lv' := [(2, .int x2_4), (0, .ref (X.1 0)), (1, .int x1)]) hx hb dX6_seenFits_49 hl (k := 2) rfl (by rw [ex2_4]; rfl) (by decide) rfl (fun ls hl => ?_)
            have h := h x2_4 ex2_4
            refine lv_goto (tgt := 2) hx hb dX6_seenFits_52 (by decide) ?_
            exact ih x2_4 S H locs ls hP hS (lv_sub hl [1, 2, 0] rfl) h
          · have h := h.1 c_3
            refine lv_aload_n hx hb dX6_seenFits_25 rfl (lv_at hl 0 rfl) ?_
            refine va_get (D := D) (ci := 6) (v := .ref (X.1 (bo 0))) (C := RX6) (T := TX6) (N := 16) hx hb hT inX6 hown hK hP 0 cw_Yard rfl 13 (by decide) (hT _ wf_X6_62) (fun _ h9 => h9) rfl dX6_seenFits_26 ?_
            refine lv_aload_n hx hb dX6_seenFits_29 rfl (lv_at hl 0 rfl) ?_
            refine va_get (D := D) (ci := 6) (v := .ref (X.1 15)) (C := RX6) (T := TX6) (N := 16) hx hb hT inX6 hown hK hP 0 cw_Yard rfl 10 (by decide) (hT _ wf_X6_53) (fun _ h9 => h9) rfl dX6_seenFits_30 ?_
            refine lv_iload_n hx hb dX6_seenFits_33 rfl (lv_at hl 2 rfl) ?_
            obtain ⟨hi, h⟩ := h
            refine g_iald hx hb hK hP 15 cw_15 rfl hi y2.toNatClampNeg rfl dX6_seenFits_34 ?_
            refine cVi (As := [.int (S.1 15 y2.toNatClampNeg)]) (rest := []) hX ⟨hx, hb, hml, hown, hT⟩ (c_X0_lengthOf l D X hX H.size S 0 (by decide) (S.1 15 y2.toNatClampNeg) _ h) (gd_V wl_X6_118 wi_X0_lengthOf wv_X0_lengthOf wn_X0 wc_X0_lengthOf) rfl hd_X0_lengthOf ⟨rfl, rfl⟩ ⟨Nat.le_of_ble_eq_true rfl, Nat.le_of_ble_eq_true rfl⟩ (va_recv hK hP (ci := 0) (q0 := (bo 0)) rfl (cw_Besom (b := 0) (by decide))) hK hP hS hF rfl hl.1 rfl (Nat.le_of_ble_eq_true rfl) dX6_seenFits_35 ⟨Nat.zero_le _, Nat.zero_le _⟩ (fun r_6 S_5 H locs h hP hS => ?_)
            refine lv_aload_n hx hb dX6_seenFits_38 rfl (lv_at hl 0 rfl) ?_
            refine va_get (D := D) (ci := 6) (v := .ref (X.1 16)) (C := RX6) (T := TX6) (N := 16) hx hb hT inX6 hown hK hP 0 cw_Yard rfl 11 (by decide) (hT _ wf_X6_56) (fun _ h9 => h9) rfl dX6_seenFits_39 ?_
            refine lv_iload_n hx hb dX6_seenFits_42 rfl (lv_at hl 2 rfl) ?_
            obtain ⟨hi, h⟩ := h
            refine g_iald hx hb hK hP 16 cw_16 rfl hi y2.toNatClampNeg rfl dX6_seenFits_43 ?_
            refine lv_icmp_eq (tgt := 49) hx hb dX6_seenFits_44 (by decide) (fun c_7 => ?_) (fun c_7 => ?_)
            · have h := h.1 c_7
              obtain ⟨x2_8, ex2_8⟩ : ∃ z : Int32, z = y2 + 1 := ⟨_, rfl⟩
              refine lv_iinc (v := x2_8) (lv' := [(2, .int x2_8), (0, .ref (X.1 0)), (1, .int x1)]) hx hb dX6_seenFits_49 hl (k := 2) rfl (by rw [ex2_8]; rfl) (by decide) rfl (fun ls hl => ?_)
              have h := h x2_8 ex2_8
              refine lv_goto (tgt := 2) hx hb dX6_seenFits_52 (by decide) ?_
              exact ih x2_8 S_5 H locs ls hP hS (lv_sub hl [1, 2, 0] rfl) h
            · have h := h.2 c_7
              refine lv_iconst (v := 0) hx hb dX6_seenFits_47 (by decide) ?_
              exact W.zret (v := 0) hx hb hr rfl (fun t ht hW => ⟨⟨0, S_5, rfl, h, gB_of ht hP⟩, hS.F ht⟩) hS.2.2 dX6_seenFits_48
  have hl := lv_entry ([.ref (X.1 0), .int x1]) (n := 3) (Nat.le_of_ble_eq_true rfl)
  rw [lg_entry_eq]
  generalize (lg_sl ([.ref (X.1 0), .int x1]) ++ List.replicate (3 - (lg_sl ([.ref (X.1 0), .int x1])).length) Slot.unset).toArray = ls at hl ⊢
  have hl : lv_has ls 3 [(0, .ref (X.1 0)), (1, .int x1)] := hl
  obtain ⟨H, hH⟩ : ∃ H : Heap, H = s.heap := ⟨_, rfl⟩
  obtain ⟨locs, hlc⟩ : ∃ q : List Loc, q = [] := ⟨_, rfl⟩
  have hS : va_S (AX 75 X.1 s.heap.size) s.heap H locs := by rw [hH, hlc]; exact hS
  have hP : va_P D vwCl (CW X S) H := by rw [hH]; exact hP
  show W p l e (headSpec (Cond.code yX6_seenFits cX6_seenFits 3 (some .boolean) :: lw_gd) rm_X6_seenFits).room s m ([.ref (X.1 0), .int x1] : List Value).toArray below meth c s.heap [] 0 0 (MQ below (va_Qi post (gB D (CW X)) (AX 75 X.1 s.heap.size)) ([.ref (X.1 0), .int x1] : List Value).toArray s 0 0 (AX 75 X.1 s.heap.size)) _
  suffices hgo : W p l e (headSpec (Cond.code yX6_seenFits cX6_seenFits 3 (some .boolean) :: lw_gd) rm_X6_seenFits).room s m ([.ref (X.1 0), .int x1] : List Value).toArray below meth c H locs 0 0 (MQ below (va_Qi post (gB D (CW X)) (AX 75 X.1 s.heap.size)) ([.ref (X.1 0), .int x1] : List Value).toArray s 0 0 (AX 75 X.1 s.heap.size)) (F0 m 0 ls []) from by rw [hH, hlc] at hgo; exact hgo
  unfold p_X6_seenFits at h
  refine lv_iconst (v := 0) hx hb dX6_seenFits_0 (by decide) ?_
  refine lv_istore_n (lv' := [(2, .int 0), (0, .ref (X.1 0)), (1, .int x1)]) hx hb dX6_seenFits_1 rfl hl (by decide) rfl (fun ls hl => ?_)
  obtain ⟨n1, h⟩ := h
  exact W2  n1 0 S H locs ls hP hS (lv_sub hl [1, 2, 0] rfl) h

abbrev rm_X6_allSeenIsSoBy : Room := { frames := 3, cells := 0, slots := 0, locals := 65 }
def q_X6_allSeenIsSoBy_16 (x1 : Int32) (post : Int32 → CS → Prop) : Nat → Int32 → CS → Prop
  | 0, _, _ => False
  | n9 + 1, y2, S => (40 < y2 → (post 1 S)) ∧ (¬ (40 < y2) → (p_X6_seenFits S y2 (fun r_5 S_4 => ((r_5 = 0 → (post 0 S_4)) ∧ (¬ (r_5 = 0) → (p_X0_sweep S_4 0 (fun S_7 => (p_X0_turnBy S_7 0 x1 (fun S_9 => (∀ x2_11 : Int32, x2_11 = y2 + 1 → (q_X6_allSeenIsSoBy_16 x1 post n9 x2_11 S_9)))))))))))
def p_X6_allSeenIsSoBy (S : CS) (x1 : Int32) (post : Int32 → CS → Prop) : Prop := p_X0_setAs S 0 (0 + 1) (fun S_1 => (∃ n, q_X6_allSeenIsSoBy_16 x1 post n 0 S_1))
set_option maxHeartbeats 4000000 in
set_option maxRecDepth 100000 in
theorem c_X6_allSeenIsSoBy (l : Launch) (D : va_G) (X : XE) (hX : Inj 75 X.1) (sz : Nat) (S : CS) (x1 : Int32) (post : Int32 → CS → Prop) (h : p_X6_allSeenIsSoBy S x1 post) : Met l yX6_allSeenIsSoBy (Cond.code yX6_allSeenIsSoBy cX6_allSeenIsSoBy 3 (some .boolean) :: lw_gd) rm_X6_allSeenIsSoBy (gPc D (tyX X) (CW X) (FXc X) (AX 75 X.1 sz) sz S [.ref (X.1 0), .int x1]) (va_Qi post (gB D (CW X)) (AX 75 X.1 sz)) 0 0 (AX 75 X.1 sz) := by
  refine Met.ofW (cc := cX6_allSeenIsSoBy) (maxL := 3) (ret := (some .boolean)) (by decide) rfl ?_
  intro p e s m args below meth c s₁ B hml hv
  obtain ⟨rfl, hsz, hP, hK, hF⟩ := hv
  have hx := B.exec
  have hb := B.bytes
  have hr := B.returns
  have hts := atoms_spec (ws := (Cond.code yX6_allSeenIsSoBy cX6_allSeenIsSoBy 3 (some .boolean) :: lw_gd)) B.pre
  have hT : ∀ w ∈ lw_gd, w.before _ s = true := fun w h9 => hts w (List.mem_cons_of_mem _ h9)
  have hown : s.vm.findClass RX6 = some m.cls := findClass_of_methodNamed B.named
  have hlocks := B.notSynchronized
  subst hsz
  have hS : va_S (AX 75 X.1 s.heap.size) s.heap s.heap [] := va_S.rf
  have W16 : ∀ n1 : Nat, ∀ (y2 : Int32) (S : CS) (H : Heap) (locs : List Loc) (ls : Array Slot), va_P D vwCl (CW X S) H → va_S (AX 75 X.1 s.heap.size) s.heap H locs → lv_has ls 3 [(0, .ref (X.1 0)), (1, .int x1), (2, .int y2)] → q_X6_allSeenIsSoBy_16 x1 post n1 y2 S → W p l e (headSpec (Cond.code yX6_allSeenIsSoBy cX6_allSeenIsSoBy 3 (some .boolean) :: lw_gd) rm_X6_allSeenIsSoBy).room s m ([.ref (X.1 0), .int x1] : List Value).toArray below meth c H locs 0 0 (MQ below (va_Qi post (gB D (CW X)) (AX 75 X.1 s.heap.size)) ([.ref (X.1 0), .int x1] : List Value).toArray s 0 0 (AX 75 X.1 s.heap.size)) (F0 m 16 ls []) := by
    intro n1
    induction n1 with
    | zero => intro y2 S H locs ls hP hS hl h; exact h.elim
    | succ n9 ih =>
      intro y2 S H locs ls hP hS hl h
      rw [q_X6_allSeenIsSoBy_16] at h
      refine lv_iload_n hx hb dX6_allSeenIsSoBy_16 rfl (lv_at hl 2 rfl) ?_
      refine lv_bipush (v := 40) hx hb dX6_allSeenIsSoBy_17 (by decide) ?_
      refine lv_icmp_gt (tgt := 53) hx hb dX6_allSeenIsSoBy_19 (by decide) (fun c_3 => ?_) (fun c_3 => ?_)
      · have h := h.1 c_3
        refine lv_iconst (v := 1) hx hb dX6_allSeenIsSoBy_53 (by decide) ?_
        exact W.zret (v := 1) hx hb hr rfl (fun t ht hW => ⟨⟨1, S, rfl, h, gB_of ht hP⟩, hS.F ht⟩) hS.2.2 dX6_allSeenIsSoBy_54
      · have h := h.2 c_3
        refine lv_aload_n hx hb dX6_allSeenIsSoBy_22 rfl (lv_at hl 0 rfl) ?_
        refine lv_iload_n hx hb dX6_allSeenIsSoBy_23 rfl (lv_at hl 2 rfl) ?_
        refine cVi (As := [.int y2]) (rest := []) hX ⟨hx, hb, hml, hown, hT⟩ (c_X6_seenFits l D X hX H.size S y2 _ h) (gd_V wl_X6_309 wi_X6_seenFits wv_X6_seenFits wn_X6 wc_X6_seenFits) rfl hd_X6_seenFits ⟨rfl, rfl⟩ ⟨Nat.le_of_ble_eq_true rfl, Nat.le_of_ble_eq_true rfl⟩ (va_recv hK hP (ci := 6) (q0 := 0) rfl cw_Yard) hK hP hS hF rfl hl.1 rfl (Nat.le_of_ble_eq_true rfl) dX6_allSeenIsSoBy_24 ⟨Nat.zero_le _, Nat.zero_le _⟩ (fun r_5 S_4 H locs h hP hS => ?_)
        refine lv_if_ne (tgt := 32) hx hb dX6_allSeenIsSoBy_27 (by decide) (fun c_6 => ?_) (fun c_6 => ?_)
        · have h := h.2 c_6
          refine lv_aload_n hx hb dX6_allSeenIsSoBy_32 rfl (lv_at hl 0 rfl) ?_
          refine va_get (D := D) (ci := 6) (v := .ref (X.1 (bo 0))) (C := RX6) (T := TX6) (N := 16) hx hb hT inX6 hown hK hP 0 cw_Yard rfl 13 (by decide) (hT _ wf_X6_62) (fun _ h9 => h9) rfl dX6_allSeenIsSoBy_33 ?_
          refine cVv (As := []) (rest := []) hX ⟨hx, hb, hml, hown, hT⟩ (c_X0_sweep l D X hX H.size S_4 0 (by decide) _ h) (gd_V wl_X6_167 wi_X0_sweep wv_X0_sweep wn_X0 wc_X0_sweep) rfl hd_X0_sweep ⟨rfl, rfl⟩ ⟨Nat.le_of_ble_eq_true rfl, Nat.le_of_ble_eq_true rfl⟩ (va_recv hK hP (ci := 0) (q0 := (bo 0)) rfl (cw_Besom (b := 0) (by decide))) hK hP hS hF rfl hl.1 rfl (Nat.le_of_ble_eq_true rfl) dX6_allSeenIsSoBy_36 ⟨Nat.zero_le _, Nat.zero_le _⟩ (fun S_7 H locs h hP hS => ?_)
          refine lv_aload_n hx hb dX6_allSeenIsSoBy_39 rfl (lv_at hl 0 rfl) ?_
          refine va_get (D := D) (ci := 6) (v := .ref (X.1 (bo 0))) (C := RX6) (T := TX6) (N := 16) hx hb hT inX6 hown hK hP 0 cw_Yard rfl 13 (by decide) (hT _ wf_X6_62) (fun _ h9 => h9) rfl dX6_allSeenIsSoBy_40 ?_
          refine lv_iload_n hx hb dX6_allSeenIsSoBy_43 rfl (lv_at hl 1 rfl) ?_
          refine cVv (As := [.int x1]) (rest := []) hX ⟨hx, hb, hml, hown, hT⟩ (c_X0_turnBy l D X hX H.size S_7 0 (by decide) x1 _ h) (gd_V wl_X6_170 wi_X0_turnBy wv_X0_turnBy wn_X0 wc_X0_turnBy) rfl hd_X0_turnBy ⟨rfl, rfl⟩ ⟨Nat.le_of_ble_eq_true rfl, Nat.le_of_ble_eq_true rfl⟩ (va_recv hK hP (ci := 0) (q0 := (bo 0)) rfl (cw_Besom (b := 0) (by decide))) hK hP hS hF rfl hl.1 rfl (Nat.le_of_ble_eq_true rfl) dX6_allSeenIsSoBy_44 ⟨Nat.zero_le _, Nat.zero_le _⟩ (fun S_9 H locs h hP hS => ?_)
          obtain ⟨x2_11, ex2_11⟩ : ∃ z : Int32, z = y2 + 1 := ⟨_, rfl⟩
          refine lv_iinc (v := x2_11) (lv' := [(2, .int x2_11), (0, .ref (X.1 0)), (1, .int x1)]) hx hb dX6_allSeenIsSoBy_47 hl (k := 2) rfl (by rw [ex2_11]; rfl) (by decide) rfl (fun ls hl => ?_)
          have h := h x2_11 ex2_11
          refine lv_goto (tgt := 16) hx hb dX6_allSeenIsSoBy_50 (by decide) ?_
          exact ih x2_11 S_9 H locs ls hP hS (lv_sub hl [1, 2, 0] rfl) h
        · have h := h.1 c_6
          refine lv_iconst (v := 0) hx hb dX6_allSeenIsSoBy_30 (by decide) ?_
          exact W.zret (v := 0) hx hb hr rfl (fun t ht hW => ⟨⟨0, S_4, rfl, h, gB_of ht hP⟩, hS.F ht⟩) hS.2.2 dX6_allSeenIsSoBy_31
  have hl := lv_entry ([.ref (X.1 0), .int x1]) (n := 3) (Nat.le_of_ble_eq_true rfl)
  rw [lg_entry_eq]
  generalize (lg_sl ([.ref (X.1 0), .int x1]) ++ List.replicate (3 - (lg_sl ([.ref (X.1 0), .int x1])).length) Slot.unset).toArray = ls at hl ⊢
  have hl : lv_has ls 3 [(0, .ref (X.1 0)), (1, .int x1)] := hl
  obtain ⟨H, hH⟩ : ∃ H : Heap, H = s.heap := ⟨_, rfl⟩
  obtain ⟨locs, hlc⟩ : ∃ q : List Loc, q = [] := ⟨_, rfl⟩
  have hS : va_S (AX 75 X.1 s.heap.size) s.heap H locs := by rw [hH, hlc]; exact hS
  have hP : va_P D vwCl (CW X S) H := by rw [hH]; exact hP
  show W p l e (headSpec (Cond.code yX6_allSeenIsSoBy cX6_allSeenIsSoBy 3 (some .boolean) :: lw_gd) rm_X6_allSeenIsSoBy).room s m ([.ref (X.1 0), .int x1] : List Value).toArray below meth c s.heap [] 0 0 (MQ below (va_Qi post (gB D (CW X)) (AX 75 X.1 s.heap.size)) ([.ref (X.1 0), .int x1] : List Value).toArray s 0 0 (AX 75 X.1 s.heap.size)) _
  suffices hgo : W p l e (headSpec (Cond.code yX6_allSeenIsSoBy cX6_allSeenIsSoBy 3 (some .boolean) :: lw_gd) rm_X6_allSeenIsSoBy).room s m ([.ref (X.1 0), .int x1] : List Value).toArray below meth c H locs 0 0 (MQ below (va_Qi post (gB D (CW X)) (AX 75 X.1 s.heap.size)) ([.ref (X.1 0), .int x1] : List Value).toArray s 0 0 (AX 75 X.1 s.heap.size)) (F0 m 0 ls []) from by rw [hH, hlc] at hgo; exact hgo
  unfold p_X6_allSeenIsSoBy at h
  refine lv_aload_n hx hb dX6_allSeenIsSoBy_0 rfl (lv_at hl 0 rfl) ?_
  refine va_get (D := D) (ci := 6) (v := .ref (X.1 (bo 0))) (C := RX6) (T := TX6) (N := 16) hx hb hT inX6 hown hK hP 0 cw_Yard rfl 13 (by decide) (hT _ wf_X6_62) (fun _ h9 => h9) rfl dX6_allSeenIsSoBy_1 ?_
  refine lv_aload_n hx hb dX6_allSeenIsSoBy_4 rfl (lv_at hl 0 rfl) ?_
  refine va_get (D := D) (ci := 6) (v := .ref (X.1 (mo 0))) (C := RX6) (T := TX6) (N := 16) hx hb hT inX6 hown hK hP 0 cw_Yard rfl 3 (by decide) (hT _ wf_X6_29) (fun _ h9 => h9) rfl dX6_allSeenIsSoBy_5 ?_
  refine va_getN (D := D) (ci := 1) (v := .ref (X.1 (bo (0 + 1)))) (C := RX1) (T := TX1) (N := 8) hx hb hT inX1 hown hK hP (mo 0) (cw_Moment (m := 0) (by decide)) rfl 1 (by decide) (va_Nw.use rfl hF.1.1.2.1) (fun _ h9 => h9) rfl dX6_allSeenIsSoBy_8 ?_
  refine cVv (As := [.ref (X.1 (bo (0 + 1)))]) (rest := []) hX ⟨hx, hb, hml, hown, hT⟩ (c_X0_setAs l D X hX H.size S 0 (by decide) (0 + 1) (by omega) _ h) (gd_V wl_X6_301 wi_X0_setAs wv_X0_setAs wn_X0 wc_X0_setAs) rfl hd_X0_setAs ⟨rfl, rfl⟩ ⟨Nat.le_of_ble_eq_true rfl, Nat.le_of_ble_eq_true rfl⟩ (va_recv hK hP (ci := 0) (q0 := (bo 0)) rfl (cw_Besom (b := 0) (by decide))) hK hP hS hF rfl hl.1 rfl (Nat.le_of_ble_eq_true rfl) dX6_allSeenIsSoBy_11 ⟨Nat.zero_le _, Nat.zero_le _⟩ (fun S_1 H locs h hP hS => ?_)
  refine lv_iconst (v := 0) hx hb dX6_allSeenIsSoBy_14 (by decide) ?_
  refine lv_istore_n (lv' := [(2, .int 0), (0, .ref (X.1 0)), (1, .int x1)]) hx hb dX6_allSeenIsSoBy_15 rfl hl (by decide) rfl (fun ls hl => ?_)
  obtain ⟨n1, h⟩ := h
  exact W16  n1 0 S_1 H locs ls hP hS (lv_sub hl [1, 2, 0] rfl) h

abbrev rm_X6_which : Room := { frames := 4, cells := 0, slots := 0, locals := 87 }
def q_X6_which_4  (post : Int32 → CS → Prop) : Nat → Int32 → Int32 → CS → Prop
  | 0, _, _, _ => False
  | n9 + 1, y1, y2, S => (8 ≤ y2 → (post y1 S)) ∧ (¬ (8 ≤ y2) → (p_X6_allSeenIsSoBy S y2 (fun r_3 S_2 => ((r_3 = 0 → (∀ x2_5 : Int32, x2_5 = y2 + 1 → (q_X6_which_4 post n9 y1 x2_5 S_2))) ∧ (¬ (r_3 = 0) → (∀ x1_6 : Int32, x1_6 = (y1 ||| (1 <<< (y2 &&& 31))) → (∀ x2_7 : Int32, x2_7 = y2 + 1 → (q_X6_which_4 post n9 x1_6 x2_7 S_2))))))))
def p_X6_which (S : CS)  (post : Int32 → CS → Prop) : Prop := ∃ n, q_X6_which_4 post n 0 0 S
set_option maxHeartbeats 4000000 in
set_option maxRecDepth 100000 in
theorem c_X6_which (l : Launch) (D : va_G) (X : XE) (hX : Inj 75 X.1) (sz : Nat) (S : CS)  (post : Int32 → CS → Prop) (h : p_X6_which S  post) : Met l yX6_which (Cond.code yX6_which cX6_which 3 (some .int) :: lw_gd) rm_X6_which (gPc D (tyX X) (CW X) (FXc X) (AX 75 X.1 sz) sz S [.ref (X.1 0)]) (va_Qi post (gB D (CW X)) (AX 75 X.1 sz)) 0 0 (AX 75 X.1 sz) := by
  refine Met.ofW (cc := cX6_which) (maxL := 3) (ret := (some .int)) (by decide) rfl ?_
  intro p e s m args below meth c s₁ B hml hv
  obtain ⟨rfl, hsz, hP, hK, hF⟩ := hv
  have hx := B.exec
  have hb := B.bytes
  have hr := B.returns
  have hts := atoms_spec (ws := (Cond.code yX6_which cX6_which 3 (some .int) :: lw_gd)) B.pre
  have hT : ∀ w ∈ lw_gd, w.before _ s = true := fun w h9 => hts w (List.mem_cons_of_mem _ h9)
  have hown : s.vm.findClass RX6 = some m.cls := findClass_of_methodNamed B.named
  have hlocks := B.notSynchronized
  subst hsz
  have hS : va_S (AX 75 X.1 s.heap.size) s.heap s.heap [] := va_S.rf
  have W4 : ∀ n1 : Nat, ∀ (y1 : Int32) (y2 : Int32) (S : CS) (H : Heap) (locs : List Loc) (ls : Array Slot), va_P D vwCl (CW X S) H → va_S (AX 75 X.1 s.heap.size) s.heap H locs → lv_has ls 3 [(0, .ref (X.1 0)), (1, .int y1), (2, .int y2)] → q_X6_which_4 post n1 y1 y2 S → W p l e (headSpec (Cond.code yX6_which cX6_which 3 (some .int) :: lw_gd) rm_X6_which).room s m ([.ref (X.1 0)] : List Value).toArray below meth c H locs 0 0 (MQ below (va_Qi post (gB D (CW X)) (AX 75 X.1 s.heap.size)) ([.ref (X.1 0)] : List Value).toArray s 0 0 (AX 75 X.1 s.heap.size)) (F0 m 4 ls []) := by
    intro n1
    induction n1 with
    | zero => intro y1 y2 S H locs ls hP hS hl h; exact h.elim
    | succ n9 ih =>
      intro y1 y2 S H locs ls hP hS hl h
      rw [q_X6_which_4] at h
      refine lv_iload_n hx hb dX6_which_4 rfl (lv_at hl 2 rfl) ?_
      refine lv_bipush (v := 8) hx hb dX6_which_5 (by decide) ?_
      refine lv_icmp_ge (tgt := 30) hx hb dX6_which_7 (by decide) (fun c_1 => ?_) (fun c_1 => ?_)
      · have h := h.1 c_1
        refine lv_iload_n hx hb dX6_which_30 rfl (lv_at hl 1 rfl) ?_
        exact W.iret (v := y1) hx hb hr (fun t ht hW => ⟨⟨y1, S, rfl, h, gB_of ht hP⟩, hS.F ht⟩) hS.2.2 dX6_which_31
      · have h := h.2 c_1
        refine lv_aload_n hx hb dX6_which_10 rfl (lv_at hl 0 rfl) ?_
        refine lv_iload_n hx hb dX6_which_11 rfl (lv_at hl 2 rfl) ?_
        refine cVi (As := [.int y2]) (rest := []) hX ⟨hx, hb, hml, hown, hT⟩ (c_X6_allSeenIsSoBy l D X hX H.size S y2 _ h) (gd_V wl_X6_239 wi_X6_allSeenIsSoBy wv_X6_allSeenIsSoBy wn_X6 wc_X6_allSeenIsSoBy) rfl hd_X6_allSeenIsSoBy ⟨rfl, rfl⟩ ⟨Nat.le_of_ble_eq_true rfl, Nat.le_of_ble_eq_true rfl⟩ (va_recv hK hP (ci := 6) (q0 := 0) rfl cw_Yard) hK hP hS hF rfl hl.1 rfl (Nat.le_of_ble_eq_true rfl) dX6_which_12 ⟨Nat.zero_le _, Nat.zero_le _⟩ (fun r_3 S_2 H locs h hP hS => ?_)
        refine lv_if_eq (tgt := 24) hx hb dX6_which_15 (by decide) (fun c_4 => ?_) (fun c_4 => ?_)
        · have h := h.1 c_4
          obtain ⟨x2_5, ex2_5⟩ : ∃ z : Int32, z = y2 + 1 := ⟨_, rfl⟩
          refine lv_iinc (v := x2_5) (lv' := [(2, .int x2_5), (0, .ref (X.1 0)), (1, .int y1)]) hx hb dX6_which_24 hl (k := 2) rfl (by rw [ex2_5]; rfl) (by decide) rfl (fun ls hl => ?_)
          have h := h x2_5 ex2_5
          refine lv_goto (tgt := 4) hx hb dX6_which_27 (by decide) ?_
          exact ih y1 x2_5 S_2 H locs ls hP hS (lv_sub hl [1, 2, 0] rfl) h
        · have h := h.2 c_4
          refine lv_iload_n hx hb dX6_which_18 rfl (lv_at hl 1 rfl) ?_
          refine lv_iconst (v := 1) hx hb dX6_which_19 (by decide) ?_
          refine lv_iload_n hx hb dX6_which_20 rfl (lv_at hl 2 rfl) ?_
          refine lv_ishl hx hb dX6_which_21 ?_
          refine lv_ior hx hb dX6_which_22 ?_
          refine lv_topi (fun x1_6 ex1_6 => ?_)
          have h := h x1_6 ex1_6
          refine lv_istore_n (lv' := [(1, .int x1_6), (0, .ref (X.1 0)), (2, .int y2)]) hx hb dX6_which_23 rfl hl (by decide) rfl (fun ls hl => ?_)
          obtain ⟨x2_7, ex2_7⟩ : ∃ z : Int32, z = y2 + 1 := ⟨_, rfl⟩
          refine lv_iinc (v := x2_7) (lv' := [(2, .int x2_7), (1, .int x1_6), (0, .ref (X.1 0))]) hx hb dX6_which_24 hl (k := 2) rfl (by rw [ex2_7]; rfl) (by decide) rfl (fun ls hl => ?_)
          have h := h x2_7 ex2_7
          refine lv_goto (tgt := 4) hx hb dX6_which_27 (by decide) ?_
          exact ih x1_6 x2_7 S_2 H locs ls hP hS (lv_sub hl [2, 1, 0] rfl) h
  have hl := lv_entry ([.ref (X.1 0)]) (n := 3) (Nat.le_of_ble_eq_true rfl)
  rw [lg_entry_eq]
  generalize (lg_sl ([.ref (X.1 0)]) ++ List.replicate (3 - (lg_sl ([.ref (X.1 0)])).length) Slot.unset).toArray = ls at hl ⊢
  have hl : lv_has ls 3 [(0, .ref (X.1 0))] := hl
  obtain ⟨H, hH⟩ : ∃ H : Heap, H = s.heap := ⟨_, rfl⟩
  obtain ⟨locs, hlc⟩ : ∃ q : List Loc, q = [] := ⟨_, rfl⟩
  have hS : va_S (AX 75 X.1 s.heap.size) s.heap H locs := by rw [hH, hlc]; exact hS
  have hP : va_P D vwCl (CW X S) H := by rw [hH]; exact hP
  show W p l e (headSpec (Cond.code yX6_which cX6_which 3 (some .int) :: lw_gd) rm_X6_which).room s m ([.ref (X.1 0)] : List Value).toArray below meth c s.heap [] 0 0 (MQ below (va_Qi post (gB D (CW X)) (AX 75 X.1 s.heap.size)) ([.ref (X.1 0)] : List Value).toArray s 0 0 (AX 75 X.1 s.heap.size)) _
  suffices hgo : W p l e (headSpec (Cond.code yX6_which cX6_which 3 (some .int) :: lw_gd) rm_X6_which).room s m ([.ref (X.1 0)] : List Value).toArray below meth c H locs 0 0 (MQ below (va_Qi post (gB D (CW X)) (AX 75 X.1 s.heap.size)) ([.ref (X.1 0)] : List Value).toArray s 0 0 (AX 75 X.1 s.heap.size)) (F0 m 0 ls []) from by rw [hH, hlc] at hgo; exact hgo
  unfold p_X6_which at h
  refine lv_iconst (v := 0) hx hb dX6_which_0 (by decide) ?_
  refine lv_istore_n (lv' := [(1, .int 0), (0, .ref (X.1 0))]) hx hb dX6_which_1 rfl hl (by decide) rfl (fun ls hl => ?_)
  refine lv_iconst (v := 0) hx hb dX6_which_2 (by decide) ?_
  refine lv_istore_n (lv' := [(2, .int 0), (1, .int 0), (0, .ref (X.1 0))]) hx hb dX6_which_3 rfl hl (by decide) rfl (fun ls hl => ?_)
  obtain ⟨n1, h⟩ := h
  exact W4  n1 0 0 S H locs ls hP hS (lv_sub hl [2, 1, 0] rfl) h

abbrev rm_X6_waysToChoose : Room := { frames := 0, cells := 0, slots := 0, locals := 0 }
def q_X6_waysToChoose_4 (x0 : Int32) (x1 : Int32) (post : Int32 → CS → Prop) : Nat → Int32 → Int32 → CS → Prop
  | 0, _, _, _ => False
  | n9 + 1, y2, y3, S => (x1 < y3 → (post y2 S)) ∧ (¬ (x1 < y3) → ((¬ y3 = 0) ∧ (∀ x2_2 : Int32, x2_2 = ((y2 * ((x0 - x1) + y3)) / y3) → (∀ x3_3 : Int32, x3_3 = y3 + 1 → (q_X6_waysToChoose_4 x0 x1 post n9 x2_2 x3_3 S)))))
def p_X6_waysToChoose (S : CS) (x0 : Int32) (x1 : Int32) (post : Int32 → CS → Prop) : Prop := ∃ n, q_X6_waysToChoose_4 x0 x1 post n 1 1 S
set_option maxHeartbeats 4000000 in
set_option maxRecDepth 100000 in
theorem c_X6_waysToChoose (l : Launch) (D : va_G) (X : XE) (hX : Inj 75 X.1) (sz : Nat) (S : CS) (x0 : Int32) (x1 : Int32) (post : Int32 → CS → Prop) (h : p_X6_waysToChoose S x0 x1 post) : Met l yX6_waysToChoose (Cond.code yX6_waysToChoose cX6_waysToChoose 4 (some .int) :: lw_gd) rm_X6_waysToChoose (gPc D (tyX X) (CW X) (FXc X) (AX 75 X.1 sz) sz S [.int x0, .int x1]) (va_Qi post (gB D (CW X)) (AX 75 X.1 sz)) 0 0 (AX 75 X.1 sz) := by
  refine Met.ofW (cc := cX6_waysToChoose) (maxL := 4) (ret := (some .int)) (by decide) rfl ?_
  intro p e s m args below meth c s₁ B hml hv
  obtain ⟨rfl, hsz, hP, hK, hF⟩ := hv
  have hx := B.exec
  have hb := B.bytes
  have hr := B.returns
  have hts := atoms_spec (ws := (Cond.code yX6_waysToChoose cX6_waysToChoose 4 (some .int) :: lw_gd)) B.pre
  have hT : ∀ w ∈ lw_gd, w.before _ s = true := fun w h9 => hts w (List.mem_cons_of_mem _ h9)
  have hown : s.vm.findClass RX6 = some m.cls := findClass_of_methodNamed B.named
  have hlocks := B.notSynchronized
  subst hsz
  have hS : va_S (AX 75 X.1 s.heap.size) s.heap s.heap [] := va_S.rf
  have W4 : ∀ n1 : Nat, ∀ (y2 : Int32) (y3 : Int32) (S : CS) (H : Heap) (locs : List Loc) (ls : Array Slot), va_P D vwCl (CW X S) H → va_S (AX 75 X.1 s.heap.size) s.heap H locs → lv_has ls 4 [(0, .int x0), (1, .int x1), (2, .int y2), (3, .int y3)] → q_X6_waysToChoose_4 x0 x1 post n1 y2 y3 S → W p l e (headSpec (Cond.code yX6_waysToChoose cX6_waysToChoose 4 (some .int) :: lw_gd) rm_X6_waysToChoose).room s m ([.int x0, .int x1] : List Value).toArray below meth c H locs 0 0 (MQ below (va_Qi post (gB D (CW X)) (AX 75 X.1 s.heap.size)) ([.int x0, .int x1] : List Value).toArray s 0 0 (AX 75 X.1 s.heap.size)) (F0 m 4 ls []) := by
    intro n1
    induction n1 with
    | zero => intro y2 y3 S H locs ls hP hS hl h; exact h.elim
    | succ n9 ih =>
      intro y2 y3 S H locs ls hP hS hl h
      rw [q_X6_waysToChoose_4] at h
      refine lv_iload_n hx hb dX6_waysToChoose_4 rfl (lv_at hl 3 rfl) ?_
      refine lv_iload_n hx hb dX6_waysToChoose_5 rfl (lv_at hl 1 rfl) ?_
      refine lv_icmp_gt (tgt := 25) hx hb dX6_waysToChoose_6 (by decide) (fun c_1 => ?_) (fun c_1 => ?_)
      · have h := h.1 c_1
        refine lv_iload_n hx hb dX6_waysToChoose_25 rfl (lv_at hl 2 rfl) ?_
        exact W.iret (v := y2) hx hb hr (fun t ht hW => ⟨⟨y2, S, rfl, h, gB_of ht hP⟩, hS.F ht⟩) hS.2.2 dX6_waysToChoose_26
      · have h := h.2 c_1
        refine lv_iload_n hx hb dX6_waysToChoose_9 rfl (lv_at hl 2 rfl) ?_
        refine lv_iload_n hx hb dX6_waysToChoose_10 rfl (lv_at hl 0 rfl) ?_
        refine lv_iload_n hx hb dX6_waysToChoose_11 rfl (lv_at hl 1 rfl) ?_
        refine lv_isub hx hb dX6_waysToChoose_12 ?_
        refine lv_iload_n hx hb dX6_waysToChoose_13 rfl (lv_at hl 3 rfl) ?_
        refine lv_iadd hx hb dX6_waysToChoose_14 ?_
        refine lv_imul hx hb dX6_waysToChoose_15 ?_
        refine lv_iload_n hx hb dX6_waysToChoose_16 rfl (lv_at hl 3 rfl) ?_
        obtain ⟨hne, h⟩ := h
        refine lv_idiv hx hb dX6_waysToChoose_17 hne ?_
        refine lv_topi (fun x2_2 ex2_2 => ?_)
        have h := h x2_2 ex2_2
        refine lv_istore_n (lv' := [(2, .int x2_2), (0, .int x0), (1, .int x1), (3, .int y3)]) hx hb dX6_waysToChoose_18 rfl hl (by decide) rfl (fun ls hl => ?_)
        obtain ⟨x3_3, ex3_3⟩ : ∃ z : Int32, z = y3 + 1 := ⟨_, rfl⟩
        refine lv_iinc (v := x3_3) (lv' := [(3, .int x3_3), (2, .int x2_2), (0, .int x0), (1, .int x1)]) hx hb dX6_waysToChoose_19 hl (k := 3) rfl (by rw [ex3_3]; rfl) (by decide) rfl (fun ls hl => ?_)
        have h := h x3_3 ex3_3
        refine lv_goto (tgt := 4) hx hb dX6_waysToChoose_22 (by decide) ?_
        exact ih x2_2 x3_3 S H locs ls hP hS (lv_sub hl [2, 3, 1, 0] rfl) h
  have hl := lv_entry ([.int x0, .int x1]) (n := 4) (Nat.le_of_ble_eq_true rfl)
  rw [lg_entry_eq]
  generalize (lg_sl ([.int x0, .int x1]) ++ List.replicate (4 - (lg_sl ([.int x0, .int x1])).length) Slot.unset).toArray = ls at hl ⊢
  have hl : lv_has ls 4 [(0, .int x0), (1, .int x1)] := hl
  obtain ⟨H, hH⟩ : ∃ H : Heap, H = s.heap := ⟨_, rfl⟩
  obtain ⟨locs, hlc⟩ : ∃ q : List Loc, q = [] := ⟨_, rfl⟩
  have hS : va_S (AX 75 X.1 s.heap.size) s.heap H locs := by rw [hH, hlc]; exact hS
  have hP : va_P D vwCl (CW X S) H := by rw [hH]; exact hP
  show W p l e (headSpec (Cond.code yX6_waysToChoose cX6_waysToChoose 4 (some .int) :: lw_gd) rm_X6_waysToChoose).room s m ([.int x0, .int x1] : List Value).toArray below meth c s.heap [] 0 0 (MQ below (va_Qi post (gB D (CW X)) (AX 75 X.1 s.heap.size)) ([.int x0, .int x1] : List Value).toArray s 0 0 (AX 75 X.1 s.heap.size)) _
  suffices hgo : W p l e (headSpec (Cond.code yX6_waysToChoose cX6_waysToChoose 4 (some .int) :: lw_gd) rm_X6_waysToChoose).room s m ([.int x0, .int x1] : List Value).toArray below meth c H locs 0 0 (MQ below (va_Qi post (gB D (CW X)) (AX 75 X.1 s.heap.size)) ([.int x0, .int x1] : List Value).toArray s 0 0 (AX 75 X.1 s.heap.size)) (F0 m 0 ls []) from by rw [hH, hlc] at hgo; exact hgo
  unfold p_X6_waysToChoose at h
  refine lv_iconst (v := 1) hx hb dX6_waysToChoose_0 (by decide) ?_
  refine lv_istore_n (lv' := [(2, .int 1), (0, .int x0), (1, .int x1)]) hx hb dX6_waysToChoose_1 rfl hl (by decide) rfl (fun ls hl => ?_)
  refine lv_iconst (v := 1) hx hb dX6_waysToChoose_2 (by decide) ?_
  refine lv_istore_n (lv' := [(3, .int 1), (2, .int 1), (0, .int x0), (1, .int x1)]) hx hb dX6_waysToChoose_3 rfl hl (by decide) rfl (fun ls hl => ?_)
  obtain ⟨n1, h⟩ := h
  exact W4  n1 1 1 S H locs ls hP hS (lv_sub hl [2, 3, 1, 0] rfl) h

abbrev rm_X6_power : Room := { frames := 0, cells := 0, slots := 0, locals := 0 }
def q_X6_power_4 (x0 : Int32) (x1 : Int32) (post : Int32 → CS → Prop) : Nat → Int32 → Int32 → CS → Prop
  | 0, _, _, _ => False
  | n9 + 1, y2, y3, S => (x1 ≤ y3 → (post y2 S)) ∧ (¬ (x1 ≤ y3) → (∀ x2_2 : Int32, x2_2 = (y2 * x0) → (∀ x3_3 : Int32, x3_3 = y3 + 1 → (q_X6_power_4 x0 x1 post n9 x2_2 x3_3 S))))
def p_X6_power (S : CS) (x0 : Int32) (x1 : Int32) (post : Int32 → CS → Prop) : Prop := ∃ n, q_X6_power_4 x0 x1 post n 1 0 S
set_option maxHeartbeats 4000000 in
set_option maxRecDepth 100000 in
theorem c_X6_power (l : Launch) (D : va_G) (X : XE) (hX : Inj 75 X.1) (sz : Nat) (S : CS) (x0 : Int32) (x1 : Int32) (post : Int32 → CS → Prop) (h : p_X6_power S x0 x1 post) : Met l yX6_power (Cond.code yX6_power cX6_power 4 (some .int) :: lw_gd) rm_X6_power (gPc D (tyX X) (CW X) (FXc X) (AX 75 X.1 sz) sz S [.int x0, .int x1]) (va_Qi post (gB D (CW X)) (AX 75 X.1 sz)) 0 0 (AX 75 X.1 sz) := by
  refine Met.ofW (cc := cX6_power) (maxL := 4) (ret := (some .int)) (by decide) rfl ?_
  intro p e s m args below meth c s₁ B hml hv
  obtain ⟨rfl, hsz, hP, hK, hF⟩ := hv
  have hx := B.exec
  have hb := B.bytes
  have hr := B.returns
  have hts := atoms_spec (ws := (Cond.code yX6_power cX6_power 4 (some .int) :: lw_gd)) B.pre
  have hT : ∀ w ∈ lw_gd, w.before _ s = true := fun w h9 => hts w (List.mem_cons_of_mem _ h9)
  have hown : s.vm.findClass RX6 = some m.cls := findClass_of_methodNamed B.named
  have hlocks := B.notSynchronized
  subst hsz
  have hS : va_S (AX 75 X.1 s.heap.size) s.heap s.heap [] := va_S.rf
  have W4 : ∀ n1 : Nat, ∀ (y2 : Int32) (y3 : Int32) (S : CS) (H : Heap) (locs : List Loc) (ls : Array Slot), va_P D vwCl (CW X S) H → va_S (AX 75 X.1 s.heap.size) s.heap H locs → lv_has ls 4 [(0, .int x0), (1, .int x1), (2, .int y2), (3, .int y3)] → q_X6_power_4 x0 x1 post n1 y2 y3 S → W p l e (headSpec (Cond.code yX6_power cX6_power 4 (some .int) :: lw_gd) rm_X6_power).room s m ([.int x0, .int x1] : List Value).toArray below meth c H locs 0 0 (MQ below (va_Qi post (gB D (CW X)) (AX 75 X.1 s.heap.size)) ([.int x0, .int x1] : List Value).toArray s 0 0 (AX 75 X.1 s.heap.size)) (F0 m 4 ls []) := by
    intro n1
    induction n1 with
    | zero => intro y2 y3 S H locs ls hP hS hl h; exact h.elim
    | succ n9 ih =>
      intro y2 y3 S H locs ls hP hS hl h
      rw [q_X6_power_4] at h
      refine lv_iload_n hx hb dX6_power_4 rfl (lv_at hl 3 rfl) ?_
      refine lv_iload_n hx hb dX6_power_5 rfl (lv_at hl 1 rfl) ?_
      refine lv_icmp_ge (tgt := 19) hx hb dX6_power_6 (by decide) (fun c_1 => ?_) (fun c_1 => ?_)
      · have h := h.1 c_1
        refine lv_iload_n hx hb dX6_power_19 rfl (lv_at hl 2 rfl) ?_
        exact W.iret (v := y2) hx hb hr (fun t ht hW => ⟨⟨y2, S, rfl, h, gB_of ht hP⟩, hS.F ht⟩) hS.2.2 dX6_power_20
      · have h := h.2 c_1
        refine lv_iload_n hx hb dX6_power_9 rfl (lv_at hl 2 rfl) ?_
        refine lv_iload_n hx hb dX6_power_10 rfl (lv_at hl 0 rfl) ?_
        refine lv_imul hx hb dX6_power_11 ?_
        refine lv_topi (fun x2_2 ex2_2 => ?_)
        have h := h x2_2 ex2_2
        refine lv_istore_n (lv' := [(2, .int x2_2), (0, .int x0), (1, .int x1), (3, .int y3)]) hx hb dX6_power_12 rfl hl (by decide) rfl (fun ls hl => ?_)
        obtain ⟨x3_3, ex3_3⟩ : ∃ z : Int32, z = y3 + 1 := ⟨_, rfl⟩
        refine lv_iinc (v := x3_3) (lv' := [(3, .int x3_3), (2, .int x2_2), (0, .int x0), (1, .int x1)]) hx hb dX6_power_13 hl (k := 3) rfl (by rw [ex3_3]; rfl) (by decide) rfl (fun ls hl => ?_)
        have h := h x3_3 ex3_3
        refine lv_goto (tgt := 4) hx hb dX6_power_16 (by decide) ?_
        exact ih x2_2 x3_3 S H locs ls hP hS (lv_sub hl [2, 3, 1, 0] rfl) h
  have hl := lv_entry ([.int x0, .int x1]) (n := 4) (Nat.le_of_ble_eq_true rfl)
  rw [lg_entry_eq]
  generalize (lg_sl ([.int x0, .int x1]) ++ List.replicate (4 - (lg_sl ([.int x0, .int x1])).length) Slot.unset).toArray = ls at hl ⊢
  have hl : lv_has ls 4 [(0, .int x0), (1, .int x1)] := hl
  obtain ⟨H, hH⟩ : ∃ H : Heap, H = s.heap := ⟨_, rfl⟩
  obtain ⟨locs, hlc⟩ : ∃ q : List Loc, q = [] := ⟨_, rfl⟩
  have hS : va_S (AX 75 X.1 s.heap.size) s.heap H locs := by rw [hH, hlc]; exact hS
  have hP : va_P D vwCl (CW X S) H := by rw [hH]; exact hP
  show W p l e (headSpec (Cond.code yX6_power cX6_power 4 (some .int) :: lw_gd) rm_X6_power).room s m ([.int x0, .int x1] : List Value).toArray below meth c s.heap [] 0 0 (MQ below (va_Qi post (gB D (CW X)) (AX 75 X.1 s.heap.size)) ([.int x0, .int x1] : List Value).toArray s 0 0 (AX 75 X.1 s.heap.size)) _
  suffices hgo : W p l e (headSpec (Cond.code yX6_power cX6_power 4 (some .int) :: lw_gd) rm_X6_power).room s m ([.int x0, .int x1] : List Value).toArray below meth c H locs 0 0 (MQ below (va_Qi post (gB D (CW X)) (AX 75 X.1 s.heap.size)) ([.int x0, .int x1] : List Value).toArray s 0 0 (AX 75 X.1 s.heap.size)) (F0 m 0 ls []) from by rw [hH, hlc] at hgo; exact hgo
  unfold p_X6_power at h
  refine lv_iconst (v := 1) hx hb dX6_power_0 (by decide) ?_
  refine lv_istore_n (lv' := [(2, .int 1), (0, .int x0), (1, .int x1)]) hx hb dX6_power_1 rfl hl (by decide) rfl (fun ls hl => ?_)
  refine lv_iconst (v := 0) hx hb dX6_power_2 (by decide) ?_
  refine lv_istore_n (lv' := [(3, .int 0), (2, .int 1), (0, .int x0), (1, .int x1)]) hx hb dX6_power_3 rfl hl (by decide) rfl (fun ls hl => ?_)
  obtain ⟨n1, h⟩ := h
  exact W4  n1 1 0 S H locs ls hP hS (lv_sub hl [2, 3, 1, 0] rfl) h
