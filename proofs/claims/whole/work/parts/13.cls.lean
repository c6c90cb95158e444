abbrev rm_X6_sends : Room := { frames := 5, cells := 0, slots := 0, locals := 108 }
def p_X6_sends (S : CS) (x1 : Int32) (post : Int32 → CS → Prop) : Prop := p_X6_isOrder S x1 (fun r_2 S_1 => ((r_2 = 0 → (post (-1) S_1)) ∧ (¬ (r_2 = 0) → ((S_1.2.1 < 2) ∧ (p_X5_value S_1 S_1.2.1 3 x1 (fun r_6 S_5 => (p_X1_wasSent S_5 0 x1 (fun r_8 S_7 => ((r_8 = 0 → (((S_7.1 (mo 0) 3) < r_6 → (post (-2) S_7)) ∧ (¬ ((S_7.1 (mo 0) 3) < r_6) → (p_X6_isLate S_7 x1 (fun r_12 S_11 => ((r_12 = 0 → (p_X6_remember S_11  (fun S_14 => (∀ u_16 : Int32, u_16 = ((S_14.1 (mo 0) 3) - r_6) → (∀ S_17 : CS, S_17 = sti S_14 (mo 0) 3 u_16 → ((S_17.2.1 < 2) ∧ (p_X5_value S_17 S_17.2.1 4 x1 (fun r_20 S_19 => (∀ u_21 : Int32, u_21 = ((S_17.1 (mo 0) 5) + r_20) → (∀ S_22 : CS, S_22 = sti S_19 (mo 0) 5 u_21 → (∀ u_23 : Int32, u_23 = ((S_22.1 (mo 0) 6) ||| (1 <<< (x1 &&& 31))) → (∀ S_24 : CS, S_24 = sti S_22 (mo 0) 6 u_23 → (post (S_24.1 (mo 0) 5) S_24))))))))))))) ∧ (¬ (r_12 = 0) → (post (-2) S_11)))))))) ∧ (¬ (r_8 = 0) → (post (-2) S_7)))))))))))
set_option maxHeartbeats 4000000 in
set_option maxRecDepth 100000 in
theorem c_X6_sends (l : Launch) (D : va_G) (X : XE) (hX : Inj 75 X.1) (sz : Nat) (S : CS) (x1 : Int32) (post : Int32 → CS → Prop) (h : p_X6_sends S x1 post) : Met l yX6_sends (Cond.code yX6_sends cX6_sends 3 (some .int) :: lw_gd) rm_X6_sends (gPc D (tyX X) (CW X) (FXc X) (AX 75 X.1 sz) sz S [.ref (X.1 0), .int x1]) (va_Qi post (gB D (CW X)) (AX 75 X.1 sz)) 0 0 (AX 75 X.1 sz) := by
  refine Met.ofW (cc := cX6_sends) (maxL := 3) (ret := (some .int)) (by decide) rfl ?_
  intro p e s m args below meth c s₁ B hml hv
  obtain ⟨rfl, hsz, hP, hK, hF⟩ := hv
  have hx := B.exec
  have hb := B.bytes
  have hr := B.returns
  have hts := atoms_spec (ws := (Cond.code yX6_sends cX6_sends 3 (some .int) :: lw_gd)) B.pre
  have hT : ∀ w ∈ lw_gd, w.before _ s = true := fun w h9 => hts w (List.mem_cons_of_mem _ h9)
  have hown : s.vm.findClass RX6 = some m.cls := findClass_of_methodNamed B.named
  have hlocks := B.notSynchronized
  subst hsz
  have hS : va_S (AX 75 X.1 s.heap.size) s.heap s.heap [] := va_S.rf
  have hl := lv_entry ([.ref (X.1 0), .int x1]) (n := 3) (Nat.le_of_ble_eq_true rfl)
  rw [lg_entry_eq]
  generalize (lg_sl ([.ref (X.1 0), .int x1]) ++ List.replicate (3 - (lg_sl ([.ref (X.1 0), .int x1])).length) Slot.unset).toArray = ls at hl ⊢
  have hl : lv_has ls 3 [(0, .ref (X.1 0)), (1, .int x1)] := hl
  obtain ⟨H, hH⟩ : ∃ H : Heap, H = s.heap := ⟨_, rfl⟩
  obtain ⟨locs, hlc⟩ : ∃ q : List Loc, q = [] := ⟨_, rfl⟩
  have hS : va_S (AX 75 X.1 s.heap.size) s.heap H locs := by rw [hH, hlc]; exact hS
  have hP : va_P D vwCl (CW X S) H := by rw [hH]; exact hP
  show W p l e (headSpec (Cond.code yX6_sends cX6_sends 3 (some .int) :: lw_gd) rm_X6_sends).room s m ([.ref (X.1 0), .int x1] : List Value).toArray below meth c s.heap [] 0 0 (MQ below (va_Qi post (gB D (CW X)) (AX 75 X.1 s.heap.size)) ([.ref (X.1 0), .int x1] : List Value).toArray s 0 0 (AX 75 X.1 s.heap.size)) _
  suffices hgo : W p l e (headSpec (Cond.code yX6_sends cX6_sends 3 (some .int) :: lw_gd) rm_X6_sends).room s m ([.ref (X.1 0), .int x1] : List Value).toArray below meth c H locs 0 0 (MQ below (va_Qi post (gB D (CW X)) (AX 75 X.1 s.heap.size)) ([.ref (X.1 0), .int x1] : List Value).toArray s 0 0 (AX 75 X.1 s.heap.size)) (F0 m 0 ls []) from by rw [hH, hlc] at hgo; exact hgo
  unfold p_X6_sends at h
  refine lv_aload_n hx hb dX6_sends_0 rfl (lv_at hl 0 rfl) ?_
  refine lv_iload_n hx hb dX6_sends_1 rfl (lv_at hl 1 rfl) ?_
  refine cVi (As := [.int x1]) (rest := []) hX ⟨hx, hb, hml, hown, hT⟩ (c_X6_isOrder l D X hX H.size S x1 _ h) (gd_V wl_X6_106 wi_X6_isOrder wv_X6_isOrder wn_X6 wc_X6_isOrder) rfl hd_X6_isOrder ⟨rfl, rfl⟩ ⟨Nat.le_of_ble_eq_true rfl, Nat.le_of_ble_eq_true rfl⟩ (va_recv hK hP (ci := 6) (q0 := 0) rfl cw_Yard) hK hP hS hF rfl hl.1 rfl (Nat.le_of_ble_eq_true rfl) dX6_sends_2 ⟨Nat.zero_le _, Nat.zero_le _⟩ (fun r_2 S_1 H locs h hP hS => ?_)
  refine lv_if_ne (tgt := 10) hx hb dX6_sends_5 (by decide) (fun c_3 => ?_) (fun c_3 => ?_)
  · have h := h.2 c_3
    refine lv_aload_n hx hb dX6_sends_10 rfl (lv_at hl 0 rfl) ?_
    obtain ⟨ht_4, h⟩ := h
    refine va_get (D := D) (ci := 6) (v := .ref (X.1 (to S_1.2.1))) (C := RX6) (T := TX6) (N := 16) hx hb hT inX6 hown hK hP 0 cw_Yard rfl 1 (by decide) (hT _ wf_X6_19) (fun _ h9 => h9) rfl dX6_sends_11 ?_
    refine lv_iconst (v := 3) hx hb dX6_sends_14 (by decide) ?_
    refine lv_iload_n hx hb dX6_sends_15 rfl (lv_at hl 1 rfl) ?_
    refine cVi (As := [.int 3, .int x1]) (rest := []) hX ⟨hx, hb, hml, hown, hT⟩ (c_X5_value l D X hX H.size S_1 S_1.2.1 (by omega) 3 x1 _ h) (gd_V wl_X6_95 wi_X5_value wv_X5_value wn_X5 wc_X5_value) rfl hd_X5_value ⟨rfl, rfl⟩ ⟨Nat.le_of_ble_eq_true rfl, Nat.le_of_ble_eq_true rfl⟩ (va_recv hK hP (ci := 5) (q0 := (to S_1.2.1)) rfl (cw_Told (t := S_1.2.1) (by omega))) hK hP hS hF rfl hl.1 rfl (Nat.le_of_ble_eq_true rfl) dX6_sends_16 ⟨Nat.zero_le _, Nat.zero_le _⟩ (fun r_6 S_5 H locs h hP hS => ?_)
    refine lv_istore_n (lv' := [(2, .int r_6), (0, .ref (X.1 0)), (1, .int x1)]) hx hb dX6_sends_19 rfl hl (by decide) rfl (fun ls hl => ?_)
    refine lv_aload_n hx hb dX6_sends_20 rfl (lv_at hl 1 rfl) ?_
    refine va_get (D := D) (ci := 6) (v := .ref (X.1 (mo 0))) (C := RX6) (T := TX6) (N := 16) hx hb hT inX6 hown hK hP 0 cw_Yard rfl 3 (by decide) (hT _ wf_X6_29) (fun _ h9 => h9) rfl dX6_sends_21 ?_
    refine lv_iload_n hx hb dX6_sends_24 rfl (lv_at hl 2 rfl) ?_
    refine cVi (As := [.int x1]) (rest := []) hX ⟨hx, hb, hml, hown, hT⟩ (c_X1_wasSent l D X hX H.size S_5 0 (by decide) x1 _ h) (gd_V wl_X6_109 wi_X1_wasSent wv_X1_wasSent wn_X1 wc_X1_wasSent) rfl hd_X1_wasSent ⟨rfl, rfl⟩ ⟨Nat.le_of_ble_eq_true rfl, Nat.le_of_ble_eq_true rfl⟩ (va_recv hK hP (ci := 1) (q0 := (mo 0)) rfl (cw_Moment (m := 0) (by decide))) hK hP hS hF rfl hl.1 rfl (Nat.le_of_ble_eq_true rfl) dX6_sends_25 ⟨Nat.zero_le _, Nat.zero_le _⟩ (fun r_8 S_7 H locs h hP hS => ?_)
    refine lv_if_ne (tgt := 50) hx hb dX6_sends_28 (by decide) (fun c_9 => ?_) (fun c_9 => ?_)
    · have h := h.2 c_9
      refine lv_bipush (v := (-2)) hx hb dX6_sends_50 (by decide) ?_
      exact W.iret (v := (-2)) hx hb hr (fun t ht hW => ⟨⟨(-2), S_7, rfl, h, gB_of ht hP⟩, hS.F ht⟩) hS.2.2 dX6_sends_52
    · have h := h.1 c_9
      refine lv_iload_n hx hb dX6_sends_31 rfl (lv_at hl 0 rfl) ?_
      refine lv_aload_n hx hb dX6_sends_32 rfl (lv_at hl 1 rfl) ?_
      refine va_get (D := D) (ci := 6) (v := .ref (X.1 (mo 0))) (C := RX6) (T := TX6) (N := 16) hx hb hT inX6 hown hK hP 0 cw_Yard rfl 3 (by decide) (hT _ wf_X6_29) (fun _ h9 => h9) rfl dX6_sends_33 ?_
      refine va_getN (D := D) (ci := 1) (v := .int (S_7.1 (mo 0) 3)) (C := RX1) (T := TX1) (N := 8) hx hb hT inX1 hown hK hP (mo 0) (cw_Moment (m := 0) (by decide)) rfl 3 (by decide) (va_Nw.use rfl hF.1.1.2.2.2.1) (fun _ h9 => h9) rfl dX6_sends_36 ?_
      refine lv_icmp_gt (tgt := 50) hx hb dX6_sends_39 (by decide) (fun c_10 => ?_) (fun c_10 => ?_)
      · have h := h.1 c_10
        refine lv_bipush (v := (-2)) hx hb dX6_sends_50 (by decide) ?_
        exact W.iret (v := (-2)) hx hb hr (fun t ht hW => ⟨⟨(-2), S_7, rfl, h, gB_of ht hP⟩, hS.F ht⟩) hS.2.2 dX6_sends_52
      · have h := h.2 c_10
        refine lv_aload_n hx hb dX6_sends_42 rfl (lv_at hl 1 rfl) ?_
        refine lv_iload_n hx hb dX6_sends_43 rfl (lv_at hl 2 rfl) ?_
        refine cVi (As := [.int x1]) (rest := []) hX ⟨hx, hb, hml, hown, hT⟩ (c_X6_isLate l D X hX H.size S_7 x1 _ h) (gd_V wl_X6_164 wi_X6_isLate wv_X6_isLate wn_X6 wc_X6_isLate) rfl hd_X6_isLate ⟨rfl, rfl⟩ ⟨Nat.le_of_ble_eq_true rfl, Nat.le_of_ble_eq_true rfl⟩ (va_recv hK hP (ci := 6) (q0 := 0) rfl cw_Yard) hK hP hS hF rfl hl.1 rfl (Nat.le_of_ble_eq_true rfl) dX6_sends_44 ⟨Nat.zero_le _, Nat.zero_le _⟩ (fun r_12 S_11 H locs h hP hS => ?_)
        refine lv_if_eq (tgt := 53) hx hb dX6_sends_47 (by decide) (fun c_13 => ?_) (fun c_13 => ?_)
        · have h := h.1 c_13
          refine lv_aload_n hx hb dX6_sends_53 rfl (lv_at hl 1 rfl) ?_
          refine cVv (As := []) (rest := []) hX ⟨hx, hb, hml, hown, hT⟩ (c_X6_remember l D X hX H.size S_11  _ h) (gd_V wl_X6_146 wi_X6_remember wv_X6_remember wn_X6 wc_X6_remember) rfl hd_X6_remember ⟨rfl, rfl⟩ ⟨Nat.le_of_ble_eq_true rfl, Nat.le_of_ble_eq_true rfl⟩ (va_recv hK hP (ci := 6) (q0 := 0) rfl cw_Yard) hK hP hS hF rfl hl.1 rfl (Nat.le_of_ble_eq_true rfl) dX6_sends_54 ⟨Nat.zero_le _, Nat.zero_le _⟩ (fun S_14 H locs h hP hS => ?_)
          refine lv_aload_n hx hb dX6_sends_57 rfl (lv_at hl 1 rfl) ?_
          refine va_get (D := D) (ci := 6) (v := .ref (X.1 (mo 0))) (C := RX6) (T := TX6) (N := 16) hx hb hT inX6 hown hK hP 0 cw_Yard rfl 3 (by decide) (hT _ wf_X6_29) (fun _ h9 => h9) rfl dX6_sends_58 ?_
          refine lv_dup hx hb dX6_sends_61 rfl ?_
          refine va_getN (D := D) (ci := 1) (v := .int (S_14.1 (mo 0) 3)) (C := RX1) (T := TX1) (N := 8) hx hb hT inX1 hown hK hP (mo 0) (cw_Moment (m := 0) (by decide)) rfl 3 (by decide) (va_Nw.use rfl hF.1.1.2.2.2.1) (fun _ h9 => h9) rfl dX6_sends_62 ?_
          refine lv_iload_n hx hb dX6_sends_65 rfl (lv_at hl 0 rfl) ?_
          refine lv_isub hx hb dX6_sends_66 ?_
          refine lv_topi (fun u_16 eu_16 => ?_)
          have h := h u_16 eu_16
          refine va_putN (D := D) (ci := 1) (v := .int u_16) (ty := .int) (C := RX1) (T := TX1) (N := 8) hx hb hT inX1 tyX1 tyX1_ok nmX1 hown hK hP (gw_D hX) hS (mo 0) (cw_Moment (m := 0) (by decide)) rfl 3 (by decide) (va_Nw.use rfl hF.1.1.2.2.2.1) (fun _ h9 => h9) rfl (by decide +kernel) rfl rfl (Nat.le_of_ble_eq_true rfl) dX6_sends_67 (fun H locs hP _ hS => ?_)
          have hP := cw_st (j := 3) (x := u_16) (cce_mo X _ (m := 0) (by decide) _) hP
          obtain ⟨S_17, eS_17⟩ : ∃ z : CS, z = sti S_14 (mo 0) 3 u_16 := ⟨_, rfl⟩
          rw [← eS_17] at hP
          have h := h S_17 eS_17
          refine lv_aload_n hx hb dX6_sends_70 rfl (lv_at hl 1 rfl) ?_
          refine va_get (D := D) (ci := 6) (v := .ref (X.1 (mo 0))) (C := RX6) (T := TX6) (N := 16) hx hb hT inX6 hown hK hP 0 cw_Yard rfl 3 (by decide) (hT _ wf_X6_29) (fun _ h9 => h9) rfl dX6_sends_71 ?_
          refine lv_dup hx hb dX6_sends_74 rfl ?_
          refine va_getN (D := D) (ci := 1) (v := .int (S_17.1 (mo 0) 5)) (C := RX1) (T := TX1) (N := 8) hx hb hT inX1 hown hK hP (mo 0) (cw_Moment (m := 0) (by decide)) rfl 5 (by decide) (va_Nw.use rfl hF.1.1.2.2.2.2.2.1) (fun _ h9 => h9) rfl dX6_sends_75 ?_
          refine lv_aload_n hx hb dX6_sends_78 rfl (lv_at hl 1 rfl) ?_
          obtain ⟨ht_18, h⟩ := h
          refine va_get (D := D) (ci := 6) (v := .ref (X.1 (to S_17.2.1))) (C := RX6) (T := TX6) (N := 16) hx hb hT inX6 hown hK hP 0 cw_Yard rfl 1 (by decide) (hT _ wf_X6_19) (fun _ h9 => h9) rfl dX6_sends_79 ?_
          refine lv_iconst (v := 4) hx hb dX6_sends_82 (by decide) ?_
          refine lv_iload_n hx hb dX6_sends_83 rfl (lv_at hl 2 rfl) ?_
          refine cVi (As := [.int 4, .int x1]) (rest := [.int (S_17.1 (mo 0) 5), .ref (X.1 (mo 0))]) hX ⟨hx, hb, hml, hown, hT⟩ (c_X5_value l D X hX H.size S_17 S_17.2.1 (by omega) 4 x1 _ h) (gd_V wl_X6_95 wi_X5_value wv_X5_value wn_X5 wc_X5_value) rfl hd_X5_value ⟨rfl, rfl⟩ ⟨Nat.le_of_ble_eq_true rfl, Nat.le_of_ble_eq_true rfl⟩ (va_recv hK hP (ci := 5) (q0 := (to S_17.2.1)) rfl (cw_Told (t := S_17.2.1) (by omega))) hK hP hS hF rfl hl.1 rfl (Nat.le_of_ble_eq_true rfl) dX6_sends_84 ⟨Nat.zero_le _, Nat.zero_le _⟩ (fun r_20 S_19 H locs h hP hS => ?_)
          refine lv_iadd hx hb dX6_sends_87 ?_
          refine lv_topi (fun u_21 eu_21 => ?_)
          have h := h u_21 eu_21
          refine va_putN (D := D) (ci := 1) (v := .int u_21) (ty := .int) (C := RX1) (T := TX1) (N := 8) hx hb hT inX1 tyX1 tyX1_ok nmX1 hown hK hP (gw_D hX) hS (mo 0) (cw_Moment (m := 0) (by decide)) rfl 5 (by decide) (va_Nw.use rfl hF.1.1.2.2.2.2.2.1) (fun _ h9 => h9) rfl (by decide +kernel) rfl rfl (Nat.le_of_ble_eq_true rfl) dX6_sends_88 (fun H locs hP _ hS => ?_)
          have hP := cw_st (j := 5) (x := u_21) (cce_mo X _ (m := 0) (by decide) _) hP
          obtain ⟨S_22, eS_22⟩ : ∃ z : CS, z = sti S_19 (mo 0) 5 u_21 := ⟨_, rfl⟩
          rw [← eS_22] at hP
          have h := h S_22 eS_22
          refine lv_aload_n hx hb dX6_sends_91 rfl (lv_at hl 1 rfl) ?_
          refine va_get (D := D) (ci := 6) (v := .ref (X.1 (mo 0))) (C := RX6) (T := TX6) (N := 16) hx hb hT inX6 hown hK hP 0 cw_Yard rfl 3 (by decide) (hT _ wf_X6_29) (fun _ h9 => h9) rfl dX6_sends_92 ?_
          refine lv_dup hx hb dX6_sends_95 rfl ?_
          refine va_getN (D := D) (ci := 1) (v := .int (S_22.1 (mo 0) 6)) (C := RX1) (T := TX1) (N := 8) hx hb hT inX1 hown hK hP (mo 0) (cw_Moment (m := 0) (by decide)) rfl 6 (by decide) (va_Nw.use rfl hF.1.1.2.2.2.2.2.2.1) (fun _ h9 => h9) rfl dX6_sends_96 ?_
          refine lv_iconst (v := 1) hx hb dX6_sends_99 (by decide) ?_
          refine lv_iload_n hx hb dX6_sends_100 rfl (lv_at hl 2 rfl) ?_
          refine lv_ishl hx hb dX6_sends_101 ?_
          refine lv_ior hx hb dX6_sends_102 ?_
          refine lv_topi (fun u_23 eu_23 => ?_)
          have h := h u_23 eu_23
          refine va_putN (D := D) (ci := 1) (v := .int u_23) (ty := .int) (C := RX1) (T := TX1) (N := 8) hx hb hT inX1 tyX1 tyX1_ok nmX1 hown hK hP (gw_D hX) hS (mo 0) (cw_Moment (m := 0) (by decide)) rfl 6 (by decide) (va_Nw.use rfl hF.1.1.2.2.2.2.2.2.1) (fun _ h9 => h9) rfl (by decide +kernel) rfl rfl (Nat.le_of_ble_eq_true rfl) dX6_sends_103 (fun H locs hP _ hS => ?_)
          have hP := cw_st (j := 6) (x := u_23) (cce_mo X _ (m := 0) (by decide) _) hP
          obtain ⟨S_24, eS_24⟩ : ∃ z : CS, z = sti S_22 (mo 0) 6 u_23 := ⟨_, rfl⟩
          rw [← eS_24] at hP
          have h := h S_24 eS_24
          refine lv_aload_n hx hb dX6_sends_106 rfl (lv_at hl 1 rfl) ?_
          refine va_get (D := D) (ci := 6) (v := .ref (X.1 (mo 0))) (C := RX6) (T := TX6) (N := 16) hx hb hT inX6 hown hK hP 0 cw_Yard rfl 3 (by decide) (hT _ wf_X6_29) (fun _ h9 => h9) rfl dX6_sends_107 ?_
          refine va_getN (D := D) (ci := 1) (v := .int (S_24.1 (mo 0) 5)) (C := RX1) (T := TX1) (N := 8) hx hb hT inX1 hown hK hP (mo 0) (cw_Moment (m := 0) (by decide)) rfl 5 (by decide) (va_Nw.use rfl hF.1.1.2.2.2.2.2.1) (fun _ h9 => h9) rfl dX6_sends_110 ?_
          exact W.iret (v := S_24.1 (mo 0) 5) hx hb hr (fun t ht hW => ⟨⟨S_24.1 (mo 0) 5, S_24, rfl, h, gB_of ht hP⟩, hS.F ht⟩) hS.2.2 dX6_sends_113
        · have h := h.2 c_13
          refine lv_bipush (v := (-2)) hx hb dX6_sends_50 (by decide) ?_
          exact W.iret (v := (-2)) hx hb hr (fun t ht hW => ⟨⟨(-2), S_11, rfl, h, gB_of ht hP⟩, hS.F ht⟩) hS.2.2 dX6_sends_52
  · have h := h.1 c_3
    refine lv_iconst (v := (-1)) hx hb dX6_sends_8 (by decide) ?_
    exact W.iret (v := (-1)) hx hb hr (fun t ht hW => ⟨⟨(-1), S_1, rfl, h, gB_of ht hP⟩, hS.F ht⟩) hS.2.2 dX6_sends_9

abbrev rm_X6_sweeps : Room := { frames := 5, cells := 0, slots := 0, locals := 108 }
def p_X6_sweeps (S : CS)  (post : Int32 → CS → Prop) : Prop := p_X6_remember S  (fun S_1 => (p_X0_sweep S_1 (0 + 1) (fun S_3 => (p_X0_lengthOf S_3 (0 + 1) (S_3.1 (bo (0 + 1)) 1) (fun r_6 S_5 => (post r_6 S_5))))))
set_option maxHeartbeats 4000000 in
set_option maxRecDepth 100000 in
theorem c_X6_sweeps (l : Launch) (D : va_G) (X : XE) (hX : Inj 75 X.1) (sz : Nat) (S : CS)  (post : Int32 → CS → Prop) (h : p_X6_sweeps S  post) : Met l yX6_sweeps (Cond.code yX6_sweeps cX6_sweeps 1 (some .int) :: lw_gd) rm_X6_sweeps (gPc D (tyX X) (CW X) (FXc X) (AX 75 X.1 sz) sz S [.ref (X.1 0)]) (va_Qi post (gB D (CW X)) (AX 75 X.1 sz)) 0 0 (AX 75 X.1 sz) := by
  refine Met.ofW (cc := cX6_sweeps) (maxL := 1) (ret := (some .int)) (by decide) rfl ?_
  intro p e s m args below meth c s₁ B hml hv
  obtain ⟨rfl, hsz, hP, hK, hF⟩ := hv
  have hx := B.exec
  have hb := B.bytes
  have hr := B.returns
  have hts := atoms_spec (ws := (Cond.code yX6_sweeps cX6_sweeps 1 (some .int) :: lw_gd)) B.pre
  have hT : ∀ w ∈ lw_gd, w.before _ s = true := fun w h9 => hts w (List.mem_cons_of_mem _ h9)
  have hown : s.vm.findClass RX6 = some m.cls := findClass_of_methodNamed B.named
  have hlocks := B.notSynchronized
  subst hsz
  have hS : va_S (AX 75 X.1 s.heap.size) s.heap s.heap [] := va_S.rf
  have hl := lv_entry ([.ref (X.1 0)]) (n := 1) (Nat.le_of_ble_eq_true rfl)
  rw [lg_entry_eq]
  generalize (lg_sl ([.ref (X.1 0)]) ++ List.replicate (1 - (lg_sl ([.ref (X.1 0)])).length) Slot.unset).toArray = ls at hl ⊢
  have hl : lv_has ls 1 [(0, .ref (X.1 0))] := hl
  obtain ⟨H, hH⟩ : ∃ H : Heap, H = s.heap := ⟨_, rfl⟩
  obtain ⟨locs, hlc⟩ : ∃ q : List Loc, q = [] := ⟨_, rfl⟩
  have hS : va_S (AX 75 X.1 s.heap.size) s.heap H locs := by rw [hH, hlc]; exact hS
  have hP : va_P D vwCl (CW X S) H := by rw [hH]; exact hP
  show W p l e (headSpec (Cond.code yX6_sweeps cX6_sweeps 1 (some .int) :: lw_gd) rm_X6_sweeps).room s m ([.ref (X.1 0)] : List Value).toArray below meth c s.heap [] 0 0 (MQ below (va_Qi post (gB D (CW X)) (AX 75 X.1 s.heap.size)) ([.ref (X.1 0)] : List Value).toArray s 0 0 (AX 75 X.1 s.heap.size)) _
  suffices hgo : W p l e (headSpec (Cond.code yX6_sweeps cX6_sweeps 1 (some .int) :: lw_gd) rm_X6_sweeps).room s m ([.ref (X.1 0)] : List Value).toArray below meth c H locs 0 0 (MQ below (va_Qi post (gB D (CW X)) (AX 75 X.1 s.heap.size)) ([.ref (X.1 0)] : List Value).toArray s 0 0 (AX 75 X.1 s.heap.size)) (F0 m 0 ls []) from by rw [hH, hlc] at hgo; exact hgo
  unfold p_X6_sweeps at h
  refine lv_aload_n hx hb dX6_sweeps_0 rfl (lv_at hl 0 rfl) ?_
  refine cVv (As := []) (rest := []) hX ⟨hx, hb, hml, hown, hT⟩ (c_X6_remember l D X hX H.size S  _ h) (gd_V wl_X6_146 wi_X6_remember wv_X6_remember wn_X6 wc_X6_remember) rfl hd_X6_remember ⟨rfl, rfl⟩ ⟨Nat.le_of_ble_eq_true rfl, Nat.le_of_ble_eq_true rfl⟩ (va_recv hK hP (ci := 6) (q0 := 0) rfl cw_Yard) hK hP hS hF rfl hl.1 rfl (Nat.le_of_ble_eq_true rfl) dX6_sweeps_1 ⟨Nat.zero_le _, Nat.zero_le _⟩ (fun S_1 H locs h hP hS => ?_)
  refine lv_aload_n hx hb dX6_sweeps_4 rfl (lv_at hl 0 rfl) ?_
  refine va_get (D := D) (ci := 6) (v := .ref (X.1 (mo 0))) (C := RX6) (T := TX6) (N := 16) hx hb hT inX6 hown hK hP 0 cw_Yard rfl 3 (by decide) (hT _ wf_X6_29) (fun _ h9 => h9) rfl dX6_sweeps_5 ?_
  refine va_getN (D := D) (ci := 1) (v := .ref (X.1 (bo (0 + 1)))) (C := RX1) (T := TX1) (N := 8) hx hb hT inX1 hown hK hP (mo 0) (cw_Moment (m := 0) (by decide)) rfl 1 (by decide) (va_Nw.use rfl hF.1.1.2.1) (fun _ h9 => h9) rfl dX6_sweeps_8 ?_
  refine cVv (As := []) (rest := []) hX ⟨hx, hb, hml, hown, hT⟩ (c_X0_sweep l D X hX H.size S_1 (0 + 1) (by omega) _ h) (gd_V wl_X6_167 wi_X0_sweep wv_X0_sweep wn_X0 wc_X0_sweep) rfl hd_X0_sweep ⟨rfl, rfl⟩ ⟨Nat.le_of_ble_eq_true rfl, Nat.le_of_ble_eq_true rfl⟩ (va_recv hK hP (ci := 0) (q0 := (bo (0 + 1))) rfl (cw_Besom (b := (0 + 1)) (by omega))) hK hP hS hF rfl hl.1 rfl (Nat.le_of_ble_eq_true rfl) dX6_sweeps_11 ⟨Nat.zero_le _, Nat.zero_le _⟩ (fun S_3 H locs h hP hS => ?_)
  refine lv_aload_n hx hb dX6_sweeps_14 rfl (lv_at hl 0 rfl) ?_
  refine va_get (D := D) (ci := 6) (v := .ref (X.1 (mo 0))) (C := RX6) (T := TX6) (N := 16) hx hb hT inX6 hown hK hP 0 cw_Yard rfl 3 (by decide) (hT _ wf_X6_29) (fun _ h9 => h9) rfl dX6_sweeps_15 ?_
  refine va_getN (D := D) (ci := 1) (v := .ref (X.1 (bo (0 + 1)))) (C := RX1) (T := TX1) (N := 8) hx hb hT inX1 hown hK hP (mo 0) (cw_Moment (m := 0) (by decide)) rfl 1 (by decide) (va_Nw.use rfl hF.1.1.2.1) (fun _ h9 => h9) rfl dX6_sweeps_18 ?_
  refine lv_aload_n hx hb dX6_sweeps_21 rfl (lv_at hl 0 rfl) ?_
  refine va_get (D := D) (ci := 6) (v := .ref (X.1 (mo 0))) (C := RX6) (T := TX6) (N := 16) hx hb hT inX6 hown hK hP 0 cw_Yard rfl 3 (by decide) (hT _ wf_X6_29) (fun _ h9 => h9) rfl dX6_sweeps_22 ?_
  refine va_getN (D := D) (ci := 1) (v := .ref (X.1 (bo (0 + 1)))) (C := RX1) (T := TX1) (N := 8) hx hb hT inX1 hown hK hP (mo 0) (cw_Moment (m := 0) (by decide)) rfl 1 (by decide) (va_Nw.use rfl hF.1.1.2.1) (fun _ h9 => h9) rfl dX6_sweeps_25 ?_
  refine va_getN (D := D) (ci := 0) (v := .int (S_3.1 (bo (0 + 1)) 1)) (C := RX0) (T := TX0) (N := 2) hx hb hT inX0 hown hK hP (bo (0 + 1)) (cw_Besom (b := (0 + 1)) (by omega)) rfl 1 (by decide) (va_Nw.use rfl hF.1.1.1) (fun _ h9 => h9) rfl dX6_sweeps_28 ?_
  refine cVi (As := [.int (S_3.1 (bo (0 + 1)) 1)]) (rest := []) hX ⟨hx, hb, hml, hown, hT⟩ (c_X0_lengthOf l D X hX H.size S_3 (0 + 1) (by omega) (S_3.1 (bo (0 + 1)) 1) _ h) (gd_V wl_X6_118 wi_X0_lengthOf wv_X0_lengthOf wn_X0 wc_X0_lengthOf) rfl hd_X0_lengthOf ⟨rfl, rfl⟩ ⟨Nat.le_of_ble_eq_true rfl, Nat.le_of_ble_eq_true rfl⟩ (va_recv hK hP (ci := 0) (q0 := (bo (0 + 1))) rfl (cw_Besom (b := (0 + 1)) (by omega))) hK hP hS hF rfl hl.1 rfl (Nat.le_of_ble_eq_true rfl) dX6_sweeps_31 ⟨Nat.zero_le _, Nat.zero_le _⟩ (fun r_6 S_5 H locs h hP hS => ?_)
  exact W.iret (v := r_6) hx hb hr (fun t ht hW => ⟨⟨r_6, S_5, rfl, h, gB_of ht hP⟩, hS.F ht⟩) hS.2.2 dX6_sweeps_34

abbrev rm_X6_spins : Room := { frames := 5, cells := 0, slots := 0, locals := 108 }
def p_X6_spins (S : CS) (x1 : Int32) (post : Int32 → CS → Prop) : Prop := (x1 < 1 → (post (-1) S)) ∧ (¬ (x1 < 1) → ((x1 < 8 → (p_X6_remember S  (fun S_3 => (p_X0_turnBy S_3 (0 + 1) x1 (fun S_5 => (post (S_5.1 (bo (0 + 1)) 1) S_5)))))) ∧ (¬ (x1 < 8) → (post (-1) S))))
set_option maxHeartbeats 4000000 in
set_option maxRecDepth 100000 in
theorem c_X6_spins (l : Launch) (D : va_G) (X : XE) (hX : Inj 75 X.1) (sz : Nat) (S : CS) (x1 : Int32) (post : Int32 → CS → Prop) (h : p_X6_spins S x1 post) : Met l yX6_spins (Cond.code yX6_spins cX6_spins 2 (some .int) :: lw_gd) rm_X6_spins (gPc D (tyX X) (CW X) (FXc X) (AX 75 X.1 sz) sz S [.ref (X.1 0), .int x1]) (va_Qi post (gB D (CW X)) (AX 75 X.1 sz)) 0 0 (AX 75 X.1 sz) := by
  refine Met.ofW (cc := cX6_spins) (maxL := 2) (ret := (some .int)) (by decide) rfl ?_
  intro p e s m args below meth c s₁ B hml hv
  obtain ⟨rfl, hsz, hP, hK, hF⟩ := hv
  have hx := B.exec
  have hb := B.bytes
  have hr := B.returns
  have hts := atoms_spec (ws := (Cond.code yX6_spins cX6_spins 2 (some .int) :: lw_gd)) B.pre
  have hT : ∀ w ∈ lw_gd, w.before _ s = true := fun w h9 => hts w (List.mem_cons_of_mem _ h9)
  have hown : s.vm.findClass RX6 = some m.cls := findClass_of_methodNamed B.named
  have hlocks := B.notSynchronized
  subst hsz
  have hS : va_S (AX 75 X.1 s.heap.size) s.heap s.heap [] := va_S.rf
  have hl := lv_entry ([.ref (X.1 0), .int x1]) (n := 2) (Nat.le_of_ble_eq_true rfl)
  rw [lg_entry_eq]
  generalize (lg_sl ([.ref (X.1 0), .int x1]) ++ List.replicate (2 - (lg_sl ([.ref (X.1 0), .int x1])).length) Slot.unset).toArray = ls at hl ⊢
  have hl : lv_has ls 2 [(0, .ref (X.1 0)), (1, .int x1)] := hl
  obtain ⟨H, hH⟩ : ∃ H : Heap, H = s.heap := ⟨_, rfl⟩
  obtain ⟨locs, hlc⟩ : ∃ q : List Loc, q = [] := ⟨_, rfl⟩
  have hS : va_S (AX 75 X.1 s.heap.size) s.heap H locs := by rw [hH, hlc]; exact hS
  have hP : va_P D vwCl (CW X S) H := by rw [hH]; exact hP
  show W p l e (headSpec (Cond.code yX6_spins cX6_spins 2 (some .int) :: lw_gd) rm_X6_spins).room s m ([.ref (X.1 0), .int x1] : List Value).toArray below meth c s.heap [] 0 0 (MQ below (va_Qi post (gB D (CW X)) (AX 75 X.1 s.heap.size)) ([.ref (X.1 0), .int x1] : List Value).toArray s 0 0 (AX 75 X.1 s.heap.size)) _
  suffices hgo : W p l e (headSpec (Cond.code yX6_spins cX6_spins 2 (some .int) :: lw_gd) rm_X6_spins).room s m ([.ref (X.1 0), .int x1] : List Value).toArray below meth c H locs 0 0 (MQ below (va_Qi post (gB D (CW X)) (AX 75 X.1 s.heap.size)) ([.ref (X.1 0), .int x1] : List Value).toArray s 0 0 (AX 75 X.1 s.heap.size)) (F0 m 0 ls []) from by rw [hH, hlc] at hgo; exact hgo
  unfold p_X6_spins at h
  refine lv_iload_n hx hb dX6_spins_0 rfl (lv_at hl 1 rfl) ?_
  refine lv_iconst (v := 1) hx hb dX6_spins_1 (by decide) ?_
  refine lv_icmp_lt (tgt := 11) hx hb dX6_spins_2 (by decide) (fun c_1 => ?_) (fun c_1 => ?_)
  · have h := h.1 c_1
    refine lv_iconst (v := (-1)) hx hb dX6_spins_11 (by decide) ?_
    exact W.iret (v := (-1)) hx hb hr (fun t ht hW => ⟨⟨(-1), S, rfl, h, gB_of ht hP⟩, hS.F ht⟩) hS.2.2 dX6_spins_12
  · have h := h.2 c_1
    refine lv_iload_n hx hb dX6_spins_5 rfl (lv_at hl 1 rfl) ?_
    refine lv_bipush (v := 8) hx hb dX6_spins_6 (by decide) ?_
    refine lv_icmp_lt (tgt := 13) hx hb dX6_spins_8 (by decide) (fun c_2 => ?_) (fun c_2 => ?_)
    · have h := h.1 c_2
      refine lv_aload_n hx hb dX6_spins_13 rfl (lv_at hl 0 rfl) ?_
      refine cVv (As := []) (rest := []) hX ⟨hx, hb, hml, hown, hT⟩ (c_X6_remember l D X hX H.size S  _ h) (gd_V wl_X6_146 wi_X6_remember wv_X6_remember wn_X6 wc_X6_remember) rfl hd_X6_remember ⟨rfl, rfl⟩ ⟨Nat.le_of_ble_eq_true rfl, Nat.le_of_ble_eq_true rfl⟩ (va_recv hK hP (ci := 6) (q0 := 0) rfl cw_Yard) hK hP hS hF rfl hl.1 rfl (Nat.le_of_ble_eq_true rfl) dX6_spins_14 ⟨Nat.zero_le _, Nat.zero_le _⟩ (fun S_3 H locs h hP hS => ?_)
      refine lv_aload_n hx hb dX6_spins_17 rfl (lv_at hl 0 rfl) ?_
      refine va_get (D := D) (ci := 6) (v := .ref (X.1 (mo 0))) (C := RX6) (T := TX6) (N := 16) hx hb hT inX6 hown hK hP 0 cw_Yard rfl 3 (by decide) (hT _ wf_X6_29) (fun _ h9 => h9) rfl dX6_spins_18 ?_
      refine va_getN (D := D) (ci := 1) (v := .ref (X.1 (bo (0 + 1)))) (C := RX1) (T := TX1) (N := 8) hx hb hT inX1 hown hK hP (mo 0) (cw_Moment (m := 0) (by decide)) rfl 1 (by decide) (va_Nw.use rfl hF.1.1.2.1) (fun _ h9 => h9) rfl dX6_spins_21 ?_
      refine lv_iload_n hx hb dX6_spins_24 rfl (lv_at hl 1 rfl) ?_
      refine cVv (As := [.int x1]) (rest := []) hX ⟨hx, hb, hml, hown, hT⟩ (c_X0_turnBy l D X hX H.size S_3 (0 + 1) (by omega) x1 _ h) (gd_V wl_X6_170 wi_X0_turnBy wv_X0_turnBy wn_X0 wc_X0_turnBy) rfl hd_X0_turnBy ⟨rfl, rfl⟩ ⟨Nat.le_of_ble_eq_true rfl, Nat.le_of_ble_eq_true rfl⟩ (va_recv hK hP (ci := 0) (q0 := (bo (0 + 1))) rfl (cw_Besom (b := (0 + 1)) (by omega))) hK hP hS hF rfl hl.1 rfl (Nat.le_of_ble_eq_true rfl) dX6_spins_25 ⟨Nat.zero_le _, Nat.zero_le _⟩ (fun S_5 H locs h hP hS => ?_)
      refine lv_aload_n hx hb dX6_spins_28 rfl (lv_at hl 0 rfl) ?_
      refine va_get (D := D) (ci := 6) (v := .ref (X.1 (mo 0))) (C := RX6) (T := TX6) (N := 16) hx hb hT inX6 hown hK hP 0 cw_Yard rfl 3 (by decide) (hT _ wf_X6_29) (fun _ h9 => h9) rfl dX6_spins_29 ?_
      refine va_getN (D := D) (ci := 1) (v := .ref (X.1 (bo (0 + 1)))) (C := RX1) (T := TX1) (N := 8) hx hb hT inX1 hown hK hP (mo 0) (cw_Moment (m := 0) (by decide)) rfl 1 (by decide) (va_Nw.use rfl hF.1.1.2.1) (fun _ h9 => h9) rfl dX6_spins_32 ?_
      refine va_getN (D := D) (ci := 0) (v := .int (S_5.1 (bo (0 + 1)) 1)) (C := RX0) (T := TX0) (N := 2) hx hb hT inX0 hown hK hP (bo (0 + 1)) (cw_Besom (b := (0 + 1)) (by omega)) rfl 1 (by decide) (va_Nw.use rfl hF.1.1.1) (fun _ h9 => h9) rfl dX6_spins_35 ?_
      exact W.iret (v := S_5.1 (bo (0 + 1)) 1) hx hb hr (fun t ht hW => ⟨⟨S_5.1 (bo (0 + 1)) 1, S_5, rfl, h, gB_of ht hP⟩, hS.F ht⟩) hS.2.2 dX6_spins_38
    · have h := h.2 c_2
      refine lv_iconst (v := (-1)) hx hb dX6_spins_11 (by decide) ?_
      exact W.iret (v := (-1)) hx hb hr (fun t ht hW => ⟨⟨(-1), S, rfl, h, gB_of ht hP⟩, hS.F ht⟩) hS.2.2 dX6_spins_12

abbrev rm_X6_undo : Room := { frames := 4, cells := 0, slots := 0, locals := 88 }
def q_X6_undo_41  (post : Int32 → CS → Prop) (z0 : Int32) (S : CS) : Prop := ∀ S_5 : CS, S_5 = sti S 0 6 z0 → (p_X3_take S_5 0 (S_5.1 0 6) 0 (fun S_6 => (post (S_6.1 0 5) S_6)))
def p_X6_undo (S : CS)  (post : Int32 → CS → Prop) : Prop := (1 ≤ (S.1 0 5) → (∀ u_2 : Int32, u_2 = ((S.1 0 5) - 1) → (∀ S_3 : CS, S_3 = sti S 0 5 u_2 → ((1 ≤ (S_3.1 0 6) → (q_X6_undo_41 post ((S_3.1 0 6) - 1) S_3)) ∧ (¬ (1 ≤ (S_3.1 0 6)) → (q_X6_undo_41 post 9 S_3)))))) ∧ (¬ (1 ≤ (S.1 0 5)) → (post (-2) S))
set_option maxHeartbeats 4000000 in
set_option maxRecDepth 100000 in
theorem c_X6_undo (l : Launch) (D : va_G) (X : XE) (hX : Inj 75 X.1) (sz : Nat) (S : CS)  (post : Int32 → CS → Prop) (h : p_X6_undo S  post) : Met l yX6_undo (Cond.code yX6_undo cX6_undo 1 (some .int) :: lw_gd) rm_X6_undo (gPc D (tyX X) (CW X) (FXc X) (AX 75 X.1 sz) sz S [.ref (X.1 0)]) (va_Qi post (gB D (CW X)) (AX 75 X.1 sz)) 0 0 (AX 75 X.1 sz) := by
  refine Met.ofW (cc := cX6_undo) (maxL := 1) (ret := (some .int)) (by decide) rfl ?_
  intro p e s m args below meth c s₁ B hml hv
  obtain ⟨rfl, hsz, hP, hK, hF⟩ := hv
  have hx := B.exec
  have hb := B.bytes
  have hr := B.returns
  have hts := atoms_spec (ws := (Cond.code yX6_undo cX6_undo 1 (some .int) :: lw_gd)) B.pre
  have hT : ∀ w ∈ lw_gd, w.before _ s = true := fun w h9 => hts w (List.mem_cons_of_mem _ h9)
  have hown : s.vm.findClass RX6 = some m.cls := findClass_of_methodNamed B.named
  have hlocks := B.notSynchronized
  subst hsz
  have hS : va_S (AX 75 X.1 s.heap.size) s.heap s.heap [] := va_S.rf
  have W41 : ∀ (z0 : Int32) (S : CS) (H : Heap) (locs : List Loc) (ls : Array Slot), va_P D vwCl (CW X S) H → va_S (AX 75 X.1 s.heap.size) s.heap H locs → lv_has ls 1 [(0, .ref (X.1 0))] → q_X6_undo_41 post z0 S → W p l e (headSpec (Cond.code yX6_undo cX6_undo 1 (some .int) :: lw_gd) rm_X6_undo).room s m ([.ref (X.1 0)] : List Value).toArray below meth c H locs 0 0 (MQ below (va_Qi post (gB D (CW X)) (AX 75 X.1 s.heap.size)) ([.ref (X.1 0)] : List Value).toArray s 0 0 (AX 75 X.1 s.heap.size)) (F0 m 41 ls [.int z0, .ref (X.1 0)]) := by
    intro z0 S H locs ls hP hS hl h
    unfold q_X6_undo_41 at h
    refine va_put (D := D) (ci := 6) (v := .int z0) (ty := .int) (C := RX6) (T := TX6) (N := 16) hx hb hT inX6 tyX6 tyX6_ok nmX6 hown hK hP (gw_D hX) hS 0 cw_Yard rfl 6 (by decide) (hT _ wf_X6_173) (fun _ h9 => h9) rfl (by decide +kernel) rfl rfl (Nat.le_of_ble_eq_true rfl) dX6_undo_41 (fun H locs hP _ hS => ?_)
    have hP := cw_st (j := 6) (x := z0) rfl hP
    obtain ⟨S_5, eS_5⟩ : ∃ z : CS, z = sti S 0 6 z0 := ⟨_, rfl⟩
    rw [← eS_5] at hP
    have h := h S_5 eS_5
    refine lv_aload_n hx hb dX6_undo_44 rfl (lv_at hl 0 rfl) ?_
    refine va_get (D := D) (ci := 6) (v := .ref (X.1 (ho 0))) (C := RX6) (T := TX6) (N := 16) hx hb hT inX6 hown hK hP 0 cw_Yard rfl 4 (by decide) (hT _ wf_X6_38) (fun _ h9 => h9) rfl dX6_undo_45 ?_
    refine lv_aload_n hx hb dX6_undo_48 rfl (lv_at hl 0 rfl) ?_
    refine va_get (D := D) (ci := 6) (v := .int (S_5.1 0 6)) (C := RX6) (T := TX6) (N := 16) hx hb hT inX6 hown hK hP 0 cw_Yard rfl 6 (by decide) (hT _ wf_X6_173) (fun _ h9 => h9) rfl dX6_undo_49 ?_
    refine lv_aload_n hx hb dX6_undo_52 rfl (lv_at hl 0 rfl) ?_
    refine va_get (D := D) (ci := 6) (v := .ref (X.1 (mo 0))) (C := RX6) (T := TX6) (N := 16) hx hb hT inX6 hown hK hP 0 cw_Yard rfl 3 (by decide) (hT _ wf_X6_29) (fun _ h9 => h9) rfl dX6_undo_53 ?_
    refine cVv (As := [.int (S_5.1 0 6), .ref (X.1 (mo 0))]) (rest := []) hX ⟨hx, hb, hml, hown, hT⟩ (c_X3_take l D X hX H.size S_5 0 (by decide) (S_5.1 0 6) 0 (by decide) _ h) (gd_V wl_X6_176 wi_X3_take wv_X3_take wn_X3 wc_X3_take) rfl hd_X3_take ⟨rfl, rfl⟩ ⟨Nat.le_of_ble_eq_true rfl, Nat.le_of_ble_eq_true rfl⟩ (va_recv hK hP (ci := 3) (q0 := (ho 0)) rfl (cw_Shelf (h := 0) (by decide))) hK hP hS hF rfl hl.1 rfl (Nat.le_of_ble_eq_true rfl) dX6_undo_56 ⟨Nat.zero_le _, Nat.zero_le _⟩ (fun S_6 H locs h hP hS => ?_)
    refine lv_aload_n hx hb dX6_undo_59 rfl (lv_at hl 0 rfl) ?_
    refine va_get (D := D) (ci := 6) (v := .int (S_6.1 0 5)) (C := RX6) (T := TX6) (N := 16) hx hb hT inX6 hown hK hP 0 cw_Yard rfl 5 (by decide) (hT _ wf_X6_143) (fun _ h9 => h9) rfl dX6_undo_60 ?_
    exact W.iret (v := S_6.1 0 5) hx hb hr (fun t ht hW => ⟨⟨S_6.1 0 5, S_6, rfl, h, gB_of ht hP⟩, hS.F ht⟩) hS.2.2 dX6_undo_63
  have hl := lv_entry ([.ref (X.1 0)]) (n := 1) (Nat.le_of_ble_eq_true rfl)
  rw [lg_entry_eq]
  generalize (lg_sl ([.ref (X.1 0)]) ++ List.replicate (1 - (lg_sl ([.ref (X.1 0)])).length) Slot.unset).toArray = ls at hl ⊢
  have hl : lv_has ls 1 [(0, .ref (X.1 0))] := hl
  obtain ⟨H, hH⟩ : ∃ H : Heap, H = s.heap := ⟨_, rfl⟩
  obtain ⟨locs, hlc⟩ : ∃ q : List Loc, q = [] := ⟨_, rfl⟩
  have hS : va_S (AX 75 X.1 s.heap.size) s.heap H locs := by rw [hH, hlc]; exact hS
  have hP : va_P D vwCl (CW X S) H := by rw [hH]; exact hP
  show W p l e (headSpec (Cond.code yX6_undo cX6_undo 1 (some .int) :: lw_gd) rm_X6_undo).room s m ([.ref (X.1 0)] : List Value).toArray below meth c s.heap [] 0 0 (MQ below (va_Qi post (gB D (CW X)) (AX 75 X.1 s.heap.size)) ([.ref (X.1 0)] : List Value).toArray s 0 0 (AX 75 X.1 s.heap.size)) _
  suffices hgo : W p l e (headSpec (Cond.code yX6_undo cX6_undo 1 (some .int) :: lw_gd) rm_X6_undo).room s m ([.ref (X.1 0)] : List Value).toArray below meth c H locs 0 0 (MQ below (va_Qi post (gB D (CW X)) (AX 75 X.1 s.heap.size)) ([.ref (X.1 0)] : List Value).toArray s 0 0 (AX 75 X.1 s.heap.size)) (F0 m 0 ls []) from by rw [hH, hlc] at hgo; exact hgo
  unfold p_X6_undo at h
  refine lv_aload_n hx hb dX6_undo_0 rfl (lv_at hl 0 rfl) ?_
  refine va_get (D := D) (ci := 6) (v := .int (S.1 0 5)) (C := RX6) (T := TX6) (N := 16) hx hb hT inX6 hown hK hP 0 cw_Yard rfl 5 (by decide) (hT _ wf_X6_143) (fun _ h9 => h9) rfl dX6_undo_1 ?_
  refine lv_iconst (v := 1) hx hb dX6_undo_4 (by decide) ?_
  refine lv_icmp_ge (tgt := 11) hx hb dX6_undo_5 (by decide) (fun c_1 => ?_) (fun c_1 => ?_)
  · have h := h.1 c_1
    refine lv_aload_n hx hb dX6_undo_11 rfl (lv_at hl 0 rfl) ?_
    refine lv_dup hx hb dX6_undo_12 rfl ?_
    refine va_get (D := D) (ci := 6) (v := .int (S.1 0 5)) (C := RX6) (T := TX6) (N := 16) hx hb hT inX6 hown hK hP 0 cw_Yard rfl 5 (by decide) (hT _ wf_X6_143) (fun _ h9 => h9) rfl dX6_undo_13 ?_
    refine lv_iconst (v := 1) hx hb dX6_undo_16 (by decide) ?_
    refine lv_isub hx hb dX6_undo_17 ?_
    refine lv_topi (fun u_2 eu_2 => ?_)
    have h := h u_2 eu_2
    refine va_put (D := D) (ci := 6) (v := .int u_2) (ty := .int) (C := RX6) (T := TX6) (N := 16) hx hb hT inX6 tyX6 tyX6_ok nmX6 hown hK hP (gw_D hX) hS 0 cw_Yard rfl 5 (by decide) (hT _ wf_X6_143) (fun _ h9 => h9) rfl (by decide +kernel) rfl rfl (Nat.le_of_ble_eq_true rfl) dX6_undo_18 (fun H locs hP _ hS => ?_)
    have hP := cw_st (j := 5) (x := u_2) rfl hP
    obtain ⟨S_3, eS_3⟩ : ∃ z : CS, z = sti S 0 5 u_2 := ⟨_, rfl⟩
    rw [← eS_3] at hP
    have h := h S_3 eS_3
    refine lv_aload_n hx hb dX6_undo_21 rfl (lv_at hl 0 rfl) ?_
    refine lv_aload_n hx hb dX6_undo_22 rfl (lv_at hl 0 rfl) ?_
    refine va_get (D := D) (ci := 6) (v := .int (S_3.1 0 6)) (C := RX6) (T := TX6) (N := 16) hx hb hT inX6 hown hK hP 0 cw_Yard rfl 6 (by decide) (hT _ wf_X6_173) (fun _ h9 => h9) rfl dX6_undo_23 ?_
    refine lv_iconst (v := 1) hx hb dX6_undo_26 (by decide) ?_
    refine lv_icmp_ge (tgt := 35) hx hb dX6_undo_27 (by decide) (fun c_4 => ?_) (fun c_4 => ?_)
    · have h := h.1 c_4
      refine lv_aload_n hx hb dX6_undo_35 rfl (lv_at hl 0 rfl) ?_
      refine va_get (D := D) (ci := 6) (v := .int (S_3.1 0 6)) (C := RX6) (T := TX6) (N := 16) hx hb hT inX6 hown hK hP 0 cw_Yard rfl 6 (by decide) (hT _ wf_X6_173) (fun _ h9 => h9) rfl dX6_undo_36 ?_
      refine lv_iconst (v := 1) hx hb dX6_undo_39 (by decide) ?_
      refine lv_isub hx hb dX6_undo_40 ?_
      exact W41  ((S_3.1 0 6) - 1) S_3 H locs ls hP hS hl h
    · have h := h.2 c_4
      refine lv_bipush (v := 9) hx hb dX6_undo_30 (by decide) ?_
      refine lv_goto (tgt := 41) hx hb dX6_undo_32 (by decide) ?_
      exact W41  9 S_3 H locs ls hP hS hl h
  · have h := h.2 c_1
    refine lv_bipush (v := (-2)) hx hb dX6_undo_8 (by decide) ?_
    exact W.iret (v := (-2)) hx hb hr (fun t ht hW => ⟨⟨(-2), S, rfl, h, gB_of ht hP⟩, hS.F ht⟩) hS.2.2 dX6_undo_10

abbrev rm_X6_inYears : Room := { frames := 3, cells := 0, slots := 0, locals := 63 }
def p_X6_inYears (S : CS) (x1 : Int32) (x2 : Int32) (post : Int32 → CS → Prop) : Prop := p_X6_isPart S x1 (fun r_2 S_1 => ((r_2 = 0 → (post (-1) S_1)) ∧ (¬ (r_2 = 0) → ((x2 < 0 → (post (-1) S_1)) ∧ (¬ (x2 < 0) → ((x2 ≤ 30 → ((S_1.2.1 < 2) ∧ (p_X5_value S_1 S_1.2.1 0 x1 (fun r_8 S_7 => (p_X1_age S_7 0 x1 (fun r_10 S_9 => ((S_9.2.1 < 2) ∧ (p_X5_ripe S_9 S_9.2.1 (fun r_13 S_12 => (p_X6_gift S_12 r_8 (r_10 + x2) r_13 (fun r_15 S_14 => (post r_15 S_14)))))))))))) ∧ (¬ (x2 ≤ 30) → (post (-1) S_1))))))))
set_option maxHeartbeats 4000000 in
set_option maxRecDepth 100000 in
theorem c_X6_inYears (l : Launch) (D : va_G) (X : XE) (hX : Inj 75 X.1) (sz : Nat) (S : CS) (x1 : Int32) (x2 : Int32) (post : Int32 → CS → Prop) (h : p_X6_inYears S x1 x2 post) : Met l yX6_inYears (Cond.code yX6_inYears cX6_inYears 3 (some .int) :: lw_gd) rm_X6_inYears (gPc D (tyX X) (CW X) (FXc X) (AX 75 X.1 sz) sz S [.ref (X.1 0), .int x1, .int x2]) (va_Qi post (gB D (CW X)) (AX 75 X.1 sz)) 0 0 (AX 75 X.1 sz) := by
  refine Met.ofW (cc := cX6_inYears) (maxL := 3) (ret := (some .int)) (by decide) rfl ?_
  intro p e s m args below meth c s₁ B hml hv
  obtain ⟨rfl, hsz, hP, hK, hF⟩ := hv
  have hx := B.exec
  have hb := B.bytes
  have hr := B.returns
  have hts := atoms_spec (ws := (Cond.code yX6_inYears cX6_inYears 3 (some .int) :: lw_gd)) B.pre
  have hT : ∀ w ∈ lw_gd, w.before _ s = true := fun w h9 => hts w (List.mem_cons_of_mem _ h9)
  have hown : s.vm.findClass RX6 = some m.cls := findClass_of_methodNamed B.named
  have hlocks := B.notSynchronized
  subst hsz
  have hS : va_S (AX 75 X.1 s.heap.size) s.heap s.heap [] := va_S.rf
  have hl := lv_entry ([.ref (X.1 0), .int x1, .int x2]) (n := 3) (Nat.le_of_ble_eq_true rfl)
  rw [lg_entry_eq]
  generalize (lg_sl ([.ref (X.1 0), .int x1, .int x2]) ++ List.replicate (3 - (lg_sl ([.ref (X.1 0), .int x1, .int x2])).length) Slot.unset).toArray = ls at hl ⊢
  have hl : lv_has ls 3 [(0, .ref (X.1 0)), (1, .int x1), (2, .int x2)] := hl
  obtain ⟨H, hH⟩ : ∃ H : Heap, H = s.heap := ⟨_, rfl⟩
  obtain ⟨locs, hlc⟩ : ∃ q : List Loc, q = [] := ⟨_, rfl⟩
  have hS : va_S (AX 75 X.1 s.heap.size) s.heap H locs := by rw [hH, hlc]; exact hS
  have hP : va_P D vwCl (CW X S) H := by rw [hH]; exact hP
  show W p l e (headSpec (Cond.code yX6_inYears cX6_inYears 3 (some .int) :: lw_gd) rm_X6_inYears).room s m ([.ref (X.1 0), .int x1, .int x2] : List Value).toArray below meth c s.heap [] 0 0 (MQ below (va_Qi post (gB D (CW X)) (AX 75 X.1 s.heap.size)) ([.ref (X.1 0), .int x1, .int x2] : List Value).toArray s 0 0 (AX 75 X.1 s.heap.size)) _
  suffices hgo : W p l e (headSpec (Cond.code yX6_inYears cX6_inYears 3 (some .int) :: lw_gd) rm_X6_inYears).room s m ([.ref (X.1 0), .int x1, .int x2] : List Value).toArray below meth c H locs 0 0 (MQ below (va_Qi post (gB D (CW X)) (AX 75 X.1 s.heap.size)) ([.ref (X.1 0), .int x1, .int x2] : List Value).toArray s 0 0 (AX 75 X.1 s.heap.size)) (F0 m 0 ls []) from by rw [hH, hlc] at hgo; exact hgo
  unfold p_X6_inYears at h
  refine lv_aload_n hx hb dX6_inYears_0 rfl (lv_at hl 0 rfl) ?_
  refine lv_iload_n hx hb dX6_inYears_1 rfl (lv_at hl 1 rfl) ?_
  refine cVi (As := [.int x1]) (rest := []) hX ⟨hx, hb, hml, hown, hT⟩ (c_X6_isPart l D X hX H.size S x1 _ h) (gd_V wl_X6_91 wi_X6_isPart wv_X6_isPart wn_X6 wc_X6_isPart) rfl hd_X6_isPart ⟨rfl, rfl⟩ ⟨Nat.le_of_ble_eq_true rfl, Nat.le_of_ble_eq_true rfl⟩ (va_recv hK hP (ci := 6) (q0 := 0) rfl cw_Yard) hK hP hS hF rfl hl.1 rfl (Nat.le_of_ble_eq_true rfl) dX6_inYears_2 ⟨Nat.zero_le _, Nat.zero_le _⟩ (fun r_2 S_1 H locs h hP hS => ?_)
  refine lv_if_eq (tgt := 18) hx hb dX6_inYears_5 (by decide) (fun c_3 => ?_) (fun c_3 => ?_)
  · have h := h.1 c_3
    refine lv_iconst (v := (-1)) hx hb dX6_inYears_18 (by decide) ?_
    exact W.iret (v := (-1)) hx hb hr (fun t ht hW => ⟨⟨(-1), S_1, rfl, h, gB_of ht hP⟩, hS.F ht⟩) hS.2.2 dX6_inYears_19
  · have h := h.2 c_3
    refine lv_iload_n hx hb dX6_inYears_8 rfl (lv_at hl 2 rfl) ?_
    refine lv_if_lt (tgt := 18) hx hb dX6_inYears_9 (by decide) (fun c_4 => ?_) (fun c_4 => ?_)
    · have h := h.1 c_4
      refine lv_iconst (v := (-1)) hx hb dX6_inYears_18 (by decide) ?_
      exact W.iret (v := (-1)) hx hb hr (fun t ht hW => ⟨⟨(-1), S_1, rfl, h, gB_of ht hP⟩, hS.F ht⟩) hS.2.2 dX6_inYears_19
    · have h := h.2 c_4
      refine lv_iload_n hx hb dX6_inYears_12 rfl (lv_at hl 2 rfl) ?_
      refine lv_bipush (v := 30) hx hb dX6_inYears_13 (by decide) ?_
      refine lv_icmp_le (tgt := 20) hx hb dX6_inYears_15 (by decide) (fun c_5 => ?_) (fun c_5 => ?_)
      · have h := h.1 c_5
        refine lv_aload_n hx hb dX6_inYears_20 rfl (lv_at hl 0 rfl) ?_
        obtain ⟨ht_6, h⟩ := h
        refine va_get (D := D) (ci := 6) (v := .ref (X.1 (to S_1.2.1))) (C := RX6) (T := TX6) (N := 16) hx hb hT inX6 hown hK hP 0 cw_Yard rfl 1 (by decide) (hT _ wf_X6_19) (fun _ h9 => h9) rfl dX6_inYears_21 ?_
        refine lv_iconst (v := 0) hx hb dX6_inYears_24 (by decide) ?_
        refine lv_iload_n hx hb dX6_inYears_25 rfl (lv_at hl 1 rfl) ?_
        refine cVi (As := [.int 0, .int x1]) (rest := []) hX ⟨hx, hb, hml, hown, hT⟩ (c_X5_value l D X hX H.size S_1 S_1.2.1 (by omega) 0 x1 _ h) (gd_V wl_X6_95 wi_X5_value wv_X5_value wn_X5 wc_X5_value) rfl hd_X5_value ⟨rfl, rfl⟩ ⟨Nat.le_of_ble_eq_true rfl, Nat.le_of_ble_eq_true rfl⟩ (va_recv hK hP (ci := 5) (q0 := (to S_1.2.1)) rfl (cw_Told (t := S_1.2.1) (by omega))) hK hP hS hF rfl hl.1 rfl (Nat.le_of_ble_eq_true rfl) dX6_inYears_26 ⟨Nat.zero_le _, Nat.zero_le _⟩ (fun r_8 S_7 H locs h hP hS => ?_)
        refine lv_aload_n hx hb dX6_inYears_29 rfl (lv_at hl 0 rfl) ?_
        refine va_get (D := D) (ci := 6) (v := .ref (X.1 (mo 0))) (C := RX6) (T := TX6) (N := 16) hx hb hT inX6 hown hK hP 0 cw_Yard rfl 3 (by decide) (hT _ wf_X6_29) (fun _ h9 => h9) rfl dX6_inYears_30 ?_
        refine lv_iload_n hx hb dX6_inYears_33 rfl (lv_at hl 1 rfl) ?_
        refine cVi (As := [.int x1]) (rest := [.int r_8]) hX ⟨hx, hb, hml, hown, hT⟩ (c_X1_age l D X hX H.size S_7 0 (by decide) x1 _ h) (gd_V wl_X6_99 wi_X1_age wv_X1_age wn_X1 wc_X1_age) rfl hd_X1_age ⟨rfl, rfl⟩ ⟨Nat.le_of_ble_eq_true rfl, Nat.le_of_ble_eq_true rfl⟩ (va_recv hK hP (ci := 1) (q0 := (mo 0)) rfl (cw_Moment (m := 0) (by decide))) hK hP hS hF rfl hl.1 rfl (Nat.le_of_ble_eq_true rfl) dX6_inYears_34 ⟨Nat.zero_le _, Nat.zero_le _⟩ (fun r_10 S_9 H locs h hP hS => ?_)
        refine lv_iload_n hx hb dX6_inYears_37 rfl (lv_at hl 2 rfl) ?_
        refine lv_iadd hx hb dX6_inYears_38 ?_
        refine lv_aload_n hx hb dX6_inYears_39 rfl (lv_at hl 0 rfl) ?_
        obtain ⟨ht_11, h⟩ := h
        refine va_get (D := D) (ci := 6) (v := .ref (X.1 (to S_9.2.1))) (C := RX6) (T := TX6) (N := 16) hx hb hT inX6 hown hK hP 0 cw_Yard rfl 1 (by decide) (hT _ wf_X6_19) (fun _ h9 => h9) rfl dX6_inYears_40 ?_
        refine cVi (As := []) (rest := [.int (r_10 + x2), .int r_8]) hX ⟨hx, hb, hml, hown, hT⟩ (c_X5_ripe l D X hX H.size S_9 S_9.2.1 (by omega) _ h) (gd_V wl_X6_180 wi_X5_ripe wv_X5_ripe wn_X5 wc_X5_ripe) rfl hd_X5_ripe ⟨rfl, rfl⟩ ⟨Nat.le_of_ble_eq_true rfl, Nat.le_of_ble_eq_true rfl⟩ (va_recv hK hP (ci := 5) (q0 := (to S_9.2.1)) rfl (cw_Told (t := S_9.2.1) (by omega))) hK hP hS hF rfl hl.1 rfl (Nat.le_of_ble_eq_true rfl) dX6_inYears_43 ⟨Nat.zero_le _, Nat.zero_le _⟩ (fun r_13 S_12 H locs h hP hS => ?_)
        refine cSi (As := [.int r_8, .int (r_10 + x2), .int r_13]) (rest := []) hX ⟨hx, hb, hml, hown, hT⟩ (c_X6_gift l D X hX H.size S_12 r_8 (r_10 + x2) r_13 _ h) (gd_S wl_X6_183 wt_X6_gift wn_X6 wc_X6_gift) hd_X6_gift ⟨rfl, rfl⟩ ⟨Nat.le_of_ble_eq_true rfl, Nat.le_of_ble_eq_true rfl⟩ hK hP hS hF rfl hl.1 rfl (Nat.le_of_ble_eq_true rfl) dX6_inYears_46 ⟨Nat.zero_le _, Nat.zero_le _⟩ (fun r_15 S_14 H locs h hP hS => ?_)
        exact W.iret (v := r_15) hx hb hr (fun t ht hW => ⟨⟨r_15, S_14, rfl, h, gB_of ht hP⟩, hS.F ht⟩) hS.2.2 dX6_inYears_49
      · have h := h.2 c_5
        refine lv_iconst (v := (-1)) hx hb dX6_inYears_18 (by decide) ?_
        exact W.iret (v := (-1)) hx hb hr (fun t ht hW => ⟨⟨(-1), S_1, rfl, h, gB_of ht hP⟩, hS.F ht⟩) hS.2.2 dX6_inYears_19

abbrev rm_X6_bestTurn : Room := { frames := 3, cells := 0, slots := 0, locals := 63 }
def q_X6_bestTurn_17  (post : Int32 → CS → Prop) : Nat → Int32 → Int32 → Int32 → CS → Prop
  | 0, _, _, _, _ => False
  | n9 + 1, y1, y2, y3, S => (30 < y3 → (post y1 S)) ∧ (¬ (30 < y3) → ((S.2.1 < 2) ∧ (p_X5_ripe S S.2.1 (fun r_9 S_8 => (p_X6_gift S_8 1 y3 r_9 (fun r_11 S_10 => (((r_11 * y1) ≤ (y2 * y3) → (∀ x3_13 : Int32, x3_13 = y3 + 1 → (q_X6_bestTurn_17 post n9 y1 y2 x3_13 S_10))) ∧ (¬ ((r_11 * y1) ≤ (y2 * y3)) → (∀ x3_14 : Int32, x3_14 = y3 + 1 → (q_X6_bestTurn_17 post n9 y3 r_11 x3_14 S_10))))))))))
def p_X6_bestTurn (S : CS)  (post : Int32 → CS → Prop) : Prop := (S.2.1 < 2) ∧ (p_X5_ripe S S.2.1 (fun r_3 S_2 => (p_X6_gift S_2 1 1 r_3 (fun r_5 S_4 => (∃ n, q_X6_bestTurn_17 post n 1 r_5 2 S_4)))))
set_option maxHeartbeats 4000000 in
set_option maxRecDepth 100000 in
theorem c_X6_bestTurn (l : Launch) (D : va_G) (X : XE) (hX : Inj 75 X.1) (sz : Nat) (S : CS)  (post : Int32 → CS → Prop) (h : p_X6_bestTurn S  post) : Met l yX6_bestTurn (Cond.code yX6_bestTurn cX6_bestTurn 5 (some .int) :: lw_gd) rm_X6_bestTurn (gPc D (tyX X) (CW X) (FXc X) (AX 75 X.1 sz) sz S [.ref (X.1 0)]) (va_Qi post (gB D (CW X)) (AX 75 X.1 sz)) 0 0 (AX 75 X.1 sz) := by
  refine Met.ofW (cc := cX6_bestTurn) (maxL := 5) (ret := (some .int)) (by decide) rfl ?_
  intro p e s m args below meth c s₁ B hml hv
  obtain ⟨rfl, hsz, hP, hK, hF⟩ := hv
  have hx := B.exec
  have hb := B.bytes
  have hr := B.returns
  have hts := atoms_spec (ws := (Cond.code yX6_bestTurn cX6_bestTurn 5 (some .int) :: lw_gd)) B.pre
  have hT : ∀ w ∈ lw_gd, w.before _ s = true := fun w h9 => hts w (List.mem_cons_of_mem _ h9)
  have hown : s.vm.findClass RX6 = some m.cls := findClass_of_methodNamed B.named
  have hlocks := B.notSynchronized
  subst hsz
  have hS : va_S (AX 75 X.1 s.heap.size) s.heap s.heap [] := va_S.rf
  have W17 : ∀ n1 : Nat, ∀ (y1 : Int32) (y2 : Int32) (y3 : Int32) (S : CS) (H : Heap) (locs : List Loc) (ls : Array Slot), va_P D vwCl (CW X S) H → va_S (AX 75 X.1 s.heap.size) s.heap H locs → lv_has ls 5 [(0, .ref (X.1 0)), (1, .int y1), (2, .int y2), (3, .int y3)] → q_X6_bestTurn_17 post n1 y1 y2 y3 S → W p l e (headSpec (Cond.code yX6_bestTurn cX6_bestTurn 5 (some .int) :: lw_gd) rm_X6_bestTurn).room s m ([.ref (X.1 0)] : List Value).toArray below meth c H locs 0 0 (MQ below (va_Qi post (gB D (CW X)) (AX 75 X.1 s.heap.size)) ([.ref (X.1 0)] : List Value).toArray s 0 0 (AX 75 X.1 s.heap.size)) (F0 m 17 ls []) := by
    intro n1
    induction n1 with
    | zero => intro y1 y2 y3 S H locs ls hP hS hl h; exact h.elim
    | succ n9 ih =>
      intro y1 y2 y3 S H locs ls hP hS hl h
      rw [q_X6_bestTurn_17] at h
      refine lv_iload_n hx hb dX6_bestTurn_17 rfl (lv_at hl 3 rfl) ?_
      refine lv_bipush (v := 30) hx hb dX6_bestTurn_18 (by decide) ?_
      refine lv_icmp_gt (tgt := 58) hx hb dX6_bestTurn_20 (by decide) (fun c_6 => ?_) (fun c_6 => ?_)
      · have h := h.1 c_6
        refine lv_iload_n hx hb dX6_bestTurn_58 rfl (lv_at hl 1 rfl) ?_
        exact W.iret (v := y1) hx hb hr (fun t ht hW => ⟨⟨y1, S, rfl, h, gB_of ht hP⟩, hS.F ht⟩) hS.2.2 dX6_bestTurn_59
      · have h := h.2 c_6
        refine lv_iconst (v := 1) hx hb dX6_bestTurn_23 (by decide) ?_
        refine lv_iload_n hx hb dX6_bestTurn_24 rfl (lv_at hl 3 rfl) ?_
        refine lv_aload_n hx hb dX6_bestTurn_25 rfl (lv_at hl 0 rfl) ?_
        obtain ⟨ht_7, h⟩ := h
        refine va_get (D := D) (ci := 6) (v := .ref (X.1 (to S.2.1))) (C := RX6) (T := TX6) (N := 16) hx hb hT inX6 hown hK hP 0 cw_Yard rfl 1 (by decide) (hT _ wf_X6_19) (fun _ h9 => h9) rfl dX6_bestTurn_26 ?_
        refine cVi (As := []) (rest := [.int y3, .int 1]) hX ⟨hx, hb, hml, hown, hT⟩ (c_X5_ripe l D X hX H.size S S.2.1 (by omega) _ h) (gd_V wl_X6_180 wi_X5_ripe wv_X5_ripe wn_X5 wc_X5_ripe) rfl hd_X5_ripe ⟨rfl, rfl⟩ ⟨Nat.le_of_ble_eq_true rfl, Nat.le_of_ble_eq_true rfl⟩ (va_recv hK hP (ci := 5) (q0 := (to S.2.1)) rfl (cw_Told (t := S.2.1) (by omega))) hK hP hS hF rfl hl.1 rfl (Nat.le_of_ble_eq_true rfl) dX6_bestTurn_29 ⟨Nat.zero_le _, Nat.zero_le _⟩ (fun r_9 S_8 H locs h hP hS => ?_)
        refine cSi (As := [.int 1, .int y3, .int r_9]) (rest := []) hX ⟨hx, hb, hml, hown, hT⟩ (c_X6_gift l D X hX H.size S_8 1 y3 r_9 _ h) (gd_S wl_X6_183 wt_X6_gift wn_X6 wc_X6_gift) hd_X6_gift ⟨rfl, rfl⟩ ⟨Nat.le_of_ble_eq_true rfl, Nat.le_of_ble_eq_true rfl⟩ hK hP hS hF rfl hl.1 rfl (Nat.le_of_ble_eq_true rfl) dX6_bestTurn_32 ⟨Nat.zero_le _, Nat.zero_le _⟩ (fun r_11 S_10 H locs h hP hS => ?_)
        refine lv_istore (lv' := [(4, .int r_11), (0, .ref (X.1 0)), (1, .int y1), (2, .int y2), (3, .int y3)]) hx hb dX6_bestTurn_35 hl (by decide) rfl (fun ls hl => ?_)
        refine lv_iload hx hb dX6_bestTurn_37 (lv_at hl 0 rfl) ?_
        refine lv_iload_n hx hb dX6_bestTurn_39 rfl (lv_at hl 2 rfl) ?_
        refine lv_imul hx hb dX6_bestTurn_40 ?_
        refine lv_iload_n hx hb dX6_bestTurn_41 rfl (lv_at hl 3 rfl) ?_
        refine lv_iload_n hx hb dX6_bestTurn_42 rfl (lv_at hl 4 rfl) ?_
        refine lv_imul hx hb dX6_bestTurn_43 ?_
        refine lv_icmp_le (tgt := 52) hx hb dX6_bestTurn_44 (by decide) (fun c_12 => ?_) (fun c_12 => ?_)
        · have h := h.1 c_12
          obtain ⟨x3_13, ex3_13⟩ : ∃ z : Int32, z = y3 + 1 := ⟨_, rfl⟩
          refine lv_iinc (v := x3_13) (lv' := [(3, .int x3_13), (4, .int r_11), (0, .ref (X.1 0)), (1, .int y1), (2, .int y2)]) hx hb dX6_bestTurn_52 hl (k := 4) rfl (by rw [ex3_13]; rfl) (by decide) rfl (fun ls hl => ?_)
          have h := h x3_13 ex3_13
          refine lv_goto (tgt := 17) hx hb dX6_bestTurn_55 (by decide) ?_
          exact ih y1 y2 x3_13 S_10 H locs ls hP hS (lv_sub hl [2, 3, 4, 0] rfl) h
        · have h := h.2 c_12
          refine lv_iload_n hx hb dX6_bestTurn_47 rfl (lv_at hl 4 rfl) ?_
          refine lv_istore_n (lv' := [(1, .int y3), (4, .int r_11), (0, .ref (X.1 0)), (2, .int y2), (3, .int y3)]) hx hb dX6_bestTurn_48 rfl hl (by decide) rfl (fun ls hl => ?_)
          refine lv_iload hx hb dX6_bestTurn_49 (lv_at hl 1 rfl) ?_
          refine lv_istore_n (lv' := [(2, .int r_11), (1, .int y3), (4, .int r_11), (0, .ref (X.1 0)), (3, .int y3)]) hx hb dX6_bestTurn_51 rfl hl (by decide) rfl (fun ls hl => ?_)
          obtain ⟨x3_14, ex3_14⟩ : ∃ z : Int32, z = y3 + 1 := ⟨_, rfl⟩
          refine lv_iinc (v := x3_14) (lv' := [(3, .int x3_14), (2, .int r_11), (1, .int y3), (4, .int r_11), (0, .ref (X.1 0))]) hx hb dX6_bestTurn_52 hl (k := 4) rfl (by rw [ex3_14]; rfl) (by decide) rfl (fun ls hl => ?_)
          have h := h x3_14 ex3_14
          refine lv_goto (tgt := 17) hx hb dX6_bestTurn_55 (by decide) ?_
          exact ih y3 r_11 x3_14 S_10 H locs ls hP hS (lv_sub hl [4, 2, 1, 0] rfl) h
  have hl := lv_entry ([.ref (X.1 0)]) (n := 5) (Nat.le_of_ble_eq_true rfl)
  rw [lg_entry_eq]
  generalize (lg_sl ([.ref (X.1 0)]) ++ List.replicate (5 - (lg_sl ([.ref (X.1 0)])).length) Slot.unset).toArray = ls at hl ⊢
  have hl : lv_has ls 5 [(0, .ref (X.1 0))] := hl
  obtain ⟨H, hH⟩ : ∃ H : Heap, H = s.heap := ⟨_, rfl⟩
  obtain ⟨locs, hlc⟩ : ∃ q : List Loc, q = [] := ⟨_, rfl⟩
  have hS : va_S (AX 75 X.1 s.heap.size) s.heap H locs := by rw [hH, hlc]; exact hS
  have hP : va_P D vwCl (CW X S) H := by rw [hH]; exact hP
  show W p l e (headSpec (Cond.code yX6_bestTurn cX6_bestTurn 5 (some .int) :: lw_gd) rm_X6_bestTurn).room s m ([.ref (X.1 0)] : List Value).toArray below meth c s.heap [] 0 0 (MQ below (va_Qi post (gB D (CW X)) (AX 75 X.1 s.heap.size)) ([.ref (X.1 0)] : List Value).toArray s 0 0 (AX 75 X.1 s.heap.size)) _
  suffices hgo : W p l e (headSpec (Cond.code yX6_bestTurn cX6_bestTurn 5 (some .int) :: lw_gd) rm_X6_bestTurn).room s m ([.ref (X.1 0)] : List Value).toArray below meth c H locs 0 0 (MQ below (va_Qi post (gB D (CW X)) (AX 75 X.1 s.heap.size)) ([.ref (X.1 0)] : List Value).toArray s 0 0 (AX 75 X.1 s.heap.size)) (F0 m 0 ls []) from by rw [hH, hlc] at hgo; exact hgo
  unfold p_X6_bestTurn at h
  refine lv_iconst (v := 1) hx hb dX6_bestTurn_0 (by decide) ?_
  refine lv_istore_n (lv' := [(1, .int 1), (0, .ref (X.1 0))]) hx hb dX6_bestTurn_1 rfl hl (by decide) rfl (fun ls hl => ?_)
  refine lv_iconst (v := 1) hx hb dX6_bestTurn_2 (by decide) ?_
  refine lv_iconst (v := 1) hx hb dX6_bestTurn_3 (by decide) ?_
  refine lv_aload_n hx hb dX6_bestTurn_4 rfl (lv_at hl 1 rfl) ?_
  obtain ⟨ht_1, h⟩ := h
  refine va_get (D := D) (ci := 6) (v := .ref (X.1 (to S.2.1))) (C := RX6) (T := TX6) (N := 16) hx hb hT inX6 hown hK hP 0 cw_Yard rfl 1 (by decide) (hT _ wf_X6_19) (fun _ h9 => h9) rfl dX6_bestTurn_5 ?_
  refine cVi (As := []) (rest := [.int 1, .int 1]) hX ⟨hx, hb, hml, hown, hT⟩ (c_X5_ripe l D X hX H.size S S.2.1 (by omega) _ h) (gd_V wl_X6_180 wi_X5_ripe wv_X5_ripe wn_X5 wc_X5_ripe) rfl hd_X5_ripe ⟨rfl, rfl⟩ ⟨Nat.le_of_ble_eq_true rfl, Nat.le_of_ble_eq_true rfl⟩ (va_recv hK hP (ci := 5) (q0 := (to S.2.1)) rfl (cw_Told (t := S.2.1) (by omega))) hK hP hS hF rfl hl.1 rfl (Nat.le_of_ble_eq_true rfl) dX6_bestTurn_8 ⟨Nat.zero_le _, Nat.zero_le _⟩ (fun r_3 S_2 H locs h hP hS => ?_)
  refine cSi (As := [.int 1, .int 1, .int r_3]) (rest := []) hX ⟨hx, hb, hml, hown, hT⟩ (c_X6_gift l D X hX H.size S_2 1 1 r_3 _ h) (gd_S wl_X6_183 wt_X6_gift wn_X6 wc_X6_gift) hd_X6_gift ⟨rfl, rfl⟩ ⟨Nat.le_of_ble_eq_true rfl, Nat.le_of_ble_eq_true rfl⟩ hK hP hS hF rfl hl.1 rfl (Nat.le_of_ble_eq_true rfl) dX6_bestTurn_11 ⟨Nat.zero_le _, Nat.zero_le _⟩ (fun r_5 S_4 H locs h hP hS => ?_)
  refine lv_istore_n (lv' := [(2, .int r_5), (1, .int 1), (0, .ref (X.1 0))]) hx hb dX6_bestTurn_14 rfl hl (by decide) rfl (fun ls hl => ?_)
  refine lv_iconst (v := 2) hx hb dX6_bestTurn_15 (by decide) ?_
  refine lv_istore_n (lv' := [(3, .int 2), (2, .int r_5), (1, .int 1), (0, .ref (X.1 0))]) hx hb dX6_bestTurn_16 rfl hl (by decide) rfl (fun ls hl => ?_)
  obtain ⟨n1, h⟩ := h
  exact W17  n1 1 r_5 2 S_4 H locs ls hP hS (lv_sub hl [3, 2, 1, 0] rfl) h

abbrev rm_X6_commonDivisor : Room := { frames := 0, cells := 0, slots := 0, locals := 0 }
def q_X6_commonDivisor_7 (x0 : Int32) (x1 : Int32) (post : Int32 → CS → Prop) : Nat → Int32 → Int32 → Int32 → CS → Prop
  | 0, _, _, _, _ => False
  | n9 + 1, y2, y3, y4, S => (64 ≤ y4 → (post y2 S)) ∧ (¬ (64 ≤ y4) → ((y3 = 0 → (post y2 S)) ∧ (¬ (y3 = 0) → ((¬ y3 = 0) ∧ (∀ x5_3 : Int32, x5_3 = (y2 - y2 / y3 * y3) → (∀ x4_4 : Int32, x4_4 = y4 + 1 → (q_X6_commonDivisor_7 x0 x1 post n9 y3 x5_3 x4_4 S)))))))
def p_X6_commonDivisor (S : CS) (x0 : Int32) (x1 : Int32) (post : Int32 → CS → Prop) : Prop := ∃ n, q_X6_commonDivisor_7 x0 x1 post n x0 x1 0 S
set_option maxHeartbeats 4000000 in
set_option maxRecDepth 100000 in
theorem c_X6_commonDivisor (l : Launch) (D : va_G) (X : XE) (hX : Inj 75 X.1) (sz : Nat) (S : CS) (x0 : Int32) (x1 : Int32) (post : Int32 → CS → Prop) (h : p_X6_commonDivisor S x0 x1 post) : Met l yX6_commonDivisor (Cond.code yX6_commonDivisor cX6_commonDivisor 6 (some .int) :: lw_gd) rm_X6_commonDivisor (gPc D (tyX X) (CW X) (FXc X) (AX 75 X.1 sz) sz S [.int x0, .int x1]) (va_Qi post (gB D (CW X)) (AX 75 X.1 sz)) 0 0 (AX 75 X.1 sz) := by
  refine Met.ofW (cc := cX6_commonDivisor) (maxL := 6) (ret := (some .int)) (by decide) rfl ?_
  intro p e s m args below meth c s₁ B hml hv
  obtain ⟨rfl, hsz, hP, hK, hF⟩ := hv
  have hx := B.exec
  have hb := B.bytes
  have hr := B.returns
  have hts := atoms_spec (ws := (Cond.code yX6_commonDivisor cX6_commonDivisor 6 (some .int) :: lw_gd)) B.pre
  have hT : ∀ w ∈ lw_gd, w.before _ s = true := fun w h9 => hts w (List.mem_cons_of_mem _ h9)
  have hown : s.vm.findClass RX6 = some m.cls := findClass_of_methodNamed B.named
  have hlocks := B.notSynchronized
  subst hsz
  have hS : va_S (AX 75 X.1 s.heap.size) s.heap s.heap [] := va_S.rf
  have W7 : ∀ n1 : Nat, ∀ (y2 : Int32) (y3 : Int32) (y4 : Int32) (S : CS) (H : Heap) (locs : List Loc) (ls : Array Slot), va_P D vwCl (CW X S) H → va_S (AX 75 X.1 s.heap.size) s.heap H locs → lv_has ls 6 [(2, .int y2), (3, .int y3), (4, .int y4)] → q_X6_commonDivisor_7 x0 x1 post n1 y2 y3 y4 S → W p l e (headSpec (Cond.code yX6_commonDivisor cX6_commonDivisor 6 (some .int) :: lw_gd) rm_X6_commonDivisor).room s m ([.int x0, .int x1] : List Value).toArray below meth c H locs 0 0 (MQ below (va_Qi post (gB D (CW X)) (AX 75 X.1 s.heap.size)) ([.int x0, .int x1] : List Value).toArray s 0 0 (AX 75 X.1 s.heap.size)) (F0 m 7 ls []) := by
    intro n1
    induction n1 with
    | zero => intro y2 y3 y4 S H locs ls hP hS hl h; exact h.elim
    | succ n9 ih =>
      intro y2 y3 y4 S H locs ls hP hS hl h
      rw [q_X6_commonDivisor_7] at h
      refine lv_iload hx hb dX6_commonDivisor_7 (lv_at hl 2 rfl) ?_
      refine lv_bipush (v := 64) hx hb dX6_commonDivisor_9 (by decide) ?_
      refine lv_icmp_ge (tgt := 34) hx hb dX6_commonDivisor_11 (by decide) (fun c_1 => ?_) (fun c_1 => ?_)
      · have h := h.1 c_1
        refine lv_iload_n hx hb dX6_commonDivisor_34 rfl (lv_at hl 0 rfl) ?_
        exact W.iret (v := y2) hx hb hr (fun t ht hW => ⟨⟨y2, S, rfl, h, gB_of ht hP⟩, hS.F ht⟩) hS.2.2 dX6_commonDivisor_35
      · have h := h.2 c_1
        refine lv_iload_n hx hb dX6_commonDivisor_14 rfl (lv_at hl 1 rfl) ?_
        refine lv_if_eq (tgt := 34) hx hb dX6_commonDivisor_15 (by decide) (fun c_2 => ?_) (fun c_2 => ?_)
        · have h := h.1 c_2
          refine lv_iload_n hx hb dX6_commonDivisor_34 rfl (lv_at hl 0 rfl) ?_
          exact W.iret (v := y2) hx hb hr (fun t ht hW => ⟨⟨y2, S, rfl, h, gB_of ht hP⟩, hS.F ht⟩) hS.2.2 dX6_commonDivisor_35
        · have h := h.2 c_2
          refine lv_iload_n hx hb dX6_commonDivisor_18 rfl (lv_at hl 0 rfl) ?_
          refine lv_iload_n hx hb dX6_commonDivisor_19 rfl (lv_at hl 1 rfl) ?_
          obtain ⟨hne, h⟩ := h
          refine lv_irem hx hb dX6_commonDivisor_20 hne ?_
          refine lv_topi (fun x5_3 ex5_3 => ?_)
          have h := h x5_3 ex5_3
          refine lv_istore (lv' := [(5, .int x5_3), (2, .int y2), (3, .int y3), (4, .int y4)]) hx hb dX6_commonDivisor_21 hl (by decide) rfl (fun ls hl => ?_)
          refine lv_iload_n hx hb dX6_commonDivisor_23 rfl (lv_at hl 2 rfl) ?_
          refine lv_istore_n (lv' := [(2, .int y3), (5, .int x5_3), (3, .int y3), (4, .int y4)]) hx hb dX6_commonDivisor_24 rfl hl (by decide) rfl (fun ls hl => ?_)
          refine lv_iload hx hb dX6_commonDivisor_25 (lv_at hl 1 rfl) ?_
          refine lv_istore_n (lv' := [(3, .int x5_3), (2, .int y3), (5, .int x5_3), (4, .int y4)]) hx hb dX6_commonDivisor_27 rfl hl (by decide) rfl (fun ls hl => ?_)
          obtain ⟨x4_4, ex4_4⟩ : ∃ z : Int32, z = y4 + 1 := ⟨_, rfl⟩
          refine lv_iinc (v := x4_4) (lv' := [(4, .int x4_4), (3, .int x5_3), (2, .int y3), (5, .int x5_3)]) hx hb dX6_commonDivisor_28 hl (k := 3) rfl (by rw [ex4_4]; rfl) (by decide) rfl (fun ls hl => ?_)
          have h := h x4_4 ex4_4
          refine lv_goto (tgt := 7) hx hb dX6_commonDivisor_31 (by decide) ?_
          exact ih y3 x5_3 x4_4 S H locs ls hP hS (lv_sub hl [2, 1, 0] rfl) h
  have hl := lv_entry ([.int x0, .int x1]) (n := 6) (Nat.le_of_ble_eq_true rfl)
  rw [lg_entry_eq]
  generalize (lg_sl ([.int x0, .int x1]) ++ List.replicate (6 - (lg_sl ([.int x0, .int x1])).length) Slot.unset).toArray = ls at hl ⊢
  have hl : lv_has ls 6 [(0, .int x0), (1, .int x1)] := hl
  obtain ⟨H, hH⟩ : ∃ H : Heap, H = s.heap := ⟨_, rfl⟩
  obtain ⟨locs, hlc⟩ : ∃ q : List Loc, q = [] := ⟨_, rfl⟩
  have hS : va_S (AX 75 X.1 s.heap.size) s.heap H locs := by rw [hH, hlc]; exact hS
  have hP : va_P D vwCl (CW X S) H := by rw [hH]; exact hP
  show W p l e (headSpec (Cond.code yX6_commonDivisor cX6_commonDivisor 6 (some .int) :: lw_gd) rm_X6_commonDivisor).room s m ([.int x0, .int x1] : List Value).toArray below meth c s.heap [] 0 0 (MQ below (va_Qi post (gB D (CW X)) (AX 75 X.1 s.heap.size)) ([.int x0, .int x1] : List Value).toArray s 0 0 (AX 75 X.1 s.heap.size)) _
  suffices hgo : W p l e (headSpec (Cond.code yX6_commonDivisor cX6_commonDivisor 6 (some .int) :: lw_gd) rm_X6_commonDivisor).room s m ([.int x0, .int x1] : List Value).toArray below meth c H locs 0 0 (MQ below (va_Qi post (gB D (CW X)) (AX 75 X.1 s.heap.size)) ([.int x0, .int x1] : List Value).toArray s 0 0 (AX 75 X.1 s.heap.size)) (F0 m 0 ls []) from by rw [hH, hlc] at hgo; exact hgo
  unfold p_X6_commonDivisor at h
  refine lv_iload_n hx hb dX6_commonDivisor_0 rfl (lv_at hl 0 rfl) ?_
  refine lv_istore_n (lv' := [(2, .int x0), (0, .int x0), (1, .int x1)]) hx hb dX6_commonDivisor_1 rfl hl (by decide) rfl (fun ls hl => ?_)
  refine lv_iload_n hx hb dX6_commonDivisor_2 rfl (lv_at hl 2 rfl) ?_
  refine lv_istore_n (lv' := [(3, .int x1), (2, .int x0), (0, .int x0), (1, .int x1)]) hx hb dX6_commonDivisor_3 rfl hl (by decide) rfl (fun ls hl => ?_)
  refine lv_iconst (v := 0) hx hb dX6_commonDivisor_4 (by decide) ?_
  refine lv_istore (lv' := [(4, .int 0), (3, .int x1), (2, .int x0), (0, .int x0), (1, .int x1)]) hx hb dX6_commonDivisor_5 hl (by decide) rfl (fun ls hl => ?_)
  obtain ⟨n1, h⟩ := h
  exact W7  n1 x0 x1 0 S H locs ls hP hS (lv_sub hl [2, 1, 0] rfl) h

abbrev rm_X6_inLeastTerms : Room := { frames := 1, cells := 0, slots := 0, locals := 25 }
def q_X6_inLeastTerms_15 (x0 : Int32) (x1 : Int32) (x2 : Int32) (post : Int32 → CS → Prop) (y3 : Int32) (z0 : Int32) (S : CS) : Prop := (1 ≤ y3 → ((¬ y3 = 0) ∧ (post (z0 / y3) S))) ∧ (¬ (1 ≤ y3) → (post z0 S))
def p_X6_inLeastTerms (S : CS) (x0 : Int32) (x1 : Int32) (x2 : Int32) (post : Int32 → CS → Prop) : Prop := p_X6_commonDivisor S x0 x1 (fun r_2 S_1 => ((x2 = 0 → (q_X6_inLeastTerms_15 x0 x1 x2 post r_2 x0 S_1)) ∧ (¬ (x2 = 0) → (q_X6_inLeastTerms_15 x0 x1 x2 post r_2 x1 S_1))))
set_option maxHeartbeats 4000000 in
set_option maxRecDepth 100000 in
theorem c_X6_inLeastTerms (l : Launch) (D : va_G) (X : XE) (hX : Inj 75 X.1) (sz : Nat) (S : CS) (x0 : Int32) (x1 : Int32) (x2 : Int32) (post : Int32 → CS → Prop) (h : p_X6_inLeastTerms S x0 x1 x2 post) : Met l yX6_inLeastTerms (Cond.code yX6_inLeastTerms cX6_inLeastTerms 5 (some .int) :: lw_gd) rm_X6_inLeastTerms (gPc D (tyX X) (CW X) (FXc X) (AX 75 X.1 sz) sz S [.int x0, .int x1, .int x2]) (va_Qi post (gB D (CW X)) (AX 75 X.1 sz)) 0 0 (AX 75 X.1 sz) := by
  refine Met.ofW (cc := cX6_inLeastTerms) (maxL := 5) (ret := (some .int)) (by decide) rfl ?_
  intro p e s m args below meth c s₁ B hml hv
  obtain ⟨rfl, hsz, hP, hK, hF⟩ := hv
  have hx := B.exec
  have hb := B.bytes
  have hr := B.returns
  have hts := atoms_spec (ws := (Cond.code yX6_inLeastTerms cX6_inLeastTerms 5 (some .int) :: lw_gd)) B.pre
  have hT : ∀ w ∈ lw_gd, w.before _ s = true := fun w h9 => hts w (List.mem_cons_of_mem _ h9)
  have hown : s.vm.findClass RX6 = some m.cls := findClass_of_methodNamed B.named
  have hlocks := B.notSynchronized
  subst hsz
  have hS : va_S (AX 75 X.1 s.heap.size) s.heap s.heap [] := va_S.rf
  have W15 : ∀ (y3 : Int32) (z0 : Int32) (S : CS) (H : Heap) (locs : List Loc) (ls : Array Slot), va_P D vwCl (CW X S) H → va_S (AX 75 X.1 s.heap.size) s.heap H locs → lv_has ls 5 [(3, .int y3)] → q_X6_inLeastTerms_15 x0 x1 x2 post y3 z0 S → W p l e (headSpec (Cond.code yX6_inLeastTerms cX6_inLeastTerms 5 (some .int) :: lw_gd) rm_X6_inLeastTerms).room s m ([.int x0, .int x1, .int x2] : List Value).toArray below meth c H locs 0 0 (MQ below (va_Qi post (gB D (CW X)) (AX 75 X.1 s.heap.size)) ([.int x0, .int x1, .int x2] : List Value).toArray s 0 0 (AX 75 X.1 s.heap.size)) (F0 m 15 ls [.int z0]) := by
    intro y3 z0 S H locs ls hP hS hl h
    unfold q_X6_inLeastTerms_15 at h
    refine lv_istore (lv' := [(4, .int z0), (3, .int y3)]) hx hb dX6_inLeastTerms_15 hl (by decide) rfl (fun ls hl => ?_)
    refine lv_iload_n hx hb dX6_inLeastTerms_17 rfl (lv_at hl 1 rfl) ?_
    refine lv_iconst (v := 1) hx hb dX6_inLeastTerms_18 (by decide) ?_
    refine lv_icmp_ge (tgt := 27) hx hb dX6_inLeastTerms_19 (by decide) (fun c_4 => ?_) (fun c_4 => ?_)
    · have h := h.1 c_4
      refine lv_iload hx hb dX6_inLeastTerms_27 (lv_at hl 0 rfl) ?_
      refine lv_iload_n hx hb dX6_inLeastTerms_29 rfl (lv_at hl 1 rfl) ?_
      obtain ⟨hne, h⟩ := h
      refine lv_idiv hx hb dX6_inLeastTerms_30 hne ?_
      exact W.iret (v := (z0 / y3)) hx hb hr (fun t ht hW => ⟨⟨(z0 / y3), S, rfl, h, gB_of ht hP⟩, hS.F ht⟩) hS.2.2 dX6_inLeastTerms_31
    · have h := h.2 c_4
      refine lv_iload hx hb dX6_inLeastTerms_22 (lv_at hl 0 rfl) ?_
      refine lv_goto (tgt := 31) hx hb dX6_inLeastTerms_24 (by decide) ?_
      exact W.iret (v := z0) hx hb hr (fun t ht hW => ⟨⟨z0, S, rfl, h, gB_of ht hP⟩, hS.F ht⟩) hS.2.2 dX6_inLeastTerms_31
  have hl := lv_entry ([.int x0, .int x1, .int x2]) (n := 5) (Nat.le_of_ble_eq_true rfl)
  rw [lg_entry_eq]
  generalize (lg_sl ([.int x0, .int x1, .int x2]) ++ List.replicate (5 - (lg_sl ([.int x0, .int x1, .int x2])).length) Slot.unset).toArray = ls at hl ⊢
  have hl : lv_has ls 5 [(0, .int x0), (1, .int x1), (2, .int x2)] := hl
  obtain ⟨H, hH⟩ : ∃ H : Heap, H = s.heap := ⟨_, rfl⟩
  obtain ⟨locs, hlc⟩ : ∃ q : List Loc, q = [] := ⟨_, rfl⟩
  have hS : va_S (AX 75 X.1 s.heap.size) s.heap H locs := by rw [hH, hlc]; exact hS
  have hP : va_P D vwCl (CW X S) H := by rw [hH]; exact hP
  show W p l e (headSpec (Cond.code yX6_inLeastTerms cX6_inLeastTerms 5 (some .int) :: lw_gd) rm_X6_inLeastTerms).room s m ([.int x0, .int x1, .int x2] : List Value).toArray below meth c s.heap [] 0 0 (MQ below (va_Qi post (gB D (CW X)) (AX 75 X.1 s.heap.size)) ([.int x0, .int x1, .int x2] : List Value).toArray s 0 0 (AX 75 X.1 s.heap.size)) _
  suffices hgo : W p l e (headSpec (Cond.code yX6_inLeastTerms cX6_inLeastTerms 5 (some .int) :: lw_gd) rm_X6_inLeastTerms).room s m ([.int x0, .int x1, .int x2] : List Value).toArray below meth c H locs 0 0 (MQ below (va_Qi post (gB D (CW X)) (AX 75 X.1 s.heap.size)) ([.int x0, .int x1, .int x2] : List Value).toArray s 0 0 (AX 75 X.1 s.heap.size)) (F0 m 0 ls []) from by rw [hH, hlc] at hgo; exact hgo
  unfold p_X6_inLeastTerms at h
  refine lv_iload_n hx hb dX6_inLeastTerms_0 rfl (lv_at hl 0 rfl) ?_
  refine lv_iload_n hx hb dX6_inLeastTerms_1 rfl (lv_at hl 1 rfl) ?_
  refine cSi (As := [.int x0, .int x1]) (rest := []) hX ⟨hx, hb, hml, hown, hT⟩ (c_X6_commonDivisor l D X hX H.size S x0 x1 _ h) (gd_S wl_X6_322 wt_X6_commonDivisor wn_X6 wc_X6_commonDivisor) hd_X6_commonDivisor ⟨rfl, rfl⟩ ⟨Nat.le_of_ble_eq_true rfl, Nat.le_of_ble_eq_true rfl⟩ hK hP hS hF rfl hl.1 rfl (Nat.le_of_ble_eq_true rfl) dX6_inLeastTerms_2 ⟨Nat.zero_le _, Nat.zero_le _⟩ (fun r_2 S_1 H locs h hP hS => ?_)
  refine lv_istore_n (lv' := [(3, .int r_2), (0, .int x0), (1, .int x1), (2, .int x2)]) hx hb dX6_inLeastTerms_5 rfl hl (by decide) rfl (fun ls hl => ?_)
  refine lv_iload_n hx hb dX6_inLeastTerms_6 rfl (lv_at hl 3 rfl) ?_
  refine lv_if_ne (tgt := 14) hx hb dX6_inLeastTerms_7 (by decide) (fun c_3 => ?_) (fun c_3 => ?_)
  · have h := h.2 c_3
    refine lv_iload_n hx hb dX6_inLeastTerms_14 rfl (lv_at hl 2 rfl) ?_
    exact W15  r_2 x1 S_1 H locs ls hP hS (lv_sub hl [0] rfl) h
  · have h := h.1 c_3
    refine lv_iload_n hx hb dX6_inLeastTerms_10 rfl (lv_at hl 1 rfl) ?_
    refine lv_goto (tgt := 15) hx hb dX6_inLeastTerms_11 (by decide) ?_
    exact W15  r_2 x0 S_1 H locs ls hP hS (lv_sub hl [0] rfl) h

abbrev rm_X6_turn : Room := { frames := 4, cells := 0, slots := 0, locals := 87 }
def p_X6_turn (S : CS) (x1 : Int32) (x2 : Int32) (post : Int32 → CS → Prop) : Prop := (x1 < 1 → (post (-1) S)) ∧ (¬ (x1 < 1) → ((30 < x1 → (post (-1) S)) ∧ (¬ (30 < x1) → ((x2 < 0 → (post (-1) S)) ∧ (¬ (x2 < 0) → ((x2 ≤ 2 → ((x2 = 2 → (p_X6_bestTurn S  (fun r_14 S_13 => (post r_14 S_13)))) ∧ (¬ (x2 = 2) → ((S.2.1 < 2) ∧ (p_X5_ripe S S.2.1 (fun r_8 S_7 => (p_X6_gift S_7 1 x1 r_8 (fun r_10 S_9 => (p_X6_inLeastTerms S_9 r_10 x1 x2 (fun r_12 S_11 => (post r_12 S_11))))))))))) ∧ (¬ (x2 ≤ 2) → (post (-1) S))))))))
set_option maxHeartbeats 4000000 in
set_option maxRecDepth 100000 in
theorem c_X6_turn (l : Launch) (D : va_G) (X : XE) (hX : Inj 75 X.1) (sz : Nat) (S : CS) (x1 : Int32) (x2 : Int32) (post : Int32 → CS → Prop) (h : p_X6_turn S x1 x2 post) : Met l yX6_turn (Cond.code yX6_turn cX6_turn 4 (some .int) :: lw_gd) rm_X6_turn (gPc D (tyX X) (CW X) (FXc X) (AX 75 X.1 sz) sz S [.ref (X.1 0), .int x1, .int x2]) (va_Qi post (gB D (CW X)) (AX 75 X.1 sz)) 0 0 (AX 75 X.1 sz) := by
  refine Met.ofW (cc := cX6_turn) (maxL := 4) (ret := (some .int)) (by decide) rfl ?_
  intro p e s m args below meth c s₁ B hml hv
  obtain ⟨rfl, hsz, hP, hK, hF⟩ := hv
  have hx := B.exec
  have hb := B.bytes
  have hr := B.returns
  have hts := atoms_spec (ws := (Cond.code yX6_turn cX6_turn 4 (some .int) :: lw_gd)) B.pre
  have hT : ∀ w ∈ lw_gd, w.before _ s = true := fun w h9 => hts w (List.mem_cons_of_mem _ h9)
  have hown : s.vm.findClass RX6 = some m.cls := findClass_of_methodNamed B.named
  have hlocks := B.notSynchronized
  subst hsz
  have hS : va_S (AX 75 X.1 s.heap.size) s.heap s.heap [] := va_S.rf
  have hl := lv_entry ([.ref (X.1 0), .int x1, .int x2]) (n := 4) (Nat.le_of_ble_eq_true rfl)
  rw [lg_entry_eq]
  generalize (lg_sl ([.ref (X.1 0), .int x1, .int x2]) ++ List.replicate (4 - (lg_sl ([.ref (X.1 0), .int x1, .int x2])).length) Slot.unset).toArray = ls at hl ⊢
  have hl : lv_has ls 4 [(0, .ref (X.1 0)), (1, .int x1), (2, .int x2)] := hl
  obtain ⟨H, hH⟩ : ∃ H : Heap, H = s.heap := ⟨_, rfl⟩
  obtain ⟨locs, hlc⟩ : ∃ q : List Loc, q = [] := ⟨_, rfl⟩
  have hS : va_S (AX 75 X.1 s.heap.size) s.heap H locs := by rw [hH, hlc]; exact hS
  have hP : va_P D vwCl (CW X S) H := by rw [hH]; exact hP
  show W p l e (headSpec (Cond.code yX6_turn cX6_turn 4 (some .int) :: lw_gd) rm_X6_turn).room s m ([.ref (X.1 0), .int x1, .int x2] : List Value).toArray below meth c s.heap [] 0 0 (MQ below (va_Qi post (gB D (CW X)) (AX 75 X.1 s.heap.size)) ([.ref (X.1 0), .int x1, .int x2] : List Value).toArray s 0 0 (AX 75 X.1 s.heap.size)) _
  suffices hgo : W p l e (headSpec (Cond.code yX6_turn cX6_turn 4 (some .int) :: lw_gd) rm_X6_turn).room s m ([.ref (X.1 0), .int x1, .int x2] : List Value).toArray below meth c H locs 0 0 (MQ below (va_Qi post (gB D (CW X)) (AX 75 X.1 s.heap.size)) ([.ref (X.1 0), .int x1, .int x2] : List Value).toArray s 0 0 (AX 75 X.1 s.heap.size)) (F0 m 0 ls []) from by rw [hH, hlc] at hgo; exact hgo
  unfold p_X6_turn at h
  refine lv_iload_n hx hb dX6_turn_0 rfl (lv_at hl 1 rfl) ?_
  refine lv_iconst (v := 1) hx hb dX6_turn_1 (by decide) ?_
  refine lv_icmp_lt (tgt := 20) hx hb dX6_turn_2 (by decide) (fun c_1 => ?_) (fun c_1 => ?_)
  · have h := h.1 c_1
    refine lv_iconst (v := (-1)) hx hb dX6_turn_20 (by decide) ?_
    exact W.iret (v := (-1)) hx hb hr (fun t ht hW => ⟨⟨(-1), S, rfl, h, gB_of ht hP⟩, hS.F ht⟩) hS.2.2 dX6_turn_21
  · have h := h.2 c_1
    refine lv_iload_n hx hb dX6_turn_5 rfl (lv_at hl 1 rfl) ?_
    refine lv_bipush (v := 30) hx hb dX6_turn_6 (by decide) ?_
    refine lv_icmp_gt (tgt := 20) hx hb dX6_turn_8 (by decide) (fun c_2 => ?_) (fun c_2 => ?_)
    · have h := h.1 c_2
      refine lv_iconst (v := (-1)) hx hb dX6_turn_20 (by decide) ?_
      exact W.iret (v := (-1)) hx hb hr (fun t ht hW => ⟨⟨(-1), S, rfl, h, gB_of ht hP⟩, hS.F ht⟩) hS.2.2 dX6_turn_21
    · have h := h.2 c_2
      refine lv_iload_n hx hb dX6_turn_11 rfl (lv_at hl 2 rfl) ?_
      refine lv_if_lt (tgt := 20) hx hb dX6_turn_12 (by decide) (fun c_3 => ?_) (fun c_3 => ?_)
      · have h := h.1 c_3
        refine lv_iconst (v := (-1)) hx hb dX6_turn_20 (by decide) ?_
        exact W.iret (v := (-1)) hx hb hr (fun t ht hW => ⟨⟨(-1), S, rfl, h, gB_of ht hP⟩, hS.F ht⟩) hS.2.2 dX6_turn_21
      · have h := h.2 c_3
        refine lv_iload_n hx hb dX6_turn_15 rfl (lv_at hl 2 rfl) ?_
        refine lv_iconst (v := 2) hx hb dX6_turn_16 (by decide) ?_
        refine lv_icmp_le (tgt := 22) hx hb dX6_turn_17 (by decide) (fun c_4 => ?_) (fun c_4 => ?_)
        · have h := h.1 c_4
          refine lv_iload_n hx hb dX6_turn_22 rfl (lv_at hl 2 rfl) ?_
          refine lv_iconst (v := 2) hx hb dX6_turn_23 (by decide) ?_
          refine lv_icmp_ne (tgt := 32) hx hb dX6_turn_24 (by decide) (fun c_5 => ?_) (fun c_5 => ?_)
          · have h := h.2 c_5
            refine lv_iconst (v := 1) hx hb dX6_turn_32 (by decide) ?_
            refine lv_iload_n hx hb dX6_turn_33 rfl (lv_at hl 1 rfl) ?_
            refine lv_aload_n hx hb dX6_turn_34 rfl (lv_at hl 0 rfl) ?_
            obtain ⟨ht_6, h⟩ := h
            refine va_get (D := D) (ci := 6) (v := .ref (X.1 (to S.2.1))) (C := RX6) (T := TX6) (N := 16) hx hb hT inX6 hown hK hP 0 cw_Yard rfl 1 (by decide) (hT _ wf_X6_19) (fun _ h9 => h9) rfl dX6_turn_35 ?_
            refine cVi (As := []) (rest := [.int x1, .int 1]) hX ⟨hx, hb, hml, hown, hT⟩ (c_X5_ripe l D X hX H.size S S.2.1 (by omega) _ h) (gd_V wl_X6_180 wi_X5_ripe wv_X5_ripe wn_X5 wc_X5_ripe) rfl hd_X5_ripe ⟨rfl, rfl⟩ ⟨Nat.le_of_ble_eq_true rfl, Nat.le_of_ble_eq_true rfl⟩ (va_recv hK hP (ci := 5) (q0 := (to S.2.1)) rfl (cw_Told (t := S.2.1) (by omega))) hK hP hS hF rfl hl.1 rfl (Nat.le_of_ble_eq_true rfl) dX6_turn_38 ⟨Nat.zero_le _, Nat.zero_le _⟩ (fun r_8 S_7 H locs h hP hS => ?_)
            refine cSi (As := [.int 1, .int x1, .int r_8]) (rest := []) hX ⟨hx, hb, hml, hown, hT⟩ (c_X6_gift l D X hX H.size S_7 1 x1 r_8 _ h) (gd_S wl_X6_183 wt_X6_gift wn_X6 wc_X6_gift) hd_X6_gift ⟨rfl, rfl⟩ ⟨Nat.le_of_ble_eq_true rfl, Nat.le_of_ble_eq_true rfl⟩ hK hP hS hF rfl hl.1 rfl (Nat.le_of_ble_eq_true rfl) dX6_turn_41 ⟨Nat.zero_le _, Nat.zero_le _⟩ (fun r_10 S_9 H locs h hP hS => ?_)
            refine lv_istore_n (lv' := [(3, .int r_10), (0, .ref (X.1 0)), (1, .int x1), (2, .int x2)]) hx hb dX6_turn_44 rfl hl (by decide) rfl (fun ls hl => ?_)
            refine lv_iload_n hx hb dX6_turn_45 rfl (lv_at hl 0 rfl) ?_
            refine lv_iload_n hx hb dX6_turn_46 rfl (lv_at hl 2 rfl) ?_
            refine lv_iload_n hx hb dX6_turn_47 rfl (lv_at hl 3 rfl) ?_
            refine cSi (As := [.int r_10, .int x1, .int x2]) (rest := []) hX ⟨hx, hb, hml, hown, hT⟩ (c_X6_inLeastTerms l D X hX H.size S_9 r_10 x1 x2 _ h) (gd_S wl_X6_190 wt_X6_inLeastTerms wn_X6 wc_X6_inLeastTerms) hd_X6_inLeastTerms ⟨rfl, rfl⟩ ⟨Nat.le_of_ble_eq_true rfl, Nat.le_of_ble_eq_true rfl⟩ hK hP hS hF rfl hl.1 rfl (Nat.le_of_ble_eq_true rfl) dX6_turn_48 ⟨Nat.zero_le _, Nat.zero_le _⟩ (fun r_12 S_11 H locs h hP hS => ?_)
            exact W.iret (v := r_12) hx hb hr (fun t ht hW => ⟨⟨r_12, S_11, rfl, h, gB_of ht hP⟩, hS.F ht⟩) hS.2.2 dX6_turn_51
          · have h := h.1 c_5
            refine lv_aload_n hx hb dX6_turn_27 rfl (lv_at hl 0 rfl) ?_
            refine cVi (As := []) (rest := []) hX ⟨hx, hb, hml, hown, hT⟩ (c_X6_bestTurn l D X hX H.size S  _ h) (gd_V wl_X6_187 wi_X6_bestTurn wv_X6_bestTurn wn_X6 wc_X6_bestTurn) rfl hd_X6_bestTurn ⟨rfl, rfl⟩ ⟨Nat.le_of_ble_eq_true rfl, Nat.le_of_ble_eq_true rfl⟩ (va_recv hK hP (ci := 6) (q0 := 0) rfl cw_Yard) hK hP hS hF rfl hl.1 rfl (Nat.le_of_ble_eq_true rfl) dX6_turn_28 ⟨Nat.zero_le _, Nat.zero_le _⟩ (fun r_14 S_13 H locs h hP hS => ?_)
            exact W.iret (v := r_14) hx hb hr (fun t ht hW => ⟨⟨r_14, S_13, rfl, h, gB_of ht hP⟩, hS.F ht⟩) hS.2.2 dX6_turn_31
        · have h := h.2 c_4
          refine lv_iconst (v := (-1)) hx hb dX6_turn_20 (by decide) ?_
          exact W.iret (v := (-1)) hx hb hr (fun t ht hW => ⟨⟨(-1), S, rfl, h, gB_of ht hP⟩, hS.F ht⟩) hS.2.2 dX6_turn_21

abbrev rm_X6_plan : Room := { frames := 5, cells := 0, slots := 0, locals := 116 }
def p_X6_plan (S : CS) (x1 : Int32) (x2 : Int32) (post : Int32 → CS → Prop) : Prop := (x1 < 1 → (post (-1) S)) ∧ (¬ (x1 < 1) → ((4 < x1 → (post (-1) S)) ∧ (¬ (4 < x1) → ((x2 < (-1) → (post (-1) S)) ∧ (¬ (x2 < (-1)) → ((x2 < 4 → ((x2 < x1 → ((S.2.1 < 2) ∧ (p_X2_find S S.2.1 0 x1 (fun S_7 => ((0 ≤ x2 → (p_X2_chosenIn S_7 x2 (fun r_11 S_10 => (post r_11 S_10)))) ∧ (¬ (0 ≤ x2) → (p_X2_mostTwigs S_7  (fun r_13 S_12 => (post r_13 S_12))))))))) ∧ (¬ (x2 < x1) → (post (-9) S)))) ∧ (¬ (x2 < 4) → (post (-1) S))))))))
set_option maxHeartbeats 4000000 in
set_option maxRecDepth 100000 in
theorem c_X6_plan (l : Launch) (D : va_G) (X : XE) (hX : Inj 75 X.1) (sz : Nat) (S : CS) (x1 : Int32) (x2 : Int32) (post : Int32 → CS → Prop) (h : p_X6_plan S x1 x2 post) : Met l yX6_plan (Cond.code yX6_plan cX6_plan 3 (some .int) :: lw_gd) rm_X6_plan (gPc D (tyX X) (CW X) (FXc X) (AX 75 X.1 sz) sz S [.ref (X.1 0), .int x1, .int x2]) (va_Qi post (gB D (CW X)) (AX 75 X.1 sz)) 0 0 (AX 75 X.1 sz) := by
  refine Met.ofW (cc := cX6_plan) (maxL := 3) (ret := (some .int)) (by decide) rfl ?_
  intro p e s m args below meth c s₁ B hml hv
  obtain ⟨rfl, hsz, hP, hK, hF⟩ := hv
  have hx := B.exec
  have hb := B.bytes
  have hr := B.returns
  have hts := atoms_spec (ws := (Cond.code yX6_plan cX6_plan 3 (some .int) :: lw_gd)) B.pre
  have hT : ∀ w ∈ lw_gd, w.before _ s = true := fun w h9 => hts w (List.mem_cons_of_mem _ h9)
  have hown : s.vm.findClass RX6 = some m.cls := findClass_of_methodNamed B.named
  have hlocks := B.notSynchronized
  subst hsz
  have hS : va_S (AX 75 X.1 s.heap.size) s.heap s.heap [] := va_S.rf
  have hl := lv_entry ([.ref (X.1 0), .int x1, .int x2]) (n := 3) (Nat.le_of_ble_eq_true rfl)
  rw [lg_entry_eq]
  generalize (lg_sl ([.ref (X.1 0), .int x1, .int x2]) ++ List.replicate (3 - (lg_sl ([.ref (X.1 0), .int x1, .int x2])).length) Slot.unset).toArray = ls at hl ⊢
  have hl : lv_has ls 3 [(0, .ref (X.1 0)), (1, .int x1), (2, .int x2)] := hl
  obtain ⟨H, hH⟩ : ∃ H : Heap, H = s.heap := ⟨_, rfl⟩
  obtain ⟨locs, hlc⟩ : ∃ q : List Loc, q = [] := ⟨_, rfl⟩
  have hS : va_S (AX 75 X.1 s.heap.size) s.heap H locs := by rw [hH, hlc]; exact hS
  have hP : va_P D vwCl (CW X S) H := by rw [hH]; exact hP
  show W p l e (headSpec (Cond.code yX6_plan cX6_plan 3 (some .int) :: lw_gd) rm_X6_plan).room s m ([.ref (X.1 0), .int x1, .int x2] : List Value).toArray below meth c s.heap [] 0 0 (MQ below (va_Qi post (gB D (CW X)) (AX 75 X.1 s.heap.size)) ([.ref (X.1 0), .int x1, .int x2] : List Value).toArray s 0 0 (AX 75 X.1 s.heap.size)) _
  suffices hgo : W p l e (headSpec (Cond.code yX6_plan cX6_plan 3 (some .int) :: lw_gd) rm_X6_plan).room s m ([.ref (X.1 0), .int x1, .int x2] : List Value).toArray below meth c H locs 0 0 (MQ below (va_Qi post (gB D (CW X)) (AX 75 X.1 s.heap.size)) ([.ref (X.1 0), .int x1, .int x2] : List Value).toArray s 0 0 (AX 75 X.1 s.heap.size)) (F0 m 0 ls []) from by rw [hH, hlc] at hgo; exact hgo
  unfold p_X6_plan at h
  refine lv_iload_n hx hb dX6_plan_0 rfl (lv_at hl 1 rfl) ?_
  refine lv_iconst (v := 1) hx hb dX6_plan_1 (by decide) ?_
  refine lv_icmp_lt (tgt := 20) hx hb dX6_plan_2 (by decide) (fun c_1 => ?_) (fun c_1 => ?_)
  · have h := h.1 c_1
    refine lv_iconst (v := (-1)) hx hb dX6_plan_20 (by decide) ?_
    exact W.iret (v := (-1)) hx hb hr (fun t ht hW => ⟨⟨(-1), S, rfl, h, gB_of ht hP⟩, hS.F ht⟩) hS.2.2 dX6_plan_21
  · have h := h.2 c_1
    refine lv_iload_n hx hb dX6_plan_5 rfl (lv_at hl 1 rfl) ?_
    refine lv_iconst (v := 4) hx hb dX6_plan_6 (by decide) ?_
    refine lv_icmp_gt (tgt := 20) hx hb dX6_plan_7 (by decide) (fun c_2 => ?_) (fun c_2 => ?_)
    · have h := h.1 c_2
      refine lv_iconst (v := (-1)) hx hb dX6_plan_20 (by decide) ?_
      exact W.iret (v := (-1)) hx hb hr (fun t ht hW => ⟨⟨(-1), S, rfl, h, gB_of ht hP⟩, hS.F ht⟩) hS.2.2 dX6_plan_21
    · have h := h.2 c_2
      refine lv_iload_n hx hb dX6_plan_10 rfl (lv_at hl 2 rfl) ?_
      refine lv_iconst (v := (-1)) hx hb dX6_plan_11 (by decide) ?_
      refine lv_icmp_lt (tgt := 20) hx hb dX6_plan_12 (by decide) (fun c_3 => ?_) (fun c_3 => ?_)
      · have h := h.1 c_3
        refine lv_iconst (v := (-1)) hx hb dX6_plan_20 (by decide) ?_
        exact W.iret (v := (-1)) hx hb hr (fun t ht hW => ⟨⟨(-1), S, rfl, h, gB_of ht hP⟩, hS.F ht⟩) hS.2.2 dX6_plan_21
      · have h := h.2 c_3
        refine lv_iload_n hx hb dX6_plan_15 rfl (lv_at hl 2 rfl) ?_
        refine lv_iconst (v := 4) hx hb dX6_plan_16 (by decide) ?_
        refine lv_icmp_lt (tgt := 22) hx hb dX6_plan_17 (by decide) (fun c_4 => ?_) (fun c_4 => ?_)
        · have h := h.1 c_4
          refine lv_iload_n hx hb dX6_plan_22 rfl (lv_at hl 2 rfl) ?_
          refine lv_iload_n hx hb dX6_plan_23 rfl (lv_at hl 1 rfl) ?_
          refine lv_icmp_lt (tgt := 30) hx hb dX6_plan_24 (by decide) (fun c_5 => ?_) (fun c_5 => ?_)
          · have h := h.1 c_5
            refine lv_aload_n hx hb dX6_plan_30 rfl (lv_at hl 0 rfl) ?_
            refine va_get (D := D) (ci := 6) (v := .ref (X.1 17)) (C := RX6) (T := TX6) (N := 16) hx hb hT inX6 hown hK hP 0 cw_Yard rfl 14 (by decide) (hT _ wf_X6_69) (fun _ h9 => h9) rfl dX6_plan_31 ?_
            refine lv_aload_n hx hb dX6_plan_34 rfl (lv_at hl 0 rfl) ?_
            obtain ⟨ht_6, h⟩ := h
            refine va_get (D := D) (ci := 6) (v := .ref (X.1 (to S.2.1))) (C := RX6) (T := TX6) (N := 16) hx hb hT inX6 hown hK hP 0 cw_Yard rfl 1 (by decide) (hT _ wf_X6_19) (fun _ h9 => h9) rfl dX6_plan_35 ?_
            refine lv_aload_n hx hb dX6_plan_38 rfl (lv_at hl 0 rfl) ?_
            refine va_get (D := D) (ci := 6) (v := .ref (X.1 (mo 0))) (C := RX6) (T := TX6) (N := 16) hx hb hT inX6 hown hK hP 0 cw_Yard rfl 3 (by decide) (hT _ wf_X6_29) (fun _ h9 => h9) rfl dX6_plan_39 ?_
            refine lv_iload_n hx hb dX6_plan_42 rfl (lv_at hl 1 rfl) ?_
            refine cVv (As := [.ref (X.1 (to S.2.1)), .ref (X.1 (mo 0)), .int x1]) (rest := []) hX ⟨hx, hb, hml, hown, hT⟩ (c_X2_find l D X hX H.size S S.2.1 (by omega) 0 (by decide) x1 _ h) (gd_V wl_X6_193 wi_X2_find wv_X2_find wn_X2 wc_X2_find) rfl hd_X2_find ⟨rfl, rfl⟩ ⟨Nat.le_of_ble_eq_true rfl, Nat.le_of_ble_eq_true rfl⟩ (va_recv hK hP (ci := 2) (q0 := 17) rfl cw_Planner) hK hP hS hF rfl hl.1 rfl (Nat.le_of_ble_eq_true rfl) dX6_plan_43 ⟨Nat.zero_le _, Nat.zero_le _⟩ (fun S_7 H locs h hP hS => ?_)
            refine lv_iload_n hx hb dX6_plan_46 rfl (lv_at hl 2 rfl) ?_
            refine lv_if_ge (tgt := 60) hx hb dX6_plan_47 (by decide) (fun c_9 => ?_) (fun c_9 => ?_)
            · have h := h.1 c_9
              refine lv_aload_n hx hb dX6_plan_60 rfl (lv_at hl 0 rfl) ?_
              refine va_get (D := D) (ci := 6) (v := .ref (X.1 17)) (C := RX6) (T := TX6) (N := 16) hx hb hT inX6 hown hK hP 0 cw_Yard rfl 14 (by decide) (hT _ wf_X6_69) (fun _ h9 => h9) rfl dX6_plan_61 ?_
              refine lv_iload_n hx hb dX6_plan_64 rfl (lv_at hl 2 rfl) ?_
              refine cVi (As := [.int x2]) (rest := []) hX ⟨hx, hb, hml, hown, hT⟩ (c_X2_chosenIn l D X hX H.size S_7 x2 _ h) (gd_V wl_X6_200 wi_X2_chosenIn wv_X2_chosenIn wn_X2 wc_X2_chosenIn) rfl hd_X2_chosenIn ⟨rfl, rfl⟩ ⟨Nat.le_of_ble_eq_true rfl, Nat.le_of_ble_eq_true rfl⟩ (va_recv hK hP (ci := 2) (q0 := 17) rfl cw_Planner) hK hP hS hF rfl hl.1 rfl (Nat.le_of_ble_eq_true rfl) dX6_plan_65 ⟨Nat.zero_le _, Nat.zero_le _⟩ (fun r_11 S_10 H locs h hP hS => ?_)
              exact W.iret (v := r_11) hx hb hr (fun t ht hW => ⟨⟨r_11, S_10, rfl, h, gB_of ht hP⟩, hS.F ht⟩) hS.2.2 dX6_plan_68
            · have h := h.2 c_9
              refine lv_aload_n hx hb dX6_plan_50 rfl (lv_at hl 0 rfl) ?_
              refine va_get (D := D) (ci := 6) (v := .ref (X.1 17)) (C := RX6) (T := TX6) (N := 16) hx hb hT inX6 hown hK hP 0 cw_Yard rfl 14 (by decide) (hT _ wf_X6_69) (fun _ h9 => h9) rfl dX6_plan_51 ?_
              refine cVi (As := []) (rest := []) hX ⟨hx, hb, hml, hown, hT⟩ (c_X2_mostTwigs l D X hX H.size S_7  _ h) (gd_V wl_X6_197 wi_X2_mostTwigs wv_X2_mostTwigs wn_X2 wc_X2_mostTwigs) rfl hd_X2_mostTwigs ⟨rfl, rfl⟩ ⟨Nat.le_of_ble_eq_true rfl, Nat.le_of_ble_eq_true rfl⟩ (va_recv hK hP (ci := 2) (q0 := 17) rfl cw_Planner) hK hP hS hF rfl hl.1 rfl (Nat.le_of_ble_eq_true rfl) dX6_plan_54 ⟨Nat.zero_le _, Nat.zero_le _⟩ (fun r_13 S_12 H locs h hP hS => ?_)
              refine lv_goto (tgt := 68) hx hb dX6_plan_57 (by decide) ?_
              exact W.iret (v := r_13) hx hb hr (fun t ht hW => ⟨⟨r_13, S_12, rfl, h, gB_of ht hP⟩, hS.F ht⟩) hS.2.2 dX6_plan_68
          · have h := h.2 c_5
            refine lv_bipush (v := (-9)) hx hb dX6_plan_27 (by decide) ?_
            exact W.iret (v := (-9)) hx hb hr (fun t ht hW => ⟨⟨(-9), S, rfl, h, gB_of ht hP⟩, hS.F ht⟩) hS.2.2 dX6_plan_29
        · have h := h.2 c_4
          refine lv_iconst (v := (-1)) hx hb dX6_plan_20 (by decide) ?_
          exact W.iret (v := (-1)) hx hb hr (fun t ht hW => ⟨⟨(-1), S, rfl, h, gB_of ht hP⟩, hS.F ht⟩) hS.2.2 dX6_plan_21

abbrev rm_X6_coinsOf : Room := { frames := 2, cells := 0, slots := 0, locals := 43 }
def q_X6_coinsOf_4 (x1 : Int32) (post : Int32 → CS → Prop) : Nat → Int32 → Int32 → CS → Prop
  | 0, _, _, _ => False
  | n9 + 1, y2, y3, S => (S.2.1 < 2) ∧ (p_X5_orders S S.2.1 (fun r_3 S_2 => ((r_3 ≤ y3 → (post y2 S_2)) ∧ (¬ (r_3 ≤ y3) → ((((x1 >>> (y3 &&& 31)) &&& 1) = 1 → ((S_2.2.1 < 2) ∧ (p_X5_value S_2 S_2.2.1 4 y3 (fun r_9 S_8 => (∀ x2_10 : Int32, x2_10 = (y2 + r_9) → (∀ x3_11 : Int32, x3_11 = y3 + 1 → (q_X6_coinsOf_4 x1 post n9 x2_10 x3_11 S_8))))))) ∧ (¬ (((x1 >>> (y3 &&& 31)) &&& 1) = 1) → (∀ x3_6 : Int32, x3_6 = y3 + 1 → (q_X6_coinsOf_4 x1 post n9 y2 x3_6 S_2))))))))
def p_X6_coinsOf (S : CS) (x1 : Int32) (post : Int32 → CS → Prop) : Prop := ∃ n, q_X6_coinsOf_4 x1 post n 0 0 S
set_option maxHeartbeats 4000000 in
set_option maxRecDepth 100000 in
theorem c_X6_coinsOf (l : Launch) (D : va_G) (X : XE) (hX : Inj 75 X.1) (sz : Nat) (S : CS) (x1 : Int32) (post : Int32 → CS → Prop) (h : p_X6_coinsOf S x1 post) : Met l yX6_coinsOf (Cond.code yX6_coinsOf cX6_coinsOf 4 (some .int) :: lw_gd) rm_X6_coinsOf (gPc D (tyX X) (CW X) (FXc X) (AX 75 X.1 sz) sz S [.ref (X.1 0), .int x1]) (va_Qi post (gB D (CW X)) (AX 75 X.1 sz)) 0 0 (AX 75 X.1 sz) := by
  refine Met.ofW (cc := cX6_coinsOf) (maxL := 4) (ret := (some .int)) (by decide) rfl ?_
  intro p e s m args below meth c s₁ B hml hv
  obtain ⟨rfl, hsz, hP, hK, hF⟩ := hv
  have hx := B.exec
  have hb := B.bytes
  have hr := B.returns
  have hts := atoms_spec (ws := (Cond.code yX6_coinsOf cX6_coinsOf 4 (some .int) :: lw_gd)) B.pre
  have hT : ∀ w ∈ lw_gd, w.before _ s = true := fun w h9 => hts w (List.mem_cons_of_mem _ h9)
  have hown : s.vm.findClass RX6 = some m.cls := findClass_of_methodNamed B.named
  have hlocks := B.notSynchronized
  subst hsz
  have hS : va_S (AX 75 X.1 s.heap.size) s.heap s.heap [] := va_S.rf
  have W4 : ∀ n1 : Nat, ∀ (y2 : Int32) (y3 : Int32) (S : CS) (H : Heap) (locs : List Loc) (ls : Array Slot), va_P D vwCl (CW X S) H → va_S (AX 75 X.1 s.heap.size) s.heap H locs → lv_has ls 4 [(0, .ref (X.1 0)), (1, .int x1), (2, .int y2), (3, .int y3)] → q_X6_coinsOf_4 x1 post n1 y2 y3 S → W p l e (headSpec (Cond.code yX6_coinsOf cX6_coinsOf 4 (some .int) :: lw_gd) rm_X6_coinsOf).room s m ([.ref (X.1 0), .int x1] : List Value).toArray below meth c H locs 0 0 (MQ below (va_Qi post (gB D (CW X)) (AX 75 X.1 s.heap.size)) ([.ref (X.1 0), .int x1] : List Value).toArray s 0 0 (AX 75 X.1 s.heap.size)) (F0 m 4 ls []) := by
    intro n1
    induction n1 with
    | zero => intro y2 y3 S H locs ls hP hS hl h; exact h.elim
    | succ n9 ih =>
      intro y2 y3 S H locs ls hP hS hl h
      rw [q_X6_coinsOf_4] at h
      refine lv_iload_n hx hb dX6_coinsOf_4 rfl (lv_at hl 3 rfl) ?_
      refine lv_aload_n hx hb dX6_coinsOf_5 rfl (lv_at hl 0 rfl) ?_
      obtain ⟨ht_1, h⟩ := h
      refine va_get (D := D) (ci := 6) (v := .ref (X.1 (to S.2.1))) (C := RX6) (T := TX6) (N := 16) hx hb hT inX6 hown hK hP 0 cw_Yard rfl 1 (by decide) (hT _ wf_X6_19) (fun _ h9 => h9) rfl dX6_coinsOf_6 ?_
      refine cVi (As := []) (rest := [.int y3]) hX ⟨hx, hb, hml, hown, hT⟩ (c_X5_orders l D X hX H.size S S.2.1 (by omega) _ h) (gd_V wl_X6_203 wi_X5_orders wv_X5_orders wn_X5 wc_X5_orders) rfl hd_X5_orders ⟨rfl, rfl⟩ ⟨Nat.le_of_ble_eq_true rfl, Nat.le_of_ble_eq_true rfl⟩ (va_recv hK hP (ci := 5) (q0 := (to S.2.1)) rfl (cw_Told (t := S.2.1) (by omega))) hK hP hS hF rfl hl.1 rfl (Nat.le_of_ble_eq_true rfl) dX6_coinsOf_9 ⟨Nat.zero_le _, Nat.zero_le _⟩ (fun r_3 S_2 H locs h hP hS => ?_)
      refine lv_icmp_ge (tgt := 42) hx hb dX6_coinsOf_12 (by decide) (fun c_4 => ?_) (fun c_4 => ?_)
      · have h := h.1 c_4
        refine lv_iload_n hx hb dX6_coinsOf_42 rfl (lv_at hl 2 rfl) ?_
        exact W.iret (v := y2) hx hb hr (fun t ht hW => ⟨⟨y2, S_2, rfl, h, gB_of ht hP⟩, hS.F ht⟩) hS.2.2 dX6_coinsOf_43
      · have h := h.2 c_4
        refine lv_iload_n hx hb dX6_coinsOf_15 rfl (lv_at hl 1 rfl) ?_
        refine lv_iload_n hx hb dX6_coinsOf_16 rfl (lv_at hl 3 rfl) ?_
        refine lv_ishr hx hb dX6_coinsOf_17 ?_
        refine lv_iconst (v := 1) hx hb dX6_coinsOf_18 (by decide) ?_
        refine lv_iand hx hb dX6_coinsOf_19 ?_
        refine lv_iconst (v := 1) hx hb dX6_coinsOf_20 (by decide) ?_
        refine lv_icmp_ne (tgt := 36) hx hb dX6_coinsOf_21 (by decide) (fun c_5 => ?_) (fun c_5 => ?_)
        · have h := h.2 c_5
          obtain ⟨x3_6, ex3_6⟩ : ∃ z : Int32, z = y3 + 1 := ⟨_, rfl⟩
          refine lv_iinc (v := x3_6) (lv' := [(3, .int x3_6), (0, .ref (X.1 0)), (1, .int x1), (2, .int y2)]) hx hb dX6_coinsOf_36 hl (k := 3) rfl (by rw [ex3_6]; rfl) (by decide) rfl (fun ls hl => ?_)
          have h := h x3_6 ex3_6
          refine lv_goto (tgt := 4) hx hb dX6_coinsOf_39 (by decide) ?_
          exact ih y2 x3_6 S_2 H locs ls hP hS (lv_sub hl [1, 2, 3, 0] rfl) h
        · have h := h.1 c_5
          refine lv_iload_n hx hb dX6_coinsOf_24 rfl (lv_at hl 2 rfl) ?_
          refine lv_aload_n hx hb dX6_coinsOf_25 rfl (lv_at hl 0 rfl) ?_
          obtain ⟨ht_7, h⟩ := h
          refine va_get (D := D) (ci := 6) (v := .ref (X.1 (to S_2.2.1))) (C := RX6) (T := TX6) (N := 16) hx hb hT inX6 hown hK hP 0 cw_Yard rfl 1 (by decide) (hT _ wf_X6_19) (fun _ h9 => h9) rfl dX6_coinsOf_26 ?_
          refine lv_iconst (v := 4) hx hb dX6_coinsOf_29 (by decide) ?_
          refine lv_iload_n hx hb dX6_coinsOf_30 rfl (lv_at hl 3 rfl) ?_
          refine cVi (As := [.int 4, .int y3]) (rest := [.int y2]) hX ⟨hx, hb, hml, hown, hT⟩ (c_X5_value l D X hX H.size S_2 S_2.2.1 (by omega) 4 y3 _ h) (gd_V wl_X6_95 wi_X5_value wv_X5_value wn_X5 wc_X5_value) rfl hd_X5_value ⟨rfl, rfl⟩ ⟨Nat.le_of_ble_eq_true rfl, Nat.le_of_ble_eq_true rfl⟩ (va_recv hK hP (ci := 5) (q0 := (to S_2.2.1)) rfl (cw_Told (t := S_2.2.1) (by omega))) hK hP hS hF rfl hl.1 rfl (Nat.le_of_ble_eq_true rfl) dX6_coinsOf_31 ⟨Nat.zero_le _, Nat.zero_le _⟩ (fun r_9 S_8 H locs h hP hS => ?_)
          refine lv_iadd hx hb dX6_coinsOf_34 ?_
          refine lv_topi (fun x2_10 ex2_10 => ?_)
          have h := h x2_10 ex2_10
          refine lv_istore_n (lv' := [(2, .int x2_10), (0, .ref (X.1 0)), (1, .int x1), (3, .int y3)]) hx hb dX6_coinsOf_35 rfl hl (by decide) rfl (fun ls hl => ?_)
          obtain ⟨x3_11, ex3_11⟩ : ∃ z : Int32, z = y3 + 1 := ⟨_, rfl⟩
          refine lv_iinc (v := x3_11) (lv' := [(3, .int x3_11), (2, .int x2_10), (0, .ref (X.1 0)), (1, .int x1)]) hx hb dX6_coinsOf_36 hl (k := 3) rfl (by rw [ex3_11]; rfl) (by decide) rfl (fun ls hl => ?_)
          have h := h x3_11 ex3_11
          refine lv_goto (tgt := 4) hx hb dX6_coinsOf_39 (by decide) ?_
          exact ih x2_10 x3_11 S_8 H locs ls hP hS (lv_sub hl [2, 3, 1, 0] rfl) h
  have hl := lv_entry ([.ref (X.1 0), .int x1]) (n := 4) (Nat.le_of_ble_eq_true rfl)
  rw [lg_entry_eq]
  generalize (lg_sl ([.ref (X.1 0), .int x1]) ++ List.replicate (4 - (lg_sl ([.ref (X.1 0), .int x1])).length) Slot.unset).toArray = ls at hl ⊢
  have hl : lv_has ls 4 [(0, .ref (X.1 0)), (1, .int x1)] := hl
  obtain ⟨H, hH⟩ : ∃ H : Heap, H = s.heap := ⟨_, rfl⟩
  obtain ⟨locs, hlc⟩ : ∃ q : List Loc, q = [] := ⟨_, rfl⟩
  have hS : va_S (AX 75 X.1 s.heap.size) s.heap H locs := by rw [hH, hlc]; exact hS
  have hP : va_P D vwCl (CW X S) H := by rw [hH]; exact hP
  show W p l e (headSpec (Cond.code yX6_coinsOf cX6_coinsOf 4 (some .int) :: lw_gd) rm_X6_coinsOf).room s m ([.ref (X.1 0), .int x1] : List Value).toArray below meth c s.heap [] 0 0 (MQ below (va_Qi post (gB D (CW X)) (AX 75 X.1 s.heap.size)) ([.ref (X.1 0), .int x1] : List Value).toArray s 0 0 (AX 75 X.1 s.heap.size)) _
  suffices hgo : W p l e (headSpec (Cond.code yX6_coinsOf cX6_coinsOf 4 (some .int) :: lw_gd) rm_X6_coinsOf).room s m ([.ref (X.1 0), .int x1] : List Value).toArray below meth c H locs 0 0 (MQ below (va_Qi post (gB D (CW X)) (AX 75 X.1 s.heap.size)) ([.ref (X.1 0), .int x1] : List Value).toArray s 0 0 (AX 75 X.1 s.heap.size)) (F0 m 0 ls []) from by rw [hH, hlc] at hgo; exact hgo
  unfold p_X6_coinsOf at h
  refine lv_iconst (v := 0) hx hb dX6_coinsOf_0 (by decide) ?_
  refine lv_istore_n (lv' := [(2, .int 0), (0, .ref (X.1 0)), (1, .int x1)]) hx hb dX6_coinsOf_1 rfl hl (by decide) rfl (fun ls hl => ?_)
  refine lv_iconst (v := 0) hx hb dX6_coinsOf_2 (by decide) ?_
  refine lv_istore_n (lv' := [(3, .int 0), (2, .int 0), (0, .ref (X.1 0)), (1, .int x1)]) hx hb dX6_coinsOf_3 rfl hl (by decide) rfl (fun ls hl => ?_)
  obtain ⟨n1, h⟩ := h
  exact W4  n1 0 0 S H locs ls hP hS (lv_sub hl [2, 3, 1, 0] rfl) h

abbrev rm_X6_cutDownwards : Room := { frames := 0, cells := 0, slots := 0, locals := 0 }
def p_X6_cutDownwards (S : CS) (x0 : Int32) (x1 : Int32) (post : Int32 → CS → Prop) : Prop := (1 ≤ x1 → ((¬ x1 = 0) ∧ (post (x0 / x1) S))) ∧ (¬ (1 ≤ x1) → (post 0 S))
set_option maxHeartbeats 4000000 in
set_option maxRecDepth 100000 in
theorem c_X6_cutDownwards (l : Launch) (D : va_G) (X : XE) (hX : Inj 75 X.1) (sz : Nat) (S : CS) (x0 : Int32) (x1 : Int32) (post : Int32 → CS → Prop) (h : p_X6_cutDownwards S x0 x1 post) : Met l yX6_cutDownwards (Cond.code yX6_cutDownwards cX6_cutDownwards 2 (some .int) :: lw_gd) rm_X6_cutDownwards (gPc D (tyX X) (CW X) (FXc X) (AX 75 X.1 sz) sz S [.int x0, .int x1]) (va_Qi post (gB D (CW X)) (AX 75 X.1 sz)) 0 0 (AX 75 X.1 sz) := by
  refine Met.ofW (cc := cX6_cutDownwards) (maxL := 2) (ret := (some .int)) (by decide) rfl ?_
  intro p e s m args below meth c s₁ B hml hv
  obtain ⟨rfl, hsz, hP, hK, hF⟩ := hv
  have hx := B.exec
  have hb := B.bytes
  have hr := B.returns
  have hts := atoms_spec (ws := (Cond.code yX6_cutDownwards cX6_cutDownwards 2 (some .int) :: lw_gd)) B.pre
  have hT : ∀ w ∈ lw_gd, w.before _ s = true := fun w h9 => hts w (List.mem_cons_of_mem _ h9)
  have hown : s.vm.findClass RX6 = some m.cls := findClass_of_methodNamed B.named
  have hlocks := B.notSynchronized
  subst hsz
  have hS : va_S (AX 75 X.1 s.heap.size) s.heap s.heap [] := va_S.rf
  have hl := lv_entry ([.int x0, .int x1]) (n := 2) (Nat.le_of_ble_eq_true rfl)
  rw [lg_entry_eq]
  generalize (lg_sl ([.int x0, .int x1]) ++ List.replicate (2 - (lg_sl ([.int x0, .int x1])).length) Slot.unset).toArray = ls at hl ⊢
  have hl : lv_has ls 2 [(0, .int x0), (1, .int x1)] := hl
  obtain ⟨H, hH⟩ : ∃ H : Heap, H = s.heap := ⟨_, rfl⟩
  obtain ⟨locs, hlc⟩ : ∃ q : List Loc, q = [] := ⟨_, rfl⟩
  have hS : va_S (AX 75 X.1 s.heap.size) s.heap H locs := by rw [hH, hlc]; exact hS
  have hP : va_P D vwCl (CW X S) H := by rw [hH]; exact hP
  show W p l e (headSpec (Cond.code yX6_cutDownwards cX6_cutDownwards 2 (some .int) :: lw_gd) rm_X6_cutDownwards).room s m ([.int x0, .int x1] : List Value).toArray below meth c s.heap [] 0 0 (MQ below (va_Qi post (gB D (CW X)) (AX 75 X.1 s.heap.size)) ([.int x0, .int x1] : List Value).toArray s 0 0 (AX 75 X.1 s.heap.size)) _
  suffices hgo : W p l e (headSpec (Cond.code yX6_cutDownwards cX6_cutDownwards 2 (some .int) :: lw_gd) rm_X6_cutDownwards).room s m ([.int x0, .int x1] : List Value).toArray below meth c H locs 0 0 (MQ below (va_Qi post (gB D (CW X)) (AX 75 X.1 s.heap.size)) ([.int x0, .int x1] : List Value).toArray s 0 0 (AX 75 X.1 s.heap.size)) (F0 m 0 ls []) from by rw [hH, hlc] at hgo; exact hgo
  unfold p_X6_cutDownwards at h
  refine lv_iload_n hx hb dX6_cutDownwards_0 rfl (lv_at hl 1 rfl) ?_
  refine lv_iconst (v := 1) hx hb dX6_cutDownwards_1 (by decide) ?_
  refine lv_icmp_ge (tgt := 9) hx hb dX6_cutDownwards_2 (by decide) (fun c_1 => ?_) (fun c_1 => ?_)
  · have h := h.1 c_1
    refine lv_iload_n hx hb dX6_cutDownwards_9 rfl (lv_at hl 0 rfl) ?_
    refine lv_iload_n hx hb dX6_cutDownwards_10 rfl (lv_at hl 1 rfl) ?_
    obtain ⟨hne, h⟩ := h
    refine lv_idiv hx hb dX6_cutDownwards_11 hne ?_
    exact W.iret (v := (x0 / x1)) hx hb hr (fun t ht hW => ⟨⟨(x0 / x1), S, rfl, h, gB_of ht hP⟩, hS.F ht⟩) hS.2.2 dX6_cutDownwards_12
  · have h := h.2 c_1
    refine lv_iconst (v := 0) hx hb dX6_cutDownwards_5 (by decide) ?_
    refine lv_goto (tgt := 12) hx hb dX6_cutDownwards_6 (by decide) ?_
    exact W.iret (v := 0) hx hb hr (fun t ht hW => ⟨⟨0, S, rfl, h, gB_of ht hP⟩, hS.F ht⟩) hS.2.2 dX6_cutDownwards_12

abbrev rm_X6_besomsDueBy : Room := { frames := 2, cells := 0, slots := 0, locals := 43 }
def q_X6_besomsDueBy_5 (x1 : Int32) (x2 : Int32) (post : Int32 → CS → Prop) : Nat → Int32 → Int32 → CS → Prop
  | 0, _, _, _ => False
  | n9 + 1, y3, y4, S => (S.2.1 < 2) ∧ (p_X5_orders S S.2.1 (fun r_3 S_2 => ((r_3 ≤ y4 → (post y3 S_2)) ∧ (¬ (r_3 ≤ y4) → ((((x1 >>> (y4 &&& 31)) &&& 1) = 1 → ((S_2.2.1 < 2) ∧ (p_X5_value S_2 S_2.2.1 2 y4 (fun r_9 S_8 => ((x2 < r_9 → (∀ x4_11 : Int32, x4_11 = y4 + 1 → (q_X6_besomsDueBy_5 x1 x2 post n9 y3 x4_11 S_8))) ∧ (¬ (x2 < r_9) → ((S_8.2.1 < 2) ∧ (p_X5_value S_8 S_8.2.1 3 y4 (fun r_14 S_13 => (∀ x3_15 : Int32, x3_15 = (y3 + r_14) → (∀ x4_16 : Int32, x4_16 = y4 + 1 → (q_X6_besomsDueBy_5 x1 x2 post n9 x3_15 x4_16 S_13)))))))))))) ∧ (¬ (((x1 >>> (y4 &&& 31)) &&& 1) = 1) → (∀ x4_6 : Int32, x4_6 = y4 + 1 → (q_X6_besomsDueBy_5 x1 x2 post n9 y3 x4_6 S_2))))))))
def p_X6_besomsDueBy (S : CS) (x1 : Int32) (x2 : Int32) (post : Int32 → CS → Prop) : Prop := ∃ n, q_X6_besomsDueBy_5 x1 x2 post n 0 0 S
set_option maxHeartbeats 4000000 in
set_option maxRecDepth 100000 in
theorem c_X6_besomsDueBy (l : Launch) (D : va_G) (X : XE) (hX : Inj 75 X.1) (sz : Nat) (S : CS) (x1 : Int32) (x2 : Int32) (post : Int32 → CS → Prop) (h : p_X6_besomsDueBy S x1 x2 post) : Met l yX6_besomsDueBy (Cond.code yX6_besomsDueBy cX6_besomsDueBy 5 (some .int) :: lw_gd) rm_X6_besomsDueBy (gPc D (tyX X) (CW X) (FXc X) (AX 75 X.1 sz) sz S [.ref (X.1 0), .int x1, .int x2]) (va_Qi post (gB D (CW X)) (AX 75 X.1 sz)) 0 0 (AX 75 X.1 sz) := by
  refine Met.ofW (cc := cX6_besomsDueBy) (maxL := 5) (ret := (some .int)) (by decide) rfl ?_
  intro p e s m args below meth c s₁ B hml hv
  obtain ⟨rfl, hsz, hP, hK, hF⟩ := hv
  have hx := B.exec
  have hb := B.bytes
  have hr := B.returns
  have hts := atoms_spec (ws := (Cond.code yX6_besomsDueBy cX6_besomsDueBy 5 (some .int) :: lw_gd)) B.pre
  have hT : ∀ w ∈ lw_gd, w.before _ s = true := fun w h9 => hts w (List.mem_cons_of_mem _ h9)
  have hown : s.vm.findClass RX6 = some m.cls := findClass_of_methodNamed B.named
  have hlocks := B.notSynchronized
  subst hsz
  have hS : va_S (AX 75 X.1 s.heap.size) s.heap s.heap [] := va_S.rf
  have W5 : ∀ n1 : Nat, ∀ (y3 : Int32) (y4 : Int32) (S : CS) (H : Heap) (locs : List Loc) (ls : Array Slot), va_P D vwCl (CW X S) H → va_S (AX 75 X.1 s.heap.size) s.heap H locs → lv_has ls 5 [(0, .ref (X.1 0)), (1, .int x1), (2, .int x2), (3, .int y3), (4, .int y4)] → q_X6_besomsDueBy_5 x1 x2 post n1 y3 y4 S → W p l e (headSpec (Cond.code yX6_besomsDueBy cX6_besomsDueBy 5 (some .int) :: lw_gd) rm_X6_besomsDueBy).room s m ([.ref (X.1 0), .int x1, .int x2] : List Value).toArray below meth c H locs 0 0 (MQ below (va_Qi post (gB D (CW X)) (AX 75 X.1 s.heap.size)) ([.ref (X.1 0), .int x1, .int x2] : List Value).toArray s 0 0 (AX 75 X.1 s.heap.size)) (F0 m 5 ls []) := by
    intro n1
    induction n1 with
    | zero => intro y3 y4 S H locs ls hP hS hl h; exact h.elim
    | succ n9 ih =>
      intro y3 y4 S H locs ls hP hS hl h
      rw [q_X6_besomsDueBy_5] at h
      refine lv_iload hx hb dX6_besomsDueBy_5 (lv_at hl 4 rfl) ?_
      refine lv_aload_n hx hb dX6_besomsDueBy_7 rfl (lv_at hl 0 rfl) ?_
      obtain ⟨ht_1, h⟩ := h
      refine va_get (D := D) (ci := 6) (v := .ref (X.1 (to S.2.1))) (C := RX6) (T := TX6) (N := 16) hx hb hT inX6 hown hK hP 0 cw_Yard rfl 1 (by decide) (hT _ wf_X6_19) (fun _ h9 => h9) rfl dX6_besomsDueBy_8 ?_
      refine cVi (As := []) (rest := [.int y4]) hX ⟨hx, hb, hml, hown, hT⟩ (c_X5_orders l D X hX H.size S S.2.1 (by omega) _ h) (gd_V wl_X6_203 wi_X5_orders wv_X5_orders wn_X5 wc_X5_orders) rfl hd_X5_orders ⟨rfl, rfl⟩ ⟨Nat.le_of_ble_eq_true rfl, Nat.le_of_ble_eq_true rfl⟩ (va_recv hK hP (ci := 5) (q0 := (to S.2.1)) rfl (cw_Told (t := S.2.1) (by omega))) hK hP hS hF rfl hl.1 rfl (Nat.le_of_ble_eq_true rfl) dX6_besomsDueBy_11 ⟨Nat.zero_le _, Nat.zero_le _⟩ (fun r_3 S_2 H locs h hP hS => ?_)
      refine lv_icmp_ge (tgt := 60) hx hb dX6_besomsDueBy_14 (by decide) (fun c_4 => ?_) (fun c_4 => ?_)
      · have h := h.1 c_4
        refine lv_iload_n hx hb dX6_besomsDueBy_60 rfl (lv_at hl 3 rfl) ?_
        exact W.iret (v := y3) hx hb hr (fun t ht hW => ⟨⟨y3, S_2, rfl, h, gB_of ht hP⟩, hS.F ht⟩) hS.2.2 dX6_besomsDueBy_61
      · have h := h.2 c_4
        refine lv_iload_n hx hb dX6_besomsDueBy_17 rfl (lv_at hl 1 rfl) ?_
        refine lv_iload hx hb dX6_besomsDueBy_18 (lv_at hl 4 rfl) ?_
        refine lv_ishr hx hb dX6_besomsDueBy_20 ?_
        refine lv_iconst (v := 1) hx hb dX6_besomsDueBy_21 (by decide) ?_
        refine lv_iand hx hb dX6_besomsDueBy_22 ?_
        refine lv_iconst (v := 1) hx hb dX6_besomsDueBy_23 (by decide) ?_
        refine lv_icmp_ne (tgt := 54) hx hb dX6_besomsDueBy_24 (by decide) (fun c_5 => ?_) (fun c_5 => ?_)
        · have h := h.2 c_5
          obtain ⟨x4_6, ex4_6⟩ : ∃ z : Int32, z = y4 + 1 := ⟨_, rfl⟩
          refine lv_iinc (v := x4_6) (lv' := [(4, .int x4_6), (0, .ref (X.1 0)), (1, .int x1), (2, .int x2), (3, .int y3)]) hx hb dX6_besomsDueBy_54 hl (k := 4) rfl (by rw [ex4_6]; rfl) (by decide) rfl (fun ls hl => ?_)
          have h := h x4_6 ex4_6
          refine lv_goto (tgt := 5) hx hb dX6_besomsDueBy_57 (by decide) ?_
          exact ih y3 x4_6 S_2 H locs ls hP hS (lv_sub hl [1, 2, 3, 4, 0] rfl) h
        · have h := h.1 c_5
          refine lv_aload_n hx hb dX6_besomsDueBy_27 rfl (lv_at hl 0 rfl) ?_
          obtain ⟨ht_7, h⟩ := h
          refine va_get (D := D) (ci := 6) (v := .ref (X.1 (to S_2.2.1))) (C := RX6) (T := TX6) (N := 16) hx hb hT inX6 hown hK hP 0 cw_Yard rfl 1 (by decide) (hT _ wf_X6_19) (fun _ h9 => h9) rfl dX6_besomsDueBy_28 ?_
          refine lv_iconst (v := 2) hx hb dX6_besomsDueBy_31 (by decide) ?_
          refine lv_iload hx hb dX6_besomsDueBy_32 (lv_at hl 4 rfl) ?_
          refine cVi (As := [.int 2, .int y4]) (rest := []) hX ⟨hx, hb, hml, hown, hT⟩ (c_X5_value l D X hX H.size S_2 S_2.2.1 (by omega) 2 y4 _ h) (gd_V wl_X6_95 wi_X5_value wv_X5_value wn_X5 wc_X5_value) rfl hd_X5_value ⟨rfl, rfl⟩ ⟨Nat.le_of_ble_eq_true rfl, Nat.le_of_ble_eq_true rfl⟩ (va_recv hK hP (ci := 5) (q0 := (to S_2.2.1)) rfl (cw_Told (t := S_2.2.1) (by omega))) hK hP hS hF rfl hl.1 rfl (Nat.le_of_ble_eq_true rfl) dX6_besomsDueBy_34 ⟨Nat.zero_le _, Nat.zero_le _⟩ (fun r_9 S_8 H locs h hP hS => ?_)
          refine lv_iload_n hx hb dX6_besomsDueBy_37 rfl (lv_at hl 2 rfl) ?_
          refine lv_icmp_gt (tgt := 54) hx hb dX6_besomsDueBy_38 (by decide) (fun c_10 => ?_) (fun c_10 => ?_)
          · have h := h.1 c_10
            obtain ⟨x4_11, ex4_11⟩ : ∃ z : Int32, z = y4 + 1 := ⟨_, rfl⟩
            refine lv_iinc (v := x4_11) (lv' := [(4, .int x4_11), (0, .ref (X.1 0)), (1, .int x1), (2, .int x2), (3, .int y3)]) hx hb dX6_besomsDueBy_54 hl (k := 4) rfl (by rw [ex4_11]; rfl) (by decide) rfl (fun ls hl => ?_)
            have h := h x4_11 ex4_11
            refine lv_goto (tgt := 5) hx hb dX6_besomsDueBy_57 (by decide) ?_
            exact ih y3 x4_11 S_8 H locs ls hP hS (lv_sub hl [1, 2, 3, 4, 0] rfl) h
          · have h := h.2 c_10
            refine lv_iload_n hx hb dX6_besomsDueBy_41 rfl (lv_at hl 3 rfl) ?_
            refine lv_aload_n hx hb dX6_besomsDueBy_42 rfl (lv_at hl 0 rfl) ?_
            obtain ⟨ht_12, h⟩ := h
            refine va_get (D := D) (ci := 6) (v := .ref (X.1 (to S_8.2.1))) (C := RX6) (T := TX6) (N := 16) hx hb hT inX6 hown hK hP 0 cw_Yard rfl 1 (by decide) (hT _ wf_X6_19) (fun _ h9 => h9) rfl dX6_besomsDueBy_43 ?_
            refine lv_iconst (v := 3) hx hb dX6_besomsDueBy_46 (by decide) ?_
            refine lv_iload hx hb dX6_besomsDueBy_47 (lv_at hl 4 rfl) ?_
            refine cVi (As := [.int 3, .int y4]) (rest := [.int y3]) hX ⟨hx, hb, hml, hown, hT⟩ (c_X5_value l D X hX H.size S_8 S_8.2.1 (by omega) 3 y4 _ h) (gd_V wl_X6_95 wi_X5_value wv_X5_value wn_X5 wc_X5_value) rfl hd_X5_value ⟨rfl, rfl⟩ ⟨Nat.le_of_ble_eq_true rfl, Nat.le_of_ble_eq_true rfl⟩ (va_recv hK hP (ci := 5) (q0 := (to S_8.2.1)) rfl (cw_Told (t := S_8.2.1) (by omega))) hK hP hS hF rfl hl.1 rfl (Nat.le_of_ble_eq_true rfl) dX6_besomsDueBy_49 ⟨Nat.zero_le _, Nat.zero_le _⟩ (fun r_14 S_13 H locs h hP hS => ?_)
            refine lv_iadd hx hb dX6_besomsDueBy_52 ?_
            refine lv_topi (fun x3_15 ex3_15 => ?_)
            have h := h x3_15 ex3_15
            refine lv_istore_n (lv' := [(3, .int x3_15), (0, .ref (X.1 0)), (1, .int x1), (2, .int x2), (4, .int y4)]) hx hb dX6_besomsDueBy_53 rfl hl (by decide) rfl (fun ls hl => ?_)
            obtain ⟨x4_16, ex4_16⟩ : ∃ z : Int32, z = y4 + 1 := ⟨_, rfl⟩
            refine lv_iinc (v := x4_16) (lv' := [(4, .int x4_16), (3, .int x3_15), (0, .ref (X.1 0)), (1, .int x1), (2, .int x2)]) hx hb dX6_besomsDueBy_54 hl (k := 4) rfl (by rw [ex4_16]; rfl) (by decide) rfl (fun ls hl => ?_)
            have h := h x4_16 ex4_16
            refine lv_goto (tgt := 5) hx hb dX6_besomsDueBy_57 (by decide) ?_
            exact ih x3_15 x4_16 S_13 H locs ls hP hS (lv_sub hl [2, 3, 4, 1, 0] rfl) h
  have hl := lv_entry ([.ref (X.1 0), .int x1, .int x2]) (n := 5) (Nat.le_of_ble_eq_true rfl)
  rw [lg_entry_eq]
  generalize (lg_sl ([.ref (X.1 0), .int x1, .int x2]) ++ List.replicate (5 - (lg_sl ([.ref (X.1 0), .int x1, .int x2])).length) Slot.unset).toArray = ls at hl ⊢
  have hl : lv_has ls 5 [(0, .ref (X.1 0)), (1, .int x1), (2, .int x2)] := hl
  obtain ⟨H, hH⟩ : ∃ H : Heap, H = s.heap := ⟨_, rfl⟩
  obtain ⟨locs, hlc⟩ : ∃ q : List Loc, q = [] := ⟨_, rfl⟩
  have hS : va_S (AX 75 X.1 s.heap.size) s.heap H locs := by rw [hH, hlc]; exact hS
  have hP : va_P D vwCl (CW X S) H := by rw [hH]; exact hP
  show W p l e (headSpec (Cond.code yX6_besomsDueBy cX6_besomsDueBy 5 (some .int) :: lw_gd) rm_X6_besomsDueBy).room s m ([.ref (X.1 0), .int x1, .int x2] : List Value).toArray below meth c s.heap [] 0 0 (MQ below (va_Qi post (gB D (CW X)) (AX 75 X.1 s.heap.size)) ([.ref (X.1 0), .int x1, .int x2] : List Value).toArray s 0 0 (AX 75 X.1 s.heap.size)) _
  suffices hgo : W p l e (headSpec (Cond.code yX6_besomsDueBy cX6_besomsDueBy 5 (some .int) :: lw_gd) rm_X6_besomsDueBy).room s m ([.ref (X.1 0), .int x1, .int x2] : List Value).toArray below meth c H locs 0 0 (MQ below (va_Qi post (gB D (CW X)) (AX 75 X.1 s.heap.size)) ([.ref (X.1 0), .int x1, .int x2] : List Value).toArray s 0 0 (AX 75 X.1 s.heap.size)) (F0 m 0 ls []) from by rw [hH, hlc] at hgo; exact hgo
  unfold p_X6_besomsDueBy at h
  refine lv_iconst (v := 0) hx hb dX6_besomsDueBy_0 (by decide) ?_
  refine lv_istore_n (lv' := [(3, .int 0), (0, .ref (X.1 0)), (1, .int x1), (2, .int x2)]) hx hb dX6_besomsDueBy_1 rfl hl (by decide) rfl (fun ls hl => ?_)
  refine lv_iconst (v := 0) hx hb dX6_besomsDueBy_2 (by decide) ?_
  refine lv_istore (lv' := [(4, .int 0), (3, .int 0), (0, .ref (X.1 0)), (1, .int x1), (2, .int x2)]) hx hb dX6_besomsDueBy_3 hl (by decide) rfl (fun ls hl => ?_)
  obtain ⟨n1, h⟩ := h
  exact W5  n1 0 0 S H locs ls hP hS (lv_sub hl [2, 3, 4, 1, 0] rfl) h

abbrev rm_X6_canBeKept : Room := { frames := 3, cells := 0, slots := 0, locals := 67 }
def q_X6_canBeKept_20 (x1 : Int32) (post : Int32 → CS → Prop) : Nat → Int32 → Int32 → CS → Prop
  | 0, _, _, _ => False
  | n9 + 1, y2, y3, S => (S.2.1 < 2) ∧ (p_X5_orders S S.2.1 (fun r_8 S_7 => ((r_8 ≤ y3 → (post 1 S_7)) ∧ (¬ (r_8 ≤ y3) → ((((x1 >>> (y3 &&& 31)) &&& 1) = 0 → (∀ x3_28 : Int32, x3_28 = y3 + 1 → (q_X6_canBeKept_20 x1 post n9 y2 x3_28 S_7))) ∧ (¬ (((x1 >>> (y3 &&& 31)) &&& 1) = 0) → ((S_7.2.1 < 2) ∧ (p_X5_value S_7 S_7.2.1 2 y3 (fun r_13 S_12 => ((S_12.2.1 < 2) ∧ (p_X5_pace S_12 S_12.2.1 (fun r_16 S_15 => (∀ x5_17 : Int32, x5_17 = (if (r_16 * (if 0 < (r_13 - (S_15.1 (mo 0) 4)) then (r_13 - (S_15.1 (mo 0) 4)) else 0)) < y2 then (r_16 * (if 0 < (r_13 - (S_15.1 (mo 0) 4)) then (r_13 - (S_15.1 (mo 0) 4)) else 0)) else y2) → (p_X1_wasSent S_15 0 y3 (fun r_19 S_18 => ((r_19 = 0 → (p_X6_isLate S_18 y3 (fun r_22 S_21 => ((r_22 = 0 → (p_X6_besomsDueBy S_21 x1 r_13 (fun r_25 S_24 => ((r_25 ≤ ((S_24.1 (mo 0) 3) + x5_17) → (∀ x3_27 : Int32, x3_27 = y3 + 1 → (q_X6_canBeKept_20 x1 post n9 y2 x3_27 S_24))) ∧ (¬ (r_25 ≤ ((S_24.1 (mo 0) 3) + x5_17)) → (post 0 S_24)))))) ∧ (¬ (r_22 = 0) → (post 0 S_21)))))) ∧ (¬ (r_19 = 0) → (post 0 S_18))))))))))))))))))
def p_X6_canBeKept (S : CS) (x1 : Int32) (post : Int32 → CS → Prop) : Prop := (S.2.1 < 2) ∧ (p_X5_twigs S S.2.1 (fun r_3 S_2 => (p_X6_cutDownwards S_2 (S.1 (mo 0) 2) r_3 (fun r_5 S_4 => (∃ n, q_X6_canBeKept_20 x1 post n r_5 0 S_4)))))
set_option maxHeartbeats 4000000 in
set_option maxRecDepth 100000 in
theorem c_X6_canBeKept (l : Launch) (D : va_G) (X : XE) (hX : Inj 75 X.1) (sz : Nat) (S : CS) (x1 : Int32) (post : Int32 → CS → Prop) (h : p_X6_canBeKept S x1 post) : Met l yX6_canBeKept (Cond.code yX6_canBeKept cX6_canBeKept 6 (some .boolean) :: lw_gd) rm_X6_canBeKept (gPc D (tyX X) (CW X) (FXc X) (AX 75 X.1 sz) sz S [.ref (X.1 0), .int x1]) (va_Qi post (gB D (CW X)) (AX 75 X.1 sz)) 0 0 (AX 75 X.1 sz) := by
  refine Met.ofW (cc := cX6_canBeKept) (maxL := 6) (ret := (some .boolean)) (by decide) rfl ?_
  intro p e s m args below meth c s₁ B hml hv
  obtain ⟨rfl, hsz, hP, hK, hF⟩ := hv
  have hx := B.exec
  have hb := B.bytes
  have hr := B.returns
  have hts := atoms_spec (ws := (Cond.code yX6_canBeKept cX6_canBeKept 6 (some .boolean) :: lw_gd)) B.pre
  have hT : ∀ w ∈ lw_gd, w.before _ s = true := fun w h9 => hts w (List.mem_cons_of_mem _ h9)
  have hown : s.vm.findClass RX6 = some m.cls := findClass_of_methodNamed B.named
  have hlocks := B.notSynchronized
  subst hsz
  have hS : va_S (AX 75 X.1 s.heap.size) s.heap s.heap [] := va_S.rf
  have W20 : ∀ n1 : Nat, ∀ (y2 : Int32) (y3 : Int32) (S : CS) (H : Heap) (locs : List Loc) (ls : Array Slot), va_P D vwCl (CW X S) H → va_S (AX 75 X.1 s.heap.size) s.heap H locs → lv_has ls 6 [(0, .ref (X.1 0)), (1, .int x1), (2, .int y2), (3, .int y3)] → q_X6_canBeKept_20 x1 post n1 y2 y3 S → W p l e (headSpec (Cond.code yX6_canBeKept cX6_canBeKept 6 (some .boolean) :: lw_gd) rm_X6_canBeKept).room s m ([.ref (X.1 0), .int x1] : List Value).toArray below meth c H locs 0 0 (MQ below (va_Qi post (gB D (CW X)) (AX 75 X.1 s.heap.size)) ([.ref (X.1 0), .int x1] : List Value).toArray s 0 0 (AX 75 X.1 s.heap.size)) (F0 m 20 ls []) := by
    intro n1
    induction n1 with
    | zero => intro y2 y3 S H locs ls hP hS hl h; exact h.elim
    | succ n9 ih =>
      intro y2 y3 S H locs ls hP hS hl h
      rw [q_X6_canBeKept_20] at h
      refine lv_iload_n hx hb dX6_canBeKept_20 rfl (lv_at hl 3 rfl) ?_
      refine lv_aload_n hx hb dX6_canBeKept_21 rfl (lv_at hl 0 rfl) ?_
      obtain ⟨ht_6, h⟩ := h
      refine va_get (D := D) (ci := 6) (v := .ref (X.1 (to S.2.1))) (C := RX6) (T := TX6) (N := 16) hx hb hT inX6 hown hK hP 0 cw_Yard rfl 1 (by decide) (hT _ wf_X6_19) (fun _ h9 => h9) rfl dX6_canBeKept_22 ?_
      refine cVi (As := []) (rest := [.int y3]) hX ⟨hx, hb, hml, hown, hT⟩ (c_X5_orders l D X hX H.size S S.2.1 (by omega) _ h) (gd_V wl_X6_203 wi_X5_orders wv_X5_orders wn_X5 wc_X5_orders) rfl hd_X5_orders ⟨rfl, rfl⟩ ⟨Nat.le_of_ble_eq_true rfl, Nat.le_of_ble_eq_true rfl⟩ (va_recv hK hP (ci := 5) (q0 := (to S.2.1)) rfl (cw_Told (t := S.2.1) (by omega))) hK hP hS hF rfl hl.1 rfl (Nat.le_of_ble_eq_true rfl) dX6_canBeKept_25 ⟨Nat.zero_le _, Nat.zero_le _⟩ (fun r_8 S_7 H locs h hP hS => ?_)
      refine lv_icmp_ge (tgt := 128) hx hb dX6_canBeKept_28 (by decide) (fun c_9 => ?_) (fun c_9 => ?_)
      · have h := h.1 c_9
        refine lv_iconst (v := 1) hx hb dX6_canBeKept_128 (by decide) ?_
        exact W.zret (v := 1) hx hb hr rfl (fun t ht hW => ⟨⟨1, S_7, rfl, h, gB_of ht hP⟩, hS.F ht⟩) hS.2.2 dX6_canBeKept_129
      · have h := h.2 c_9
        refine lv_iload_n hx hb dX6_canBeKept_31 rfl (lv_at hl 1 rfl) ?_
        refine lv_iload_n hx hb dX6_canBeKept_32 rfl (lv_at hl 3 rfl) ?_
        refine lv_ishr hx hb dX6_canBeKept_33 ?_
        refine lv_iconst (v := 1) hx hb dX6_canBeKept_34 (by decide) ?_
        refine lv_iand hx hb dX6_canBeKept_35 ?_
        refine lv_if_ne (tgt := 42) hx hb dX6_canBeKept_36 (by decide) (fun c_10 => ?_) (fun c_10 => ?_)
        · have h := h.2 c_10
          refine lv_aload_n hx hb dX6_canBeKept_42 rfl (lv_at hl 0 rfl) ?_
          obtain ⟨ht_11, h⟩ := h
          refine va_get (D := D) (ci := 6) (v := .ref (X.1 (to S_7.2.1))) (C := RX6) (T := TX6) (N := 16) hx hb hT inX6 hown hK hP 0 cw_Yard rfl 1 (by decide) (hT _ wf_X6_19) (fun _ h9 => h9) rfl dX6_canBeKept_43 ?_
          refine lv_iconst (v := 2) hx hb dX6_canBeKept_46 (by decide) ?_
          refine lv_iload_n hx hb dX6_canBeKept_47 rfl (lv_at hl 3 rfl) ?_
          refine cVi (As := [.int 2, .int y3]) (rest := []) hX ⟨hx, hb, hml, hown, hT⟩ (c_X5_value l D X hX H.size S_7 S_7.2.1 (by omega) 2 y3 _ h) (gd_V wl_X6_95 wi_X5_value wv_X5_value wn_X5 wc_X5_value) rfl hd_X5_value ⟨rfl, rfl⟩ ⟨Nat.le_of_ble_eq_true rfl, Nat.le_of_ble_eq_true rfl⟩ (va_recv hK hP (ci := 5) (q0 := (to S_7.2.1)) rfl (cw_Told (t := S_7.2.1) (by omega))) hK hP hS hF rfl hl.1 rfl (Nat.le_of_ble_eq_true rfl) dX6_canBeKept_48 ⟨Nat.zero_le _, Nat.zero_le _⟩ (fun r_13 S_12 H locs h hP hS => ?_)
          refine lv_istore (lv' := [(4, .int r_13), (0, .ref (X.1 0)), (1, .int x1), (2, .int y2), (3, .int y3)]) hx hb dX6_canBeKept_51 hl (by decide) rfl (fun ls hl => ?_)
          refine lv_iload_n hx hb dX6_canBeKept_53 rfl (lv_at hl 3 rfl) ?_
          refine lv_aload_n hx hb dX6_canBeKept_54 rfl (lv_at hl 1 rfl) ?_
          obtain ⟨ht_14, h⟩ := h
          refine va_get (D := D) (ci := 6) (v := .ref (X.1 (to S_12.2.1))) (C := RX6) (T := TX6) (N := 16) hx hb hT inX6 hown hK hP 0 cw_Yard rfl 1 (by decide) (hT _ wf_X6_19) (fun _ h9 => h9) rfl dX6_canBeKept_55 ?_
          refine cVi (As := []) (rest := [.int y2]) hX ⟨hx, hb, hml, hown, hT⟩ (c_X5_pace l D X hX H.size S_12 S_12.2.1 (by omega) _ h) (gd_V wl_X6_158 wi_X5_pace wv_X5_pace wn_X5 wc_X5_pace) rfl hd_X5_pace ⟨rfl, rfl⟩ ⟨Nat.le_of_ble_eq_true rfl, Nat.le_of_ble_eq_true rfl⟩ (va_recv hK hP (ci := 5) (q0 := (to S_12.2.1)) rfl (cw_Told (t := S_12.2.1) (by omega))) hK hP hS hF rfl hl.1 rfl (Nat.le_of_ble_eq_true rfl) dX6_canBeKept_58 ⟨Nat.zero_le _, Nat.zero_le _⟩ (fun r_16 S_15 H locs h hP hS => ?_)
          refine lv_iconst (v := 0) hx hb dX6_canBeKept_61 (by decide) ?_
          refine lv_iload hx hb dX6_canBeKept_62 (lv_at hl 0 rfl) ?_
          refine lv_aload_n hx hb dX6_canBeKept_64 rfl (lv_at hl 1 rfl) ?_
          refine va_get (D := D) (ci := 6) (v := .ref (X.1 (mo 0))) (C := RX6) (T := TX6) (N := 16) hx hb hT inX6 hown hK hP 0 cw_Yard rfl 3 (by decide) (hT _ wf_X6_29) (fun _ h9 => h9) rfl dX6_canBeKept_65 ?_
          refine va_getN (D := D) (ci := 1) (v := .int (S_15.1 (mo 0) 4)) (C := RX1) (T := TX1) (N := 8) hx hb hT inX1 hown hK hP (mo 0) (cw_Moment (m := 0) (by decide)) rfl 4 (by decide) (va_Nw.use rfl hF.1.1.2.2.2.2.1) (fun _ h9 => h9) rfl dX6_canBeKept_68 ?_
          refine lv_isub hx hb dX6_canBeKept_71 ?_
          refine va_mmax hx hb (hml.trans hl.1.symm) hown (hT _ wl_X6_295) (hT _ wt_J9_max_7cf53) (hT _ wn_J9) (hT _ wc_J9_max_7cf53) (Nat.le_of_ble_eq_true rfl) (Nat.le_of_ble_eq_true rfl) (Nat.zero_le _) (Nat.zero_le _) dX6_canBeKept_72 ?_
          refine lv_imul hx hb dX6_canBeKept_75 ?_
          refine va_mmin hx hb (hml.trans hl.1.symm) hown (hT _ wl_X6_287) (hT _ wt_J9_min_7cf53) (hT _ wn_J9) (hT _ wc_J9_min_7cf53) (Nat.le_of_ble_eq_true rfl) (Nat.le_of_ble_eq_true rfl) (Nat.zero_le _) (Nat.zero_le _) dX6_canBeKept_76 ?_
          refine lv_topi (fun x5_17 ex5_17 => ?_)
          have h := h x5_17 ex5_17
          refine lv_istore (lv' := [(5, .int x5_17), (4, .int r_13), (0, .ref (X.1 0)), (1, .int x1), (2, .int y2), (3, .int y3)]) hx hb dX6_canBeKept_79 hl (by decide) rfl (fun ls hl => ?_)
          refine lv_aload_n hx hb dX6_canBeKept_81 rfl (lv_at hl 2 rfl) ?_
          refine va_get (D := D) (ci := 6) (v := .ref (X.1 (mo 0))) (C := RX6) (T := TX6) (N := 16) hx hb hT inX6 hown hK hP 0 cw_Yard rfl 3 (by decide) (hT _ wf_X6_29) (fun _ h9 => h9) rfl dX6_canBeKept_82 ?_
          refine lv_iload_n hx hb dX6_canBeKept_85 rfl (lv_at hl 5 rfl) ?_
          refine cVi (As := [.int y3]) (rest := []) hX ⟨hx, hb, hml, hown, hT⟩ (c_X1_wasSent l D X hX H.size S_15 0 (by decide) y3 _ h) (gd_V wl_X6_109 wi_X1_wasSent wv_X1_wasSent wn_X1 wc_X1_wasSent) rfl hd_X1_wasSent ⟨rfl, rfl⟩ ⟨Nat.le_of_ble_eq_true rfl, Nat.le_of_ble_eq_true rfl⟩ (va_recv hK hP (ci := 1) (q0 := (mo 0)) rfl (cw_Moment (m := 0) (by decide))) hK hP hS hF rfl hl.1 rfl (Nat.le_of_ble_eq_true rfl) dX6_canBeKept_86 ⟨Nat.zero_le _, Nat.zero_le _⟩ (fun r_19 S_18 H locs h hP hS => ?_)
          refine lv_if_ne (tgt := 120) hx hb dX6_canBeKept_89 (by decide) (fun c_20 => ?_) (fun c_20 => ?_)
          · have h := h.2 c_20
            refine lv_iconst (v := 0) hx hb dX6_canBeKept_120 (by decide) ?_
            exact W.zret (v := 0) hx hb hr rfl (fun t ht hW => ⟨⟨0, S_18, rfl, h, gB_of ht hP⟩, hS.F ht⟩) hS.2.2 dX6_canBeKept_121
          · have h := h.1 c_20
            refine lv_aload_n hx hb dX6_canBeKept_92 rfl (lv_at hl 2 rfl) ?_
            refine lv_iload_n hx hb dX6_canBeKept_93 rfl (lv_at hl 5 rfl) ?_
            refine cVi (As := [.int y3]) (rest := []) hX ⟨hx, hb, hml, hown, hT⟩ (c_X6_isLate l D X hX H.size S_18 y3 _ h) (gd_V wl_X6_164 wi_X6_isLate wv_X6_isLate wn_X6 wc_X6_isLate) rfl hd_X6_isLate ⟨rfl, rfl⟩ ⟨Nat.le_of_ble_eq_true rfl, Nat.le_of_ble_eq_true rfl⟩ (va_recv hK hP (ci := 6) (q0 := 0) rfl cw_Yard) hK hP hS hF rfl hl.1 rfl (Nat.le_of_ble_eq_true rfl) dX6_canBeKept_94 ⟨Nat.zero_le _, Nat.zero_le _⟩ (fun r_22 S_21 H locs h hP hS => ?_)
            refine lv_if_ne (tgt := 120) hx hb dX6_canBeKept_97 (by decide) (fun c_23 => ?_) (fun c_23 => ?_)
            · have h := h.2 c_23
              refine lv_iconst (v := 0) hx hb dX6_canBeKept_120 (by decide) ?_
              exact W.zret (v := 0) hx hb hr rfl (fun t ht hW => ⟨⟨0, S_21, rfl, h, gB_of ht hP⟩, hS.F ht⟩) hS.2.2 dX6_canBeKept_121
            · have h := h.1 c_23
              refine lv_aload_n hx hb dX6_canBeKept_100 rfl (lv_at hl 2 rfl) ?_
              refine lv_iload_n hx hb dX6_canBeKept_101 rfl (lv_at hl 3 rfl) ?_
              refine lv_iload hx hb dX6_canBeKept_102 (lv_at hl 1 rfl) ?_
              refine cVi (As := [.int x1, .int r_13]) (rest := []) hX ⟨hx, hb, hml, hown, hT⟩ (c_X6_besomsDueBy l D X hX H.size S_21 x1 r_13 _ h) (gd_V wl_X6_298 wi_X6_besomsDueBy wv_X6_besomsDueBy wn_X6 wc_X6_besomsDueBy) rfl hd_X6_besomsDueBy ⟨rfl, rfl⟩ ⟨Nat.le_of_ble_eq_true rfl, Nat.le_of_ble_eq_true rfl⟩ (va_recv hK hP (ci := 6) (q0 := 0) rfl cw_Yard) hK hP hS hF rfl hl.1 rfl (Nat.le_of_ble_eq_true rfl) dX6_canBeKept_104 ⟨Nat.zero_le _, Nat.zero_le _⟩ (fun r_25 S_24 H locs h hP hS => ?_)
              refine lv_aload_n hx hb dX6_canBeKept_107 rfl (lv_at hl 2 rfl) ?_
              refine va_get (D := D) (ci := 6) (v := .ref (X.1 (mo 0))) (C := RX6) (T := TX6) (N := 16) hx hb hT inX6 hown hK hP 0 cw_Yard rfl 3 (by decide) (hT _ wf_X6_29) (fun _ h9 => h9) rfl dX6_canBeKept_108 ?_
              refine va_getN (D := D) (ci := 1) (v := .int (S_24.1 (mo 0) 3)) (C := RX1) (T := TX1) (N := 8) hx hb hT inX1 hown hK hP (mo 0) (cw_Moment (m := 0) (by decide)) rfl 3 (by decide) (va_Nw.use rfl hF.1.1.2.2.2.1) (fun _ h9 => h9) rfl dX6_canBeKept_111 ?_
              refine lv_iload hx hb dX6_canBeKept_114 (lv_at hl 0 rfl) ?_
              refine lv_iadd hx hb dX6_canBeKept_116 ?_
              refine lv_icmp_le (tgt := 122) hx hb dX6_canBeKept_117 (by decide) (fun c_26 => ?_) (fun c_26 => ?_)
              · have h := h.1 c_26
                obtain ⟨x3_27, ex3_27⟩ : ∃ z : Int32, z = y3 + 1 := ⟨_, rfl⟩
                refine lv_iinc (v := x3_27) (lv' := [(3, .int x3_27), (5, .int x5_17), (4, .int r_13), (0, .ref (X.1 0)), (1, .int x1), (2, .int y2)]) hx hb dX6_canBeKept_122 hl (k := 5) rfl (by rw [ex3_27]; rfl) (by decide) rfl (fun ls hl => ?_)
                have h := h x3_27 ex3_27
                refine lv_goto (tgt := 20) hx hb dX6_canBeKept_125 (by decide) ?_
                exact ih y2 x3_27 S_24 H locs ls hP hS (lv_sub hl [3, 4, 5, 0] rfl) h
              · have h := h.2 c_26
                refine lv_iconst (v := 0) hx hb dX6_canBeKept_120 (by decide) ?_
                exact W.zret (v := 0) hx hb hr rfl (fun t ht hW => ⟨⟨0, S_24, rfl, h, gB_of ht hP⟩, hS.F ht⟩) hS.2.2 dX6_canBeKept_121
        · have h := h.1 c_10
          refine lv_goto (tgt := 122) hx hb dX6_canBeKept_39 (by decide) ?_
          obtain ⟨x3_28, ex3_28⟩ : ∃ z : Int32, z = y3 + 1 := ⟨_, rfl⟩
          refine lv_iinc (v := x3_28) (lv' := [(3, .int x3_28), (0, .ref (X.1 0)), (1, .int x1), (2, .int y2)]) hx hb dX6_canBeKept_122 hl (k := 3) rfl (by rw [ex3_28]; rfl) (by decide) rfl (fun ls hl => ?_)
          have h := h x3_28 ex3_28
          refine lv_goto (tgt := 20) hx hb dX6_canBeKept_125 (by decide) ?_
          exact ih y2 x3_28 S_7 H locs ls hP hS (lv_sub hl [1, 2, 3, 0] rfl) h
  have hl := lv_entry ([.ref (X.1 0), .int x1]) (n := 6) (Nat.le_of_ble_eq_true rfl)
  rw [lg_entry_eq]
  generalize (lg_sl ([.ref (X.1 0), .int x1]) ++ List.replicate (6 - (lg_sl ([.ref (X.1 0), .int x1])).length) Slot.unset).toArray = ls at hl ⊢
  have hl : lv_has ls 6 [(0, .ref (X.1 0)), (1, .int x1)] := hl
  obtain ⟨H, hH⟩ : ∃ H : Heap, H = s.heap := ⟨_, rfl⟩
  obtain ⟨locs, hlc⟩ : ∃ q : List Loc, q = [] := ⟨_, rfl⟩
  have hS : va_S (AX 75 X.1 s.heap.size) s.heap H locs := by rw [hH, hlc]; exact hS
  have hP : va_P D vwCl (CW X S) H := by rw [hH]; exact hP
  show W p l e (headSpec (Cond.code yX6_canBeKept cX6_canBeKept 6 (some .boolean) :: lw_gd) rm_X6_canBeKept).room s m ([.ref (X.1 0), .int x1] : List Value).toArray below meth c s.heap [] 0 0 (MQ below (va_Qi post (gB D (CW X)) (AX 75 X.1 s.heap.size)) ([.ref (X.1 0), .int x1] : List Value).toArray s 0 0 (AX 75 X.1 s.heap.size)) _
  suffices hgo : W p l e (headSpec (Cond.code yX6_canBeKept cX6_canBeKept 6 (some .boolean) :: lw_gd) rm_X6_canBeKept).room s m ([.ref (X.1 0), .int x1] : List Value).toArray below meth c H locs 0 0 (MQ below (va_Qi post (gB D (CW X)) (AX 75 X.1 s.heap.size)) ([.ref (X.1 0), .int x1] : List Value).toArray s 0 0 (AX 75 X.1 s.heap.size)) (F0 m 0 ls []) from by rw [hH, hlc] at hgo; exact hgo
  unfold p_X6_canBeKept at h
  refine lv_aload_n hx hb dX6_canBeKept_0 rfl (lv_at hl 0 rfl) ?_
  refine va_get (D := D) (ci := 6) (v := .ref (X.1 (mo 0))) (C := RX6) (T := TX6) (N := 16) hx hb hT inX6 hown hK hP 0 cw_Yard rfl 3 (by decide) (hT _ wf_X6_29) (fun _ h9 => h9) rfl dX6_canBeKept_1 ?_
  refine va_getN (D := D) (ci := 1) (v := .int (S.1 (mo 0) 2)) (C := RX1) (T := TX1) (N := 8) hx hb hT inX1 hown hK hP (mo 0) (cw_Moment (m := 0) (by decide)) rfl 2 (by decide) (va_Nw.use rfl hF.1.1.2.2.1) (fun _ h9 => h9) rfl dX6_canBeKept_4 ?_
  refine lv_aload_n hx hb dX6_canBeKept_7 rfl (lv_at hl 0 rfl) ?_
  obtain ⟨ht_1, h⟩ := h
  refine va_get (D := D) (ci := 6) (v := .ref (X.1 (to S.2.1))) (C := RX6) (T := TX6) (N := 16) hx hb hT inX6 hown hK hP 0 cw_Yard rfl 1 (by decide) (hT _ wf_X6_19) (fun _ h9 => h9) rfl dX6_canBeKept_8 ?_
  refine cVi (As := []) (rest := [.int (S.1 (mo 0) 2)]) hX ⟨hx, hb, hml, hown, hT⟩ (c_X5_twigs l D X hX H.size S S.2.1 (by omega) _ h) (gd_V wl_X6_155 wi_X5_twigs wv_X5_twigs wn_X5 wc_X5_twigs) rfl hd_X5_twigs ⟨rfl, rfl⟩ ⟨Nat.le_of_ble_eq_true rfl, Nat.le_of_ble_eq_true rfl⟩ (va_recv hK hP (ci := 5) (q0 := (to S.2.1)) rfl (cw_Told (t := S.2.1) (by omega))) hK hP hS hF rfl hl.1 rfl (Nat.le_of_ble_eq_true rfl) dX6_canBeKept_11 ⟨Nat.zero_le _, Nat.zero_le _⟩ (fun r_3 S_2 H locs h hP hS => ?_)
  refine cSi (As := [.int (S.1 (mo 0) 2), .int r_3]) (rest := []) hX ⟨hx, hb, hml, hown, hT⟩ (c_X6_cutDownwards l D X hX H.size S_2 (S.1 (mo 0) 2) r_3 _ h) (gd_S wl_X6_292 wt_X6_cutDownwards wn_X6 wc_X6_cutDownwards) hd_X6_cutDownwards ⟨rfl, rfl⟩ ⟨Nat.le_of_ble_eq_true rfl, Nat.le_of_ble_eq_true rfl⟩ hK hP hS hF rfl hl.1 rfl (Nat.le_of_ble_eq_true rfl) dX6_canBeKept_14 ⟨Nat.zero_le _, Nat.zero_le _⟩ (fun r_5 S_4 H locs h hP hS => ?_)
  refine lv_istore_n (lv' := [(2, .int r_5), (0, .ref (X.1 0)), (1, .int x1)]) hx hb dX6_canBeKept_17 rfl hl (by decide) rfl (fun ls hl => ?_)
  refine lv_iconst (v := 0) hx hb dX6_canBeKept_18 (by decide) ?_
  refine lv_istore_n (lv' := [(3, .int 0), (2, .int r_5), (0, .ref (X.1 0)), (1, .int x1)]) hx hb dX6_canBeKept_19 rfl hl (by decide) rfl (fun ls hl => ?_)
  obtain ⟨n1, h⟩ := h
  exact W20  n1 r_5 0 S_4 H locs ls hP hS (lv_sub hl [2, 3, 1, 0] rfl) h

abbrev rm_X6_kept : Room := { frames := 4, cells := 0, slots := 0, locals := 92 }
def q_X6_kept_29 (x1 : Int32) (post : Int32 → CS → Prop) : Nat → Int32 → Int32 → Int32 → Int32 → CS → Prop
  | 0, _, _, _, _, _ => False
  | n9 + 1, y2, y3, y4, y5, S => (y2 ≤ y5 → ((x1 = 0 → (post y3 S)) ∧ (¬ (x1 = 0) → (post y4 S)))) ∧ (¬ (y2 ≤ y5) → (p_X6_coinsOf S y5 (fun r_10 S_9 => ((r_10 ≤ y4 → (∀ x5_12 : Int32, x5_12 = y5 + 1 → (q_X6_kept_29 x1 post n9 y2 y3 y4 x5_12 S_9))) ∧ (¬ (r_10 ≤ y4) → (p_X6_canBeKept S_9 y5 (fun r_14 S_13 => ((r_14 = 0 → (∀ x5_16 : Int32, x5_16 = y5 + 1 → (q_X6_kept_29 x1 post n9 y2 y3 y4 x5_16 S_13))) ∧ (¬ (r_14 = 0) → (∀ x5_17 : Int32, x5_17 = y5 + 1 → (q_X6_kept_29 x1 post n9 y2 y5 r_10 x5_17 S_13)))))))))))
def p_X6_kept (S : CS) (x1 : Int32) (post : Int32 → CS → Prop) : Prop := (x1 < 0 → (post (-1) S)) ∧ (¬ (x1 < 0) → ((x1 ≤ 1 → ((S.2.1 < 2) ∧ (p_X5_orders S S.2.1 (fun r_5 S_4 => (∀ x2_6 : Int32, x2_6 = (1 <<< (r_5 &&& 31)) → (∃ n, q_X6_kept_29 x1 post n x2_6 0 0 1 S_4)))))) ∧ (¬ (x1 ≤ 1) → (post (-1) S))))
set_option maxHeartbeats 4000000 in
set_option maxRecDepth 100000 in
theorem c_X6_kept (l : Launch) (D : va_G) (X : XE) (hX : Inj 75 X.1) (sz : Nat) (S : CS) (x1 : Int32) (post : Int32 → CS → Prop) (h : p_X6_kept S x1 post) : Met l yX6_kept (Cond.code yX6_kept cX6_kept 7 (some .int) :: lw_gd) rm_X6_kept (gPc D (tyX X) (CW X) (FXc X) (AX 75 X.1 sz) sz S [.ref (X.1 0), .int x1]) (va_Qi post (gB D (CW X)) (AX 75 X.1 sz)) 0 0 (AX 75 X.1 sz) := by
  refine Met.ofW (cc := cX6_kept) (maxL := 7) (ret := (some .int)) (by decide) rfl ?_
  intro p e s m args below meth c s₁ B hml hv
  obtain ⟨rfl, hsz, hP, hK, hF⟩ := hv
  have hx := B.exec
  have hb := B.bytes
  have hr := B.returns
  have hts := atoms_spec (ws := (Cond.code yX6_kept cX6_kept 7 (some .int) :: lw_gd)) B.pre
  have hT : ∀ w ∈ lw_gd, w.before _ s = true := fun w h9 => hts w (List.mem_cons_of_mem _ h9)
  have hown : s.vm.findClass RX6 = some m.cls := findClass_of_methodNamed B.named
  have hlocks := B.notSynchronized
  subst hsz
  have hS : va_S (AX 75 X.1 s.heap.size) s.heap s.heap [] := va_S.rf
  have W29 : ∀ n1 : Nat, ∀ (y2 : Int32) (y3 : Int32) (y4 : Int32) (y5 : Int32) (S : CS) (H : Heap) (locs : List Loc) (ls : Array Slot), va_P D vwCl (CW X S) H → va_S (AX 75 X.1 s.heap.size) s.heap H locs → lv_has ls 7 [(0, .ref (X.1 0)), (1, .int x1), (2, .int y2), (3, .int y3), (4, .int y4), (5, .int y5)] → q_X6_kept_29 x1 post n1 y2 y3 y4 y5 S → W p l e (headSpec (Cond.code yX6_kept cX6_kept 7 (some .int) :: lw_gd) rm_X6_kept).room s m ([.ref (X.1 0), .int x1] : List Value).toArray below meth c H locs 0 0 (MQ below (va_Qi post (gB D (CW X)) (AX 75 X.1 s.heap.size)) ([.ref (X.1 0), .int x1] : List Value).toArray s 0 0 (AX 75 X.1 s.heap.size)) (F0 m 29 ls []) := by
    intro n1
    induction n1 with
    | zero => intro y2 y3 y4 y5 S H locs ls hP hS hl h; exact h.elim
    | succ n9 ih =>
      intro y2 y3 y4 y5 S H locs ls hP hS hl h
      rw [q_X6_kept_29] at h
      refine lv_iload hx hb dX6_kept_29 (lv_at hl 5 rfl) ?_
      refine lv_iload_n hx hb dX6_kept_31 rfl (lv_at hl 2 rfl) ?_
      refine lv_icmp_ge (tgt := 72) hx hb dX6_kept_32 (by decide) (fun c_7 => ?_) (fun c_7 => ?_)
      · have h := h.1 c_7
        refine lv_iload_n hx hb dX6_kept_72 rfl (lv_at hl 1 rfl) ?_
        refine lv_if_ne (tgt := 80) hx hb dX6_kept_73 (by decide) (fun c_8 => ?_) (fun c_8 => ?_)
        · have h := h.2 c_8
          refine lv_iload hx hb dX6_kept_80 (lv_at hl 4 rfl) ?_
          exact W.iret (v := y4) hx hb hr (fun t ht hW => ⟨⟨y4, S, rfl, h, gB_of ht hP⟩, hS.F ht⟩) hS.2.2 dX6_kept_82
        · have h := h.1 c_8
          refine lv_iload_n hx hb dX6_kept_76 rfl (lv_at hl 3 rfl) ?_
          refine lv_goto (tgt := 82) hx hb dX6_kept_77 (by decide) ?_
          exact W.iret (v := y3) hx hb hr (fun t ht hW => ⟨⟨y3, S, rfl, h, gB_of ht hP⟩, hS.F ht⟩) hS.2.2 dX6_kept_82
      · have h := h.2 c_7
        refine lv_aload_n hx hb dX6_kept_35 rfl (lv_at hl 0 rfl) ?_
        refine lv_iload hx hb dX6_kept_36 (lv_at hl 5 rfl) ?_
        refine cVi (As := [.int y5]) (rest := []) hX ⟨hx, hb, hml, hown, hT⟩ (c_X6_coinsOf l D X hX H.size S y5 _ h) (gd_V wl_X6_206 wi_X6_coinsOf wv_X6_coinsOf wn_X6 wc_X6_coinsOf) rfl hd_X6_coinsOf ⟨rfl, rfl⟩ ⟨Nat.le_of_ble_eq_true rfl, Nat.le_of_ble_eq_true rfl⟩ (va_recv hK hP (ci := 6) (q0 := 0) rfl cw_Yard) hK hP hS hF rfl hl.1 rfl (Nat.le_of_ble_eq_true rfl) dX6_kept_38 ⟨Nat.zero_le _, Nat.zero_le _⟩ (fun r_10 S_9 H locs h hP hS => ?_)
        refine lv_istore (lv' := [(6, .int r_10), (0, .ref (X.1 0)), (1, .int x1), (2, .int y2), (3, .int y3), (4, .int y4), (5, .int y5)]) hx hb dX6_kept_41 hl (by decide) rfl (fun ls hl => ?_)
        refine lv_iload hx hb dX6_kept_43 (lv_at hl 0 rfl) ?_
        refine lv_iload hx hb dX6_kept_45 (lv_at hl 5 rfl) ?_
        refine lv_icmp_le (tgt := 66) hx hb dX6_kept_47 (by decide) (fun c_11 => ?_) (fun c_11 => ?_)
        · have h := h.1 c_11
          obtain ⟨x5_12, ex5_12⟩ : ∃ z : Int32, z = y5 + 1 := ⟨_, rfl⟩
          refine lv_iinc (v := x5_12) (lv' := [(5, .int x5_12), (6, .int r_10), (0, .ref (X.1 0)), (1, .int x1), (2, .int y2), (3, .int y3), (4, .int y4)]) hx hb dX6_kept_66 hl (k := 6) rfl (by rw [ex5_12]; rfl) (by decide) rfl (fun ls hl => ?_)
          have h := h x5_12 ex5_12
          refine lv_goto (tgt := 29) hx hb dX6_kept_69 (by decide) ?_
          exact ih y2 y3 y4 x5_12 S_9 H locs ls hP hS (lv_sub hl [2, 3, 4, 5, 6, 0] rfl) h
        · have h := h.2 c_11
          refine lv_aload_n hx hb dX6_kept_50 rfl (lv_at hl 1 rfl) ?_
          refine lv_iload hx hb dX6_kept_51 (lv_at hl 6 rfl) ?_
          refine cVi (As := [.int y5]) (rest := []) hX ⟨hx, hb, hml, hown, hT⟩ (c_X6_canBeKept l D X hX H.size S_9 y5 _ h) (gd_V wl_X6_209 wi_X6_canBeKept wv_X6_canBeKept wn_X6 wc_X6_canBeKept) rfl hd_X6_canBeKept ⟨rfl, rfl⟩ ⟨Nat.le_of_ble_eq_true rfl, Nat.le_of_ble_eq_true rfl⟩ (va_recv hK hP (ci := 6) (q0 := 0) rfl cw_Yard) hK hP hS hF rfl hl.1 rfl (Nat.le_of_ble_eq_true rfl) dX6_kept_53 ⟨Nat.zero_le _, Nat.zero_le _⟩ (fun r_14 S_13 H locs h hP hS => ?_)
          refine lv_if_eq (tgt := 66) hx hb dX6_kept_56 (by decide) (fun c_15 => ?_) (fun c_15 => ?_)
          · have h := h.1 c_15
            obtain ⟨x5_16, ex5_16⟩ : ∃ z : Int32, z = y5 + 1 := ⟨_, rfl⟩
            refine lv_iinc (v := x5_16) (lv' := [(5, .int x5_16), (6, .int r_10), (0, .ref (X.1 0)), (1, .int x1), (2, .int y2), (3, .int y3), (4, .int y4)]) hx hb dX6_kept_66 hl (k := 6) rfl (by rw [ex5_16]; rfl) (by decide) rfl (fun ls hl => ?_)
            have h := h x5_16 ex5_16
            refine lv_goto (tgt := 29) hx hb dX6_kept_69 (by decide) ?_
            exact ih y2 y3 y4 x5_16 S_13 H locs ls hP hS (lv_sub hl [2, 3, 4, 5, 6, 0] rfl) h
          · have h := h.2 c_15
            refine lv_iload hx hb dX6_kept_59 (lv_at hl 6 rfl) ?_
            refine lv_istore_n (lv' := [(3, .int y5), (6, .int r_10), (0, .ref (X.1 0)), (1, .int x1), (2, .int y2), (4, .int y4), (5, .int y5)]) hx hb dX6_kept_61 rfl hl (by decide) rfl (fun ls hl => ?_)
            refine lv_iload hx hb dX6_kept_62 (lv_at hl 1 rfl) ?_
            refine lv_istore (lv' := [(4, .int r_10), (3, .int y5), (6, .int r_10), (0, .ref (X.1 0)), (1, .int x1), (2, .int y2), (5, .int y5)]) hx hb dX6_kept_64 hl (by decide) rfl (fun ls hl => ?_)
            obtain ⟨x5_17, ex5_17⟩ : ∃ z : Int32, z = y5 + 1 := ⟨_, rfl⟩
            refine lv_iinc (v := x5_17) (lv' := [(5, .int x5_17), (4, .int r_10), (3, .int y5), (6, .int r_10), (0, .ref (X.1 0)), (1, .int x1), (2, .int y2)]) hx hb dX6_kept_66 hl (k := 6) rfl (by rw [ex5_17]; rfl) (by decide) rfl (fun ls hl => ?_)
            have h := h x5_17 ex5_17
            refine lv_goto (tgt := 29) hx hb dX6_kept_69 (by decide) ?_
            exact ih y2 y5 r_10 x5_17 S_13 H locs ls hP hS (lv_sub hl [4, 5, 6, 2, 1, 0] rfl) h
  have hl := lv_entry ([.ref (X.1 0), .int x1]) (n := 7) (Nat.le_of_ble_eq_true rfl)
  rw [lg_entry_eq]
  generalize (lg_sl ([.ref (X.1 0), .int x1]) ++ List.replicate (7 - (lg_sl ([.ref (X.1 0), .int x1])).length) Slot.unset).toArray = ls at hl ⊢
  have hl : lv_has ls 7 [(0, .ref (X.1 0)), (1, .int x1)] := hl
  obtain ⟨H, hH⟩ : ∃ H : Heap, H = s.heap := ⟨_, rfl⟩
  obtain ⟨locs, hlc⟩ : ∃ q : List Loc, q = [] := ⟨_, rfl⟩
  have hS : va_S (AX 75 X.1 s.heap.size) s.heap H locs := by rw [hH, hlc]; exact hS
  have hP : va_P D vwCl (CW X S) H := by rw [hH]; exact hP
  show W p l e (headSpec (Cond.code yX6_kept cX6_kept 7 (some .int) :: lw_gd) rm_X6_kept).room s m ([.ref (X.1 0), .int x1] : List Value).toArray below meth c s.heap [] 0 0 (MQ below (va_Qi post (gB D (CW X)) (AX 75 X.1 s.heap.size)) ([.ref (X.1 0), .int x1] : List Value).toArray s 0 0 (AX 75 X.1 s.heap.size)) _
  suffices hgo : W p l e (headSpec (Cond.code yX6_kept cX6_kept 7 (some .int) :: lw_gd) rm_X6_kept).room s m ([.ref (X.1 0), .int x1] : List Value).toArray below meth c H locs 0 0 (MQ below (va_Qi post (gB D (CW X)) (AX 75 X.1 s.heap.size)) ([.ref (X.1 0), .int x1] : List Value).toArray s 0 0 (AX 75 X.1 s.heap.size)) (F0 m 0 ls []) from by rw [hH, hlc] at hgo; exact hgo
  unfold p_X6_kept at h
  refine lv_iload_n hx hb dX6_kept_0 rfl (lv_at hl 1 rfl) ?_
  refine lv_if_lt (tgt := 9) hx hb dX6_kept_1 (by decide) (fun c_1 => ?_) (fun c_1 => ?_)
  · have h := h.1 c_1
    refine lv_iconst (v := (-1)) hx hb dX6_kept_9 (by decide) ?_
    exact W.iret (v := (-1)) hx hb hr (fun t ht hW => ⟨⟨(-1), S, rfl, h, gB_of ht hP⟩, hS.F ht⟩) hS.2.2 dX6_kept_10
  · have h := h.2 c_1
    refine lv_iload_n hx hb dX6_kept_4 rfl (lv_at hl 1 rfl) ?_
    refine lv_iconst (v := 1) hx hb dX6_kept_5 (by decide) ?_
    refine lv_icmp_le (tgt := 11) hx hb dX6_kept_6 (by decide) (fun c_2 => ?_) (fun c_2 => ?_)
    · have h := h.1 c_2
      refine lv_iconst (v := 1) hx hb dX6_kept_11 (by decide) ?_
      refine lv_aload_n hx hb dX6_kept_12 rfl (lv_at hl 0 rfl) ?_
      obtain ⟨ht_3, h⟩ := h
      refine va_get (D := D) (ci := 6) (v := .ref (X.1 (to S.2.1))) (C := RX6) (T := TX6) (N := 16) hx hb hT inX6 hown hK hP 0 cw_Yard rfl 1 (by decide) (hT _ wf_X6_19) (fun _ h9 => h9) rfl dX6_kept_13 ?_
      refine cVi (As := []) (rest := [.int 1]) hX ⟨hx, hb, hml, hown, hT⟩ (c_X5_orders l D X hX H.size S S.2.1 (by omega) _ h) (gd_V wl_X6_203 wi_X5_orders wv_X5_orders wn_X5 wc_X5_orders) rfl hd_X5_orders ⟨rfl, rfl⟩ ⟨Nat.le_of_ble_eq_true rfl, Nat.le_of_ble_eq_true rfl⟩ (va_recv hK hP (ci := 5) (q0 := (to S.2.1)) rfl (cw_Told (t := S.2.1) (by omega))) hK hP hS hF rfl hl.1 rfl (Nat.le_of_ble_eq_true rfl) dX6_kept_16 ⟨Nat.zero_le _, Nat.zero_le _⟩ (fun r_5 S_4 H locs h hP hS => ?_)
      refine lv_ishl hx hb dX6_kept_19 ?_
      refine lv_topi (fun x2_6 ex2_6 => ?_)
      have h := h x2_6 ex2_6
      refine lv_istore_n (lv' := [(2, .int x2_6), (0, .ref (X.1 0)), (1, .int x1)]) hx hb dX6_kept_20 rfl hl (by decide) rfl (fun ls hl => ?_)
      refine lv_iconst (v := 0) hx hb dX6_kept_21 (by decide) ?_
      refine lv_istore_n (lv' := [(3, .int 0), (2, .int x2_6), (0, .ref (X.1 0)), (1, .int x1)]) hx hb dX6_kept_22 rfl hl (by decide) rfl (fun ls hl => ?_)
      refine lv_iconst (v := 0) hx hb dX6_kept_23 (by decide) ?_
      refine lv_istore (lv' := [(4, .int 0), (3, .int 0), (2, .int x2_6), (0, .ref (X.1 0)), (1, .int x1)]) hx hb dX6_kept_24 hl (by decide) rfl (fun ls hl => ?_)
      refine lv_iconst (v := 1) hx hb dX6_kept_26 (by decide) ?_
      refine lv_istore (lv' := [(5, .int 1), (4, .int 0), (3, .int 0), (2, .int x2_6), (0, .ref (X.1 0)), (1, .int x1)]) hx hb dX6_kept_27 hl (by decide) rfl (fun ls hl => ?_)
      obtain ⟨n1, h⟩ := h
      exact W29  n1 x2_6 0 0 1 S_4 H locs ls hP hS (lv_sub hl [4, 5, 3, 2, 1, 0] rfl) h
    · have h := h.2 c_2
      refine lv_iconst (v := (-1)) hx hb dX6_kept_9 (by decide) ?_
      exact W.iret (v := (-1)) hx hb hr (fun t ht hW => ⟨⟨(-1), S, rfl, h, gB_of ht hP⟩, hS.F ht⟩) hS.2.2 dX6_kept_10
