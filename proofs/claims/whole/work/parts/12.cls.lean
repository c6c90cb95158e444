abbrev rm_X2_find : Room := { frames := 4, cells := 0, slots := 0, locals := 89 }
def q_X2_find_62 (t1 : Nat) (m2 : Nat) (x3 : Int32) (K45 : Int32 → Int32 → Int32 → CS → Prop) (post : CS → Prop) : Nat → Int32 → Int32 → Int32 → CS → Prop
  | 0, _, _, _, _ => False
  | n9 + 1, y4, y6, y7, S => (y4 ≤ y7 → (vp_in y4 5 ∧ (p_X2_compare S (S.1 20 y4.toNatClampNeg) (fun S_7 => (p_X5_parts S_7 t1 (fun r_10 S_9 => (p_X2_goToNextRow S_9 y4 r_10 (fun r_12 S_11 => (∀ x6_13 : Int32, x6_13 = y6 + 1 → (K45 y4 r_12 x6_13 S_11)))))))))) ∧ (¬ (y4 ≤ y7) → (vp_in y7 5 ∧ (p_X2_gotIn S y7 t1 m2 (fun r_15 S_14 => (∀ u_16 : Int32, u_16 = ((S.1 20 y7.toNatClampNeg) + r_15) → (vp_in (y7 + 1) 5 ∧ (∀ S_17 : CS, S_17 = sti S_14 20 ((y7 + 1).toNatClampNeg) u_16 → (∀ x7_18 : Int32, x7_18 = y7 + 1 → (q_X2_find_62 t1 m2 x3 K45 post n9 y4 y6 x7_18 S_17)))))))))
def q_X2_find_45 (t1 : Nat) (m2 : Nat) (x3 : Int32) (post : CS → Prop) : Nat → Int32 → Int32 → Int32 → CS → Prop
  | 0, _, _, _, _ => False
  | n9 + 1, y4, y5, y6, S => (2401 ≤ y6 → (post S)) ∧ (¬ (2401 ≤ y6) → ((y5 < 0 → (post S)) ∧ (¬ (y5 < 0) → (∃ n, q_X2_find_62 t1 m2 x3 (fun y4' y5' y6' S9 => q_X2_find_45 t1 m2 x3 post n9 y4' y5' y6' S9) post n y4 y6 y5 S))))
def q_X2_find_19 (t1 : Nat) (m2 : Nat) (x3 : Int32) (post : CS → Prop) : Nat → Int32 → Int32 → CS → Prop
  | 0, _, _, _ => False
  | n9 + 1, y4, y5, S => (4 ≤ y5 → (∃ n, q_X2_find_45 t1 m2 x3 post n y4 0 0 S)) ∧ (¬ (4 ≤ y5) → (vp_in y5 4 ∧ (∀ S_19 : CS, S_19 = sti S 18 y5.toNatClampNeg (-1) → (∀ x5_20 : Int32, x5_20 = y5 + 1 → (q_X2_find_19 t1 m2 x3 post n9 y4 x5_20 S_19)))))
def p_X2_find (S : CS) (t1 : Nat) (m2 : Nat) (x3 : Int32) (post : CS → Prop) : Prop := ∀ x4_1 : Int32, x4_1 = (if 0 < (if x3 < 4 then x3 else 4) then (if x3 < 4 then x3 else 4) else 0) → (∀ S_2 : CS, S_2 = sti S 17 0 (-1) → (∃ n, q_X2_find_19 t1 m2 x3 post n x4_1 0 S_2))
set_option maxHeartbeats 4000000 in
set_option maxRecDepth 100000 in
theorem c_X2_find (l : Launch) (D : va_G) (X : XE) (hX : Inj 75 X.1) (sz : Nat) (S : CS) (t1 : Nat) (hyp_t1 : t1 < 2) (m2 : Nat) (hyp_m2 : m2 < 13) (x3 : Int32) (post : CS → Prop) (h : p_X2_find S t1 m2 x3 post) : Met l yX2_find (Cond.code yX2_find cX2_find 8 none :: lw_gd) rm_X2_find (gPc D (tyX X) (CW X) (FXc X) (AX 75 X.1 sz) sz S [.ref (X.1 17), .ref (X.1 (to t1)), .ref (X.1 (mo m2)), .int x3]) (va_Qv post (gB D (CW X)) (AX 75 X.1 sz)) 0 0 (AX 75 X.1 sz) := by
  refine Met.ofW (cc := cX2_find) (maxL := 8) (ret := none) (by decide) rfl ?_
  intro p e s m args below meth c s₁ B hml hv
  obtain ⟨rfl, hsz, hP, hK, hF⟩ := hv
  have hx := B.exec
  have hb := B.bytes
  have hr := B.returns
  have hts := atoms_spec (ws := (Cond.code yX2_find cX2_find 8 none :: lw_gd)) B.pre
  have hT : ∀ w ∈ lw_gd, w.before _ s = true := fun w h9 => hts w (List.mem_cons_of_mem _ h9)
  have hown : s.vm.findClass RX2 = some m.cls := findClass_of_methodNamed B.named
  have hlocks := B.notSynchronized
  subst hsz
  have hS : va_S (AX 75 X.1 s.heap.size) s.heap s.heap [] := va_S.rf
  have W62 : ∀ (K45 : Int32 → Int32 → Int32 → CS → Prop), (∀ (y4 : Int32) (y5 : Int32) (y6 : Int32) (S : CS) (H : Heap) (locs : List Loc) (ls : Array Slot), va_P D vwCl (CW X S) H → va_S (AX 75 X.1 s.heap.size) s.heap H locs → lv_has ls 8 [(0, .ref (X.1 17)), (1, .ref (X.1 (to t1))), (2, .ref (X.1 (mo m2))), (4, .int y4), (5, .int y5), (6, .int y6)] → K45 y4 y5 y6 S → W p l e (headSpec (Cond.code yX2_find cX2_find 8 none :: lw_gd) rm_X2_find).room s m ([.ref (X.1 17), .ref (X.1 (to t1)), .ref (X.1 (mo m2)), .int x3] : List Value).toArray below meth c H locs 0 0 (MQ below (va_Qv post (gB D (CW X)) (AX 75 X.1 s.heap.size)) ([.ref (X.1 17), .ref (X.1 (to t1)), .ref (X.1 (mo m2)), .int x3] : List Value).toArray s 0 0 (AX 75 X.1 s.heap.size)) (F0 m 45 ls [])) → ∀ n1 : Nat, ∀ (y4 : Int32) (y6 : Int32) (y7 : Int32) (S : CS) (H : Heap) (locs : List Loc) (ls : Array Slot), va_P D vwCl (CW X S) H → va_S (AX 75 X.1 s.heap.size) s.heap H locs → lv_has ls 8 [(0, .ref (X.1 17)), (1, .ref (X.1 (to t1))), (2, .ref (X.1 (mo m2))), (4, .int y4), (6, .int y6), (7, .int y7)] → q_X2_find_62 t1 m2 x3 K45 post n1 y4 y6 y7 S → W p l e (headSpec (Cond.code yX2_find cX2_find 8 none :: lw_gd) rm_X2_find).room s m ([.ref (X.1 17), .ref (X.1 (to t1)), .ref (X.1 (mo m2)), .int x3] : List Value).toArray below meth c H locs 0 0 (MQ below (va_Qv post (gB D (CW X)) (AX 75 X.1 s.heap.size)) ([.ref (X.1 17), .ref (X.1 (to t1)), .ref (X.1 (mo m2)), .int x3] : List Value).toArray s 0 0 (AX 75 X.1 s.heap.size)) (F0 m 62 ls []) := by
    intro K45 hK45
    intro n1
    induction n1 with
    | zero => intro y4 y6 y7 S H locs ls hP hS hl h; exact h.elim
    | succ n9 ih =>
      intro y4 y6 y7 S H locs ls hP hS hl h
      rw [q_X2_find_62] at h
      refine lv_iload hx hb dX2_find_62 (lv_at hl 5 rfl) ?_
      refine lv_iload hx hb dX2_find_64 (lv_at hl 3 rfl) ?_
      refine lv_icmp_ge (tgt := 100) hx hb dX2_find_66 (by decide) (fun c_6 => ?_) (fun c_6 => ?_)
      · have h := h.1 c_6
        refine lv_aload_n hx hb dX2_find_100 rfl (lv_at hl 0 rfl) ?_
        refine lv_aload_n hx hb dX2_find_101 rfl (lv_at hl 0 rfl) ?_
        refine va_get (D := D) (ci := 2) (v := .ref (X.1 20)) (C := RX2) (T := TX2) (N := 4) hx hb hT inX2 hown hK hP 17 cw_Planner rfl 3 (by decide) (hT _ wf_X2_18) (fun _ h9 => h9) rfl dX2_find_102 ?_
        refine lv_iload hx hb dX2_find_105 (lv_at hl 3 rfl) ?_
        obtain ⟨hi, h⟩ := h
        refine g_iald hx hb hK hP 20 cw_20 rfl hi y4.toNatClampNeg rfl dX2_find_107 ?_
        refine cVv (As := [.int (S.1 20 y4.toNatClampNeg)]) (rest := []) hX ⟨hx, hb, hml, hown, hT⟩ (c_X2_compare l D X hX H.size S (S.1 20 y4.toNatClampNeg) _ h) (gd_V wl_X2_38 wi_X2_compare wv_X2_compare wn_X2 wc_X2_compare) rfl hd_X2_compare ⟨rfl, rfl⟩ ⟨Nat.le_of_ble_eq_true rfl, Nat.le_of_ble_eq_true rfl⟩ (va_recv hK hP (ci := 2) (q0 := 17) rfl cw_Planner) hK hP hS hF rfl hl.1 rfl (Nat.le_of_ble_eq_true rfl) dX2_find_108 ⟨Nat.zero_le _, Nat.zero_le _⟩ (fun S_7 H locs h hP hS => ?_)
        refine lv_aload_n hx hb dX2_find_111 rfl (lv_at hl 0 rfl) ?_
        refine lv_iload hx hb dX2_find_112 (lv_at hl 3 rfl) ?_
        refine lv_aload_n hx hb dX2_find_114 rfl (lv_at hl 1 rfl) ?_
        refine cVi (As := []) (rest := [.int y4, .ref (X.1 17)]) hX ⟨hx, hb, hml, hown, hT⟩ (c_X5_parts l D X hX H.size S_7 t1 hyp_t1 _ h) (gd_V wl_X2_42 wi_X5_parts wv_X5_parts wn_X5 wc_X5_parts) rfl hd_X5_parts ⟨rfl, rfl⟩ ⟨Nat.le_of_ble_eq_true rfl, Nat.le_of_ble_eq_true rfl⟩ (va_recv hK hP (ci := 5) (q0 := (to t1)) rfl (cw_Told (t := t1) (by omega))) hK hP hS hF rfl hl.1 rfl (Nat.le_of_ble_eq_true rfl) dX2_find_115 ⟨Nat.zero_le _, Nat.zero_le _⟩ (fun r_10 S_9 H locs h hP hS => ?_)
        refine cVi (As := [.int y4, .int r_10]) (rest := []) hX ⟨hx, hb, hml, hown, hT⟩ (c_X2_goToNextRow l D X hX H.size S_9 y4 r_10 _ h) (gd_V wl_X2_48 wi_X2_goToNextRow wv_X2_goToNextRow wn_X2 wc_X2_goToNextRow) rfl hd_X2_goToNextRow ⟨rfl, rfl⟩ ⟨Nat.le_of_ble_eq_true rfl, Nat.le_of_ble_eq_true rfl⟩ (va_recv hK hP (ci := 2) (q0 := 17) rfl cw_Planner) hK hP hS hF rfl hl.1 rfl (Nat.le_of_ble_eq_true rfl) dX2_find_118 ⟨Nat.zero_le _, Nat.zero_le _⟩ (fun r_12 S_11 H locs h hP hS => ?_)
        refine lv_istore (lv' := [(5, .int r_12), (0, .ref (X.1 17)), (1, .ref (X.1 (to t1))), (2, .ref (X.1 (mo m2))), (4, .int y4), (6, .int y6), (7, .int y7)]) hx hb dX2_find_121 hl (by decide) rfl (fun ls hl => ?_)
        obtain ⟨x6_13, ex6_13⟩ : ∃ z : Int32, z = y6 + 1 := ⟨_, rfl⟩
        refine lv_iinc (v := x6_13) (lv' := [(6, .int x6_13), (5, .int r_12), (0, .ref (X.1 17)), (1, .ref (X.1 (to t1))), (2, .ref (X.1 (mo m2))), (4, .int y4), (7, .int y7)]) hx hb dX2_find_123 hl (k := 5) rfl (by rw [ex6_13]; rfl) (by decide) rfl (fun ls hl => ?_)
        have h := h x6_13 ex6_13
        refine lv_goto (tgt := 45) hx hb dX2_find_126 (by decide) ?_
        exact hK45 y4 r_12 x6_13 S_11 H locs ls hP hS (lv_sub hl [2, 3, 4, 5, 1, 0] rfl) h
      · have h := h.2 c_6
        refine lv_aload_n hx hb dX2_find_69 rfl (lv_at hl 0 rfl) ?_
        refine va_get (D := D) (ci := 2) (v := .ref (X.1 20)) (C := RX2) (T := TX2) (N := 4) hx hb hT inX2 hown hK hP 17 cw_Planner rfl 3 (by decide) (hT _ wf_X2_18) (fun _ h9 => h9) rfl dX2_find_70 ?_
        refine lv_iload hx hb dX2_find_73 (lv_at hl 5 rfl) ?_
        refine lv_iconst (v := 1) hx hb dX2_find_75 (by decide) ?_
        refine lv_iadd hx hb dX2_find_76 ?_
        refine lv_aload_n hx hb dX2_find_77 rfl (lv_at hl 0 rfl) ?_
        refine va_get (D := D) (ci := 2) (v := .ref (X.1 20)) (C := RX2) (T := TX2) (N := 4) hx hb hT inX2 hown hK hP 17 cw_Planner rfl 3 (by decide) (hT _ wf_X2_18) (fun _ h9 => h9) rfl dX2_find_78 ?_
        refine lv_iload hx hb dX2_find_81 (lv_at hl 5 rfl) ?_
        obtain ⟨hi, h⟩ := h
        refine g_iald hx hb hK hP 20 cw_20 rfl hi y7.toNatClampNeg rfl dX2_find_83 ?_
        refine lv_aload_n hx hb dX2_find_84 rfl (lv_at hl 0 rfl) ?_
        refine lv_iload hx hb dX2_find_85 (lv_at hl 5 rfl) ?_
        refine lv_aload_n hx hb dX2_find_87 rfl (lv_at hl 1 rfl) ?_
        refine lv_aload_n hx hb dX2_find_88 rfl (lv_at hl 2 rfl) ?_
        refine cVi (As := [.int y7, .ref (X.1 (to t1)), .ref (X.1 (mo m2))]) (rest := [.int (S.1 20 y7.toNatClampNeg), .int (y7 + 1), .ref (X.1 20)]) hX ⟨hx, hb, hml, hown, hT⟩ (c_X2_gotIn l D X hX H.size S y7 t1 hyp_t1 m2 hyp_m2 _ h) (gd_V wl_X2_34 wi_X2_gotIn wv_X2_gotIn wn_X2 wc_X2_gotIn) rfl hd_X2_gotIn ⟨rfl, rfl⟩ ⟨Nat.le_of_ble_eq_true rfl, Nat.le_of_ble_eq_true rfl⟩ (va_recv hK hP (ci := 2) (q0 := 17) rfl cw_Planner) hK hP hS hF rfl hl.1 rfl (Nat.le_of_ble_eq_true rfl) dX2_find_89 ⟨Nat.zero_le _, Nat.zero_le _⟩ (fun r_15 S_14 H locs h hP hS => ?_)
        refine lv_iadd hx hb dX2_find_92 ?_
        refine lv_topi (fun u_16 eu_16 => ?_)
        have h := h u_16 eu_16
        obtain ⟨hi, h⟩ := h
        refine g_iast hx hb hK hP (gw_D hX) hS 20 cw_20 rfl hi ((y7 + 1).toNatClampNeg) rfl dX2_find_93 (fun H locs hP hS => ?_)
        have hP := cw_st (j := (y7 + 1).toNatClampNeg) (x := u_16) rfl hP
        obtain ⟨S_17, eS_17⟩ : ∃ z : CS, z = sti S_14 20 ((y7 + 1).toNatClampNeg) u_16 := ⟨_, rfl⟩
        rw [← eS_17] at hP
        have h := h S_17 eS_17
        obtain ⟨x7_18, ex7_18⟩ : ∃ z : Int32, z = y7 + 1 := ⟨_, rfl⟩
        refine lv_iinc (v := x7_18) (lv' := [(7, .int x7_18), (0, .ref (X.1 17)), (1, .ref (X.1 (to t1))), (2, .ref (X.1 (mo m2))), (4, .int y4), (6, .int y6)]) hx hb dX2_find_94 hl (k := 5) rfl (by rw [ex7_18]; rfl) (by decide) rfl (fun ls hl => ?_)
        have h := h x7_18 ex7_18
        refine lv_goto (tgt := 62) hx hb dX2_find_97 (by decide) ?_
        exact ih y4 y6 x7_18 S_17 H locs ls hP hS (lv_sub hl [1, 2, 3, 4, 5, 0] rfl) h
  have W45 : ∀ n1 : Nat, ∀ (y4 : Int32) (y5 : Int32) (y6 : Int32) (S : CS) (H : Heap) (locs : List Loc) (ls : Array Slot), va_P D vwCl (CW X S) H → va_S (AX 75 X.1 s.heap.size) s.heap H locs → lv_has ls 8 [(0, .ref (X.1 17)), (1, .ref (X.1 (to t1))), (2, .ref (X.1 (mo m2))), (4, .int y4), (5, .int y5), (6, .int y6)] → q_X2_find_45 t1 m2 x3 post n1 y4 y5 y6 S → W p l e (headSpec (Cond.code yX2_find cX2_find 8 none :: lw_gd) rm_X2_find).room s m ([.ref (X.1 17), .ref (X.1 (to t1)), .ref (X.1 (mo m2)), .int x3] : List Value).toArray below meth c H locs 0 0 (MQ below (va_Qv post (gB D (CW X)) (AX 75 X.1 s.heap.size)) ([.ref (X.1 17), .ref (X.1 (to t1)), .ref (X.1 (mo m2)), .int x3] : List Value).toArray s 0 0 (AX 75 X.1 s.heap.size)) (F0 m 45 ls []) := by
    intro n1
    induction n1 with
    | zero => intro y4 y5 y6 S H locs ls hP hS hl h; exact h.elim
    | succ n9 ih =>
      intro y4 y5 y6 S H locs ls hP hS hl h
      rw [q_X2_find_45] at h
      refine lv_iload hx hb dX2_find_45 (lv_at hl 5 rfl) ?_
      refine lv_sipush (v := 2401) hx hb dX2_find_47 (by decide) ?_
      refine lv_icmp_ge (tgt := 129) hx hb dX2_find_50 (by decide) (fun c_4 => ?_) (fun c_4 => ?_)
      · have h := h.1 c_4
        exact W.vret hx hb hr (fun t ht hW => ⟨⟨S, rfl, h, gB_of ht hP⟩, hS.F ht⟩) hS.2.2 dX2_find_129
      · have h := h.2 c_4
        refine lv_iload hx hb dX2_find_53 (lv_at hl 4 rfl) ?_
        refine lv_if_lt (tgt := 129) hx hb dX2_find_55 (by decide) (fun c_5 => ?_) (fun c_5 => ?_)
        · have h := h.1 c_5
          exact W.vret hx hb hr (fun t ht hW => ⟨⟨S, rfl, h, gB_of ht hP⟩, hS.F ht⟩) hS.2.2 dX2_find_129
        · have h := h.2 c_5
          refine lv_iload hx hb dX2_find_58 (lv_at hl 4 rfl) ?_
          refine lv_istore (lv' := [(7, .int y5), (0, .ref (X.1 17)), (1, .ref (X.1 (to t1))), (2, .ref (X.1 (mo m2))), (4, .int y4), (5, .int y5), (6, .int y6)]) hx hb dX2_find_60 hl (by decide) rfl (fun ls hl => ?_)
          obtain ⟨n1, h⟩ := h
          exact W62 (fun y4' y5' y6' S9 => q_X2_find_45 t1 m2 x3 post n9 y4' y5' y6' S9) ih n1 y4 y6 y5 S H locs ls hP hS (lv_sub hl [1, 2, 3, 4, 6, 0] rfl) h
  have W19 : ∀ n1 : Nat, ∀ (y4 : Int32) (y5 : Int32) (S : CS) (H : Heap) (locs : List Loc) (ls : Array Slot), va_P D vwCl (CW X S) H → va_S (AX 75 X.1 s.heap.size) s.heap H locs → lv_has ls 8 [(0, .ref (X.1 17)), (1, .ref (X.1 (to t1))), (2, .ref (X.1 (mo m2))), (4, .int y4), (5, .int y5)] → q_X2_find_19 t1 m2 x3 post n1 y4 y5 S → W p l e (headSpec (Cond.code yX2_find cX2_find 8 none :: lw_gd) rm_X2_find).room s m ([.ref (X.1 17), .ref (X.1 (to t1)), .ref (X.1 (mo m2)), .int x3] : List Value).toArray below meth c H locs 0 0 (MQ below (va_Qv post (gB D (CW X)) (AX 75 X.1 s.heap.size)) ([.ref (X.1 17), .ref (X.1 (to t1)), .ref (X.1 (mo m2)), .int x3] : List Value).toArray s 0 0 (AX 75 X.1 s.heap.size)) (F0 m 19 ls []) := by
    intro n1
    induction n1 with
    | zero => intro y4 y5 S H locs ls hP hS hl h; exact h.elim
    | succ n9 ih =>
      intro y4 y5 S H locs ls hP hS hl h
      rw [q_X2_find_19] at h
      refine lv_iload hx hb dX2_find_19 (lv_at hl 4 rfl) ?_
      refine lv_iconst (v := 4) hx hb dX2_find_21 (by decide) ?_
      refine lv_icmp_ge (tgt := 39) hx hb dX2_find_22 (by decide) (fun c_3 => ?_) (fun c_3 => ?_)
      · have h := h.1 c_3
        refine lv_iconst (v := 0) hx hb dX2_find_39 (by decide) ?_
        refine lv_istore (lv' := [(5, .int 0), (0, .ref (X.1 17)), (1, .ref (X.1 (to t1))), (2, .ref (X.1 (mo m2))), (4, .int y4)]) hx hb dX2_find_40 hl (by decide) rfl (fun ls hl => ?_)
        refine lv_iconst (v := 0) hx hb dX2_find_42 (by decide) ?_
        refine lv_istore (lv' := [(6, .int 0), (5, .int 0), (0, .ref (X.1 17)), (1, .ref (X.1 (to t1))), (2, .ref (X.1 (mo m2))), (4, .int y4)]) hx hb dX2_find_43 hl (by decide) rfl (fun ls hl => ?_)
        obtain ⟨n1, h⟩ := h
        exact W45  n1 y4 0 0 S H locs ls hP hS (lv_sub hl [2, 3, 4, 5, 1, 0] rfl) h
      · have h := h.2 c_3
        refine lv_aload_n hx hb dX2_find_25 rfl (lv_at hl 0 rfl) ?_
        refine va_get (D := D) (ci := 2) (v := .ref (X.1 18)) (C := RX2) (T := TX2) (N := 4) hx hb hT inX2 hown hK hP 17 cw_Planner rfl 1 (by decide) (hT _ wf_X2_11) (fun _ h9 => h9) rfl dX2_find_26 ?_
        refine lv_iload hx hb dX2_find_29 (lv_at hl 4 rfl) ?_
        refine lv_iconst (v := (-1)) hx hb dX2_find_31 (by decide) ?_
        obtain ⟨hi, h⟩ := h
        refine g_iast hx hb hK hP (gw_D hX) hS 18 cw_18 rfl hi y5.toNatClampNeg rfl dX2_find_32 (fun H locs hP hS => ?_)
        have hP := cw_st (j := y5.toNatClampNeg) (x := (-1)) rfl hP
        obtain ⟨S_19, eS_19⟩ : ∃ z : CS, z = sti S 18 y5.toNatClampNeg (-1) := ⟨_, rfl⟩
        rw [← eS_19] at hP
        have h := h S_19 eS_19
        obtain ⟨x5_20, ex5_20⟩ : ∃ z : Int32, z = y5 + 1 := ⟨_, rfl⟩
        refine lv_iinc (v := x5_20) (lv' := [(5, .int x5_20), (0, .ref (X.1 17)), (1, .ref (X.1 (to t1))), (2, .ref (X.1 (mo m2))), (4, .int y4)]) hx hb dX2_find_33 hl (k := 4) rfl (by rw [ex5_20]; rfl) (by decide) rfl (fun ls hl => ?_)
        have h := h x5_20 ex5_20
        refine lv_goto (tgt := 19) hx hb dX2_find_36 (by decide) ?_
        exact ih y4 x5_20 S_19 H locs ls hP hS (lv_sub hl [1, 2, 3, 4, 0] rfl) h
  have hl := lv_entry ([.ref (X.1 17), .ref (X.1 (to t1)), .ref (X.1 (mo m2)), .int x3]) (n := 8) (Nat.le_of_ble_eq_true rfl)
  rw [lg_entry_eq]
  generalize (lg_sl ([.ref (X.1 17), .ref (X.1 (to t1)), .ref (X.1 (mo m2)), .int x3]) ++ List.replicate (8 - (lg_sl ([.ref (X.1 17), .ref (X.1 (to t1)), .ref (X.1 (mo m2)), .int x3])).length) Slot.unset).toArray = ls at hl ⊢
  have hl : lv_has ls 8 [(0, .ref (X.1 17)), (1, .ref (X.1 (to t1))), (2, .ref (X.1 (mo m2))), (3, .int x3)] := hl
  obtain ⟨H, hH⟩ : ∃ H : Heap, H = s.heap := ⟨_, rfl⟩
  obtain ⟨locs, hlc⟩ : ∃ q : List Loc, q = [] := ⟨_, rfl⟩
  have hS : va_S (AX 75 X.1 s.heap.size) s.heap H locs := by rw [hH, hlc]; exact hS
  have hP : va_P D vwCl (CW X S) H := by rw [hH]; exact hP
  show W p l e (headSpec (Cond.code yX2_find cX2_find 8 none :: lw_gd) rm_X2_find).room s m ([.ref (X.1 17), .ref (X.1 (to t1)), .ref (X.1 (mo m2)), .int x3] : List Value).toArray below meth c s.heap [] 0 0 (MQ below (va_Qv post (gB D (CW X)) (AX 75 X.1 s.heap.size)) ([.ref (X.1 17), .ref (X.1 (to t1)), .ref (X.1 (mo m2)), .int x3] : List Value).toArray s 0 0 (AX 75 X.1 s.heap.size)) _
  suffices hgo : W p l e (headSpec (Cond.code yX2_find cX2_find 8 none :: lw_gd) rm_X2_find).room s m ([.ref (X.1 17), .ref (X.1 (to t1)), .ref (X.1 (mo m2)), .int x3] : List Value).toArray below meth c H locs 0 0 (MQ below (va_Qv post (gB D (CW X)) (AX 75 X.1 s.heap.size)) ([.ref (X.1 17), .ref (X.1 (to t1)), .ref (X.1 (mo m2)), .int x3] : List Value).toArray s 0 0 (AX 75 X.1 s.heap.size)) (F0 m 0 ls []) from by rw [hH, hlc] at hgo; exact hgo
  unfold p_X2_find at h
  refine lv_iconst (v := 0) hx hb dX2_find_0 (by decide) ?_
  refine lv_iconst (v := 4) hx hb dX2_find_1 (by decide) ?_
  refine lv_iload_n hx hb dX2_find_2 rfl (lv_at hl 3 rfl) ?_
  refine va_mmin hx hb (hml.trans hl.1.symm) hown (hT _ wl_X2_25) (hT _ wt_J9_min_7cf53) (hT _ wn_J9) (hT _ wc_J9_min_7cf53) (Nat.le_of_ble_eq_true rfl) (Nat.le_of_ble_eq_true rfl) (Nat.zero_le _) (Nat.zero_le _) dX2_find_3 ?_
  refine va_mmax hx hb (hml.trans hl.1.symm) hown (hT _ wl_X2_31) (hT _ wt_J9_max_7cf53) (hT _ wn_J9) (hT _ wc_J9_max_7cf53) (Nat.le_of_ble_eq_true rfl) (Nat.le_of_ble_eq_true rfl) (Nat.zero_le _) (Nat.zero_le _) dX2_find_6 ?_
  refine lv_topi (fun x4_1 ex4_1 => ?_)
  have h := h x4_1 ex4_1
  refine lv_istore (lv' := [(4, .int x4_1), (0, .ref (X.1 17)), (1, .ref (X.1 (to t1))), (2, .ref (X.1 (mo m2))), (3, .int x3)]) hx hb dX2_find_9 hl (by decide) rfl (fun ls hl => ?_)
  refine lv_aload_n hx hb dX2_find_11 rfl (lv_at hl 1 rfl) ?_
  refine lv_iconst (v := (-1)) hx hb dX2_find_12 (by decide) ?_
  refine va_put (D := D) (ci := 2) (v := .int (-1)) (ty := .int) (C := RX2) (T := TX2) (N := 4) hx hb hT inX2 tyX2 tyX2_ok nmX2 hown hK hP (gw_D hX) hS 17 cw_Planner rfl 0 (by decide) (hT _ wf_X2_21) (fun _ h9 => h9) rfl (by decide +kernel) rfl rfl (Nat.le_of_ble_eq_true rfl) dX2_find_13 (fun H locs hP _ hS => ?_)
  have hP := cw_st (j := 0) (x := (-1)) rfl hP
  obtain ⟨S_2, eS_2⟩ : ∃ z : CS, z = sti S 17 0 (-1) := ⟨_, rfl⟩
  rw [← eS_2] at hP
  have h := h S_2 eS_2
  refine lv_iconst (v := 0) hx hb dX2_find_16 (by decide) ?_
  refine lv_istore (lv' := [(5, .int 0), (4, .int x4_1), (0, .ref (X.1 17)), (1, .ref (X.1 (to t1))), (2, .ref (X.1 (mo m2))), (3, .int x3)]) hx hb dX2_find_17 hl (by decide) rfl (fun ls hl => ?_)
  obtain ⟨n1, h⟩ := h
  exact W19  n1 x4_1 0 S_2 H locs ls hP hS (lv_sub hl [2, 3, 4, 1, 0] rfl) h

abbrev rm_X6_type : Room := { frames := 1, cells := 0, slots := 0, locals := 21 }
def p_X6_type (S : CS) (x1 : Int32) (post : Int32 → CS → Prop) : Prop := (x1 < 0 → (post (-1) S)) ∧ (¬ (x1 < 0) → ((x1 ≤ 255 → (p_X4_add S ((x1.toUInt32 % 65536).toInt32) (fun r_4 S_3 => ((r_4 = 0 → (post (-3) S_3)) ∧ (¬ (r_4 = 0) → (p_X4_size S_3  (fun r_7 S_6 => (post r_7 S_6)))))))) ∧ (¬ (x1 ≤ 255) → (post (-1) S))))
set_option maxHeartbeats 4000000 in
set_option maxRecDepth 100000 in
theorem c_X6_type (l : Launch) (D : va_G) (X : XE) (hX : Inj 75 X.1) (sz : Nat) (S : CS) (x1 : Int32) (post : Int32 → CS → Prop) (h : p_X6_type S x1 post) : Met l yX6_type (Cond.code yX6_type cX6_type 2 (some .int) :: lw_gd) rm_X6_type (gPc D (tyX X) (CW X) (FXc X) (AX 75 X.1 sz) sz S [.ref (X.1 0), .int x1]) (va_Qi post (gB D (CW X)) (AX 75 X.1 sz)) 0 0 (AX 75 X.1 sz) := by
  refine Met.ofW (cc := cX6_type) (maxL := 2) (ret := (some .int)) (by decide) rfl ?_
  intro p e s m args below meth c s₁ B hml hv
  obtain ⟨rfl, hsz, hP, hK, hF⟩ := hv
  have hx := B.exec
  have hb := B.bytes
  have hr := B.returns
  have hts := atoms_spec (ws := (Cond.code yX6_type cX6_type 2 (some .int) :: lw_gd)) B.pre
  have hT : ∀ w ∈ lw_gd, w.before _ s = true := fun w h9 => hts w (List.mem_cons_of_mem _ h9)
  have hown : s.vm.findClass RX6 = some m.cls := findClass_of_methodNamed B.named
  have hlocks := B.notSynchronized
  subst hsz
  have hS : va_S (AX 75 X.1 s.heap.size) s.heap s.heap [] := va_S.rf
  have hl := lv_entry ([.ref (X.1 0), .int x1]) (n := 2) (Nat.le_of_ble_eq_true rfl)
  rw [lg_entry_eq]
  generalize (lg_sl ([.ref (X.1 0), .int x1]) ++ List.replicate (2 - (lg_sl ([.ref (X.1 0), .int x1])).length) Slot.unset).toArray = ls at hl ⊢
  have hl : lv_has ls 2 [(0, .ref (X.1 0)), (1, .int x1)] := hl
  obtain ⟨H, hH⟩ : ∃ H : Heap, H = s.heap := ⟨_, rfl⟩
  obtain ⟨locs, hlc⟩ : ∃ q : List Loc, q = [] := ⟨_, rfl⟩
  have hS : va_S (AX 75 X.1 s.heap.size) s.heap H locs := by rw [hH, hlc]; exact hS
  have hP : va_P D vwCl (CW X S) H := by rw [hH]; exact hP
  show W p l e (headSpec (Cond.code yX6_type cX6_type 2 (some .int) :: lw_gd) rm_X6_type).room s m ([.ref (X.1 0), .int x1] : List Value).toArray below meth c s.heap [] 0 0 (MQ below (va_Qi post (gB D (CW X)) (AX 75 X.1 s.heap.size)) ([.ref (X.1 0), .int x1] : List Value).toArray s 0 0 (AX 75 X.1 s.heap.size)) _
  suffices hgo : W p l e (headSpec (Cond.code yX6_type cX6_type 2 (some .int) :: lw_gd) rm_X6_type).room s m ([.ref (X.1 0), .int x1] : List Value).toArray below meth c H locs 0 0 (MQ below (va_Qi post (gB D (CW X)) (AX 75 X.1 s.heap.size)) ([.ref (X.1 0), .int x1] : List Value).toArray s 0 0 (AX 75 X.1 s.heap.size)) (F0 m 0 ls []) from by rw [hH, hlc] at hgo; exact hgo
  unfold p_X6_type at h
  refine lv_iload_n hx hb dX6_type_0 rfl (lv_at hl 1 rfl) ?_
  refine lv_if_lt (tgt := 11) hx hb dX6_type_1 (by decide) (fun c_1 => ?_) (fun c_1 => ?_)
  · have h := h.1 c_1
    refine lv_iconst (v := (-1)) hx hb dX6_type_11 (by decide) ?_
    exact W.iret (v := (-1)) hx hb hr (fun t ht hW => ⟨⟨(-1), S, rfl, h, gB_of ht hP⟩, hS.F ht⟩) hS.2.2 dX6_type_12
  · have h := h.2 c_1
    refine lv_iload_n hx hb dX6_type_4 rfl (lv_at hl 1 rfl) ?_
    refine lv_sipush (v := 255) hx hb dX6_type_5 (by decide) ?_
    refine lv_icmp_le (tgt := 13) hx hb dX6_type_8 (by decide) (fun c_2 => ?_) (fun c_2 => ?_)
    · have h := h.1 c_2
      refine lv_aload_n hx hb dX6_type_13 rfl (lv_at hl 0 rfl) ?_
      refine va_get (D := D) (ci := 6) (v := .ref (X.1 1)) (C := RX6) (T := TX6) (N := 16) hx hb hT inX6 hown hK hP 0 cw_Yard rfl 0 (by decide) (hT _ wf_X6_10) (fun _ h9 => h9) rfl dX6_type_14 ?_
      refine lv_iload_n hx hb dX6_type_17 rfl (lv_at hl 1 rfl) ?_
      refine lv_i2c hx hb dX6_type_18 rfl ?_
      refine cVi (As := [.int ((x1.toUInt32 % 65536).toInt32)]) (rest := []) hX ⟨hx, hb, hml, hown, hT⟩ (c_X4_add l D X hX H.size S ((x1.toUInt32 % 65536).toInt32) _ h) (gd_V wl_X6_76 wi_X4_add wv_X4_add wn_X4 wc_X4_add) rfl hd_X4_add ⟨rfl, rfl⟩ ⟨Nat.le_of_ble_eq_true rfl, Nat.le_of_ble_eq_true rfl⟩ (va_recv hK hP (ci := 4) (q0 := 1) rfl cw_Text) hK hP hS hF rfl hl.1 rfl (Nat.le_of_ble_eq_true rfl) dX6_type_19 ⟨Nat.zero_le _, Nat.zero_le _⟩ (fun r_4 S_3 H locs h hP hS => ?_)
      refine lv_if_eq (tgt := 35) hx hb dX6_type_22 (by decide) (fun c_5 => ?_) (fun c_5 => ?_)
      · have h := h.1 c_5
        refine lv_bipush (v := (-3)) hx hb dX6_type_35 (by decide) ?_
        exact W.iret (v := (-3)) hx hb hr (fun t ht hW => ⟨⟨(-3), S_3, rfl, h, gB_of ht hP⟩, hS.F ht⟩) hS.2.2 dX6_type_37
      · have h := h.2 c_5
        refine lv_aload_n hx hb dX6_type_25 rfl (lv_at hl 0 rfl) ?_
        refine va_get (D := D) (ci := 6) (v := .ref (X.1 1)) (C := RX6) (T := TX6) (N := 16) hx hb hT inX6 hown hK hP 0 cw_Yard rfl 0 (by decide) (hT _ wf_X6_10) (fun _ h9 => h9) rfl dX6_type_26 ?_
        refine cVi (As := []) (rest := []) hX ⟨hx, hb, hml, hown, hT⟩ (c_X4_size l D X hX H.size S_3  _ h) (gd_V wl_X6_80 wi_X4_size wv_X4_size wn_X4 wc_X4_size) rfl hd_X4_size ⟨rfl, rfl⟩ ⟨Nat.le_of_ble_eq_true rfl, Nat.le_of_ble_eq_true rfl⟩ (va_recv hK hP (ci := 4) (q0 := 1) rfl cw_Text) hK hP hS hF rfl hl.1 rfl (Nat.le_of_ble_eq_true rfl) dX6_type_29 ⟨Nat.zero_le _, Nat.zero_le _⟩ (fun r_7 S_6 H locs h hP hS => ?_)
        refine lv_goto (tgt := 37) hx hb dX6_type_32 (by decide) ?_
        exact W.iret (v := r_7) hx hb hr (fun t ht hW => ⟨⟨r_7, S_6, rfl, h, gB_of ht hP⟩, hS.F ht⟩) hS.2.2 dX6_type_37
    · have h := h.2 c_2
      refine lv_iconst (v := (-1)) hx hb dX6_type_11 (by decide) ?_
      exact W.iret (v := (-1)) hx hb hr (fun t ht hW => ⟨⟨(-1), S, rfl, h, gB_of ht hP⟩, hS.F ht⟩) hS.2.2 dX6_type_12

abbrev rm_X6_clear : Room := { frames := 1, cells := 0, slots := 0, locals := 20 }
def p_X6_clear (S : CS)  (post : Int32 → CS → Prop) : Prop := p_X4_size S  (fun r_2 S_1 => (p_X4_empty S_1  (fun S_3 => (post r_2 S_3))))
set_option maxHeartbeats 4000000 in
set_option maxRecDepth 100000 in
theorem c_X6_clear (l : Launch) (D : va_G) (X : XE) (hX : Inj 75 X.1) (sz : Nat) (S : CS)  (post : Int32 → CS → Prop) (h : p_X6_clear S  post) : Met l yX6_clear (Cond.code yX6_clear cX6_clear 2 (some .int) :: lw_gd) rm_X6_clear (gPc D (tyX X) (CW X) (FXc X) (AX 75 X.1 sz) sz S [.ref (X.1 0)]) (va_Qi post (gB D (CW X)) (AX 75 X.1 sz)) 0 0 (AX 75 X.1 sz) := by
  refine Met.ofW (cc := cX6_clear) (maxL := 2) (ret := (some .int)) (by decide) rfl ?_
  intro p e s m args below meth c s₁ B hml hv
  obtain ⟨rfl, hsz, hP, hK, hF⟩ := hv
  have hx := B.exec
  have hb := B.bytes
  have hr := B.returns
  have hts := atoms_spec (ws := (Cond.code yX6_clear cX6_clear 2 (some .int) :: lw_gd)) B.pre
  have hT : ∀ w ∈ lw_gd, w.before _ s = true := fun w h9 => hts w (List.mem_cons_of_mem _ h9)
  have hown : s.vm.findClass RX6 = some m.cls := findClass_of_methodNamed B.named
  have hlocks := B.notSynchronized
  subst hsz
  have hS : va_S (AX 75 X.1 s.heap.size) s.heap s.heap [] := va_S.rf
  have hl := lv_entry ([.ref (X.1 0)]) (n := 2) (Nat.le_of_ble_eq_true rfl)
  rw [lg_entry_eq]
  generalize (lg_sl ([.ref (X.1 0)]) ++ List.replicate (2 - (lg_sl ([.ref (X.1 0)])).length) Slot.unset).toArray = ls at hl ⊢
  have hl : lv_has ls 2 [(0, .ref (X.1 0))] := hl
  obtain ⟨H, hH⟩ : ∃ H : Heap, H = s.heap := ⟨_, rfl⟩
  obtain ⟨locs, hlc⟩ : ∃ q : List Loc, q = [] := ⟨_, rfl⟩
  have hS : va_S (AX 75 X.1 s.heap.size) s.heap H locs := by rw [hH, hlc]; exact hS
  have hP : va_P D vwCl (CW X S) H := by rw [hH]; exact hP
  show W p l e (headSpec (Cond.code yX6_clear cX6_clear 2 (some .int) :: lw_gd) rm_X6_clear).room s m ([.ref (X.1 0)] : List Value).toArray below meth c s.heap [] 0 0 (MQ below (va_Qi post (gB D (CW X)) (AX 75 X.1 s.heap.size)) ([.ref (X.1 0)] : List Value).toArray s 0 0 (AX 75 X.1 s.heap.size)) _
  suffices hgo : W p l e (headSpec (Cond.code yX6_clear cX6_clear 2 (some .int) :: lw_gd) rm_X6_clear).room s m ([.ref (X.1 0)] : List Value).toArray below meth c H locs 0 0 (MQ below (va_Qi post (gB D (CW X)) (AX 75 X.1 s.heap.size)) ([.ref (X.1 0)] : List Value).toArray s 0 0 (AX 75 X.1 s.heap.size)) (F0 m 0 ls []) from by rw [hH, hlc] at hgo; exact hgo
  unfold p_X6_clear at h
  refine lv_aload_n hx hb dX6_clear_0 rfl (lv_at hl 0 rfl) ?_
  refine va_get (D := D) (ci := 6) (v := .ref (X.1 1)) (C := RX6) (T := TX6) (N := 16) hx hb hT inX6 hown hK hP 0 cw_Yard rfl 0 (by decide) (hT _ wf_X6_10) (fun _ h9 => h9) rfl dX6_clear_1 ?_
  refine cVi (As := []) (rest := []) hX ⟨hx, hb, hml, hown, hT⟩ (c_X4_size l D X hX H.size S  _ h) (gd_V wl_X6_80 wi_X4_size wv_X4_size wn_X4 wc_X4_size) rfl hd_X4_size ⟨rfl, rfl⟩ ⟨Nat.le_of_ble_eq_true rfl, Nat.le_of_ble_eq_true rfl⟩ (va_recv hK hP (ci := 4) (q0 := 1) rfl cw_Text) hK hP hS hF rfl hl.1 rfl (Nat.le_of_ble_eq_true rfl) dX6_clear_4 ⟨Nat.zero_le _, Nat.zero_le _⟩ (fun r_2 S_1 H locs h hP hS => ?_)
  refine lv_istore_n (lv' := [(1, .int r_2), (0, .ref (X.1 0))]) hx hb dX6_clear_7 rfl hl (by decide) rfl (fun ls hl => ?_)
  refine lv_aload_n hx hb dX6_clear_8 rfl (lv_at hl 1 rfl) ?_
  refine va_get (D := D) (ci := 6) (v := .ref (X.1 1)) (C := RX6) (T := TX6) (N := 16) hx hb hT inX6 hown hK hP 0 cw_Yard rfl 0 (by decide) (hT _ wf_X6_10) (fun _ h9 => h9) rfl dX6_clear_9 ?_
  refine cVv (As := []) (rest := []) hX ⟨hx, hb, hml, hown, hT⟩ (c_X4_empty l D X hX H.size S_1  _ h) (gd_V wl_X6_84 wi_X4_empty wv_X4_empty wn_X4 wc_X4_empty) rfl hd_X4_empty ⟨rfl, rfl⟩ ⟨Nat.le_of_ble_eq_true rfl, Nat.le_of_ble_eq_true rfl⟩ (va_recv hK hP (ci := 4) (q0 := 1) rfl cw_Text) hK hP hS hF rfl hl.1 rfl (Nat.le_of_ble_eq_true rfl) dX6_clear_12 ⟨Nat.zero_le _, Nat.zero_le _⟩ (fun S_3 H locs h hP hS => ?_)
  refine lv_iload_n hx hb dX6_clear_15 rfl (lv_at hl 0 rfl) ?_
  exact W.iret (v := r_2) hx hb hr (fun t ht hW => ⟨⟨r_2, S_3, rfl, h, gB_of ht hP⟩, hS.F ht⟩) hS.2.2 dX6_clear_16

abbrev rm_X6_forgetPast : Room := { frames := 0, cells := 0, slots := 0, locals := 0 }
def p_X6_forgetPast (S : CS)  (post : CS → Prop) : Prop := ∀ S_1 : CS, S_1 = sti S 0 5 0 → (∀ S_2 : CS, S_2 = sti S_1 0 6 0 → (post S_2))
set_option maxHeartbeats 4000000 in
set_option maxRecDepth 100000 in
theorem c_X6_forgetPast (l : Launch) (D : va_G) (X : XE) (hX : Inj 75 X.1) (sz : Nat) (S : CS)  (post : CS → Prop) (h : p_X6_forgetPast S  post) : Met l yX6_forgetPast (Cond.code yX6_forgetPast cX6_forgetPast 1 none :: lw_gd) rm_X6_forgetPast (gPc D (tyX X) (CW X) (FXc X) (AX 75 X.1 sz) sz S [.ref (X.1 0)]) (va_Qv post (gB D (CW X)) (AX 75 X.1 sz)) 0 0 (AX 75 X.1 sz) := by
  refine Met.ofW (cc := cX6_forgetPast) (maxL := 1) (ret := none) (by decide) rfl ?_
  intro p e s m args below meth c s₁ B hml hv
  obtain ⟨rfl, hsz, hP, hK, hF⟩ := hv
  have hx := B.exec
  have hb := B.bytes
  have hr := B.returns
  have hts := atoms_spec (ws := (Cond.code yX6_forgetPast cX6_forgetPast 1 none :: lw_gd)) B.pre
  have hT : ∀ w ∈ lw_gd, w.before _ s = true := fun w h9 => hts w (List.mem_cons_of_mem _ h9)
  have hown : s.vm.findClass RX6 = some m.cls := findClass_of_methodNamed B.named
  have hlocks := B.notSynchronized
  subst hsz
  have hS : va_S (AX 75 X.1 s.heap.size) s.heap s.heap [] := va_S.rf
  have hl := lv_entry ([.ref (X.1 0)]) (n := 1) (Nat.le_of_ble_eq_true rfl)
  rw [lg_entry_eq]
  generalize (lg_sl ([.ref (X.1 0)]) ++ List.replicate (1 - (lg_sl ([.ref (X.1 0)])).length) Slot.unset).toArray = ls at hl ⊢
  have hl : lv_has ls 1 [(0, .ref (X.1 0))] := hl
  obtain ⟨H, hH⟩ : ∃ H : Heap, H = s.heap := ⟨_, rfl⟩
  obtain ⟨locs, hlc⟩ : ∃ q : List Loc, q = [] := ⟨_, rfl⟩
  have hS : va_S (AX 75 X.1 s.heap.size) s.heap H locs := by rw [hH, hlc]; exact hS
  have hP : va_P D vwCl (CW X S) H := by rw [hH]; exact hP
  show W p l e (headSpec (Cond.code yX6_forgetPast cX6_forgetPast 1 none :: lw_gd) rm_X6_forgetPast).room s m ([.ref (X.1 0)] : List Value).toArray below meth c s.heap [] 0 0 (MQ below (va_Qv post (gB D (CW X)) (AX 75 X.1 s.heap.size)) ([.ref (X.1 0)] : List Value).toArray s 0 0 (AX 75 X.1 s.heap.size)) _
  suffices hgo : W p l e (headSpec (Cond.code yX6_forgetPast cX6_forgetPast 1 none :: lw_gd) rm_X6_forgetPast).room s m ([.ref (X.1 0)] : List Value).toArray below meth c H locs 0 0 (MQ below (va_Qv post (gB D (CW X)) (AX 75 X.1 s.heap.size)) ([.ref (X.1 0)] : List Value).toArray s 0 0 (AX 75 X.1 s.heap.size)) (F0 m 0 ls []) from by rw [hH, hlc] at hgo; exact hgo
  unfold p_X6_forgetPast at h
  refine lv_aload_n hx hb dX6_forgetPast_0 rfl (lv_at hl 0 rfl) ?_
  refine lv_iconst (v := 0) hx hb dX6_forgetPast_1 (by decide) ?_
  refine va_put (D := D) (ci := 6) (v := .int 0) (ty := .int) (C := RX6) (T := TX6) (N := 16) hx hb hT inX6 tyX6 tyX6_ok nmX6 hown hK hP (gw_D hX) hS 0 cw_Yard rfl 5 (by decide) (hT _ wf_X6_143) (fun _ h9 => h9) rfl (by decide +kernel) rfl rfl (Nat.le_of_ble_eq_true rfl) dX6_forgetPast_2 (fun H locs hP _ hS => ?_)
  have hP := cw_st (j := 5) (x := 0) rfl hP
  obtain ⟨S_1, eS_1⟩ : ∃ z : CS, z = sti S 0 5 0 := ⟨_, rfl⟩
  rw [← eS_1] at hP
  have h := h S_1 eS_1
  refine lv_aload_n hx hb dX6_forgetPast_5 rfl (lv_at hl 0 rfl) ?_
  refine lv_iconst (v := 0) hx hb dX6_forgetPast_6 (by decide) ?_
  refine va_put (D := D) (ci := 6) (v := .int 0) (ty := .int) (C := RX6) (T := TX6) (N := 16) hx hb hT inX6 tyX6 tyX6_ok nmX6 hown hK hP (gw_D hX) hS 0 cw_Yard rfl 6 (by decide) (hT _ wf_X6_173) (fun _ h9 => h9) rfl (by decide +kernel) rfl rfl (Nat.le_of_ble_eq_true rfl) dX6_forgetPast_7 (fun H locs hP _ hS => ?_)
  have hP := cw_st (j := 6) (x := 0) rfl hP
  obtain ⟨S_2, eS_2⟩ : ∃ z : CS, z = sti S_1 0 6 0 := ⟨_, rfl⟩
  rw [← eS_2] at hP
  have h := h S_2 eS_2
  exact W.vret hx hb hr (fun t ht hW => ⟨⟨S_2, rfl, h, gB_of ht hP⟩, hS.F ht⟩) hS.2.2 dX6_forgetPast_10

abbrev rm_X6_startAnew : Room := { frames := 4, cells := 0, slots := 0, locals := 85 }
def q_X6_startAnew_22  (post : CS → Prop) : Nat → Int32 → CS → Prop
  | 0, _, _ => False
  | n9 + 1, y1, S => (2 ≤ y1 → (post S)) ∧ (¬ (2 ≤ y1) → (vp_in y1 2 ∧ (∀ S_8 : CS, S_8 = sti S 13 y1.toNatClampNeg (vp_nar .boolean 0) → (∀ x1_9 : Int32, x1_9 = y1 + 1 → (q_X6_startAnew_22 post n9 x1_9 S_8)))))
def p_X6_startAnew (S : CS)  (post : CS → Prop) : Prop := (S.2.1 < 2) ∧ (p_X1_begin S 0 S.2.1 (fun S_2 => (p_X6_forgetPast S_2  (fun S_4 => (∀ S_6 : CS, S_6 = sti S_4 0 12 0 → (∃ n, q_X6_startAnew_22 post n 0 S_6))))))
set_option maxHeartbeats 4000000 in
set_option maxRecDepth 100000 in
theorem c_X6_startAnew (l : Launch) (D : va_G) (X : XE) (hX : Inj 75 X.1) (sz : Nat) (S : CS)  (post : CS → Prop) (h : p_X6_startAnew S  post) : Met l yX6_startAnew (Cond.code yX6_startAnew cX6_startAnew 2 none :: lw_gd) rm_X6_startAnew (gPc D (tyX X) (CW X) (FXc X) (AX 75 X.1 sz) sz S [.ref (X.1 0)]) (va_Qv post (gB D (CW X)) (AX 75 X.1 sz)) 0 0 (AX 75 X.1 sz) := by
  refine Met.ofW (cc := cX6_startAnew) (maxL := 2) (ret := none) (by decide) rfl ?_
  intro p e s m args below meth c s₁ B hml hv
  obtain ⟨rfl, hsz, hP, hK, hF⟩ := hv
  have hx := B.exec
  have hb := B.bytes
  have hr := B.returns
  have hts := atoms_spec (ws := (Cond.code yX6_startAnew cX6_startAnew 2 none :: lw_gd)) B.pre
  have hT : ∀ w ∈ lw_gd, w.before _ s = true := fun w h9 => hts w (List.mem_cons_of_mem _ h9)
  have hown : s.vm.findClass RX6 = some m.cls := findClass_of_methodNamed B.named
  have hlocks := B.notSynchronized
  subst hsz
  have hS : va_S (AX 75 X.1 s.heap.size) s.heap s.heap [] := va_S.rf
  have W22 : ∀ n1 : Nat, ∀ (y1 : Int32) (S : CS) (H : Heap) (locs : List Loc) (ls : Array Slot), va_P D vwCl (CW X S) H → va_S (AX 75 X.1 s.heap.size) s.heap H locs → lv_has ls 2 [(0, .ref (X.1 0)), (1, .int y1)] → q_X6_startAnew_22 post n1 y1 S → W p l e (headSpec (Cond.code yX6_startAnew cX6_startAnew 2 none :: lw_gd) rm_X6_startAnew).room s m ([.ref (X.1 0)] : List Value).toArray below meth c H locs 0 0 (MQ below (va_Qv post (gB D (CW X)) (AX 75 X.1 s.heap.size)) ([.ref (X.1 0)] : List Value).toArray s 0 0 (AX 75 X.1 s.heap.size)) (F0 m 22 ls []) := by
    intro n1
    induction n1 with
    | zero => intro y1 S H locs ls hP hS hl h; exact h.elim
    | succ n9 ih =>
      intro y1 S H locs ls hP hS hl h
      rw [q_X6_startAnew_22] at h
      refine lv_iload_n hx hb dX6_startAnew_22 rfl (lv_at hl 1 rfl) ?_
      refine lv_aload_n hx hb dX6_startAnew_23 rfl (lv_at hl 0 rfl) ?_
      refine va_get (D := D) (ci := 6) (v := .ref (X.1 13)) (C := RX6) (T := TX6) (N := 16) hx hb hT inX6 hown hK hP 0 cw_Yard rfl 8 (by decide) (hT _ wf_X6_45) (fun _ h9 => h9) rfl dX6_startAnew_24 ?_
      refine va_alen hx hb hK hP 13 2 cw_13 rfl (v := 2) rfl dX6_startAnew_27 ?_
      refine lv_icmp_ge (tgt := 44) hx hb dX6_startAnew_28 (by decide) (fun c_7 => ?_) (fun c_7 => ?_)
      · have h := h.1 c_7
        exact W.vret hx hb hr (fun t ht hW => ⟨⟨S, rfl, h, gB_of ht hP⟩, hS.F ht⟩) hS.2.2 dX6_startAnew_44
      · have h := h.2 c_7
        refine lv_aload_n hx hb dX6_startAnew_31 rfl (lv_at hl 0 rfl) ?_
        refine va_get (D := D) (ci := 6) (v := .ref (X.1 13)) (C := RX6) (T := TX6) (N := 16) hx hb hT inX6 hown hK hP 0 cw_Yard rfl 8 (by decide) (hT _ wf_X6_45) (fun _ h9 => h9) rfl dX6_startAnew_32 ?_
        refine lv_iload_n hx hb dX6_startAnew_35 rfl (lv_at hl 1 rfl) ?_
        refine lv_iconst (v := 0) hx hb dX6_startAnew_36 (by decide) ?_
        obtain ⟨hi, h⟩ := h
        refine g_zast hx hb hK hP (gw_D hX) hS 13 cw_13 rfl hi y1.toNatClampNeg rfl dX6_startAnew_37 (fun H locs hP hS => ?_)
        have hP := cw_st (j := y1.toNatClampNeg) (x := (vp_nar .boolean 0)) rfl hP
        obtain ⟨S_8, eS_8⟩ : ∃ z : CS, z = sti S 13 y1.toNatClampNeg (vp_nar .boolean 0) := ⟨_, rfl⟩
        rw [← eS_8] at hP
        have h := h S_8 eS_8
        obtain ⟨x1_9, ex1_9⟩ : ∃ z : Int32, z = y1 + 1 := ⟨_, rfl⟩
        refine lv_iinc (v := x1_9) (lv' := [(1, .int x1_9), (0, .ref (X.1 0))]) hx hb dX6_startAnew_38 hl (k := 1) rfl (by rw [ex1_9]; rfl) (by decide) rfl (fun ls hl => ?_)
        have h := h x1_9 ex1_9
        refine lv_goto (tgt := 22) hx hb dX6_startAnew_41 (by decide) ?_
        exact ih x1_9 S_8 H locs ls hP hS (lv_sub hl [1, 0] rfl) h
  have hl := lv_entry ([.ref (X.1 0)]) (n := 2) (Nat.le_of_ble_eq_true rfl)
  rw [lg_entry_eq]
  generalize (lg_sl ([.ref (X.1 0)]) ++ List.replicate (2 - (lg_sl ([.ref (X.1 0)])).length) Slot.unset).toArray = ls at hl ⊢
  have hl : lv_has ls 2 [(0, .ref (X.1 0))] := hl
  obtain ⟨H, hH⟩ : ∃ H : Heap, H = s.heap := ⟨_, rfl⟩
  obtain ⟨locs, hlc⟩ : ∃ q : List Loc, q = [] := ⟨_, rfl⟩
  have hS : va_S (AX 75 X.1 s.heap.size) s.heap H locs := by rw [hH, hlc]; exact hS
  have hP : va_P D vwCl (CW X S) H := by rw [hH]; exact hP
  show W p l e (headSpec (Cond.code yX6_startAnew cX6_startAnew 2 none :: lw_gd) rm_X6_startAnew).room s m ([.ref (X.1 0)] : List Value).toArray below meth c s.heap [] 0 0 (MQ below (va_Qv post (gB D (CW X)) (AX 75 X.1 s.heap.size)) ([.ref (X.1 0)] : List Value).toArray s 0 0 (AX 75 X.1 s.heap.size)) _
  suffices hgo : W p l e (headSpec (Cond.code yX6_startAnew cX6_startAnew 2 none :: lw_gd) rm_X6_startAnew).room s m ([.ref (X.1 0)] : List Value).toArray below meth c H locs 0 0 (MQ below (va_Qv post (gB D (CW X)) (AX 75 X.1 s.heap.size)) ([.ref (X.1 0)] : List Value).toArray s 0 0 (AX 75 X.1 s.heap.size)) (F0 m 0 ls []) from by rw [hH, hlc] at hgo; exact hgo
  unfold p_X6_startAnew at h
  refine lv_aload_n hx hb dX6_startAnew_0 rfl (lv_at hl 0 rfl) ?_
  refine va_get (D := D) (ci := 6) (v := .ref (X.1 (mo 0))) (C := RX6) (T := TX6) (N := 16) hx hb hT inX6 hown hK hP 0 cw_Yard rfl 3 (by decide) (hT _ wf_X6_29) (fun _ h9 => h9) rfl dX6_startAnew_1 ?_
  refine lv_aload_n hx hb dX6_startAnew_4 rfl (lv_at hl 0 rfl) ?_
  obtain ⟨ht_1, h⟩ := h
  refine va_get (D := D) (ci := 6) (v := .ref (X.1 (to S.2.1))) (C := RX6) (T := TX6) (N := 16) hx hb hT inX6 hown hK hP 0 cw_Yard rfl 1 (by decide) (hT _ wf_X6_19) (fun _ h9 => h9) rfl dX6_startAnew_5 ?_
  refine cVv (As := [.ref (X.1 (to S.2.1))]) (rest := []) hX ⟨hx, hb, hml, hown, hT⟩ (c_X1_begin l D X hX H.size S 0 (by decide) S.2.1 (by omega) _ h) (gd_V wl_X6_283 wi_X1_begin wv_X1_begin wn_X1 wc_X1_begin) rfl hd_X1_begin ⟨rfl, rfl⟩ ⟨Nat.le_of_ble_eq_true rfl, Nat.le_of_ble_eq_true rfl⟩ (va_recv hK hP (ci := 1) (q0 := (mo 0)) rfl (cw_Moment (m := 0) (by decide))) hK hP hS hF rfl hl.1 rfl (Nat.le_of_ble_eq_true rfl) dX6_startAnew_8 ⟨Nat.zero_le _, Nat.zero_le _⟩ (fun S_2 H locs h hP hS => ?_)
  refine lv_aload_n hx hb dX6_startAnew_11 rfl (lv_at hl 0 rfl) ?_
  refine cVv (As := []) (rest := []) hX ⟨hx, hb, hml, hown, hT⟩ (c_X6_forgetPast l D X hX H.size S_2  _ h) (gd_V wl_X6_273 wi_X6_forgetPast wv_X6_forgetPast wn_X6 wc_X6_forgetPast) rfl hd_X6_forgetPast ⟨rfl, rfl⟩ ⟨Nat.le_of_ble_eq_true rfl, Nat.le_of_ble_eq_true rfl⟩ (va_recv hK hP (ci := 6) (q0 := 0) rfl cw_Yard) hK hP hS hF rfl hl.1 rfl (Nat.le_of_ble_eq_true rfl) dX6_startAnew_12 ⟨Nat.zero_le _, Nat.zero_le _⟩ (fun S_4 H locs h hP hS => ?_)
  refine lv_aload_n hx hb dX6_startAnew_15 rfl (lv_at hl 0 rfl) ?_
  refine lv_iconst (v := 0) hx hb dX6_startAnew_16 (by decide) ?_
  refine va_put (D := D) (ci := 6) (v := .int 0) (ty := .int) (C := RX6) (T := TX6) (N := 16) hx hb hT inX6 tyX6 tyX6_ok nmX6 hown hK hP (gw_D hX) hS 0 cw_Yard rfl 12 (by decide) (hT _ wf_X6_236) (fun _ h9 => h9) rfl (by decide +kernel) rfl rfl (Nat.le_of_ble_eq_true rfl) dX6_startAnew_17 (fun H locs hP _ hS => ?_)
  have hP := cw_st (j := 12) (x := 0) rfl hP
  obtain ⟨S_6, eS_6⟩ : ∃ z : CS, z = sti S_4 0 12 0 := ⟨_, rfl⟩
  rw [← eS_6] at hP
  have h := h S_6 eS_6
  refine lv_iconst (v := 0) hx hb dX6_startAnew_20 (by decide) ?_
  refine lv_istore_n (lv' := [(1, .int 0), (0, .ref (X.1 0))]) hx hb dX6_startAnew_21 rfl hl (by decide) rfl (fun ls hl => ?_)
  obtain ⟨n1, h⟩ := h
  exact W22  n1 0 S_6 H locs ls hP hS (lv_sub hl [1, 0] rfl) h

abbrev rm_X6_yard : Room := { frames := 6, cells := 0, slots := 0, locals := 139 }
def p_X6_yard (S : CS)  (post : Int32 → CS → Prop) : Prop := (S.2.2.1 < 2) ∧ (p_X5_readFrom S S.2.2.1 (fun r_3 S_2 => ((0 ≤ r_3 → ((S_2.2.1 < 2) ∧ ((S_2.2.2.1 < 2) ∧ (∀ S_7 : CS, S_7 = std S_2 S_2.2.2.1 → (∀ S_8 : CS, S_8 = sdd S_7 S_2.2.1 → (p_X4_empty S_8  (fun S_9 => (p_X6_startAnew S_9  (fun S_11 => (post r_3 S_11)))))))))) ∧ (¬ (0 ≤ r_3) → (post r_3 S_2)))))
set_option maxHeartbeats 4000000 in
set_option maxRecDepth 100000 in
theorem c_X6_yard (l : Launch) (D : va_G) (X : XE) (hX : Inj 75 X.1) (sz : Nat) (S : CS)  (post : Int32 → CS → Prop) (h : p_X6_yard S  post) : Met l yX6_yard (Cond.code yX6_yard cX6_yard 3 (some .int) :: lw_gd) rm_X6_yard (gPc D (tyX X) (CW X) (FXc X) (AX 75 X.1 sz) sz S [.ref (X.1 0)]) (va_Qi post (gB D (CW X)) (AX 75 X.1 sz)) 0 0 (AX 75 X.1 sz) := by
  refine Met.ofW (cc := cX6_yard) (maxL := 3) (ret := (some .int)) (by decide) rfl ?_
  intro p e s m args below meth c s₁ B hml hv
  obtain ⟨rfl, hsz, hP, hK, hF⟩ := hv
  have hx := B.exec
  have hb := B.bytes
  have hr := B.returns
  have hts := atoms_spec (ws := (Cond.code yX6_yard cX6_yard 3 (some .int) :: lw_gd)) B.pre
  have hT : ∀ w ∈ lw_gd, w.before _ s = true := fun w h9 => hts w (List.mem_cons_of_mem _ h9)
  have hown : s.vm.findClass RX6 = some m.cls := findClass_of_methodNamed B.named
  have hlocks := B.notSynchronized
  subst hsz
  have hS : va_S (AX 75 X.1 s.heap.size) s.heap s.heap [] := va_S.rf
  have hl := lv_entry ([.ref (X.1 0)]) (n := 3) (Nat.le_of_ble_eq_true rfl)
  rw [lg_entry_eq]
  generalize (lg_sl ([.ref (X.1 0)]) ++ List.replicate (3 - (lg_sl ([.ref (X.1 0)])).length) Slot.unset).toArray = ls at hl ⊢
  have hl : lv_has ls 3 [(0, .ref (X.1 0))] := hl
  obtain ⟨H, hH⟩ : ∃ H : Heap, H = s.heap := ⟨_, rfl⟩
  obtain ⟨locs, hlc⟩ : ∃ q : List Loc, q = [] := ⟨_, rfl⟩
  have hS : va_S (AX 75 X.1 s.heap.size) s.heap H locs := by rw [hH, hlc]; exact hS
  have hP : va_P D vwCl (CW X S) H := by rw [hH]; exact hP
  show W p l e (headSpec (Cond.code yX6_yard cX6_yard 3 (some .int) :: lw_gd) rm_X6_yard).room s m ([.ref (X.1 0)] : List Value).toArray below meth c s.heap [] 0 0 (MQ below (va_Qi post (gB D (CW X)) (AX 75 X.1 s.heap.size)) ([.ref (X.1 0)] : List Value).toArray s 0 0 (AX 75 X.1 s.heap.size)) _
  suffices hgo : W p l e (headSpec (Cond.code yX6_yard cX6_yard 3 (some .int) :: lw_gd) rm_X6_yard).room s m ([.ref (X.1 0)] : List Value).toArray below meth c H locs 0 0 (MQ below (va_Qi post (gB D (CW X)) (AX 75 X.1 s.heap.size)) ([.ref (X.1 0)] : List Value).toArray s 0 0 (AX 75 X.1 s.heap.size)) (F0 m 0 ls []) from by rw [hH, hlc] at hgo; exact hgo
  unfold p_X6_yard at h
  refine lv_aload_n hx hb dX6_yard_0 rfl (lv_at hl 0 rfl) ?_
  obtain ⟨ht_1, h⟩ := h
  refine va_get (D := D) (ci := 6) (v := .ref (X.1 (to S.2.2.1))) (C := RX6) (T := TX6) (N := 16) hx hb hT inX6 hown hK hP 0 cw_Yard rfl 2 (by decide) (hT _ wf_X6_23) (fun _ h9 => h9) rfl dX6_yard_1 ?_
  refine lv_aload_n hx hb dX6_yard_4 rfl (lv_at hl 0 rfl) ?_
  refine va_get (D := D) (ci := 6) (v := .ref (X.1 1)) (C := RX6) (T := TX6) (N := 16) hx hb hT inX6 hown hK hP 0 cw_Yard rfl 0 (by decide) (hT _ wf_X6_10) (fun _ h9 => h9) rfl dX6_yard_5 ?_
  refine cVi (As := [.ref (X.1 1)]) (rest := []) hX ⟨hx, hb, hml, hown, hT⟩ (c_X5_readFrom l D X hX H.size S S.2.2.1 (by omega) _ h) (gd_V wl_X6_87 wi_X5_readFrom wv_X5_readFrom wn_X5 wc_X5_readFrom) rfl hd_X5_readFrom ⟨rfl, rfl⟩ ⟨Nat.le_of_ble_eq_true rfl, Nat.le_of_ble_eq_true rfl⟩ (va_recv hK hP (ci := 5) (q0 := (to S.2.2.1)) rfl (cw_Told (t := S.2.2.1) (by omega))) hK hP hS hF rfl hl.1 rfl (Nat.le_of_ble_eq_true rfl) dX6_yard_8 ⟨Nat.zero_le _, Nat.zero_le _⟩ (fun r_3 S_2 H locs h hP hS => ?_)
  refine lv_istore_n (lv' := [(1, .int r_3), (0, .ref (X.1 0))]) hx hb dX6_yard_11 rfl hl (by decide) rfl (fun ls hl => ?_)
  refine lv_iload_n hx hb dX6_yard_12 rfl (lv_at hl 0 rfl) ?_
  refine lv_if_ge (tgt := 18) hx hb dX6_yard_13 (by decide) (fun c_4 => ?_) (fun c_4 => ?_)
  · have h := h.1 c_4
    refine lv_aload_n hx hb dX6_yard_18 rfl (lv_at hl 1 rfl) ?_
    obtain ⟨ht_5, h⟩ := h
    refine va_get (D := D) (ci := 6) (v := .ref (X.1 (to S_2.2.1))) (C := RX6) (T := TX6) (N := 16) hx hb hT inX6 hown hK hP 0 cw_Yard rfl 1 (by decide) (hT _ wf_X6_19) (fun _ h9 => h9) rfl dX6_yard_19 ?_
    refine lv_astore_n (lv' := [(2, .ref (X.1 (to S_2.2.1))), (1, .int r_3), (0, .ref (X.1 0))]) hx hb dX6_yard_22 rfl hl (by decide) rfl (fun ls hl => ?_)
    refine lv_aload_n hx hb dX6_yard_23 rfl (lv_at hl 2 rfl) ?_
    refine lv_aload_n hx hb dX6_yard_24 rfl (lv_at hl 2 rfl) ?_
    obtain ⟨ht_6, h⟩ := h
    refine va_get (D := D) (ci := 6) (v := .ref (X.1 (to S_2.2.2.1))) (C := RX6) (T := TX6) (N := 16) hx hb hT inX6 hown hK hP 0 cw_Yard rfl 2 (by decide) (hT _ wf_X6_23) (fun _ h9 => h9) rfl dX6_yard_25 ?_
    refine va_put (D := D) (ci := 6) (v := .ref (X.1 (to S_2.2.2.1))) (ty := .object "BesomYard$Told") (C := RX6) (T := TX6) (N := 16) hx hb hT inX6 tyX6 tyX6_ok nmX6 hown hK hP (gw_D hX) hS 0 cw_Yard rfl 1 (by decide) (hT _ wf_X6_19) (fun _ h9 => h9) rfl (by decide +kernel) rfl rfl (Nat.le_of_ble_eq_true rfl) dX6_yard_28 (fun H locs hP _ hS => ?_)
    have hP := cw_std (t := S_2.2.2.1) rfl hP
    obtain ⟨S_7, eS_7⟩ : ∃ z : CS, z = std S_2 S_2.2.2.1 := ⟨_, rfl⟩
    rw [← eS_7] at hP
    have h := h S_7 eS_7
    refine lv_aload_n hx hb dX6_yard_31 rfl (lv_at hl 2 rfl) ?_
    refine lv_aload_n hx hb dX6_yard_32 rfl (lv_at hl 0 rfl) ?_
    refine va_put (D := D) (ci := 6) (v := .ref (X.1 (to S_2.2.1))) (ty := .object "BesomYard$Told") (C := RX6) (T := TX6) (N := 16) hx hb hT inX6 tyX6 tyX6_ok nmX6 hown hK hP (gw_D hX) hS 0 cw_Yard rfl 2 (by decide) (hT _ wf_X6_23) (fun _ h9 => h9) rfl (by decide +kernel) rfl rfl (Nat.le_of_ble_eq_true rfl) dX6_yard_33 (fun H locs hP _ hS => ?_)
    have hP := cw_sdd (t := S_2.2.1) rfl hP
    obtain ⟨S_8, eS_8⟩ : ∃ z : CS, z = sdd S_7 S_2.2.1 := ⟨_, rfl⟩
    rw [← eS_8] at hP
    have h := h S_8 eS_8
    refine lv_aload_n hx hb dX6_yard_36 rfl (lv_at hl 2 rfl) ?_
    refine va_get (D := D) (ci := 6) (v := .ref (X.1 1)) (C := RX6) (T := TX6) (N := 16) hx hb hT inX6 hown hK hP 0 cw_Yard rfl 0 (by decide) (hT _ wf_X6_10) (fun _ h9 => h9) rfl dX6_yard_37 ?_
    refine cVv (As := []) (rest := []) hX ⟨hx, hb, hml, hown, hT⟩ (c_X4_empty l D X hX H.size S_8  _ h) (gd_V wl_X6_84 wi_X4_empty wv_X4_empty wn_X4 wc_X4_empty) rfl hd_X4_empty ⟨rfl, rfl⟩ ⟨Nat.le_of_ble_eq_true rfl, Nat.le_of_ble_eq_true rfl⟩ (va_recv hK hP (ci := 4) (q0 := 1) rfl cw_Text) hK hP hS hF rfl hl.1 rfl (Nat.le_of_ble_eq_true rfl) dX6_yard_40 ⟨Nat.zero_le _, Nat.zero_le _⟩ (fun S_9 H locs h hP hS => ?_)
    refine lv_aload_n hx hb dX6_yard_43 rfl (lv_at hl 2 rfl) ?_
    refine cVv (As := []) (rest := []) hX ⟨hx, hb, hml, hown, hT⟩ (c_X6_startAnew l D X hX H.size S_9  _ h) (gd_V wl_X6_73 wi_X6_startAnew wv_X6_startAnew wn_X6 wc_X6_startAnew) rfl hd_X6_startAnew ⟨rfl, rfl⟩ ⟨Nat.le_of_ble_eq_true rfl, Nat.le_of_ble_eq_true rfl⟩ (va_recv hK hP (ci := 6) (q0 := 0) rfl cw_Yard) hK hP hS hF rfl hl.1 rfl (Nat.le_of_ble_eq_true rfl) dX6_yard_44 ⟨Nat.zero_le _, Nat.zero_le _⟩ (fun S_11 H locs h hP hS => ?_)
    refine lv_iload_n hx hb dX6_yard_47 rfl (lv_at hl 1 rfl) ?_
    exact W.iret (v := r_3) hx hb hr (fun t ht hW => ⟨⟨r_3, S_11, rfl, h, gB_of ht hP⟩, hS.F ht⟩) hS.2.2 dX6_yard_48
  · have h := h.2 c_4
    refine lv_iload_n hx hb dX6_yard_16 rfl (lv_at hl 0 rfl) ?_
    exact W.iret (v := r_3) hx hb hr (fun t ht hW => ⟨⟨r_3, S_2, rfl, h, gB_of ht hP⟩, hS.F ht⟩) hS.2.2 dX6_yard_17

abbrev rm_X6_isPart : Room := { frames := 1, cells := 0, slots := 0, locals := 20 }
def p_X6_isPart (S : CS) (x1 : Int32) (post : Int32 → CS → Prop) : Prop := (x1 < 0 → (post 0 S)) ∧ (¬ (x1 < 0) → ((S.2.1 < 2) ∧ (p_X5_parts S S.2.1 (fun r_4 S_3 => ((r_4 ≤ x1 → (post 0 S_3)) ∧ (¬ (r_4 ≤ x1) → (post 1 S_3)))))))
set_option maxHeartbeats 4000000 in
set_option maxRecDepth 100000 in
theorem c_X6_isPart (l : Launch) (D : va_G) (X : XE) (hX : Inj 75 X.1) (sz : Nat) (S : CS) (x1 : Int32) (post : Int32 → CS → Prop) (h : p_X6_isPart S x1 post) : Met l yX6_isPart (Cond.code yX6_isPart cX6_isPart 2 (some .boolean) :: lw_gd) rm_X6_isPart (gPc D (tyX X) (CW X) (FXc X) (AX 75 X.1 sz) sz S [.ref (X.1 0), .int x1]) (va_Qi post (gB D (CW X)) (AX 75 X.1 sz)) 0 0 (AX 75 X.1 sz) := by
  refine Met.ofW (cc := cX6_isPart) (maxL := 2) (ret := (some .boolean)) (by decide) rfl ?_
  intro p e s m args below meth c s₁ B hml hv
  obtain ⟨rfl, hsz, hP, hK, hF⟩ := hv
  have hx := B.exec
  have hb := B.bytes
  have hr := B.returns
  have hts := atoms_spec (ws := (Cond.code yX6_isPart cX6_isPart 2 (some .boolean) :: lw_gd)) B.pre
  have hT : ∀ w ∈ lw_gd, w.before _ s = true := fun w h9 => hts w (List.mem_cons_of_mem _ h9)
  have hown : s.vm.findClass RX6 = some m.cls := findClass_of_methodNamed B.named
  have hlocks := B.notSynchronized
  subst hsz
  have hS : va_S (AX 75 X.1 s.heap.size) s.heap s.heap [] := va_S.rf
  have hl := lv_entry ([.ref (X.1 0), .int x1]) (n := 2) (Nat.le_of_ble_eq_true rfl)
  rw [lg_entry_eq]
  generalize (lg_sl ([.ref (X.1 0), .int x1]) ++ List.replicate (2 - (lg_sl ([.ref (X.1 0), .int x1])).length) Slot.unset).toArray = ls at hl ⊢
  have hl : lv_has ls 2 [(0, .ref (X.1 0)), (1, .int x1)] := hl
  obtain ⟨H, hH⟩ : ∃ H : Heap, H = s.heap := ⟨_, rfl⟩
  obtain ⟨locs, hlc⟩ : ∃ q : List Loc, q = [] := ⟨_, rfl⟩
  have hS : va_S (AX 75 X.1 s.heap.size) s.heap H locs := by rw [hH, hlc]; exact hS
  have hP : va_P D vwCl (CW X S) H := by rw [hH]; exact hP
  show W p l e (headSpec (Cond.code yX6_isPart cX6_isPart 2 (some .boolean) :: lw_gd) rm_X6_isPart).room s m ([.ref (X.1 0), .int x1] : List Value).toArray below meth c s.heap [] 0 0 (MQ below (va_Qi post (gB D (CW X)) (AX 75 X.1 s.heap.size)) ([.ref (X.1 0), .int x1] : List Value).toArray s 0 0 (AX 75 X.1 s.heap.size)) _
  suffices hgo : W p l e (headSpec (Cond.code yX6_isPart cX6_isPart 2 (some .boolean) :: lw_gd) rm_X6_isPart).room s m ([.ref (X.1 0), .int x1] : List Value).toArray below meth c H locs 0 0 (MQ below (va_Qi post (gB D (CW X)) (AX 75 X.1 s.heap.size)) ([.ref (X.1 0), .int x1] : List Value).toArray s 0 0 (AX 75 X.1 s.heap.size)) (F0 m 0 ls []) from by rw [hH, hlc] at hgo; exact hgo
  unfold p_X6_isPart at h
  refine lv_iload_n hx hb dX6_isPart_0 rfl (lv_at hl 1 rfl) ?_
  refine lv_if_lt (tgt := 19) hx hb dX6_isPart_1 (by decide) (fun c_1 => ?_) (fun c_1 => ?_)
  · have h := h.1 c_1
    refine lv_iconst (v := 0) hx hb dX6_isPart_19 (by decide) ?_
    exact W.zret (v := 0) hx hb hr rfl (fun t ht hW => ⟨⟨0, S, rfl, h, gB_of ht hP⟩, hS.F ht⟩) hS.2.2 dX6_isPart_20
  · have h := h.2 c_1
    refine lv_iload_n hx hb dX6_isPart_4 rfl (lv_at hl 1 rfl) ?_
    refine lv_aload_n hx hb dX6_isPart_5 rfl (lv_at hl 0 rfl) ?_
    obtain ⟨ht_2, h⟩ := h
    refine va_get (D := D) (ci := 6) (v := .ref (X.1 (to S.2.1))) (C := RX6) (T := TX6) (N := 16) hx hb hT inX6 hown hK hP 0 cw_Yard rfl 1 (by decide) (hT _ wf_X6_19) (fun _ h9 => h9) rfl dX6_isPart_6 ?_
    refine cVi (As := []) (rest := [.int x1]) hX ⟨hx, hb, hml, hown, hT⟩ (c_X5_parts l D X hX H.size S S.2.1 (by omega) _ h) (gd_V wl_X6_219 wi_X5_parts wv_X5_parts wn_X5 wc_X5_parts) rfl hd_X5_parts ⟨rfl, rfl⟩ ⟨Nat.le_of_ble_eq_true rfl, Nat.le_of_ble_eq_true rfl⟩ (va_recv hK hP (ci := 5) (q0 := (to S.2.1)) rfl (cw_Told (t := S.2.1) (by omega))) hK hP hS hF rfl hl.1 rfl (Nat.le_of_ble_eq_true rfl) dX6_isPart_9 ⟨Nat.zero_le _, Nat.zero_le _⟩ (fun r_4 S_3 H locs h hP hS => ?_)
    refine lv_icmp_ge (tgt := 19) hx hb dX6_isPart_12 (by decide) (fun c_5 => ?_) (fun c_5 => ?_)
    · have h := h.1 c_5
      refine lv_iconst (v := 0) hx hb dX6_isPart_19 (by decide) ?_
      exact W.zret (v := 0) hx hb hr rfl (fun t ht hW => ⟨⟨0, S_3, rfl, h, gB_of ht hP⟩, hS.F ht⟩) hS.2.2 dX6_isPart_20
    · have h := h.2 c_5
      refine lv_iconst (v := 1) hx hb dX6_isPart_15 (by decide) ?_
      refine lv_goto (tgt := 20) hx hb dX6_isPart_16 (by decide) ?_
      exact W.zret (v := 1) hx hb hr rfl (fun t ht hW => ⟨⟨1, S_3, rfl, h, gB_of ht hP⟩, hS.F ht⟩) hS.2.2 dX6_isPart_20

abbrev rm_X6_giftOf : Room := { frames := 3, cells := 0, slots := 0, locals := 63 }
def p_X6_giftOf (S : CS) (x1 : Int32) (post : Int32 → CS → Prop) : Prop := (S.2.1 < 2) ∧ (p_X5_value S S.2.1 0 x1 (fun r_3 S_2 => (p_X1_age S_2 0 x1 (fun r_5 S_4 => ((S_4.2.1 < 2) ∧ (p_X5_ripe S_4 S_4.2.1 (fun r_8 S_7 => (p_X6_gift S_7 r_3 r_5 r_8 (fun r_10 S_9 => (post r_10 S_9))))))))))
set_option maxHeartbeats 4000000 in
set_option maxRecDepth 100000 in
theorem c_X6_giftOf (l : Launch) (D : va_G) (X : XE) (hX : Inj 75 X.1) (sz : Nat) (S : CS) (x1 : Int32) (post : Int32 → CS → Prop) (h : p_X6_giftOf S x1 post) : Met l yX6_giftOf (Cond.code yX6_giftOf cX6_giftOf 2 (some .int) :: lw_gd) rm_X6_giftOf (gPc D (tyX X) (CW X) (FXc X) (AX 75 X.1 sz) sz S [.ref (X.1 0), .int x1]) (va_Qi post (gB D (CW X)) (AX 75 X.1 sz)) 0 0 (AX 75 X.1 sz) := by
  refine Met.ofW (cc := cX6_giftOf) (maxL := 2) (ret := (some .int)) (by decide) rfl ?_
  intro p e s m args below meth c s₁ B hml hv
  obtain ⟨rfl, hsz, hP, hK, hF⟩ := hv
  have hx := B.exec
  have hb := B.bytes
  have hr := B.returns
  have hts := atoms_spec (ws := (Cond.code yX6_giftOf cX6_giftOf 2 (some .int) :: lw_gd)) B.pre
  have hT : ∀ w ∈ lw_gd, w.before _ s = true := fun w h9 => hts w (List.mem_cons_of_mem _ h9)
  have hown : s.vm.findClass RX6 = some m.cls := findClass_of_methodNamed B.named
  have hlocks := B.notSynchronized
  subst hsz
  have hS : va_S (AX 75 X.1 s.heap.size) s.heap s.heap [] := va_S.rf
  have hl := lv_entry ([.ref (X.1 0), .int x1]) (n := 2) (Nat.le_of_ble_eq_true rfl)
  rw [lg_entry_eq]
  generalize (lg_sl ([.ref (X.1 0), .int x1]) ++ List.replicate (2 - (lg_sl ([.ref (X.1 0), .int x1])).length) Slot.unset).toArray = ls at hl ⊢
  have hl : lv_has ls 2 [(0, .ref (X.1 0)), (1, .int x1)] := hl
  obtain ⟨H, hH⟩ : ∃ H : Heap, H = s.heap := ⟨_, rfl⟩
  obtain ⟨locs, hlc⟩ : ∃ q : List Loc, q = [] := ⟨_, rfl⟩
  have hS : va_S (AX 75 X.1 s.heap.size) s.heap H locs := by rw [hH, hlc]; exact hS
  have hP : va_P D vwCl (CW X S) H := by rw [hH]; exact hP
  show W p l e (headSpec (Cond.code yX6_giftOf cX6_giftOf 2 (some .int) :: lw_gd) rm_X6_giftOf).room s m ([.ref (X.1 0), .int x1] : List Value).toArray below meth c s.heap [] 0 0 (MQ below (va_Qi post (gB D (CW X)) (AX 75 X.1 s.heap.size)) ([.ref (X.1 0), .int x1] : List Value).toArray s 0 0 (AX 75 X.1 s.heap.size)) _
  suffices hgo : W p l e (headSpec (Cond.code yX6_giftOf cX6_giftOf 2 (some .int) :: lw_gd) rm_X6_giftOf).room s m ([.ref (X.1 0), .int x1] : List Value).toArray below meth c H locs 0 0 (MQ below (va_Qi post (gB D (CW X)) (AX 75 X.1 s.heap.size)) ([.ref (X.1 0), .int x1] : List Value).toArray s 0 0 (AX 75 X.1 s.heap.size)) (F0 m 0 ls []) from by rw [hH, hlc] at hgo; exact hgo
  unfold p_X6_giftOf at h
  refine lv_aload_n hx hb dX6_giftOf_0 rfl (lv_at hl 0 rfl) ?_
  obtain ⟨ht_1, h⟩ := h
  refine va_get (D := D) (ci := 6) (v := .ref (X.1 (to S.2.1))) (C := RX6) (T := TX6) (N := 16) hx hb hT inX6 hown hK hP 0 cw_Yard rfl 1 (by decide) (hT _ wf_X6_19) (fun _ h9 => h9) rfl dX6_giftOf_1 ?_
  refine lv_iconst (v := 0) hx hb dX6_giftOf_4 (by decide) ?_
  refine lv_iload_n hx hb dX6_giftOf_5 rfl (lv_at hl 1 rfl) ?_
  refine cVi (As := [.int 0, .int x1]) (rest := []) hX ⟨hx, hb, hml, hown, hT⟩ (c_X5_value l D X hX H.size S S.2.1 (by omega) 0 x1 _ h) (gd_V wl_X6_95 wi_X5_value wv_X5_value wn_X5 wc_X5_value) rfl hd_X5_value ⟨rfl, rfl⟩ ⟨Nat.le_of_ble_eq_true rfl, Nat.le_of_ble_eq_true rfl⟩ (va_recv hK hP (ci := 5) (q0 := (to S.2.1)) rfl (cw_Told (t := S.2.1) (by omega))) hK hP hS hF rfl hl.1 rfl (Nat.le_of_ble_eq_true rfl) dX6_giftOf_6 ⟨Nat.zero_le _, Nat.zero_le _⟩ (fun r_3 S_2 H locs h hP hS => ?_)
  refine lv_aload_n hx hb dX6_giftOf_9 rfl (lv_at hl 0 rfl) ?_
  refine va_get (D := D) (ci := 6) (v := .ref (X.1 (mo 0))) (C := RX6) (T := TX6) (N := 16) hx hb hT inX6 hown hK hP 0 cw_Yard rfl 3 (by decide) (hT _ wf_X6_29) (fun _ h9 => h9) rfl dX6_giftOf_10 ?_
  refine lv_iload_n hx hb dX6_giftOf_13 rfl (lv_at hl 1 rfl) ?_
  refine cVi (As := [.int x1]) (rest := [.int r_3]) hX ⟨hx, hb, hml, hown, hT⟩ (c_X1_age l D X hX H.size S_2 0 (by decide) x1 _ h) (gd_V wl_X6_99 wi_X1_age wv_X1_age wn_X1 wc_X1_age) rfl hd_X1_age ⟨rfl, rfl⟩ ⟨Nat.le_of_ble_eq_true rfl, Nat.le_of_ble_eq_true rfl⟩ (va_recv hK hP (ci := 1) (q0 := (mo 0)) rfl (cw_Moment (m := 0) (by decide))) hK hP hS hF rfl hl.1 rfl (Nat.le_of_ble_eq_true rfl) dX6_giftOf_14 ⟨Nat.zero_le _, Nat.zero_le _⟩ (fun r_5 S_4 H locs h hP hS => ?_)
  refine lv_aload_n hx hb dX6_giftOf_17 rfl (lv_at hl 0 rfl) ?_
  obtain ⟨ht_6, h⟩ := h
  refine va_get (D := D) (ci := 6) (v := .ref (X.1 (to S_4.2.1))) (C := RX6) (T := TX6) (N := 16) hx hb hT inX6 hown hK hP 0 cw_Yard rfl 1 (by decide) (hT _ wf_X6_19) (fun _ h9 => h9) rfl dX6_giftOf_18 ?_
  refine cVi (As := []) (rest := [.int r_5, .int r_3]) hX ⟨hx, hb, hml, hown, hT⟩ (c_X5_ripe l D X hX H.size S_4 S_4.2.1 (by omega) _ h) (gd_V wl_X6_180 wi_X5_ripe wv_X5_ripe wn_X5 wc_X5_ripe) rfl hd_X5_ripe ⟨rfl, rfl⟩ ⟨Nat.le_of_ble_eq_true rfl, Nat.le_of_ble_eq_true rfl⟩ (va_recv hK hP (ci := 5) (q0 := (to S_4.2.1)) rfl (cw_Told (t := S_4.2.1) (by omega))) hK hP hS hF rfl hl.1 rfl (Nat.le_of_ble_eq_true rfl) dX6_giftOf_21 ⟨Nat.zero_le _, Nat.zero_le _⟩ (fun r_8 S_7 H locs h hP hS => ?_)
  refine cSi (As := [.int r_3, .int r_5, .int r_8]) (rest := []) hX ⟨hx, hb, hml, hown, hT⟩ (c_X6_gift l D X hX H.size S_7 r_3 r_5 r_8 _ h) (gd_S wl_X6_183 wt_X6_gift wn_X6 wc_X6_gift) hd_X6_gift ⟨rfl, rfl⟩ ⟨Nat.le_of_ble_eq_true rfl, Nat.le_of_ble_eq_true rfl⟩ hK hP hS hF rfl hl.1 rfl (Nat.le_of_ble_eq_true rfl) dX6_giftOf_24 ⟨Nat.zero_le _, Nat.zero_le _⟩ (fun r_10 S_9 H locs h hP hS => ?_)
  exact W.iret (v := r_10) hx hb hr (fun t ht hW => ⟨⟨r_10, S_9, rfl, h, gB_of ht hP⟩, hS.F ht⟩) hS.2.2 dX6_giftOf_27

abbrev rm_X6_part : Room := { frames := 4, cells := 0, slots := 0, locals := 84 }
def p_X6_part (S : CS) (x1 : Int32) (x2 : Int32) (post : Int32 → CS → Prop) : Prop := p_X6_isPart S x1 (fun r_2 S_1 => ((r_2 = 0 → (post (-1) S_1)) ∧ (¬ (r_2 = 0) → ((x2 = 0 → ((S_1.2.1 < 2) ∧ (p_X5_value S_1 S_1.2.1 0 x1 (fun r_7 S_6 => (post r_7 S_6))))) ∧ (¬ x2 = 0 → ((x2 = 1 → (p_X1_age S_1 0 x1 (fun r_10 S_9 => (post r_10 S_9)))) ∧ (¬ x2 = 1 → ((x2 = 2 → (p_X6_giftOf S_1 x1 (fun r_13 S_12 => (post r_13 S_12)))) ∧ (¬ x2 = 2 → (post (-1) S_1))))))))))
set_option maxHeartbeats 4000000 in
set_option maxRecDepth 100000 in
theorem c_X6_part (l : Launch) (D : va_G) (X : XE) (hX : Inj 75 X.1) (sz : Nat) (S : CS) (x1 : Int32) (x2 : Int32) (post : Int32 → CS → Prop) (h : p_X6_part S x1 x2 post) : Met l yX6_part (Cond.code yX6_part cX6_part 3 (some .int) :: lw_gd) rm_X6_part (gPc D (tyX X) (CW X) (FXc X) (AX 75 X.1 sz) sz S [.ref (X.1 0), .int x1, .int x2]) (va_Qi post (gB D (CW X)) (AX 75 X.1 sz)) 0 0 (AX 75 X.1 sz) := by
  refine Met.ofW (cc := cX6_part) (maxL := 3) (ret := (some .int)) (by decide) rfl ?_
  intro p e s m args below meth c s₁ B hml hv
  obtain ⟨rfl, hsz, hP, hK, hF⟩ := hv
  have hx := B.exec
  have hb := B.bytes
  have hr := B.returns
  have hts := atoms_spec (ws := (Cond.code yX6_part cX6_part 3 (some .int) :: lw_gd)) B.pre
  have hT : ∀ w ∈ lw_gd, w.before _ s = true := fun w h9 => hts w (List.mem_cons_of_mem _ h9)
  have hown : s.vm.findClass RX6 = some m.cls := findClass_of_methodNamed B.named
  have hlocks := B.notSynchronized
  subst hsz
  have hS : va_S (AX 75 X.1 s.heap.size) s.heap s.heap [] := va_S.rf
  have hl := lv_entry ([.ref (X.1 0), .int x1, .int x2]) (n := 3) (Nat.le_of_ble_eq_true rfl)
  rw [lg_entry_eq]
  generalize (lg_sl ([.ref (X.1 0), .int x1, .int x2]) ++ List.replicate (3 - (lg_sl ([.ref (X.1 0), .int x1, .int x2])).length) Slot.unset).toArray = ls at hl ⊢
  have hl : lv_has ls 3 [(0, .ref (X.1 0)), (1, .int x1), (2, .int x2)] := hl
  obtain ⟨H, hH⟩ : ∃ H : Heap, H = s.heap := ⟨_, rfl⟩
  obtain ⟨locs, hlc⟩ : ∃ q : List Loc, q = [] := ⟨_, rfl⟩
  have hS : va_S (AX 75 X.1 s.heap.size) s.heap H locs := by rw [hH, hlc]; exact hS
  have hP : va_P D vwCl (CW X S) H := by rw [hH]; exact hP
  show W p l e (headSpec (Cond.code yX6_part cX6_part 3 (some .int) :: lw_gd) rm_X6_part).room s m ([.ref (X.1 0), .int x1, .int x2] : List Value).toArray below meth c s.heap [] 0 0 (MQ below (va_Qi post (gB D (CW X)) (AX 75 X.1 s.heap.size)) ([.ref (X.1 0), .int x1, .int x2] : List Value).toArray s 0 0 (AX 75 X.1 s.heap.size)) _
  suffices hgo : W p l e (headSpec (Cond.code yX6_part cX6_part 3 (some .int) :: lw_gd) rm_X6_part).room s m ([.ref (X.1 0), .int x1, .int x2] : List Value).toArray below meth c H locs 0 0 (MQ below (va_Qi post (gB D (CW X)) (AX 75 X.1 s.heap.size)) ([.ref (X.1 0), .int x1, .int x2] : List Value).toArray s 0 0 (AX 75 X.1 s.heap.size)) (F0 m 0 ls []) from by rw [hH, hlc] at hgo; exact hgo
  unfold p_X6_part at h
  refine lv_aload_n hx hb dX6_part_0 rfl (lv_at hl 0 rfl) ?_
  refine lv_iload_n hx hb dX6_part_1 rfl (lv_at hl 1 rfl) ?_
  refine cVi (As := [.int x1]) (rest := []) hX ⟨hx, hb, hml, hown, hT⟩ (c_X6_isPart l D X hX H.size S x1 _ h) (gd_V wl_X6_91 wi_X6_isPart wv_X6_isPart wn_X6 wc_X6_isPart) rfl hd_X6_isPart ⟨rfl, rfl⟩ ⟨Nat.le_of_ble_eq_true rfl, Nat.le_of_ble_eq_true rfl⟩ (va_recv hK hP (ci := 6) (q0 := 0) rfl cw_Yard) hK hP hS hF rfl hl.1 rfl (Nat.le_of_ble_eq_true rfl) dX6_part_2 ⟨Nat.zero_le _, Nat.zero_le _⟩ (fun r_2 S_1 H locs h hP hS => ?_)
  refine lv_if_ne (tgt := 10) hx hb dX6_part_5 (by decide) (fun c_3 => ?_) (fun c_3 => ?_)
  · have h := h.2 c_3
    refine lv_iload_n hx hb dX6_part_10 rfl (lv_at hl 2 rfl) ?_
    by_cases c_4 : x2 = 0
    · have h := h.1 c_4
      refine lv_tableIn (off := 25) (tgt := 36) hx hb dX6_part_11 (by rw [c_4]; decide) (by rw [c_4]; decide) (by rw [c_4]; rfl) (by decide) ?_
      refine lv_aload_n hx hb dX6_part_36 rfl (lv_at hl 0 rfl) ?_
      obtain ⟨ht_5, h⟩ := h
      refine va_get (D := D) (ci := 6) (v := .ref (X.1 (to S_1.2.1))) (C := RX6) (T := TX6) (N := 16) hx hb hT inX6 hown hK hP 0 cw_Yard rfl 1 (by decide) (hT _ wf_X6_19) (fun _ h9 => h9) rfl dX6_part_37 ?_
      refine lv_iconst (v := 0) hx hb dX6_part_40 (by decide) ?_
      refine lv_iload_n hx hb dX6_part_41 rfl (lv_at hl 1 rfl) ?_
      refine cVi (As := [.int 0, .int x1]) (rest := []) hX ⟨hx, hb, hml, hown, hT⟩ (c_X5_value l D X hX H.size S_1 S_1.2.1 (by omega) 0 x1 _ h) (gd_V wl_X6_95 wi_X5_value wv_X5_value wn_X5 wc_X5_value) rfl hd_X5_value ⟨rfl, rfl⟩ ⟨Nat.le_of_ble_eq_true rfl, Nat.le_of_ble_eq_true rfl⟩ (va_recv hK hP (ci := 5) (q0 := (to S_1.2.1)) rfl (cw_Told (t := S_1.2.1) (by omega))) hK hP hS hF rfl hl.1 rfl (Nat.le_of_ble_eq_true rfl) dX6_part_42 ⟨Nat.zero_le _, Nat.zero_le _⟩ (fun r_7 S_6 H locs h hP hS => ?_)
      exact W.iret (v := r_7) hx hb hr (fun t ht hW => ⟨⟨r_7, S_6, rfl, h, gB_of ht hP⟩, hS.F ht⟩) hS.2.2 dX6_part_45
    · have h := h.2 c_4
      by_cases c_8 : x2 = 1
      · have h := h.1 c_8
        refine lv_tableIn (off := 35) (tgt := 46) hx hb dX6_part_11 (by rw [c_8]; decide) (by rw [c_8]; decide) (by rw [c_8]; rfl) (by decide) ?_
        refine lv_aload_n hx hb dX6_part_46 rfl (lv_at hl 0 rfl) ?_
        refine va_get (D := D) (ci := 6) (v := .ref (X.1 (mo 0))) (C := RX6) (T := TX6) (N := 16) hx hb hT inX6 hown hK hP 0 cw_Yard rfl 3 (by decide) (hT _ wf_X6_29) (fun _ h9 => h9) rfl dX6_part_47 ?_
        refine lv_iload_n hx hb dX6_part_50 rfl (lv_at hl 1 rfl) ?_
        refine cVi (As := [.int x1]) (rest := []) hX ⟨hx, hb, hml, hown, hT⟩ (c_X1_age l D X hX H.size S_1 0 (by decide) x1 _ h) (gd_V wl_X6_99 wi_X1_age wv_X1_age wn_X1 wc_X1_age) rfl hd_X1_age ⟨rfl, rfl⟩ ⟨Nat.le_of_ble_eq_true rfl, Nat.le_of_ble_eq_true rfl⟩ (va_recv hK hP (ci := 1) (q0 := (mo 0)) rfl (cw_Moment (m := 0) (by decide))) hK hP hS hF rfl hl.1 rfl (Nat.le_of_ble_eq_true rfl) dX6_part_51 ⟨Nat.zero_le _, Nat.zero_le _⟩ (fun r_10 S_9 H locs h hP hS => ?_)
        exact W.iret (v := r_10) hx hb hr (fun t ht hW => ⟨⟨r_10, S_9, rfl, h, gB_of ht hP⟩, hS.F ht⟩) hS.2.2 dX6_part_54
      · have h := h.2 c_8
        by_cases c_11 : x2 = 2
        · have h := h.1 c_11
          refine lv_tableIn (off := 44) (tgt := 55) hx hb dX6_part_11 (by rw [c_11]; decide) (by rw [c_11]; decide) (by rw [c_11]; rfl) (by decide) ?_
          refine lv_aload_n hx hb dX6_part_55 rfl (lv_at hl 0 rfl) ?_
          refine lv_iload_n hx hb dX6_part_56 rfl (lv_at hl 1 rfl) ?_
          refine cVi (As := [.int x1]) (rest := []) hX ⟨hx, hb, hml, hown, hT⟩ (c_X6_giftOf l D X hX H.size S_1 x1 _ h) (gd_V wl_X6_103 wi_X6_giftOf wv_X6_giftOf wn_X6 wc_X6_giftOf) rfl hd_X6_giftOf ⟨rfl, rfl⟩ ⟨Nat.le_of_ble_eq_true rfl, Nat.le_of_ble_eq_true rfl⟩ (va_recv hK hP (ci := 6) (q0 := 0) rfl cw_Yard) hK hP hS hF rfl hl.1 rfl (Nat.le_of_ble_eq_true rfl) dX6_part_57 ⟨Nat.zero_le _, Nat.zero_le _⟩ (fun r_13 S_12 H locs h hP hS => ?_)
          exact W.iret (v := r_13) hx hb hr (fun t ht hW => ⟨⟨r_13, S_12, rfl, h, gB_of ht hP⟩, hS.F ht⟩) hS.2.2 dX6_part_60
        · have h := h.2 c_11
          refine lv_tableOut (tgt := 61) hx hb dX6_part_11 (by have ec_4 := lv_neT c_4 (a := 0) rfl; have ec_8 := lv_neT c_8 (a := 1) rfl; have ec_11 := lv_neT c_11 (a := 2) rfl; omega) (by decide) ?_
          refine lv_iconst (v := (-1)) hx hb dX6_part_61 (by decide) ?_
          exact W.iret (v := (-1)) hx hb hr (fun t ht hW => ⟨⟨(-1), S_1, rfl, h, gB_of ht hP⟩, hS.F ht⟩) hS.2.2 dX6_part_62
  · have h := h.1 c_3
    refine lv_iconst (v := (-1)) hx hb dX6_part_8 (by decide) ?_
    exact W.iret (v := (-1)) hx hb hr (fun t ht hW => ⟨⟨(-1), S_1, rfl, h, gB_of ht hP⟩, hS.F ht⟩) hS.2.2 dX6_part_9

abbrev rm_X6_isOrder : Room := { frames := 1, cells := 0, slots := 0, locals := 20 }
def p_X6_isOrder (S : CS) (x1 : Int32) (post : Int32 → CS → Prop) : Prop := (x1 < 0 → (post 0 S)) ∧ (¬ (x1 < 0) → ((S.2.1 < 2) ∧ (p_X5_orders S S.2.1 (fun r_4 S_3 => ((r_4 ≤ x1 → (post 0 S_3)) ∧ (¬ (r_4 ≤ x1) → (post 1 S_3)))))))
set_option maxHeartbeats 4000000 in
set_option maxRecDepth 100000 in
theorem c_X6_isOrder (l : Launch) (D : va_G) (X : XE) (hX : Inj 75 X.1) (sz : Nat) (S : CS) (x1 : Int32) (post : Int32 → CS → Prop) (h : p_X6_isOrder S x1 post) : Met l yX6_isOrder (Cond.code yX6_isOrder cX6_isOrder 2 (some .boolean) :: lw_gd) rm_X6_isOrder (gPc D (tyX X) (CW X) (FXc X) (AX 75 X.1 sz) sz S [.ref (X.1 0), .int x1]) (va_Qi post (gB D (CW X)) (AX 75 X.1 sz)) 0 0 (AX 75 X.1 sz) := by
  refine Met.ofW (cc := cX6_isOrder) (maxL := 2) (ret := (some .boolean)) (by decide) rfl ?_
  intro p e s m args below meth c s₁ B hml hv
  obtain ⟨rfl, hsz, hP, hK, hF⟩ := hv
  have hx := B.exec
  have hb := B.bytes
  have hr := B.returns
  have hts := atoms_spec (ws := (Cond.code yX6_isOrder cX6_isOrder 2 (some .boolean) :: lw_gd)) B.pre
  have hT : ∀ w ∈ lw_gd, w.before _ s = true := fun w h9 => hts w (List.mem_cons_of_mem _ h9)
  have hown : s.vm.findClass RX6 = some m.cls := findClass_of_methodNamed B.named
  have hlocks := B.notSynchronized
  subst hsz
  have hS : va_S (AX 75 X.1 s.heap.size) s.heap s.heap [] := va_S.rf
  have hl := lv_entry ([.ref (X.1 0), .int x1]) (n := 2) (Nat.le_of_ble_eq_true rfl)
  rw [lg_entry_eq]
  generalize (lg_sl ([.ref (X.1 0), .int x1]) ++ List.replicate (2 - (lg_sl ([.ref (X.1 0), .int x1])).length) Slot.unset).toArray = ls at hl ⊢
  have hl : lv_has ls 2 [(0, .ref (X.1 0)), (1, .int x1)] := hl
  obtain ⟨H, hH⟩ : ∃ H : Heap, H = s.heap := ⟨_, rfl⟩
  obtain ⟨locs, hlc⟩ : ∃ q : List Loc, q = [] := ⟨_, rfl⟩
  have hS : va_S (AX 75 X.1 s.heap.size) s.heap H locs := by rw [hH, hlc]; exact hS
  have hP : va_P D vwCl (CW X S) H := by rw [hH]; exact hP
  show W p l e (headSpec (Cond.code yX6_isOrder cX6_isOrder 2 (some .boolean) :: lw_gd) rm_X6_isOrder).room s m ([.ref (X.1 0), .int x1] : List Value).toArray below meth c s.heap [] 0 0 (MQ below (va_Qi post (gB D (CW X)) (AX 75 X.1 s.heap.size)) ([.ref (X.1 0), .int x1] : List Value).toArray s 0 0 (AX 75 X.1 s.heap.size)) _
  suffices hgo : W p l e (headSpec (Cond.code yX6_isOrder cX6_isOrder 2 (some .boolean) :: lw_gd) rm_X6_isOrder).room s m ([.ref (X.1 0), .int x1] : List Value).toArray below meth c H locs 0 0 (MQ below (va_Qi post (gB D (CW X)) (AX 75 X.1 s.heap.size)) ([.ref (X.1 0), .int x1] : List Value).toArray s 0 0 (AX 75 X.1 s.heap.size)) (F0 m 0 ls []) from by rw [hH, hlc] at hgo; exact hgo
  unfold p_X6_isOrder at h
  refine lv_iload_n hx hb dX6_isOrder_0 rfl (lv_at hl 1 rfl) ?_
  refine lv_if_lt (tgt := 19) hx hb dX6_isOrder_1 (by decide) (fun c_1 => ?_) (fun c_1 => ?_)
  · have h := h.1 c_1
    refine lv_iconst (v := 0) hx hb dX6_isOrder_19 (by decide) ?_
    exact W.zret (v := 0) hx hb hr rfl (fun t ht hW => ⟨⟨0, S, rfl, h, gB_of ht hP⟩, hS.F ht⟩) hS.2.2 dX6_isOrder_20
  · have h := h.2 c_1
    refine lv_iload_n hx hb dX6_isOrder_4 rfl (lv_at hl 1 rfl) ?_
    refine lv_aload_n hx hb dX6_isOrder_5 rfl (lv_at hl 0 rfl) ?_
    obtain ⟨ht_2, h⟩ := h
    refine va_get (D := D) (ci := 6) (v := .ref (X.1 (to S.2.1))) (C := RX6) (T := TX6) (N := 16) hx hb hT inX6 hown hK hP 0 cw_Yard rfl 1 (by decide) (hT _ wf_X6_19) (fun _ h9 => h9) rfl dX6_isOrder_6 ?_
    refine cVi (As := []) (rest := [.int x1]) hX ⟨hx, hb, hml, hown, hT⟩ (c_X5_orders l D X hX H.size S S.2.1 (by omega) _ h) (gd_V wl_X6_203 wi_X5_orders wv_X5_orders wn_X5 wc_X5_orders) rfl hd_X5_orders ⟨rfl, rfl⟩ ⟨Nat.le_of_ble_eq_true rfl, Nat.le_of_ble_eq_true rfl⟩ (va_recv hK hP (ci := 5) (q0 := (to S.2.1)) rfl (cw_Told (t := S.2.1) (by omega))) hK hP hS hF rfl hl.1 rfl (Nat.le_of_ble_eq_true rfl) dX6_isOrder_9 ⟨Nat.zero_le _, Nat.zero_le _⟩ (fun r_4 S_3 H locs h hP hS => ?_)
    refine lv_icmp_ge (tgt := 19) hx hb dX6_isOrder_12 (by decide) (fun c_5 => ?_) (fun c_5 => ?_)
    · have h := h.1 c_5
      refine lv_iconst (v := 0) hx hb dX6_isOrder_19 (by decide) ?_
      exact W.zret (v := 0) hx hb hr rfl (fun t ht hW => ⟨⟨0, S_3, rfl, h, gB_of ht hP⟩, hS.F ht⟩) hS.2.2 dX6_isOrder_20
    · have h := h.2 c_5
      refine lv_iconst (v := 1) hx hb dX6_isOrder_15 (by decide) ?_
      refine lv_goto (tgt := 20) hx hb dX6_isOrder_16 (by decide) ?_
      exact W.zret (v := 1) hx hb hr rfl (fun t ht hW => ⟨⟨1, S_3, rfl, h, gB_of ht hP⟩, hS.F ht⟩) hS.2.2 dX6_isOrder_20

abbrev rm_X6_order : Room := { frames := 2, cells := 0, slots := 0, locals := 43 }
def p_X6_order (S : CS) (x1 : Int32) (x2 : Int32) (post : Int32 → CS → Prop) : Prop := p_X6_isOrder S x1 (fun r_2 S_1 => ((r_2 = 0 → (post (-1) S_1)) ∧ (¬ (r_2 = 0) → ((x2 = 0 → ((S_1.2.1 < 2) ∧ (p_X5_value S_1 S_1.2.1 2 x1 (fun r_7 S_6 => (post r_7 S_6))))) ∧ (¬ x2 = 0 → ((x2 = 1 → ((S_1.2.1 < 2) ∧ (p_X5_value S_1 S_1.2.1 3 x1 (fun r_11 S_10 => (post r_11 S_10))))) ∧ (¬ x2 = 1 → ((x2 = 2 → ((S_1.2.1 < 2) ∧ (p_X5_value S_1 S_1.2.1 4 x1 (fun r_15 S_14 => (post r_15 S_14))))) ∧ (¬ x2 = 2 → ((x2 = 3 → (p_X1_wasSent S_1 0 x1 (fun r_18 S_17 => ((r_18 = 0 → (post 0 S_17)) ∧ (¬ (r_18 = 0) → (post 1 S_17)))))) ∧ (¬ x2 = 3 → (post (-1) S_1))))))))))))
set_option maxHeartbeats 4000000 in
set_option maxRecDepth 100000 in
theorem c_X6_order (l : Launch) (D : va_G) (X : XE) (hX : Inj 75 X.1) (sz : Nat) (S : CS) (x1 : Int32) (x2 : Int32) (post : Int32 → CS → Prop) (h : p_X6_order S x1 x2 post) : Met l yX6_order (Cond.code yX6_order cX6_order 3 (some .int) :: lw_gd) rm_X6_order (gPc D (tyX X) (CW X) (FXc X) (AX 75 X.1 sz) sz S [.ref (X.1 0), .int x1, .int x2]) (va_Qi post (gB D (CW X)) (AX 75 X.1 sz)) 0 0 (AX 75 X.1 sz) := by
  refine Met.ofW (cc := cX6_order) (maxL := 3) (ret := (some .int)) (by decide) rfl ?_
  intro p e s m args below meth c s₁ B hml hv
  obtain ⟨rfl, hsz, hP, hK, hF⟩ := hv
  have hx := B.exec
  have hb := B.bytes
  have hr := B.returns
  have hts := atoms_spec (ws := (Cond.code yX6_order cX6_order 3 (some .int) :: lw_gd)) B.pre
  have hT : ∀ w ∈ lw_gd, w.before _ s = true := fun w h9 => hts w (List.mem_cons_of_mem _ h9)
  have hown : s.vm.findClass RX6 = some m.cls := findClass_of_methodNamed B.named
  have hlocks := B.notSynchronized
  subst hsz
  have hS : va_S (AX 75 X.1 s.heap.size) s.heap s.heap [] := va_S.rf
  have hl := lv_entry ([.ref (X.1 0), .int x1, .int x2]) (n := 3) (Nat.le_of_ble_eq_true rfl)
  rw [lg_entry_eq]
  generalize (lg_sl ([.ref (X.1 0), .int x1, .int x2]) ++ List.replicate (3 - (lg_sl ([.ref (X.1 0), .int x1, .int x2])).length) Slot.unset).toArray = ls at hl ⊢
  have hl : lv_has ls 3 [(0, .ref (X.1 0)), (1, .int x1), (2, .int x2)] := hl
  obtain ⟨H, hH⟩ : ∃ H : Heap, H = s.heap := ⟨_, rfl⟩
  obtain ⟨locs, hlc⟩ : ∃ q : List Loc, q = [] := ⟨_, rfl⟩
  have hS : va_S (AX 75 X.1 s.heap.size) s.heap H locs := by rw [hH, hlc]; exact hS
  have hP : va_P D vwCl (CW X S) H := by rw [hH]; exact hP
  show W p l e (headSpec (Cond.code yX6_order cX6_order 3 (some .int) :: lw_gd) rm_X6_order).room s m ([.ref (X.1 0), .int x1, .int x2] : List Value).toArray below meth c s.heap [] 0 0 (MQ below (va_Qi post (gB D (CW X)) (AX 75 X.1 s.heap.size)) ([.ref (X.1 0), .int x1, .int x2] : List Value).toArray s 0 0 (AX 75 X.1 s.heap.size)) _
  suffices hgo : W p l e (headSpec (Cond.code yX6_order cX6_order 3 (some .int) :: lw_gd) rm_X6_order).room s m ([.ref (X.1 0), .int x1, .int x2] : List Value).toArray below meth c H locs 0 0 (MQ below (va_Qi post (gB D (CW X)) (AX 75 X.1 s.heap.size)) ([.ref (X.1 0), .int x1, .int x2] : List Value).toArray s 0 0 (AX 75 X.1 s.heap.size)) (F0 m 0 ls []) from by rw [hH, hlc] at hgo; exact hgo
  unfold p_X6_order at h
  refine lv_aload_n hx hb dX6_order_0 rfl (lv_at hl 0 rfl) ?_
  refine lv_iload_n hx hb dX6_order_1 rfl (lv_at hl 1 rfl) ?_
  refine cVi (As := [.int x1]) (rest := []) hX ⟨hx, hb, hml, hown, hT⟩ (c_X6_isOrder l D X hX H.size S x1 _ h) (gd_V wl_X6_106 wi_X6_isOrder wv_X6_isOrder wn_X6 wc_X6_isOrder) rfl hd_X6_isOrder ⟨rfl, rfl⟩ ⟨Nat.le_of_ble_eq_true rfl, Nat.le_of_ble_eq_true rfl⟩ (va_recv hK hP (ci := 6) (q0 := 0) rfl cw_Yard) hK hP hS hF rfl hl.1 rfl (Nat.le_of_ble_eq_true rfl) dX6_order_2 ⟨Nat.zero_le _, Nat.zero_le _⟩ (fun r_2 S_1 H locs h hP hS => ?_)
  refine lv_if_ne (tgt := 10) hx hb dX6_order_5 (by decide) (fun c_3 => ?_) (fun c_3 => ?_)
  · have h := h.2 c_3
    refine lv_iload_n hx hb dX6_order_10 rfl (lv_at hl 2 rfl) ?_
    by_cases c_4 : x2 = 0
    · have h := h.1 c_4
      refine lv_tableIn (off := 29) (tgt := 40) hx hb dX6_order_11 (by rw [c_4]; decide) (by rw [c_4]; decide) (by rw [c_4]; rfl) (by decide) ?_
      refine lv_aload_n hx hb dX6_order_40 rfl (lv_at hl 0 rfl) ?_
      obtain ⟨ht_5, h⟩ := h
      refine va_get (D := D) (ci := 6) (v := .ref (X.1 (to S_1.2.1))) (C := RX6) (T := TX6) (N := 16) hx hb hT inX6 hown hK hP 0 cw_Yard rfl 1 (by decide) (hT _ wf_X6_19) (fun _ h9 => h9) rfl dX6_order_41 ?_
      refine lv_iconst (v := 2) hx hb dX6_order_44 (by decide) ?_
      refine lv_iload_n hx hb dX6_order_45 rfl (lv_at hl 1 rfl) ?_
      refine cVi (As := [.int 2, .int x1]) (rest := []) hX ⟨hx, hb, hml, hown, hT⟩ (c_X5_value l D X hX H.size S_1 S_1.2.1 (by omega) 2 x1 _ h) (gd_V wl_X6_95 wi_X5_value wv_X5_value wn_X5 wc_X5_value) rfl hd_X5_value ⟨rfl, rfl⟩ ⟨Nat.le_of_ble_eq_true rfl, Nat.le_of_ble_eq_true rfl⟩ (va_recv hK hP (ci := 5) (q0 := (to S_1.2.1)) rfl (cw_Told (t := S_1.2.1) (by omega))) hK hP hS hF rfl hl.1 rfl (Nat.le_of_ble_eq_true rfl) dX6_order_46 ⟨Nat.zero_le _, Nat.zero_le _⟩ (fun r_7 S_6 H locs h hP hS => ?_)
      exact W.iret (v := r_7) hx hb hr (fun t ht hW => ⟨⟨r_7, S_6, rfl, h, gB_of ht hP⟩, hS.F ht⟩) hS.2.2 dX6_order_49
    · have h := h.2 c_4
      by_cases c_8 : x2 = 1
      · have h := h.1 c_8
        refine lv_tableIn (off := 39) (tgt := 50) hx hb dX6_order_11 (by rw [c_8]; decide) (by rw [c_8]; decide) (by rw [c_8]; rfl) (by decide) ?_
        refine lv_aload_n hx hb dX6_order_50 rfl (lv_at hl 0 rfl) ?_
        obtain ⟨ht_9, h⟩ := h
        refine va_get (D := D) (ci := 6) (v := .ref (X.1 (to S_1.2.1))) (C := RX6) (T := TX6) (N := 16) hx hb hT inX6 hown hK hP 0 cw_Yard rfl 1 (by decide) (hT _ wf_X6_19) (fun _ h9 => h9) rfl dX6_order_51 ?_
        refine lv_iconst (v := 3) hx hb dX6_order_54 (by decide) ?_
        refine lv_iload_n hx hb dX6_order_55 rfl (lv_at hl 1 rfl) ?_
        refine cVi (As := [.int 3, .int x1]) (rest := []) hX ⟨hx, hb, hml, hown, hT⟩ (c_X5_value l D X hX H.size S_1 S_1.2.1 (by omega) 3 x1 _ h) (gd_V wl_X6_95 wi_X5_value wv_X5_value wn_X5 wc_X5_value) rfl hd_X5_value ⟨rfl, rfl⟩ ⟨Nat.le_of_ble_eq_true rfl, Nat.le_of_ble_eq_true rfl⟩ (va_recv hK hP (ci := 5) (q0 := (to S_1.2.1)) rfl (cw_Told (t := S_1.2.1) (by omega))) hK hP hS hF rfl hl.1 rfl (Nat.le_of_ble_eq_true rfl) dX6_order_56 ⟨Nat.zero_le _, Nat.zero_le _⟩ (fun r_11 S_10 H locs h hP hS => ?_)
        exact W.iret (v := r_11) hx hb hr (fun t ht hW => ⟨⟨r_11, S_10, rfl, h, gB_of ht hP⟩, hS.F ht⟩) hS.2.2 dX6_order_59
      · have h := h.2 c_8
        by_cases c_12 : x2 = 2
        · have h := h.1 c_12
          refine lv_tableIn (off := 49) (tgt := 60) hx hb dX6_order_11 (by rw [c_12]; decide) (by rw [c_12]; decide) (by rw [c_12]; rfl) (by decide) ?_
          refine lv_aload_n hx hb dX6_order_60 rfl (lv_at hl 0 rfl) ?_
          obtain ⟨ht_13, h⟩ := h
          refine va_get (D := D) (ci := 6) (v := .ref (X.1 (to S_1.2.1))) (C := RX6) (T := TX6) (N := 16) hx hb hT inX6 hown hK hP 0 cw_Yard rfl 1 (by decide) (hT _ wf_X6_19) (fun _ h9 => h9) rfl dX6_order_61 ?_
          refine lv_iconst (v := 4) hx hb dX6_order_64 (by decide) ?_
          refine lv_iload_n hx hb dX6_order_65 rfl (lv_at hl 1 rfl) ?_
          refine cVi (As := [.int 4, .int x1]) (rest := []) hX ⟨hx, hb, hml, hown, hT⟩ (c_X5_value l D X hX H.size S_1 S_1.2.1 (by omega) 4 x1 _ h) (gd_V wl_X6_95 wi_X5_value wv_X5_value wn_X5 wc_X5_value) rfl hd_X5_value ⟨rfl, rfl⟩ ⟨Nat.le_of_ble_eq_true rfl, Nat.le_of_ble_eq_true rfl⟩ (va_recv hK hP (ci := 5) (q0 := (to S_1.2.1)) rfl (cw_Told (t := S_1.2.1) (by omega))) hK hP hS hF rfl hl.1 rfl (Nat.le_of_ble_eq_true rfl) dX6_order_66 ⟨Nat.zero_le _, Nat.zero_le _⟩ (fun r_15 S_14 H locs h hP hS => ?_)
          exact W.iret (v := r_15) hx hb hr (fun t ht hW => ⟨⟨r_15, S_14, rfl, h, gB_of ht hP⟩, hS.F ht⟩) hS.2.2 dX6_order_69
        · have h := h.2 c_12
          by_cases c_16 : x2 = 3
          · have h := h.1 c_16
            refine lv_tableIn (off := 59) (tgt := 70) hx hb dX6_order_11 (by rw [c_16]; decide) (by rw [c_16]; decide) (by rw [c_16]; rfl) (by decide) ?_
            refine lv_aload_n hx hb dX6_order_70 rfl (lv_at hl 0 rfl) ?_
            refine va_get (D := D) (ci := 6) (v := .ref (X.1 (mo 0))) (C := RX6) (T := TX6) (N := 16) hx hb hT inX6 hown hK hP 0 cw_Yard rfl 3 (by decide) (hT _ wf_X6_29) (fun _ h9 => h9) rfl dX6_order_71 ?_
            refine lv_iload_n hx hb dX6_order_74 rfl (lv_at hl 1 rfl) ?_
            refine cVi (As := [.int x1]) (rest := []) hX ⟨hx, hb, hml, hown, hT⟩ (c_X1_wasSent l D X hX H.size S_1 0 (by decide) x1 _ h) (gd_V wl_X6_109 wi_X1_wasSent wv_X1_wasSent wn_X1 wc_X1_wasSent) rfl hd_X1_wasSent ⟨rfl, rfl⟩ ⟨Nat.le_of_ble_eq_true rfl, Nat.le_of_ble_eq_true rfl⟩ (va_recv hK hP (ci := 1) (q0 := (mo 0)) rfl (cw_Moment (m := 0) (by decide))) hK hP hS hF rfl hl.1 rfl (Nat.le_of_ble_eq_true rfl) dX6_order_75 ⟨Nat.zero_le _, Nat.zero_le _⟩ (fun r_18 S_17 H locs h hP hS => ?_)
            refine lv_if_eq (tgt := 85) hx hb dX6_order_78 (by decide) (fun c_19 => ?_) (fun c_19 => ?_)
            · have h := h.1 c_19
              refine lv_iconst (v := 0) hx hb dX6_order_85 (by decide) ?_
              exact W.iret (v := 0) hx hb hr (fun t ht hW => ⟨⟨0, S_17, rfl, h, gB_of ht hP⟩, hS.F ht⟩) hS.2.2 dX6_order_86
            · have h := h.2 c_19
              refine lv_iconst (v := 1) hx hb dX6_order_81 (by decide) ?_
              refine lv_goto (tgt := 86) hx hb dX6_order_82 (by decide) ?_
              exact W.iret (v := 1) hx hb hr (fun t ht hW => ⟨⟨1, S_17, rfl, h, gB_of ht hP⟩, hS.F ht⟩) hS.2.2 dX6_order_86
          · have h := h.2 c_16
            refine lv_tableOut (tgt := 87) hx hb dX6_order_11 (by have ec_4 := lv_neT c_4 (a := 0) rfl; have ec_8 := lv_neT c_8 (a := 1) rfl; have ec_12 := lv_neT c_12 (a := 2) rfl; have ec_16 := lv_neT c_16 (a := 3) rfl; omega) (by decide) ?_
            refine lv_iconst (v := (-1)) hx hb dX6_order_87 (by decide) ?_
            exact W.iret (v := (-1)) hx hb hr (fun t ht hW => ⟨⟨(-1), S_1, rfl, h, gB_of ht hP⟩, hS.F ht⟩) hS.2.2 dX6_order_88
  · have h := h.1 c_3
    refine lv_iconst (v := (-1)) hx hb dX6_order_8 (by decide) ?_
    exact W.iret (v := (-1)) hx hb hr (fun t ht hW => ⟨⟨(-1), S_1, rfl, h, gB_of ht hP⟩, hS.F ht⟩) hS.2.2 dX6_order_9

abbrev rm_X6_isSide : Room := { frames := 0, cells := 0, slots := 0, locals := 0 }
def p_X6_isSide (S : CS) (x0 : Int32) (post : Int32 → CS → Prop) : Prop := (x0 < 0 → (post 0 S)) ∧ (¬ (x0 < 0) → ((8 ≤ x0 → (post 0 S)) ∧ (¬ (8 ≤ x0) → (post 1 S))))
set_option maxHeartbeats 4000000 in
set_option maxRecDepth 100000 in
theorem c_X6_isSide (l : Launch) (D : va_G) (X : XE) (hX : Inj 75 X.1) (sz : Nat) (S : CS) (x0 : Int32) (post : Int32 → CS → Prop) (h : p_X6_isSide S x0 post) : Met l yX6_isSide (Cond.code yX6_isSide cX6_isSide 1 (some .boolean) :: lw_gd) rm_X6_isSide (gPc D (tyX X) (CW X) (FXc X) (AX 75 X.1 sz) sz S [.int x0]) (va_Qi post (gB D (CW X)) (AX 75 X.1 sz)) 0 0 (AX 75 X.1 sz) := by
  refine Met.ofW (cc := cX6_isSide) (maxL := 1) (ret := (some .boolean)) (by decide) rfl ?_
  intro p e s m args below meth c s₁ B hml hv
  obtain ⟨rfl, hsz, hP, hK, hF⟩ := hv
  have hx := B.exec
  have hb := B.bytes
  have hr := B.returns
  have hts := atoms_spec (ws := (Cond.code yX6_isSide cX6_isSide 1 (some .boolean) :: lw_gd)) B.pre
  have hT : ∀ w ∈ lw_gd, w.before _ s = true := fun w h9 => hts w (List.mem_cons_of_mem _ h9)
  have hown : s.vm.findClass RX6 = some m.cls := findClass_of_methodNamed B.named
  have hlocks := B.notSynchronized
  subst hsz
  have hS : va_S (AX 75 X.1 s.heap.size) s.heap s.heap [] := va_S.rf
  have hl := lv_entry ([.int x0]) (n := 1) (Nat.le_of_ble_eq_true rfl)
  rw [lg_entry_eq]
  generalize (lg_sl ([.int x0]) ++ List.replicate (1 - (lg_sl ([.int x0])).length) Slot.unset).toArray = ls at hl ⊢
  have hl : lv_has ls 1 [(0, .int x0)] := hl
  obtain ⟨H, hH⟩ : ∃ H : Heap, H = s.heap := ⟨_, rfl⟩
  obtain ⟨locs, hlc⟩ : ∃ q : List Loc, q = [] := ⟨_, rfl⟩
  have hS : va_S (AX 75 X.1 s.heap.size) s.heap H locs := by rw [hH, hlc]; exact hS
  have hP : va_P D vwCl (CW X S) H := by rw [hH]; exact hP
  show W p l e (headSpec (Cond.code yX6_isSide cX6_isSide 1 (some .boolean) :: lw_gd) rm_X6_isSide).room s m ([.int x0] : List Value).toArray below meth c s.heap [] 0 0 (MQ below (va_Qi post (gB D (CW X)) (AX 75 X.1 s.heap.size)) ([.int x0] : List Value).toArray s 0 0 (AX 75 X.1 s.heap.size)) _
  suffices hgo : W p l e (headSpec (Cond.code yX6_isSide cX6_isSide 1 (some .boolean) :: lw_gd) rm_X6_isSide).room s m ([.int x0] : List Value).toArray below meth c H locs 0 0 (MQ below (va_Qi post (gB D (CW X)) (AX 75 X.1 s.heap.size)) ([.int x0] : List Value).toArray s 0 0 (AX 75 X.1 s.heap.size)) (F0 m 0 ls []) from by rw [hH, hlc] at hgo; exact hgo
  unfold p_X6_isSide at h
  refine lv_iload_n hx hb dX6_isSide_0 rfl (lv_at hl 0 rfl) ?_
  refine lv_if_lt (tgt := 14) hx hb dX6_isSide_1 (by decide) (fun c_1 => ?_) (fun c_1 => ?_)
  · have h := h.1 c_1
    refine lv_iconst (v := 0) hx hb dX6_isSide_14 (by decide) ?_
    exact W.zret (v := 0) hx hb hr rfl (fun t ht hW => ⟨⟨0, S, rfl, h, gB_of ht hP⟩, hS.F ht⟩) hS.2.2 dX6_isSide_15
  · have h := h.2 c_1
    refine lv_iload_n hx hb dX6_isSide_4 rfl (lv_at hl 0 rfl) ?_
    refine lv_bipush (v := 8) hx hb dX6_isSide_5 (by decide) ?_
    refine lv_icmp_ge (tgt := 14) hx hb dX6_isSide_7 (by decide) (fun c_2 => ?_) (fun c_2 => ?_)
    · have h := h.1 c_2
      refine lv_iconst (v := 0) hx hb dX6_isSide_14 (by decide) ?_
      exact W.zret (v := 0) hx hb hr rfl (fun t ht hW => ⟨⟨0, S, rfl, h, gB_of ht hP⟩, hS.F ht⟩) hS.2.2 dX6_isSide_15
    · have h := h.2 c_2
      refine lv_iconst (v := 1) hx hb dX6_isSide_10 (by decide) ?_
      refine lv_goto (tgt := 15) hx hb dX6_isSide_11 (by decide) ?_
      exact W.zret (v := 1) hx hb hr rfl (fun t ht hW => ⟨⟨1, S, rfl, h, gB_of ht hP⟩, hS.F ht⟩) hS.2.2 dX6_isSide_15

abbrev rm_X6_side : Room := { frames := 1, cells := 0, slots := 0, locals := 21 }
def p_X6_side (S : CS) (x1 : Int32) (post : Int32 → CS → Prop) : Prop := p_X6_isSide S x1 (fun r_2 S_1 => ((r_2 = 0 → (post (-1) S_1)) ∧ (¬ (r_2 = 0) → (p_X0_lengthOf S_1 (0 + 1) x1 (fun r_5 S_4 => (post r_5 S_4))))))
set_option maxHeartbeats 4000000 in
set_option maxRecDepth 100000 in
theorem c_X6_side (l : Launch) (D : va_G) (X : XE) (hX : Inj 75 X.1) (sz : Nat) (S : CS) (x1 : Int32) (post : Int32 → CS → Prop) (h : p_X6_side S x1 post) : Met l yX6_side (Cond.code yX6_side cX6_side 2 (some .int) :: lw_gd) rm_X6_side (gPc D (tyX X) (CW X) (FXc X) (AX 75 X.1 sz) sz S [.ref (X.1 0), .int x1]) (va_Qi post (gB D (CW X)) (AX 75 X.1 sz)) 0 0 (AX 75 X.1 sz) := by
  refine Met.ofW (cc := cX6_side) (maxL := 2) (ret := (some .int)) (by decide) rfl ?_
  intro p e s m args below meth c s₁ B hml hv
  obtain ⟨rfl, hsz, hP, hK, hF⟩ := hv
  have hx := B.exec
  have hb := B.bytes
  have hr := B.returns
  have hts := atoms_spec (ws := (Cond.code yX6_side cX6_side 2 (some .int) :: lw_gd)) B.pre
  have hT : ∀ w ∈ lw_gd, w.before _ s = true := fun w h9 => hts w (List.mem_cons_of_mem _ h9)
  have hown : s.vm.findClass RX6 = some m.cls := findClass_of_methodNamed B.named
  have hlocks := B.notSynchronized
  subst hsz
  have hS : va_S (AX 75 X.1 s.heap.size) s.heap s.heap [] := va_S.rf
  have hl := lv_entry ([.ref (X.1 0), .int x1]) (n := 2) (Nat.le_of_ble_eq_true rfl)
  rw [lg_entry_eq]
  generalize (lg_sl ([.ref (X.1 0), .int x1]) ++ List.replicate (2 - (lg_sl ([.ref (X.1 0), .int x1])).length) Slot.unset).toArray = ls at hl ⊢
  have hl : lv_has ls 2 [(0, .ref (X.1 0)), (1, .int x1)] := hl
  obtain ⟨H, hH⟩ : ∃ H : Heap, H = s.heap := ⟨_, rfl⟩
  obtain ⟨locs, hlc⟩ : ∃ q : List Loc, q = [] := ⟨_, rfl⟩
  have hS : va_S (AX 75 X.1 s.heap.size) s.heap H locs := by rw [hH, hlc]; exact hS
  have hP : va_P D vwCl (CW X S) H := by rw [hH]; exact hP
  show W p l e (headSpec (Cond.code yX6_side cX6_side 2 (some .int) :: lw_gd) rm_X6_side).room s m ([.ref (X.1 0), .int x1] : List Value).toArray below meth c s.heap [] 0 0 (MQ below (va_Qi post (gB D (CW X)) (AX 75 X.1 s.heap.size)) ([.ref (X.1 0), .int x1] : List Value).toArray s 0 0 (AX 75 X.1 s.heap.size)) _
  suffices hgo : W p l e (headSpec (Cond.code yX6_side cX6_side 2 (some .int) :: lw_gd) rm_X6_side).room s m ([.ref (X.1 0), .int x1] : List Value).toArray below meth c H locs 0 0 (MQ below (va_Qi post (gB D (CW X)) (AX 75 X.1 s.heap.size)) ([.ref (X.1 0), .int x1] : List Value).toArray s 0 0 (AX 75 X.1 s.heap.size)) (F0 m 0 ls []) from by rw [hH, hlc] at hgo; exact hgo
  unfold p_X6_side at h
  refine lv_iload_n hx hb dX6_side_0 rfl (lv_at hl 1 rfl) ?_
  refine cSi (As := [.int x1]) (rest := []) hX ⟨hx, hb, hml, hown, hT⟩ (c_X6_isSide l D X hX H.size S x1 _ h) (gd_S wl_X6_112 wt_X6_isSide wn_X6 wc_X6_isSide) hd_X6_isSide ⟨rfl, rfl⟩ ⟨Nat.le_of_ble_eq_true rfl, Nat.le_of_ble_eq_true rfl⟩ hK hP hS hF rfl hl.1 rfl (Nat.le_of_ble_eq_true rfl) dX6_side_1 ⟨Nat.zero_le _, Nat.zero_le _⟩ (fun r_2 S_1 H locs h hP hS => ?_)
  refine lv_if_eq (tgt := 21) hx hb dX6_side_4 (by decide) (fun c_3 => ?_) (fun c_3 => ?_)
  · have h := h.1 c_3
    refine lv_iconst (v := (-1)) hx hb dX6_side_21 (by decide) ?_
    exact W.iret (v := (-1)) hx hb hr (fun t ht hW => ⟨⟨(-1), S_1, rfl, h, gB_of ht hP⟩, hS.F ht⟩) hS.2.2 dX6_side_22
  · have h := h.2 c_3
    refine lv_aload_n hx hb dX6_side_7 rfl (lv_at hl 0 rfl) ?_
    refine va_get (D := D) (ci := 6) (v := .ref (X.1 (mo 0))) (C := RX6) (T := TX6) (N := 16) hx hb hT inX6 hown hK hP 0 cw_Yard rfl 3 (by decide) (hT _ wf_X6_29) (fun _ h9 => h9) rfl dX6_side_8 ?_
    refine va_getN (D := D) (ci := 1) (v := .ref (X.1 (bo (0 + 1)))) (C := RX1) (T := TX1) (N := 8) hx hb hT inX1 hown hK hP (mo 0) (cw_Moment (m := 0) (by decide)) rfl 1 (by decide) (va_Nw.use rfl hF.1.1.2.1) (fun _ h9 => h9) rfl dX6_side_11 ?_
    refine lv_iload_n hx hb dX6_side_14 rfl (lv_at hl 1 rfl) ?_
    refine cVi (As := [.int x1]) (rest := []) hX ⟨hx, hb, hml, hown, hT⟩ (c_X0_lengthOf l D X hX H.size S_1 (0 + 1) (by omega) x1 _ h) (gd_V wl_X6_118 wi_X0_lengthOf wv_X0_lengthOf wn_X0 wc_X0_lengthOf) rfl hd_X0_lengthOf ⟨rfl, rfl⟩ ⟨Nat.le_of_ble_eq_true rfl, Nat.le_of_ble_eq_true rfl⟩ (va_recv hK hP (ci := 0) (q0 := (bo (0 + 1))) rfl (cw_Besom (b := (0 + 1)) (by omega))) hK hP hS hF rfl hl.1 rfl (Nat.le_of_ble_eq_true rfl) dX6_side_15 ⟨Nat.zero_le _, Nat.zero_le _⟩ (fun r_5 S_4 H locs h hP hS => ?_)
    refine lv_goto (tgt := 22) hx hb dX6_side_18 (by decide) ?_
    exact W.iret (v := r_5) hx hb hr (fun t ht hW => ⟨⟨r_5, S_4, rfl, h, gB_of ht hP⟩, hS.F ht⟩) hS.2.2 dX6_side_22

abbrev rm_X6_now : Room := { frames := 0, cells := 0, slots := 0, locals := 0 }
def p_X6_now (S : CS) (x1 : Int32) (post : Int32 → CS → Prop) : Prop := (x1 = 0 → (post (S.1 (mo 0) 4) S)) ∧ (¬ x1 = 0 → ((x1 = 1 → (post (S.1 (mo 0) 7) S)) ∧ (¬ x1 = 1 → ((x1 = 2 → (post (S.1 (mo 0) 2) S)) ∧ (¬ x1 = 2 → ((x1 = 3 → (post (S.1 (mo 0) 3) S)) ∧ (¬ x1 = 3 → ((x1 = 4 → (post (S.1 (mo 0) 5) S)) ∧ (¬ x1 = 4 → ((x1 = 5 → (post (S.1 (mo 0) 6) S)) ∧ (¬ x1 = 5 → ((x1 = 6 → (post (S.1 (bo (0 + 1)) 1) S)) ∧ (¬ x1 = 6 → ((x1 = 7 → (post (S.1 0 5) S)) ∧ (¬ x1 = 7 → (post (-1) S))))))))))))))))
set_option maxHeartbeats 4000000 in
set_option maxRecDepth 100000 in
theorem c_X6_now (l : Launch) (D : va_G) (X : XE) (hX : Inj 75 X.1) (sz : Nat) (S : CS) (x1 : Int32) (post : Int32 → CS → Prop) (h : p_X6_now S x1 post) : Met l yX6_now (Cond.code yX6_now cX6_now 2 (some .int) :: lw_gd) rm_X6_now (gPc D (tyX X) (CW X) (FXc X) (AX 75 X.1 sz) sz S [.ref (X.1 0), .int x1]) (va_Qi post (gB D (CW X)) (AX 75 X.1 sz)) 0 0 (AX 75 X.1 sz) := by
  refine Met.ofW (cc := cX6_now) (maxL := 2) (ret := (some .int)) (by decide) rfl ?_
  intro p e s m args below meth c s₁ B hml hv
  obtain ⟨rfl, hsz, hP, hK, hF⟩ := hv
  have hx := B.exec
  have hb := B.bytes
  have hr := B.returns
  have hts := atoms_spec (ws := (Cond.code yX6_now cX6_now 2 (some .int) :: lw_gd)) B.pre
  have hT : ∀ w ∈ lw_gd, w.before _ s = true := fun w h9 => hts w (List.mem_cons_of_mem _ h9)
  have hown : s.vm.findClass RX6 = some m.cls := findClass_of_methodNamed B.named
  have hlocks := B.notSynchronized
  subst hsz
  have hS : va_S (AX 75 X.1 s.heap.size) s.heap s.heap [] := va_S.rf
  have hl := lv_entry ([.ref (X.1 0), .int x1]) (n := 2) (Nat.le_of_ble_eq_true rfl)
  rw [lg_entry_eq]
  generalize (lg_sl ([.ref (X.1 0), .int x1]) ++ List.replicate (2 - (lg_sl ([.ref (X.1 0), .int x1])).length) Slot.unset).toArray = ls at hl ⊢
  have hl : lv_has ls 2 [(0, .ref (X.1 0)), (1, .int x1)] := hl
  obtain ⟨H, hH⟩ : ∃ H : Heap, H = s.heap := ⟨_, rfl⟩
  obtain ⟨locs, hlc⟩ : ∃ q : List Loc, q = [] := ⟨_, rfl⟩
  have hS : va_S (AX 75 X.1 s.heap.size) s.heap H locs := by rw [hH, hlc]; exact hS
  have hP : va_P D vwCl (CW X S) H := by rw [hH]; exact hP
  show W p l e (headSpec (Cond.code yX6_now cX6_now 2 (some .int) :: lw_gd) rm_X6_now).room s m ([.ref (X.1 0), .int x1] : List Value).toArray below meth c s.heap [] 0 0 (MQ below (va_Qi post (gB D (CW X)) (AX 75 X.1 s.heap.size)) ([.ref (X.1 0), .int x1] : List Value).toArray s 0 0 (AX 75 X.1 s.heap.size)) _
  suffices hgo : W p l e (headSpec (Cond.code yX6_now cX6_now 2 (some .int) :: lw_gd) rm_X6_now).room s m ([.ref (X.1 0), .int x1] : List Value).toArray below meth c H locs 0 0 (MQ below (va_Qi post (gB D (CW X)) (AX 75 X.1 s.heap.size)) ([.ref (X.1 0), .int x1] : List Value).toArray s 0 0 (AX 75 X.1 s.heap.size)) (F0 m 0 ls []) from by rw [hH, hlc] at hgo; exact hgo
  unfold p_X6_now at h
  refine lv_iload_n hx hb dX6_now_0 rfl (lv_at hl 1 rfl) ?_
  by_cases c_1 : x1 = 0
  · have h := h.1 c_1
    refine lv_tableIn (off := 47) (tgt := 48) hx hb dX6_now_1 (by rw [c_1]; decide) (by rw [c_1]; decide) (by rw [c_1]; rfl) (by decide) ?_
    refine lv_aload_n hx hb dX6_now_48 rfl (lv_at hl 0 rfl) ?_
    refine va_get (D := D) (ci := 6) (v := .ref (X.1 (mo 0))) (C := RX6) (T := TX6) (N := 16) hx hb hT inX6 hown hK hP 0 cw_Yard rfl 3 (by decide) (hT _ wf_X6_29) (fun _ h9 => h9) rfl dX6_now_49 ?_
    refine va_getN (D := D) (ci := 1) (v := .int (S.1 (mo 0) 4)) (C := RX1) (T := TX1) (N := 8) hx hb hT inX1 hown hK hP (mo 0) (cw_Moment (m := 0) (by decide)) rfl 4 (by decide) (va_Nw.use rfl hF.1.1.2.2.2.2.1) (fun _ h9 => h9) rfl dX6_now_52 ?_
    exact W.iret (v := S.1 (mo 0) 4) hx hb hr (fun t ht hW => ⟨⟨S.1 (mo 0) 4, S, rfl, h, gB_of ht hP⟩, hS.F ht⟩) hS.2.2 dX6_now_55
  · have h := h.2 c_1
    by_cases c_2 : x1 = 1
    · have h := h.1 c_2
      refine lv_tableIn (off := 55) (tgt := 56) hx hb dX6_now_1 (by rw [c_2]; decide) (by rw [c_2]; decide) (by rw [c_2]; rfl) (by decide) ?_
      refine lv_aload_n hx hb dX6_now_56 rfl (lv_at hl 0 rfl) ?_
      refine va_get (D := D) (ci := 6) (v := .ref (X.1 (mo 0))) (C := RX6) (T := TX6) (N := 16) hx hb hT inX6 hown hK hP 0 cw_Yard rfl 3 (by decide) (hT _ wf_X6_29) (fun _ h9 => h9) rfl dX6_now_57 ?_
      refine va_getN (D := D) (ci := 1) (v := .int (S.1 (mo 0) 7)) (C := RX1) (T := TX1) (N := 8) hx hb hT inX1 hown hK hP (mo 0) (cw_Moment (m := 0) (by decide)) rfl 7 (by decide) (va_Nw.use rfl hF.1.1.2.2.2.2.2.2.2) (fun _ h9 => h9) rfl dX6_now_60 ?_
      exact W.iret (v := S.1 (mo 0) 7) hx hb hr (fun t ht hW => ⟨⟨S.1 (mo 0) 7, S, rfl, h, gB_of ht hP⟩, hS.F ht⟩) hS.2.2 dX6_now_63
    · have h := h.2 c_2
      by_cases c_3 : x1 = 2
      · have h := h.1 c_3
        refine lv_tableIn (off := 63) (tgt := 64) hx hb dX6_now_1 (by rw [c_3]; decide) (by rw [c_3]; decide) (by rw [c_3]; rfl) (by decide) ?_
        refine lv_aload_n hx hb dX6_now_64 rfl (lv_at hl 0 rfl) ?_
        refine va_get (D := D) (ci := 6) (v := .ref (X.1 (mo 0))) (C := RX6) (T := TX6) (N := 16) hx hb hT inX6 hown hK hP 0 cw_Yard rfl 3 (by decide) (hT _ wf_X6_29) (fun _ h9 => h9) rfl dX6_now_65 ?_
        refine va_getN (D := D) (ci := 1) (v := .int (S.1 (mo 0) 2)) (C := RX1) (T := TX1) (N := 8) hx hb hT inX1 hown hK hP (mo 0) (cw_Moment (m := 0) (by decide)) rfl 2 (by decide) (va_Nw.use rfl hF.1.1.2.2.1) (fun _ h9 => h9) rfl dX6_now_68 ?_
        exact W.iret (v := S.1 (mo 0) 2) hx hb hr (fun t ht hW => ⟨⟨S.1 (mo 0) 2, S, rfl, h, gB_of ht hP⟩, hS.F ht⟩) hS.2.2 dX6_now_71
      · have h := h.2 c_3
        by_cases c_4 : x1 = 3
        · have h := h.1 c_4
          refine lv_tableIn (off := 71) (tgt := 72) hx hb dX6_now_1 (by rw [c_4]; decide) (by rw [c_4]; decide) (by rw [c_4]; rfl) (by decide) ?_
          refine lv_aload_n hx hb dX6_now_72 rfl (lv_at hl 0 rfl) ?_
          refine va_get (D := D) (ci := 6) (v := .ref (X.1 (mo 0))) (C := RX6) (T := TX6) (N := 16) hx hb hT inX6 hown hK hP 0 cw_Yard rfl 3 (by decide) (hT _ wf_X6_29) (fun _ h9 => h9) rfl dX6_now_73 ?_
          refine va_getN (D := D) (ci := 1) (v := .int (S.1 (mo 0) 3)) (C := RX1) (T := TX1) (N := 8) hx hb hT inX1 hown hK hP (mo 0) (cw_Moment (m := 0) (by decide)) rfl 3 (by decide) (va_Nw.use rfl hF.1.1.2.2.2.1) (fun _ h9 => h9) rfl dX6_now_76 ?_
          exact W.iret (v := S.1 (mo 0) 3) hx hb hr (fun t ht hW => ⟨⟨S.1 (mo 0) 3, S, rfl, h, gB_of ht hP⟩, hS.F ht⟩) hS.2.2 dX6_now_79
        · have h := h.2 c_4
          by_cases c_5 : x1 = 4
          · have h := h.1 c_5
            refine lv_tableIn (off := 79) (tgt := 80) hx hb dX6_now_1 (by rw [c_5]; decide) (by rw [c_5]; decide) (by rw [c_5]; rfl) (by decide) ?_
            refine lv_aload_n hx hb dX6_now_80 rfl (lv_at hl 0 rfl) ?_
            refine va_get (D := D) (ci := 6) (v := .ref (X.1 (mo 0))) (C := RX6) (T := TX6) (N := 16) hx hb hT inX6 hown hK hP 0 cw_Yard rfl 3 (by decide) (hT _ wf_X6_29) (fun _ h9 => h9) rfl dX6_now_81 ?_
            refine va_getN (D := D) (ci := 1) (v := .int (S.1 (mo 0) 5)) (C := RX1) (T := TX1) (N := 8) hx hb hT inX1 hown hK hP (mo 0) (cw_Moment (m := 0) (by decide)) rfl 5 (by decide) (va_Nw.use rfl hF.1.1.2.2.2.2.2.1) (fun _ h9 => h9) rfl dX6_now_84 ?_
            exact W.iret (v := S.1 (mo 0) 5) hx hb hr (fun t ht hW => ⟨⟨S.1 (mo 0) 5, S, rfl, h, gB_of ht hP⟩, hS.F ht⟩) hS.2.2 dX6_now_87
          · have h := h.2 c_5
            by_cases c_6 : x1 = 5
            · have h := h.1 c_6
              refine lv_tableIn (off := 87) (tgt := 88) hx hb dX6_now_1 (by rw [c_6]; decide) (by rw [c_6]; decide) (by rw [c_6]; rfl) (by decide) ?_
              refine lv_aload_n hx hb dX6_now_88 rfl (lv_at hl 0 rfl) ?_
              refine va_get (D := D) (ci := 6) (v := .ref (X.1 (mo 0))) (C := RX6) (T := TX6) (N := 16) hx hb hT inX6 hown hK hP 0 cw_Yard rfl 3 (by decide) (hT _ wf_X6_29) (fun _ h9 => h9) rfl dX6_now_89 ?_
              refine va_getN (D := D) (ci := 1) (v := .int (S.1 (mo 0) 6)) (C := RX1) (T := TX1) (N := 8) hx hb hT inX1 hown hK hP (mo 0) (cw_Moment (m := 0) (by decide)) rfl 6 (by decide) (va_Nw.use rfl hF.1.1.2.2.2.2.2.2.1) (fun _ h9 => h9) rfl dX6_now_92 ?_
              exact W.iret (v := S.1 (mo 0) 6) hx hb hr (fun t ht hW => ⟨⟨S.1 (mo 0) 6, S, rfl, h, gB_of ht hP⟩, hS.F ht⟩) hS.2.2 dX6_now_95
            · have h := h.2 c_6
              by_cases c_7 : x1 = 6
              · have h := h.1 c_7
                refine lv_tableIn (off := 95) (tgt := 96) hx hb dX6_now_1 (by rw [c_7]; decide) (by rw [c_7]; decide) (by rw [c_7]; rfl) (by decide) ?_
                refine lv_aload_n hx hb dX6_now_96 rfl (lv_at hl 0 rfl) ?_
                refine va_get (D := D) (ci := 6) (v := .ref (X.1 (mo 0))) (C := RX6) (T := TX6) (N := 16) hx hb hT inX6 hown hK hP 0 cw_Yard rfl 3 (by decide) (hT _ wf_X6_29) (fun _ h9 => h9) rfl dX6_now_97 ?_
                refine va_getN (D := D) (ci := 1) (v := .ref (X.1 (bo (0 + 1)))) (C := RX1) (T := TX1) (N := 8) hx hb hT inX1 hown hK hP (mo 0) (cw_Moment (m := 0) (by decide)) rfl 1 (by decide) (va_Nw.use rfl hF.1.1.2.1) (fun _ h9 => h9) rfl dX6_now_100 ?_
                refine va_getN (D := D) (ci := 0) (v := .int (S.1 (bo (0 + 1)) 1)) (C := RX0) (T := TX0) (N := 2) hx hb hT inX0 hown hK hP (bo (0 + 1)) (cw_Besom (b := (0 + 1)) (by omega)) rfl 1 (by decide) (va_Nw.use rfl hF.1.1.1) (fun _ h9 => h9) rfl dX6_now_103 ?_
                exact W.iret (v := S.1 (bo (0 + 1)) 1) hx hb hr (fun t ht hW => ⟨⟨S.1 (bo (0 + 1)) 1, S, rfl, h, gB_of ht hP⟩, hS.F ht⟩) hS.2.2 dX6_now_106
              · have h := h.2 c_7
                by_cases c_8 : x1 = 7
                · have h := h.1 c_8
                  refine lv_tableIn (off := 106) (tgt := 107) hx hb dX6_now_1 (by rw [c_8]; decide) (by rw [c_8]; decide) (by rw [c_8]; rfl) (by decide) ?_
                  refine lv_aload_n hx hb dX6_now_107 rfl (lv_at hl 0 rfl) ?_
                  refine va_get (D := D) (ci := 6) (v := .int (S.1 0 5)) (C := RX6) (T := TX6) (N := 16) hx hb hT inX6 hown hK hP 0 cw_Yard rfl 5 (by decide) (hT _ wf_X6_143) (fun _ h9 => h9) rfl dX6_now_108 ?_
                  exact W.iret (v := S.1 0 5) hx hb hr (fun t ht hW => ⟨⟨S.1 0 5, S, rfl, h, gB_of ht hP⟩, hS.F ht⟩) hS.2.2 dX6_now_111
                · have h := h.2 c_8
                  refine lv_tableOut (tgt := 112) hx hb dX6_now_1 (by have ec_1 := lv_neT c_1 (a := 0) rfl; have ec_2 := lv_neT c_2 (a := 1) rfl; have ec_3 := lv_neT c_3 (a := 2) rfl; have ec_4 := lv_neT c_4 (a := 3) rfl; have ec_5 := lv_neT c_5 (a := 4) rfl; have ec_6 := lv_neT c_6 (a := 5) rfl; have ec_7 := lv_neT c_7 (a := 6) rfl; have ec_8 := lv_neT c_8 (a := 7) rfl; omega) (by decide) ?_
                  refine lv_iconst (v := (-1)) hx hb dX6_now_112 (by decide) ?_
                  exact W.iret (v := (-1)) hx hb hr (fun t ht hW => ⟨⟨(-1), S, rfl, h, gB_of ht hP⟩, hS.F ht⟩) hS.2.2 dX6_now_113

abbrev rm_X6_remember : Room := { frames := 4, cells := 0, slots := 0, locals := 88 }
def q_X6_remember_37  (post : CS → Prop) (z0 : Int32) (S : CS) : Prop := ∀ S_4 : CS, S_4 = sti S 0 6 z0 → (∀ u_5 : Int32, u_5 = (if ((S_4.1 0 5) + 1) < 10 then ((S_4.1 0 5) + 1) else 10) → (∀ S_6 : CS, S_6 = sti S_4 0 5 u_5 → (post S_6)))
def p_X6_remember (S : CS)  (post : CS → Prop) : Prop := p_X3_put S 0 (S.1 0 6) 0 (fun S_1 => ((10 ≤ ((S_1.1 0 6) + 1) → (q_X6_remember_37 post 0 S_1)) ∧ (¬ (10 ≤ ((S_1.1 0 6) + 1)) → (q_X6_remember_37 post ((S_1.1 0 6) + 1) S_1))))
set_option maxHeartbeats 4000000 in
set_option maxRecDepth 100000 in
theorem c_X6_remember (l : Launch) (D : va_G) (X : XE) (hX : Inj 75 X.1) (sz : Nat) (S : CS)  (post : CS → Prop) (h : p_X6_remember S  post) : Met l yX6_remember (Cond.code yX6_remember cX6_remember 1 none :: lw_gd) rm_X6_remember (gPc D (tyX X) (CW X) (FXc X) (AX 75 X.1 sz) sz S [.ref (X.1 0)]) (va_Qv post (gB D (CW X)) (AX 75 X.1 sz)) 0 0 (AX 75 X.1 sz) := by
  refine Met.ofW (cc := cX6_remember) (maxL := 1) (ret := none) (by decide) rfl ?_
  intro p e s m args below meth c s₁ B hml hv
  obtain ⟨rfl, hsz, hP, hK, hF⟩ := hv
  have hx := B.exec
  have hb := B.bytes
  have hr := B.returns
  have hts := atoms_spec (ws := (Cond.code yX6_remember cX6_remember 1 none :: lw_gd)) B.pre
  have hT : ∀ w ∈ lw_gd, w.before _ s = true := fun w h9 => hts w (List.mem_cons_of_mem _ h9)
  have hown : s.vm.findClass RX6 = some m.cls := findClass_of_methodNamed B.named
  have hlocks := B.notSynchronized
  subst hsz
  have hS : va_S (AX 75 X.1 s.heap.size) s.heap s.heap [] := va_S.rf
  have W37 : ∀ (z0 : Int32) (S : CS) (H : Heap) (locs : List Loc) (ls : Array Slot), va_P D vwCl (CW X S) H → va_S (AX 75 X.1 s.heap.size) s.heap H locs → lv_has ls 1 [(0, .ref (X.1 0))] → q_X6_remember_37 post z0 S → W p l e (headSpec (Cond.code yX6_remember cX6_remember 1 none :: lw_gd) rm_X6_remember).room s m ([.ref (X.1 0)] : List Value).toArray below meth c H locs 0 0 (MQ below (va_Qv post (gB D (CW X)) (AX 75 X.1 s.heap.size)) ([.ref (X.1 0)] : List Value).toArray s 0 0 (AX 75 X.1 s.heap.size)) (F0 m 37 ls [.int z0, .ref (X.1 0)]) := by
    intro z0 S H locs ls hP hS hl h
    unfold q_X6_remember_37 at h
    refine va_put (D := D) (ci := 6) (v := .int z0) (ty := .int) (C := RX6) (T := TX6) (N := 16) hx hb hT inX6 tyX6 tyX6_ok nmX6 hown hK hP (gw_D hX) hS 0 cw_Yard rfl 6 (by decide) (hT _ wf_X6_173) (fun _ h9 => h9) rfl (by decide +kernel) rfl rfl (Nat.le_of_ble_eq_true rfl) dX6_remember_37 (fun H locs hP _ hS => ?_)
    have hP := cw_st (j := 6) (x := z0) rfl hP
    obtain ⟨S_4, eS_4⟩ : ∃ z : CS, z = sti S 0 6 z0 := ⟨_, rfl⟩
    rw [← eS_4] at hP
    have h := h S_4 eS_4
    refine lv_aload_n hx hb dX6_remember_40 rfl (lv_at hl 0 rfl) ?_
    refine lv_bipush (v := 10) hx hb dX6_remember_41 (by decide) ?_
    refine lv_aload_n hx hb dX6_remember_43 rfl (lv_at hl 0 rfl) ?_
    refine va_get (D := D) (ci := 6) (v := .int (S_4.1 0 5)) (C := RX6) (T := TX6) (N := 16) hx hb hT inX6 hown hK hP 0 cw_Yard rfl 5 (by decide) (hT _ wf_X6_143) (fun _ h9 => h9) rfl dX6_remember_44 ?_
    refine lv_iconst (v := 1) hx hb dX6_remember_47 (by decide) ?_
    refine lv_iadd hx hb dX6_remember_48 ?_
    refine va_mmin hx hb (hml.trans hl.1.symm) hown (hT _ wl_X6_287) (hT _ wt_J9_min_7cf53) (hT _ wn_J9) (hT _ wc_J9_min_7cf53) (Nat.le_of_ble_eq_true rfl) (Nat.le_of_ble_eq_true rfl) (Nat.zero_le _) (Nat.zero_le _) dX6_remember_49 ?_
    refine lv_topi (fun u_5 eu_5 => ?_)
    have h := h u_5 eu_5
    refine va_put (D := D) (ci := 6) (v := .int u_5) (ty := .int) (C := RX6) (T := TX6) (N := 16) hx hb hT inX6 tyX6 tyX6_ok nmX6 hown hK hP (gw_D hX) hS 0 cw_Yard rfl 5 (by decide) (hT _ wf_X6_143) (fun _ h9 => h9) rfl (by decide +kernel) rfl rfl (Nat.le_of_ble_eq_true rfl) dX6_remember_52 (fun H locs hP _ hS => ?_)
    have hP := cw_st (j := 5) (x := u_5) rfl hP
    obtain ⟨S_6, eS_6⟩ : ∃ z : CS, z = sti S_4 0 5 u_5 := ⟨_, rfl⟩
    rw [← eS_6] at hP
    have h := h S_6 eS_6
    exact W.vret hx hb hr (fun t ht hW => ⟨⟨S_6, rfl, h, gB_of ht hP⟩, hS.F ht⟩) hS.2.2 dX6_remember_55
  have hl := lv_entry ([.ref (X.1 0)]) (n := 1) (Nat.le_of_ble_eq_true rfl)
  rw [lg_entry_eq]
  generalize (lg_sl ([.ref (X.1 0)]) ++ List.replicate (1 - (lg_sl ([.ref (X.1 0)])).length) Slot.unset).toArray = ls at hl ⊢
  have hl : lv_has ls 1 [(0, .ref (X.1 0))] := hl
  obtain ⟨H, hH⟩ : ∃ H : Heap, H = s.heap := ⟨_, rfl⟩
  obtain ⟨locs, hlc⟩ : ∃ q : List Loc, q = [] := ⟨_, rfl⟩
  have hS : va_S (AX 75 X.1 s.heap.size) s.heap H locs := by rw [hH, hlc]; exact hS
  have hP : va_P D vwCl (CW X S) H := by rw [hH]; exact hP
  show W p l e (headSpec (Cond.code yX6_remember cX6_remember 1 none :: lw_gd) rm_X6_remember).room s m ([.ref (X.1 0)] : List Value).toArray below meth c s.heap [] 0 0 (MQ below (va_Qv post (gB D (CW X)) (AX 75 X.1 s.heap.size)) ([.ref (X.1 0)] : List Value).toArray s 0 0 (AX 75 X.1 s.heap.size)) _
  suffices hgo : W p l e (headSpec (Cond.code yX6_remember cX6_remember 1 none :: lw_gd) rm_X6_remember).room s m ([.ref (X.1 0)] : List Value).toArray below meth c H locs 0 0 (MQ below (va_Qv post (gB D (CW X)) (AX 75 X.1 s.heap.size)) ([.ref (X.1 0)] : List Value).toArray s 0 0 (AX 75 X.1 s.heap.size)) (F0 m 0 ls []) from by rw [hH, hlc] at hgo; exact hgo
  unfold p_X6_remember at h
  refine lv_aload_n hx hb dX6_remember_0 rfl (lv_at hl 0 rfl) ?_
  refine va_get (D := D) (ci := 6) (v := .ref (X.1 (ho 0))) (C := RX6) (T := TX6) (N := 16) hx hb hT inX6 hown hK hP 0 cw_Yard rfl 4 (by decide) (hT _ wf_X6_38) (fun _ h9 => h9) rfl dX6_remember_1 ?_
  refine lv_aload_n hx hb dX6_remember_4 rfl (lv_at hl 0 rfl) ?_
  refine va_get (D := D) (ci := 6) (v := .int (S.1 0 6)) (C := RX6) (T := TX6) (N := 16) hx hb hT inX6 hown hK hP 0 cw_Yard rfl 6 (by decide) (hT _ wf_X6_173) (fun _ h9 => h9) rfl dX6_remember_5 ?_
  refine lv_aload_n hx hb dX6_remember_8 rfl (lv_at hl 0 rfl) ?_
  refine va_get (D := D) (ci := 6) (v := .ref (X.1 (mo 0))) (C := RX6) (T := TX6) (N := 16) hx hb hT inX6 hown hK hP 0 cw_Yard rfl 3 (by decide) (hT _ wf_X6_29) (fun _ h9 => h9) rfl dX6_remember_9 ?_
  refine cVv (As := [.int (S.1 0 6), .ref (X.1 (mo 0))]) (rest := []) hX ⟨hx, hb, hml, hown, hT⟩ (c_X3_put l D X hX H.size S 0 (by decide) (S.1 0 6) 0 (by decide) _ h) (gd_V wl_X6_270 wi_X3_put wv_X3_put wn_X3 wc_X3_put) rfl hd_X3_put ⟨rfl, rfl⟩ ⟨Nat.le_of_ble_eq_true rfl, Nat.le_of_ble_eq_true rfl⟩ (va_recv hK hP (ci := 3) (q0 := (ho 0)) rfl (cw_Shelf (h := 0) (by decide))) hK hP hS hF rfl hl.1 rfl (Nat.le_of_ble_eq_true rfl) dX6_remember_12 ⟨Nat.zero_le _, Nat.zero_le _⟩ (fun S_1 H locs h hP hS => ?_)
  refine lv_aload_n hx hb dX6_remember_15 rfl (lv_at hl 0 rfl) ?_
  refine lv_aload_n hx hb dX6_remember_16 rfl (lv_at hl 0 rfl) ?_
  refine va_get (D := D) (ci := 6) (v := .int (S_1.1 0 6)) (C := RX6) (T := TX6) (N := 16) hx hb hT inX6 hown hK hP 0 cw_Yard rfl 6 (by decide) (hT _ wf_X6_173) (fun _ h9 => h9) rfl dX6_remember_17 ?_
  refine lv_iconst (v := 1) hx hb dX6_remember_20 (by decide) ?_
  refine lv_iadd hx hb dX6_remember_21 ?_
  refine lv_bipush (v := 10) hx hb dX6_remember_22 (by decide) ?_
  refine lv_icmp_ge (tgt := 36) hx hb dX6_remember_24 (by decide) (fun c_3 => ?_) (fun c_3 => ?_)
  · have h := h.1 c_3
    refine lv_iconst (v := 0) hx hb dX6_remember_36 (by decide) ?_
    exact W37  0 S_1 H locs ls hP hS hl h
  · have h := h.2 c_3
    refine lv_aload_n hx hb dX6_remember_27 rfl (lv_at hl 0 rfl) ?_
    refine va_get (D := D) (ci := 6) (v := .int (S_1.1 0 6)) (C := RX6) (T := TX6) (N := 16) hx hb hT inX6 hown hK hP 0 cw_Yard rfl 6 (by decide) (hT _ wf_X6_173) (fun _ h9 => h9) rfl dX6_remember_28 ?_
    refine lv_iconst (v := 1) hx hb dX6_remember_31 (by decide) ?_
    refine lv_iadd hx hb dX6_remember_32 ?_
    refine lv_goto (tgt := 37) hx hb dX6_remember_33 (by decide) ?_
    exact W37  ((S_1.1 0 6) + 1) S_1 H locs ls hP hS hl h

abbrev rm_X6_cuts : Room := { frames := 5, cells := 0, slots := 0, locals := 108 }
def p_X6_cuts (S : CS) (x1 : Int32) (post : Int32 → CS → Prop) : Prop := p_X6_isPart S x1 (fun r_2 S_1 => ((r_2 = 0 → (post (-1) S_1)) ∧ (¬ (r_2 = 0) → (p_X6_remember S_1  (fun S_4 => (p_X6_giftOf S_4 x1 (fun r_7 S_6 => (∀ u_8 : Int32, u_8 = ((S_6.1 (mo 0) 2) + r_7) → (∀ S_9 : CS, S_9 = sti S_6 (mo 0) 2 u_8 → (p_X1_beCut S_9 0 x1 (fun S_10 => (post r_7 S_10))))))))))))
set_option maxHeartbeats 4000000 in
set_option maxRecDepth 100000 in
theorem c_X6_cuts (l : Launch) (D : va_G) (X : XE) (hX : Inj 75 X.1) (sz : Nat) (S : CS) (x1 : Int32) (post : Int32 → CS → Prop) (h : p_X6_cuts S x1 post) : Met l yX6_cuts (Cond.code yX6_cuts cX6_cuts 3 (some .int) :: lw_gd) rm_X6_cuts (gPc D (tyX X) (CW X) (FXc X) (AX 75 X.1 sz) sz S [.ref (X.1 0), .int x1]) (va_Qi post (gB D (CW X)) (AX 75 X.1 sz)) 0 0 (AX 75 X.1 sz) := by
  refine Met.ofW (cc := cX6_cuts) (maxL := 3) (ret := (some .int)) (by decide) rfl ?_
  intro p e s m args below meth c s₁ B hml hv
  obtain ⟨rfl, hsz, hP, hK, hF⟩ := hv
  have hx := B.exec
  have hb := B.bytes
  have hr := B.returns
  have hts := atoms_spec (ws := (Cond.code yX6_cuts cX6_cuts 3 (some .int) :: lw_gd)) B.pre
  have hT : ∀ w ∈ lw_gd, w.before _ s = true := fun w h9 => hts w (List.mem_cons_of_mem _ h9)
  have hown : s.vm.findClass RX6 = some m.cls := findClass_of_methodNamed B.named
  have hlocks := B.notSynchronized
  subst hsz
  have hS : va_S (AX 75 X.1 s.heap.size) s.heap s.heap [] := va_S.rf
  have hl := lv_entry ([.ref (X.1 0), .int x1]) (n := 3) (Nat.le_of_ble_eq_true rfl)
  rw [lg_entry_eq]
  generalize (lg_sl ([.ref (X.1 0), .int x1]) ++ List.replicate (3 - (lg_sl ([.ref (X.1 0), .int x1])).length) Slot.unset).toArray = ls at hl ⊢
  have hl : lv_has ls 3 [(0, .ref (X.1 0)), (1, .int x1)] := hl
  obtain ⟨H, hH⟩ : ∃ H : Heap, H = s.heap := ⟨_, rfl⟩
  obtain ⟨locs, hlc⟩ : ∃ q : List Loc, q = [] := ⟨_, rfl⟩
  have hS : va_S (AX 75 X.1 s.heap.size) s.heap H locs := by rw [hH, hlc]; exact hS
  have hP : va_P D vwCl (CW X S) H := by rw [hH]; exact hP
  show W p l e (headSpec (Cond.code yX6_cuts cX6_cuts 3 (some .int) :: lw_gd) rm_X6_cuts).room s m ([.ref (X.1 0), .int x1] : List Value).toArray below meth c s.heap [] 0 0 (MQ below (va_Qi post (gB D (CW X)) (AX 75 X.1 s.heap.size)) ([.ref (X.1 0), .int x1] : List Value).toArray s 0 0 (AX 75 X.1 s.heap.size)) _
  suffices hgo : W p l e (headSpec (Cond.code yX6_cuts cX6_cuts 3 (some .int) :: lw_gd) rm_X6_cuts).room s m ([.ref (X.1 0), .int x1] : List Value).toArray below meth c H locs 0 0 (MQ below (va_Qi post (gB D (CW X)) (AX 75 X.1 s.heap.size)) ([.ref (X.1 0), .int x1] : List Value).toArray s 0 0 (AX 75 X.1 s.heap.size)) (F0 m 0 ls []) from by rw [hH, hlc] at hgo; exact hgo
  unfold p_X6_cuts at h
  refine lv_aload_n hx hb dX6_cuts_0 rfl (lv_at hl 0 rfl) ?_
  refine lv_iload_n hx hb dX6_cuts_1 rfl (lv_at hl 1 rfl) ?_
  refine cVi (As := [.int x1]) (rest := []) hX ⟨hx, hb, hml, hown, hT⟩ (c_X6_isPart l D X hX H.size S x1 _ h) (gd_V wl_X6_91 wi_X6_isPart wv_X6_isPart wn_X6 wc_X6_isPart) rfl hd_X6_isPart ⟨rfl, rfl⟩ ⟨Nat.le_of_ble_eq_true rfl, Nat.le_of_ble_eq_true rfl⟩ (va_recv hK hP (ci := 6) (q0 := 0) rfl cw_Yard) hK hP hS hF rfl hl.1 rfl (Nat.le_of_ble_eq_true rfl) dX6_cuts_2 ⟨Nat.zero_le _, Nat.zero_le _⟩ (fun r_2 S_1 H locs h hP hS => ?_)
  refine lv_if_ne (tgt := 10) hx hb dX6_cuts_5 (by decide) (fun c_3 => ?_) (fun c_3 => ?_)
  · have h := h.2 c_3
    refine lv_aload_n hx hb dX6_cuts_10 rfl (lv_at hl 0 rfl) ?_
    refine cVv (As := []) (rest := []) hX ⟨hx, hb, hml, hown, hT⟩ (c_X6_remember l D X hX H.size S_1  _ h) (gd_V wl_X6_146 wi_X6_remember wv_X6_remember wn_X6 wc_X6_remember) rfl hd_X6_remember ⟨rfl, rfl⟩ ⟨Nat.le_of_ble_eq_true rfl, Nat.le_of_ble_eq_true rfl⟩ (va_recv hK hP (ci := 6) (q0 := 0) rfl cw_Yard) hK hP hS hF rfl hl.1 rfl (Nat.le_of_ble_eq_true rfl) dX6_cuts_11 ⟨Nat.zero_le _, Nat.zero_le _⟩ (fun S_4 H locs h hP hS => ?_)
    refine lv_aload_n hx hb dX6_cuts_14 rfl (lv_at hl 0 rfl) ?_
    refine lv_iload_n hx hb dX6_cuts_15 rfl (lv_at hl 1 rfl) ?_
    refine cVi (As := [.int x1]) (rest := []) hX ⟨hx, hb, hml, hown, hT⟩ (c_X6_giftOf l D X hX H.size S_4 x1 _ h) (gd_V wl_X6_103 wi_X6_giftOf wv_X6_giftOf wn_X6 wc_X6_giftOf) rfl hd_X6_giftOf ⟨rfl, rfl⟩ ⟨Nat.le_of_ble_eq_true rfl, Nat.le_of_ble_eq_true rfl⟩ (va_recv hK hP (ci := 6) (q0 := 0) rfl cw_Yard) hK hP hS hF rfl hl.1 rfl (Nat.le_of_ble_eq_true rfl) dX6_cuts_16 ⟨Nat.zero_le _, Nat.zero_le _⟩ (fun r_7 S_6 H locs h hP hS => ?_)
    refine lv_istore_n (lv' := [(2, .int r_7), (0, .ref (X.1 0)), (1, .int x1)]) hx hb dX6_cuts_19 rfl hl (by decide) rfl (fun ls hl => ?_)
    refine lv_aload_n hx hb dX6_cuts_20 rfl (lv_at hl 1 rfl) ?_
    refine va_get (D := D) (ci := 6) (v := .ref (X.1 (mo 0))) (C := RX6) (T := TX6) (N := 16) hx hb hT inX6 hown hK hP 0 cw_Yard rfl 3 (by decide) (hT _ wf_X6_29) (fun _ h9 => h9) rfl dX6_cuts_21 ?_
    refine lv_dup hx hb dX6_cuts_24 rfl ?_
    refine va_getN (D := D) (ci := 1) (v := .int (S_6.1 (mo 0) 2)) (C := RX1) (T := TX1) (N := 8) hx hb hT inX1 hown hK hP (mo 0) (cw_Moment (m := 0) (by decide)) rfl 2 (by decide) (va_Nw.use rfl hF.1.1.2.2.1) (fun _ h9 => h9) rfl dX6_cuts_25 ?_
    refine lv_iload_n hx hb dX6_cuts_28 rfl (lv_at hl 0 rfl) ?_
    refine lv_iadd hx hb dX6_cuts_29 ?_
    refine lv_topi (fun u_8 eu_8 => ?_)
    have h := h u_8 eu_8
    refine va_putN (D := D) (ci := 1) (v := .int u_8) (ty := .int) (C := RX1) (T := TX1) (N := 8) hx hb hT inX1 tyX1 tyX1_ok nmX1 hown hK hP (gw_D hX) hS (mo 0) (cw_Moment (m := 0) (by decide)) rfl 2 (by decide) (va_Nw.use rfl hF.1.1.2.2.1) (fun _ h9 => h9) rfl (by decide +kernel) rfl rfl (Nat.le_of_ble_eq_true rfl) dX6_cuts_30 (fun H locs hP _ hS => ?_)
    have hP := cw_st (j := 2) (x := u_8) (cce_mo X _ (m := 0) (by decide) _) hP
    obtain ⟨S_9, eS_9⟩ : ∃ z : CS, z = sti S_6 (mo 0) 2 u_8 := ⟨_, rfl⟩
    rw [← eS_9] at hP
    have h := h S_9 eS_9
    refine lv_aload_n hx hb dX6_cuts_33 rfl (lv_at hl 1 rfl) ?_
    refine va_get (D := D) (ci := 6) (v := .ref (X.1 (mo 0))) (C := RX6) (T := TX6) (N := 16) hx hb hT inX6 hown hK hP 0 cw_Yard rfl 3 (by decide) (hT _ wf_X6_29) (fun _ h9 => h9) rfl dX6_cuts_34 ?_
    refine lv_iload_n hx hb dX6_cuts_37 rfl (lv_at hl 2 rfl) ?_
    refine cVv (As := [.int x1]) (rest := []) hX ⟨hx, hb, hml, hown, hT⟩ (c_X1_beCut l D X hX H.size S_9 0 (by decide) x1 _ h) (gd_V wl_X6_149 wi_X1_beCut wv_X1_beCut wn_X1 wc_X1_beCut) rfl hd_X1_beCut ⟨rfl, rfl⟩ ⟨Nat.le_of_ble_eq_true rfl, Nat.le_of_ble_eq_true rfl⟩ (va_recv hK hP (ci := 1) (q0 := (mo 0)) rfl (cw_Moment (m := 0) (by decide))) hK hP hS hF rfl hl.1 rfl (Nat.le_of_ble_eq_true rfl) dX6_cuts_38 ⟨Nat.zero_le _, Nat.zero_le _⟩ (fun S_10 H locs h hP hS => ?_)
    refine lv_iload_n hx hb dX6_cuts_41 rfl (lv_at hl 0 rfl) ?_
    exact W.iret (v := r_7) hx hb hr (fun t ht hW => ⟨⟨r_7, S_10, rfl, h, gB_of ht hP⟩, hS.F ht⟩) hS.2.2 dX6_cuts_42
  · have h := h.1 c_3
    refine lv_iconst (v := (-1)) hx hb dX6_cuts_8 (by decide) ?_
    exact W.iret (v := (-1)) hx hb hr (fun t ht hW => ⟨⟨(-1), S_1, rfl, h, gB_of ht hP⟩, hS.F ht⟩) hS.2.2 dX6_cuts_9

abbrev rm_X6_year : Room := { frames := 5, cells := 0, slots := 0, locals := 108 }
def p_X6_year (S : CS)  (post : Int32 → CS → Prop) : Prop := ((S.1 (mo 0) 7) < 999 → (p_X6_remember S  (fun S_2 => (∀ u_4 : Int32, u_4 = ((S_2.1 (mo 0) 7) + 1) → (∀ S_5 : CS, S_5 = sti S_2 (mo 0) 7 u_4 → (p_X1_growOlder S_5 0 (fun S_6 => (post (S_6.1 (mo 0) 7) S_6)))))))) ∧ (¬ ((S.1 (mo 0) 7) < 999) → (post (-2) S))
set_option maxHeartbeats 4000000 in
set_option maxRecDepth 100000 in
theorem c_X6_year (l : Launch) (D : va_G) (X : XE) (hX : Inj 75 X.1) (sz : Nat) (S : CS)  (post : Int32 → CS → Prop) (h : p_X6_year S  post) : Met l yX6_year (Cond.code yX6_year cX6_year 1 (some .int) :: lw_gd) rm_X6_year (gPc D (tyX X) (CW X) (FXc X) (AX 75 X.1 sz) sz S [.ref (X.1 0)]) (va_Qi post (gB D (CW X)) (AX 75 X.1 sz)) 0 0 (AX 75 X.1 sz) := by
  refine Met.ofW (cc := cX6_year) (maxL := 1) (ret := (some .int)) (by decide) rfl ?_
  intro p e s m args below meth c s₁ B hml hv
  obtain ⟨rfl, hsz, hP, hK, hF⟩ := hv
  have hx := B.exec
  have hb := B.bytes
  have hr := B.returns
  have hts := atoms_spec (ws := (Cond.code yX6_year cX6_year 1 (some .int) :: lw_gd)) B.pre
  have hT : ∀ w ∈ lw_gd, w.before _ s = true := fun w h9 => hts w (List.mem_cons_of_mem _ h9)
  have hown : s.vm.findClass RX6 = some m.cls := findClass_of_methodNamed B.named
  have hlocks := B.notSynchronized
  subst hsz
  have hS : va_S (AX 75 X.1 s.heap.size) s.heap s.heap [] := va_S.rf
  have hl := lv_entry ([.ref (X.1 0)]) (n := 1) (Nat.le_of_ble_eq_true rfl)
  rw [lg_entry_eq]
  generalize (lg_sl ([.ref (X.1 0)]) ++ List.replicate (1 - (lg_sl ([.ref (X.1 0)])).length) Slot.unset).toArray = ls at hl ⊢
  have hl : lv_has ls 1 [(0, .ref (X.1 0))] := hl
  obtain ⟨H, hH⟩ : ∃ H : Heap, H = s.heap := ⟨_, rfl⟩
  obtain ⟨locs, hlc⟩ : ∃ q : List Loc, q = [] := ⟨_, rfl⟩
  have hS : va_S (AX 75 X.1 s.heap.size) s.heap H locs := by rw [hH, hlc]; exact hS
  have hP : va_P D vwCl (CW X S) H := by rw [hH]; exact hP
  show W p l e (headSpec (Cond.code yX6_year cX6_year 1 (some .int) :: lw_gd) rm_X6_year).room s m ([.ref (X.1 0)] : List Value).toArray below meth c s.heap [] 0 0 (MQ below (va_Qi post (gB D (CW X)) (AX 75 X.1 s.heap.size)) ([.ref (X.1 0)] : List Value).toArray s 0 0 (AX 75 X.1 s.heap.size)) _
  suffices hgo : W p l e (headSpec (Cond.code yX6_year cX6_year 1 (some .int) :: lw_gd) rm_X6_year).room s m ([.ref (X.1 0)] : List Value).toArray below meth c H locs 0 0 (MQ below (va_Qi post (gB D (CW X)) (AX 75 X.1 s.heap.size)) ([.ref (X.1 0)] : List Value).toArray s 0 0 (AX 75 X.1 s.heap.size)) (F0 m 0 ls []) from by rw [hH, hlc] at hgo; exact hgo
  unfold p_X6_year at h
  refine lv_aload_n hx hb dX6_year_0 rfl (lv_at hl 0 rfl) ?_
  refine va_get (D := D) (ci := 6) (v := .ref (X.1 (mo 0))) (C := RX6) (T := TX6) (N := 16) hx hb hT inX6 hown hK hP 0 cw_Yard rfl 3 (by decide) (hT _ wf_X6_29) (fun _ h9 => h9) rfl dX6_year_1 ?_
  refine va_getN (D := D) (ci := 1) (v := .int (S.1 (mo 0) 7)) (C := RX1) (T := TX1) (N := 8) hx hb hT inX1 hown hK hP (mo 0) (cw_Moment (m := 0) (by decide)) rfl 7 (by decide) (va_Nw.use rfl hF.1.1.2.2.2.2.2.2.2) (fun _ h9 => h9) rfl dX6_year_4 ?_
  refine lv_sipush (v := 999) hx hb dX6_year_7 (by decide) ?_
  refine lv_icmp_lt (tgt := 16) hx hb dX6_year_10 (by decide) (fun c_1 => ?_) (fun c_1 => ?_)
  · have h := h.1 c_1
    refine lv_aload_n hx hb dX6_year_16 rfl (lv_at hl 0 rfl) ?_
    refine cVv (As := []) (rest := []) hX ⟨hx, hb, hml, hown, hT⟩ (c_X6_remember l D X hX H.size S  _ h) (gd_V wl_X6_146 wi_X6_remember wv_X6_remember wn_X6 wc_X6_remember) rfl hd_X6_remember ⟨rfl, rfl⟩ ⟨Nat.le_of_ble_eq_true rfl, Nat.le_of_ble_eq_true rfl⟩ (va_recv hK hP (ci := 6) (q0 := 0) rfl cw_Yard) hK hP hS hF rfl hl.1 rfl (Nat.le_of_ble_eq_true rfl) dX6_year_17 ⟨Nat.zero_le _, Nat.zero_le _⟩ (fun S_2 H locs h hP hS => ?_)
    refine lv_aload_n hx hb dX6_year_20 rfl (lv_at hl 0 rfl) ?_
    refine va_get (D := D) (ci := 6) (v := .ref (X.1 (mo 0))) (C := RX6) (T := TX6) (N := 16) hx hb hT inX6 hown hK hP 0 cw_Yard rfl 3 (by decide) (hT _ wf_X6_29) (fun _ h9 => h9) rfl dX6_year_21 ?_
    refine lv_dup hx hb dX6_year_24 rfl ?_
    refine va_getN (D := D) (ci := 1) (v := .int (S_2.1 (mo 0) 7)) (C := RX1) (T := TX1) (N := 8) hx hb hT inX1 hown hK hP (mo 0) (cw_Moment (m := 0) (by decide)) rfl 7 (by decide) (va_Nw.use rfl hF.1.1.2.2.2.2.2.2.2) (fun _ h9 => h9) rfl dX6_year_25 ?_
    refine lv_iconst (v := 1) hx hb dX6_year_28 (by decide) ?_
    refine lv_iadd hx hb dX6_year_29 ?_
    refine lv_topi (fun u_4 eu_4 => ?_)
    have h := h u_4 eu_4
    refine va_putN (D := D) (ci := 1) (v := .int u_4) (ty := .int) (C := RX1) (T := TX1) (N := 8) hx hb hT inX1 tyX1 tyX1_ok nmX1 hown hK hP (gw_D hX) hS (mo 0) (cw_Moment (m := 0) (by decide)) rfl 7 (by decide) (va_Nw.use rfl hF.1.1.2.2.2.2.2.2.2) (fun _ h9 => h9) rfl (by decide +kernel) rfl rfl (Nat.le_of_ble_eq_true rfl) dX6_year_30 (fun H locs hP _ hS => ?_)
    have hP := cw_st (j := 7) (x := u_4) (cce_mo X _ (m := 0) (by decide) _) hP
    obtain ⟨S_5, eS_5⟩ : ∃ z : CS, z = sti S_2 (mo 0) 7 u_4 := ⟨_, rfl⟩
    rw [← eS_5] at hP
    have h := h S_5 eS_5
    refine lv_aload_n hx hb dX6_year_33 rfl (lv_at hl 0 rfl) ?_
    refine va_get (D := D) (ci := 6) (v := .ref (X.1 (mo 0))) (C := RX6) (T := TX6) (N := 16) hx hb hT inX6 hown hK hP 0 cw_Yard rfl 3 (by decide) (hT _ wf_X6_29) (fun _ h9 => h9) rfl dX6_year_34 ?_
    refine cVv (As := []) (rest := []) hX ⟨hx, hb, hml, hown, hT⟩ (c_X1_growOlder l D X hX H.size S_5 0 (by decide) _ h) (gd_V wl_X6_152 wi_X1_growOlder wv_X1_growOlder wn_X1 wc_X1_growOlder) rfl hd_X1_growOlder ⟨rfl, rfl⟩ ⟨Nat.le_of_ble_eq_true rfl, Nat.le_of_ble_eq_true rfl⟩ (va_recv hK hP (ci := 1) (q0 := (mo 0)) rfl (cw_Moment (m := 0) (by decide))) hK hP hS hF rfl hl.1 rfl (Nat.le_of_ble_eq_true rfl) dX6_year_37 ⟨Nat.zero_le _, Nat.zero_le _⟩ (fun S_6 H locs h hP hS => ?_)
    refine lv_aload_n hx hb dX6_year_40 rfl (lv_at hl 0 rfl) ?_
    refine va_get (D := D) (ci := 6) (v := .ref (X.1 (mo 0))) (C := RX6) (T := TX6) (N := 16) hx hb hT inX6 hown hK hP 0 cw_Yard rfl 3 (by decide) (hT _ wf_X6_29) (fun _ h9 => h9) rfl dX6_year_41 ?_
    refine va_getN (D := D) (ci := 1) (v := .int (S_6.1 (mo 0) 7)) (C := RX1) (T := TX1) (N := 8) hx hb hT inX1 hown hK hP (mo 0) (cw_Moment (m := 0) (by decide)) rfl 7 (by decide) (va_Nw.use rfl hF.1.1.2.2.2.2.2.2.2) (fun _ h9 => h9) rfl dX6_year_44 ?_
    exact W.iret (v := S_6.1 (mo 0) 7) hx hb hr (fun t ht hW => ⟨⟨S_6.1 (mo 0) 7, S_6, rfl, h, gB_of ht hP⟩, hS.F ht⟩) hS.2.2 dX6_year_47
  · have h := h.2 c_1
    refine lv_bipush (v := (-2)) hx hb dX6_year_13 (by decide) ?_
    exact W.iret (v := (-2)) hx hb hr (fun t ht hW => ⟨⟨(-2), S, rfl, h, gB_of ht hP⟩, hS.F ht⟩) hS.2.2 dX6_year_15

abbrev rm_X6_cutUpwards : Room := { frames := 0, cells := 0, slots := 0, locals := 0 }
def p_X6_cutUpwards (S : CS) (x0 : Int32) (x1 : Int32) (post : Int32 → CS → Prop) : Prop := (1 ≤ x1 → ((¬ x1 = 0) ∧ (post (((x0 + x1) - 1) / x1) S))) ∧ (¬ (1 ≤ x1) → (post 0 S))
set_option maxHeartbeats 4000000 in
set_option maxRecDepth 100000 in
theorem c_X6_cutUpwards (l : Launch) (D : va_G) (X : XE) (hX : Inj 75 X.1) (sz : Nat) (S : CS) (x0 : Int32) (x1 : Int32) (post : Int32 → CS → Prop) (h : p_X6_cutUpwards S x0 x1 post) : Met l yX6_cutUpwards (Cond.code yX6_cutUpwards cX6_cutUpwards 2 (some .int) :: lw_gd) rm_X6_cutUpwards (gPc D (tyX X) (CW X) (FXc X) (AX 75 X.1 sz) sz S [.int x0, .int x1]) (va_Qi post (gB D (CW X)) (AX 75 X.1 sz)) 0 0 (AX 75 X.1 sz) := by
  refine Met.ofW (cc := cX6_cutUpwards) (maxL := 2) (ret := (some .int)) (by decide) rfl ?_
  intro p e s m args below meth c s₁ B hml hv
  obtain ⟨rfl, hsz, hP, hK, hF⟩ := hv
  have hx := B.exec
  have hb := B.bytes
  have hr := B.returns
  have hts := atoms_spec (ws := (Cond.code yX6_cutUpwards cX6_cutUpwards 2 (some .int) :: lw_gd)) B.pre
  have hT : ∀ w ∈ lw_gd, w.before _ s = true := fun w h9 => hts w (List.mem_cons_of_mem _ h9)
  have hown : s.vm.findClass RX6 = some m.cls := findClass_of_methodNamed B.named
  have hlocks := B.notSynchronized
  subst hsz
  have hS : va_S (AX 75 X.1 s.heap.size) s.heap s.heap [] := va_S.rf
  have hl := lv_entry ([.int x0, .int x1]) (n := 2) (Nat.le_of_ble_eq_true rfl)
  rw [lg_entry_eq]
  generalize (lg_sl ([.int x0, .int x1]) ++ List.replicate (2 - (lg_sl ([.int x0, .int x1])).length) Slot.unset).toArray = ls at hl ⊢
  have hl : lv_has ls 2 [(0, .int x0), (1, .int x1)] := hl
  obtain ⟨H, hH⟩ : ∃ H : Heap, H = s.heap := ⟨_, rfl⟩
  obtain ⟨locs, hlc⟩ : ∃ q : List Loc, q = [] := ⟨_, rfl⟩
  have hS : va_S (AX 75 X.1 s.heap.size) s.heap H locs := by rw [hH, hlc]; exact hS
  have hP : va_P D vwCl (CW X S) H := by rw [hH]; exact hP
  show W p l e (headSpec (Cond.code yX6_cutUpwards cX6_cutUpwards 2 (some .int) :: lw_gd) rm_X6_cutUpwards).room s m ([.int x0, .int x1] : List Value).toArray below meth c s.heap [] 0 0 (MQ below (va_Qi post (gB D (CW X)) (AX 75 X.1 s.heap.size)) ([.int x0, .int x1] : List Value).toArray s 0 0 (AX 75 X.1 s.heap.size)) _
  suffices hgo : W p l e (headSpec (Cond.code yX6_cutUpwards cX6_cutUpwards 2 (some .int) :: lw_gd) rm_X6_cutUpwards).room s m ([.int x0, .int x1] : List Value).toArray below meth c H locs 0 0 (MQ below (va_Qi post (gB D (CW X)) (AX 75 X.1 s.heap.size)) ([.int x0, .int x1] : List Value).toArray s 0 0 (AX 75 X.1 s.heap.size)) (F0 m 0 ls []) from by rw [hH, hlc] at hgo; exact hgo
  unfold p_X6_cutUpwards at h
  refine lv_iload_n hx hb dX6_cutUpwards_0 rfl (lv_at hl 1 rfl) ?_
  refine lv_iconst (v := 1) hx hb dX6_cutUpwards_1 (by decide) ?_
  refine lv_icmp_ge (tgt := 9) hx hb dX6_cutUpwards_2 (by decide) (fun c_1 => ?_) (fun c_1 => ?_)
  · have h := h.1 c_1
    refine lv_iload_n hx hb dX6_cutUpwards_9 rfl (lv_at hl 0 rfl) ?_
    refine lv_iload_n hx hb dX6_cutUpwards_10 rfl (lv_at hl 1 rfl) ?_
    refine lv_iadd hx hb dX6_cutUpwards_11 ?_
    refine lv_iconst (v := 1) hx hb dX6_cutUpwards_12 (by decide) ?_
    refine lv_isub hx hb dX6_cutUpwards_13 ?_
    refine lv_iload_n hx hb dX6_cutUpwards_14 rfl (lv_at hl 1 rfl) ?_
    obtain ⟨hne, h⟩ := h
    refine lv_idiv hx hb dX6_cutUpwards_15 hne ?_
    exact W.iret (v := (((x0 + x1) - 1) / x1)) hx hb hr (fun t ht hW => ⟨⟨(((x0 + x1) - 1) / x1), S, rfl, h, gB_of ht hP⟩, hS.F ht⟩) hS.2.2 dX6_cutUpwards_16
  · have h := h.2 c_1
    refine lv_iconst (v := 0) hx hb dX6_cutUpwards_5 (by decide) ?_
    refine lv_goto (tgt := 16) hx hb dX6_cutUpwards_6 (by decide) ?_
    exact W.iret (v := 0) hx hb hr (fun t ht hW => ⟨⟨0, S, rfl, h, gB_of ht hP⟩, hS.F ht⟩) hS.2.2 dX6_cutUpwards_16

abbrev rm_X6_binds : Room := { frames := 5, cells := 0, slots := 0, locals := 108 }
def p_X6_binds (S : CS) (x1 : Int32) (post : Int32 → CS → Prop) : Prop := (x1 < 1 → (post (-1) S)) ∧ (¬ (x1 < 1) → ((x1 ≤ 99 → ((S.2.1 < 2) ∧ (p_X5_twigs S S.2.1 (fun r_5 S_4 => (∀ x2_6 : Int32, x2_6 = (x1 * r_5) → ((S_4.2.1 < 2) ∧ (p_X5_pace S_4 S_4.2.1 (fun r_9 S_8 => (p_X6_cutUpwards S_8 x1 r_9 (fun r_11 S_10 => (∀ x3_12 : Int32, x3_12 = ((S_4.1 (mo 0) 4) + r_11) → (((S_10.1 (mo 0) 2) < x2_6 → (post (-2) S_10)) ∧ (¬ ((S_10.1 (mo 0) 2) < x2_6) → ((x3_12 ≤ 9999 → (p_X6_remember S_10  (fun S_15 => (∀ u_17 : Int32, u_17 = ((S_15.1 (mo 0) 2) - x2_6) → (∀ S_18 : CS, S_18 = sti S_15 (mo 0) 2 u_17 → (∀ u_19 : Int32, u_19 = ((S_18.1 (mo 0) 3) + x1) → (∀ S_20 : CS, S_20 = sti S_18 (mo 0) 3 u_19 → (∀ S_21 : CS, S_21 = sti S_20 (mo 0) 4 x3_12 → (post x3_12 S_21))))))))) ∧ (¬ (x3_12 ≤ 9999) → (post (-2) S_10)))))))))))))))) ∧ (¬ (x1 ≤ 99) → (post (-1) S))))
set_option maxHeartbeats 4000000 in
set_option maxRecDepth 100000 in
theorem c_X6_binds (l : Launch) (D : va_G) (X : XE) (hX : Inj 75 X.1) (sz : Nat) (S : CS) (x1 : Int32) (post : Int32 → CS → Prop) (h : p_X6_binds S x1 post) : Met l yX6_binds (Cond.code yX6_binds cX6_binds 4 (some .int) :: lw_gd) rm_X6_binds (gPc D (tyX X) (CW X) (FXc X) (AX 75 X.1 sz) sz S [.ref (X.1 0), .int x1]) (va_Qi post (gB D (CW X)) (AX 75 X.1 sz)) 0 0 (AX 75 X.1 sz) := by
  refine Met.ofW (cc := cX6_binds) (maxL := 4) (ret := (some .int)) (by decide) rfl ?_
  intro p e s m args below meth c s₁ B hml hv
  obtain ⟨rfl, hsz, hP, hK, hF⟩ := hv
  have hx := B.exec
  have hb := B.bytes
  have hr := B.returns
  have hts := atoms_spec (ws := (Cond.code yX6_binds cX6_binds 4 (some .int) :: lw_gd)) B.pre
  have hT : ∀ w ∈ lw_gd, w.before _ s = true := fun w h9 => hts w (List.mem_cons_of_mem _ h9)
  have hown : s.vm.findClass RX6 = some m.cls := findClass_of_methodNamed B.named
  have hlocks := B.notSynchronized
  subst hsz
  have hS : va_S (AX 75 X.1 s.heap.size) s.heap s.heap [] := va_S.rf
  have hl := lv_entry ([.ref (X.1 0), .int x1]) (n := 4) (Nat.le_of_ble_eq_true rfl)
  rw [lg_entry_eq]
  generalize (lg_sl ([.ref (X.1 0), .int x1]) ++ List.replicate (4 - (lg_sl ([.ref (X.1 0), .int x1])).length) Slot.unset).toArray = ls at hl ⊢
  have hl : lv_has ls 4 [(0, .ref (X.1 0)), (1, .int x1)] := hl
  obtain ⟨H, hH⟩ : ∃ H : Heap, H = s.heap := ⟨_, rfl⟩
  obtain ⟨locs, hlc⟩ : ∃ q : List Loc, q = [] := ⟨_, rfl⟩
  have hS : va_S (AX 75 X.1 s.heap.size) s.heap H locs := by rw [hH, hlc]; exact hS
  have hP : va_P D vwCl (CW X S) H := by rw [hH]; exact hP
  show W p l e (headSpec (Cond.code yX6_binds cX6_binds 4 (some .int) :: lw_gd) rm_X6_binds).room s m ([.ref (X.1 0), .int x1] : List Value).toArray below meth c s.heap [] 0 0 (MQ below (va_Qi post (gB D (CW X)) (AX 75 X.1 s.heap.size)) ([.ref (X.1 0), .int x1] : List Value).toArray s 0 0 (AX 75 X.1 s.heap.size)) _
  suffices hgo : W p l e (headSpec (Cond.code yX6_binds cX6_binds 4 (some .int) :: lw_gd) rm_X6_binds).room s m ([.ref (X.1 0), .int x1] : List Value).toArray below meth c H locs 0 0 (MQ below (va_Qi post (gB D (CW X)) (AX 75 X.1 s.heap.size)) ([.ref (X.1 0), .int x1] : List Value).toArray s 0 0 (AX 75 X.1 s.heap.size)) (F0 m 0 ls []) from by rw [hH, hlc] at hgo; exact hgo
  unfold p_X6_binds at h
  refine lv_iload_n hx hb dX6_binds_0 rfl (lv_at hl 1 rfl) ?_
  refine lv_iconst (v := 1) hx hb dX6_binds_1 (by decide) ?_
  refine lv_icmp_lt (tgt := 11) hx hb dX6_binds_2 (by decide) (fun c_1 => ?_) (fun c_1 => ?_)
  · have h := h.1 c_1
    refine lv_iconst (v := (-1)) hx hb dX6_binds_11 (by decide) ?_
    exact W.iret (v := (-1)) hx hb hr (fun t ht hW => ⟨⟨(-1), S, rfl, h, gB_of ht hP⟩, hS.F ht⟩) hS.2.2 dX6_binds_12
  · have h := h.2 c_1
    refine lv_iload_n hx hb dX6_binds_5 rfl (lv_at hl 1 rfl) ?_
    refine lv_bipush (v := 99) hx hb dX6_binds_6 (by decide) ?_
    refine lv_icmp_le (tgt := 13) hx hb dX6_binds_8 (by decide) (fun c_2 => ?_) (fun c_2 => ?_)
    · have h := h.1 c_2
      refine lv_iload_n hx hb dX6_binds_13 rfl (lv_at hl 1 rfl) ?_
      refine lv_aload_n hx hb dX6_binds_14 rfl (lv_at hl 0 rfl) ?_
      obtain ⟨ht_3, h⟩ := h
      refine va_get (D := D) (ci := 6) (v := .ref (X.1 (to S.2.1))) (C := RX6) (T := TX6) (N := 16) hx hb hT inX6 hown hK hP 0 cw_Yard rfl 1 (by decide) (hT _ wf_X6_19) (fun _ h9 => h9) rfl dX6_binds_15 ?_
      refine cVi (As := []) (rest := [.int x1]) hX ⟨hx, hb, hml, hown, hT⟩ (c_X5_twigs l D X hX H.size S S.2.1 (by omega) _ h) (gd_V wl_X6_155 wi_X5_twigs wv_X5_twigs wn_X5 wc_X5_twigs) rfl hd_X5_twigs ⟨rfl, rfl⟩ ⟨Nat.le_of_ble_eq_true rfl, Nat.le_of_ble_eq_true rfl⟩ (va_recv hK hP (ci := 5) (q0 := (to S.2.1)) rfl (cw_Told (t := S.2.1) (by omega))) hK hP hS hF rfl hl.1 rfl (Nat.le_of_ble_eq_true rfl) dX6_binds_18 ⟨Nat.zero_le _, Nat.zero_le _⟩ (fun r_5 S_4 H locs h hP hS => ?_)
      refine lv_imul hx hb dX6_binds_21 ?_
      refine lv_topi (fun x2_6 ex2_6 => ?_)
      have h := h x2_6 ex2_6
      refine lv_istore_n (lv' := [(2, .int x2_6), (0, .ref (X.1 0)), (1, .int x1)]) hx hb dX6_binds_22 rfl hl (by decide) rfl (fun ls hl => ?_)
      refine lv_aload_n hx hb dX6_binds_23 rfl (lv_at hl 1 rfl) ?_
      refine va_get (D := D) (ci := 6) (v := .ref (X.1 (mo 0))) (C := RX6) (T := TX6) (N := 16) hx hb hT inX6 hown hK hP 0 cw_Yard rfl 3 (by decide) (hT _ wf_X6_29) (fun _ h9 => h9) rfl dX6_binds_24 ?_
      refine va_getN (D := D) (ci := 1) (v := .int (S_4.1 (mo 0) 4)) (C := RX1) (T := TX1) (N := 8) hx hb hT inX1 hown hK hP (mo 0) (cw_Moment (m := 0) (by decide)) rfl 4 (by decide) (va_Nw.use rfl hF.1.1.2.2.2.2.1) (fun _ h9 => h9) rfl dX6_binds_27 ?_
      refine lv_iload_n hx hb dX6_binds_30 rfl (lv_at hl 2 rfl) ?_
      refine lv_aload_n hx hb dX6_binds_31 rfl (lv_at hl 1 rfl) ?_
      obtain ⟨ht_7, h⟩ := h
      refine va_get (D := D) (ci := 6) (v := .ref (X.1 (to S_4.2.1))) (C := RX6) (T := TX6) (N := 16) hx hb hT inX6 hown hK hP 0 cw_Yard rfl 1 (by decide) (hT _ wf_X6_19) (fun _ h9 => h9) rfl dX6_binds_32 ?_
      refine cVi (As := []) (rest := [.int x1, .int (S_4.1 (mo 0) 4)]) hX ⟨hx, hb, hml, hown, hT⟩ (c_X5_pace l D X hX H.size S_4 S_4.2.1 (by omega) _ h) (gd_V wl_X6_158 wi_X5_pace wv_X5_pace wn_X5 wc_X5_pace) rfl hd_X5_pace ⟨rfl, rfl⟩ ⟨Nat.le_of_ble_eq_true rfl, Nat.le_of_ble_eq_true rfl⟩ (va_recv hK hP (ci := 5) (q0 := (to S_4.2.1)) rfl (cw_Told (t := S_4.2.1) (by omega))) hK hP hS hF rfl hl.1 rfl (Nat.le_of_ble_eq_true rfl) dX6_binds_35 ⟨Nat.zero_le _, Nat.zero_le _⟩ (fun r_9 S_8 H locs h hP hS => ?_)
      refine cSi (As := [.int x1, .int r_9]) (rest := [.int (S_4.1 (mo 0) 4)]) hX ⟨hx, hb, hml, hown, hT⟩ (c_X6_cutUpwards l D X hX H.size S_8 x1 r_9 _ h) (gd_S wl_X6_161 wt_X6_cutUpwards wn_X6 wc_X6_cutUpwards) hd_X6_cutUpwards ⟨rfl, rfl⟩ ⟨Nat.le_of_ble_eq_true rfl, Nat.le_of_ble_eq_true rfl⟩ hK hP hS hF rfl hl.1 rfl (Nat.le_of_ble_eq_true rfl) dX6_binds_38 ⟨Nat.zero_le _, Nat.zero_le _⟩ (fun r_11 S_10 H locs h hP hS => ?_)
      refine lv_iadd hx hb dX6_binds_41 ?_
      refine lv_topi (fun x3_12 ex3_12 => ?_)
      have h := h x3_12 ex3_12
      refine lv_istore_n (lv' := [(3, .int x3_12), (2, .int x2_6), (0, .ref (X.1 0)), (1, .int x1)]) hx hb dX6_binds_42 rfl hl (by decide) rfl (fun ls hl => ?_)
      refine lv_iload_n hx hb dX6_binds_43 rfl (lv_at hl 1 rfl) ?_
      refine lv_aload_n hx hb dX6_binds_44 rfl (lv_at hl 2 rfl) ?_
      refine va_get (D := D) (ci := 6) (v := .ref (X.1 (mo 0))) (C := RX6) (T := TX6) (N := 16) hx hb hT inX6 hown hK hP 0 cw_Yard rfl 3 (by decide) (hT _ wf_X6_29) (fun _ h9 => h9) rfl dX6_binds_45 ?_
      refine va_getN (D := D) (ci := 1) (v := .int (S_10.1 (mo 0) 2)) (C := RX1) (T := TX1) (N := 8) hx hb hT inX1 hown hK hP (mo 0) (cw_Moment (m := 0) (by decide)) rfl 2 (by decide) (va_Nw.use rfl hF.1.1.2.2.1) (fun _ h9 => h9) rfl dX6_binds_48 ?_
      refine lv_icmp_gt (tgt := 61) hx hb dX6_binds_51 (by decide) (fun c_13 => ?_) (fun c_13 => ?_)
      · have h := h.1 c_13
        refine lv_bipush (v := (-2)) hx hb dX6_binds_61 (by decide) ?_
        exact W.iret (v := (-2)) hx hb hr (fun t ht hW => ⟨⟨(-2), S_10, rfl, h, gB_of ht hP⟩, hS.F ht⟩) hS.2.2 dX6_binds_63
      · have h := h.2 c_13
        refine lv_iload_n hx hb dX6_binds_54 rfl (lv_at hl 0 rfl) ?_
        refine lv_sipush (v := 9999) hx hb dX6_binds_55 (by decide) ?_
        refine lv_icmp_le (tgt := 64) hx hb dX6_binds_58 (by decide) (fun c_14 => ?_) (fun c_14 => ?_)
        · have h := h.1 c_14
          refine lv_aload_n hx hb dX6_binds_64 rfl (lv_at hl 2 rfl) ?_
          refine cVv (As := []) (rest := []) hX ⟨hx, hb, hml, hown, hT⟩ (c_X6_remember l D X hX H.size S_10  _ h) (gd_V wl_X6_146 wi_X6_remember wv_X6_remember wn_X6 wc_X6_remember) rfl hd_X6_remember ⟨rfl, rfl⟩ ⟨Nat.le_of_ble_eq_true rfl, Nat.le_of_ble_eq_true rfl⟩ (va_recv hK hP (ci := 6) (q0 := 0) rfl cw_Yard) hK hP hS hF rfl hl.1 rfl (Nat.le_of_ble_eq_true rfl) dX6_binds_65 ⟨Nat.zero_le _, Nat.zero_le _⟩ (fun S_15 H locs h hP hS => ?_)
          refine lv_aload_n hx hb dX6_binds_68 rfl (lv_at hl 2 rfl) ?_
          refine va_get (D := D) (ci := 6) (v := .ref (X.1 (mo 0))) (C := RX6) (T := TX6) (N := 16) hx hb hT inX6 hown hK hP 0 cw_Yard rfl 3 (by decide) (hT _ wf_X6_29) (fun _ h9 => h9) rfl dX6_binds_69 ?_
          refine lv_dup hx hb dX6_binds_72 rfl ?_
          refine va_getN (D := D) (ci := 1) (v := .int (S_15.1 (mo 0) 2)) (C := RX1) (T := TX1) (N := 8) hx hb hT inX1 hown hK hP (mo 0) (cw_Moment (m := 0) (by decide)) rfl 2 (by decide) (va_Nw.use rfl hF.1.1.2.2.1) (fun _ h9 => h9) rfl dX6_binds_73 ?_
          refine lv_iload_n hx hb dX6_binds_76 rfl (lv_at hl 1 rfl) ?_
          refine lv_isub hx hb dX6_binds_77 ?_
          refine lv_topi (fun u_17 eu_17 => ?_)
          have h := h u_17 eu_17
          refine va_putN (D := D) (ci := 1) (v := .int u_17) (ty := .int) (C := RX1) (T := TX1) (N := 8) hx hb hT inX1 tyX1 tyX1_ok nmX1 hown hK hP (gw_D hX) hS (mo 0) (cw_Moment (m := 0) (by decide)) rfl 2 (by decide) (va_Nw.use rfl hF.1.1.2.2.1) (fun _ h9 => h9) rfl (by decide +kernel) rfl rfl (Nat.le_of_ble_eq_true rfl) dX6_binds_78 (fun H locs hP _ hS => ?_)
          have hP := cw_st (j := 2) (x := u_17) (cce_mo X _ (m := 0) (by decide) _) hP
          obtain ⟨S_18, eS_18⟩ : ∃ z : CS, z = sti S_15 (mo 0) 2 u_17 := ⟨_, rfl⟩
          rw [← eS_18] at hP
          have h := h S_18 eS_18
          refine lv_aload_n hx hb dX6_binds_81 rfl (lv_at hl 2 rfl) ?_
          refine va_get (D := D) (ci := 6) (v := .ref (X.1 (mo 0))) (C := RX6) (T := TX6) (N := 16) hx hb hT inX6 hown hK hP 0 cw_Yard rfl 3 (by decide) (hT _ wf_X6_29) (fun _ h9 => h9) rfl dX6_binds_82 ?_
          refine lv_dup hx hb dX6_binds_85 rfl ?_
          refine va_getN (D := D) (ci := 1) (v := .int (S_18.1 (mo 0) 3)) (C := RX1) (T := TX1) (N := 8) hx hb hT inX1 hown hK hP (mo 0) (cw_Moment (m := 0) (by decide)) rfl 3 (by decide) (va_Nw.use rfl hF.1.1.2.2.2.1) (fun _ h9 => h9) rfl dX6_binds_86 ?_
          refine lv_iload_n hx hb dX6_binds_89 rfl (lv_at hl 3 rfl) ?_
          refine lv_iadd hx hb dX6_binds_90 ?_
          refine lv_topi (fun u_19 eu_19 => ?_)
          have h := h u_19 eu_19
          refine va_putN (D := D) (ci := 1) (v := .int u_19) (ty := .int) (C := RX1) (T := TX1) (N := 8) hx hb hT inX1 tyX1 tyX1_ok nmX1 hown hK hP (gw_D hX) hS (mo 0) (cw_Moment (m := 0) (by decide)) rfl 3 (by decide) (va_Nw.use rfl hF.1.1.2.2.2.1) (fun _ h9 => h9) rfl (by decide +kernel) rfl rfl (Nat.le_of_ble_eq_true rfl) dX6_binds_91 (fun H locs hP _ hS => ?_)
          have hP := cw_st (j := 3) (x := u_19) (cce_mo X _ (m := 0) (by decide) _) hP
          obtain ⟨S_20, eS_20⟩ : ∃ z : CS, z = sti S_18 (mo 0) 3 u_19 := ⟨_, rfl⟩
          rw [← eS_20] at hP
          have h := h S_20 eS_20
          refine lv_aload_n hx hb dX6_binds_94 rfl (lv_at hl 2 rfl) ?_
          refine va_get (D := D) (ci := 6) (v := .ref (X.1 (mo 0))) (C := RX6) (T := TX6) (N := 16) hx hb hT inX6 hown hK hP 0 cw_Yard rfl 3 (by decide) (hT _ wf_X6_29) (fun _ h9 => h9) rfl dX6_binds_95 ?_
          refine lv_iload_n hx hb dX6_binds_98 rfl (lv_at hl 0 rfl) ?_
          refine va_putN (D := D) (ci := 1) (v := .int x3_12) (ty := .int) (C := RX1) (T := TX1) (N := 8) hx hb hT inX1 tyX1 tyX1_ok nmX1 hown hK hP (gw_D hX) hS (mo 0) (cw_Moment (m := 0) (by decide)) rfl 4 (by decide) (va_Nw.use rfl hF.1.1.2.2.2.2.1) (fun _ h9 => h9) rfl (by decide +kernel) rfl rfl (Nat.le_of_ble_eq_true rfl) dX6_binds_99 (fun H locs hP _ hS => ?_)
          have hP := cw_st (j := 4) (x := x3_12) (cce_mo X _ (m := 0) (by decide) _) hP
          obtain ⟨S_21, eS_21⟩ : ∃ z : CS, z = sti S_20 (mo 0) 4 x3_12 := ⟨_, rfl⟩
          rw [← eS_21] at hP
          have h := h S_21 eS_21
          refine lv_iload_n hx hb dX6_binds_102 rfl (lv_at hl 0 rfl) ?_
          exact W.iret (v := x3_12) hx hb hr (fun t ht hW => ⟨⟨x3_12, S_21, rfl, h, gB_of ht hP⟩, hS.F ht⟩) hS.2.2 dX6_binds_103
        · have h := h.2 c_14
          refine lv_bipush (v := (-2)) hx hb dX6_binds_61 (by decide) ?_
          exact W.iret (v := (-2)) hx hb hr (fun t ht hW => ⟨⟨(-2), S_10, rfl, h, gB_of ht hP⟩, hS.F ht⟩) hS.2.2 dX6_binds_63
    · have h := h.2 c_2
      refine lv_iconst (v := (-1)) hx hb dX6_binds_11 (by decide) ?_
      exact W.iret (v := (-1)) hx hb hr (fun t ht hW => ⟨⟨(-1), S, rfl, h, gB_of ht hP⟩, hS.F ht⟩) hS.2.2 dX6_binds_12

abbrev rm_X6_isLate : Room := { frames := 2, cells := 0, slots := 0, locals := 43 }
def p_X6_isLate (S : CS) (x1 : Int32) (post : Int32 → CS → Prop) : Prop := (S.2.1 < 2) ∧ (p_X5_value S S.2.1 2 x1 (fun r_3 S_2 => (((S.1 (mo 0) 4) ≤ r_3 → (post 0 S_2)) ∧ (¬ ((S.1 (mo 0) 4) ≤ r_3) → (post 1 S_2)))))
set_option maxHeartbeats 4000000 in
set_option maxRecDepth 100000 in
theorem c_X6_isLate (l : Launch) (D : va_G) (X : XE) (hX : Inj 75 X.1) (sz : Nat) (S : CS) (x1 : Int32) (post : Int32 → CS → Prop) (h : p_X6_isLate S x1 post) : Met l yX6_isLate (Cond.code yX6_isLate cX6_isLate 2 (some .boolean) :: lw_gd) rm_X6_isLate (gPc D (tyX X) (CW X) (FXc X) (AX 75 X.1 sz) sz S [.ref (X.1 0), .int x1]) (va_Qi post (gB D (CW X)) (AX 75 X.1 sz)) 0 0 (AX 75 X.1 sz) := by
  refine Met.ofW (cc := cX6_isLate) (maxL := 2) (ret := (some .boolean)) (by decide) rfl ?_
  intro p e s m args below meth c s₁ B hml hv
  obtain ⟨rfl, hsz, hP, hK, hF⟩ := hv
  have hx := B.exec
  have hb := B.bytes
  have hr := B.returns
  have hts := atoms_spec (ws := (Cond.code yX6_isLate cX6_isLate 2 (some .boolean) :: lw_gd)) B.pre
  have hT : ∀ w ∈ lw_gd, w.before _ s = true := fun w h9 => hts w (List.mem_cons_of_mem _ h9)
  have hown : s.vm.findClass RX6 = some m.cls := findClass_of_methodNamed B.named
  have hlocks := B.notSynchronized
  subst hsz
  have hS : va_S (AX 75 X.1 s.heap.size) s.heap s.heap [] := va_S.rf
  have hl := lv_entry ([.ref (X.1 0), .int x1]) (n := 2) (Nat.le_of_ble_eq_true rfl)
  rw [lg_entry_eq]
  generalize (lg_sl ([.ref (X.1 0), .int x1]) ++ List.replicate (2 - (lg_sl ([.ref (X.1 0), .int x1])).length) Slot.unset).toArray = ls at hl ⊢
  have hl : lv_has ls 2 [(0, .ref (X.1 0)), (1, .int x1)] := hl
  obtain ⟨H, hH⟩ : ∃ H : Heap, H = s.heap := ⟨_, rfl⟩
  obtain ⟨locs, hlc⟩ : ∃ q : List Loc, q = [] := ⟨_, rfl⟩
  have hS : va_S (AX 75 X.1 s.heap.size) s.heap H locs := by rw [hH, hlc]; exact hS
  have hP : va_P D vwCl (CW X S) H := by rw [hH]; exact hP
  show W p l e (headSpec (Cond.code yX6_isLate cX6_isLate 2 (some .boolean) :: lw_gd) rm_X6_isLate).room s m ([.ref (X.1 0), .int x1] : List Value).toArray below meth c s.heap [] 0 0 (MQ below (va_Qi post (gB D (CW X)) (AX 75 X.1 s.heap.size)) ([.ref (X.1 0), .int x1] : List Value).toArray s 0 0 (AX 75 X.1 s.heap.size)) _
  suffices hgo : W p l e (headSpec (Cond.code yX6_isLate cX6_isLate 2 (some .boolean) :: lw_gd) rm_X6_isLate).room s m ([.ref (X.1 0), .int x1] : List Value).toArray below meth c H locs 0 0 (MQ below (va_Qi post (gB D (CW X)) (AX 75 X.1 s.heap.size)) ([.ref (X.1 0), .int x1] : List Value).toArray s 0 0 (AX 75 X.1 s.heap.size)) (F0 m 0 ls []) from by rw [hH, hlc] at hgo; exact hgo
  unfold p_X6_isLate at h
  refine lv_aload_n hx hb dX6_isLate_0 rfl (lv_at hl 0 rfl) ?_
  refine va_get (D := D) (ci := 6) (v := .ref (X.1 (mo 0))) (C := RX6) (T := TX6) (N := 16) hx hb hT inX6 hown hK hP 0 cw_Yard rfl 3 (by decide) (hT _ wf_X6_29) (fun _ h9 => h9) rfl dX6_isLate_1 ?_
  refine va_getN (D := D) (ci := 1) (v := .int (S.1 (mo 0) 4)) (C := RX1) (T := TX1) (N := 8) hx hb hT inX1 hown hK hP (mo 0) (cw_Moment (m := 0) (by decide)) rfl 4 (by decide) (va_Nw.use rfl hF.1.1.2.2.2.2.1) (fun _ h9 => h9) rfl dX6_isLate_4 ?_
  refine lv_aload_n hx hb dX6_isLate_7 rfl (lv_at hl 0 rfl) ?_
  obtain ⟨ht_1, h⟩ := h
  refine va_get (D := D) (ci := 6) (v := .ref (X.1 (to S.2.1))) (C := RX6) (T := TX6) (N := 16) hx hb hT inX6 hown hK hP 0 cw_Yard rfl 1 (by decide) (hT _ wf_X6_19) (fun _ h9 => h9) rfl dX6_isLate_8 ?_
  refine lv_iconst (v := 2) hx hb dX6_isLate_11 (by decide) ?_
  refine lv_iload_n hx hb dX6_isLate_12 rfl (lv_at hl 1 rfl) ?_
  refine cVi (As := [.int 2, .int x1]) (rest := [.int (S.1 (mo 0) 4)]) hX ⟨hx, hb, hml, hown, hT⟩ (c_X5_value l D X hX H.size S S.2.1 (by omega) 2 x1 _ h) (gd_V wl_X6_95 wi_X5_value wv_X5_value wn_X5 wc_X5_value) rfl hd_X5_value ⟨rfl, rfl⟩ ⟨Nat.le_of_ble_eq_true rfl, Nat.le_of_ble_eq_true rfl⟩ (va_recv hK hP (ci := 5) (q0 := (to S.2.1)) rfl (cw_Told (t := S.2.1) (by omega))) hK hP hS hF rfl hl.1 rfl (Nat.le_of_ble_eq_true rfl) dX6_isLate_13 ⟨Nat.zero_le _, Nat.zero_le _⟩ (fun r_3 S_2 H locs h hP hS => ?_)
  refine lv_icmp_le (tgt := 23) hx hb dX6_isLate_16 (by decide) (fun c_4 => ?_) (fun c_4 => ?_)
  · have h := h.1 c_4
    refine lv_iconst (v := 0) hx hb dX6_isLate_23 (by decide) ?_
    exact W.zret (v := 0) hx hb hr rfl (fun t ht hW => ⟨⟨0, S_2, rfl, h, gB_of ht hP⟩, hS.F ht⟩) hS.2.2 dX6_isLate_24
  · have h := h.2 c_4
    refine lv_iconst (v := 1) hx hb dX6_isLate_19 (by decide) ?_
    refine lv_goto (tgt := 24) hx hb dX6_isLate_20 (by decide) ?_
    exact W.zret (v := 1) hx hb hr rfl (fun t ht hW => ⟨⟨1, S_2, rfl, h, gB_of ht hP⟩, hS.F ht⟩) hS.2.2 dX6_isLate_24
