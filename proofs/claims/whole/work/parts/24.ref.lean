abbrev rm_X7_cutFor : Room := { frames := 3, cells := 0, slots := 0, locals := 66 }
def q_X7_cutFor_96  (K10 : Int32 → Int32 → CS → Prop) (post : Int32 → CS → Prop) (y2 : Int32) (S : CS) : Prop := ∀ x2_9 : Int32, x2_9 = y2 + 1 → (K10 y2 x2_9 S)
def q_X7_cutFor_27  (K10 : Int32 → Int32 → CS → Prop) (post : Int32 → CS → Prop) : Nat → Int32 → Int32 → Int32 → Int32 → CS → Prop
  | 0, _, _, _, _, _ => False
  | n9 + 1, y1, y2, y3, y4, S => ((S.1 2 0) ≤ y4 → (p_X7_lacks S  (fun r_5 S_4 => ((y3 < r_5 → (∀ x2_7 : Int32, x2_7 = y2 + 1 → (K10 y1 x2_7 S_4))) ∧ (¬ (y3 < r_5) → ((y1 = (-9) → (q_X7_cutFor_96 K10 post y2 S_4)) ∧ (¬ (y1 = (-9)) → (p_X7_ones S_4 y2 (fun r_11 S_10 => (p_X7_ones S_10 y1 (fun r_13 S_12 => ((r_13 ≤ r_11 → (∀ x2_15 : Int32, x2_15 = y2 + 1 → (K10 y1 x2_15 S_12))) ∧ (¬ (r_13 ≤ r_11) → (q_X7_cutFor_96 K10 post y2 S_12)))))))))))))) ∧ (¬ ((S.1 2 0) ≤ y4) → ((((y2 >>> (y4 &&& 31)) &&& 1) = 1 → (p_X7_gives S 8 y4 (fun r_20 S_19 => (∀ x3_21 : Int32, x3_21 = (y3 + r_20) → (∀ x4_22 : Int32, x4_22 = y4 + 1 → (q_X7_cutFor_27 K10 post n9 y1 y2 x3_21 x4_22 S_19)))))) ∧ (¬ (((y2 >>> (y4 &&& 31)) &&& 1) = 1) → (∀ x3_17 : Int32, x3_17 = (y3 + 0) → (∀ x4_18 : Int32, x4_18 = y4 + 1 → (q_X7_cutFor_27 K10 post n9 y1 y2 x3_17 x4_18 S))))))
def q_X7_cutFor_10  (post : Int32 → CS → Prop) : Nat → Int32 → Int32 → CS → Prop
  | 0, _, _, _ => False
  | n9 + 1, y1, y2, S => ((1 <<< ((S.1 2 0) &&& 31)) ≤ y2 → (post y1 S)) ∧ (¬ ((1 <<< ((S.1 2 0) &&& 31)) ≤ y2) → (∃ n, q_X7_cutFor_27 (fun y1' y2' S9 => q_X7_cutFor_10 post n9 y1' y2' S9) post n y1 y2 0 0 S))
def p_X7_cutFor (S : CS)  (post : Int32 → CS → Prop) : Prop := ∀ S_1 : CS, S_1 = sti S 0 0 0 → (∃ n, q_X7_cutFor_10 post n (-9) 0 S_1)
set_option maxHeartbeats 4000000 in
set_option maxRecDepth 100000 in
theorem c_X7_cutFor (l : Launch) (D : va_G) (X : XE) (hX : Inj 18 X.1) (sz : Nat) (S : CS)  (post : Int32 → CS → Prop) (h : p_X7_cutFor S  post) : Met l yX7_cutFor (Cond.code yX7_cutFor cX7_cutFor 5 (some .int) :: lw_gd) rm_X7_cutFor (gPc D (tyX X) (RW X) (FXr X) (AX 18 X.1 sz) sz S [.ref (X.1 0)]) (va_Qi post (gB D (RW X)) (AX 18 X.1 sz)) 0 0 (AX 18 X.1 sz) := by
  refine Met.ofW (cc := cX7_cutFor) (maxL := 5) (ret := (some .int)) (by decide) rfl ?_
  intro p e s m args below meth c s₁ B hml hv
  obtain ⟨rfl, hsz, hP, hK, hF⟩ := hv
  have hx := B.exec
  have hb := B.bytes
  have hr := B.returns
  have hts := atoms_spec (ws := (Cond.code yX7_cutFor cX7_cutFor 5 (some .int) :: lw_gd)) B.pre
  have hT : ∀ w ∈ lw_gd, w.before _ s = true := fun w h9 => hts w (List.mem_cons_of_mem _ h9)
  have hown : s.vm.findClass RX7 = some m.cls := findClass_of_methodNamed B.named
  have hlocks := B.notSynchronized
  subst hsz
  have hS : va_S (AX 18 X.1 s.heap.size) s.heap s.heap [] := va_S.rf
  have W96 : ∀ (K10 : Int32 → Int32 → CS → Prop), (∀ (y1 : Int32) (y2 : Int32) (S : CS) (H : Heap) (locs : List Loc) (ls : Array Slot), va_P D vwCl (RW X S) H → va_S (AX 18 X.1 s.heap.size) s.heap H locs → lv_has ls 5 [(0, .ref (X.1 0)), (1, .int y1), (2, .int y2)] → K10 y1 y2 S → W p l e (headSpec (Cond.code yX7_cutFor cX7_cutFor 5 (some .int) :: lw_gd) rm_X7_cutFor).room s m ([.ref (X.1 0)] : List Value).toArray below meth c H locs 0 0 (MQ below (va_Qi post (gB D (RW X)) (AX 18 X.1 s.heap.size)) ([.ref (X.1 0)] : List Value).toArray s 0 0 (AX 18 X.1 s.heap.size)) (F0 m 10 ls [])) → ∀ (y2 : Int32) (S : CS) (H : Heap) (locs : List Loc) (ls : Array Slot), va_P D vwCl (RW X S) H → va_S (AX 18 X.1 s.heap.size) s.heap H locs → lv_has ls 5 [(0, .ref (X.1 0)), (2, .int y2)] → q_X7_cutFor_96 K10 post y2 S → W p l e (headSpec (Cond.code yX7_cutFor cX7_cutFor 5 (some .int) :: lw_gd) rm_X7_cutFor).room s m ([.ref (X.1 0)] : List Value).toArray below meth c H locs 0 0 (MQ below (va_Qi post (gB D (RW X)) (AX 18 X.1 s.heap.size)) ([.ref (X.1 0)] : List Value).toArray s 0 0 (AX 18 X.1 s.heap.size)) (F0 m 96 ls []) := by
    intro K10 hK10 y2 S H locs ls hP hS hl h
    unfold q_X7_cutFor_96 at h
    refine lv_iload_n hx hb dX7_cutFor_96 rfl (lv_at hl 1 rfl) ?_
    refine lv_goto (tgt := 101) hx hb dX7_cutFor_97 (by decide) ?_
    refine lv_istore_n (lv' := [(1, .int y2), (0, .ref (X.1 0)), (2, .int y2)]) hx hb dX7_cutFor_101 rfl hl (by decide) rfl (fun ls hl => ?_)
    obtain ⟨x2_9, ex2_9⟩ : ∃ z : Int32, z = y2 + 1 := ⟨_, rfl⟩
    refine lv_iinc (v := x2_9) (lv' := [(2, .int x2_9), (1, .int y2), (0, .ref (X.1 0))]) hx hb dX7_cutFor_102 hl (k := 2) rfl (by rw [ex2_9]; rfl) (by decide) rfl (fun ls hl => ?_)
    have h := h x2_9 ex2_9
    refine lv_goto (tgt := 10) hx hb dX7_cutFor_105 (by decide) ?_
    exact hK10 y2 x2_9 S H locs ls hP hS (lv_sub hl [2, 1, 0] rfl) h
  have W27 : ∀ (K10 : Int32 → Int32 → CS → Prop), (∀ (y1 : Int32) (y2 : Int32) (S : CS) (H : Heap) (locs : List Loc) (ls : Array Slot), va_P D vwCl (RW X S) H → va_S (AX 18 X.1 s.heap.size) s.heap H locs → lv_has ls 5 [(0, .ref (X.1 0)), (1, .int y1), (2, .int y2)] → K10 y1 y2 S → W p l e (headSpec (Cond.code yX7_cutFor cX7_cutFor 5 (some .int) :: lw_gd) rm_X7_cutFor).room s m ([.ref (X.1 0)] : List Value).toArray below meth c H locs 0 0 (MQ below (va_Qi post (gB D (RW X)) (AX 18 X.1 s.heap.size)) ([.ref (X.1 0)] : List Value).toArray s 0 0 (AX 18 X.1 s.heap.size)) (F0 m 10 ls [])) → ∀ n1 : Nat, ∀ (y1 : Int32) (y2 : Int32) (y3 : Int32) (y4 : Int32) (S : CS) (H : Heap) (locs : List Loc) (ls : Array Slot), va_P D vwCl (RW X S) H → va_S (AX 18 X.1 s.heap.size) s.heap H locs → lv_has ls 5 [(0, .ref (X.1 0)), (1, .int y1), (2, .int y2), (3, .int y3), (4, .int y4)] → q_X7_cutFor_27 K10 post n1 y1 y2 y3 y4 S → W p l e (headSpec (Cond.code yX7_cutFor cX7_cutFor 5 (some .int) :: lw_gd) rm_X7_cutFor).room s m ([.ref (X.1 0)] : List Value).toArray below meth c H locs 0 0 (MQ below (va_Qi post (gB D (RW X)) (AX 18 X.1 s.heap.size)) ([.ref (X.1 0)] : List Value).toArray s 0 0 (AX 18 X.1 s.heap.size)) (F0 m 27 ls []) := by
    intro K10 hK10
    intro n1
    induction n1 with
    | zero => intro y1 y2 y3 y4 S H locs ls hP hS hl h; exact h.elim
    | succ n9 ih =>
      intro y1 y2 y3 y4 S H locs ls hP hS hl h
      rw [q_X7_cutFor_27] at h
      refine lv_iload hx hb dX7_cutFor_27 (lv_at hl 4 rfl) ?_
      refine lv_aload_n hx hb dX7_cutFor_29 rfl (lv_at hl 0 rfl) ?_
      refine va_get (D := D) (ci := 7) (v := .ref (X.1 2)) (C := RX7) (T := TX7) (N := 28) hx hb hT inX7 hown hK hP 0 rw_Model rfl 9 (by decide) (hT _ wf_X7_13) (fun _ h9 => h9) rfl dX7_cutFor_30 ?_
      refine lv_iconst (v := 0) hx hb dX7_cutFor_33 (by decide) ?_
      refine g_iald hx hb hK hP 2 rw_2 rfl (vpc (by decide)) 0 rfl dX7_cutFor_34 ?_
      refine lv_icmp_ge (tgt := 71) hx hb dX7_cutFor_35 (by decide) (fun c_3 => ?_) (fun c_3 => ?_)
      · have h := h.1 c_3
        refine lv_iload_n hx hb dX7_cutFor_71 rfl (lv_at hl 3 rfl) ?_
        refine lv_aload_n hx hb dX7_cutFor_72 rfl (lv_at hl 0 rfl) ?_
        refine rVi (As := []) (rest := [.int y3]) hX ⟨hx, hb, hml, hown, hT⟩ (c_X7_lacks l D X hX H.size S  _ h) (gd_V wl_X7_194 wi_X7_lacks wv_X7_lacks wn_X7 wc_X7_lacks) rfl hd_X7_lacks ⟨rfl, rfl⟩ ⟨Nat.le_of_ble_eq_true rfl, Nat.le_of_ble_eq_true rfl⟩ (va_recv hK hP (ci := 7) (q0 := 0) rfl rw_Model) hK hP hS hF rfl hl.1 rfl (Nat.le_of_ble_eq_true rfl) dX7_cutFor_73 ⟨Nat.zero_le _, Nat.zero_le _⟩ (fun r_5 S_4 H locs h hP hS => ?_)
        refine lv_icmp_lt (tgt := 100) hx hb dX7_cutFor_76 (by decide) (fun c_6 => ?_) (fun c_6 => ?_)
        · have h := h.1 c_6
          refine lv_iload_n hx hb dX7_cutFor_100 rfl (lv_at hl 1 rfl) ?_
          refine lv_istore_n (lv' := [(1, .int y1), (0, .ref (X.1 0)), (2, .int y2), (3, .int y3), (4, .int y4)]) hx hb dX7_cutFor_101 rfl hl (by decide) rfl (fun ls hl => ?_)
          obtain ⟨x2_7, ex2_7⟩ : ∃ z : Int32, z = y2 + 1 := ⟨_, rfl⟩
          refine lv_iinc (v := x2_7) (lv' := [(2, .int x2_7), (1, .int y1), (0, .ref (X.1 0)), (3, .int y3), (4, .int y4)]) hx hb dX7_cutFor_102 hl (k := 2) rfl (by rw [ex2_7]; rfl) (by decide) rfl (fun ls hl => ?_)
          have h := h x2_7 ex2_7
          refine lv_goto (tgt := 10) hx hb dX7_cutFor_105 (by decide) ?_
          exact hK10 y1 x2_7 S_4 H locs ls hP hS (lv_sub hl [2, 1, 0] rfl) h
        · have h := h.2 c_6
          refine lv_iload_n hx hb dX7_cutFor_79 rfl (lv_at hl 1 rfl) ?_
          refine lv_bipush (v := (-9)) hx hb dX7_cutFor_80 (by decide) ?_
          refine lv_icmp_eq (tgt := 96) hx hb dX7_cutFor_82 (by decide) (fun c_8 => ?_) (fun c_8 => ?_)
          · have h := h.1 c_8
            exact W96 K10 hK10 y2 S_4 H locs ls hP hS (lv_sub hl [0, 2] rfl) h
          · have h := h.2 c_8
            refine lv_iload_n hx hb dX7_cutFor_85 rfl (lv_at hl 2 rfl) ?_
            refine rSi (As := [.int y2]) (rest := []) hX ⟨hx, hb, hml, hown, hT⟩ (c_X7_ones l D X hX H.size S_4 y2 _ h) (gd_S wl_X7_197 wt_X7_ones wn_X7 wc_X7_ones) hd_X7_ones ⟨rfl, rfl⟩ ⟨Nat.le_of_ble_eq_true rfl, Nat.le_of_ble_eq_true rfl⟩ hK hP hS hF rfl hl.1 rfl (Nat.le_of_ble_eq_true rfl) dX7_cutFor_86 ⟨Nat.zero_le _, Nat.zero_le _⟩ (fun r_11 S_10 H locs h hP hS => ?_)
            refine lv_iload_n hx hb dX7_cutFor_89 rfl (lv_at hl 1 rfl) ?_
            refine rSi (As := [.int y1]) (rest := [.int r_11]) hX ⟨hx, hb, hml, hown, hT⟩ (c_X7_ones l D X hX H.size S_10 y1 _ h) (gd_S wl_X7_197 wt_X7_ones wn_X7 wc_X7_ones) hd_X7_ones ⟨rfl, rfl⟩ ⟨Nat.le_of_ble_eq_true rfl, Nat.le_of_ble_eq_true rfl⟩ hK hP hS hF rfl hl.1 rfl (Nat.le_of_ble_eq_true rfl) dX7_cutFor_90 ⟨Nat.zero_le _, Nat.zero_le _⟩ (fun r_13 S_12 H locs h hP hS => ?_)
            refine lv_icmp_ge (tgt := 100) hx hb dX7_cutFor_93 (by decide) (fun c_14 => ?_) (fun c_14 => ?_)
            · have h := h.1 c_14
              refine lv_iload_n hx hb dX7_cutFor_100 rfl (lv_at hl 1 rfl) ?_
              refine lv_istore_n (lv' := [(1, .int y1), (0, .ref (X.1 0)), (2, .int y2), (3, .int y3), (4, .int y4)]) hx hb dX7_cutFor_101 rfl hl (by decide) rfl (fun ls hl => ?_)
              obtain ⟨x2_15, ex2_15⟩ : ∃ z : Int32, z = y2 + 1 := ⟨_, rfl⟩
              refine lv_iinc (v := x2_15) (lv' := [(2, .int x2_15), (1, .int y1), (0, .ref (X.1 0)), (3, .int y3), (4, .int y4)]) hx hb dX7_cutFor_102 hl (k := 2) rfl (by rw [ex2_15]; rfl) (by decide) rfl (fun ls hl => ?_)
              have h := h x2_15 ex2_15
              refine lv_goto (tgt := 10) hx hb dX7_cutFor_105 (by decide) ?_
              exact hK10 y1 x2_15 S_12 H locs ls hP hS (lv_sub hl [2, 1, 0] rfl) h
            · have h := h.2 c_14
              exact W96 K10 hK10 y2 S_12 H locs ls hP hS (lv_sub hl [0, 2] rfl) h
      · have h := h.2 c_3
        refine lv_iload_n hx hb dX7_cutFor_38 rfl (lv_at hl 3 rfl) ?_
        refine lv_iload_n hx hb dX7_cutFor_39 rfl (lv_at hl 2 rfl) ?_
        refine lv_iload hx hb dX7_cutFor_40 (lv_at hl 4 rfl) ?_
        refine lv_ishr hx hb dX7_cutFor_42 ?_
        refine lv_iconst (v := 1) hx hb dX7_cutFor_43 (by decide) ?_
        refine lv_iand hx hb dX7_cutFor_44 ?_
        refine lv_iconst (v := 1) hx hb dX7_cutFor_45 (by decide) ?_
        refine lv_icmp_ne (tgt := 62) hx hb dX7_cutFor_46 (by decide) (fun c_16 => ?_) (fun c_16 => ?_)
        · have h := h.2 c_16
          refine lv_iconst (v := 0) hx hb dX7_cutFor_62 (by decide) ?_
          refine lv_iadd hx hb dX7_cutFor_63 ?_
          refine lv_topi (fun x3_17 ex3_17 => ?_)
          have h := h x3_17 ex3_17
          refine lv_istore_n (lv' := [(3, .int x3_17), (0, .ref (X.1 0)), (1, .int y1), (2, .int y2), (4, .int y4)]) hx hb dX7_cutFor_64 rfl hl (by decide) rfl (fun ls hl => ?_)
          obtain ⟨x4_18, ex4_18⟩ : ∃ z : Int32, z = y4 + 1 := ⟨_, rfl⟩
          refine lv_iinc (v := x4_18) (lv' := [(4, .int x4_18), (3, .int x3_17), (0, .ref (X.1 0)), (1, .int y1), (2, .int y2)]) hx hb dX7_cutFor_65 hl (k := 4) rfl (by rw [ex4_18]; rfl) (by decide) rfl (fun ls hl => ?_)
          have h := h x4_18 ex4_18
          refine lv_goto (tgt := 27) hx hb dX7_cutFor_68 (by decide) ?_
          exact ih y1 y2 x3_17 x4_18 S H locs ls hP hS (lv_sub hl [2, 3, 4, 1, 0] rfl) h
        · have h := h.1 c_16
          refine lv_aload_n hx hb dX7_cutFor_49 rfl (lv_at hl 0 rfl) ?_
          refine lv_aload_n hx hb dX7_cutFor_50 rfl (lv_at hl 0 rfl) ?_
          refine va_get (D := D) (ci := 7) (v := .ref (X.1 8)) (C := RX7) (T := TX7) (N := 28) hx hb hT inX7 hown hK hP 0 rw_Model rfl 16 (by decide) (hT _ wf_X7_31) (fun _ h9 => h9) rfl dX7_cutFor_51 ?_
          refine lv_iload hx hb dX7_cutFor_54 (lv_at hl 4 rfl) ?_
          refine rVi (As := [.ref (X.1 8), .int y4]) (rest := [.int y3]) hX ⟨hx, hb, hml, hown, hT⟩ (c_X7_gives l D X hX H.size S 8 (by decide) y4 _ h) (gd_V wl_X7_142 wi_X7_gives wv_X7_gives wn_X7 wc_X7_gives) rfl hd_X7_gives ⟨rfl, rfl⟩ ⟨Nat.le_of_ble_eq_true rfl, Nat.le_of_ble_eq_true rfl⟩ (va_recv hK hP (ci := 7) (q0 := 0) rfl rw_Model) hK hP hS hF rfl hl.1 rfl (Nat.le_of_ble_eq_true rfl) dX7_cutFor_56 ⟨Nat.zero_le _, Nat.zero_le _⟩ (fun r_20 S_19 H locs h hP hS => ?_)
          refine lv_goto (tgt := 63) hx hb dX7_cutFor_59 (by decide) ?_
          refine lv_iadd hx hb dX7_cutFor_63 ?_
          refine lv_topi (fun x3_21 ex3_21 => ?_)
          have h := h x3_21 ex3_21
          refine lv_istore_n (lv' := [(3, .int x3_21), (0, .ref (X.1 0)), (1, .int y1), (2, .int y2), (4, .int y4)]) hx hb dX7_cutFor_64 rfl hl (by decide) rfl (fun ls hl => ?_)
          obtain ⟨x4_22, ex4_22⟩ : ∃ z : Int32, z = y4 + 1 := ⟨_, rfl⟩
          refine lv_iinc (v := x4_22) (lv' := [(4, .int x4_22), (3, .int x3_21), (0, .ref (X.1 0)), (1, .int y1), (2, .int y2)]) hx hb dX7_cutFor_65 hl (k := 4) rfl (by rw [ex4_22]; rfl) (by decide) rfl (fun ls hl => ?_)
          have h := h x4_22 ex4_22
          refine lv_goto (tgt := 27) hx hb dX7_cutFor_68 (by decide) ?_
          exact ih y1 y2 x3_21 x4_22 S_19 H locs ls hP hS (lv_sub hl [2, 3, 4, 1, 0] rfl) h
  have W10 : ∀ n1 : Nat, ∀ (y1 : Int32) (y2 : Int32) (S : CS) (H : Heap) (locs : List Loc) (ls : Array Slot), va_P D vwCl (RW X S) H → va_S (AX 18 X.1 s.heap.size) s.heap H locs → lv_has ls 5 [(0, .ref (X.1 0)), (1, .int y1), (2, .int y2)] → q_X7_cutFor_10 post n1 y1 y2 S → W p l e (headSpec (Cond.code yX7_cutFor cX7_cutFor 5 (some .int) :: lw_gd) rm_X7_cutFor).room s m ([.ref (X.1 0)] : List Value).toArray below meth c H locs 0 0 (MQ below (va_Qi post (gB D (RW X)) (AX 18 X.1 s.heap.size)) ([.ref (X.1 0)] : List Value).toArray s 0 0 (AX 18 X.1 s.heap.size)) (F0 m 10 ls []) := by
    intro n1
    induction n1 with
    | zero => intro y1 y2 S H locs ls hP hS hl h; exact h.elim
    | succ n9 ih =>
      intro y1 y2 S H locs ls hP hS hl h
      rw [q_X7_cutFor_10] at h
      refine lv_iload_n hx hb dX7_cutFor_10 rfl (lv_at hl 2 rfl) ?_
      refine lv_iconst (v := 1) hx hb dX7_cutFor_11 (by decide) ?_
      refine lv_aload_n hx hb dX7_cutFor_12 rfl (lv_at hl 0 rfl) ?_
      refine va_get (D := D) (ci := 7) (v := .ref (X.1 2)) (C := RX7) (T := TX7) (N := 28) hx hb hT inX7 hown hK hP 0 rw_Model rfl 9 (by decide) (hT _ wf_X7_13) (fun _ h9 => h9) rfl dX7_cutFor_13 ?_
      refine lv_iconst (v := 0) hx hb dX7_cutFor_16 (by decide) ?_
      refine g_iald hx hb hK hP 2 rw_2 rfl (vpc (by decide)) 0 rfl dX7_cutFor_17 ?_
      refine lv_ishl hx hb dX7_cutFor_18 ?_
      refine lv_icmp_ge (tgt := 108) hx hb dX7_cutFor_19 (by decide) (fun c_2 => ?_) (fun c_2 => ?_)
      · have h := h.1 c_2
        refine lv_iload_n hx hb dX7_cutFor_108 rfl (lv_at hl 1 rfl) ?_
        exact W.iret (v := y1) hx hb hr (fun t ht hW => ⟨⟨y1, S, rfl, h, gB_of ht hP⟩, hS.F ht⟩) hS.2.2 dX7_cutFor_109
      · have h := h.2 c_2
        refine lv_iconst (v := 0) hx hb dX7_cutFor_22 (by decide) ?_
        refine lv_istore_n (lv' := [(3, .int 0), (0, .ref (X.1 0)), (1, .int y1), (2, .int y2)]) hx hb dX7_cutFor_23 rfl hl (by decide) rfl (fun ls hl => ?_)
        refine lv_iconst (v := 0) hx hb dX7_cutFor_24 (by decide) ?_
        refine lv_istore (lv' := [(4, .int 0), (3, .int 0), (0, .ref (X.1 0)), (1, .int y1), (2, .int y2)]) hx hb dX7_cutFor_25 hl (by decide) rfl (fun ls hl => ?_)
        obtain ⟨n1, h⟩ := h
        exact W27 (fun y1' y2' S9 => q_X7_cutFor_10 post n9 y1' y2' S9) ih n1 y1 y2 0 0 S H locs ls hP hS (lv_sub hl [2, 3, 4, 1, 0] rfl) h
  have hl := lv_entry ([.ref (X.1 0)]) (n := 5) (Nat.le_of_ble_eq_true rfl)
  rw [lg_entry_eq]
  generalize (lg_sl ([.ref (X.1 0)]) ++ List.replicate (5 - (lg_sl ([.ref (X.1 0)])).length) Slot.unset).toArray = ls at hl ⊢
  have hl : lv_has ls 5 [(0, .ref (X.1 0))] := hl
  obtain ⟨H, hH⟩ : ∃ H : Heap, H = s.heap := ⟨_, rfl⟩
  obtain ⟨locs, hlc⟩ : ∃ q : List Loc, q = [] := ⟨_, rfl⟩
  have hS : va_S (AX 18 X.1 s.heap.size) s.heap H locs := by rw [hH, hlc]; exact hS
  have hP : va_P D vwCl (RW X S) H := by rw [hH]; exact hP
  show W p l e (headSpec (Cond.code yX7_cutFor cX7_cutFor 5 (some .int) :: lw_gd) rm_X7_cutFor).room s m ([.ref (X.1 0)] : List Value).toArray below meth c s.heap [] 0 0 (MQ below (va_Qi post (gB D (RW X)) (AX 18 X.1 s.heap.size)) ([.ref (X.1 0)] : List Value).toArray s 0 0 (AX 18 X.1 s.heap.size)) _
  suffices hgo : W p l e (headSpec (Cond.code yX7_cutFor cX7_cutFor 5 (some .int) :: lw_gd) rm_X7_cutFor).room s m ([.ref (X.1 0)] : List Value).toArray below meth c H locs 0 0 (MQ below (va_Qi post (gB D (RW X)) (AX 18 X.1 s.heap.size)) ([.ref (X.1 0)] : List Value).toArray s 0 0 (AX 18 X.1 s.heap.size)) (F0 m 0 ls []) from by rw [hH, hlc] at hgo; exact hgo
  unfold p_X7_cutFor at h
  refine lv_aload_n hx hb dX7_cutFor_0 rfl (lv_at hl 0 rfl) ?_
  refine lv_iconst (v := 0) hx hb dX7_cutFor_1 (by decide) ?_
  refine va_put (D := D) (ci := 7) (v := .int 0) (ty := .int) (C := RX7) (T := TX7) (N := 28) hx hb hT inX7 tyX7 tyX7_ok nmX7 hown hK hP (gw_D hX) hS 0 rw_Model rfl 0 (by decide) (hT _ wf_X7_68) (fun _ h9 => h9) rfl (by decide +kernel) rfl rfl (Nat.le_of_ble_eq_true rfl) dX7_cutFor_2 (fun H locs hP _ hS => ?_)
  have hP := rw_st (j := 0) (x := 0) rfl hP
  obtain ⟨S_1, eS_1⟩ : ∃ z : CS, z = sti S 0 0 0 := ⟨_, rfl⟩
  rw [← eS_1] at hP
  have h := h S_1 eS_1
  refine lv_bipush (v := (-9)) hx hb dX7_cutFor_5 (by decide) ?_
  refine lv_istore_n (lv' := [(1, .int (-9)), (0, .ref (X.1 0))]) hx hb dX7_cutFor_7 rfl hl (by decide) rfl (fun ls hl => ?_)
  refine lv_iconst (v := 0) hx hb dX7_cutFor_8 (by decide) ?_
  refine lv_istore_n (lv' := [(2, .int 0), (1, .int (-9)), (0, .ref (X.1 0))]) hx hb dX7_cutFor_9 rfl hl (by decide) rfl (fun ls hl => ?_)
  obtain ⟨n1, h⟩ := h
  exact W10  n1 (-9) 0 S_1 H locs ls hP hS (lv_sub hl [2, 1, 0] rfl) h

abbrev rm_X7_allBy : Room := { frames := 2, cells := 0, slots := 0, locals := 45 }
def p_X7_allBy (S : CS)  (post : Int32 → CS → Prop) : Prop := ∀ S_1 : CS, S_1 = sti S 0 0 0 → (p_X7_wanted S_1  (fun r_3 S_2 => (p_X7_days S_2 r_3 (fun r_5 S_4 => (post ((S_1.1 8 0) + r_5) S_4)))))
set_option maxHeartbeats 4000000 in
set_option maxRecDepth 100000 in
theorem c_X7_allBy (l : Launch) (D : va_G) (X : XE) (hX : Inj 18 X.1) (sz : Nat) (S : CS)  (post : Int32 → CS → Prop) (h : p_X7_allBy S  post) : Met l yX7_allBy (Cond.code yX7_allBy cX7_allBy 1 (some .int) :: lw_gd) rm_X7_allBy (gPc D (tyX X) (RW X) (FXr X) (AX 18 X.1 sz) sz S [.ref (X.1 0)]) (va_Qi post (gB D (RW X)) (AX 18 X.1 sz)) 0 0 (AX 18 X.1 sz) := by
  refine Met.ofW (cc := cX7_allBy) (maxL := 1) (ret := (some .int)) (by decide) rfl ?_
  intro p e s m args below meth c s₁ B hml hv
  obtain ⟨rfl, hsz, hP, hK, hF⟩ := hv
  have hx := B.exec
  have hb := B.bytes
  have hr := B.returns
  have hts := atoms_spec (ws := (Cond.code yX7_allBy cX7_allBy 1 (some .int) :: lw_gd)) B.pre
  have hT : ∀ w ∈ lw_gd, w.before _ s = true := fun w h9 => hts w (List.mem_cons_of_mem _ h9)
  have hown : s.vm.findClass RX7 = some m.cls := findClass_of_methodNamed B.named
  have hlocks := B.notSynchronized
  subst hsz
  have hS : va_S (AX 18 X.1 s.heap.size) s.heap s.heap [] := va_S.rf
  have hl := lv_entry ([.ref (X.1 0)]) (n := 1) (Nat.le_of_ble_eq_true rfl)
  rw [lg_entry_eq]
  generalize (lg_sl ([.ref (X.1 0)]) ++ List.replicate (1 - (lg_sl ([.ref (X.1 0)])).length) Slot.unset).toArray = ls at hl ⊢
  have hl : lv_has ls 1 [(0, .ref (X.1 0))] := hl
  obtain ⟨H, hH⟩ : ∃ H : Heap, H = s.heap := ⟨_, rfl⟩
  obtain ⟨locs, hlc⟩ : ∃ q : List Loc, q = [] := ⟨_, rfl⟩
  have hS : va_S (AX 18 X.1 s.heap.size) s.heap H locs := by rw [hH, hlc]; exact hS
  have hP : va_P D vwCl (RW X S) H := by rw [hH]; exact hP
  show W p l e (headSpec (Cond.code yX7_allBy cX7_allBy 1 (some .int) :: lw_gd) rm_X7_allBy).room s m ([.ref (X.1 0)] : List Value).toArray below meth c s.heap [] 0 0 (MQ below (va_Qi post (gB D (RW X)) (AX 18 X.1 s.heap.size)) ([.ref (X.1 0)] : List Value).toArray s 0 0 (AX 18 X.1 s.heap.size)) _
  suffices hgo : W p l e (headSpec (Cond.code yX7_allBy cX7_allBy 1 (some .int) :: lw_gd) rm_X7_allBy).room s m ([.ref (X.1 0)] : List Value).toArray below meth c H locs 0 0 (MQ below (va_Qi post (gB D (RW X)) (AX 18 X.1 s.heap.size)) ([.ref (X.1 0)] : List Value).toArray s 0 0 (AX 18 X.1 s.heap.size)) (F0 m 0 ls []) from by rw [hH, hlc] at hgo; exact hgo
  unfold p_X7_allBy at h
  refine lv_aload_n hx hb dX7_allBy_0 rfl (lv_at hl 0 rfl) ?_
  refine lv_iconst (v := 0) hx hb dX7_allBy_1 (by decide) ?_
  refine va_put (D := D) (ci := 7) (v := .int 0) (ty := .int) (C := RX7) (T := TX7) (N := 28) hx hb hT inX7 tyX7 tyX7_ok nmX7 hown hK hP (gw_D hX) hS 0 rw_Model rfl 0 (by decide) (hT _ wf_X7_68) (fun _ h9 => h9) rfl (by decide +kernel) rfl rfl (Nat.le_of_ble_eq_true rfl) dX7_allBy_2 (fun H locs hP _ hS => ?_)
  have hP := rw_st (j := 0) (x := 0) rfl hP
  obtain ⟨S_1, eS_1⟩ : ∃ z : CS, z = sti S 0 0 0 := ⟨_, rfl⟩
  rw [← eS_1] at hP
  have h := h S_1 eS_1
  refine lv_aload_n hx hb dX7_allBy_5 rfl (lv_at hl 0 rfl) ?_
  refine va_get (D := D) (ci := 7) (v := .ref (X.1 8)) (C := RX7) (T := TX7) (N := 28) hx hb hT inX7 hown hK hP 0 rw_Model rfl 16 (by decide) (hT _ wf_X7_31) (fun _ h9 => h9) rfl dX7_allBy_6 ?_
  refine lv_iconst (v := 0) hx hb dX7_allBy_9 (by decide) ?_
  refine g_iald hx hb hK hP 8 rw_8 rfl (vpc (by decide)) 0 rfl dX7_allBy_10 ?_
  refine lv_aload_n hx hb dX7_allBy_11 rfl (lv_at hl 0 rfl) ?_
  refine lv_aload_n hx hb dX7_allBy_12 rfl (lv_at hl 0 rfl) ?_
  refine rVi (As := []) (rest := [.ref (X.1 0), .int (S_1.1 8 0)]) hX ⟨hx, hb, hml, hown, hT⟩ (c_X7_wanted l D X hX H.size S_1  _ h) (gd_V wl_X7_190 wi_X7_wanted wv_X7_wanted wn_X7 wc_X7_wanted) rfl hd_X7_wanted ⟨rfl, rfl⟩ ⟨Nat.le_of_ble_eq_true rfl, Nat.le_of_ble_eq_true rfl⟩ (va_recv hK hP (ci := 7) (q0 := 0) rfl rw_Model) hK hP hS hF rfl hl.1 rfl (Nat.le_of_ble_eq_true rfl) dX7_allBy_13 ⟨Nat.zero_le _, Nat.zero_le _⟩ (fun r_3 S_2 H locs h hP hS => ?_)
  refine rVi (As := [.int r_3]) (rest := [.int (S_1.1 8 0)]) hX ⟨hx, hb, hml, hown, hT⟩ (c_X7_days l D X hX H.size S_2 r_3 _ h) (gd_V wl_X7_162 wi_X7_days wv_X7_days wn_X7 wc_X7_days) rfl hd_X7_days ⟨rfl, rfl⟩ ⟨Nat.le_of_ble_eq_true rfl, Nat.le_of_ble_eq_true rfl⟩ (va_recv hK hP (ci := 7) (q0 := 0) rfl rw_Model) hK hP hS hF rfl hl.1 rfl (Nat.le_of_ble_eq_true rfl) dX7_allBy_16 ⟨Nat.zero_le _, Nat.zero_le _⟩ (fun r_5 S_4 H locs h hP hS => ?_)
  refine lv_iadd hx hb dX7_allBy_19 ?_
  exact W.iret (v := ((S_1.1 8 0) + r_5)) hx hb hr (fun t ht hW => ⟨⟨((S_1.1 8 0) + r_5), S_4, rfl, h, gB_of ht hP⟩, hS.F ht⟩) hS.2.2 dX7_allBy_20

abbrev rm_X7_isWornOut : Room := { frames := 0, cells := 0, slots := 0, locals := 0 }
def q_X7_isWornOut_23 (c0 : Nat) (K4 : Int32 → Int32 → CS → Prop) (post : Int32 → CS → Prop) (y2 : Int32) (S : CS) : Prop := ∀ x2_3 : Int32, x2_3 = y2 + 1 → (K4 1 x2_3 S)
def q_X7_isWornOut_4 (c0 : Nat) (post : Int32 → CS → Prop) : Nat → Int32 → Int32 → CS → Prop
  | 0, _, _, _ => False
  | n9 + 1, y1, y2, S => (8 ≤ y2 → ((narrow .boolean (.int y1) = .int y1) ∧ (post y1 S))) ∧ (¬ (8 ≤ y2) → ((y1 = 0 → (vp_in (7 + y2) 21 ∧ (((S.1 c0 ((7 + y2).toNatClampNeg)) = 0 → (q_X7_isWornOut_23 c0 (fun y1' y2' S9 => q_X7_isWornOut_4 c0 post n9 y1' y2' S9) post y2 S)) ∧ (¬ ((S.1 c0 ((7 + y2).toNatClampNeg)) = 0) → (∀ x2_5 : Int32, x2_5 = y2 + 1 → (q_X7_isWornOut_4 c0 post n9 0 x2_5 S)))))) ∧ (¬ (y1 = 0) → (q_X7_isWornOut_23 c0 (fun y1' y2' S9 => q_X7_isWornOut_4 c0 post n9 y1' y2' S9) post y2 S))))
def p_X7_isWornOut (S : CS) (c0 : Nat) (post : Int32 → CS → Prop) : Prop := ∃ n, q_X7_isWornOut_4 c0 post n 0 0 S
set_option maxHeartbeats 4000000 in
set_option maxRecDepth 100000 in
theorem c_X7_isWornOut (l : Launch) (D : va_G) (X : XE) (hX : Inj 18 X.1) (sz : Nat) (S : CS) (c0 : Nat) (hyp_c0 : c0 = 8 ∨ c0 = 9) (post : Int32 → CS → Prop) (h : p_X7_isWornOut S c0 post) : Met l yX7_isWornOut (Cond.code yX7_isWornOut cX7_isWornOut 3 (some .boolean) :: lw_gd) rm_X7_isWornOut (gPc D (tyX X) (RW X) (FXr X) (AX 18 X.1 sz) sz S [.ref (X.1 c0)]) (va_Qi post (gB D (RW X)) (AX 18 X.1 sz)) 0 0 (AX 18 X.1 sz) := by
  refine Met.ofW (cc := cX7_isWornOut) (maxL := 3) (ret := (some .boolean)) (by decide) rfl ?_
  intro p e s m args below meth c s₁ B hml hv
  obtain ⟨rfl, hsz, hP, hK, hF⟩ := hv
  have hx := B.exec
  have hb := B.bytes
  have hr := B.returns
  have hts := atoms_spec (ws := (Cond.code yX7_isWornOut cX7_isWornOut 3 (some .boolean) :: lw_gd)) B.pre
  have hT : ∀ w ∈ lw_gd, w.before _ s = true := fun w h9 => hts w (List.mem_cons_of_mem _ h9)
  have hown : s.vm.findClass RX7 = some m.cls := findClass_of_methodNamed B.named
  have hlocks := B.notSynchronized
  subst hsz
  have hS : va_S (AX 18 X.1 s.heap.size) s.heap s.heap [] := va_S.rf
  have W23 : ∀ (K4 : Int32 → Int32 → CS → Prop), (∀ (y1 : Int32) (y2 : Int32) (S : CS) (H : Heap) (locs : List Loc) (ls : Array Slot), va_P D vwCl (RW X S) H → va_S (AX 18 X.1 s.heap.size) s.heap H locs → lv_has ls 3 [(0, .ref (X.1 c0)), (1, .int y1), (2, .int y2)] → K4 y1 y2 S → W p l e (headSpec (Cond.code yX7_isWornOut cX7_isWornOut 3 (some .boolean) :: lw_gd) rm_X7_isWornOut).room s m ([.ref (X.1 c0)] : List Value).toArray below meth c H locs 0 0 (MQ below (va_Qi post (gB D (RW X)) (AX 18 X.1 s.heap.size)) ([.ref (X.1 c0)] : List Value).toArray s 0 0 (AX 18 X.1 s.heap.size)) (F0 m 4 ls [])) → ∀ (y2 : Int32) (S : CS) (H : Heap) (locs : List Loc) (ls : Array Slot), va_P D vwCl (RW X S) H → va_S (AX 18 X.1 s.heap.size) s.heap H locs → lv_has ls 3 [(0, .ref (X.1 c0)), (2, .int y2)] → q_X7_isWornOut_23 c0 K4 post y2 S → W p l e (headSpec (Cond.code yX7_isWornOut cX7_isWornOut 3 (some .boolean) :: lw_gd) rm_X7_isWornOut).room s m ([.ref (X.1 c0)] : List Value).toArray below meth c H locs 0 0 (MQ below (va_Qi post (gB D (RW X)) (AX 18 X.1 s.heap.size)) ([.ref (X.1 c0)] : List Value).toArray s 0 0 (AX 18 X.1 s.heap.size)) (F0 m 23 ls []) := by
    intro K4 hK4 y2 S H locs ls hP hS hl h
    unfold q_X7_isWornOut_23 at h
    refine lv_iconst (v := 1) hx hb dX7_isWornOut_23 (by decide) ?_
    refine lv_goto (tgt := 28) hx hb dX7_isWornOut_24 (by decide) ?_
    refine lv_istore_n (lv' := [(1, .int 1), (0, .ref (X.1 c0)), (2, .int y2)]) hx hb dX7_isWornOut_28 rfl hl (by decide) rfl (fun ls hl => ?_)
    obtain ⟨x2_3, ex2_3⟩ : ∃ z : Int32, z = y2 + 1 := ⟨_, rfl⟩
    refine lv_iinc (v := x2_3) (lv' := [(2, .int x2_3), (1, .int 1), (0, .ref (X.1 c0))]) hx hb dX7_isWornOut_29 hl (k := 2) rfl (by rw [ex2_3]; rfl) (by decide) rfl (fun ls hl => ?_)
    have h := h x2_3 ex2_3
    refine lv_goto (tgt := 4) hx hb dX7_isWornOut_32 (by decide) ?_
    exact hK4 1 x2_3 S H locs ls hP hS (lv_sub hl [2, 1, 0] rfl) h
  have W4 : ∀ n1 : Nat, ∀ (y1 : Int32) (y2 : Int32) (S : CS) (H : Heap) (locs : List Loc) (ls : Array Slot), va_P D vwCl (RW X S) H → va_S (AX 18 X.1 s.heap.size) s.heap H locs → lv_has ls 3 [(0, .ref (X.1 c0)), (1, .int y1), (2, .int y2)] → q_X7_isWornOut_4 c0 post n1 y1 y2 S → W p l e (headSpec (Cond.code yX7_isWornOut cX7_isWornOut 3 (some .boolean) :: lw_gd) rm_X7_isWornOut).room s m ([.ref (X.1 c0)] : List Value).toArray below meth c H locs 0 0 (MQ below (va_Qi post (gB D (RW X)) (AX 18 X.1 s.heap.size)) ([.ref (X.1 c0)] : List Value).toArray s 0 0 (AX 18 X.1 s.heap.size)) (F0 m 4 ls []) := by
    intro n1
    induction n1 with
    | zero => intro y1 y2 S H locs ls hP hS hl h; exact h.elim
    | succ n9 ih =>
      intro y1 y2 S H locs ls hP hS hl h
      rw [q_X7_isWornOut_4] at h
      refine lv_iload_n hx hb dX7_isWornOut_4 rfl (lv_at hl 2 rfl) ?_
      refine lv_bipush (v := 8) hx hb dX7_isWornOut_5 (by decide) ?_
      refine lv_icmp_ge (tgt := 35) hx hb dX7_isWornOut_7 (by decide) (fun c_1 => ?_) (fun c_1 => ?_)
      · have h := h.1 c_1
        refine lv_iload_n hx hb dX7_isWornOut_35 rfl (lv_at hl 1 rfl) ?_
        obtain ⟨hn, h⟩ := h
        exact W.zret (v := y1) hx hb hr hn (fun t ht hW => ⟨⟨y1, S, rfl, h, gB_of ht hP⟩, hS.F ht⟩) hS.2.2 dX7_isWornOut_36
      · have h := h.2 c_1
        refine lv_iload_n hx hb dX7_isWornOut_10 rfl (lv_at hl 1 rfl) ?_
        refine lv_if_ne (tgt := 23) hx hb dX7_isWornOut_11 (by decide) (fun c_2 => ?_) (fun c_2 => ?_)
        · have h := h.2 c_2
          exact W23 (fun y1' y2' S9 => q_X7_isWornOut_4 c0 post n9 y1' y2' S9) ih y2 S H locs ls hP hS (lv_sub hl [0, 2] rfl) h
        · have h := h.1 c_2
          refine lv_aload_n hx hb dX7_isWornOut_14 rfl (lv_at hl 0 rfl) ?_
          refine lv_bipush (v := 7) hx hb dX7_isWornOut_15 (by decide) ?_
          refine lv_iload_n hx hb dX7_isWornOut_17 rfl (lv_at hl 2 rfl) ?_
          refine lv_iadd hx hb dX7_isWornOut_18 ?_
          obtain ⟨hi, h⟩ := h
          refine g_iald hx hb hK hP c0 (rw_sw hyp_c0) rfl hi ((7 + y2).toNatClampNeg) rfl dX7_isWornOut_19 ?_
          refine lv_if_ne (tgt := 27) hx hb dX7_isWornOut_20 (by decide) (fun c_4 => ?_) (fun c_4 => ?_)
          · have h := h.2 c_4
            refine lv_iconst (v := 0) hx hb dX7_isWornOut_27 (by decide) ?_
            refine lv_istore_n (lv' := [(1, .int 0), (0, .ref (X.1 c0)), (2, .int y2)]) hx hb dX7_isWornOut_28 rfl hl (by decide) rfl (fun ls hl => ?_)
            obtain ⟨x2_5, ex2_5⟩ : ∃ z : Int32, z = y2 + 1 := ⟨_, rfl⟩
            refine lv_iinc (v := x2_5) (lv' := [(2, .int x2_5), (1, .int 0), (0, .ref (X.1 c0))]) hx hb dX7_isWornOut_29 hl (k := 2) rfl (by rw [ex2_5]; rfl) (by decide) rfl (fun ls hl => ?_)
            have h := h x2_5 ex2_5
            refine lv_goto (tgt := 4) hx hb dX7_isWornOut_32 (by decide) ?_
            exact ih 0 x2_5 S H locs ls hP hS (lv_sub hl [2, 1, 0] rfl) h
          · have h := h.1 c_4
            exact W23 (fun y1' y2' S9 => q_X7_isWornOut_4 c0 post n9 y1' y2' S9) ih y2 S H locs ls hP hS (lv_sub hl [0, 2] rfl) h
  have hl := lv_entry ([.ref (X.1 c0)]) (n := 3) (Nat.le_of_ble_eq_true rfl)
  rw [lg_entry_eq]
  generalize (lg_sl ([.ref (X.1 c0)]) ++ List.replicate (3 - (lg_sl ([.ref (X.1 c0)])).length) Slot.unset).toArray = ls at hl ⊢
  have hl : lv_has ls 3 [(0, .ref (X.1 c0))] := hl
  obtain ⟨H, hH⟩ : ∃ H : Heap, H = s.heap := ⟨_, rfl⟩
  obtain ⟨locs, hlc⟩ : ∃ q : List Loc, q = [] := ⟨_, rfl⟩
  have hS : va_S (AX 18 X.1 s.heap.size) s.heap H locs := by rw [hH, hlc]; exact hS
  have hP : va_P D vwCl (RW X S) H := by rw [hH]; exact hP
  show W p l e (headSpec (Cond.code yX7_isWornOut cX7_isWornOut 3 (some .boolean) :: lw_gd) rm_X7_isWornOut).room s m ([.ref (X.1 c0)] : List Value).toArray below meth c s.heap [] 0 0 (MQ below (va_Qi post (gB D (RW X)) (AX 18 X.1 s.heap.size)) ([.ref (X.1 c0)] : List Value).toArray s 0 0 (AX 18 X.1 s.heap.size)) _
  suffices hgo : W p l e (headSpec (Cond.code yX7_isWornOut cX7_isWornOut 3 (some .boolean) :: lw_gd) rm_X7_isWornOut).room s m ([.ref (X.1 c0)] : List Value).toArray below meth c H locs 0 0 (MQ below (va_Qi post (gB D (RW X)) (AX 18 X.1 s.heap.size)) ([.ref (X.1 c0)] : List Value).toArray s 0 0 (AX 18 X.1 s.heap.size)) (F0 m 0 ls []) from by rw [hH, hlc] at hgo; exact hgo
  unfold p_X7_isWornOut at h
  refine lv_iconst (v := 0) hx hb dX7_isWornOut_0 (by decide) ?_
  refine lv_istore_n (lv' := [(1, .int 0), (0, .ref (X.1 c0))]) hx hb dX7_isWornOut_1 rfl hl (by decide) rfl (fun ls hl => ?_)
  refine lv_iconst (v := 0) hx hb dX7_isWornOut_2 (by decide) ?_
  refine lv_istore_n (lv' := [(2, .int 0), (1, .int 0), (0, .ref (X.1 c0))]) hx hb dX7_isWornOut_3 rfl hl (by decide) rfl (fun ls hl => ?_)
  obtain ⟨n1, h⟩ := h
  exact W4  n1 0 0 S H locs ls hP hS (lv_sub hl [2, 1, 0] rfl) h

abbrev rm_X7_goes : Room := { frames := 2, cells := 0, slots := 0, locals := 43 }
def p_X7_goes (S : CS) (x1 : Int32) (post : CS → Prop) : Prop := p_X7_sweep S 9 (fun S_1 => (∀ u_3 : Int32, u_3 = (((S_1.1 9 6) + x1) - ((S_1.1 9 6) + x1) / 8 * 8) → (∀ S_4 : CS, S_4 = sti S_1 9 6 u_3 → (post S_4))))
set_option maxHeartbeats 4000000 in
set_option maxRecDepth 100000 in
theorem c_X7_goes (l : Launch) (D : va_G) (X : XE) (hX : Inj 18 X.1) (sz : Nat) (S : CS) (x1 : Int32) (post : CS → Prop) (h : p_X7_goes S x1 post) : Met l yX7_goes (Cond.code yX7_goes cX7_goes 2 none :: lw_gd) rm_X7_goes (gPc D (tyX X) (RW X) (FXr X) (AX 18 X.1 sz) sz S [.ref (X.1 0), .int x1]) (va_Qv post (gB D (RW X)) (AX 18 X.1 sz)) 0 0 (AX 18 X.1 sz) := by
  refine Met.ofW (cc := cX7_goes) (maxL := 2) (ret := none) (by decide) rfl ?_
  intro p e s m args below meth c s₁ B hml hv
  obtain ⟨rfl, hsz, hP, hK, hF⟩ := hv
  have hx := B.exec
  have hb := B.bytes
  have hr := B.returns
  have hts := atoms_spec (ws := (Cond.code yX7_goes cX7_goes 2 none :: lw_gd)) B.pre
  have hT : ∀ w ∈ lw_gd, w.before _ s = true := fun w h9 => hts w (List.mem_cons_of_mem _ h9)
  have hown : s.vm.findClass RX7 = some m.cls := findClass_of_methodNamed B.named
  have hlocks := B.notSynchronized
  subst hsz
  have hS : va_S (AX 18 X.1 s.heap.size) s.heap s.heap [] := va_S.rf
  have hl := lv_entry ([.ref (X.1 0), .int x1]) (n := 2) (Nat.le_of_ble_eq_true rfl)
  rw [lg_entry_eq]
  generalize (lg_sl ([.ref (X.1 0), .int x1]) ++ List.replicate (2 - (lg_sl ([.ref (X.1 0), .int x1])).length) Slot.unset).toArray = ls at hl ⊢
  have hl : lv_has ls 2 [(0, .ref (X.1 0)), (1, .int x1)] := hl
  obtain ⟨H, hH⟩ : ∃ H : Heap, H = s.heap := ⟨_, rfl⟩
  obtain ⟨locs, hlc⟩ : ∃ q : List Loc, q = [] := ⟨_, rfl⟩
  have hS : va_S (AX 18 X.1 s.heap.size) s.heap H locs := by rw [hH, hlc]; exact hS
  have hP : va_P D vwCl (RW X S) H := by rw [hH]; exact hP
  show W p l e (headSpec (Cond.code yX7_goes cX7_goes 2 none :: lw_gd) rm_X7_goes).room s m ([.ref (X.1 0), .int x1] : List Value).toArray below meth c s.heap [] 0 0 (MQ below (va_Qv post (gB D (RW X)) (AX 18 X.1 s.heap.size)) ([.ref (X.1 0), .int x1] : List Value).toArray s 0 0 (AX 18 X.1 s.heap.size)) _
  suffices hgo : W p l e (headSpec (Cond.code yX7_goes cX7_goes 2 none :: lw_gd) rm_X7_goes).room s m ([.ref (X.1 0), .int x1] : List Value).toArray below meth c H locs 0 0 (MQ below (va_Qv post (gB D (RW X)) (AX 18 X.1 s.heap.size)) ([.ref (X.1 0), .int x1] : List Value).toArray s 0 0 (AX 18 X.1 s.heap.size)) (F0 m 0 ls []) from by rw [hH, hlc] at hgo; exact hgo
  unfold p_X7_goes at h
  refine lv_aload_n hx hb dX7_goes_0 rfl (lv_at hl 0 rfl) ?_
  refine va_get (D := D) (ci := 7) (v := .ref (X.1 9)) (C := RX7) (T := TX7) (N := 28) hx hb hT inX7 hown hK hP 0 rw_Model rfl 17 (by decide) (hT _ wf_X7_34) (fun _ h9 => h9) rfl dX7_goes_1 ?_
  refine rSv (As := [.ref (X.1 9)]) (rest := []) hX ⟨hx, hb, hml, hown, hT⟩ (c_X7_sweep l D X hX H.size S 9 (by decide) _ h) (gd_S wl_X7_169 wt_X7_sweep wn_X7 wc_X7_sweep) hd_X7_sweep ⟨rfl, rfl⟩ ⟨Nat.le_of_ble_eq_true rfl, Nat.le_of_ble_eq_true rfl⟩ hK hP hS hF rfl hl.1 rfl (Nat.le_of_ble_eq_true rfl) dX7_goes_4 ⟨Nat.zero_le _, Nat.zero_le _⟩ (fun S_1 H locs h hP hS => ?_)
  refine lv_aload_n hx hb dX7_goes_7 rfl (lv_at hl 0 rfl) ?_
  refine va_get (D := D) (ci := 7) (v := .ref (X.1 9)) (C := RX7) (T := TX7) (N := 28) hx hb hT inX7 hown hK hP 0 rw_Model rfl 17 (by decide) (hT _ wf_X7_34) (fun _ h9 => h9) rfl dX7_goes_8 ?_
  refine lv_bipush (v := 6) hx hb dX7_goes_11 (by decide) ?_
  refine lv_aload_n hx hb dX7_goes_13 rfl (lv_at hl 0 rfl) ?_
  refine va_get (D := D) (ci := 7) (v := .ref (X.1 9)) (C := RX7) (T := TX7) (N := 28) hx hb hT inX7 hown hK hP 0 rw_Model rfl 17 (by decide) (hT _ wf_X7_34) (fun _ h9 => h9) rfl dX7_goes_14 ?_
  refine lv_bipush (v := 6) hx hb dX7_goes_17 (by decide) ?_
  refine g_iald hx hb hK hP 9 rw_9 rfl (vpc (by decide)) 6 rfl dX7_goes_19 ?_
  refine lv_iload_n hx hb dX7_goes_20 rfl (lv_at hl 1 rfl) ?_
  refine lv_iadd hx hb dX7_goes_21 ?_
  refine lv_bipush (v := 8) hx hb dX7_goes_22 (by decide) ?_
  refine lv_irem hx hb dX7_goes_24 (by decide) ?_
  refine lv_topi (fun u_3 eu_3 => ?_)
  have h := h u_3 eu_3
  refine g_iast hx hb hK hP (gw_D hX) hS 9 rw_9 rfl (vpc (by decide)) 6 rfl dX7_goes_25 (fun H locs hP hS => ?_)
  have hP := rw_st (j := 6) (x := u_3) rfl hP
  obtain ⟨S_4, eS_4⟩ : ∃ z : CS, z = sti S_1 9 6 u_3 := ⟨_, rfl⟩
  rw [← eS_4] at hP
  have h := h S_4 eS_4
  exact W.vret hx hb hr (fun t ht hW => ⟨⟨S_4, rfl, h, gB_of ht hP⟩, hS.F ht⟩) hS.2.2 dX7_goes_26

abbrev rm_X7_lastsBy : Room := { frames := 3, cells := 0, slots := 0, locals := 64 }
def q_X7_lastsBy_6 (x1 : Int32) (post : Int32 → CS → Prop) : Nat → Int32 → CS → Prop
  | 0, _, _ => False
  | n9 + 1, y2, S => p_X7_isWornOut S 9 (fun r_4 S_3 => ((r_4 = 0 → (p_X7_goes S_3 x1 (fun S_6 => (∀ x2_8 : Int32, x2_8 = y2 + 1 → (q_X7_lastsBy_6 x1 post n9 x2_8 S_6))))) ∧ (¬ (r_4 = 0) → (post y2 S_3))))
def p_X7_lastsBy (S : CS) (x1 : Int32) (post : Int32 → CS → Prop) : Prop := p_X7_asNow S  (fun S_1 => (∃ n, q_X7_lastsBy_6 x1 post n 0 S_1))
set_option maxHeartbeats 4000000 in
set_option maxRecDepth 100000 in
theorem c_X7_lastsBy (l : Launch) (D : va_G) (X : XE) (hX : Inj 18 X.1) (sz : Nat) (S : CS) (x1 : Int32) (post : Int32 → CS → Prop) (h : p_X7_lastsBy S x1 post) : Met l yX7_lastsBy (Cond.code yX7_lastsBy cX7_lastsBy 3 (some .int) :: lw_gd) rm_X7_lastsBy (gPc D (tyX X) (RW X) (FXr X) (AX 18 X.1 sz) sz S [.ref (X.1 0), .int x1]) (va_Qi post (gB D (RW X)) (AX 18 X.1 sz)) 0 0 (AX 18 X.1 sz) := by
  refine Met.ofW (cc := cX7_lastsBy) (maxL := 3) (ret := (some .int)) (by decide) rfl ?_
  intro p e s m args below meth c s₁ B hml hv
  obtain ⟨rfl, hsz, hP, hK, hF⟩ := hv
  have hx := B.exec
  have hb := B.bytes
  have hr := B.returns
  have hts := atoms_spec (ws := (Cond.code yX7_lastsBy cX7_lastsBy 3 (some .int) :: lw_gd)) B.pre
  have hT : ∀ w ∈ lw_gd, w.before _ s = true := fun w h9 => hts w (List.mem_cons_of_mem _ h9)
  have hown : s.vm.findClass RX7 = some m.cls := findClass_of_methodNamed B.named
  have hlocks := B.notSynchronized
  subst hsz
  have hS : va_S (AX 18 X.1 s.heap.size) s.heap s.heap [] := va_S.rf
  have W6 : ∀ n1 : Nat, ∀ (y2 : Int32) (S : CS) (H : Heap) (locs : List Loc) (ls : Array Slot), va_P D vwCl (RW X S) H → va_S (AX 18 X.1 s.heap.size) s.heap H locs → lv_has ls 3 [(0, .ref (X.1 0)), (1, .int x1), (2, .int y2)] → q_X7_lastsBy_6 x1 post n1 y2 S → W p l e (headSpec (Cond.code yX7_lastsBy cX7_lastsBy 3 (some .int) :: lw_gd) rm_X7_lastsBy).room s m ([.ref (X.1 0), .int x1] : List Value).toArray below meth c H locs 0 0 (MQ below (va_Qi post (gB D (RW X)) (AX 18 X.1 s.heap.size)) ([.ref (X.1 0), .int x1] : List Value).toArray s 0 0 (AX 18 X.1 s.heap.size)) (F0 m 6 ls []) := by
    intro n1
    induction n1 with
    | zero => intro y2 S H locs ls hP hS hl h; exact h.elim
    | succ n9 ih =>
      intro y2 S H locs ls hP hS hl h
      rw [q_X7_lastsBy_6] at h
      refine lv_aload_n hx hb dX7_lastsBy_6 rfl (lv_at hl 0 rfl) ?_
      refine va_get (D := D) (ci := 7) (v := .ref (X.1 9)) (C := RX7) (T := TX7) (N := 28) hx hb hT inX7 hown hK hP 0 rw_Model rfl 17 (by decide) (hT _ wf_X7_34) (fun _ h9 => h9) rfl dX7_lastsBy_7 ?_
      refine rSi (As := [.ref (X.1 9)]) (rest := []) hX ⟨hx, hb, hml, hown, hT⟩ (c_X7_isWornOut l D X hX H.size S 9 (by decide) _ h) (gd_S wl_X7_200 wt_X7_isWornOut wn_X7 wc_X7_isWornOut) hd_X7_isWornOut ⟨rfl, rfl⟩ ⟨Nat.le_of_ble_eq_true rfl, Nat.le_of_ble_eq_true rfl⟩ hK hP hS hF rfl hl.1 rfl (Nat.le_of_ble_eq_true rfl) dX7_lastsBy_10 ⟨Nat.zero_le _, Nat.zero_le _⟩ (fun r_4 S_3 H locs h hP hS => ?_)
      refine lv_if_ne (tgt := 27) hx hb dX7_lastsBy_13 (by decide) (fun c_5 => ?_) (fun c_5 => ?_)
      · have h := h.2 c_5
        refine lv_iload_n hx hb dX7_lastsBy_27 rfl (lv_at hl 2 rfl) ?_
        exact W.iret (v := y2) hx hb hr (fun t ht hW => ⟨⟨y2, S_3, rfl, h, gB_of ht hP⟩, hS.F ht⟩) hS.2.2 dX7_lastsBy_28
      · have h := h.1 c_5
        refine lv_aload_n hx hb dX7_lastsBy_16 rfl (lv_at hl 0 rfl) ?_
        refine lv_iload_n hx hb dX7_lastsBy_17 rfl (lv_at hl 1 rfl) ?_
        refine rVv (As := [.int x1]) (rest := []) hX ⟨hx, hb, hml, hown, hT⟩ (c_X7_goes l D X hX H.size S_3 x1 _ h) (gd_V wl_X7_204 wi_X7_goes wv_X7_goes wn_X7 wc_X7_goes) rfl hd_X7_goes ⟨rfl, rfl⟩ ⟨Nat.le_of_ble_eq_true rfl, Nat.le_of_ble_eq_true rfl⟩ (va_recv hK hP (ci := 7) (q0 := 0) rfl rw_Model) hK hP hS hF rfl hl.1 rfl (Nat.le_of_ble_eq_true rfl) dX7_lastsBy_18 ⟨Nat.zero_le _, Nat.zero_le _⟩ (fun S_6 H locs h hP hS => ?_)
        obtain ⟨x2_8, ex2_8⟩ : ∃ z : Int32, z = y2 + 1 := ⟨_, rfl⟩
        refine lv_iinc (v := x2_8) (lv' := [(2, .int x2_8), (0, .ref (X.1 0)), (1, .int x1)]) hx hb dX7_lastsBy_21 hl (k := 2) rfl (by rw [ex2_8]; rfl) (by decide) rfl (fun ls hl => ?_)
        have h := h x2_8 ex2_8
        refine lv_goto (tgt := 6) hx hb dX7_lastsBy_24 (by decide) ?_
        exact ih x2_8 S_6 H locs ls hP hS (lv_sub hl [1, 2, 0] rfl) h
  have hl := lv_entry ([.ref (X.1 0), .int x1]) (n := 3) (Nat.le_of_ble_eq_true rfl)
  rw [lg_entry_eq]
  generalize (lg_sl ([.ref (X.1 0), .int x1]) ++ List.replicate (3 - (lg_sl ([.ref (X.1 0), .int x1])).length) Slot.unset).toArray = ls at hl ⊢
  have hl : lv_has ls 3 [(0, .ref (X.1 0)), (1, .int x1)] := hl
  obtain ⟨H, hH⟩ : ∃ H : Heap, H = s.heap := ⟨_, rfl⟩
  obtain ⟨locs, hlc⟩ : ∃ q : List Loc, q = [] := ⟨_, rfl⟩
  have hS : va_S (AX 18 X.1 s.heap.size) s.heap H locs := by rw [hH, hlc]; exact hS
  have hP : va_P D vwCl (RW X S) H := by rw [hH]; exact hP
  show W p l e (headSpec (Cond.code yX7_lastsBy cX7_lastsBy 3 (some .int) :: lw_gd) rm_X7_lastsBy).room s m ([.ref (X.1 0), .int x1] : List Value).toArray below meth c s.heap [] 0 0 (MQ below (va_Qi post (gB D (RW X)) (AX 18 X.1 s.heap.size)) ([.ref (X.1 0), .int x1] : List Value).toArray s 0 0 (AX 18 X.1 s.heap.size)) _
  suffices hgo : W p l e (headSpec (Cond.code yX7_lastsBy cX7_lastsBy 3 (some .int) :: lw_gd) rm_X7_lastsBy).room s m ([.ref (X.1 0), .int x1] : List Value).toArray below meth c H locs 0 0 (MQ below (va_Qi post (gB D (RW X)) (AX 18 X.1 s.heap.size)) ([.ref (X.1 0), .int x1] : List Value).toArray s 0 0 (AX 18 X.1 s.heap.size)) (F0 m 0 ls []) from by rw [hH, hlc] at hgo; exact hgo
  unfold p_X7_lastsBy at h
  refine lv_aload_n hx hb dX7_lastsBy_0 rfl (lv_at hl 0 rfl) ?_
  refine rVv (As := []) (rest := []) hX ⟨hx, hb, hml, hown, hT⟩ (c_X7_asNow l D X hX H.size S  _ h) (gd_V wl_X7_175 wi_X7_asNow wv_X7_asNow wn_X7 wc_X7_asNow) rfl hd_X7_asNow ⟨rfl, rfl⟩ ⟨Nat.le_of_ble_eq_true rfl, Nat.le_of_ble_eq_true rfl⟩ (va_recv hK hP (ci := 7) (q0 := 0) rfl rw_Model) hK hP hS hF rfl hl.1 rfl (Nat.le_of_ble_eq_true rfl) dX7_lastsBy_1 ⟨Nat.zero_le _, Nat.zero_le _⟩ (fun S_1 H locs h hP hS => ?_)
  refine lv_iconst (v := 0) hx hb dX7_lastsBy_4 (by decide) ?_
  refine lv_istore_n (lv' := [(2, .int 0), (0, .ref (X.1 0)), (1, .int x1)]) hx hb dX7_lastsBy_5 rfl hl (by decide) rfl (fun ls hl => ?_)
  obtain ⟨n1, h⟩ := h
  exact W6  n1 0 S_1 H locs ls hP hS (lv_sub hl [1, 2, 0] rfl) h

abbrev rm_X7_lasts : Room := { frames := 4, cells := 0, slots := 0, locals := 86 }
def p_X7_lasts (S : CS) (x1 : Int32) (post : Int32 → CS → Prop) : Prop := ∀ S_1 : CS, S_1 = sti S 0 0 0 → (p_X7_in S_1 x1 0 7 (fun r_3 S_2 => ((r_3 = 0 → (post (-1) S_2)) ∧ (¬ (r_3 = 0) → (p_X7_lastsBy S_2 x1 (fun r_6 S_5 => (post r_6 S_5)))))))
set_option maxHeartbeats 4000000 in
set_option maxRecDepth 100000 in
theorem c_X7_lasts (l : Launch) (D : va_G) (X : XE) (hX : Inj 18 X.1) (sz : Nat) (S : CS) (x1 : Int32) (post : Int32 → CS → Prop) (h : p_X7_lasts S x1 post) : Met l yX7_lasts (Cond.code yX7_lasts cX7_lasts 2 (some .int) :: lw_gd) rm_X7_lasts (gPc D (tyX X) (RW X) (FXr X) (AX 18 X.1 sz) sz S [.ref (X.1 0), .int x1]) (va_Qi post (gB D (RW X)) (AX 18 X.1 sz)) 0 0 (AX 18 X.1 sz) := by
  refine Met.ofW (cc := cX7_lasts) (maxL := 2) (ret := (some .int)) (by decide) rfl ?_
  intro p e s m args below meth c s₁ B hml hv
  obtain ⟨rfl, hsz, hP, hK, hF⟩ := hv
  have hx := B.exec
  have hb := B.bytes
  have hr := B.returns
  have hts := atoms_spec (ws := (Cond.code yX7_lasts cX7_lasts 2 (some .int) :: lw_gd)) B.pre
  have hT : ∀ w ∈ lw_gd, w.before _ s = true := fun w h9 => hts w (List.mem_cons_of_mem _ h9)
  have hown : s.vm.findClass RX7 = some m.cls := findClass_of_methodNamed B.named
  have hlocks := B.notSynchronized
  subst hsz
  have hS : va_S (AX 18 X.1 s.heap.size) s.heap s.heap [] := va_S.rf
  have hl := lv_entry ([.ref (X.1 0), .int x1]) (n := 2) (Nat.le_of_ble_eq_true rfl)
  rw [lg_entry_eq]
  generalize (lg_sl ([.ref (X.1 0), .int x1]) ++ List.replicate (2 - (lg_sl ([.ref (X.1 0), .int x1])).length) Slot.unset).toArray = ls at hl ⊢
  have hl : lv_has ls 2 [(0, .ref (X.1 0)), (1, .int x1)] := hl
  obtain ⟨H, hH⟩ : ∃ H : Heap, H = s.heap := ⟨_, rfl⟩
  obtain ⟨locs, hlc⟩ : ∃ q : List Loc, q = [] := ⟨_, rfl⟩
  have hS : va_S (AX 18 X.1 s.heap.size) s.heap H locs := by rw [hH, hlc]; exact hS
  have hP : va_P D vwCl (RW X S) H := by rw [hH]; exact hP
  show W p l e (headSpec (Cond.code yX7_lasts cX7_lasts 2 (some .int) :: lw_gd) rm_X7_lasts).room s m ([.ref (X.1 0), .int x1] : List Value).toArray below meth c s.heap [] 0 0 (MQ below (va_Qi post (gB D (RW X)) (AX 18 X.1 s.heap.size)) ([.ref (X.1 0), .int x1] : List Value).toArray s 0 0 (AX 18 X.1 s.heap.size)) _
  suffices hgo : W p l e (headSpec (Cond.code yX7_lasts cX7_lasts 2 (some .int) :: lw_gd) rm_X7_lasts).room s m ([.ref (X.1 0), .int x1] : List Value).toArray below meth c H locs 0 0 (MQ below (va_Qi post (gB D (RW X)) (AX 18 X.1 s.heap.size)) ([.ref (X.1 0), .int x1] : List Value).toArray s 0 0 (AX 18 X.1 s.heap.size)) (F0 m 0 ls []) from by rw [hH, hlc] at hgo; exact hgo
  unfold p_X7_lasts at h
  refine lv_aload_n hx hb dX7_lasts_0 rfl (lv_at hl 0 rfl) ?_
  refine lv_iconst (v := 0) hx hb dX7_lasts_1 (by decide) ?_
  refine va_put (D := D) (ci := 7) (v := .int 0) (ty := .int) (C := RX7) (T := TX7) (N := 28) hx hb hT inX7 tyX7 tyX7_ok nmX7 hown hK hP (gw_D hX) hS 0 rw_Model rfl 0 (by decide) (hT _ wf_X7_68) (fun _ h9 => h9) rfl (by decide +kernel) rfl rfl (Nat.le_of_ble_eq_true rfl) dX7_lasts_2 (fun H locs hP _ hS => ?_)
  have hP := rw_st (j := 0) (x := 0) rfl hP
  obtain ⟨S_1, eS_1⟩ : ∃ z : CS, z = sti S 0 0 0 := ⟨_, rfl⟩
  rw [← eS_1] at hP
  have h := h S_1 eS_1
  refine lv_iload_n hx hb dX7_lasts_5 rfl (lv_at hl 1 rfl) ?_
  refine lv_iconst (v := 0) hx hb dX7_lasts_6 (by decide) ?_
  refine lv_bipush (v := 7) hx hb dX7_lasts_7 (by decide) ?_
  refine rSi (As := [.int x1, .int 0, .int 7]) (rest := []) hX ⟨hx, hb, hml, hown, hT⟩ (c_X7_in l D X hX H.size S_1 x1 0 7 _ h) (gd_S wl_X7_72 wt_X7_in wn_X7 wc_X7_in) hd_X7_in ⟨rfl, rfl⟩ ⟨Nat.le_of_ble_eq_true rfl, Nat.le_of_ble_eq_true rfl⟩ hK hP hS hF rfl hl.1 rfl (Nat.le_of_ble_eq_true rfl) dX7_lasts_9 ⟨Nat.zero_le _, Nat.zero_le _⟩ (fun r_3 S_2 H locs h hP hS => ?_)
  refine lv_if_eq (tgt := 23) hx hb dX7_lasts_12 (by decide) (fun c_4 => ?_) (fun c_4 => ?_)
  · have h := h.1 c_4
    refine lv_iconst (v := (-1)) hx hb dX7_lasts_23 (by decide) ?_
    exact W.iret (v := (-1)) hx hb hr (fun t ht hW => ⟨⟨(-1), S_2, rfl, h, gB_of ht hP⟩, hS.F ht⟩) hS.2.2 dX7_lasts_24
  · have h := h.2 c_4
    refine lv_aload_n hx hb dX7_lasts_15 rfl (lv_at hl 0 rfl) ?_
    refine lv_iload_n hx hb dX7_lasts_16 rfl (lv_at hl 1 rfl) ?_
    refine rVi (As := [.int x1]) (rest := []) hX ⟨hx, hb, hml, hown, hT⟩ (c_X7_lastsBy l D X hX H.size S_2 x1 _ h) (gd_V wl_X7_207 wi_X7_lastsBy wv_X7_lastsBy wn_X7 wc_X7_lastsBy) rfl hd_X7_lastsBy ⟨rfl, rfl⟩ ⟨Nat.le_of_ble_eq_true rfl, Nat.le_of_ble_eq_true rfl⟩ (va_recv hK hP (ci := 7) (q0 := 0) rfl rw_Model) hK hP hS hF rfl hl.1 rfl (Nat.le_of_ble_eq_true rfl) dX7_lasts_17 ⟨Nat.zero_le _, Nat.zero_le _⟩ (fun r_6 S_5 H locs h hP hS => ?_)
    refine lv_goto (tgt := 24) hx hb dX7_lasts_20 (by decide) ?_
    exact W.iret (v := r_6) hx hb hr (fun t ht hW => ⟨⟨r_6, S_5, rfl, h, gB_of ht hP⟩, hS.F ht⟩) hS.2.2 dX7_lasts_24

abbrev rm_X7_latest : Room := { frames := 4, cells := 0, slots := 0, locals := 86 }
def q_X7_latest_9  (post : Int32 → CS → Prop) : Nat → Int32 → Int32 → CS → Prop
  | 0, _, _, _ => False
  | n9 + 1, y1, y2, S => (8 ≤ y2 → (post y1 S)) ∧ (¬ (8 ≤ y2) → (p_X7_lastsBy S y2 (fun r_4 S_3 => (p_X7_lastsBy S_3 y1 (fun r_6 S_5 => ((r_4 ≤ r_6 → (∀ x2_8 : Int32, x2_8 = y2 + 1 → (q_X7_latest_9 post n9 y1 x2_8 S_5))) ∧ (¬ (r_4 ≤ r_6) → (∀ x2_9 : Int32, x2_9 = y2 + 1 → (q_X7_latest_9 post n9 y2 x2_9 S_5)))))))))
def p_X7_latest (S : CS)  (post : Int32 → CS → Prop) : Prop := ∀ S_1 : CS, S_1 = sti S 0 0 0 → (∃ n, q_X7_latest_9 post n 0 1 S_1)
set_option maxHeartbeats 4000000 in
set_option maxRecDepth 100000 in
theorem c_X7_latest (l : Launch) (D : va_G) (X : XE) (hX : Inj 18 X.1) (sz : Nat) (S : CS)  (post : Int32 → CS → Prop) (h : p_X7_latest S  post) : Met l yX7_latest (Cond.code yX7_latest cX7_latest 3 (some .int) :: lw_gd) rm_X7_latest (gPc D (tyX X) (RW X) (FXr X) (AX 18 X.1 sz) sz S [.ref (X.1 0)]) (va_Qi post (gB D (RW X)) (AX 18 X.1 sz)) 0 0 (AX 18 X.1 sz) := by
  refine Met.ofW (cc := cX7_latest) (maxL := 3) (ret := (some .int)) (by decide) rfl ?_
  intro p e s m args below meth c s₁ B hml hv
  obtain ⟨rfl, hsz, hP, hK, hF⟩ := hv
  have hx := B.exec
  have hb := B.bytes
  have hr := B.returns
  have hts := atoms_spec (ws := (Cond.code yX7_latest cX7_latest 3 (some .int) :: lw_gd)) B.pre
  have hT : ∀ w ∈ lw_gd, w.before _ s = true := fun w h9 => hts w (List.mem_cons_of_mem _ h9)
  have hown : s.vm.findClass RX7 = some m.cls := findClass_of_methodNamed B.named
  have hlocks := B.notSynchronized
  subst hsz
  have hS : va_S (AX 18 X.1 s.heap.size) s.heap s.heap [] := va_S.rf
  have W9 : ∀ n1 : Nat, ∀ (y1 : Int32) (y2 : Int32) (S : CS) (H : Heap) (locs : List Loc) (ls : Array Slot), va_P D vwCl (RW X S) H → va_S (AX 18 X.1 s.heap.size) s.heap H locs → lv_has ls 3 [(0, .ref (X.1 0)), (1, .int y1), (2, .int y2)] → q_X7_latest_9 post n1 y1 y2 S → W p l e (headSpec (Cond.code yX7_latest cX7_latest 3 (some .int) :: lw_gd) rm_X7_latest).room s m ([.ref (X.1 0)] : List Value).toArray below meth c H locs 0 0 (MQ below (va_Qi post (gB D (RW X)) (AX 18 X.1 s.heap.size)) ([.ref (X.1 0)] : List Value).toArray s 0 0 (AX 18 X.1 s.heap.size)) (F0 m 9 ls []) := by
    intro n1
    induction n1 with
    | zero => intro y1 y2 S H locs ls hP hS hl h; exact h.elim
    | succ n9 ih =>
      intro y1 y2 S H locs ls hP hS hl h
      rw [q_X7_latest_9] at h
      refine lv_iload_n hx hb dX7_latest_9 rfl (lv_at hl 2 rfl) ?_
      refine lv_bipush (v := 8) hx hb dX7_latest_10 (by decide) ?_
      refine lv_icmp_ge (tgt := 40) hx hb dX7_latest_12 (by decide) (fun c_2 => ?_) (fun c_2 => ?_)
      · have h := h.1 c_2
        refine lv_iload_n hx hb dX7_latest_40 rfl (lv_at hl 1 rfl) ?_
        exact W.iret (v := y1) hx hb hr (fun t ht hW => ⟨⟨y1, S, rfl, h, gB_of ht hP⟩, hS.F ht⟩) hS.2.2 dX7_latest_41
      · have h := h.2 c_2
        refine lv_aload_n hx hb dX7_latest_15 rfl (lv_at hl 0 rfl) ?_
        refine lv_iload_n hx hb dX7_latest_16 rfl (lv_at hl 2 rfl) ?_
        refine rVi (As := [.int y2]) (rest := []) hX ⟨hx, hb, hml, hown, hT⟩ (c_X7_lastsBy l D X hX H.size S y2 _ h) (gd_V wl_X7_207 wi_X7_lastsBy wv_X7_lastsBy wn_X7 wc_X7_lastsBy) rfl hd_X7_lastsBy ⟨rfl, rfl⟩ ⟨Nat.le_of_ble_eq_true rfl, Nat.le_of_ble_eq_true rfl⟩ (va_recv hK hP (ci := 7) (q0 := 0) rfl rw_Model) hK hP hS hF rfl hl.1 rfl (Nat.le_of_ble_eq_true rfl) dX7_latest_17 ⟨Nat.zero_le _, Nat.zero_le _⟩ (fun r_4 S_3 H locs h hP hS => ?_)
        refine lv_aload_n hx hb dX7_latest_20 rfl (lv_at hl 0 rfl) ?_
        refine lv_iload_n hx hb dX7_latest_21 rfl (lv_at hl 1 rfl) ?_
        refine rVi (As := [.int y1]) (rest := [.int r_4]) hX ⟨hx, hb, hml, hown, hT⟩ (c_X7_lastsBy l D X hX H.size S_3 y1 _ h) (gd_V wl_X7_207 wi_X7_lastsBy wv_X7_lastsBy wn_X7 wc_X7_lastsBy) rfl hd_X7_lastsBy ⟨rfl, rfl⟩ ⟨Nat.le_of_ble_eq_true rfl, Nat.le_of_ble_eq_true rfl⟩ (va_recv hK hP (ci := 7) (q0 := 0) rfl rw_Model) hK hP hS hF rfl hl.1 rfl (Nat.le_of_ble_eq_true rfl) dX7_latest_22 ⟨Nat.zero_le _, Nat.zero_le _⟩ (fun r_6 S_5 H locs h hP hS => ?_)
        refine lv_icmp_le (tgt := 32) hx hb dX7_latest_25 (by decide) (fun c_7 => ?_) (fun c_7 => ?_)
        · have h := h.1 c_7
          refine lv_iload_n hx hb dX7_latest_32 rfl (lv_at hl 1 rfl) ?_
          refine lv_istore_n (lv' := [(1, .int y1), (0, .ref (X.1 0)), (2, .int y2)]) hx hb dX7_latest_33 rfl hl (by decide) rfl (fun ls hl => ?_)
          obtain ⟨x2_8, ex2_8⟩ : ∃ z : Int32, z = y2 + 1 := ⟨_, rfl⟩
          refine lv_iinc (v := x2_8) (lv' := [(2, .int x2_8), (1, .int y1), (0, .ref (X.1 0))]) hx hb dX7_latest_34 hl (k := 2) rfl (by rw [ex2_8]; rfl) (by decide) rfl (fun ls hl => ?_)
          have h := h x2_8 ex2_8
          refine lv_goto (tgt := 9) hx hb dX7_latest_37 (by decide) ?_
          exact ih y1 x2_8 S_5 H locs ls hP hS (lv_sub hl [2, 1, 0] rfl) h
        · have h := h.2 c_7
          refine lv_iload_n hx hb dX7_latest_28 rfl (lv_at hl 2 rfl) ?_
          refine lv_goto (tgt := 33) hx hb dX7_latest_29 (by decide) ?_
          refine lv_istore_n (lv' := [(1, .int y2), (0, .ref (X.1 0)), (2, .int y2)]) hx hb dX7_latest_33 rfl hl (by decide) rfl (fun ls hl => ?_)
          obtain ⟨x2_9, ex2_9⟩ : ∃ z : Int32, z = y2 + 1 := ⟨_, rfl⟩
          refine lv_iinc (v := x2_9) (lv' := [(2, .int x2_9), (1, .int y2), (0, .ref (X.1 0))]) hx hb dX7_latest_34 hl (k := 2) rfl (by rw [ex2_9]; rfl) (by decide) rfl (fun ls hl => ?_)
          have h := h x2_9 ex2_9
          refine lv_goto (tgt := 9) hx hb dX7_latest_37 (by decide) ?_
          exact ih y2 x2_9 S_5 H locs ls hP hS (lv_sub hl [2, 1, 0] rfl) h
  have hl := lv_entry ([.ref (X.1 0)]) (n := 3) (Nat.le_of_ble_eq_true rfl)
  rw [lg_entry_eq]
  generalize (lg_sl ([.ref (X.1 0)]) ++ List.replicate (3 - (lg_sl ([.ref (X.1 0)])).length) Slot.unset).toArray = ls at hl ⊢
  have hl : lv_has ls 3 [(0, .ref (X.1 0))] := hl
  obtain ⟨H, hH⟩ : ∃ H : Heap, H = s.heap := ⟨_, rfl⟩
  obtain ⟨locs, hlc⟩ : ∃ q : List Loc, q = [] := ⟨_, rfl⟩
  have hS : va_S (AX 18 X.1 s.heap.size) s.heap H locs := by rw [hH, hlc]; exact hS
  have hP : va_P D vwCl (RW X S) H := by rw [hH]; exact hP
  show W p l e (headSpec (Cond.code yX7_latest cX7_latest 3 (some .int) :: lw_gd) rm_X7_latest).room s m ([.ref (X.1 0)] : List Value).toArray below meth c s.heap [] 0 0 (MQ below (va_Qi post (gB D (RW X)) (AX 18 X.1 s.heap.size)) ([.ref (X.1 0)] : List Value).toArray s 0 0 (AX 18 X.1 s.heap.size)) _
  suffices hgo : W p l e (headSpec (Cond.code yX7_latest cX7_latest 3 (some .int) :: lw_gd) rm_X7_latest).room s m ([.ref (X.1 0)] : List Value).toArray below meth c H locs 0 0 (MQ below (va_Qi post (gB D (RW X)) (AX 18 X.1 s.heap.size)) ([.ref (X.1 0)] : List Value).toArray s 0 0 (AX 18 X.1 s.heap.size)) (F0 m 0 ls []) from by rw [hH, hlc] at hgo; exact hgo
  unfold p_X7_latest at h
  refine lv_aload_n hx hb dX7_latest_0 rfl (lv_at hl 0 rfl) ?_
  refine lv_iconst (v := 0) hx hb dX7_latest_1 (by decide) ?_
  refine va_put (D := D) (ci := 7) (v := .int 0) (ty := .int) (C := RX7) (T := TX7) (N := 28) hx hb hT inX7 tyX7 tyX7_ok nmX7 hown hK hP (gw_D hX) hS 0 rw_Model rfl 0 (by decide) (hT _ wf_X7_68) (fun _ h9 => h9) rfl (by decide +kernel) rfl rfl (Nat.le_of_ble_eq_true rfl) dX7_latest_2 (fun H locs hP _ hS => ?_)
  have hP := rw_st (j := 0) (x := 0) rfl hP
  obtain ⟨S_1, eS_1⟩ : ∃ z : CS, z = sti S 0 0 0 := ⟨_, rfl⟩
  rw [← eS_1] at hP
  have h := h S_1 eS_1
  refine lv_iconst (v := 0) hx hb dX7_latest_5 (by decide) ?_
  refine lv_istore_n (lv' := [(1, .int 0), (0, .ref (X.1 0))]) hx hb dX7_latest_6 rfl hl (by decide) rfl (fun ls hl => ?_)
  refine lv_iconst (v := 1) hx hb dX7_latest_7 (by decide) ?_
  refine lv_istore_n (lv' := [(2, .int 1), (1, .int 0), (0, .ref (X.1 0))]) hx hb dX7_latest_8 rfl hl (by decide) rfl (fun ls hl => ?_)
  obtain ⟨n1, h⟩ := h
  exact W9  n1 0 1 S_1 H locs ls hP hS (lv_sub hl [2, 1, 0] rfl) h

abbrev rm_X7_saw : Room := { frames := 1, cells := 0, slots := 0, locals := 22 }
def p_X7_saw (S : CS) (x1 : Int32) (x2 : Int32) (x3 : Int32) (post : Int32 → CS → Prop) : Prop := ∀ S_1 : CS, S_1 = sti S 0 0 0 → (p_X7_in S_1 x1 0 40 (fun r_3 S_2 => ((r_3 = 0 → (post (-1) S_2)) ∧ (¬ (r_3 = 0) → (p_X7_in S_2 x2 0 7 (fun r_6 S_5 => ((r_6 = 0 → (post (-1) S_5)) ∧ (¬ (r_6 = 0) → (p_X7_in S_5 x3 0 15 (fun r_9 S_8 => ((r_9 = 0 → (post (-1) S_8)) ∧ (¬ (r_9 = 0) → (((S_8.1 0 25) = 5 → (post (-3) S_8)) ∧ (¬ ((S_8.1 0 25) = 5) → (vp_in (S_8.1 0 25) 5 ∧ (∀ S_12 : CS, S_12 = sti S_8 13 ((S_8.1 0 25).toNatClampNeg) x1 → (vp_in (S_12.1 0 25) 5 ∧ (∀ S_13 : CS, S_13 = sti S_12 14 ((S_12.1 0 25).toNatClampNeg) x2 → (vp_in (S_13.1 0 25) 5 ∧ (∀ S_14 : CS, S_14 = sti S_13 15 ((S_13.1 0 25).toNatClampNeg) x3 → (∀ u_15 : Int32, u_15 = ((S_14.1 0 25) + 1) → (∀ S_16 : CS, S_16 = sti S_14 0 25 u_15 → (post (S_16.1 0 25) S_16)))))))))))))))))))))))
set_option maxHeartbeats 4000000 in
set_option maxRecDepth 100000 in
theorem c_X7_saw (l : Launch) (D : va_G) (X : XE) (hX : Inj 18 X.1) (sz : Nat) (S : CS) (x1 : Int32) (x2 : Int32) (x3 : Int32) (post : Int32 → CS → Prop) (h : p_X7_saw S x1 x2 x3 post) : Met l yX7_saw (Cond.code yX7_saw cX7_saw 4 (some .int) :: lw_gd) rm_X7_saw (gPc D (tyX X) (RW X) (FXr X) (AX 18 X.1 sz) sz S [.ref (X.1 0), .int x1, .int x2, .int x3]) (va_Qi post (gB D (RW X)) (AX 18 X.1 sz)) 0 0 (AX 18 X.1 sz) := by
  refine Met.ofW (cc := cX7_saw) (maxL := 4) (ret := (some .int)) (by decide) rfl ?_
  intro p e s m args below meth c s₁ B hml hv
  obtain ⟨rfl, hsz, hP, hK, hF⟩ := hv
  have hx := B.exec
  have hb := B.bytes
  have hr := B.returns
  have hts := atoms_spec (ws := (Cond.code yX7_saw cX7_saw 4 (some .int) :: lw_gd)) B.pre
  have hT : ∀ w ∈ lw_gd, w.before _ s = true := fun w h9 => hts w (List.mem_cons_of_mem _ h9)
  have hown : s.vm.findClass RX7 = some m.cls := findClass_of_methodNamed B.named
  have hlocks := B.notSynchronized
  subst hsz
  have hS : va_S (AX 18 X.1 s.heap.size) s.heap s.heap [] := va_S.rf
  have hl := lv_entry ([.ref (X.1 0), .int x1, .int x2, .int x3]) (n := 4) (Nat.le_of_ble_eq_true rfl)
  rw [lg_entry_eq]
  generalize (lg_sl ([.ref (X.1 0), .int x1, .int x2, .int x3]) ++ List.replicate (4 - (lg_sl ([.ref (X.1 0), .int x1, .int x2, .int x3])).length) Slot.unset).toArray = ls at hl ⊢
  have hl : lv_has ls 4 [(0, .ref (X.1 0)), (1, .int x1), (2, .int x2), (3, .int x3)] := hl
  obtain ⟨H, hH⟩ : ∃ H : Heap, H = s.heap := ⟨_, rfl⟩
  obtain ⟨locs, hlc⟩ : ∃ q : List Loc, q = [] := ⟨_, rfl⟩
  have hS : va_S (AX 18 X.1 s.heap.size) s.heap H locs := by rw [hH, hlc]; exact hS
  have hP : va_P D vwCl (RW X S) H := by rw [hH]; exact hP
  show W p l e (headSpec (Cond.code yX7_saw cX7_saw 4 (some .int) :: lw_gd) rm_X7_saw).room s m ([.ref (X.1 0), .int x1, .int x2, .int x3] : List Value).toArray below meth c s.heap [] 0 0 (MQ below (va_Qi post (gB D (RW X)) (AX 18 X.1 s.heap.size)) ([.ref (X.1 0), .int x1, .int x2, .int x3] : List Value).toArray s 0 0 (AX 18 X.1 s.heap.size)) _
  suffices hgo : W p l e (headSpec (Cond.code yX7_saw cX7_saw 4 (some .int) :: lw_gd) rm_X7_saw).room s m ([.ref (X.1 0), .int x1, .int x2, .int x3] : List Value).toArray below meth c H locs 0 0 (MQ below (va_Qi post (gB D (RW X)) (AX 18 X.1 s.heap.size)) ([.ref (X.1 0), .int x1, .int x2, .int x3] : List Value).toArray s 0 0 (AX 18 X.1 s.heap.size)) (F0 m 0 ls []) from by rw [hH, hlc] at hgo; exact hgo
  unfold p_X7_saw at h
  refine lv_aload_n hx hb dX7_saw_0 rfl (lv_at hl 0 rfl) ?_
  refine lv_iconst (v := 0) hx hb dX7_saw_1 (by decide) ?_
  refine va_put (D := D) (ci := 7) (v := .int 0) (ty := .int) (C := RX7) (T := TX7) (N := 28) hx hb hT inX7 tyX7 tyX7_ok nmX7 hown hK hP (gw_D hX) hS 0 rw_Model rfl 0 (by decide) (hT _ wf_X7_68) (fun _ h9 => h9) rfl (by decide +kernel) rfl rfl (Nat.le_of_ble_eq_true rfl) dX7_saw_2 (fun H locs hP _ hS => ?_)
  have hP := rw_st (j := 0) (x := 0) rfl hP
  obtain ⟨S_1, eS_1⟩ : ∃ z : CS, z = sti S 0 0 0 := ⟨_, rfl⟩
  rw [← eS_1] at hP
  have h := h S_1 eS_1
  refine lv_iload_n hx hb dX7_saw_5 rfl (lv_at hl 1 rfl) ?_
  refine lv_iconst (v := 0) hx hb dX7_saw_6 (by decide) ?_
  refine lv_bipush (v := 40) hx hb dX7_saw_7 (by decide) ?_
  refine rSi (As := [.int x1, .int 0, .int 40]) (rest := []) hX ⟨hx, hb, hml, hown, hT⟩ (c_X7_in l D X hX H.size S_1 x1 0 40 _ h) (gd_S wl_X7_72 wt_X7_in wn_X7 wc_X7_in) hd_X7_in ⟨rfl, rfl⟩ ⟨Nat.le_of_ble_eq_true rfl, Nat.le_of_ble_eq_true rfl⟩ hK hP hS hF rfl hl.1 rfl (Nat.le_of_ble_eq_true rfl) dX7_saw_9 ⟨Nat.zero_le _, Nat.zero_le _⟩ (fun r_3 S_2 H locs h hP hS => ?_)
  refine lv_if_eq (tgt := 35) hx hb dX7_saw_12 (by decide) (fun c_4 => ?_) (fun c_4 => ?_)
  · have h := h.1 c_4
    refine lv_iconst (v := (-1)) hx hb dX7_saw_35 (by decide) ?_
    exact W.iret (v := (-1)) hx hb hr (fun t ht hW => ⟨⟨(-1), S_2, rfl, h, gB_of ht hP⟩, hS.F ht⟩) hS.2.2 dX7_saw_36
  · have h := h.2 c_4
    refine lv_iload_n hx hb dX7_saw_15 rfl (lv_at hl 2 rfl) ?_
    refine lv_iconst (v := 0) hx hb dX7_saw_16 (by decide) ?_
    refine lv_bipush (v := 7) hx hb dX7_saw_17 (by decide) ?_
    refine rSi (As := [.int x2, .int 0, .int 7]) (rest := []) hX ⟨hx, hb, hml, hown, hT⟩ (c_X7_in l D X hX H.size S_2 x2 0 7 _ h) (gd_S wl_X7_72 wt_X7_in wn_X7 wc_X7_in) hd_X7_in ⟨rfl, rfl⟩ ⟨Nat.le_of_ble_eq_true rfl, Nat.le_of_ble_eq_true rfl⟩ hK hP hS hF rfl hl.1 rfl (Nat.le_of_ble_eq_true rfl) dX7_saw_19 ⟨Nat.zero_le _, Nat.zero_le _⟩ (fun r_6 S_5 H locs h hP hS => ?_)
    refine lv_if_eq (tgt := 35) hx hb dX7_saw_22 (by decide) (fun c_7 => ?_) (fun c_7 => ?_)
    · have h := h.1 c_7
      refine lv_iconst (v := (-1)) hx hb dX7_saw_35 (by decide) ?_
      exact W.iret (v := (-1)) hx hb hr (fun t ht hW => ⟨⟨(-1), S_5, rfl, h, gB_of ht hP⟩, hS.F ht⟩) hS.2.2 dX7_saw_36
    · have h := h.2 c_7
      refine lv_iload_n hx hb dX7_saw_25 rfl (lv_at hl 3 rfl) ?_
      refine lv_iconst (v := 0) hx hb dX7_saw_26 (by decide) ?_
      refine lv_bipush (v := 15) hx hb dX7_saw_27 (by decide) ?_
      refine rSi (As := [.int x3, .int 0, .int 15]) (rest := []) hX ⟨hx, hb, hml, hown, hT⟩ (c_X7_in l D X hX H.size S_5 x3 0 15 _ h) (gd_S wl_X7_72 wt_X7_in wn_X7 wc_X7_in) hd_X7_in ⟨rfl, rfl⟩ ⟨Nat.le_of_ble_eq_true rfl, Nat.le_of_ble_eq_true rfl⟩ hK hP hS hF rfl hl.1 rfl (Nat.le_of_ble_eq_true rfl) dX7_saw_29 ⟨Nat.zero_le _, Nat.zero_le _⟩ (fun r_9 S_8 H locs h hP hS => ?_)
      refine lv_if_ne (tgt := 37) hx hb dX7_saw_32 (by decide) (fun c_10 => ?_) (fun c_10 => ?_)
      · have h := h.2 c_10
        refine lv_aload_n hx hb dX7_saw_37 rfl (lv_at hl 0 rfl) ?_
        refine va_get (D := D) (ci := 7) (v := .int (S_8.1 0 25)) (C := RX7) (T := TX7) (N := 28) hx hb hT inX7 hown hK hP 0 rw_Model rfl 25 (by decide) (hT _ wf_X7_130) (fun _ h9 => h9) rfl dX7_saw_38 ?_
        refine lv_iconst (v := 5) hx hb dX7_saw_41 (by decide) ?_
        refine lv_icmp_ne (tgt := 48) hx hb dX7_saw_42 (by decide) (fun c_11 => ?_) (fun c_11 => ?_)
        · have h := h.2 c_11
          refine lv_aload_n hx hb dX7_saw_48 rfl (lv_at hl 0 rfl) ?_
          refine va_get (D := D) (ci := 7) (v := .ref (X.1 13)) (C := RX7) (T := TX7) (N := 28) hx hb hT inX7 hown hK hP 0 rw_Model rfl 22 (by decide) (hT _ wf_X7_47) (fun _ h9 => h9) rfl dX7_saw_49 ?_
          refine lv_aload_n hx hb dX7_saw_52 rfl (lv_at hl 0 rfl) ?_
          refine va_get (D := D) (ci := 7) (v := .int (S_8.1 0 25)) (C := RX7) (T := TX7) (N := 28) hx hb hT inX7 hown hK hP 0 rw_Model rfl 25 (by decide) (hT _ wf_X7_130) (fun _ h9 => h9) rfl dX7_saw_53 ?_
          refine lv_iload_n hx hb dX7_saw_56 rfl (lv_at hl 1 rfl) ?_
          obtain ⟨hi, h⟩ := h
          refine g_iast hx hb hK hP (gw_D hX) hS 13 rw_13 rfl hi ((S_8.1 0 25).toNatClampNeg) rfl dX7_saw_57 (fun H locs hP hS => ?_)
          have hP := rw_st (j := (S_8.1 0 25).toNatClampNeg) (x := x1) rfl hP
          obtain ⟨S_12, eS_12⟩ : ∃ z : CS, z = sti S_8 13 ((S_8.1 0 25).toNatClampNeg) x1 := ⟨_, rfl⟩
          rw [← eS_12] at hP
          have h := h S_12 eS_12
          refine lv_aload_n hx hb dX7_saw_58 rfl (lv_at hl 0 rfl) ?_
          refine va_get (D := D) (ci := 7) (v := .ref (X.1 14)) (C := RX7) (T := TX7) (N := 28) hx hb hT inX7 hown hK hP 0 rw_Model rfl 23 (by decide) (hT _ wf_X7_50) (fun _ h9 => h9) rfl dX7_saw_59 ?_
          refine lv_aload_n hx hb dX7_saw_62 rfl (lv_at hl 0 rfl) ?_
          refine va_get (D := D) (ci := 7) (v := .int (S_12.1 0 25)) (C := RX7) (T := TX7) (N := 28) hx hb hT inX7 hown hK hP 0 rw_Model rfl 25 (by decide) (hT _ wf_X7_130) (fun _ h9 => h9) rfl dX7_saw_63 ?_
          refine lv_iload_n hx hb dX7_saw_66 rfl (lv_at hl 2 rfl) ?_
          obtain ⟨hi, h⟩ := h
          refine g_iast hx hb hK hP (gw_D hX) hS 14 rw_14 rfl hi ((S_12.1 0 25).toNatClampNeg) rfl dX7_saw_67 (fun H locs hP hS => ?_)
          have hP := rw_st (j := (S_12.1 0 25).toNatClampNeg) (x := x2) rfl hP
          obtain ⟨S_13, eS_13⟩ : ∃ z : CS, z = sti S_12 14 ((S_12.1 0 25).toNatClampNeg) x2 := ⟨_, rfl⟩
          rw [← eS_13] at hP
          have h := h S_13 eS_13
          refine lv_aload_n hx hb dX7_saw_68 rfl (lv_at hl 0 rfl) ?_
          refine va_get (D := D) (ci := 7) (v := .ref (X.1 15)) (C := RX7) (T := TX7) (N := 28) hx hb hT inX7 hown hK hP 0 rw_Model rfl 24 (by decide) (hT _ wf_X7_53) (fun _ h9 => h9) rfl dX7_saw_69 ?_
          refine lv_aload_n hx hb dX7_saw_72 rfl (lv_at hl 0 rfl) ?_
          refine va_get (D := D) (ci := 7) (v := .int (S_13.1 0 25)) (C := RX7) (T := TX7) (N := 28) hx hb hT inX7 hown hK hP 0 rw_Model rfl 25 (by decide) (hT _ wf_X7_130) (fun _ h9 => h9) rfl dX7_saw_73 ?_
          refine lv_iload_n hx hb dX7_saw_76 rfl (lv_at hl 3 rfl) ?_
          obtain ⟨hi, h⟩ := h
          refine g_iast hx hb hK hP (gw_D hX) hS 15 rw_15 rfl hi ((S_13.1 0 25).toNatClampNeg) rfl dX7_saw_77 (fun H locs hP hS => ?_)
          have hP := rw_st (j := (S_13.1 0 25).toNatClampNeg) (x := x3) rfl hP
          obtain ⟨S_14, eS_14⟩ : ∃ z : CS, z = sti S_13 15 ((S_13.1 0 25).toNatClampNeg) x3 := ⟨_, rfl⟩
          rw [← eS_14] at hP
          have h := h S_14 eS_14
          refine lv_aload_n hx hb dX7_saw_78 rfl (lv_at hl 0 rfl) ?_
          refine lv_dup hx hb dX7_saw_79 rfl ?_
          refine va_get (D := D) (ci := 7) (v := .int (S_14.1 0 25)) (C := RX7) (T := TX7) (N := 28) hx hb hT inX7 hown hK hP 0 rw_Model rfl 25 (by decide) (hT _ wf_X7_130) (fun _ h9 => h9) rfl dX7_saw_80 ?_
          refine lv_iconst (v := 1) hx hb dX7_saw_83 (by decide) ?_
          refine lv_iadd hx hb dX7_saw_84 ?_
          refine lv_topi (fun u_15 eu_15 => ?_)
          have h := h u_15 eu_15
          refine va_put (D := D) (ci := 7) (v := .int u_15) (ty := .int) (C := RX7) (T := TX7) (N := 28) hx hb hT inX7 tyX7 tyX7_ok nmX7 hown hK hP (gw_D hX) hS 0 rw_Model rfl 25 (by decide) (hT _ wf_X7_130) (fun _ h9 => h9) rfl (by decide +kernel) rfl rfl (Nat.le_of_ble_eq_true rfl) dX7_saw_85 (fun H locs hP _ hS => ?_)
          have hP := rw_st (j := 25) (x := u_15) rfl hP
          obtain ⟨S_16, eS_16⟩ : ∃ z : CS, z = sti S_14 0 25 u_15 := ⟨_, rfl⟩
          rw [← eS_16] at hP
          have h := h S_16 eS_16
          refine lv_aload_n hx hb dX7_saw_88 rfl (lv_at hl 0 rfl) ?_
          refine va_get (D := D) (ci := 7) (v := .int (S_16.1 0 25)) (C := RX7) (T := TX7) (N := 28) hx hb hT inX7 hown hK hP 0 rw_Model rfl 25 (by decide) (hT _ wf_X7_130) (fun _ h9 => h9) rfl dX7_saw_89 ?_
          exact W.iret (v := S_16.1 0 25) hx hb hr (fun t ht hW => ⟨⟨S_16.1 0 25, S_16, rfl, h, gB_of ht hP⟩, hS.F ht⟩) hS.2.2 dX7_saw_92
        · have h := h.1 c_11
          refine lv_bipush (v := (-3)) hx hb dX7_saw_45 (by decide) ?_
          exact W.iret (v := (-3)) hx hb hr (fun t ht hW => ⟨⟨(-3), S_8, rfl, h, gB_of ht hP⟩, hS.F ht⟩) hS.2.2 dX7_saw_47
      · have h := h.1 c_10
        refine lv_iconst (v := (-1)) hx hb dX7_saw_35 (by decide) ?_
        exact W.iret (v := (-1)) hx hb hr (fun t ht hW => ⟨⟨(-1), S_8, rfl, h, gB_of ht hP⟩, hS.F ht⟩) hS.2.2 dX7_saw_36

abbrev rm_X7_forget : Room := { frames := 0, cells := 0, slots := 0, locals := 0 }
def p_X7_forget (S : CS)  (post : Int32 → CS → Prop) : Prop := ∀ S_1 : CS, S_1 = sti S 0 0 0 → (∀ x1_2 : Int32, x1_2 = S_1.1 0 25 → (∀ S_3 : CS, S_3 = sti S_1 0 25 0 → (post x1_2 S_3)))
set_option maxHeartbeats 4000000 in
set_option maxRecDepth 100000 in
theorem c_X7_forget (l : Launch) (D : va_G) (X : XE) (hX : Inj 18 X.1) (sz : Nat) (S : CS)  (post : Int32 → CS → Prop) (h : p_X7_forget S  post) : Met l yX7_forget (Cond.code yX7_forget cX7_forget 2 (some .int) :: lw_gd) rm_X7_forget (gPc D (tyX X) (RW X) (FXr X) (AX 18 X.1 sz) sz S [.ref (X.1 0)]) (va_Qi post (gB D (RW X)) (AX 18 X.1 sz)) 0 0 (AX 18 X.1 sz) := by
  refine Met.ofW (cc := cX7_forget) (maxL := 2) (ret := (some .int)) (by decide) rfl ?_
  intro p e s m args below meth c s₁ B hml hv
  obtain ⟨rfl, hsz, hP, hK, hF⟩ := hv
  have hx := B.exec
  have hb := B.bytes
  have hr := B.returns
  have hts := atoms_spec (ws := (Cond.code yX7_forget cX7_forget 2 (some .int) :: lw_gd)) B.pre
  have hT : ∀ w ∈ lw_gd, w.before _ s = true := fun w h9 => hts w (List.mem_cons_of_mem _ h9)
  have hown : s.vm.findClass RX7 = some m.cls := findClass_of_methodNamed B.named
  have hlocks := B.notSynchronized
  subst hsz
  have hS : va_S (AX 18 X.1 s.heap.size) s.heap s.heap [] := va_S.rf
  have hl := lv_entry ([.ref (X.1 0)]) (n := 2) (Nat.le_of_ble_eq_true rfl)
  rw [lg_entry_eq]
  generalize (lg_sl ([.ref (X.1 0)]) ++ List.replicate (2 - (lg_sl ([.ref (X.1 0)])).length) Slot.unset).toArray = ls at hl ⊢
  have hl : lv_has ls 2 [(0, .ref (X.1 0))] := hl
  obtain ⟨H, hH⟩ : ∃ H : Heap, H = s.heap := ⟨_, rfl⟩
  obtain ⟨locs, hlc⟩ : ∃ q : List Loc, q = [] := ⟨_, rfl⟩
  have hS : va_S (AX 18 X.1 s.heap.size) s.heap H locs := by rw [hH, hlc]; exact hS
  have hP : va_P D vwCl (RW X S) H := by rw [hH]; exact hP
  show W p l e (headSpec (Cond.code yX7_forget cX7_forget 2 (some .int) :: lw_gd) rm_X7_forget).room s m ([.ref (X.1 0)] : List Value).toArray below meth c s.heap [] 0 0 (MQ below (va_Qi post (gB D (RW X)) (AX 18 X.1 s.heap.size)) ([.ref (X.1 0)] : List Value).toArray s 0 0 (AX 18 X.1 s.heap.size)) _
  suffices hgo : W p l e (headSpec (Cond.code yX7_forget cX7_forget 2 (some .int) :: lw_gd) rm_X7_forget).room s m ([.ref (X.1 0)] : List Value).toArray below meth c H locs 0 0 (MQ below (va_Qi post (gB D (RW X)) (AX 18 X.1 s.heap.size)) ([.ref (X.1 0)] : List Value).toArray s 0 0 (AX 18 X.1 s.heap.size)) (F0 m 0 ls []) from by rw [hH, hlc] at hgo; exact hgo
  unfold p_X7_forget at h
  refine lv_aload_n hx hb dX7_forget_0 rfl (lv_at hl 0 rfl) ?_
  refine lv_iconst (v := 0) hx hb dX7_forget_1 (by decide) ?_
  refine va_put (D := D) (ci := 7) (v := .int 0) (ty := .int) (C := RX7) (T := TX7) (N := 28) hx hb hT inX7 tyX7 tyX7_ok nmX7 hown hK hP (gw_D hX) hS 0 rw_Model rfl 0 (by decide) (hT _ wf_X7_68) (fun _ h9 => h9) rfl (by decide +kernel) rfl rfl (Nat.le_of_ble_eq_true rfl) dX7_forget_2 (fun H locs hP _ hS => ?_)
  have hP := rw_st (j := 0) (x := 0) rfl hP
  obtain ⟨S_1, eS_1⟩ : ∃ z : CS, z = sti S 0 0 0 := ⟨_, rfl⟩
  rw [← eS_1] at hP
  have h := h S_1 eS_1
  refine lv_aload_n hx hb dX7_forget_5 rfl (lv_at hl 0 rfl) ?_
  refine va_get (D := D) (ci := 7) (v := .int (S_1.1 0 25)) (C := RX7) (T := TX7) (N := 28) hx hb hT inX7 hown hK hP 0 rw_Model rfl 25 (by decide) (hT _ wf_X7_130) (fun _ h9 => h9) rfl dX7_forget_6 ?_
  refine lv_topi (fun x1_2 ex1_2 => ?_)
  have h := h x1_2 ex1_2
  refine lv_istore_n (lv' := [(1, .int x1_2), (0, .ref (X.1 0))]) hx hb dX7_forget_9 rfl hl (by decide) rfl (fun ls hl => ?_)
  refine lv_aload_n hx hb dX7_forget_10 rfl (lv_at hl 1 rfl) ?_
  refine lv_iconst (v := 0) hx hb dX7_forget_11 (by decide) ?_
  refine va_put (D := D) (ci := 7) (v := .int 0) (ty := .int) (C := RX7) (T := TX7) (N := 28) hx hb hT inX7 tyX7 tyX7_ok nmX7 hown hK hP (gw_D hX) hS 0 rw_Model rfl 25 (by decide) (hT _ wf_X7_130) (fun _ h9 => h9) rfl (by decide +kernel) rfl rfl (Nat.le_of_ble_eq_true rfl) dX7_forget_12 (fun H locs hP _ hS => ?_)
  have hP := rw_st (j := 25) (x := 0) rfl hP
  obtain ⟨S_3, eS_3⟩ : ∃ z : CS, z = sti S_1 0 25 0 := ⟨_, rfl⟩
  rw [← eS_3] at hP
  have h := h S_3 eS_3
  refine lv_iload_n hx hb dX7_forget_15 rfl (lv_at hl 0 rfl) ?_
  exact W.iret (v := x1_2) hx hb hr (fun t ht hW => ⟨⟨x1_2, S_3, rfl, h, gB_of ht hP⟩, hS.F ht⟩) hS.2.2 dX7_forget_16

abbrev rm_X7_which : Room := { frames := 3, cells := 0, slots := 0, locals := 64 }
def q_X7_which_84  (K9 : Int32 → Int32 → CS → Prop) (K24 : Int32 → Int32 → Int32 → Int32 → CS → Prop) (K34 : Int32 → Int32 → Int32 → Int32 → Int32 → CS → Prop) (post : Int32 → CS → Prop) (y1 : Int32) (y2 : Int32) (y4 : Int32) (y5 : Int32) (S : CS) : Prop := ∀ x5_18 : Int32, x5_18 = y5 + 1 → (K34 y1 y2 1 y4 x5_18 S)
def q_X7_which_34  (K9 : Int32 → Int32 → CS → Prop) (K24 : Int32 → Int32 → Int32 → Int32 → CS → Prop) (post : Int32 → CS → Prop) : Nat → Int32 → Int32 → Int32 → Int32 → Int32 → CS → Prop
  | 0, _, _, _, _, _, _ => False
  | n9 + 1, y1, y2, y3, y4, y5, S => ((S.1 0 25) ≤ y5 → (p_X7_goes S y2 (fun S_12 => (∀ x4_14 : Int32, x4_14 = y4 + 1 → (K24 y1 y2 y3 x4_14 S_12))))) ∧ (¬ ((S.1 0 25) ≤ y5) → ((y3 = 0 → (∀ x5_16 : Int32, x5_16 = y5 + 1 → (q_X7_which_34 K9 K24 post n9 y1 y2 0 y4 x5_16 S))) ∧ (¬ (y3 = 0) → (vp_in y5 5 ∧ (((S.1 13 y5.toNatClampNeg) = y4 → (vp_in y5 5 ∧ (vp_in (7 + (S.1 14 y5.toNatClampNeg)) 21 ∧ (vp_in y5 5 ∧ (((S.1 9 ((7 + (S.1 14 y5.toNatClampNeg)).toNatClampNeg)) = (S.1 15 y5.toNatClampNeg) → (q_X7_which_84 K9 K24 (fun y1' y2' y3' y4' y5' S9 => q_X7_which_34 K9 K24 post n9 y1' y2' y3' y4' y5' S9) post y1 y2 y4 y5 S)) ∧ (¬ ((S.1 9 ((7 + (S.1 14 y5.toNatClampNeg)).toNatClampNeg)) = (S.1 15 y5.toNatClampNeg)) → (∀ x5_20 : Int32, x5_20 = y5 + 1 → (q_X7_which_34 K9 K24 post n9 y1 y2 0 y4 x5_20 S)))))))) ∧ (¬ ((S.1 13 y5.toNatClampNeg) = y4) → (q_X7_which_84 K9 K24 (fun y1' y2' y3' y4' y5' S9 => q_X7_which_34 K9 K24 post n9 y1' y2' y3' y4' y5' S9) post y1 y2 y4 y5 S)))))))
def q_X7_which_24  (K9 : Int32 → Int32 → CS → Prop) (post : Int32 → CS → Prop) : Nat → Int32 → Int32 → Int32 → Int32 → CS → Prop
  | 0, _, _, _, _, _ => False
  | n9 + 1, y1, y2, y3, y4, S => (40 < y4 → ((y3 = 0 → (∀ x1_7 : Int32, x1_7 = (y1 ||| 0) → (∀ x2_8 : Int32, x2_8 = y2 + 1 → (K9 x1_7 x2_8 S)))) ∧ (¬ (y3 = 0) → (∀ x1_9 : Int32, x1_9 = (y1 ||| (1 <<< (y2 &&& 31))) → (∀ x2_10 : Int32, x2_10 = y2 + 1 → (K9 x1_9 x2_10 S)))))) ∧ (¬ (40 < y4) → (∃ n, q_X7_which_34 K9 (fun y1' y2' y3' y4' S9 => q_X7_which_24 K9 post n9 y1' y2' y3' y4' S9) post n y1 y2 y3 y4 0 S))
def q_X7_which_9  (post : Int32 → CS → Prop) : Nat → Int32 → Int32 → CS → Prop
  | 0, _, _, _ => False
  | n9 + 1, y1, y2, S => (8 ≤ y2 → (post y1 S)) ∧ (¬ (8 ≤ y2) → (p_X7_asNow S  (fun S_3 => (∃ n, q_X7_which_24 (fun y1' y2' S9 => q_X7_which_9 post n9 y1' y2' S9) post n y1 y2 1 0 S_3))))
def p_X7_which (S : CS)  (post : Int32 → CS → Prop) : Prop := ∀ S_1 : CS, S_1 = sti S 0 0 0 → (∃ n, q_X7_which_9 post n 0 0 S_1)
set_option maxHeartbeats 4000000 in
set_option maxRecDepth 100000 in
theorem c_X7_which (l : Launch) (D : va_G) (X : XE) (hX : Inj 18 X.1) (sz : Nat) (S : CS)  (post : Int32 → CS → Prop) (h : p_X7_which S  post) : Met l yX7_which (Cond.code yX7_which cX7_which 6 (some .int) :: lw_gd) rm_X7_which (gPc D (tyX X) (RW X) (FXr X) (AX 18 X.1 sz) sz S [.ref (X.1 0)]) (va_Qi post (gB D (RW X)) (AX 18 X.1 sz)) 0 0 (AX 18 X.1 sz) := by
  refine Met.ofW (cc := cX7_which) (maxL := 6) (ret := (some .int)) (by decide) rfl ?_
  intro p e s m args below meth c s₁ B hml hv
  obtain ⟨rfl, hsz, hP, hK, hF⟩ := hv
  have hx := B.exec
  have hb := B.bytes
  have hr := B.returns
  have hts := atoms_spec (ws := (Cond.code yX7_which cX7_which 6 (some .int) :: lw_gd)) B.pre
  have hT : ∀ w ∈ lw_gd, w.before _ s = true := fun w h9 => hts w (List.mem_cons_of_mem _ h9)
  have hown : s.vm.findClass RX7 = some m.cls := findClass_of_methodNamed B.named
  have hlocks := B.notSynchronized
  subst hsz
  have hS : va_S (AX 18 X.1 s.heap.size) s.heap s.heap [] := va_S.rf
  have W84 : ∀ (K9 : Int32 → Int32 → CS → Prop), (∀ (y1 : Int32) (y2 : Int32) (S : CS) (H : Heap) (locs : List Loc) (ls : Array Slot), va_P D vwCl (RW X S) H → va_S (AX 18 X.1 s.heap.size) s.heap H locs → lv_has ls 6 [(0, .ref (X.1 0)), (1, .int y1), (2, .int y2)] → K9 y1 y2 S → W p l e (headSpec (Cond.code yX7_which cX7_which 6 (some .int) :: lw_gd) rm_X7_which).room s m ([.ref (X.1 0)] : List Value).toArray below meth c H locs 0 0 (MQ below (va_Qi post (gB D (RW X)) (AX 18 X.1 s.heap.size)) ([.ref (X.1 0)] : List Value).toArray s 0 0 (AX 18 X.1 s.heap.size)) (F0 m 9 ls [])) → ∀ (K24 : Int32 → Int32 → Int32 → Int32 → CS → Prop), (∀ (y1 : Int32) (y2 : Int32) (y3 : Int32) (y4 : Int32) (S : CS) (H : Heap) (locs : List Loc) (ls : Array Slot), va_P D vwCl (RW X S) H → va_S (AX 18 X.1 s.heap.size) s.heap H locs → lv_has ls 6 [(0, .ref (X.1 0)), (1, .int y1), (2, .int y2), (3, .int y3), (4, .int y4)] → K24 y1 y2 y3 y4 S → W p l e (headSpec (Cond.code yX7_which cX7_which 6 (some .int) :: lw_gd) rm_X7_which).room s m ([.ref (X.1 0)] : List Value).toArray below meth c H locs 0 0 (MQ below (va_Qi post (gB D (RW X)) (AX 18 X.1 s.heap.size)) ([.ref (X.1 0)] : List Value).toArray s 0 0 (AX 18 X.1 s.heap.size)) (F0 m 24 ls [])) → ∀ (K34 : Int32 → Int32 → Int32 → Int32 → Int32 → CS → Prop), (∀ (y1 : Int32) (y2 : Int32) (y3 : Int32) (y4 : Int32) (y5 : Int32) (S : CS) (H : Heap) (locs : List Loc) (ls : Array Slot), va_P D vwCl (RW X S) H → va_S (AX 18 X.1 s.heap.size) s.heap H locs → lv_has ls 6 [(0, .ref (X.1 0)), (1, .int y1), (2, .int y2), (3, .int y3), (4, .int y4), (5, .int y5)] → K34 y1 y2 y3 y4 y5 S → W p l e (headSpec (Cond.code yX7_which cX7_which 6 (some .int) :: lw_gd) rm_X7_which).room s m ([.ref (X.1 0)] : List Value).toArray below meth c H locs 0 0 (MQ below (va_Qi post (gB D (RW X)) (AX 18 X.1 s.heap.size)) ([.ref (X.1 0)] : List Value).toArray s 0 0 (AX 18 X.1 s.heap.size)) (F0 m 34 ls [])) → ∀ (y1 : Int32) (y2 : Int32) (y4 : Int32) (y5 : Int32) (S : CS) (H : Heap) (locs : List Loc) (ls : Array Slot), va_P D vwCl (RW X S) H → va_S (AX 18 X.1 s.heap.size) s.heap H locs → lv_has ls 6 [(0, .ref (X.1 0)), (1, .int y1), (2, .int y2), (4, .int y4), (5, .int y5)] → q_X7_which_84 K9 K24 K34 post y1 y2 y4 y5 S → W p l e (headSpec (Cond.code yX7_which cX7_which 6 (some .int) :: lw_gd) rm_X7_which).room s m ([.ref (X.1 0)] : List Value).toArray below meth c H locs 0 0 (MQ below (va_Qi post (gB D (RW X)) (AX 18 X.1 s.heap.size)) ([.ref (X.1 0)] : List Value).toArray s 0 0 (AX 18 X.1 s.heap.size)) (F0 m 84 ls []) := by
    intro K9 hK9 K24 hK24 K34 hK34 y1 y2 y4 y5 S H locs ls hP hS hl h
    unfold q_X7_which_84 at h
    refine lv_iconst (v := 1) hx hb dX7_which_84 (by decide) ?_
    refine lv_goto (tgt := 89) hx hb dX7_which_85 (by decide) ?_
    refine lv_istore_n (lv' := [(3, .int 1), (0, .ref (X.1 0)), (1, .int y1), (2, .int y2), (4, .int y4), (5, .int y5)]) hx hb dX7_which_89 rfl hl (by decide) rfl (fun ls hl => ?_)
    obtain ⟨x5_18, ex5_18⟩ : ∃ z : Int32, z = y5 + 1 := ⟨_, rfl⟩
    refine lv_iinc (v := x5_18) (lv' := [(5, .int x5_18), (3, .int 1), (0, .ref (X.1 0)), (1, .int y1), (2, .int y2), (4, .int y4)]) hx hb dX7_which_90 hl (k := 5) rfl (by rw [ex5_18]; rfl) (by decide) rfl (fun ls hl => ?_)
    have h := h x5_18 ex5_18
    refine lv_goto (tgt := 34) hx hb dX7_which_93 (by decide) ?_
    exact hK34 y1 y2 1 y4 x5_18 S H locs ls hP hS (lv_sub hl [2, 3, 4, 1, 5, 0] rfl) h
  have W34 : ∀ (K9 : Int32 → Int32 → CS → Prop), (∀ (y1 : Int32) (y2 : Int32) (S : CS) (H : Heap) (locs : List Loc) (ls : Array Slot), va_P D vwCl (RW X S) H → va_S (AX 18 X.1 s.heap.size) s.heap H locs → lv_has ls 6 [(0, .ref (X.1 0)), (1, .int y1), (2, .int y2)] → K9 y1 y2 S → W p l e (headSpec (Cond.code yX7_which cX7_which 6 (some .int) :: lw_gd) rm_X7_which).room s m ([.ref (X.1 0)] : List Value).toArray below meth c H locs 0 0 (MQ below (va_Qi post (gB D (RW X)) (AX 18 X.1 s.heap.size)) ([.ref (X.1 0)] : List Value).toArray s 0 0 (AX 18 X.1 s.heap.size)) (F0 m 9 ls [])) → ∀ (K24 : Int32 → Int32 → Int32 → Int32 → CS → Prop), (∀ (y1 : Int32) (y2 : Int32) (y3 : Int32) (y4 : Int32) (S : CS) (H : Heap) (locs : List Loc) (ls : Array Slot), va_P D vwCl (RW X S) H → va_S (AX 18 X.1 s.heap.size) s.heap H locs → lv_has ls 6 [(0, .ref (X.1 0)), (1, .int y1), (2, .int y2), (3, .int y3), (4, .int y4)] → K24 y1 y2 y3 y4 S → W p l e (headSpec (Cond.code yX7_which cX7_which 6 (some .int) :: lw_gd) rm_X7_which).room s m ([.ref (X.1 0)] : List Value).toArray below meth c H locs 0 0 (MQ below (va_Qi post (gB D (RW X)) (AX 18 X.1 s.heap.size)) ([.ref (X.1 0)] : List Value).toArray s 0 0 (AX 18 X.1 s.heap.size)) (F0 m 24 ls [])) → ∀ n1 : Nat, ∀ (y1 : Int32) (y2 : Int32) (y3 : Int32) (y4 : Int32) (y5 : Int32) (S : CS) (H : Heap) (locs : List Loc) (ls : Array Slot), va_P D vwCl (RW X S) H → va_S (AX 18 X.1 s.heap.size) s.heap H locs → lv_has ls 6 [(0, .ref (X.1 0)), (1, .int y1), (2, .int y2), (3, .int y3), (4, .int y4), (5, .int y5)] → q_X7_which_34 K9 K24 post n1 y1 y2 y3 y4 y5 S → W p l e (headSpec (Cond.code yX7_which cX7_which 6 (some .int) :: lw_gd) rm_X7_which).room s m ([.ref (X.1 0)] : List Value).toArray below meth c H locs 0 0 (MQ below (va_Qi post (gB D (RW X)) (AX 18 X.1 s.heap.size)) ([.ref (X.1 0)] : List Value).toArray s 0 0 (AX 18 X.1 s.heap.size)) (F0 m 34 ls []) := by
    intro K9 hK9 K24 hK24
    intro n1
    induction n1 with
    | zero => intro y1 y2 y3 y4 y5 S H locs ls hP hS hl h; exact h.elim
    | succ n9 ih =>
      intro y1 y2 y3 y4 y5 S H locs ls hP hS hl h
      rw [q_X7_which_34] at h
      refine lv_iload hx hb dX7_which_34 (lv_at hl 5 rfl) ?_
      refine lv_aload_n hx hb dX7_which_36 rfl (lv_at hl 0 rfl) ?_
      refine va_get (D := D) (ci := 7) (v := .int (S.1 0 25)) (C := RX7) (T := TX7) (N := 28) hx hb hT inX7 hown hK hP 0 rw_Model rfl 25 (by decide) (hT _ wf_X7_130) (fun _ h9 => h9) rfl dX7_which_37 ?_
      refine lv_icmp_ge (tgt := 96) hx hb dX7_which_40 (by decide) (fun c_11 => ?_) (fun c_11 => ?_)
      · have h := h.1 c_11
        refine lv_aload_n hx hb dX7_which_96 rfl (lv_at hl 0 rfl) ?_
        refine lv_iload_n hx hb dX7_which_97 rfl (lv_at hl 2 rfl) ?_
        refine rVv (As := [.int y2]) (rest := []) hX ⟨hx, hb, hml, hown, hT⟩ (c_X7_goes l D X hX H.size S y2 _ h) (gd_V wl_X7_204 wi_X7_goes wv_X7_goes wn_X7 wc_X7_goes) rfl hd_X7_goes ⟨rfl, rfl⟩ ⟨Nat.le_of_ble_eq_true rfl, Nat.le_of_ble_eq_true rfl⟩ (va_recv hK hP (ci := 7) (q0 := 0) rfl rw_Model) hK hP hS hF rfl hl.1 rfl (Nat.le_of_ble_eq_true rfl) dX7_which_98 ⟨Nat.zero_le _, Nat.zero_le _⟩ (fun S_12 H locs h hP hS => ?_)
        obtain ⟨x4_14, ex4_14⟩ : ∃ z : Int32, z = y4 + 1 := ⟨_, rfl⟩
        refine lv_iinc (v := x4_14) (lv' := [(4, .int x4_14), (0, .ref (X.1 0)), (1, .int y1), (2, .int y2), (3, .int y3), (5, .int y5)]) hx hb dX7_which_101 hl (k := 4) rfl (by rw [ex4_14]; rfl) (by decide) rfl (fun ls hl => ?_)
        have h := h x4_14 ex4_14
        refine lv_goto (tgt := 24) hx hb dX7_which_104 (by decide) ?_
        exact hK24 y1 y2 y3 x4_14 S_12 H locs ls hP hS (lv_sub hl [1, 2, 3, 4, 0] rfl) h
      · have h := h.2 c_11
        refine lv_iload_n hx hb dX7_which_43 rfl (lv_at hl 3 rfl) ?_
        refine lv_if_eq (tgt := 88) hx hb dX7_which_44 (by decide) (fun c_15 => ?_) (fun c_15 => ?_)
        · have h := h.1 c_15
          refine lv_iconst (v := 0) hx hb dX7_which_88 (by decide) ?_
          refine lv_istore_n (lv' := [(3, .int 0), (0, .ref (X.1 0)), (1, .int y1), (2, .int y2), (4, .int y4), (5, .int y5)]) hx hb dX7_which_89 rfl hl (by decide) rfl (fun ls hl => ?_)
          obtain ⟨x5_16, ex5_16⟩ : ∃ z : Int32, z = y5 + 1 := ⟨_, rfl⟩
          refine lv_iinc (v := x5_16) (lv' := [(5, .int x5_16), (3, .int 0), (0, .ref (X.1 0)), (1, .int y1), (2, .int y2), (4, .int y4)]) hx hb dX7_which_90 hl (k := 5) rfl (by rw [ex5_16]; rfl) (by decide) rfl (fun ls hl => ?_)
          have h := h x5_16 ex5_16
          refine lv_goto (tgt := 34) hx hb dX7_which_93 (by decide) ?_
          exact ih y1 y2 0 y4 x5_16 S H locs ls hP hS (lv_sub hl [2, 3, 4, 1, 5, 0] rfl) h
        · have h := h.2 c_15
          refine lv_aload_n hx hb dX7_which_47 rfl (lv_at hl 0 rfl) ?_
          refine va_get (D := D) (ci := 7) (v := .ref (X.1 13)) (C := RX7) (T := TX7) (N := 28) hx hb hT inX7 hown hK hP 0 rw_Model rfl 22 (by decide) (hT _ wf_X7_47) (fun _ h9 => h9) rfl dX7_which_48 ?_
          refine lv_iload hx hb dX7_which_51 (lv_at hl 5 rfl) ?_
          obtain ⟨hi, h⟩ := h
          refine g_iald hx hb hK hP 13 rw_13 rfl hi y5.toNatClampNeg rfl dX7_which_53 ?_
          refine lv_iload hx hb dX7_which_54 (lv_at hl 4 rfl) ?_
          refine lv_icmp_ne (tgt := 84) hx hb dX7_which_56 (by decide) (fun c_17 => ?_) (fun c_17 => ?_)
          · have h := h.2 c_17
            exact W84 K9 hK9 K24 hK24 (fun y1' y2' y3' y4' y5' S9 => q_X7_which_34 K9 K24 post n9 y1' y2' y3' y4' y5' S9) ih y1 y2 y4 y5 S H locs ls hP hS (lv_sub hl [0, 1, 2, 4, 5] rfl) h
          · have h := h.1 c_17
            refine lv_aload_n hx hb dX7_which_59 rfl (lv_at hl 0 rfl) ?_
            refine va_get (D := D) (ci := 7) (v := .ref (X.1 9)) (C := RX7) (T := TX7) (N := 28) hx hb hT inX7 hown hK hP 0 rw_Model rfl 17 (by decide) (hT _ wf_X7_34) (fun _ h9 => h9) rfl dX7_which_60 ?_
            refine lv_bipush (v := 7) hx hb dX7_which_63 (by decide) ?_
            refine lv_aload_n hx hb dX7_which_65 rfl (lv_at hl 0 rfl) ?_
            refine va_get (D := D) (ci := 7) (v := .ref (X.1 14)) (C := RX7) (T := TX7) (N := 28) hx hb hT inX7 hown hK hP 0 rw_Model rfl 23 (by decide) (hT _ wf_X7_50) (fun _ h9 => h9) rfl dX7_which_66 ?_
            refine lv_iload hx hb dX7_which_69 (lv_at hl 5 rfl) ?_
            obtain ⟨hi, h⟩ := h
            refine g_iald hx hb hK hP 14 rw_14 rfl hi y5.toNatClampNeg rfl dX7_which_71 ?_
            refine lv_iadd hx hb dX7_which_72 ?_
            obtain ⟨hi, h⟩ := h
            refine g_iald hx hb hK hP 9 rw_9 rfl hi ((7 + (S.1 14 y5.toNatClampNeg)).toNatClampNeg) rfl dX7_which_73 ?_
            refine lv_aload_n hx hb dX7_which_74 rfl (lv_at hl 0 rfl) ?_
            refine va_get (D := D) (ci := 7) (v := .ref (X.1 15)) (C := RX7) (T := TX7) (N := 28) hx hb hT inX7 hown hK hP 0 rw_Model rfl 24 (by decide) (hT _ wf_X7_53) (fun _ h9 => h9) rfl dX7_which_75 ?_
            refine lv_iload hx hb dX7_which_78 (lv_at hl 5 rfl) ?_
            obtain ⟨hi, h⟩ := h
            refine g_iald hx hb hK hP 15 rw_15 rfl hi y5.toNatClampNeg rfl dX7_which_80 ?_
            refine lv_icmp_ne (tgt := 88) hx hb dX7_which_81 (by decide) (fun c_19 => ?_) (fun c_19 => ?_)
            · have h := h.2 c_19
              refine lv_iconst (v := 0) hx hb dX7_which_88 (by decide) ?_
              refine lv_istore_n (lv' := [(3, .int 0), (0, .ref (X.1 0)), (1, .int y1), (2, .int y2), (4, .int y4), (5, .int y5)]) hx hb dX7_which_89 rfl hl (by decide) rfl (fun ls hl => ?_)
              obtain ⟨x5_20, ex5_20⟩ : ∃ z : Int32, z = y5 + 1 := ⟨_, rfl⟩
              refine lv_iinc (v := x5_20) (lv' := [(5, .int x5_20), (3, .int 0), (0, .ref (X.1 0)), (1, .int y1), (2, .int y2), (4, .int y4)]) hx hb dX7_which_90 hl (k := 5) rfl (by rw [ex5_20]; rfl) (by decide) rfl (fun ls hl => ?_)
              have h := h x5_20 ex5_20
              refine lv_goto (tgt := 34) hx hb dX7_which_93 (by decide) ?_
              exact ih y1 y2 0 y4 x5_20 S H locs ls hP hS (lv_sub hl [2, 3, 4, 1, 5, 0] rfl) h
            · have h := h.1 c_19
              exact W84 K9 hK9 K24 hK24 (fun y1' y2' y3' y4' y5' S9 => q_X7_which_34 K9 K24 post n9 y1' y2' y3' y4' y5' S9) ih y1 y2 y4 y5 S H locs ls hP hS (lv_sub hl [0, 1, 2, 4, 5] rfl) h
  have W24 : ∀ (K9 : Int32 → Int32 → CS → Prop), (∀ (y1 : Int32) (y2 : Int32) (S : CS) (H : Heap) (locs : List Loc) (ls : Array Slot), va_P D vwCl (RW X S) H → va_S (AX 18 X.1 s.heap.size) s.heap H locs → lv_has ls 6 [(0, .ref (X.1 0)), (1, .int y1), (2, .int y2)] → K9 y1 y2 S → W p l e (headSpec (Cond.code yX7_which cX7_which 6 (some .int) :: lw_gd) rm_X7_which).room s m ([.ref (X.1 0)] : List Value).toArray below meth c H locs 0 0 (MQ below (va_Qi post (gB D (RW X)) (AX 18 X.1 s.heap.size)) ([.ref (X.1 0)] : List Value).toArray s 0 0 (AX 18 X.1 s.heap.size)) (F0 m 9 ls [])) → ∀ n1 : Nat, ∀ (y1 : Int32) (y2 : Int32) (y3 : Int32) (y4 : Int32) (S : CS) (H : Heap) (locs : List Loc) (ls : Array Slot), va_P D vwCl (RW X S) H → va_S (AX 18 X.1 s.heap.size) s.heap H locs → lv_has ls 6 [(0, .ref (X.1 0)), (1, .int y1), (2, .int y2), (3, .int y3), (4, .int y4)] → q_X7_which_24 K9 post n1 y1 y2 y3 y4 S → W p l e (headSpec (Cond.code yX7_which cX7_which 6 (some .int) :: lw_gd) rm_X7_which).room s m ([.ref (X.1 0)] : List Value).toArray below meth c H locs 0 0 (MQ below (va_Qi post (gB D (RW X)) (AX 18 X.1 s.heap.size)) ([.ref (X.1 0)] : List Value).toArray s 0 0 (AX 18 X.1 s.heap.size)) (F0 m 24 ls []) := by
    intro K9 hK9
    intro n1
    induction n1 with
    | zero => intro y1 y2 y3 y4 S H locs ls hP hS hl h; exact h.elim
    | succ n9 ih =>
      intro y1 y2 y3 y4 S H locs ls hP hS hl h
      rw [q_X7_which_24] at h
      refine lv_iload hx hb dX7_which_24 (lv_at hl 4 rfl) ?_
      refine lv_bipush (v := 40) hx hb dX7_which_26 (by decide) ?_
      refine lv_icmp_gt (tgt := 107) hx hb dX7_which_28 (by decide) (fun c_5 => ?_) (fun c_5 => ?_)
      · have h := h.1 c_5
        refine lv_iload_n hx hb dX7_which_107 rfl (lv_at hl 1 rfl) ?_
        refine lv_iload_n hx hb dX7_which_108 rfl (lv_at hl 3 rfl) ?_
        refine lv_if_eq (tgt := 118) hx hb dX7_which_109 (by decide) (fun c_6 => ?_) (fun c_6 => ?_)
        · have h := h.1 c_6
          refine lv_iconst (v := 0) hx hb dX7_which_118 (by decide) ?_
          refine lv_ior hx hb dX7_which_119 ?_
          refine lv_topi (fun x1_7 ex1_7 => ?_)
          have h := h x1_7 ex1_7
          refine lv_istore_n (lv' := [(1, .int x1_7), (0, .ref (X.1 0)), (2, .int y2), (3, .int y3), (4, .int y4)]) hx hb dX7_which_120 rfl hl (by decide) rfl (fun ls hl => ?_)
          obtain ⟨x2_8, ex2_8⟩ : ∃ z : Int32, z = y2 + 1 := ⟨_, rfl⟩
          refine lv_iinc (v := x2_8) (lv' := [(2, .int x2_8), (1, .int x1_7), (0, .ref (X.1 0)), (3, .int y3), (4, .int y4)]) hx hb dX7_which_121 hl (k := 2) rfl (by rw [ex2_8]; rfl) (by decide) rfl (fun ls hl => ?_)
          have h := h x2_8 ex2_8
          refine lv_goto (tgt := 9) hx hb dX7_which_124 (by decide) ?_
          exact hK9 x1_7 x2_8 S H locs ls hP hS (lv_sub hl [2, 1, 0] rfl) h
        · have h := h.2 c_6
          refine lv_iconst (v := 1) hx hb dX7_which_112 (by decide) ?_
          refine lv_iload_n hx hb dX7_which_113 rfl (lv_at hl 2 rfl) ?_
          refine lv_ishl hx hb dX7_which_114 ?_
          refine lv_goto (tgt := 119) hx hb dX7_which_115 (by decide) ?_
          refine lv_ior hx hb dX7_which_119 ?_
          refine lv_topi (fun x1_9 ex1_9 => ?_)
          have h := h x1_9 ex1_9
          refine lv_istore_n (lv' := [(1, .int x1_9), (0, .ref (X.1 0)), (2, .int y2), (3, .int y3), (4, .int y4)]) hx hb dX7_which_120 rfl hl (by decide) rfl (fun ls hl => ?_)
          obtain ⟨x2_10, ex2_10⟩ : ∃ z : Int32, z = y2 + 1 := ⟨_, rfl⟩
          refine lv_iinc (v := x2_10) (lv' := [(2, .int x2_10), (1, .int x1_9), (0, .ref (X.1 0)), (3, .int y3), (4, .int y4)]) hx hb dX7_which_121 hl (k := 2) rfl (by rw [ex2_10]; rfl) (by decide) rfl (fun ls hl => ?_)
          have h := h x2_10 ex2_10
          refine lv_goto (tgt := 9) hx hb dX7_which_124 (by decide) ?_
          exact hK9 x1_9 x2_10 S H locs ls hP hS (lv_sub hl [2, 1, 0] rfl) h
      · have h := h.2 c_5
        refine lv_iconst (v := 0) hx hb dX7_which_31 (by decide) ?_
        refine lv_istore (lv' := [(5, .int 0), (0, .ref (X.1 0)), (1, .int y1), (2, .int y2), (3, .int y3), (4, .int y4)]) hx hb dX7_which_32 hl (by decide) rfl (fun ls hl => ?_)
        obtain ⟨n1, h⟩ := h
        exact W34 K9 hK9 (fun y1' y2' y3' y4' S9 => q_X7_which_24 K9 post n9 y1' y2' y3' y4' S9) ih n1 y1 y2 y3 y4 0 S H locs ls hP hS (lv_sub hl [1, 2, 3, 4, 5, 0] rfl) h
  have W9 : ∀ n1 : Nat, ∀ (y1 : Int32) (y2 : Int32) (S : CS) (H : Heap) (locs : List Loc) (ls : Array Slot), va_P D vwCl (RW X S) H → va_S (AX 18 X.1 s.heap.size) s.heap H locs → lv_has ls 6 [(0, .ref (X.1 0)), (1, .int y1), (2, .int y2)] → q_X7_which_9 post n1 y1 y2 S → W p l e (headSpec (Cond.code yX7_which cX7_which 6 (some .int) :: lw_gd) rm_X7_which).room s m ([.ref (X.1 0)] : List Value).toArray below meth c H locs 0 0 (MQ below (va_Qi post (gB D (RW X)) (AX 18 X.1 s.heap.size)) ([.ref (X.1 0)] : List Value).toArray s 0 0 (AX 18 X.1 s.heap.size)) (F0 m 9 ls []) := by
    intro n1
    induction n1 with
    | zero => intro y1 y2 S H locs ls hP hS hl h; exact h.elim
    | succ n9 ih =>
      intro y1 y2 S H locs ls hP hS hl h
      rw [q_X7_which_9] at h
      refine lv_iload_n hx hb dX7_which_9 rfl (lv_at hl 2 rfl) ?_
      refine lv_bipush (v := 8) hx hb dX7_which_10 (by decide) ?_
      refine lv_icmp_ge (tgt := 127) hx hb dX7_which_12 (by decide) (fun c_2 => ?_) (fun c_2 => ?_)
      · have h := h.1 c_2
        refine lv_iload_n hx hb dX7_which_127 rfl (lv_at hl 1 rfl) ?_
        exact W.iret (v := y1) hx hb hr (fun t ht hW => ⟨⟨y1, S, rfl, h, gB_of ht hP⟩, hS.F ht⟩) hS.2.2 dX7_which_128
      · have h := h.2 c_2
        refine lv_iconst (v := 1) hx hb dX7_which_15 (by decide) ?_
        refine lv_istore_n (lv' := [(3, .int 1), (0, .ref (X.1 0)), (1, .int y1), (2, .int y2)]) hx hb dX7_which_16 rfl hl (by decide) rfl (fun ls hl => ?_)
        refine lv_aload_n hx hb dX7_which_17 rfl (lv_at hl 1 rfl) ?_
        refine rVv (As := []) (rest := []) hX ⟨hx, hb, hml, hown, hT⟩ (c_X7_asNow l D X hX H.size S  _ h) (gd_V wl_X7_175 wi_X7_asNow wv_X7_asNow wn_X7 wc_X7_asNow) rfl hd_X7_asNow ⟨rfl, rfl⟩ ⟨Nat.le_of_ble_eq_true rfl, Nat.le_of_ble_eq_true rfl⟩ (va_recv hK hP (ci := 7) (q0 := 0) rfl rw_Model) hK hP hS hF rfl hl.1 rfl (Nat.le_of_ble_eq_true rfl) dX7_which_18 ⟨Nat.zero_le _, Nat.zero_le _⟩ (fun S_3 H locs h hP hS => ?_)
        refine lv_iconst (v := 0) hx hb dX7_which_21 (by decide) ?_
        refine lv_istore (lv' := [(4, .int 0), (3, .int 1), (0, .ref (X.1 0)), (1, .int y1), (2, .int y2)]) hx hb dX7_which_22 hl (by decide) rfl (fun ls hl => ?_)
        obtain ⟨n1, h⟩ := h
        exact W24 (fun y1' y2' S9 => q_X7_which_9 post n9 y1' y2' S9) ih n1 y1 y2 1 0 S_3 H locs ls hP hS (lv_sub hl [2, 3, 4, 1, 0] rfl) h
  have hl := lv_entry ([.ref (X.1 0)]) (n := 6) (Nat.le_of_ble_eq_true rfl)
  rw [lg_entry_eq]
  generalize (lg_sl ([.ref (X.1 0)]) ++ List.replicate (6 - (lg_sl ([.ref (X.1 0)])).length) Slot.unset).toArray = ls at hl ⊢
  have hl : lv_has ls 6 [(0, .ref (X.1 0))] := hl
  obtain ⟨H, hH⟩ : ∃ H : Heap, H = s.heap := ⟨_, rfl⟩
  obtain ⟨locs, hlc⟩ : ∃ q : List Loc, q = [] := ⟨_, rfl⟩
  have hS : va_S (AX 18 X.1 s.heap.size) s.heap H locs := by rw [hH, hlc]; exact hS
  have hP : va_P D vwCl (RW X S) H := by rw [hH]; exact hP
  show W p l e (headSpec (Cond.code yX7_which cX7_which 6 (some .int) :: lw_gd) rm_X7_which).room s m ([.ref (X.1 0)] : List Value).toArray below meth c s.heap [] 0 0 (MQ below (va_Qi post (gB D (RW X)) (AX 18 X.1 s.heap.size)) ([.ref (X.1 0)] : List Value).toArray s 0 0 (AX 18 X.1 s.heap.size)) _
  suffices hgo : W p l e (headSpec (Cond.code yX7_which cX7_which 6 (some .int) :: lw_gd) rm_X7_which).room s m ([.ref (X.1 0)] : List Value).toArray below meth c H locs 0 0 (MQ below (va_Qi post (gB D (RW X)) (AX 18 X.1 s.heap.size)) ([.ref (X.1 0)] : List Value).toArray s 0 0 (AX 18 X.1 s.heap.size)) (F0 m 0 ls []) from by rw [hH, hlc] at hgo; exact hgo
  unfold p_X7_which at h
  refine lv_aload_n hx hb dX7_which_0 rfl (lv_at hl 0 rfl) ?_
  refine lv_iconst (v := 0) hx hb dX7_which_1 (by decide) ?_
  refine va_put (D := D) (ci := 7) (v := .int 0) (ty := .int) (C := RX7) (T := TX7) (N := 28) hx hb hT inX7 tyX7 tyX7_ok nmX7 hown hK hP (gw_D hX) hS 0 rw_Model rfl 0 (by decide) (hT _ wf_X7_68) (fun _ h9 => h9) rfl (by decide +kernel) rfl rfl (Nat.le_of_ble_eq_true rfl) dX7_which_2 (fun H locs hP _ hS => ?_)
  have hP := rw_st (j := 0) (x := 0) rfl hP
  obtain ⟨S_1, eS_1⟩ : ∃ z : CS, z = sti S 0 0 0 := ⟨_, rfl⟩
  rw [← eS_1] at hP
  have h := h S_1 eS_1
  refine lv_iconst (v := 0) hx hb dX7_which_5 (by decide) ?_
  refine lv_istore_n (lv' := [(1, .int 0), (0, .ref (X.1 0))]) hx hb dX7_which_6 rfl hl (by decide) rfl (fun ls hl => ?_)
  refine lv_iconst (v := 0) hx hb dX7_which_7 (by decide) ?_
  refine lv_istore_n (lv' := [(2, .int 0), (1, .int 0), (0, .ref (X.1 0))]) hx hb dX7_which_8 rfl hl (by decide) rfl (fun ls hl => ?_)
  obtain ⟨n1, h⟩ := h
  exact W9  n1 0 0 S_1 H locs ls hP hS (lv_sub hl [2, 1, 0] rfl) h

abbrev rm_X7_power : Room := { frames := 0, cells := 0, slots := 0, locals := 0 }
def q_X7_power_4 (x0 : Int32) (x1 : Int32) (post : Int32 → CS → Prop) : Nat → Int32 → Int32 → CS → Prop
  | 0, _, _, _ => False
  | n9 + 1, y2, y3, S => (x1 ≤ y3 → (post y2 S)) ∧ (¬ (x1 ≤ y3) → (∀ x2_2 : Int32, x2_2 = (y2 * x0) → (∀ x3_3 : Int32, x3_3 = y3 + 1 → (q_X7_power_4 x0 x1 post n9 x2_2 x3_3 S))))
def p_X7_power (S : CS) (x0 : Int32) (x1 : Int32) (post : Int32 → CS → Prop) : Prop := ∃ n, q_X7_power_4 x0 x1 post n 1 0 S
set_option maxHeartbeats 4000000 in
set_option maxRecDepth 100000 in
theorem c_X7_power (l : Launch) (D : va_G) (X : XE) (hX : Inj 18 X.1) (sz : Nat) (S : CS) (x0 : Int32) (x1 : Int32) (post : Int32 → CS → Prop) (h : p_X7_power S x0 x1 post) : Met l yX7_power (Cond.code yX7_power cX7_power 4 (some .int) :: lw_gd) rm_X7_power (gPc D (tyX X) (RW X) (FXr X) (AX 18 X.1 sz) sz S [.int x0, .int x1]) (va_Qi post (gB D (RW X)) (AX 18 X.1 sz)) 0 0 (AX 18 X.1 sz) := by
  refine Met.ofW (cc := cX7_power) (maxL := 4) (ret := (some .int)) (by decide) rfl ?_
  intro p e s m args below meth c s₁ B hml hv
  obtain ⟨rfl, hsz, hP, hK, hF⟩ := hv
  have hx := B.exec
  have hb := B.bytes
  have hr := B.returns
  have hts := atoms_spec (ws := (Cond.code yX7_power cX7_power 4 (some .int) :: lw_gd)) B.pre
  have hT : ∀ w ∈ lw_gd, w.before _ s = true := fun w h9 => hts w (List.mem_cons_of_mem _ h9)
  have hown : s.vm.findClass RX7 = some m.cls := findClass_of_methodNamed B.named
  have hlocks := B.notSynchronized
  subst hsz
  have hS : va_S (AX 18 X.1 s.heap.size) s.heap s.heap [] := va_S.rf
  have W4 : ∀ n1 : Nat, ∀ (y2 : Int32) (y3 : Int32) (S : CS) (H : Heap) (locs : List Loc) (ls : Array Slot), va_P D vwCl (RW X S) H → va_S (AX 18 X.1 s.heap.size) s.heap H locs → lv_has ls 4 [(0, .int x0), (1, .int x1), (2, .int y2), (3, .int y3)] → q_X7_power_4 x0 x1 post n1 y2 y3 S → W p l e (headSpec (Cond.code yX7_power cX7_power 4 (some .int) :: lw_gd) rm_X7_power).room s m ([.int x0, .int x1] : List Value).toArray below meth c H locs 0 0 (MQ below (va_Qi post (gB D (RW X)) (AX 18 X.1 s.heap.size)) ([.int x0, .int x1] : List Value).toArray s 0 0 (AX 18 X.1 s.heap.size)) (F0 m 4 ls []) := by
    intro n1
    induction n1 with
    | zero => intro y2 y3 S H locs ls hP hS hl h; exact h.elim
    | succ n9 ih =>
      intro y2 y3 S H locs ls hP hS hl h
      rw [q_X7_power_4] at h
      refine lv_iload_n hx hb dX7_power_4 rfl (lv_at hl 3 rfl) ?_
      refine lv_iload_n hx hb dX7_power_5 rfl (lv_at hl 1 rfl) ?_
      refine lv_icmp_ge (tgt := 19) hx hb dX7_power_6 (by decide) (fun c_1 => ?_) (fun c_1 => ?_)
      · have h := h.1 c_1
        refine lv_iload_n hx hb dX7_power_19 rfl (lv_at hl 2 rfl) ?_
        exact W.iret (v := y2) hx hb hr (fun t ht hW => ⟨⟨y2, S, rfl, h, gB_of ht hP⟩, hS.F ht⟩) hS.2.2 dX7_power_20
      · have h := h.2 c_1
        refine lv_iload_n hx hb dX7_power_9 rfl (lv_at hl 2 rfl) ?_
        refine lv_iload_n hx hb dX7_power_10 rfl (lv_at hl 0 rfl) ?_
        refine lv_imul hx hb dX7_power_11 ?_
        refine lv_topi (fun x2_2 ex2_2 => ?_)
        have h := h x2_2 ex2_2
        refine lv_istore_n (lv' := [(2, .int x2_2), (0, .int x0), (1, .int x1), (3, .int y3)]) hx hb dX7_power_12 rfl hl (by decide) rfl (fun ls hl => ?_)
        obtain ⟨x3_3, ex3_3⟩ : ∃ z : Int32, z = y3 + 1 := ⟨_, rfl⟩
        refine lv_iinc (v := x3_3) (lv' := [(3, .int x3_3), (2, .int x2_2), (0, .int x0), (1, .int x1)]) hx hb dX7_power_13 hl (k := 3) rfl (by rw [ex3_3]; rfl) (by decide) rfl (fun ls hl => ?_)
        have h := h x3_3 ex3_3
        refine lv_goto (tgt := 4) hx hb dX7_power_16 (by decide) ?_
        exact ih x2_2 x3_3 S H locs ls hP hS (lv_sub hl [2, 3, 1, 0] rfl) h
  have hl := lv_entry ([.int x0, .int x1]) (n := 4) (Nat.le_of_ble_eq_true rfl)
  rw [lg_entry_eq]
  generalize (lg_sl ([.int x0, .int x1]) ++ List.replicate (4 - (lg_sl ([.int x0, .int x1])).length) Slot.unset).toArray = ls at hl ⊢
  have hl : lv_has ls 4 [(0, .int x0), (1, .int x1)] := hl
  obtain ⟨H, hH⟩ : ∃ H : Heap, H = s.heap := ⟨_, rfl⟩
  obtain ⟨locs, hlc⟩ : ∃ q : List Loc, q = [] := ⟨_, rfl⟩
  have hS : va_S (AX 18 X.1 s.heap.size) s.heap H locs := by rw [hH, hlc]; exact hS
  have hP : va_P D vwCl (RW X S) H := by rw [hH]; exact hP
  show W p l e (headSpec (Cond.code yX7_power cX7_power 4 (some .int) :: lw_gd) rm_X7_power).room s m ([.int x0, .int x1] : List Value).toArray below meth c s.heap [] 0 0 (MQ below (va_Qi post (gB D (RW X)) (AX 18 X.1 s.heap.size)) ([.int x0, .int x1] : List Value).toArray s 0 0 (AX 18 X.1 s.heap.size)) _
  suffices hgo : W p l e (headSpec (Cond.code yX7_power cX7_power 4 (some .int) :: lw_gd) rm_X7_power).room s m ([.int x0, .int x1] : List Value).toArray below meth c H locs 0 0 (MQ below (va_Qi post (gB D (RW X)) (AX 18 X.1 s.heap.size)) ([.int x0, .int x1] : List Value).toArray s 0 0 (AX 18 X.1 s.heap.size)) (F0 m 0 ls []) from by rw [hH, hlc] at hgo; exact hgo
  unfold p_X7_power at h
  refine lv_iconst (v := 1) hx hb dX7_power_0 (by decide) ?_
  refine lv_istore_n (lv' := [(2, .int 1), (0, .int x0), (1, .int x1)]) hx hb dX7_power_1 rfl hl (by decide) rfl (fun ls hl => ?_)
  refine lv_iconst (v := 0) hx hb dX7_power_2 (by decide) ?_
  refine lv_istore_n (lv' := [(3, .int 0), (2, .int 1), (0, .int x0), (1, .int x1)]) hx hb dX7_power_3 rfl hl (by decide) rfl (fun ls hl => ?_)
  obtain ⟨n1, h⟩ := h
  exact W4  n1 1 0 S H locs ls hP hS (lv_sub hl [2, 3, 1, 0] rfl) h

abbrev rm_X7_odds : Room := { frames := 1, cells := 0, slots := 0, locals := 24 }
def q_X7_odds_53 (x1 : Int32) (x2 : Int32) (x3 : Int32) (x4 : Int32) (post : Int32 → CS → Prop) : Nat → Int32 → Int32 → CS → Prop
  | 0, _, _, _ => False
  | n9 + 1, y5, y6, S => ((1 <<< (x2 &&& 31)) ≤ y6 → (p_X7_power S 10 x2 (fun r_16 S_15 => (p_X7_gcd S_15 y5 r_16 (fun r_18 S_17 => ((x4 = 0 → ((¬ r_18 = 0) ∧ (post (y5 / r_18) S_17))) ∧ (¬ (x4 = 0) → ((¬ r_18 = 0) ∧ (post (r_16 / r_18) S_17))))))))) ∧ (¬ ((1 <<< (x2 &&& 31)) ≤ y6) → (p_X7_ones S y6 (fun r_21 S_20 => ((r_21 < x3 → (∀ x5_23 : Int32, x5_23 = (y5 + 0) → (∀ x6_24 : Int32, x6_24 = y6 + 1 → (q_X7_odds_53 x1 x2 x3 x4 post n9 x5_23 x6_24 S_20)))) ∧ (¬ (r_21 < x3) → (p_X7_power S_20 (10 - x1) r_21 (fun r_26 S_25 => (p_X7_power S_25 x1 (x2 - r_21) (fun r_28 S_27 => (∀ x5_29 : Int32, x5_29 = (y5 + (r_26 * r_28)) → (∀ x6_30 : Int32, x6_30 = y6 + 1 → (q_X7_odds_53 x1 x2 x3 x4 post n9 x5_29 x6_30 S_27))))))))))))
def p_X7_odds (S : CS) (x1 : Int32) (x2 : Int32) (x3 : Int32) (x4 : Int32) (post : Int32 → CS → Prop) : Prop := ∀ S_1 : CS, S_1 = sti S 0 0 0 → (p_X7_in S_1 x1 0 10 (fun r_3 S_2 => ((r_3 = 0 → (post (-1) S_2)) ∧ (¬ (r_3 = 0) → (p_X7_in S_2 x2 0 6 (fun r_6 S_5 => ((r_6 = 0 → (post (-1) S_5)) ∧ (¬ (r_6 = 0) → (p_X7_in S_5 x3 0 6 (fun r_9 S_8 => ((r_9 = 0 → (post (-1) S_8)) ∧ (¬ (r_9 = 0) → (p_X7_in S_8 x4 0 1 (fun r_12 S_11 => ((r_12 = 0 → (post (-1) S_11)) ∧ (¬ (r_12 = 0) → (∃ n, q_X7_odds_53 x1 x2 x3 x4 post n 0 0 S_11)))))))))))))))))
set_option maxHeartbeats 4000000 in
set_option maxRecDepth 100000 in
theorem c_X7_odds (l : Launch) (D : va_G) (X : XE) (hX : Inj 18 X.1) (sz : Nat) (S : CS) (x1 : Int32) (x2 : Int32) (x3 : Int32) (x4 : Int32) (post : Int32 → CS → Prop) (h : p_X7_odds S x1 x2 x3 x4 post) : Met l yX7_odds (Cond.code yX7_odds cX7_odds 8 (some .int) :: lw_gd) rm_X7_odds (gPc D (tyX X) (RW X) (FXr X) (AX 18 X.1 sz) sz S [.ref (X.1 0), .int x1, .int x2, .int x3, .int x4]) (va_Qi post (gB D (RW X)) (AX 18 X.1 sz)) 0 0 (AX 18 X.1 sz) := by
  refine Met.ofW (cc := cX7_odds) (maxL := 8) (ret := (some .int)) (by decide) rfl ?_
  intro p e s m args below meth c s₁ B hml hv
  obtain ⟨rfl, hsz, hP, hK, hF⟩ := hv
  have hx := B.exec
  have hb := B.bytes
  have hr := B.returns
  have hts := atoms_spec (ws := (Cond.code yX7_odds cX7_odds 8 (some .int) :: lw_gd)) B.pre
  have hT : ∀ w ∈ lw_gd, w.before _ s = true := fun w h9 => hts w (List.mem_cons_of_mem _ h9)
  have hown : s.vm.findClass RX7 = some m.cls := findClass_of_methodNamed B.named
  have hlocks := B.notSynchronized
  subst hsz
  have hS : va_S (AX 18 X.1 s.heap.size) s.heap s.heap [] := va_S.rf
  have W53 : ∀ n1 : Nat, ∀ (y5 : Int32) (y6 : Int32) (S : CS) (H : Heap) (locs : List Loc) (ls : Array Slot), va_P D vwCl (RW X S) H → va_S (AX 18 X.1 s.heap.size) s.heap H locs → lv_has ls 8 [(1, .int x1), (2, .int x2), (3, .int x3), (4, .int x4), (5, .int y5), (6, .int y6)] → q_X7_odds_53 x1 x2 x3 x4 post n1 y5 y6 S → W p l e (headSpec (Cond.code yX7_odds cX7_odds 8 (some .int) :: lw_gd) rm_X7_odds).room s m ([.ref (X.1 0), .int x1, .int x2, .int x3, .int x4] : List Value).toArray below meth c H locs 0 0 (MQ below (va_Qi post (gB D (RW X)) (AX 18 X.1 s.heap.size)) ([.ref (X.1 0), .int x1, .int x2, .int x3, .int x4] : List Value).toArray s 0 0 (AX 18 X.1 s.heap.size)) (F0 m 53 ls []) := by
    intro n1
    induction n1 with
    | zero => intro y5 y6 S H locs ls hP hS hl h; exact h.elim
    | succ n9 ih =>
      intro y5 y6 S H locs ls hP hS hl h
      rw [q_X7_odds_53] at h
      refine lv_iload hx hb dX7_odds_53 (lv_at hl 5 rfl) ?_
      refine lv_iconst (v := 1) hx hb dX7_odds_55 (by decide) ?_
      refine lv_iload_n hx hb dX7_odds_56 rfl (lv_at hl 1 rfl) ?_
      refine lv_ishl hx hb dX7_odds_57 ?_
      refine lv_icmp_ge (tgt := 107) hx hb dX7_odds_58 (by decide) (fun c_14 => ?_) (fun c_14 => ?_)
      · have h := h.1 c_14
        refine lv_bipush (v := 10) hx hb dX7_odds_107 (by decide) ?_
        refine lv_iload_n hx hb dX7_odds_109 rfl (lv_at hl 1 rfl) ?_
        refine rSi (As := [.int 10, .int x2]) (rest := []) hX ⟨hx, hb, hml, hown, hT⟩ (c_X7_power l D X hX H.size S 10 x2 _ h) (gd_S wl_X7_210 wt_X7_power wn_X7 wc_X7_power) hd_X7_power ⟨rfl, rfl⟩ ⟨Nat.le_of_ble_eq_true rfl, Nat.le_of_ble_eq_true rfl⟩ hK hP hS hF rfl hl.1 rfl (Nat.le_of_ble_eq_true rfl) dX7_odds_110 ⟨Nat.zero_le _, Nat.zero_le _⟩ (fun r_16 S_15 H locs h hP hS => ?_)
        refine lv_istore (lv' := [(6, .int r_16), (1, .int x1), (2, .int x2), (3, .int x3), (4, .int x4), (5, .int y5)]) hx hb dX7_odds_113 hl (by decide) rfl (fun ls hl => ?_)
        refine lv_iload hx hb dX7_odds_115 (lv_at hl 5 rfl) ?_
        refine lv_iload hx hb dX7_odds_117 (lv_at hl 0 rfl) ?_
        refine rSi (As := [.int y5, .int r_16]) (rest := []) hX ⟨hx, hb, hml, hown, hT⟩ (c_X7_gcd l D X hX H.size S_15 y5 r_16 _ h) (gd_S wl_X7_172 wt_X7_gcd wn_X7 wc_X7_gcd) hd_X7_gcd ⟨rfl, rfl⟩ ⟨Nat.le_of_ble_eq_true rfl, Nat.le_of_ble_eq_true rfl⟩ hK hP hS hF rfl hl.1 rfl (Nat.le_of_ble_eq_true rfl) dX7_odds_119 ⟨Nat.zero_le _, Nat.zero_le _⟩ (fun r_18 S_17 H locs h hP hS => ?_)
        refine lv_istore (lv' := [(7, .int r_18), (6, .int r_16), (1, .int x1), (2, .int x2), (3, .int x3), (4, .int x4), (5, .int y5)]) hx hb dX7_odds_122 hl (by decide) rfl (fun ls hl => ?_)
        refine lv_iload hx hb dX7_odds_124 (lv_at hl 5 rfl) ?_
        refine lv_if_ne (tgt := 137) hx hb dX7_odds_126 (by decide) (fun c_19 => ?_) (fun c_19 => ?_)
        · have h := h.2 c_19
          refine lv_iload hx hb dX7_odds_137 (lv_at hl 1 rfl) ?_
          refine lv_iload hx hb dX7_odds_139 (lv_at hl 0 rfl) ?_
          obtain ⟨hne, h⟩ := h
          refine lv_idiv hx hb dX7_odds_141 hne ?_
          exact W.iret (v := (r_16 / r_18)) hx hb hr (fun t ht hW => ⟨⟨(r_16 / r_18), S_17, rfl, h, gB_of ht hP⟩, hS.F ht⟩) hS.2.2 dX7_odds_142
        · have h := h.1 c_19
          refine lv_iload hx hb dX7_odds_129 (lv_at hl 6 rfl) ?_
          refine lv_iload hx hb dX7_odds_131 (lv_at hl 0 rfl) ?_
          obtain ⟨hne, h⟩ := h
          refine lv_idiv hx hb dX7_odds_133 hne ?_
          refine lv_goto (tgt := 142) hx hb dX7_odds_134 (by decide) ?_
          exact W.iret (v := (y5 / r_18)) hx hb hr (fun t ht hW => ⟨⟨(y5 / r_18), S_17, rfl, h, gB_of ht hP⟩, hS.F ht⟩) hS.2.2 dX7_odds_142
      · have h := h.2 c_14
        refine lv_iload hx hb dX7_odds_61 (lv_at hl 5 rfl) ?_
        refine rSi (As := [.int y6]) (rest := []) hX ⟨hx, hb, hml, hown, hT⟩ (c_X7_ones l D X hX H.size S y6 _ h) (gd_S wl_X7_197 wt_X7_ones wn_X7 wc_X7_ones) hd_X7_ones ⟨rfl, rfl⟩ ⟨Nat.le_of_ble_eq_true rfl, Nat.le_of_ble_eq_true rfl⟩ hK hP hS hF rfl hl.1 rfl (Nat.le_of_ble_eq_true rfl) dX7_odds_63 ⟨Nat.zero_le _, Nat.zero_le _⟩ (fun r_21 S_20 H locs h hP hS => ?_)
        refine lv_istore (lv' := [(7, .int r_21), (1, .int x1), (2, .int x2), (3, .int x3), (4, .int x4), (5, .int y5), (6, .int y6)]) hx hb dX7_odds_66 hl (by decide) rfl (fun ls hl => ?_)
        refine lv_iload hx hb dX7_odds_68 (lv_at hl 5 rfl) ?_
        refine lv_iload hx hb dX7_odds_70 (lv_at hl 0 rfl) ?_
        refine lv_iload_n hx hb dX7_odds_72 rfl (lv_at hl 3 rfl) ?_
        refine lv_icmp_lt (tgt := 97) hx hb dX7_odds_73 (by decide) (fun c_22 => ?_) (fun c_22 => ?_)
        · have h := h.1 c_22
          refine lv_iconst (v := 0) hx hb dX7_odds_97 (by decide) ?_
          refine lv_iadd hx hb dX7_odds_98 ?_
          refine lv_topi (fun x5_23 ex5_23 => ?_)
          have h := h x5_23 ex5_23
          refine lv_istore (lv' := [(5, .int x5_23), (7, .int r_21), (1, .int x1), (2, .int x2), (3, .int x3), (4, .int x4), (6, .int y6)]) hx hb dX7_odds_99 hl (by decide) rfl (fun ls hl => ?_)
          obtain ⟨x6_24, ex6_24⟩ : ∃ z : Int32, z = y6 + 1 := ⟨_, rfl⟩
          refine lv_iinc (v := x6_24) (lv' := [(6, .int x6_24), (5, .int x5_23), (7, .int r_21), (1, .int x1), (2, .int x2), (3, .int x3), (4, .int x4)]) hx hb dX7_odds_101 hl (k := 6) rfl (by rw [ex6_24]; rfl) (by decide) rfl (fun ls hl => ?_)
          have h := h x6_24 ex6_24
          refine lv_goto (tgt := 53) hx hb dX7_odds_104 (by decide) ?_
          exact ih x5_23 x6_24 S_20 H locs ls hP hS (lv_sub hl [3, 4, 5, 6, 1, 0] rfl) h
        · have h := h.2 c_22
          refine lv_bipush (v := 10) hx hb dX7_odds_76 (by decide) ?_
          refine lv_iload_n hx hb dX7_odds_78 rfl (lv_at hl 1 rfl) ?_
          refine lv_isub hx hb dX7_odds_79 ?_
          refine lv_iload hx hb dX7_odds_80 (lv_at hl 0 rfl) ?_
          refine rSi (As := [.int (10 - x1), .int r_21]) (rest := [.int y5]) hX ⟨hx, hb, hml, hown, hT⟩ (c_X7_power l D X hX H.size S_20 (10 - x1) r_21 _ h) (gd_S wl_X7_210 wt_X7_power wn_X7 wc_X7_power) hd_X7_power ⟨rfl, rfl⟩ ⟨Nat.le_of_ble_eq_true rfl, Nat.le_of_ble_eq_true rfl⟩ hK hP hS hF rfl hl.1 rfl (Nat.le_of_ble_eq_true rfl) dX7_odds_82 ⟨Nat.zero_le _, Nat.zero_le _⟩ (fun r_26 S_25 H locs h hP hS => ?_)
          refine lv_iload_n hx hb dX7_odds_85 rfl (lv_at hl 1 rfl) ?_
          refine lv_iload_n hx hb dX7_odds_86 rfl (lv_at hl 2 rfl) ?_
          refine lv_iload hx hb dX7_odds_87 (lv_at hl 0 rfl) ?_
          refine lv_isub hx hb dX7_odds_89 ?_
          refine rSi (As := [.int x1, .int (x2 - r_21)]) (rest := [.int r_26, .int y5]) hX ⟨hx, hb, hml, hown, hT⟩ (c_X7_power l D X hX H.size S_25 x1 (x2 - r_21) _ h) (gd_S wl_X7_210 wt_X7_power wn_X7 wc_X7_power) hd_X7_power ⟨rfl, rfl⟩ ⟨Nat.le_of_ble_eq_true rfl, Nat.le_of_ble_eq_true rfl⟩ hK hP hS hF rfl hl.1 rfl (Nat.le_of_ble_eq_true rfl) dX7_odds_90 ⟨Nat.zero_le _, Nat.zero_le _⟩ (fun r_28 S_27 H locs h hP hS => ?_)
          refine lv_imul hx hb dX7_odds_93 ?_
          refine lv_goto (tgt := 98) hx hb dX7_odds_94 (by decide) ?_
          refine lv_iadd hx hb dX7_odds_98 ?_
          refine lv_topi (fun x5_29 ex5_29 => ?_)
          have h := h x5_29 ex5_29
          refine lv_istore (lv' := [(5, .int x5_29), (7, .int r_21), (1, .int x1), (2, .int x2), (3, .int x3), (4, .int x4), (6, .int y6)]) hx hb dX7_odds_99 hl (by decide) rfl (fun ls hl => ?_)
          obtain ⟨x6_30, ex6_30⟩ : ∃ z : Int32, z = y6 + 1 := ⟨_, rfl⟩
          refine lv_iinc (v := x6_30) (lv' := [(6, .int x6_30), (5, .int x5_29), (7, .int r_21), (1, .int x1), (2, .int x2), (3, .int x3), (4, .int x4)]) hx hb dX7_odds_101 hl (k := 6) rfl (by rw [ex6_30]; rfl) (by decide) rfl (fun ls hl => ?_)
          have h := h x6_30 ex6_30
          refine lv_goto (tgt := 53) hx hb dX7_odds_104 (by decide) ?_
          exact ih x5_29 x6_30 S_27 H locs ls hP hS (lv_sub hl [3, 4, 5, 6, 1, 0] rfl) h
  have hl := lv_entry ([.ref (X.1 0), .int x1, .int x2, .int x3, .int x4]) (n := 8) (Nat.le_of_ble_eq_true rfl)
  rw [lg_entry_eq]
  generalize (lg_sl ([.ref (X.1 0), .int x1, .int x2, .int x3, .int x4]) ++ List.replicate (8 - (lg_sl ([.ref (X.1 0), .int x1, .int x2, .int x3, .int x4])).length) Slot.unset).toArray = ls at hl ⊢
  have hl : lv_has ls 8 [(0, .ref (X.1 0)), (1, .int x1), (2, .int x2), (3, .int x3), (4, .int x4)] := hl
  obtain ⟨H, hH⟩ : ∃ H : Heap, H = s.heap := ⟨_, rfl⟩
  obtain ⟨locs, hlc⟩ : ∃ q : List Loc, q = [] := ⟨_, rfl⟩
  have hS : va_S (AX 18 X.1 s.heap.size) s.heap H locs := by rw [hH, hlc]; exact hS
  have hP : va_P D vwCl (RW X S) H := by rw [hH]; exact hP
  show W p l e (headSpec (Cond.code yX7_odds cX7_odds 8 (some .int) :: lw_gd) rm_X7_odds).room s m ([.ref (X.1 0), .int x1, .int x2, .int x3, .int x4] : List Value).toArray below meth c s.heap [] 0 0 (MQ below (va_Qi post (gB D (RW X)) (AX 18 X.1 s.heap.size)) ([.ref (X.1 0), .int x1, .int x2, .int x3, .int x4] : List Value).toArray s 0 0 (AX 18 X.1 s.heap.size)) _
  suffices hgo : W p l e (headSpec (Cond.code yX7_odds cX7_odds 8 (some .int) :: lw_gd) rm_X7_odds).room s m ([.ref (X.1 0), .int x1, .int x2, .int x3, .int x4] : List Value).toArray below meth c H locs 0 0 (MQ below (va_Qi post (gB D (RW X)) (AX 18 X.1 s.heap.size)) ([.ref (X.1 0), .int x1, .int x2, .int x3, .int x4] : List Value).toArray s 0 0 (AX 18 X.1 s.heap.size)) (F0 m 0 ls []) from by rw [hH, hlc] at hgo; exact hgo
  unfold p_X7_odds at h
  refine lv_aload_n hx hb dX7_odds_0 rfl (lv_at hl 0 rfl) ?_
  refine lv_iconst (v := 0) hx hb dX7_odds_1 (by decide) ?_
  refine va_put (D := D) (ci := 7) (v := .int 0) (ty := .int) (C := RX7) (T := TX7) (N := 28) hx hb hT inX7 tyX7 tyX7_ok nmX7 hown hK hP (gw_D hX) hS 0 rw_Model rfl 0 (by decide) (hT _ wf_X7_68) (fun _ h9 => h9) rfl (by decide +kernel) rfl rfl (Nat.le_of_ble_eq_true rfl) dX7_odds_2 (fun H locs hP _ hS => ?_)
  have hP := rw_st (j := 0) (x := 0) rfl hP
  obtain ⟨S_1, eS_1⟩ : ∃ z : CS, z = sti S 0 0 0 := ⟨_, rfl⟩
  rw [← eS_1] at hP
  have h := h S_1 eS_1
  refine lv_iload_n hx hb dX7_odds_5 rfl (lv_at hl 1 rfl) ?_
  refine lv_iconst (v := 0) hx hb dX7_odds_6 (by decide) ?_
  refine lv_bipush (v := 10) hx hb dX7_odds_7 (by decide) ?_
  refine rSi (As := [.int x1, .int 0, .int 10]) (rest := []) hX ⟨hx, hb, hml, hown, hT⟩ (c_X7_in l D X hX H.size S_1 x1 0 10 _ h) (gd_S wl_X7_72 wt_X7_in wn_X7 wc_X7_in) hd_X7_in ⟨rfl, rfl⟩ ⟨Nat.le_of_ble_eq_true rfl, Nat.le_of_ble_eq_true rfl⟩ hK hP hS hF rfl hl.1 rfl (Nat.le_of_ble_eq_true rfl) dX7_odds_9 ⟨Nat.zero_le _, Nat.zero_le _⟩ (fun r_3 S_2 H locs h hP hS => ?_)
  refine lv_if_eq (tgt := 45) hx hb dX7_odds_12 (by decide) (fun c_4 => ?_) (fun c_4 => ?_)
  · have h := h.1 c_4
    refine lv_iconst (v := (-1)) hx hb dX7_odds_45 (by decide) ?_
    exact W.iret (v := (-1)) hx hb hr (fun t ht hW => ⟨⟨(-1), S_2, rfl, h, gB_of ht hP⟩, hS.F ht⟩) hS.2.2 dX7_odds_46
  · have h := h.2 c_4
    refine lv_iload_n hx hb dX7_odds_15 rfl (lv_at hl 2 rfl) ?_
    refine lv_iconst (v := 0) hx hb dX7_odds_16 (by decide) ?_
    refine lv_bipush (v := 6) hx hb dX7_odds_17 (by decide) ?_
    refine rSi (As := [.int x2, .int 0, .int 6]) (rest := []) hX ⟨hx, hb, hml, hown, hT⟩ (c_X7_in l D X hX H.size S_2 x2 0 6 _ h) (gd_S wl_X7_72 wt_X7_in wn_X7 wc_X7_in) hd_X7_in ⟨rfl, rfl⟩ ⟨Nat.le_of_ble_eq_true rfl, Nat.le_of_ble_eq_true rfl⟩ hK hP hS hF rfl hl.1 rfl (Nat.le_of_ble_eq_true rfl) dX7_odds_19 ⟨Nat.zero_le _, Nat.zero_le _⟩ (fun r_6 S_5 H locs h hP hS => ?_)
    refine lv_if_eq (tgt := 45) hx hb dX7_odds_22 (by decide) (fun c_7 => ?_) (fun c_7 => ?_)
    · have h := h.1 c_7
      refine lv_iconst (v := (-1)) hx hb dX7_odds_45 (by decide) ?_
      exact W.iret (v := (-1)) hx hb hr (fun t ht hW => ⟨⟨(-1), S_5, rfl, h, gB_of ht hP⟩, hS.F ht⟩) hS.2.2 dX7_odds_46
    · have h := h.2 c_7
      refine lv_iload_n hx hb dX7_odds_25 rfl (lv_at hl 3 rfl) ?_
      refine lv_iconst (v := 0) hx hb dX7_odds_26 (by decide) ?_
      refine lv_bipush (v := 6) hx hb dX7_odds_27 (by decide) ?_
      refine rSi (As := [.int x3, .int 0, .int 6]) (rest := []) hX ⟨hx, hb, hml, hown, hT⟩ (c_X7_in l D X hX H.size S_5 x3 0 6 _ h) (gd_S wl_X7_72 wt_X7_in wn_X7 wc_X7_in) hd_X7_in ⟨rfl, rfl⟩ ⟨Nat.le_of_ble_eq_true rfl, Nat.le_of_ble_eq_true rfl⟩ hK hP hS hF rfl hl.1 rfl (Nat.le_of_ble_eq_true rfl) dX7_odds_29 ⟨Nat.zero_le _, Nat.zero_le _⟩ (fun r_9 S_8 H locs h hP hS => ?_)
      refine lv_if_eq (tgt := 45) hx hb dX7_odds_32 (by decide) (fun c_10 => ?_) (fun c_10 => ?_)
      · have h := h.1 c_10
        refine lv_iconst (v := (-1)) hx hb dX7_odds_45 (by decide) ?_
        exact W.iret (v := (-1)) hx hb hr (fun t ht hW => ⟨⟨(-1), S_8, rfl, h, gB_of ht hP⟩, hS.F ht⟩) hS.2.2 dX7_odds_46
      · have h := h.2 c_10
        refine lv_iload hx hb dX7_odds_35 (lv_at hl 4 rfl) ?_
        refine lv_iconst (v := 0) hx hb dX7_odds_37 (by decide) ?_
        refine lv_iconst (v := 1) hx hb dX7_odds_38 (by decide) ?_
        refine rSi (As := [.int x4, .int 0, .int 1]) (rest := []) hX ⟨hx, hb, hml, hown, hT⟩ (c_X7_in l D X hX H.size S_8 x4 0 1 _ h) (gd_S wl_X7_72 wt_X7_in wn_X7 wc_X7_in) hd_X7_in ⟨rfl, rfl⟩ ⟨Nat.le_of_ble_eq_true rfl, Nat.le_of_ble_eq_true rfl⟩ hK hP hS hF rfl hl.1 rfl (Nat.le_of_ble_eq_true rfl) dX7_odds_39 ⟨Nat.zero_le _, Nat.zero_le _⟩ (fun r_12 S_11 H locs h hP hS => ?_)
        refine lv_if_ne (tgt := 47) hx hb dX7_odds_42 (by decide) (fun c_13 => ?_) (fun c_13 => ?_)
        · have h := h.2 c_13
          refine lv_iconst (v := 0) hx hb dX7_odds_47 (by decide) ?_
          refine lv_istore (lv' := [(5, .int 0), (0, .ref (X.1 0)), (1, .int x1), (2, .int x2), (3, .int x3), (4, .int x4)]) hx hb dX7_odds_48 hl (by decide) rfl (fun ls hl => ?_)
          refine lv_iconst (v := 0) hx hb dX7_odds_50 (by decide) ?_
          refine lv_istore (lv' := [(6, .int 0), (5, .int 0), (0, .ref (X.1 0)), (1, .int x1), (2, .int x2), (3, .int x3), (4, .int x4)]) hx hb dX7_odds_51 hl (by decide) rfl (fun ls hl => ?_)
          obtain ⟨n1, h⟩ := h
          exact W53  n1 0 0 S_11 H locs ls hP hS (lv_sub hl [3, 4, 5, 6, 1, 0] rfl) h
        · have h := h.1 c_13
          refine lv_iconst (v := (-1)) hx hb dX7_odds_45 (by decide) ?_
          exact W.iret (v := (-1)) hx hb hr (fun t ht hW => ⟨⟨(-1), S_11, rfl, h, gB_of ht hP⟩, hS.F ht⟩) hS.2.2 dX7_odds_46
