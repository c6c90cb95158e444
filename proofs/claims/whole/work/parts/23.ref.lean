abbrev rm_X7_plan : Room := { frames := 4, cells := 0, slots := 0, locals := 91 }
def q_X7_plan_138 (x1 : Int32) (x2 : Int32) (K60 : Int32 → Int32 → Int32 → CS → Prop) (post : Int32 → CS → Prop) : Nat → Int32 → Int32 → Int32 → Int32 → CS → Prop
  | 0, _, _, _, _, _ => False
  | n9 + 1, y3, y4, y5, y8, S => (x1 ≤ y8 → (∀ x5_20 : Int32, x5_20 = y5 + 1 → (K60 y3 y4 x5_20 S))) ∧ (¬ (x1 ≤ y8) → (vp_in y8 4 ∧ (∀ u_21 : Int32, u_21 = S.1 16 y8.toNatClampNeg → (vp_in y8 4 ∧ (∀ S_22 : CS, S_22 = sti S 17 y8.toNatClampNeg u_21 → (∀ x8_23 : Int32, x8_23 = y8 + 1 → (q_X7_plan_138 x1 x2 K60 post n9 y3 y4 y5 x8_23 S_22)))))))
def q_X7_plan_75 (x1 : Int32) (x2 : Int32) (K60 : Int32 → Int32 → Int32 → CS → Prop) (post : Int32 → CS → Prop) : Nat → Int32 → Int32 → Int32 → Int32 → Int32 → CS → Prop
  | 0, _, _, _, _, _, _ => False
  | n9 + 1, y3, y4, y5, y6, y7, S => (y7 < 0 → (p_X7_twigsBy S x1 (fun r_16 S_15 => ((r_16 ≤ y4 → (∀ x5_18 : Int32, x5_18 = y5 + 1 → (K60 y3 y4 x5_18 S_15))) ∧ (¬ (r_16 ≤ y4) → (∃ n, q_X7_plan_138 x1 x2 K60 post n y3 r_16 y5 0 S_15)))))) ∧ (¬ (y7 < 0) → ((¬ ((S.1 2 0) + 1) = 0) ∧ (∀ u_24 : Int32, u_24 = (y6 - y6 / ((S.1 2 0) + 1) * ((S.1 2 0) + 1)) → (vp_in y7 4 ∧ (∀ S_25 : CS, S_25 = sti S 16 y7.toNatClampNeg u_24 → ((¬ ((S_25.1 2 0) + 1) = 0) ∧ (∀ x6_26 : Int32, x6_26 = (y6 / ((S_25.1 2 0) + 1)) → (∀ x7_27 : Int32, x7_27 = y7 + (-1) → (q_X7_plan_75 x1 x2 K60 post n9 y3 y4 y5 x6_26 x7_27 S_25)))))))))
def q_X7_plan_60 (x1 : Int32) (x2 : Int32) (post : Int32 → CS → Prop) : Nat → Int32 → Int32 → Int32 → CS → Prop
  | 0, _, _, _, _ => False
  | n9 + 1, y3, y4, y5, S => (y3 ≤ y5 → ((x2 = (-1) → (post y4 S)) ∧ (¬ (x2 = (-1)) → ((x2 < x1 → (vp_in x2 4 ∧ (((S.1 17 x2.toNatClampNeg) = 0 → (post (-5) S)) ∧ (¬ ((S.1 17 x2.toNatClampNeg) = 0) → (vp_in x2 4 ∧ (post ((S.1 17 x2.toNatClampNeg) - 1) S)))))) ∧ (¬ (x2 < x1) → (post (-9) S)))))) ∧ (¬ (y3 ≤ y5) → (∀ x7_13 : Int32, x7_13 = (x1 - 1) → (∃ n, q_X7_plan_75 x1 x2 (fun y3' y4' y5' S9 => q_X7_plan_60 x1 x2 post n9 y3' y4' y5' S9) post n y3 y4 y5 y5 x7_13 S)))
def q_X7_plan_30 (x1 : Int32) (x2 : Int32) (post : Int32 → CS → Prop) : Nat → Int32 → Int32 → CS → Prop
  | 0, _, _, _ => False
  | n9 + 1, y3, y4, S => (x1 ≤ y4 → (∃ n, q_X7_plan_60 x1 x2 post n y3 (-9) 0 S)) ∧ (¬ (x1 ≤ y4) → (∀ x3_28 : Int32, x3_28 = (y3 * ((S.1 2 0) + 1)) → (∀ x4_29 : Int32, x4_29 = y4 + 1 → (q_X7_plan_30 x1 x2 post n9 x3_28 x4_29 S))))
def p_X7_plan (S : CS) (x1 : Int32) (x2 : Int32) (post : Int32 → CS → Prop) : Prop := ∀ S_1 : CS, S_1 = sti S 0 0 0 → (p_X7_in S_1 x1 1 4 (fun r_3 S_2 => ((r_3 = 0 → (post (-1) S_2)) ∧ (¬ (r_3 = 0) → (p_X7_in S_2 x2 (-1) 3 (fun r_6 S_5 => ((r_6 = 0 → (post (-1) S_5)) ∧ (¬ (r_6 = 0) → (∃ n, q_X7_plan_30 x1 x2 post n 1 0 S_5)))))))))
set_option maxHeartbeats 4000000 in
set_option maxRecDepth 100000 in
theorem c_X7_plan (l : Launch) (D : va_G) (X : XE) (hX : Inj 18 X.1) (sz : Nat) (S : CS) (x1 : Int32) (x2 : Int32) (post : Int32 → CS → Prop) (h : p_X7_plan S x1 x2 post) : Met l yX7_plan (Cond.code yX7_plan cX7_plan 9 (some .int) :: lw_gd) rm_X7_plan (gPc D (tyX X) (RW X) (FXr X) (AX 18 X.1 sz) sz S [.ref (X.1 0), .int x1, .int x2]) (va_Qi post (gB D (RW X)) (AX 18 X.1 sz)) 0 0 (AX 18 X.1 sz) := by
  refine Met.ofW (cc := cX7_plan) (maxL := 9) (ret := (some .int)) (by decide) rfl ?_
  intro p e s m args below meth c s₁ B hml hv
  obtain ⟨rfl, hsz, hP, hK, hF⟩ := hv
  have hx := B.exec
  have hb := B.bytes
  have hr := B.returns
  have hts := atoms_spec (ws := (Cond.code yX7_plan cX7_plan 9 (some .int) :: lw_gd)) B.pre
  have hT : ∀ w ∈ lw_gd, w.before _ s = true := fun w h9 => hts w (List.mem_cons_of_mem _ h9)
  have hown : s.vm.findClass RX7 = some m.cls := findClass_of_methodNamed B.named
  have hlocks := B.notSynchronized
  subst hsz
  have hS : va_S (AX 18 X.1 s.heap.size) s.heap s.heap [] := va_S.rf
  have W138 : ∀ (K60 : Int32 → Int32 → Int32 → CS → Prop), (∀ (y3 : Int32) (y4 : Int32) (y5 : Int32) (S : CS) (H : Heap) (locs : List Loc) (ls : Array Slot), va_P D vwCl (RW X S) H → va_S (AX 18 X.1 s.heap.size) s.heap H locs → lv_has ls 9 [(0, .ref (X.1 0)), (1, .int x1), (2, .int x2), (3, .int y3), (4, .int y4), (5, .int y5)] → K60 y3 y4 y5 S → W p l e (headSpec (Cond.code yX7_plan cX7_plan 9 (some .int) :: lw_gd) rm_X7_plan).room s m ([.ref (X.1 0), .int x1, .int x2] : List Value).toArray below meth c H locs 0 0 (MQ below (va_Qi post (gB D (RW X)) (AX 18 X.1 s.heap.size)) ([.ref (X.1 0), .int x1, .int x2] : List Value).toArray s 0 0 (AX 18 X.1 s.heap.size)) (F0 m 60 ls [])) → ∀ n1 : Nat, ∀ (y3 : Int32) (y4 : Int32) (y5 : Int32) (y8 : Int32) (S : CS) (H : Heap) (locs : List Loc) (ls : Array Slot), va_P D vwCl (RW X S) H → va_S (AX 18 X.1 s.heap.size) s.heap H locs → lv_has ls 9 [(0, .ref (X.1 0)), (1, .int x1), (2, .int x2), (3, .int y3), (4, .int y4), (5, .int y5), (8, .int y8)] → q_X7_plan_138 x1 x2 K60 post n1 y3 y4 y5 y8 S → W p l e (headSpec (Cond.code yX7_plan cX7_plan 9 (some .int) :: lw_gd) rm_X7_plan).room s m ([.ref (X.1 0), .int x1, .int x2] : List Value).toArray below meth c H locs 0 0 (MQ below (va_Qi post (gB D (RW X)) (AX 18 X.1 s.heap.size)) ([.ref (X.1 0), .int x1, .int x2] : List Value).toArray s 0 0 (AX 18 X.1 s.heap.size)) (F0 m 138 ls []) := by
    intro K60 hK60
    intro n1
    induction n1 with
    | zero => intro y3 y4 y5 y8 S H locs ls hP hS hl h; exact h.elim
    | succ n9 ih =>
      intro y3 y4 y5 y8 S H locs ls hP hS hl h
      rw [q_X7_plan_138] at h
      refine lv_iload hx hb dX7_plan_138 (lv_at hl 6 rfl) ?_
      refine lv_iload_n hx hb dX7_plan_140 rfl (lv_at hl 1 rfl) ?_
      refine lv_icmp_ge (tgt := 164) hx hb dX7_plan_141 (by decide) (fun c_19 => ?_) (fun c_19 => ?_)
      · have h := h.1 c_19
        obtain ⟨x5_20, ex5_20⟩ : ∃ z : Int32, z = y5 + 1 := ⟨_, rfl⟩
        refine lv_iinc (v := x5_20) (lv' := [(5, .int x5_20), (0, .ref (X.1 0)), (1, .int x1), (2, .int x2), (3, .int y3), (4, .int y4), (8, .int y8)]) hx hb dX7_plan_164 hl (k := 5) rfl (by rw [ex5_20]; rfl) (by decide) rfl (fun ls hl => ?_)
        have h := h x5_20 ex5_20
        refine lv_goto (tgt := 60) hx hb dX7_plan_167 (by decide) ?_
        exact hK60 y3 y4 x5_20 S H locs ls hP hS (lv_sub hl [1, 2, 3, 4, 5, 0] rfl) h
      · have h := h.2 c_19
        refine lv_aload_n hx hb dX7_plan_144 rfl (lv_at hl 0 rfl) ?_
        refine va_get (D := D) (ci := 7) (v := .ref (X.1 17)) (C := RX7) (T := TX7) (N := 28) hx hb hT inX7 hown hK hP 0 rw_Model rfl 27 (by decide) (hT _ wf_X7_59) (fun _ h9 => h9) rfl dX7_plan_145 ?_
        refine lv_iload hx hb dX7_plan_148 (lv_at hl 6 rfl) ?_
        refine lv_aload_n hx hb dX7_plan_150 rfl (lv_at hl 0 rfl) ?_
        refine va_get (D := D) (ci := 7) (v := .ref (X.1 16)) (C := RX7) (T := TX7) (N := 28) hx hb hT inX7 hown hK hP 0 rw_Model rfl 26 (by decide) (hT _ wf_X7_56) (fun _ h9 => h9) rfl dX7_plan_151 ?_
        refine lv_iload hx hb dX7_plan_154 (lv_at hl 6 rfl) ?_
        obtain ⟨hi, h⟩ := h
        refine g_iald hx hb hK hP 16 rw_16 rfl hi y8.toNatClampNeg rfl dX7_plan_156 ?_
        refine lv_topi (fun u_21 eu_21 => ?_)
        have h := h u_21 eu_21
        obtain ⟨hi, h⟩ := h
        refine g_iast hx hb hK hP (gw_D hX) hS 17 rw_17 rfl hi y8.toNatClampNeg rfl dX7_plan_157 (fun H locs hP hS => ?_)
        have hP := rw_st (j := y8.toNatClampNeg) (x := u_21) rfl hP
        obtain ⟨S_22, eS_22⟩ : ∃ z : CS, z = sti S 17 y8.toNatClampNeg u_21 := ⟨_, rfl⟩
        rw [← eS_22] at hP
        have h := h S_22 eS_22
        obtain ⟨x8_23, ex8_23⟩ : ∃ z : Int32, z = y8 + 1 := ⟨_, rfl⟩
        refine lv_iinc (v := x8_23) (lv' := [(8, .int x8_23), (0, .ref (X.1 0)), (1, .int x1), (2, .int x2), (3, .int y3), (4, .int y4), (5, .int y5)]) hx hb dX7_plan_158 hl (k := 6) rfl (by rw [ex8_23]; rfl) (by decide) rfl (fun ls hl => ?_)
        have h := h x8_23 ex8_23
        refine lv_goto (tgt := 138) hx hb dX7_plan_161 (by decide) ?_
        exact ih y3 y4 y5 x8_23 S_22 H locs ls hP hS (lv_sub hl [1, 2, 3, 4, 5, 6, 0] rfl) h
  have W75 : ∀ (K60 : Int32 → Int32 → Int32 → CS → Prop), (∀ (y3 : Int32) (y4 : Int32) (y5 : Int32) (S : CS) (H : Heap) (locs : List Loc) (ls : Array Slot), va_P D vwCl (RW X S) H → va_S (AX 18 X.1 s.heap.size) s.heap H locs → lv_has ls 9 [(0, .ref (X.1 0)), (1, .int x1), (2, .int x2), (3, .int y3), (4, .int y4), (5, .int y5)] → K60 y3 y4 y5 S → W p l e (headSpec (Cond.code yX7_plan cX7_plan 9 (some .int) :: lw_gd) rm_X7_plan).room s m ([.ref (X.1 0), .int x1, .int x2] : List Value).toArray below meth c H locs 0 0 (MQ below (va_Qi post (gB D (RW X)) (AX 18 X.1 s.heap.size)) ([.ref (X.1 0), .int x1, .int x2] : List Value).toArray s 0 0 (AX 18 X.1 s.heap.size)) (F0 m 60 ls [])) → ∀ n1 : Nat, ∀ (y3 : Int32) (y4 : Int32) (y5 : Int32) (y6 : Int32) (y7 : Int32) (S : CS) (H : Heap) (locs : List Loc) (ls : Array Slot), va_P D vwCl (RW X S) H → va_S (AX 18 X.1 s.heap.size) s.heap H locs → lv_has ls 9 [(0, .ref (X.1 0)), (1, .int x1), (2, .int x2), (3, .int y3), (4, .int y4), (5, .int y5), (6, .int y6), (7, .int y7)] → q_X7_plan_75 x1 x2 K60 post n1 y3 y4 y5 y6 y7 S → W p l e (headSpec (Cond.code yX7_plan cX7_plan 9 (some .int) :: lw_gd) rm_X7_plan).room s m ([.ref (X.1 0), .int x1, .int x2] : List Value).toArray below meth c H locs 0 0 (MQ below (va_Qi post (gB D (RW X)) (AX 18 X.1 s.heap.size)) ([.ref (X.1 0), .int x1, .int x2] : List Value).toArray s 0 0 (AX 18 X.1 s.heap.size)) (F0 m 75 ls []) := by
    intro K60 hK60
    intro n1
    induction n1 with
    | zero => intro y3 y4 y5 y6 y7 S H locs ls hP hS hl h; exact h.elim
    | succ n9 ih =>
      intro y3 y4 y5 y6 y7 S H locs ls hP hS hl h
      rw [q_X7_plan_75] at h
      refine lv_iload hx hb dX7_plan_75 (lv_at hl 7 rfl) ?_
      refine lv_if_lt (tgt := 117) hx hb dX7_plan_77 (by decide) (fun c_14 => ?_) (fun c_14 => ?_)
      · have h := h.1 c_14
        refine lv_aload_n hx hb dX7_plan_117 rfl (lv_at hl 0 rfl) ?_
        refine lv_iload_n hx hb dX7_plan_118 rfl (lv_at hl 1 rfl) ?_
        refine rVi (As := [.int x1]) (rest := []) hX ⟨hx, hb, hml, hown, hT⟩ (c_X7_twigsBy l D X hX H.size S x1 _ h) (gd_V wl_X7_178 wi_X7_twigsBy wv_X7_twigsBy wn_X7 wc_X7_twigsBy) rfl hd_X7_twigsBy ⟨rfl, rfl⟩ ⟨Nat.le_of_ble_eq_true rfl, Nat.le_of_ble_eq_true rfl⟩ (va_recv hK hP (ci := 7) (q0 := 0) rfl rw_Model) hK hP hS hF rfl hl.1 rfl (Nat.le_of_ble_eq_true rfl) dX7_plan_119 ⟨Nat.zero_le _, Nat.zero_le _⟩ (fun r_16 S_15 H locs h hP hS => ?_)
        refine lv_istore (lv' := [(7, .int r_16), (0, .ref (X.1 0)), (1, .int x1), (2, .int x2), (3, .int y3), (4, .int y4), (5, .int y5), (6, .int y6)]) hx hb dX7_plan_122 hl (by decide) rfl (fun ls hl => ?_)
        refine lv_iload hx hb dX7_plan_124 (lv_at hl 0 rfl) ?_
        refine lv_iload hx hb dX7_plan_126 (lv_at hl 5 rfl) ?_
        refine lv_icmp_le (tgt := 164) hx hb dX7_plan_128 (by decide) (fun c_17 => ?_) (fun c_17 => ?_)
        · have h := h.1 c_17
          obtain ⟨x5_18, ex5_18⟩ : ∃ z : Int32, z = y5 + 1 := ⟨_, rfl⟩
          refine lv_iinc (v := x5_18) (lv' := [(5, .int x5_18), (7, .int r_16), (0, .ref (X.1 0)), (1, .int x1), (2, .int x2), (3, .int y3), (4, .int y4), (6, .int y6)]) hx hb dX7_plan_164 hl (k := 6) rfl (by rw [ex5_18]; rfl) (by decide) rfl (fun ls hl => ?_)
          have h := h x5_18 ex5_18
          refine lv_goto (tgt := 60) hx hb dX7_plan_167 (by decide) ?_
          exact hK60 y3 y4 x5_18 S_15 H locs ls hP hS (lv_sub hl [2, 3, 4, 5, 6, 0] rfl) h
        · have h := h.2 c_17
          refine lv_iload hx hb dX7_plan_131 (lv_at hl 0 rfl) ?_
          refine lv_istore (lv' := [(4, .int r_16), (7, .int r_16), (0, .ref (X.1 0)), (1, .int x1), (2, .int x2), (3, .int y3), (5, .int y5), (6, .int y6)]) hx hb dX7_plan_133 hl (by decide) rfl (fun ls hl => ?_)
          refine lv_iconst (v := 0) hx hb dX7_plan_135 (by decide) ?_
          refine lv_istore (lv' := [(8, .int 0), (4, .int r_16), (7, .int r_16), (0, .ref (X.1 0)), (1, .int x1), (2, .int x2), (3, .int y3), (5, .int y5), (6, .int y6)]) hx hb dX7_plan_136 hl (by decide) rfl (fun ls hl => ?_)
          obtain ⟨n1, h⟩ := h
          exact W138 K60 hK60 n1 y3 r_16 y5 0 S_15 H locs ls hP hS (lv_sub hl [3, 4, 5, 6, 1, 7, 0] rfl) h
      · have h := h.2 c_14
        refine lv_aload_n hx hb dX7_plan_80 rfl (lv_at hl 0 rfl) ?_
        refine va_get (D := D) (ci := 7) (v := .ref (X.1 16)) (C := RX7) (T := TX7) (N := 28) hx hb hT inX7 hown hK hP 0 rw_Model rfl 26 (by decide) (hT _ wf_X7_56) (fun _ h9 => h9) rfl dX7_plan_81 ?_
        refine lv_iload hx hb dX7_plan_84 (lv_at hl 7 rfl) ?_
        refine lv_iload hx hb dX7_plan_86 (lv_at hl 6 rfl) ?_
        refine lv_aload_n hx hb dX7_plan_88 rfl (lv_at hl 0 rfl) ?_
        refine va_get (D := D) (ci := 7) (v := .ref (X.1 2)) (C := RX7) (T := TX7) (N := 28) hx hb hT inX7 hown hK hP 0 rw_Model rfl 9 (by decide) (hT _ wf_X7_13) (fun _ h9 => h9) rfl dX7_plan_89 ?_
        refine lv_iconst (v := 0) hx hb dX7_plan_92 (by decide) ?_
        refine g_iald hx hb hK hP 2 rw_2 rfl (vpc (by decide)) 0 rfl dX7_plan_93 ?_
        refine lv_iconst (v := 1) hx hb dX7_plan_94 (by decide) ?_
        refine lv_iadd hx hb dX7_plan_95 ?_
        obtain ⟨hne, h⟩ := h
        refine lv_irem hx hb dX7_plan_96 hne ?_
        refine lv_topi (fun u_24 eu_24 => ?_)
        have h := h u_24 eu_24
        obtain ⟨hi, h⟩ := h
        refine g_iast hx hb hK hP (gw_D hX) hS 16 rw_16 rfl hi y7.toNatClampNeg rfl dX7_plan_97 (fun H locs hP hS => ?_)
        have hP := rw_st (j := y7.toNatClampNeg) (x := u_24) rfl hP
        obtain ⟨S_25, eS_25⟩ : ∃ z : CS, z = sti S 16 y7.toNatClampNeg u_24 := ⟨_, rfl⟩
        rw [← eS_25] at hP
        have h := h S_25 eS_25
        refine lv_iload hx hb dX7_plan_98 (lv_at hl 6 rfl) ?_
        refine lv_aload_n hx hb dX7_plan_100 rfl (lv_at hl 0 rfl) ?_
        refine va_get (D := D) (ci := 7) (v := .ref (X.1 2)) (C := RX7) (T := TX7) (N := 28) hx hb hT inX7 hown hK hP 0 rw_Model rfl 9 (by decide) (hT _ wf_X7_13) (fun _ h9 => h9) rfl dX7_plan_101 ?_
        refine lv_iconst (v := 0) hx hb dX7_plan_104 (by decide) ?_
        refine g_iald hx hb hK hP 2 rw_2 rfl (vpc (by decide)) 0 rfl dX7_plan_105 ?_
        refine lv_iconst (v := 1) hx hb dX7_plan_106 (by decide) ?_
        refine lv_iadd hx hb dX7_plan_107 ?_
        obtain ⟨hne, h⟩ := h
        refine lv_idiv hx hb dX7_plan_108 hne ?_
        refine lv_topi (fun x6_26 ex6_26 => ?_)
        have h := h x6_26 ex6_26
        refine lv_istore (lv' := [(6, .int x6_26), (0, .ref (X.1 0)), (1, .int x1), (2, .int x2), (3, .int y3), (4, .int y4), (5, .int y5), (7, .int y7)]) hx hb dX7_plan_109 hl (by decide) rfl (fun ls hl => ?_)
        obtain ⟨x7_27, ex7_27⟩ : ∃ z : Int32, z = y7 + (-1) := ⟨_, rfl⟩
        refine lv_iinc (v := x7_27) (lv' := [(7, .int x7_27), (6, .int x6_26), (0, .ref (X.1 0)), (1, .int x1), (2, .int x2), (3, .int y3), (4, .int y4), (5, .int y5)]) hx hb dX7_plan_111 hl (k := 7) rfl (by rw [ex7_27]; rfl) (by decide) rfl (fun ls hl => ?_)
        have h := h x7_27 ex7_27
        refine lv_goto (tgt := 75) hx hb dX7_plan_114 (by decide) ?_
        exact ih y3 y4 y5 x6_26 x7_27 S_25 H locs ls hP hS (lv_sub hl [2, 3, 4, 5, 6, 7, 1, 0] rfl) h
  have W60 : ∀ n1 : Nat, ∀ (y3 : Int32) (y4 : Int32) (y5 : Int32) (S : CS) (H : Heap) (locs : List Loc) (ls : Array Slot), va_P D vwCl (RW X S) H → va_S (AX 18 X.1 s.heap.size) s.heap H locs → lv_has ls 9 [(0, .ref (X.1 0)), (1, .int x1), (2, .int x2), (3, .int y3), (4, .int y4), (5, .int y5)] → q_X7_plan_60 x1 x2 post n1 y3 y4 y5 S → W p l e (headSpec (Cond.code yX7_plan cX7_plan 9 (some .int) :: lw_gd) rm_X7_plan).room s m ([.ref (X.1 0), .int x1, .int x2] : List Value).toArray below meth c H locs 0 0 (MQ below (va_Qi post (gB D (RW X)) (AX 18 X.1 s.heap.size)) ([.ref (X.1 0), .int x1, .int x2] : List Value).toArray s 0 0 (AX 18 X.1 s.heap.size)) (F0 m 60 ls []) := by
    intro n1
    induction n1 with
    | zero => intro y3 y4 y5 S H locs ls hP hS hl h; exact h.elim
    | succ n9 ih =>
      intro y3 y4 y5 S H locs ls hP hS hl h
      rw [q_X7_plan_60] at h
      refine lv_iload hx hb dX7_plan_60 (lv_at hl 5 rfl) ?_
      refine lv_iload_n hx hb dX7_plan_62 rfl (lv_at hl 3 rfl) ?_
      refine lv_icmp_ge (tgt := 170) hx hb dX7_plan_63 (by decide) (fun c_9 => ?_) (fun c_9 => ?_)
      · have h := h.1 c_9
        refine lv_iload_n hx hb dX7_plan_170 rfl (lv_at hl 2 rfl) ?_
        refine lv_iconst (v := (-1)) hx hb dX7_plan_171 (by decide) ?_
        refine lv_icmp_ne (tgt := 180) hx hb dX7_plan_172 (by decide) (fun c_10 => ?_) (fun c_10 => ?_)
        · have h := h.2 c_10
          refine lv_iload_n hx hb dX7_plan_180 rfl (lv_at hl 2 rfl) ?_
          refine lv_iload_n hx hb dX7_plan_181 rfl (lv_at hl 1 rfl) ?_
          refine lv_icmp_lt (tgt := 190) hx hb dX7_plan_182 (by decide) (fun c_11 => ?_) (fun c_11 => ?_)
          · have h := h.1 c_11
            refine lv_aload_n hx hb dX7_plan_190 rfl (lv_at hl 0 rfl) ?_
            refine va_get (D := D) (ci := 7) (v := .ref (X.1 17)) (C := RX7) (T := TX7) (N := 28) hx hb hT inX7 hown hK hP 0 rw_Model rfl 27 (by decide) (hT _ wf_X7_59) (fun _ h9 => h9) rfl dX7_plan_191 ?_
            refine lv_iload_n hx hb dX7_plan_194 rfl (lv_at hl 2 rfl) ?_
            obtain ⟨hi, h⟩ := h
            refine g_iald hx hb hK hP 17 rw_17 rfl hi x2.toNatClampNeg rfl dX7_plan_195 ?_
            refine lv_if_ne (tgt := 204) hx hb dX7_plan_196 (by decide) (fun c_12 => ?_) (fun c_12 => ?_)
            · have h := h.2 c_12
              refine lv_aload_n hx hb dX7_plan_204 rfl (lv_at hl 0 rfl) ?_
              refine va_get (D := D) (ci := 7) (v := .ref (X.1 17)) (C := RX7) (T := TX7) (N := 28) hx hb hT inX7 hown hK hP 0 rw_Model rfl 27 (by decide) (hT _ wf_X7_59) (fun _ h9 => h9) rfl dX7_plan_205 ?_
              refine lv_iload_n hx hb dX7_plan_208 rfl (lv_at hl 2 rfl) ?_
              obtain ⟨hi, h⟩ := h
              refine g_iald hx hb hK hP 17 rw_17 rfl hi x2.toNatClampNeg rfl dX7_plan_209 ?_
              refine lv_iconst (v := 1) hx hb dX7_plan_210 (by decide) ?_
              refine lv_isub hx hb dX7_plan_211 ?_
              exact W.iret (v := ((S.1 17 x2.toNatClampNeg) - 1)) hx hb hr (fun t ht hW => ⟨⟨((S.1 17 x2.toNatClampNeg) - 1), S, rfl, h, gB_of ht hP⟩, hS.F ht⟩) hS.2.2 dX7_plan_212
            · have h := h.1 c_12
              refine lv_bipush (v := (-5)) hx hb dX7_plan_199 (by decide) ?_
              refine lv_goto (tgt := 212) hx hb dX7_plan_201 (by decide) ?_
              exact W.iret (v := (-5)) hx hb hr (fun t ht hW => ⟨⟨(-5), S, rfl, h, gB_of ht hP⟩, hS.F ht⟩) hS.2.2 dX7_plan_212
          · have h := h.2 c_11
            refine lv_bipush (v := (-9)) hx hb dX7_plan_185 (by decide) ?_
            refine lv_goto (tgt := 212) hx hb dX7_plan_187 (by decide) ?_
            exact W.iret (v := (-9)) hx hb hr (fun t ht hW => ⟨⟨(-9), S, rfl, h, gB_of ht hP⟩, hS.F ht⟩) hS.2.2 dX7_plan_212
        · have h := h.1 c_10
          refine lv_iload hx hb dX7_plan_175 (lv_at hl 4 rfl) ?_
          refine lv_goto (tgt := 212) hx hb dX7_plan_177 (by decide) ?_
          exact W.iret (v := y4) hx hb hr (fun t ht hW => ⟨⟨y4, S, rfl, h, gB_of ht hP⟩, hS.F ht⟩) hS.2.2 dX7_plan_212
      · have h := h.2 c_9
        refine lv_iload hx hb dX7_plan_66 (lv_at hl 5 rfl) ?_
        refine lv_istore (lv' := [(6, .int y5), (0, .ref (X.1 0)), (1, .int x1), (2, .int x2), (3, .int y3), (4, .int y4), (5, .int y5)]) hx hb dX7_plan_68 hl (by decide) rfl (fun ls hl => ?_)
        refine lv_iload_n hx hb dX7_plan_70 rfl (lv_at hl 2 rfl) ?_
        refine lv_iconst (v := 1) hx hb dX7_plan_71 (by decide) ?_
        refine lv_isub hx hb dX7_plan_72 ?_
        refine lv_topi (fun x7_13 ex7_13 => ?_)
        have h := h x7_13 ex7_13
        refine lv_istore (lv' := [(7, .int x7_13), (6, .int y5), (0, .ref (X.1 0)), (1, .int x1), (2, .int x2), (3, .int y3), (4, .int y4), (5, .int y5)]) hx hb dX7_plan_73 hl (by decide) rfl (fun ls hl => ?_)
        obtain ⟨n1, h⟩ := h
        exact W75 (fun y3' y4' y5' S9 => q_X7_plan_60 x1 x2 post n9 y3' y4' y5' S9) ih n1 y3 y4 y5 y5 x7_13 S H locs ls hP hS (lv_sub hl [2, 3, 4, 5, 6, 7, 1, 0] rfl) h
  have W30 : ∀ n1 : Nat, ∀ (y3 : Int32) (y4 : Int32) (S : CS) (H : Heap) (locs : List Loc) (ls : Array Slot), va_P D vwCl (RW X S) H → va_S (AX 18 X.1 s.heap.size) s.heap H locs → lv_has ls 9 [(0, .ref (X.1 0)), (1, .int x1), (2, .int x2), (3, .int y3), (4, .int y4)] → q_X7_plan_30 x1 x2 post n1 y3 y4 S → W p l e (headSpec (Cond.code yX7_plan cX7_plan 9 (some .int) :: lw_gd) rm_X7_plan).room s m ([.ref (X.1 0), .int x1, .int x2] : List Value).toArray below meth c H locs 0 0 (MQ below (va_Qi post (gB D (RW X)) (AX 18 X.1 s.heap.size)) ([.ref (X.1 0), .int x1, .int x2] : List Value).toArray s 0 0 (AX 18 X.1 s.heap.size)) (F0 m 30 ls []) := by
    intro n1
    induction n1 with
    | zero => intro y3 y4 S H locs ls hP hS hl h; exact h.elim
    | succ n9 ih =>
      intro y3 y4 S H locs ls hP hS hl h
      rw [q_X7_plan_30] at h
      refine lv_iload hx hb dX7_plan_30 (lv_at hl 4 rfl) ?_
      refine lv_iload_n hx hb dX7_plan_32 rfl (lv_at hl 1 rfl) ?_
      refine lv_icmp_ge (tgt := 53) hx hb dX7_plan_33 (by decide) (fun c_8 => ?_) (fun c_8 => ?_)
      · have h := h.1 c_8
        refine lv_bipush (v := (-9)) hx hb dX7_plan_53 (by decide) ?_
        refine lv_istore (lv' := [(4, .int (-9)), (0, .ref (X.1 0)), (1, .int x1), (2, .int x2), (3, .int y3)]) hx hb dX7_plan_55 hl (by decide) rfl (fun ls hl => ?_)
        refine lv_iconst (v := 0) hx hb dX7_plan_57 (by decide) ?_
        refine lv_istore (lv' := [(5, .int 0), (4, .int (-9)), (0, .ref (X.1 0)), (1, .int x1), (2, .int x2), (3, .int y3)]) hx hb dX7_plan_58 hl (by decide) rfl (fun ls hl => ?_)
        obtain ⟨n1, h⟩ := h
        exact W60  n1 y3 (-9) 0 S H locs ls hP hS (lv_sub hl [2, 3, 4, 5, 1, 0] rfl) h
      · have h := h.2 c_8
        refine lv_iload_n hx hb dX7_plan_36 rfl (lv_at hl 3 rfl) ?_
        refine lv_aload_n hx hb dX7_plan_37 rfl (lv_at hl 0 rfl) ?_
        refine va_get (D := D) (ci := 7) (v := .ref (X.1 2)) (C := RX7) (T := TX7) (N := 28) hx hb hT inX7 hown hK hP 0 rw_Model rfl 9 (by decide) (hT _ wf_X7_13) (fun _ h9 => h9) rfl dX7_plan_38 ?_
        refine lv_iconst (v := 0) hx hb dX7_plan_41 (by decide) ?_
        refine g_iald hx hb hK hP 2 rw_2 rfl (vpc (by decide)) 0 rfl dX7_plan_42 ?_
        refine lv_iconst (v := 1) hx hb dX7_plan_43 (by decide) ?_
        refine lv_iadd hx hb dX7_plan_44 ?_
        refine lv_imul hx hb dX7_plan_45 ?_
        refine lv_topi (fun x3_28 ex3_28 => ?_)
        have h := h x3_28 ex3_28
        refine lv_istore_n (lv' := [(3, .int x3_28), (0, .ref (X.1 0)), (1, .int x1), (2, .int x2), (4, .int y4)]) hx hb dX7_plan_46 rfl hl (by decide) rfl (fun ls hl => ?_)
        obtain ⟨x4_29, ex4_29⟩ : ∃ z : Int32, z = y4 + 1 := ⟨_, rfl⟩
        refine lv_iinc (v := x4_29) (lv' := [(4, .int x4_29), (3, .int x3_28), (0, .ref (X.1 0)), (1, .int x1), (2, .int x2)]) hx hb dX7_plan_47 hl (k := 4) rfl (by rw [ex4_29]; rfl) (by decide) rfl (fun ls hl => ?_)
        have h := h x4_29 ex4_29
        refine lv_goto (tgt := 30) hx hb dX7_plan_50 (by decide) ?_
        exact ih x3_28 x4_29 S H locs ls hP hS (lv_sub hl [2, 3, 4, 1, 0] rfl) h
  have hl := lv_entry ([.ref (X.1 0), .int x1, .int x2]) (n := 9) (Nat.le_of_ble_eq_true rfl)
  rw [lg_entry_eq]
  generalize (lg_sl ([.ref (X.1 0), .int x1, .int x2]) ++ List.replicate (9 - (lg_sl ([.ref (X.1 0), .int x1, .int x2])).length) Slot.unset).toArray = ls at hl ⊢
  have hl : lv_has ls 9 [(0, .ref (X.1 0)), (1, .int x1), (2, .int x2)] := hl
  obtain ⟨H, hH⟩ : ∃ H : Heap, H = s.heap := ⟨_, rfl⟩
  obtain ⟨locs, hlc⟩ : ∃ q : List Loc, q = [] := ⟨_, rfl⟩
  have hS : va_S (AX 18 X.1 s.heap.size) s.heap H locs := by rw [hH, hlc]; exact hS
  have hP : va_P D vwCl (RW X S) H := by rw [hH]; exact hP
  show W p l e (headSpec (Cond.code yX7_plan cX7_plan 9 (some .int) :: lw_gd) rm_X7_plan).room s m ([.ref (X.1 0), .int x1, .int x2] : List Value).toArray below meth c s.heap [] 0 0 (MQ below (va_Qi post (gB D (RW X)) (AX 18 X.1 s.heap.size)) ([.ref (X.1 0), .int x1, .int x2] : List Value).toArray s 0 0 (AX 18 X.1 s.heap.size)) _
  suffices hgo : W p l e (headSpec (Cond.code yX7_plan cX7_plan 9 (some .int) :: lw_gd) rm_X7_plan).room s m ([.ref (X.1 0), .int x1, .int x2] : List Value).toArray below meth c H locs 0 0 (MQ below (va_Qi post (gB D (RW X)) (AX 18 X.1 s.heap.size)) ([.ref (X.1 0), .int x1, .int x2] : List Value).toArray s 0 0 (AX 18 X.1 s.heap.size)) (F0 m 0 ls []) from by rw [hH, hlc] at hgo; exact hgo
  unfold p_X7_plan at h
  refine lv_aload_n hx hb dX7_plan_0 rfl (lv_at hl 0 rfl) ?_
  refine lv_iconst (v := 0) hx hb dX7_plan_1 (by decide) ?_
  refine va_put (D := D) (ci := 7) (v := .int 0) (ty := .int) (C := RX7) (T := TX7) (N := 28) hx hb hT inX7 tyX7 tyX7_ok nmX7 hown hK hP (gw_D hX) hS 0 rw_Model rfl 0 (by decide) (hT _ wf_X7_68) (fun _ h9 => h9) rfl (by decide +kernel) rfl rfl (Nat.le_of_ble_eq_true rfl) dX7_plan_2 (fun H locs hP _ hS => ?_)
  have hP := rw_st (j := 0) (x := 0) rfl hP
  obtain ⟨S_1, eS_1⟩ : ∃ z : CS, z = sti S 0 0 0 := ⟨_, rfl⟩
  rw [← eS_1] at hP
  have h := h S_1 eS_1
  refine lv_iload_n hx hb dX7_plan_5 rfl (lv_at hl 1 rfl) ?_
  refine lv_iconst (v := 1) hx hb dX7_plan_6 (by decide) ?_
  refine lv_iconst (v := 4) hx hb dX7_plan_7 (by decide) ?_
  refine rSi (As := [.int x1, .int 1, .int 4]) (rest := []) hX ⟨hx, hb, hml, hown, hT⟩ (c_X7_in l D X hX H.size S_1 x1 1 4 _ h) (gd_S wl_X7_72 wt_X7_in wn_X7 wc_X7_in) hd_X7_in ⟨rfl, rfl⟩ ⟨Nat.le_of_ble_eq_true rfl, Nat.le_of_ble_eq_true rfl⟩ hK hP hS hF rfl hl.1 rfl (Nat.le_of_ble_eq_true rfl) dX7_plan_8 ⟨Nat.zero_le _, Nat.zero_le _⟩ (fun r_3 S_2 H locs h hP hS => ?_)
  refine lv_if_eq (tgt := 23) hx hb dX7_plan_11 (by decide) (fun c_4 => ?_) (fun c_4 => ?_)
  · have h := h.1 c_4
    refine lv_iconst (v := (-1)) hx hb dX7_plan_23 (by decide) ?_
    exact W.iret (v := (-1)) hx hb hr (fun t ht hW => ⟨⟨(-1), S_2, rfl, h, gB_of ht hP⟩, hS.F ht⟩) hS.2.2 dX7_plan_24
  · have h := h.2 c_4
    refine lv_iload_n hx hb dX7_plan_14 rfl (lv_at hl 2 rfl) ?_
    refine lv_iconst (v := (-1)) hx hb dX7_plan_15 (by decide) ?_
    refine lv_iconst (v := 3) hx hb dX7_plan_16 (by decide) ?_
    refine rSi (As := [.int x2, .int (-1), .int 3]) (rest := []) hX ⟨hx, hb, hml, hown, hT⟩ (c_X7_in l D X hX H.size S_2 x2 (-1) 3 _ h) (gd_S wl_X7_72 wt_X7_in wn_X7 wc_X7_in) hd_X7_in ⟨rfl, rfl⟩ ⟨Nat.le_of_ble_eq_true rfl, Nat.le_of_ble_eq_true rfl⟩ hK hP hS hF rfl hl.1 rfl (Nat.le_of_ble_eq_true rfl) dX7_plan_17 ⟨Nat.zero_le _, Nat.zero_le _⟩ (fun r_6 S_5 H locs h hP hS => ?_)
    refine lv_if_ne (tgt := 25) hx hb dX7_plan_20 (by decide) (fun c_7 => ?_) (fun c_7 => ?_)
    · have h := h.2 c_7
      refine lv_iconst (v := 1) hx hb dX7_plan_25 (by decide) ?_
      refine lv_istore_n (lv' := [(3, .int 1), (0, .ref (X.1 0)), (1, .int x1), (2, .int x2)]) hx hb dX7_plan_26 rfl hl (by decide) rfl (fun ls hl => ?_)
      refine lv_iconst (v := 0) hx hb dX7_plan_27 (by decide) ?_
      refine lv_istore (lv' := [(4, .int 0), (3, .int 1), (0, .ref (X.1 0)), (1, .int x1), (2, .int x2)]) hx hb dX7_plan_28 hl (by decide) rfl (fun ls hl => ?_)
      obtain ⟨n1, h⟩ := h
      exact W30  n1 1 0 S_5 H locs ls hP hS (lv_sub hl [2, 3, 4, 1, 0] rfl) h
    · have h := h.1 c_7
      refine lv_iconst (v := (-1)) hx hb dX7_plan_23 (by decide) ?_
      exact W.iret (v := (-1)) hx hb hr (fun t ht hW => ⟨⟨(-1), S_5, rfl, h, gB_of ht hP⟩, hS.F ht⟩) hS.2.2 dX7_plan_24

abbrev rm_X7_besomsBy : Room := { frames := 0, cells := 0, slots := 0, locals := 0 }
def q_X7_besomsBy_48 (x1 : Int32) (x2 : Int32) (K5 : Int32 → Int32 → CS → Prop) (post : Int32 → CS → Prop) (y4 : Int32) (z0 : Int32) (S : CS) : Prop := ∀ x3_3 : Int32, x3_3 = (z0 + 0) → (∀ x4_4 : Int32, x4_4 = y4 + 1 → (K5 x3_3 x4_4 S))
def q_X7_besomsBy_5 (x1 : Int32) (x2 : Int32) (post : Int32 → CS → Prop) : Nat → Int32 → Int32 → CS → Prop
  | 0, _, _, _ => False
  | n9 + 1, y3, y4, S => ((S.1 2 1) ≤ y4 → (post y3 S)) ∧ (¬ ((S.1 2 1) ≤ y4) → ((((x1 >>> (y4 &&& 31)) &&& 1) = 1 → (vp_in y4 12 ∧ ((x2 < (S.1 5 y4.toNatClampNeg) → (q_X7_besomsBy_48 x1 x2 (fun y3' y4' S9 => q_X7_besomsBy_5 x1 x2 post n9 y3' y4' S9) post y4 y3 S)) ∧ (¬ (x2 < (S.1 5 y4.toNatClampNeg)) → (vp_in y4 12 ∧ (∀ x3_6 : Int32, x3_6 = (y3 + (S.1 6 y4.toNatClampNeg)) → (∀ x4_7 : Int32, x4_7 = y4 + 1 → (q_X7_besomsBy_5 x1 x2 post n9 x3_6 x4_7 S)))))))) ∧ (¬ (((x1 >>> (y4 &&& 31)) &&& 1) = 1) → (q_X7_besomsBy_48 x1 x2 (fun y3' y4' S9 => q_X7_besomsBy_5 x1 x2 post n9 y3' y4' S9) post y4 y3 S))))
def p_X7_besomsBy (S : CS) (x1 : Int32) (x2 : Int32) (post : Int32 → CS → Prop) : Prop := ∃ n, q_X7_besomsBy_5 x1 x2 post n 0 0 S
set_option maxHeartbeats 4000000 in
set_option maxRecDepth 100000 in
theorem c_X7_besomsBy (l : Launch) (D : va_G) (X : XE) (hX : Inj 18 X.1) (sz : Nat) (S : CS) (x1 : Int32) (x2 : Int32) (post : Int32 → CS → Prop) (h : p_X7_besomsBy S x1 x2 post) : Met l yX7_besomsBy (Cond.code yX7_besomsBy cX7_besomsBy 5 (some .int) :: lw_gd) rm_X7_besomsBy (gPc D (tyX X) (RW X) (FXr X) (AX 18 X.1 sz) sz S [.ref (X.1 0), .int x1, .int x2]) (va_Qi post (gB D (RW X)) (AX 18 X.1 sz)) 0 0 (AX 18 X.1 sz) := by
  refine Met.ofW (cc := cX7_besomsBy) (maxL := 5) (ret := (some .int)) (by decide) rfl ?_
  intro p e s m args below meth c s₁ B hml hv
  obtain ⟨rfl, hsz, hP, hK, hF⟩ := hv
  have hx := B.exec
  have hb := B.bytes
  have hr := B.returns
  have hts := atoms_spec (ws := (Cond.code yX7_besomsBy cX7_besomsBy 5 (some .int) :: lw_gd)) B.pre
  have hT : ∀ w ∈ lw_gd, w.before _ s = true := fun w h9 => hts w (List.mem_cons_of_mem _ h9)
  have hown : s.vm.findClass RX7 = some m.cls := findClass_of_methodNamed B.named
  have hlocks := B.notSynchronized
  subst hsz
  have hS : va_S (AX 18 X.1 s.heap.size) s.heap s.heap [] := va_S.rf
  have W48 : ∀ (K5 : Int32 → Int32 → CS → Prop), (∀ (y3 : Int32) (y4 : Int32) (S : CS) (H : Heap) (locs : List Loc) (ls : Array Slot), va_P D vwCl (RW X S) H → va_S (AX 18 X.1 s.heap.size) s.heap H locs → lv_has ls 5 [(0, .ref (X.1 0)), (1, .int x1), (2, .int x2), (3, .int y3), (4, .int y4)] → K5 y3 y4 S → W p l e (headSpec (Cond.code yX7_besomsBy cX7_besomsBy 5 (some .int) :: lw_gd) rm_X7_besomsBy).room s m ([.ref (X.1 0), .int x1, .int x2] : List Value).toArray below meth c H locs 0 0 (MQ below (va_Qi post (gB D (RW X)) (AX 18 X.1 s.heap.size)) ([.ref (X.1 0), .int x1, .int x2] : List Value).toArray s 0 0 (AX 18 X.1 s.heap.size)) (F0 m 5 ls [])) → ∀ (y4 : Int32) (z0 : Int32) (S : CS) (H : Heap) (locs : List Loc) (ls : Array Slot), va_P D vwCl (RW X S) H → va_S (AX 18 X.1 s.heap.size) s.heap H locs → lv_has ls 5 [(0, .ref (X.1 0)), (1, .int x1), (2, .int x2), (4, .int y4)] → q_X7_besomsBy_48 x1 x2 K5 post y4 z0 S → W p l e (headSpec (Cond.code yX7_besomsBy cX7_besomsBy 5 (some .int) :: lw_gd) rm_X7_besomsBy).room s m ([.ref (X.1 0), .int x1, .int x2] : List Value).toArray below meth c H locs 0 0 (MQ below (va_Qi post (gB D (RW X)) (AX 18 X.1 s.heap.size)) ([.ref (X.1 0), .int x1, .int x2] : List Value).toArray s 0 0 (AX 18 X.1 s.heap.size)) (F0 m 48 ls [.int z0]) := by
    intro K5 hK5 y4 z0 S H locs ls hP hS hl h
    unfold q_X7_besomsBy_48 at h
    refine lv_iconst (v := 0) hx hb dX7_besomsBy_48 (by decide) ?_
    refine lv_iadd hx hb dX7_besomsBy_49 ?_
    refine lv_topi (fun x3_3 ex3_3 => ?_)
    have h := h x3_3 ex3_3
    refine lv_istore_n (lv' := [(3, .int x3_3), (0, .ref (X.1 0)), (1, .int x1), (2, .int x2), (4, .int y4)]) hx hb dX7_besomsBy_50 rfl hl (by decide) rfl (fun ls hl => ?_)
    obtain ⟨x4_4, ex4_4⟩ : ∃ z : Int32, z = y4 + 1 := ⟨_, rfl⟩
    refine lv_iinc (v := x4_4) (lv' := [(4, .int x4_4), (3, .int x3_3), (0, .ref (X.1 0)), (1, .int x1), (2, .int x2)]) hx hb dX7_besomsBy_51 hl (k := 4) rfl (by rw [ex4_4]; rfl) (by decide) rfl (fun ls hl => ?_)
    have h := h x4_4 ex4_4
    refine lv_goto (tgt := 5) hx hb dX7_besomsBy_54 (by decide) ?_
    exact hK5 x3_3 x4_4 S H locs ls hP hS (lv_sub hl [2, 3, 4, 1, 0] rfl) h
  have W5 : ∀ n1 : Nat, ∀ (y3 : Int32) (y4 : Int32) (S : CS) (H : Heap) (locs : List Loc) (ls : Array Slot), va_P D vwCl (RW X S) H → va_S (AX 18 X.1 s.heap.size) s.heap H locs → lv_has ls 5 [(0, .ref (X.1 0)), (1, .int x1), (2, .int x2), (3, .int y3), (4, .int y4)] → q_X7_besomsBy_5 x1 x2 post n1 y3 y4 S → W p l e (headSpec (Cond.code yX7_besomsBy cX7_besomsBy 5 (some .int) :: lw_gd) rm_X7_besomsBy).room s m ([.ref (X.1 0), .int x1, .int x2] : List Value).toArray below meth c H locs 0 0 (MQ below (va_Qi post (gB D (RW X)) (AX 18 X.1 s.heap.size)) ([.ref (X.1 0), .int x1, .int x2] : List Value).toArray s 0 0 (AX 18 X.1 s.heap.size)) (F0 m 5 ls []) := by
    intro n1
    induction n1 with
    | zero => intro y3 y4 S H locs ls hP hS hl h; exact h.elim
    | succ n9 ih =>
      intro y3 y4 S H locs ls hP hS hl h
      rw [q_X7_besomsBy_5] at h
      refine lv_iload hx hb dX7_besomsBy_5 (lv_at hl 4 rfl) ?_
      refine lv_aload_n hx hb dX7_besomsBy_7 rfl (lv_at hl 0 rfl) ?_
      refine va_get (D := D) (ci := 7) (v := .ref (X.1 2)) (C := RX7) (T := TX7) (N := 28) hx hb hT inX7 hown hK hP 0 rw_Model rfl 9 (by decide) (hT _ wf_X7_13) (fun _ h9 => h9) rfl dX7_besomsBy_8 ?_
      refine lv_iconst (v := 1) hx hb dX7_besomsBy_11 (by decide) ?_
      refine g_iald hx hb hK hP 2 rw_2 rfl (vpc (by decide)) 1 rfl dX7_besomsBy_12 ?_
      refine lv_icmp_ge (tgt := 57) hx hb dX7_besomsBy_13 (by decide) (fun c_1 => ?_) (fun c_1 => ?_)
      · have h := h.1 c_1
        refine lv_iload_n hx hb dX7_besomsBy_57 rfl (lv_at hl 3 rfl) ?_
        exact W.iret (v := y3) hx hb hr (fun t ht hW => ⟨⟨y3, S, rfl, h, gB_of ht hP⟩, hS.F ht⟩) hS.2.2 dX7_besomsBy_58
      · have h := h.2 c_1
        refine lv_iload_n hx hb dX7_besomsBy_16 rfl (lv_at hl 3 rfl) ?_
        refine lv_iload_n hx hb dX7_besomsBy_17 rfl (lv_at hl 1 rfl) ?_
        refine lv_iload hx hb dX7_besomsBy_18 (lv_at hl 4 rfl) ?_
        refine lv_ishr hx hb dX7_besomsBy_20 ?_
        refine lv_iconst (v := 1) hx hb dX7_besomsBy_21 (by decide) ?_
        refine lv_iand hx hb dX7_besomsBy_22 ?_
        refine lv_iconst (v := 1) hx hb dX7_besomsBy_23 (by decide) ?_
        refine lv_icmp_ne (tgt := 48) hx hb dX7_besomsBy_24 (by decide) (fun c_2 => ?_) (fun c_2 => ?_)
        · have h := h.2 c_2
          exact W48 (fun y3' y4' S9 => q_X7_besomsBy_5 x1 x2 post n9 y3' y4' S9) ih y4 y3 S H locs ls hP hS (lv_sub hl [0, 1, 2, 4] rfl) h
        · have h := h.1 c_2
          refine lv_aload_n hx hb dX7_besomsBy_27 rfl (lv_at hl 0 rfl) ?_
          refine va_get (D := D) (ci := 7) (v := .ref (X.1 5)) (C := RX7) (T := TX7) (N := 28) hx hb hT inX7 hown hK hP 0 rw_Model rfl 13 (by decide) (hT _ wf_X7_22) (fun _ h9 => h9) rfl dX7_besomsBy_28 ?_
          refine lv_iload hx hb dX7_besomsBy_31 (lv_at hl 4 rfl) ?_
          obtain ⟨hi, h⟩ := h
          refine g_iald hx hb hK hP 5 rw_5 rfl hi y4.toNatClampNeg rfl dX7_besomsBy_33 ?_
          refine lv_iload_n hx hb dX7_besomsBy_34 rfl (lv_at hl 2 rfl) ?_
          refine lv_icmp_gt (tgt := 48) hx hb dX7_besomsBy_35 (by decide) (fun c_5 => ?_) (fun c_5 => ?_)
          · have h := h.1 c_5
            exact W48 (fun y3' y4' S9 => q_X7_besomsBy_5 x1 x2 post n9 y3' y4' S9) ih y4 y3 S H locs ls hP hS (lv_sub hl [0, 1, 2, 4] rfl) h
          · have h := h.2 c_5
            refine lv_aload_n hx hb dX7_besomsBy_38 rfl (lv_at hl 0 rfl) ?_
            refine va_get (D := D) (ci := 7) (v := .ref (X.1 6)) (C := RX7) (T := TX7) (N := 28) hx hb hT inX7 hown hK hP 0 rw_Model rfl 14 (by decide) (hT _ wf_X7_25) (fun _ h9 => h9) rfl dX7_besomsBy_39 ?_
            refine lv_iload hx hb dX7_besomsBy_42 (lv_at hl 4 rfl) ?_
            obtain ⟨hi, h⟩ := h
            refine g_iald hx hb hK hP 6 rw_6 rfl hi y4.toNatClampNeg rfl dX7_besomsBy_44 ?_
            refine lv_goto (tgt := 49) hx hb dX7_besomsBy_45 (by decide) ?_
            refine lv_iadd hx hb dX7_besomsBy_49 ?_
            refine lv_topi (fun x3_6 ex3_6 => ?_)
            have h := h x3_6 ex3_6
            refine lv_istore_n (lv' := [(3, .int x3_6), (0, .ref (X.1 0)), (1, .int x1), (2, .int x2), (4, .int y4)]) hx hb dX7_besomsBy_50 rfl hl (by decide) rfl (fun ls hl => ?_)
            obtain ⟨x4_7, ex4_7⟩ : ∃ z : Int32, z = y4 + 1 := ⟨_, rfl⟩
            refine lv_iinc (v := x4_7) (lv' := [(4, .int x4_7), (3, .int x3_6), (0, .ref (X.1 0)), (1, .int x1), (2, .int x2)]) hx hb dX7_besomsBy_51 hl (k := 4) rfl (by rw [ex4_7]; rfl) (by decide) rfl (fun ls hl => ?_)
            have h := h x4_7 ex4_7
            refine lv_goto (tgt := 5) hx hb dX7_besomsBy_54 (by decide) ?_
            exact ih x3_6 x4_7 S H locs ls hP hS (lv_sub hl [2, 3, 4, 1, 0] rfl) h
  have hl := lv_entry ([.ref (X.1 0), .int x1, .int x2]) (n := 5) (Nat.le_of_ble_eq_true rfl)
  rw [lg_entry_eq]
  generalize (lg_sl ([.ref (X.1 0), .int x1, .int x2]) ++ List.replicate (5 - (lg_sl ([.ref (X.1 0), .int x1, .int x2])).length) Slot.unset).toArray = ls at hl ⊢
  have hl : lv_has ls 5 [(0, .ref (X.1 0)), (1, .int x1), (2, .int x2)] := hl
  obtain ⟨H, hH⟩ : ∃ H : Heap, H = s.heap := ⟨_, rfl⟩
  obtain ⟨locs, hlc⟩ : ∃ q : List Loc, q = [] := ⟨_, rfl⟩
  have hS : va_S (AX 18 X.1 s.heap.size) s.heap H locs := by rw [hH, hlc]; exact hS
  have hP : va_P D vwCl (RW X S) H := by rw [hH]; exact hP
  show W p l e (headSpec (Cond.code yX7_besomsBy cX7_besomsBy 5 (some .int) :: lw_gd) rm_X7_besomsBy).room s m ([.ref (X.1 0), .int x1, .int x2] : List Value).toArray below meth c s.heap [] 0 0 (MQ below (va_Qi post (gB D (RW X)) (AX 18 X.1 s.heap.size)) ([.ref (X.1 0), .int x1, .int x2] : List Value).toArray s 0 0 (AX 18 X.1 s.heap.size)) _
  suffices hgo : W p l e (headSpec (Cond.code yX7_besomsBy cX7_besomsBy 5 (some .int) :: lw_gd) rm_X7_besomsBy).room s m ([.ref (X.1 0), .int x1, .int x2] : List Value).toArray below meth c H locs 0 0 (MQ below (va_Qi post (gB D (RW X)) (AX 18 X.1 s.heap.size)) ([.ref (X.1 0), .int x1, .int x2] : List Value).toArray s 0 0 (AX 18 X.1 s.heap.size)) (F0 m 0 ls []) from by rw [hH, hlc] at hgo; exact hgo
  unfold p_X7_besomsBy at h
  refine lv_iconst (v := 0) hx hb dX7_besomsBy_0 (by decide) ?_
  refine lv_istore_n (lv' := [(3, .int 0), (0, .ref (X.1 0)), (1, .int x1), (2, .int x2)]) hx hb dX7_besomsBy_1 rfl hl (by decide) rfl (fun ls hl => ?_)
  refine lv_iconst (v := 0) hx hb dX7_besomsBy_2 (by decide) ?_
  refine lv_istore (lv' := [(4, .int 0), (3, .int 0), (0, .ref (X.1 0)), (1, .int x1), (2, .int x2)]) hx hb dX7_besomsBy_3 hl (by decide) rfl (fun ls hl => ?_)
  obtain ⟨n1, h⟩ := h
  exact W5  n1 0 0 S H locs ls hP hS (lv_sub hl [2, 3, 4, 1, 0] rfl) h

abbrev rm_X7_canBeKept : Room := { frames := 1, cells := 0, slots := 0, locals := 24 }
def q_X7_canBeKept_45 (x1 : Int32) (post : Int32 → CS → Prop) : Nat → Int32 → Int32 → CS → Prop
  | 0, _, _, _ => False
  | n9 + 1, y3, y4, S => ((S.1 2 1) ≤ y4 → ((narrow .boolean (.int y3) = .int y3) ∧ (post y3 S))) ∧ (¬ ((S.1 2 1) ≤ y4) → ((((x1 >>> (y4 &&& 31)) &&& 1) = 1 → (vp_in y4 12 ∧ (∀ x5_8 : Int32, x5_8 = ((S.1 5 y4.toNatClampNeg) - (S.1 8 0)) → ((y3 = 0 → (∀ x4_10 : Int32, x4_10 = y4 + 1 → (q_X7_canBeKept_45 x1 post n9 0 x4_10 S))) ∧ (¬ (y3 = 0) → (p_X7_isSent S y4 (fun r_12 S_11 => ((r_12 = 0 → ((x5_8 < 0 → (∀ x4_16 : Int32, x4_16 = y4 + 1 → (q_X7_canBeKept_45 x1 post n9 0 x4_16 S_11))) ∧ (¬ (x5_8 < 0) → (vp_in y4 12 ∧ (p_X7_besomsBy S_11 x1 (S_11.1 5 y4.toNatClampNeg) (fun r_18 S_17 => ((((S_17.1 8 3) + ((S_17.1 2 4) * x5_8)) < r_18 → (∀ x4_20 : Int32, x4_20 = y4 + 1 → (q_X7_canBeKept_45 x1 post n9 0 x4_20 S_17))) ∧ (¬ (((S_17.1 8 3) + ((S_17.1 2 4) * x5_8)) < r_18) → (∀ x4_21 : Int32, x4_21 = y4 + 1 → (q_X7_canBeKept_45 x1 post n9 1 x4_21 S_17)))))))))) ∧ (¬ (r_12 = 0) → (∀ x4_14 : Int32, x4_14 = y4 + 1 → (q_X7_canBeKept_45 x1 post n9 0 x4_14 S_11))))))))))) ∧ (¬ (((x1 >>> (y4 &&& 31)) &&& 1) = 1) → (∀ x4_7 : Int32, x4_7 = y4 + 1 → (q_X7_canBeKept_45 x1 post n9 y3 x4_7 S)))))
def q_X7_canBeKept_36 (x1 : Int32) (post : Int32 → CS → Prop) (S : CS) : Prop := ∃ n, q_X7_canBeKept_45 x1 post n 1 0 S
def p_X7_canBeKept (S : CS) (x1 : Int32) (post : Int32 → CS → Prop) : Prop := p_X7_besomsBy S x1 60 (fun r_2 S_1 => (∀ x2_3 : Int32, x2_3 = (r_2 - (S_1.1 8 3)) → ((x2_3 ≤ 0 → (q_X7_canBeKept_36 x1 post  S_1)) ∧ (¬ (x2_3 ≤ 0) → (((S_1.1 8 2) < (x2_3 * (S_1.1 2 3)) → (∃ n, q_X7_canBeKept_45 x1 post n 0 0 S_1)) ∧ (¬ ((S_1.1 8 2) < (x2_3 * (S_1.1 2 3))) → (q_X7_canBeKept_36 x1 post  S_1)))))))
set_option maxHeartbeats 4000000 in
set_option maxRecDepth 100000 in
theorem c_X7_canBeKept (l : Launch) (D : va_G) (X : XE) (hX : Inj 18 X.1) (sz : Nat) (S : CS) (x1 : Int32) (post : Int32 → CS → Prop) (h : p_X7_canBeKept S x1 post) : Met l yX7_canBeKept (Cond.code yX7_canBeKept cX7_canBeKept 6 (some .boolean) :: lw_gd) rm_X7_canBeKept (gPc D (tyX X) (RW X) (FXr X) (AX 18 X.1 sz) sz S [.ref (X.1 0), .int x1]) (va_Qi post (gB D (RW X)) (AX 18 X.1 sz)) 0 0 (AX 18 X.1 sz) := by
  refine Met.ofW (cc := cX7_canBeKept) (maxL := 6) (ret := (some .boolean)) (by decide) rfl ?_
  intro p e s m args below meth c s₁ B hml hv
  obtain ⟨rfl, hsz, hP, hK, hF⟩ := hv
  have hx := B.exec
  have hb := B.bytes
  have hr := B.returns
  have hts := atoms_spec (ws := (Cond.code yX7_canBeKept cX7_canBeKept 6 (some .boolean) :: lw_gd)) B.pre
  have hT : ∀ w ∈ lw_gd, w.before _ s = true := fun w h9 => hts w (List.mem_cons_of_mem _ h9)
  have hown : s.vm.findClass RX7 = some m.cls := findClass_of_methodNamed B.named
  have hlocks := B.notSynchronized
  subst hsz
  have hS : va_S (AX 18 X.1 s.heap.size) s.heap s.heap [] := va_S.rf
  have W45 : ∀ n1 : Nat, ∀ (y3 : Int32) (y4 : Int32) (S : CS) (H : Heap) (locs : List Loc) (ls : Array Slot), va_P D vwCl (RW X S) H → va_S (AX 18 X.1 s.heap.size) s.heap H locs → lv_has ls 6 [(0, .ref (X.1 0)), (1, .int x1), (3, .int y3), (4, .int y4)] → q_X7_canBeKept_45 x1 post n1 y3 y4 S → W p l e (headSpec (Cond.code yX7_canBeKept cX7_canBeKept 6 (some .boolean) :: lw_gd) rm_X7_canBeKept).room s m ([.ref (X.1 0), .int x1] : List Value).toArray below meth c H locs 0 0 (MQ below (va_Qi post (gB D (RW X)) (AX 18 X.1 s.heap.size)) ([.ref (X.1 0), .int x1] : List Value).toArray s 0 0 (AX 18 X.1 s.heap.size)) (F0 m 45 ls []) := by
    intro n1
    induction n1 with
    | zero => intro y3 y4 S H locs ls hP hS hl h; exact h.elim
    | succ n9 ih =>
      intro y3 y4 S H locs ls hP hS hl h
      rw [q_X7_canBeKept_45] at h
      refine lv_iload hx hb dX7_canBeKept_45 (lv_at hl 3 rfl) ?_
      refine lv_aload_n hx hb dX7_canBeKept_47 rfl (lv_at hl 0 rfl) ?_
      refine va_get (D := D) (ci := 7) (v := .ref (X.1 2)) (C := RX7) (T := TX7) (N := 28) hx hb hT inX7 hown hK hP 0 rw_Model rfl 9 (by decide) (hT _ wf_X7_13) (fun _ h9 => h9) rfl dX7_canBeKept_48 ?_
      refine lv_iconst (v := 1) hx hb dX7_canBeKept_51 (by decide) ?_
      refine g_iald hx hb hK hP 2 rw_2 rfl (vpc (by decide)) 1 rfl dX7_canBeKept_52 ?_
      refine lv_icmp_ge (tgt := 143) hx hb dX7_canBeKept_53 (by decide) (fun c_5 => ?_) (fun c_5 => ?_)
      · have h := h.1 c_5
        refine lv_iload_n hx hb dX7_canBeKept_143 rfl (lv_at hl 2 rfl) ?_
        obtain ⟨hn, h⟩ := h
        exact W.zret (v := y3) hx hb hr hn (fun t ht hW => ⟨⟨y3, S, rfl, h, gB_of ht hP⟩, hS.F ht⟩) hS.2.2 dX7_canBeKept_144
      · have h := h.2 c_5
        refine lv_iload_n hx hb dX7_canBeKept_56 rfl (lv_at hl 1 rfl) ?_
        refine lv_iload hx hb dX7_canBeKept_57 (lv_at hl 3 rfl) ?_
        refine lv_ishr hx hb dX7_canBeKept_59 ?_
        refine lv_iconst (v := 1) hx hb dX7_canBeKept_60 (by decide) ?_
        refine lv_iand hx hb dX7_canBeKept_61 ?_
        refine lv_iconst (v := 1) hx hb dX7_canBeKept_62 (by decide) ?_
        refine lv_icmp_ne (tgt := 137) hx hb dX7_canBeKept_63 (by decide) (fun c_6 => ?_) (fun c_6 => ?_)
        · have h := h.2 c_6
          obtain ⟨x4_7, ex4_7⟩ : ∃ z : Int32, z = y4 + 1 := ⟨_, rfl⟩
          refine lv_iinc (v := x4_7) (lv' := [(4, .int x4_7), (0, .ref (X.1 0)), (1, .int x1), (3, .int y3)]) hx hb dX7_canBeKept_137 hl (k := 3) rfl (by rw [ex4_7]; rfl) (by decide) rfl (fun ls hl => ?_)
          have h := h x4_7 ex4_7
          refine lv_goto (tgt := 45) hx hb dX7_canBeKept_140 (by decide) ?_
          exact ih y3 x4_7 S H locs ls hP hS (lv_sub hl [1, 2, 3, 0] rfl) h
        · have h := h.1 c_6
          refine lv_aload_n hx hb dX7_canBeKept_66 rfl (lv_at hl 0 rfl) ?_
          refine va_get (D := D) (ci := 7) (v := .ref (X.1 5)) (C := RX7) (T := TX7) (N := 28) hx hb hT inX7 hown hK hP 0 rw_Model rfl 13 (by decide) (hT _ wf_X7_22) (fun _ h9 => h9) rfl dX7_canBeKept_67 ?_
          refine lv_iload hx hb dX7_canBeKept_70 (lv_at hl 3 rfl) ?_
          obtain ⟨hi, h⟩ := h
          refine g_iald hx hb hK hP 5 rw_5 rfl hi y4.toNatClampNeg rfl dX7_canBeKept_72 ?_
          refine lv_aload_n hx hb dX7_canBeKept_73 rfl (lv_at hl 0 rfl) ?_
          refine va_get (D := D) (ci := 7) (v := .ref (X.1 8)) (C := RX7) (T := TX7) (N := 28) hx hb hT inX7 hown hK hP 0 rw_Model rfl 16 (by decide) (hT _ wf_X7_31) (fun _ h9 => h9) rfl dX7_canBeKept_74 ?_
          refine lv_iconst (v := 0) hx hb dX7_canBeKept_77 (by decide) ?_
          refine g_iald hx hb hK hP 8 rw_8 rfl (vpc (by decide)) 0 rfl dX7_canBeKept_78 ?_
          refine lv_isub hx hb dX7_canBeKept_79 ?_
          refine lv_topi (fun x5_8 ex5_8 => ?_)
          have h := h x5_8 ex5_8
          refine lv_istore (lv' := [(5, .int x5_8), (0, .ref (X.1 0)), (1, .int x1), (3, .int y3), (4, .int y4)]) hx hb dX7_canBeKept_80 hl (by decide) rfl (fun ls hl => ?_)
          refine lv_iload_n hx hb dX7_canBeKept_82 rfl (lv_at hl 3 rfl) ?_
          refine lv_if_eq (tgt := 135) hx hb dX7_canBeKept_83 (by decide) (fun c_9 => ?_) (fun c_9 => ?_)
          · have h := h.1 c_9
            refine lv_iconst (v := 0) hx hb dX7_canBeKept_135 (by decide) ?_
            refine lv_istore_n (lv' := [(3, .int 0), (5, .int x5_8), (0, .ref (X.1 0)), (1, .int x1), (4, .int y4)]) hx hb dX7_canBeKept_136 rfl hl (by decide) rfl (fun ls hl => ?_)
            obtain ⟨x4_10, ex4_10⟩ : ∃ z : Int32, z = y4 + 1 := ⟨_, rfl⟩
            refine lv_iinc (v := x4_10) (lv' := [(4, .int x4_10), (3, .int 0), (5, .int x5_8), (0, .ref (X.1 0)), (1, .int x1)]) hx hb dX7_canBeKept_137 hl (k := 4) rfl (by rw [ex4_10]; rfl) (by decide) rfl (fun ls hl => ?_)
            have h := h x4_10 ex4_10
            refine lv_goto (tgt := 45) hx hb dX7_canBeKept_140 (by decide) ?_
            exact ih 0 x4_10 S H locs ls hP hS (lv_sub hl [3, 4, 1, 0] rfl) h
          · have h := h.2 c_9
            refine lv_aload_n hx hb dX7_canBeKept_86 rfl (lv_at hl 1 rfl) ?_
            refine lv_iload hx hb dX7_canBeKept_87 (lv_at hl 4 rfl) ?_
            refine rVi (As := [.int y4]) (rest := []) hX ⟨hx, hb, hml, hown, hT⟩ (c_X7_isSent l D X hX H.size S y4 _ h) (gd_V wl_X7_149 wi_X7_isSent wv_X7_isSent wn_X7 wc_X7_isSent) rfl hd_X7_isSent ⟨rfl, rfl⟩ ⟨Nat.le_of_ble_eq_true rfl, Nat.le_of_ble_eq_true rfl⟩ (va_recv hK hP (ci := 7) (q0 := 0) rfl rw_Model) hK hP hS hF rfl hl.1 rfl (Nat.le_of_ble_eq_true rfl) dX7_canBeKept_89 ⟨Nat.zero_le _, Nat.zero_le _⟩ (fun r_12 S_11 H locs h hP hS => ?_)
            refine lv_if_ne (tgt := 135) hx hb dX7_canBeKept_92 (by decide) (fun c_13 => ?_) (fun c_13 => ?_)
            · have h := h.2 c_13
              refine lv_iconst (v := 0) hx hb dX7_canBeKept_135 (by decide) ?_
              refine lv_istore_n (lv' := [(3, .int 0), (5, .int x5_8), (0, .ref (X.1 0)), (1, .int x1), (4, .int y4)]) hx hb dX7_canBeKept_136 rfl hl (by decide) rfl (fun ls hl => ?_)
              obtain ⟨x4_14, ex4_14⟩ : ∃ z : Int32, z = y4 + 1 := ⟨_, rfl⟩
              refine lv_iinc (v := x4_14) (lv' := [(4, .int x4_14), (3, .int 0), (5, .int x5_8), (0, .ref (X.1 0)), (1, .int x1)]) hx hb dX7_canBeKept_137 hl (k := 4) rfl (by rw [ex4_14]; rfl) (by decide) rfl (fun ls hl => ?_)
              have h := h x4_14 ex4_14
              refine lv_goto (tgt := 45) hx hb dX7_canBeKept_140 (by decide) ?_
              exact ih 0 x4_14 S_11 H locs ls hP hS (lv_sub hl [3, 4, 1, 0] rfl) h
            · have h := h.1 c_13
              refine lv_iload hx hb dX7_canBeKept_95 (lv_at hl 0 rfl) ?_
              refine lv_if_lt (tgt := 135) hx hb dX7_canBeKept_97 (by decide) (fun c_15 => ?_) (fun c_15 => ?_)
              · have h := h.1 c_15
                refine lv_iconst (v := 0) hx hb dX7_canBeKept_135 (by decide) ?_
                refine lv_istore_n (lv' := [(3, .int 0), (5, .int x5_8), (0, .ref (X.1 0)), (1, .int x1), (4, .int y4)]) hx hb dX7_canBeKept_136 rfl hl (by decide) rfl (fun ls hl => ?_)
                obtain ⟨x4_16, ex4_16⟩ : ∃ z : Int32, z = y4 + 1 := ⟨_, rfl⟩
                refine lv_iinc (v := x4_16) (lv' := [(4, .int x4_16), (3, .int 0), (5, .int x5_8), (0, .ref (X.1 0)), (1, .int x1)]) hx hb dX7_canBeKept_137 hl (k := 4) rfl (by rw [ex4_16]; rfl) (by decide) rfl (fun ls hl => ?_)
                have h := h x4_16 ex4_16
                refine lv_goto (tgt := 45) hx hb dX7_canBeKept_140 (by decide) ?_
                exact ih 0 x4_16 S_11 H locs ls hP hS (lv_sub hl [3, 4, 1, 0] rfl) h
              · have h := h.2 c_15
                refine lv_aload_n hx hb dX7_canBeKept_100 rfl (lv_at hl 1 rfl) ?_
                refine lv_iload_n hx hb dX7_canBeKept_101 rfl (lv_at hl 2 rfl) ?_
                refine lv_aload_n hx hb dX7_canBeKept_102 rfl (lv_at hl 1 rfl) ?_
                refine va_get (D := D) (ci := 7) (v := .ref (X.1 5)) (C := RX7) (T := TX7) (N := 28) hx hb hT inX7 hown hK hP 0 rw_Model rfl 13 (by decide) (hT _ wf_X7_22) (fun _ h9 => h9) rfl dX7_canBeKept_103 ?_
                refine lv_iload hx hb dX7_canBeKept_106 (lv_at hl 4 rfl) ?_
                obtain ⟨hi, h⟩ := h
                refine g_iald hx hb hK hP 5 rw_5 rfl hi y4.toNatClampNeg rfl dX7_canBeKept_108 ?_
                refine rVi (As := [.int x1, .int (S_11.1 5 y4.toNatClampNeg)]) (rest := []) hX ⟨hx, hb, hml, hown, hT⟩ (c_X7_besomsBy l D X hX H.size S_11 x1 (S_11.1 5 y4.toNatClampNeg) _ h) (gd_V wl_X7_181 wi_X7_besomsBy wv_X7_besomsBy wn_X7 wc_X7_besomsBy) rfl hd_X7_besomsBy ⟨rfl, rfl⟩ ⟨Nat.le_of_ble_eq_true rfl, Nat.le_of_ble_eq_true rfl⟩ (va_recv hK hP (ci := 7) (q0 := 0) rfl rw_Model) hK hP hS hF rfl hl.1 rfl (Nat.le_of_ble_eq_true rfl) dX7_canBeKept_109 ⟨Nat.zero_le _, Nat.zero_le _⟩ (fun r_18 S_17 H locs h hP hS => ?_)
                refine lv_aload_n hx hb dX7_canBeKept_112 rfl (lv_at hl 1 rfl) ?_
                refine va_get (D := D) (ci := 7) (v := .ref (X.1 8)) (C := RX7) (T := TX7) (N := 28) hx hb hT inX7 hown hK hP 0 rw_Model rfl 16 (by decide) (hT _ wf_X7_31) (fun _ h9 => h9) rfl dX7_canBeKept_113 ?_
                refine lv_iconst (v := 3) hx hb dX7_canBeKept_116 (by decide) ?_
                refine g_iald hx hb hK hP 8 rw_8 rfl (vpc (by decide)) 3 rfl dX7_canBeKept_117 ?_
                refine lv_aload_n hx hb dX7_canBeKept_118 rfl (lv_at hl 1 rfl) ?_
                refine va_get (D := D) (ci := 7) (v := .ref (X.1 2)) (C := RX7) (T := TX7) (N := 28) hx hb hT inX7 hown hK hP 0 rw_Model rfl 9 (by decide) (hT _ wf_X7_13) (fun _ h9 => h9) rfl dX7_canBeKept_119 ?_
                refine lv_iconst (v := 4) hx hb dX7_canBeKept_122 (by decide) ?_
                refine g_iald hx hb hK hP 2 rw_2 rfl (vpc (by decide)) 4 rfl dX7_canBeKept_123 ?_
                refine lv_iload hx hb dX7_canBeKept_124 (lv_at hl 0 rfl) ?_
                refine lv_imul hx hb dX7_canBeKept_126 ?_
                refine lv_iadd hx hb dX7_canBeKept_127 ?_
                refine lv_icmp_gt (tgt := 135) hx hb dX7_canBeKept_128 (by decide) (fun c_19 => ?_) (fun c_19 => ?_)
                · have h := h.1 c_19
                  refine lv_iconst (v := 0) hx hb dX7_canBeKept_135 (by decide) ?_
                  refine lv_istore_n (lv' := [(3, .int 0), (5, .int x5_8), (0, .ref (X.1 0)), (1, .int x1), (4, .int y4)]) hx hb dX7_canBeKept_136 rfl hl (by decide) rfl (fun ls hl => ?_)
                  obtain ⟨x4_20, ex4_20⟩ : ∃ z : Int32, z = y4 + 1 := ⟨_, rfl⟩
                  refine lv_iinc (v := x4_20) (lv' := [(4, .int x4_20), (3, .int 0), (5, .int x5_8), (0, .ref (X.1 0)), (1, .int x1)]) hx hb dX7_canBeKept_137 hl (k := 4) rfl (by rw [ex4_20]; rfl) (by decide) rfl (fun ls hl => ?_)
                  have h := h x4_20 ex4_20
                  refine lv_goto (tgt := 45) hx hb dX7_canBeKept_140 (by decide) ?_
                  exact ih 0 x4_20 S_17 H locs ls hP hS (lv_sub hl [3, 4, 1, 0] rfl) h
                · have h := h.2 c_19
                  refine lv_iconst (v := 1) hx hb dX7_canBeKept_131 (by decide) ?_
                  refine lv_goto (tgt := 136) hx hb dX7_canBeKept_132 (by decide) ?_
                  refine lv_istore_n (lv' := [(3, .int 1), (5, .int x5_8), (0, .ref (X.1 0)), (1, .int x1), (4, .int y4)]) hx hb dX7_canBeKept_136 rfl hl (by decide) rfl (fun ls hl => ?_)
                  obtain ⟨x4_21, ex4_21⟩ : ∃ z : Int32, z = y4 + 1 := ⟨_, rfl⟩
                  refine lv_iinc (v := x4_21) (lv' := [(4, .int x4_21), (3, .int 1), (5, .int x5_8), (0, .ref (X.1 0)), (1, .int x1)]) hx hb dX7_canBeKept_137 hl (k := 4) rfl (by rw [ex4_21]; rfl) (by decide) rfl (fun ls hl => ?_)
                  have h := h x4_21 ex4_21
                  refine lv_goto (tgt := 45) hx hb dX7_canBeKept_140 (by decide) ?_
                  exact ih 1 x4_21 S_17 H locs ls hP hS (lv_sub hl [3, 4, 1, 0] rfl) h
  have W36 : ∀ (S : CS) (H : Heap) (locs : List Loc) (ls : Array Slot), va_P D vwCl (RW X S) H → va_S (AX 18 X.1 s.heap.size) s.heap H locs → lv_has ls 6 [(0, .ref (X.1 0)), (1, .int x1)] → q_X7_canBeKept_36 x1 post  S → W p l e (headSpec (Cond.code yX7_canBeKept cX7_canBeKept 6 (some .boolean) :: lw_gd) rm_X7_canBeKept).room s m ([.ref (X.1 0), .int x1] : List Value).toArray below meth c H locs 0 0 (MQ below (va_Qi post (gB D (RW X)) (AX 18 X.1 s.heap.size)) ([.ref (X.1 0), .int x1] : List Value).toArray s 0 0 (AX 18 X.1 s.heap.size)) (F0 m 36 ls []) := by
    intro S H locs ls hP hS hl h
    unfold q_X7_canBeKept_36 at h
    refine lv_iconst (v := 1) hx hb dX7_canBeKept_36 (by decide) ?_
    refine lv_goto (tgt := 41) hx hb dX7_canBeKept_37 (by decide) ?_
    refine lv_istore_n (lv' := [(3, .int 1), (0, .ref (X.1 0)), (1, .int x1)]) hx hb dX7_canBeKept_41 rfl hl (by decide) rfl (fun ls hl => ?_)
    refine lv_iconst (v := 0) hx hb dX7_canBeKept_42 (by decide) ?_
    refine lv_istore (lv' := [(4, .int 0), (3, .int 1), (0, .ref (X.1 0)), (1, .int x1)]) hx hb dX7_canBeKept_43 hl (by decide) rfl (fun ls hl => ?_)
    obtain ⟨n1, h⟩ := h
    exact W45  n1 1 0 S H locs ls hP hS (lv_sub hl [2, 3, 1, 0] rfl) h
  have hl := lv_entry ([.ref (X.1 0), .int x1]) (n := 6) (Nat.le_of_ble_eq_true rfl)
  rw [lg_entry_eq]
  generalize (lg_sl ([.ref (X.1 0), .int x1]) ++ List.replicate (6 - (lg_sl ([.ref (X.1 0), .int x1])).length) Slot.unset).toArray = ls at hl ⊢
  have hl : lv_has ls 6 [(0, .ref (X.1 0)), (1, .int x1)] := hl
  obtain ⟨H, hH⟩ : ∃ H : Heap, H = s.heap := ⟨_, rfl⟩
  obtain ⟨locs, hlc⟩ : ∃ q : List Loc, q = [] := ⟨_, rfl⟩
  have hS : va_S (AX 18 X.1 s.heap.size) s.heap H locs := by rw [hH, hlc]; exact hS
  have hP : va_P D vwCl (RW X S) H := by rw [hH]; exact hP
  show W p l e (headSpec (Cond.code yX7_canBeKept cX7_canBeKept 6 (some .boolean) :: lw_gd) rm_X7_canBeKept).room s m ([.ref (X.1 0), .int x1] : List Value).toArray below meth c s.heap [] 0 0 (MQ below (va_Qi post (gB D (RW X)) (AX 18 X.1 s.heap.size)) ([.ref (X.1 0), .int x1] : List Value).toArray s 0 0 (AX 18 X.1 s.heap.size)) _
  suffices hgo : W p l e (headSpec (Cond.code yX7_canBeKept cX7_canBeKept 6 (some .boolean) :: lw_gd) rm_X7_canBeKept).room s m ([.ref (X.1 0), .int x1] : List Value).toArray below meth c H locs 0 0 (MQ below (va_Qi post (gB D (RW X)) (AX 18 X.1 s.heap.size)) ([.ref (X.1 0), .int x1] : List Value).toArray s 0 0 (AX 18 X.1 s.heap.size)) (F0 m 0 ls []) from by rw [hH, hlc] at hgo; exact hgo
  unfold p_X7_canBeKept at h
  refine lv_aload_n hx hb dX7_canBeKept_0 rfl (lv_at hl 0 rfl) ?_
  refine lv_iload_n hx hb dX7_canBeKept_1 rfl (lv_at hl 1 rfl) ?_
  refine lv_bipush (v := 60) hx hb dX7_canBeKept_2 (by decide) ?_
  refine rVi (As := [.int x1, .int 60]) (rest := []) hX ⟨hx, hb, hml, hown, hT⟩ (c_X7_besomsBy l D X hX H.size S x1 60 _ h) (gd_V wl_X7_181 wi_X7_besomsBy wv_X7_besomsBy wn_X7 wc_X7_besomsBy) rfl hd_X7_besomsBy ⟨rfl, rfl⟩ ⟨Nat.le_of_ble_eq_true rfl, Nat.le_of_ble_eq_true rfl⟩ (va_recv hK hP (ci := 7) (q0 := 0) rfl rw_Model) hK hP hS hF rfl hl.1 rfl (Nat.le_of_ble_eq_true rfl) dX7_canBeKept_4 ⟨Nat.zero_le _, Nat.zero_le _⟩ (fun r_2 S_1 H locs h hP hS => ?_)
  refine lv_aload_n hx hb dX7_canBeKept_7 rfl (lv_at hl 0 rfl) ?_
  refine va_get (D := D) (ci := 7) (v := .ref (X.1 8)) (C := RX7) (T := TX7) (N := 28) hx hb hT inX7 hown hK hP 0 rw_Model rfl 16 (by decide) (hT _ wf_X7_31) (fun _ h9 => h9) rfl dX7_canBeKept_8 ?_
  refine lv_iconst (v := 3) hx hb dX7_canBeKept_11 (by decide) ?_
  refine g_iald hx hb hK hP 8 rw_8 rfl (vpc (by decide)) 3 rfl dX7_canBeKept_12 ?_
  refine lv_isub hx hb dX7_canBeKept_13 ?_
  refine lv_topi (fun x2_3 ex2_3 => ?_)
  have h := h x2_3 ex2_3
  refine lv_istore_n (lv' := [(2, .int x2_3), (0, .ref (X.1 0)), (1, .int x1)]) hx hb dX7_canBeKept_14 rfl hl (by decide) rfl (fun ls hl => ?_)
  refine lv_iload_n hx hb dX7_canBeKept_15 rfl (lv_at hl 0 rfl) ?_
  refine lv_if_le (tgt := 36) hx hb dX7_canBeKept_16 (by decide) (fun c_4 => ?_) (fun c_4 => ?_)
  · have h := h.1 c_4
    exact W36   S_1 H locs ls hP hS (lv_sub hl [1, 2] rfl) h
  · have h := h.2 c_4
    refine lv_iload_n hx hb dX7_canBeKept_19 rfl (lv_at hl 0 rfl) ?_
    refine lv_aload_n hx hb dX7_canBeKept_20 rfl (lv_at hl 1 rfl) ?_
    refine va_get (D := D) (ci := 7) (v := .ref (X.1 2)) (C := RX7) (T := TX7) (N := 28) hx hb hT inX7 hown hK hP 0 rw_Model rfl 9 (by decide) (hT _ wf_X7_13) (fun _ h9 => h9) rfl dX7_canBeKept_21 ?_
    refine lv_iconst (v := 3) hx hb dX7_canBeKept_24 (by decide) ?_
    refine g_iald hx hb hK hP 2 rw_2 rfl (vpc (by decide)) 3 rfl dX7_canBeKept_25 ?_
    refine lv_imul hx hb dX7_canBeKept_26 ?_
    refine lv_aload_n hx hb dX7_canBeKept_27 rfl (lv_at hl 1 rfl) ?_
    refine va_get (D := D) (ci := 7) (v := .ref (X.1 8)) (C := RX7) (T := TX7) (N := 28) hx hb hT inX7 hown hK hP 0 rw_Model rfl 16 (by decide) (hT _ wf_X7_31) (fun _ h9 => h9) rfl dX7_canBeKept_28 ?_
    refine lv_iconst (v := 2) hx hb dX7_canBeKept_31 (by decide) ?_
    refine g_iald hx hb hK hP 8 rw_8 rfl (vpc (by decide)) 2 rfl dX7_canBeKept_32 ?_
    refine lv_icmp_gt (tgt := 40) hx hb dX7_canBeKept_33 (by decide) (fun c_22 => ?_) (fun c_22 => ?_)
    · have h := h.1 c_22
      refine lv_iconst (v := 0) hx hb dX7_canBeKept_40 (by decide) ?_
      refine lv_istore_n (lv' := [(3, .int 0), (2, .int x2_3), (0, .ref (X.1 0)), (1, .int x1)]) hx hb dX7_canBeKept_41 rfl hl (by decide) rfl (fun ls hl => ?_)
      refine lv_iconst (v := 0) hx hb dX7_canBeKept_42 (by decide) ?_
      refine lv_istore (lv' := [(4, .int 0), (3, .int 0), (2, .int x2_3), (0, .ref (X.1 0)), (1, .int x1)]) hx hb dX7_canBeKept_43 hl (by decide) rfl (fun ls hl => ?_)
      obtain ⟨n1, h⟩ := h
      exact W45  n1 0 0 S_1 H locs ls hP hS (lv_sub hl [3, 4, 1, 0] rfl) h
    · have h := h.2 c_22
      exact W36   S_1 H locs ls hP hS (lv_sub hl [1, 2] rfl) h

abbrev rm_X7_coinsOf : Room := { frames := 0, cells := 0, slots := 0, locals := 0 }
def q_X7_coinsOf_4 (x1 : Int32) (post : Int32 → CS → Prop) : Nat → Int32 → Int32 → CS → Prop
  | 0, _, _, _ => False
  | n9 + 1, y2, y3, S => ((S.1 2 1) ≤ y3 → (post y2 S)) ∧ (¬ ((S.1 2 1) ≤ y3) → ((((x1 >>> (y3 &&& 31)) &&& 1) = 1 → (vp_in y3 12 ∧ (∀ x2_5 : Int32, x2_5 = (y2 + (S.1 7 y3.toNatClampNeg)) → (∀ x3_6 : Int32, x3_6 = y3 + 1 → (q_X7_coinsOf_4 x1 post n9 x2_5 x3_6 S))))) ∧ (¬ (((x1 >>> (y3 &&& 31)) &&& 1) = 1) → (∀ x2_3 : Int32, x2_3 = (y2 + 0) → (∀ x3_4 : Int32, x3_4 = y3 + 1 → (q_X7_coinsOf_4 x1 post n9 x2_3 x3_4 S))))))
def p_X7_coinsOf (S : CS) (x1 : Int32) (post : Int32 → CS → Prop) : Prop := ∃ n, q_X7_coinsOf_4 x1 post n 0 0 S
set_option maxHeartbeats 4000000 in
set_option maxRecDepth 100000 in
theorem c_X7_coinsOf (l : Launch) (D : va_G) (X : XE) (hX : Inj 18 X.1) (sz : Nat) (S : CS) (x1 : Int32) (post : Int32 → CS → Prop) (h : p_X7_coinsOf S x1 post) : Met l yX7_coinsOf (Cond.code yX7_coinsOf cX7_coinsOf 4 (some .int) :: lw_gd) rm_X7_coinsOf (gPc D (tyX X) (RW X) (FXr X) (AX 18 X.1 sz) sz S [.ref (X.1 0), .int x1]) (va_Qi post (gB D (RW X)) (AX 18 X.1 sz)) 0 0 (AX 18 X.1 sz) := by
  refine Met.ofW (cc := cX7_coinsOf) (maxL := 4) (ret := (some .int)) (by decide) rfl ?_
  intro p e s m args below meth c s₁ B hml hv
  obtain ⟨rfl, hsz, hP, hK, hF⟩ := hv
  have hx := B.exec
  have hb := B.bytes
  have hr := B.returns
  have hts := atoms_spec (ws := (Cond.code yX7_coinsOf cX7_coinsOf 4 (some .int) :: lw_gd)) B.pre
  have hT : ∀ w ∈ lw_gd, w.before _ s = true := fun w h9 => hts w (List.mem_cons_of_mem _ h9)
  have hown : s.vm.findClass RX7 = some m.cls := findClass_of_methodNamed B.named
  have hlocks := B.notSynchronized
  subst hsz
  have hS : va_S (AX 18 X.1 s.heap.size) s.heap s.heap [] := va_S.rf
  have W4 : ∀ n1 : Nat, ∀ (y2 : Int32) (y3 : Int32) (S : CS) (H : Heap) (locs : List Loc) (ls : Array Slot), va_P D vwCl (RW X S) H → va_S (AX 18 X.1 s.heap.size) s.heap H locs → lv_has ls 4 [(0, .ref (X.1 0)), (1, .int x1), (2, .int y2), (3, .int y3)] → q_X7_coinsOf_4 x1 post n1 y2 y3 S → W p l e (headSpec (Cond.code yX7_coinsOf cX7_coinsOf 4 (some .int) :: lw_gd) rm_X7_coinsOf).room s m ([.ref (X.1 0), .int x1] : List Value).toArray below meth c H locs 0 0 (MQ below (va_Qi post (gB D (RW X)) (AX 18 X.1 s.heap.size)) ([.ref (X.1 0), .int x1] : List Value).toArray s 0 0 (AX 18 X.1 s.heap.size)) (F0 m 4 ls []) := by
    intro n1
    induction n1 with
    | zero => intro y2 y3 S H locs ls hP hS hl h; exact h.elim
    | succ n9 ih =>
      intro y2 y3 S H locs ls hP hS hl h
      rw [q_X7_coinsOf_4] at h
      refine lv_iload_n hx hb dX7_coinsOf_4 rfl (lv_at hl 3 rfl) ?_
      refine lv_aload_n hx hb dX7_coinsOf_5 rfl (lv_at hl 0 rfl) ?_
      refine va_get (D := D) (ci := 7) (v := .ref (X.1 2)) (C := RX7) (T := TX7) (N := 28) hx hb hT inX7 hown hK hP 0 rw_Model rfl 9 (by decide) (hT _ wf_X7_13) (fun _ h9 => h9) rfl dX7_coinsOf_6 ?_
      refine lv_iconst (v := 1) hx hb dX7_coinsOf_9 (by decide) ?_
      refine g_iald hx hb hK hP 2 rw_2 rfl (vpc (by decide)) 1 rfl dX7_coinsOf_10 ?_
      refine lv_icmp_ge (tgt := 42) hx hb dX7_coinsOf_11 (by decide) (fun c_1 => ?_) (fun c_1 => ?_)
      · have h := h.1 c_1
        refine lv_iload_n hx hb dX7_coinsOf_42 rfl (lv_at hl 2 rfl) ?_
        exact W.iret (v := y2) hx hb hr (fun t ht hW => ⟨⟨y2, S, rfl, h, gB_of ht hP⟩, hS.F ht⟩) hS.2.2 dX7_coinsOf_43
      · have h := h.2 c_1
        refine lv_iload_n hx hb dX7_coinsOf_14 rfl (lv_at hl 2 rfl) ?_
        refine lv_iload_n hx hb dX7_coinsOf_15 rfl (lv_at hl 1 rfl) ?_
        refine lv_iload_n hx hb dX7_coinsOf_16 rfl (lv_at hl 3 rfl) ?_
        refine lv_ishr hx hb dX7_coinsOf_17 ?_
        refine lv_iconst (v := 1) hx hb dX7_coinsOf_18 (by decide) ?_
        refine lv_iand hx hb dX7_coinsOf_19 ?_
        refine lv_iconst (v := 1) hx hb dX7_coinsOf_20 (by decide) ?_
        refine lv_icmp_ne (tgt := 33) hx hb dX7_coinsOf_21 (by decide) (fun c_2 => ?_) (fun c_2 => ?_)
        · have h := h.2 c_2
          refine lv_iconst (v := 0) hx hb dX7_coinsOf_33 (by decide) ?_
          refine lv_iadd hx hb dX7_coinsOf_34 ?_
          refine lv_topi (fun x2_3 ex2_3 => ?_)
          have h := h x2_3 ex2_3
          refine lv_istore_n (lv' := [(2, .int x2_3), (0, .ref (X.1 0)), (1, .int x1), (3, .int y3)]) hx hb dX7_coinsOf_35 rfl hl (by decide) rfl (fun ls hl => ?_)
          obtain ⟨x3_4, ex3_4⟩ : ∃ z : Int32, z = y3 + 1 := ⟨_, rfl⟩
          refine lv_iinc (v := x3_4) (lv' := [(3, .int x3_4), (2, .int x2_3), (0, .ref (X.1 0)), (1, .int x1)]) hx hb dX7_coinsOf_36 hl (k := 3) rfl (by rw [ex3_4]; rfl) (by decide) rfl (fun ls hl => ?_)
          have h := h x3_4 ex3_4
          refine lv_goto (tgt := 4) hx hb dX7_coinsOf_39 (by decide) ?_
          exact ih x2_3 x3_4 S H locs ls hP hS (lv_sub hl [2, 3, 1, 0] rfl) h
        · have h := h.1 c_2
          refine lv_aload_n hx hb dX7_coinsOf_24 rfl (lv_at hl 0 rfl) ?_
          refine va_get (D := D) (ci := 7) (v := .ref (X.1 7)) (C := RX7) (T := TX7) (N := 28) hx hb hT inX7 hown hK hP 0 rw_Model rfl 15 (by decide) (hT _ wf_X7_28) (fun _ h9 => h9) rfl dX7_coinsOf_25 ?_
          refine lv_iload_n hx hb dX7_coinsOf_28 rfl (lv_at hl 3 rfl) ?_
          obtain ⟨hi, h⟩ := h
          refine g_iald hx hb hK hP 7 rw_7 rfl hi y3.toNatClampNeg rfl dX7_coinsOf_29 ?_
          refine lv_goto (tgt := 34) hx hb dX7_coinsOf_30 (by decide) ?_
          refine lv_iadd hx hb dX7_coinsOf_34 ?_
          refine lv_topi (fun x2_5 ex2_5 => ?_)
          have h := h x2_5 ex2_5
          refine lv_istore_n (lv' := [(2, .int x2_5), (0, .ref (X.1 0)), (1, .int x1), (3, .int y3)]) hx hb dX7_coinsOf_35 rfl hl (by decide) rfl (fun ls hl => ?_)
          obtain ⟨x3_6, ex3_6⟩ : ∃ z : Int32, z = y3 + 1 := ⟨_, rfl⟩
          refine lv_iinc (v := x3_6) (lv' := [(3, .int x3_6), (2, .int x2_5), (0, .ref (X.1 0)), (1, .int x1)]) hx hb dX7_coinsOf_36 hl (k := 3) rfl (by rw [ex3_6]; rfl) (by decide) rfl (fun ls hl => ?_)
          have h := h x3_6 ex3_6
          refine lv_goto (tgt := 4) hx hb dX7_coinsOf_39 (by decide) ?_
          exact ih x2_5 x3_6 S H locs ls hP hS (lv_sub hl [2, 3, 1, 0] rfl) h
  have hl := lv_entry ([.ref (X.1 0), .int x1]) (n := 4) (Nat.le_of_ble_eq_true rfl)
  rw [lg_entry_eq]
  generalize (lg_sl ([.ref (X.1 0), .int x1]) ++ List.replicate (4 - (lg_sl ([.ref (X.1 0), .int x1])).length) Slot.unset).toArray = ls at hl ⊢
  have hl : lv_has ls 4 [(0, .ref (X.1 0)), (1, .int x1)] := hl
  obtain ⟨H, hH⟩ : ∃ H : Heap, H = s.heap := ⟨_, rfl⟩
  obtain ⟨locs, hlc⟩ : ∃ q : List Loc, q = [] := ⟨_, rfl⟩
  have hS : va_S (AX 18 X.1 s.heap.size) s.heap H locs := by rw [hH, hlc]; exact hS
  have hP : va_P D vwCl (RW X S) H := by rw [hH]; exact hP
  show W p l e (headSpec (Cond.code yX7_coinsOf cX7_coinsOf 4 (some .int) :: lw_gd) rm_X7_coinsOf).room s m ([.ref (X.1 0), .int x1] : List Value).toArray below meth c s.heap [] 0 0 (MQ below (va_Qi post (gB D (RW X)) (AX 18 X.1 s.heap.size)) ([.ref (X.1 0), .int x1] : List Value).toArray s 0 0 (AX 18 X.1 s.heap.size)) _
  suffices hgo : W p l e (headSpec (Cond.code yX7_coinsOf cX7_coinsOf 4 (some .int) :: lw_gd) rm_X7_coinsOf).room s m ([.ref (X.1 0), .int x1] : List Value).toArray below meth c H locs 0 0 (MQ below (va_Qi post (gB D (RW X)) (AX 18 X.1 s.heap.size)) ([.ref (X.1 0), .int x1] : List Value).toArray s 0 0 (AX 18 X.1 s.heap.size)) (F0 m 0 ls []) from by rw [hH, hlc] at hgo; exact hgo
  unfold p_X7_coinsOf at h
  refine lv_iconst (v := 0) hx hb dX7_coinsOf_0 (by decide) ?_
  refine lv_istore_n (lv' := [(2, .int 0), (0, .ref (X.1 0)), (1, .int x1)]) hx hb dX7_coinsOf_1 rfl hl (by decide) rfl (fun ls hl => ?_)
  refine lv_iconst (v := 0) hx hb dX7_coinsOf_2 (by decide) ?_
  refine lv_istore_n (lv' := [(3, .int 0), (2, .int 0), (0, .ref (X.1 0)), (1, .int x1)]) hx hb dX7_coinsOf_3 rfl hl (by decide) rfl (fun ls hl => ?_)
  obtain ⟨n1, h⟩ := h
  exact W4  n1 0 0 S H locs ls hP hS (lv_sub hl [2, 3, 1, 0] rfl) h

abbrev rm_X7_kept : Room := { frames := 2, cells := 0, slots := 0, locals := 49 }
def q_X7_kept_20 (x1 : Int32) (post : Int32 → CS → Prop) : Nat → Int32 → Int32 → CS → Prop
  | 0, _, _, _ => False
  | n9 + 1, y2, y3, S => ((1 <<< ((S.1 2 1) &&& 31)) ≤ y3 → ((x1 = 0 → (post y2 S)) ∧ (¬ (x1 = 0) → (p_X7_coinsOf S y2 (fun r_8 S_7 => (post r_8 S_7)))))) ∧ (¬ ((1 <<< ((S.1 2 1) &&& 31)) ≤ y3) → (p_X7_coinsOf S y3 (fun r_10 S_9 => (p_X7_coinsOf S_9 y2 (fun r_12 S_11 => ((r_10 ≤ r_12 → (∀ x3_14 : Int32, x3_14 = y3 + 1 → (q_X7_kept_20 x1 post n9 y2 x3_14 S_11))) ∧ (¬ (r_10 ≤ r_12) → (p_X7_canBeKept S_11 y3 (fun r_16 S_15 => ((r_16 = 0 → (∀ x3_18 : Int32, x3_18 = y3 + 1 → (q_X7_kept_20 x1 post n9 y2 x3_18 S_15))) ∧ (¬ (r_16 = 0) → (∀ x3_19 : Int32, x3_19 = y3 + 1 → (q_X7_kept_20 x1 post n9 y3 x3_19 S_15)))))))))))))
def p_X7_kept (S : CS) (x1 : Int32) (post : Int32 → CS → Prop) : Prop := ∀ S_1 : CS, S_1 = sti S 0 0 0 → (p_X7_in S_1 x1 0 1 (fun r_3 S_2 => ((r_3 = 0 → (post (-1) S_2)) ∧ (¬ (r_3 = 0) → (∃ n, q_X7_kept_20 x1 post n 0 1 S_2)))))
set_option maxHeartbeats 4000000 in
set_option maxRecDepth 100000 in
theorem c_X7_kept (l : Launch) (D : va_G) (X : XE) (hX : Inj 18 X.1) (sz : Nat) (S : CS) (x1 : Int32) (post : Int32 → CS → Prop) (h : p_X7_kept S x1 post) : Met l yX7_kept (Cond.code yX7_kept cX7_kept 4 (some .int) :: lw_gd) rm_X7_kept (gPc D (tyX X) (RW X) (FXr X) (AX 18 X.1 sz) sz S [.ref (X.1 0), .int x1]) (va_Qi post (gB D (RW X)) (AX 18 X.1 sz)) 0 0 (AX 18 X.1 sz) := by
  refine Met.ofW (cc := cX7_kept) (maxL := 4) (ret := (some .int)) (by decide) rfl ?_
  intro p e s m args below meth c s₁ B hml hv
  obtain ⟨rfl, hsz, hP, hK, hF⟩ := hv
  have hx := B.exec
  have hb := B.bytes
  have hr := B.returns
  have hts := atoms_spec (ws := (Cond.code yX7_kept cX7_kept 4 (some .int) :: lw_gd)) B.pre
  have hT : ∀ w ∈ lw_gd, w.before _ s = true := fun w h9 => hts w (List.mem_cons_of_mem _ h9)
  have hown : s.vm.findClass RX7 = some m.cls := findClass_of_methodNamed B.named
  have hlocks := B.notSynchronized
  subst hsz
  have hS : va_S (AX 18 X.1 s.heap.size) s.heap s.heap [] := va_S.rf
  have W20 : ∀ n1 : Nat, ∀ (y2 : Int32) (y3 : Int32) (S : CS) (H : Heap) (locs : List Loc) (ls : Array Slot), va_P D vwCl (RW X S) H → va_S (AX 18 X.1 s.heap.size) s.heap H locs → lv_has ls 4 [(0, .ref (X.1 0)), (1, .int x1), (2, .int y2), (3, .int y3)] → q_X7_kept_20 x1 post n1 y2 y3 S → W p l e (headSpec (Cond.code yX7_kept cX7_kept 4 (some .int) :: lw_gd) rm_X7_kept).room s m ([.ref (X.1 0), .int x1] : List Value).toArray below meth c H locs 0 0 (MQ below (va_Qi post (gB D (RW X)) (AX 18 X.1 s.heap.size)) ([.ref (X.1 0), .int x1] : List Value).toArray s 0 0 (AX 18 X.1 s.heap.size)) (F0 m 20 ls []) := by
    intro n1
    induction n1 with
    | zero => intro y2 y3 S H locs ls hP hS hl h; exact h.elim
    | succ n9 ih =>
      intro y2 y3 S H locs ls hP hS hl h
      rw [q_X7_kept_20] at h
      refine lv_iload_n hx hb dX7_kept_20 rfl (lv_at hl 3 rfl) ?_
      refine lv_iconst (v := 1) hx hb dX7_kept_21 (by decide) ?_
      refine lv_aload_n hx hb dX7_kept_22 rfl (lv_at hl 0 rfl) ?_
      refine va_get (D := D) (ci := 7) (v := .ref (X.1 2)) (C := RX7) (T := TX7) (N := 28) hx hb hT inX7 hown hK hP 0 rw_Model rfl 9 (by decide) (hT _ wf_X7_13) (fun _ h9 => h9) rfl dX7_kept_23 ?_
      refine lv_iconst (v := 1) hx hb dX7_kept_26 (by decide) ?_
      refine g_iald hx hb hK hP 2 rw_2 rfl (vpc (by decide)) 1 rfl dX7_kept_27 ?_
      refine lv_ishl hx hb dX7_kept_28 ?_
      refine lv_icmp_ge (tgt := 65) hx hb dX7_kept_29 (by decide) (fun c_5 => ?_) (fun c_5 => ?_)
      · have h := h.1 c_5
        refine lv_iload_n hx hb dX7_kept_65 rfl (lv_at hl 1 rfl) ?_
        refine lv_if_ne (tgt := 73) hx hb dX7_kept_66 (by decide) (fun c_6 => ?_) (fun c_6 => ?_)
        · have h := h.2 c_6
          refine lv_aload_n hx hb dX7_kept_73 rfl (lv_at hl 0 rfl) ?_
          refine lv_iload_n hx hb dX7_kept_74 rfl (lv_at hl 2 rfl) ?_
          refine rVi (As := [.int y2]) (rest := []) hX ⟨hx, hb, hml, hown, hT⟩ (c_X7_coinsOf l D X hX H.size S y2 _ h) (gd_V wl_X7_184 wi_X7_coinsOf wv_X7_coinsOf wn_X7 wc_X7_coinsOf) rfl hd_X7_coinsOf ⟨rfl, rfl⟩ ⟨Nat.le_of_ble_eq_true rfl, Nat.le_of_ble_eq_true rfl⟩ (va_recv hK hP (ci := 7) (q0 := 0) rfl rw_Model) hK hP hS hF rfl hl.1 rfl (Nat.le_of_ble_eq_true rfl) dX7_kept_75 ⟨Nat.zero_le _, Nat.zero_le _⟩ (fun r_8 S_7 H locs h hP hS => ?_)
          exact W.iret (v := r_8) hx hb hr (fun t ht hW => ⟨⟨r_8, S_7, rfl, h, gB_of ht hP⟩, hS.F ht⟩) hS.2.2 dX7_kept_78
        · have h := h.1 c_6
          refine lv_iload_n hx hb dX7_kept_69 rfl (lv_at hl 2 rfl) ?_
          refine lv_goto (tgt := 78) hx hb dX7_kept_70 (by decide) ?_
          exact W.iret (v := y2) hx hb hr (fun t ht hW => ⟨⟨y2, S, rfl, h, gB_of ht hP⟩, hS.F ht⟩) hS.2.2 dX7_kept_78
      · have h := h.2 c_5
        refine lv_aload_n hx hb dX7_kept_32 rfl (lv_at hl 0 rfl) ?_
        refine lv_iload_n hx hb dX7_kept_33 rfl (lv_at hl 3 rfl) ?_
        refine rVi (As := [.int y3]) (rest := []) hX ⟨hx, hb, hml, hown, hT⟩ (c_X7_coinsOf l D X hX H.size S y3 _ h) (gd_V wl_X7_184 wi_X7_coinsOf wv_X7_coinsOf wn_X7 wc_X7_coinsOf) rfl hd_X7_coinsOf ⟨rfl, rfl⟩ ⟨Nat.le_of_ble_eq_true rfl, Nat.le_of_ble_eq_true rfl⟩ (va_recv hK hP (ci := 7) (q0 := 0) rfl rw_Model) hK hP hS hF rfl hl.1 rfl (Nat.le_of_ble_eq_true rfl) dX7_kept_34 ⟨Nat.zero_le _, Nat.zero_le _⟩ (fun r_10 S_9 H locs h hP hS => ?_)
        refine lv_aload_n hx hb dX7_kept_37 rfl (lv_at hl 0 rfl) ?_
        refine lv_iload_n hx hb dX7_kept_38 rfl (lv_at hl 2 rfl) ?_
        refine rVi (As := [.int y2]) (rest := [.int r_10]) hX ⟨hx, hb, hml, hown, hT⟩ (c_X7_coinsOf l D X hX H.size S_9 y2 _ h) (gd_V wl_X7_184 wi_X7_coinsOf wv_X7_coinsOf wn_X7 wc_X7_coinsOf) rfl hd_X7_coinsOf ⟨rfl, rfl⟩ ⟨Nat.le_of_ble_eq_true rfl, Nat.le_of_ble_eq_true rfl⟩ (va_recv hK hP (ci := 7) (q0 := 0) rfl rw_Model) hK hP hS hF rfl hl.1 rfl (Nat.le_of_ble_eq_true rfl) dX7_kept_39 ⟨Nat.zero_le _, Nat.zero_le _⟩ (fun r_12 S_11 H locs h hP hS => ?_)
        refine lv_icmp_le (tgt := 57) hx hb dX7_kept_42 (by decide) (fun c_13 => ?_) (fun c_13 => ?_)
        · have h := h.1 c_13
          refine lv_iload_n hx hb dX7_kept_57 rfl (lv_at hl 2 rfl) ?_
          refine lv_istore_n (lv' := [(2, .int y2), (0, .ref (X.1 0)), (1, .int x1), (3, .int y3)]) hx hb dX7_kept_58 rfl hl (by decide) rfl (fun ls hl => ?_)
          obtain ⟨x3_14, ex3_14⟩ : ∃ z : Int32, z = y3 + 1 := ⟨_, rfl⟩
          refine lv_iinc (v := x3_14) (lv' := [(3, .int x3_14), (2, .int y2), (0, .ref (X.1 0)), (1, .int x1)]) hx hb dX7_kept_59 hl (k := 3) rfl (by rw [ex3_14]; rfl) (by decide) rfl (fun ls hl => ?_)
          have h := h x3_14 ex3_14
          refine lv_goto (tgt := 20) hx hb dX7_kept_62 (by decide) ?_
          exact ih y2 x3_14 S_11 H locs ls hP hS (lv_sub hl [2, 3, 1, 0] rfl) h
        · have h := h.2 c_13
          refine lv_aload_n hx hb dX7_kept_45 rfl (lv_at hl 0 rfl) ?_
          refine lv_iload_n hx hb dX7_kept_46 rfl (lv_at hl 3 rfl) ?_
          refine rVi (As := [.int y3]) (rest := []) hX ⟨hx, hb, hml, hown, hT⟩ (c_X7_canBeKept l D X hX H.size S_11 y3 _ h) (gd_V wl_X7_187 wi_X7_canBeKept wv_X7_canBeKept wn_X7 wc_X7_canBeKept) rfl hd_X7_canBeKept ⟨rfl, rfl⟩ ⟨Nat.le_of_ble_eq_true rfl, Nat.le_of_ble_eq_true rfl⟩ (va_recv hK hP (ci := 7) (q0 := 0) rfl rw_Model) hK hP hS hF rfl hl.1 rfl (Nat.le_of_ble_eq_true rfl) dX7_kept_47 ⟨Nat.zero_le _, Nat.zero_le _⟩ (fun r_16 S_15 H locs h hP hS => ?_)
          refine lv_if_eq (tgt := 57) hx hb dX7_kept_50 (by decide) (fun c_17 => ?_) (fun c_17 => ?_)
          · have h := h.1 c_17
            refine lv_iload_n hx hb dX7_kept_57 rfl (lv_at hl 2 rfl) ?_
            refine lv_istore_n (lv' := [(2, .int y2), (0, .ref (X.1 0)), (1, .int x1), (3, .int y3)]) hx hb dX7_kept_58 rfl hl (by decide) rfl (fun ls hl => ?_)
            obtain ⟨x3_18, ex3_18⟩ : ∃ z : Int32, z = y3 + 1 := ⟨_, rfl⟩
            refine lv_iinc (v := x3_18) (lv' := [(3, .int x3_18), (2, .int y2), (0, .ref (X.1 0)), (1, .int x1)]) hx hb dX7_kept_59 hl (k := 3) rfl (by rw [ex3_18]; rfl) (by decide) rfl (fun ls hl => ?_)
            have h := h x3_18 ex3_18
            refine lv_goto (tgt := 20) hx hb dX7_kept_62 (by decide) ?_
            exact ih y2 x3_18 S_15 H locs ls hP hS (lv_sub hl [2, 3, 1, 0] rfl) h
          · have h := h.2 c_17
            refine lv_iload_n hx hb dX7_kept_53 rfl (lv_at hl 3 rfl) ?_
            refine lv_goto (tgt := 58) hx hb dX7_kept_54 (by decide) ?_
            refine lv_istore_n (lv' := [(2, .int y3), (0, .ref (X.1 0)), (1, .int x1), (3, .int y3)]) hx hb dX7_kept_58 rfl hl (by decide) rfl (fun ls hl => ?_)
            obtain ⟨x3_19, ex3_19⟩ : ∃ z : Int32, z = y3 + 1 := ⟨_, rfl⟩
            refine lv_iinc (v := x3_19) (lv' := [(3, .int x3_19), (2, .int y3), (0, .ref (X.1 0)), (1, .int x1)]) hx hb dX7_kept_59 hl (k := 3) rfl (by rw [ex3_19]; rfl) (by decide) rfl (fun ls hl => ?_)
            have h := h x3_19 ex3_19
            refine lv_goto (tgt := 20) hx hb dX7_kept_62 (by decide) ?_
            exact ih y3 x3_19 S_15 H locs ls hP hS (lv_sub hl [2, 3, 1, 0] rfl) h
  have hl := lv_entry ([.ref (X.1 0), .int x1]) (n := 4) (Nat.le_of_ble_eq_true rfl)
  rw [lg_entry_eq]
  generalize (lg_sl ([.ref (X.1 0), .int x1]) ++ List.replicate (4 - (lg_sl ([.ref (X.1 0), .int x1])).length) Slot.unset).toArray = ls at hl ⊢
  have hl : lv_has ls 4 [(0, .ref (X.1 0)), (1, .int x1)] := hl
  obtain ⟨H, hH⟩ : ∃ H : Heap, H = s.heap := ⟨_, rfl⟩
  obtain ⟨locs, hlc⟩ : ∃ q : List Loc, q = [] := ⟨_, rfl⟩
  have hS : va_S (AX 18 X.1 s.heap.size) s.heap H locs := by rw [hH, hlc]; exact hS
  have hP : va_P D vwCl (RW X S) H := by rw [hH]; exact hP
  show W p l e (headSpec (Cond.code yX7_kept cX7_kept 4 (some .int) :: lw_gd) rm_X7_kept).room s m ([.ref (X.1 0), .int x1] : List Value).toArray below meth c s.heap [] 0 0 (MQ below (va_Qi post (gB D (RW X)) (AX 18 X.1 s.heap.size)) ([.ref (X.1 0), .int x1] : List Value).toArray s 0 0 (AX 18 X.1 s.heap.size)) _
  suffices hgo : W p l e (headSpec (Cond.code yX7_kept cX7_kept 4 (some .int) :: lw_gd) rm_X7_kept).room s m ([.ref (X.1 0), .int x1] : List Value).toArray below meth c H locs 0 0 (MQ below (va_Qi post (gB D (RW X)) (AX 18 X.1 s.heap.size)) ([.ref (X.1 0), .int x1] : List Value).toArray s 0 0 (AX 18 X.1 s.heap.size)) (F0 m 0 ls []) from by rw [hH, hlc] at hgo; exact hgo
  unfold p_X7_kept at h
  refine lv_aload_n hx hb dX7_kept_0 rfl (lv_at hl 0 rfl) ?_
  refine lv_iconst (v := 0) hx hb dX7_kept_1 (by decide) ?_
  refine va_put (D := D) (ci := 7) (v := .int 0) (ty := .int) (C := RX7) (T := TX7) (N := 28) hx hb hT inX7 tyX7 tyX7_ok nmX7 hown hK hP (gw_D hX) hS 0 rw_Model rfl 0 (by decide) (hT _ wf_X7_68) (fun _ h9 => h9) rfl (by decide +kernel) rfl rfl (Nat.le_of_ble_eq_true rfl) dX7_kept_2 (fun H locs hP _ hS => ?_)
  have hP := rw_st (j := 0) (x := 0) rfl hP
  obtain ⟨S_1, eS_1⟩ : ∃ z : CS, z = sti S 0 0 0 := ⟨_, rfl⟩
  rw [← eS_1] at hP
  have h := h S_1 eS_1
  refine lv_iload_n hx hb dX7_kept_5 rfl (lv_at hl 1 rfl) ?_
  refine lv_iconst (v := 0) hx hb dX7_kept_6 (by decide) ?_
  refine lv_iconst (v := 1) hx hb dX7_kept_7 (by decide) ?_
  refine rSi (As := [.int x1, .int 0, .int 1]) (rest := []) hX ⟨hx, hb, hml, hown, hT⟩ (c_X7_in l D X hX H.size S_1 x1 0 1 _ h) (gd_S wl_X7_72 wt_X7_in wn_X7 wc_X7_in) hd_X7_in ⟨rfl, rfl⟩ ⟨Nat.le_of_ble_eq_true rfl, Nat.le_of_ble_eq_true rfl⟩ hK hP hS hF rfl hl.1 rfl (Nat.le_of_ble_eq_true rfl) dX7_kept_8 ⟨Nat.zero_le _, Nat.zero_le _⟩ (fun r_3 S_2 H locs h hP hS => ?_)
  refine lv_if_ne (tgt := 16) hx hb dX7_kept_11 (by decide) (fun c_4 => ?_) (fun c_4 => ?_)
  · have h := h.2 c_4
    refine lv_iconst (v := 0) hx hb dX7_kept_16 (by decide) ?_
    refine lv_istore_n (lv' := [(2, .int 0), (0, .ref (X.1 0)), (1, .int x1)]) hx hb dX7_kept_17 rfl hl (by decide) rfl (fun ls hl => ?_)
    refine lv_iconst (v := 1) hx hb dX7_kept_18 (by decide) ?_
    refine lv_istore_n (lv' := [(3, .int 1), (2, .int 0), (0, .ref (X.1 0)), (1, .int x1)]) hx hb dX7_kept_19 rfl hl (by decide) rfl (fun ls hl => ?_)
    obtain ⟨n1, h⟩ := h
    exact W20  n1 0 1 S_2 H locs ls hP hS (lv_sub hl [2, 3, 1, 0] rfl) h
  · have h := h.1 c_4
    refine lv_iconst (v := (-1)) hx hb dX7_kept_14 (by decide) ?_
    exact W.iret (v := (-1)) hx hb hr (fun t ht hW => ⟨⟨(-1), S_2, rfl, h, gB_of ht hP⟩, hS.F ht⟩) hS.2.2 dX7_kept_15

abbrev rm_X7_next : Room := { frames := 1, cells := 0, slots := 0, locals := 22 }
def q_X7_next_93 (x1 : Int32) (K21 : Int32 → Int32 → CS → Prop) (post : Int32 → CS → Prop) (y2 : Int32) (y3 : Int32) (z0 : Int32) (S : CS) : Prop := (z0 = 0 → (∀ x3_8 : Int32, x3_8 = y3 + 1 → (K21 y2 x3_8 S))) ∧ (¬ (z0 = 0) → (p_X7_isSent S y3 (fun r_10 S_9 => ((r_10 = 0 → (∀ x3_13 : Int32, x3_13 = y3 + 1 → (K21 y3 x3_13 S_9))) ∧ (¬ (r_10 = 0) → (∀ x3_12 : Int32, x3_12 = y3 + 1 → (K21 y2 x3_12 S_9)))))))
def q_X7_next_21 (x1 : Int32) (post : Int32 → CS → Prop) : Nat → Int32 → Int32 → CS → Prop
  | 0, _, _, _ => False
  | n9 + 1, y2, y3, S => ((S.1 2 1) ≤ y3 → (post y2 S)) ∧ (¬ ((S.1 2 1) ≤ y3) → ((y2 = (-9) → (q_X7_next_93 x1 (fun y2' y3' S9 => q_X7_next_21 x1 post n9 y2' y3' S9) post y2 y3 1 S)) ∧ (¬ (y2 = (-9)) → ((x1 = 0 → (vp_in y3 12 ∧ (vp_in y2 12 ∧ (((S.1 5 y2.toNatClampNeg) ≤ (S.1 5 y3.toNatClampNeg) → (q_X7_next_93 x1 (fun y2' y3' S9 => q_X7_next_21 x1 post n9 y2' y3' S9) post y2 y3 0 S)) ∧ (¬ ((S.1 5 y2.toNatClampNeg) ≤ (S.1 5 y3.toNatClampNeg)) → (q_X7_next_93 x1 (fun y2' y3' S9 => q_X7_next_21 x1 post n9 y2' y3' S9) post y2 y3 1 S)))))) ∧ (¬ (x1 = 0) → (vp_in y3 12 ∧ (vp_in y2 12 ∧ (vp_in y2 12 ∧ (vp_in y3 12 ∧ ((((S.1 7 y3.toNatClampNeg) * (S.1 6 y2.toNatClampNeg)) ≤ ((S.1 7 y2.toNatClampNeg) * (S.1 6 y3.toNatClampNeg)) → (q_X7_next_93 x1 (fun y2' y3' S9 => q_X7_next_21 x1 post n9 y2' y3' S9) post y2 y3 0 S)) ∧ (¬ (((S.1 7 y3.toNatClampNeg) * (S.1 6 y2.toNatClampNeg)) ≤ ((S.1 7 y2.toNatClampNeg) * (S.1 6 y3.toNatClampNeg))) → (q_X7_next_93 x1 (fun y2' y3' S9 => q_X7_next_21 x1 post n9 y2' y3' S9) post y2 y3 1 S))))))))))))
def p_X7_next (S : CS) (x1 : Int32) (post : Int32 → CS → Prop) : Prop := ∀ S_1 : CS, S_1 = sti S 0 0 0 → (p_X7_in S_1 x1 0 1 (fun r_3 S_2 => ((r_3 = 0 → (post (-1) S_2)) ∧ (¬ (r_3 = 0) → (∃ n, q_X7_next_21 x1 post n (-9) 0 S_2)))))
set_option maxHeartbeats 4000000 in
set_option maxRecDepth 100000 in
theorem c_X7_next (l : Launch) (D : va_G) (X : XE) (hX : Inj 18 X.1) (sz : Nat) (S : CS) (x1 : Int32) (post : Int32 → CS → Prop) (h : p_X7_next S x1 post) : Met l yX7_next (Cond.code yX7_next cX7_next 5 (some .int) :: lw_gd) rm_X7_next (gPc D (tyX X) (RW X) (FXr X) (AX 18 X.1 sz) sz S [.ref (X.1 0), .int x1]) (va_Qi post (gB D (RW X)) (AX 18 X.1 sz)) 0 0 (AX 18 X.1 sz) := by
  refine Met.ofW (cc := cX7_next) (maxL := 5) (ret := (some .int)) (by decide) rfl ?_
  intro p e s m args below meth c s₁ B hml hv
  obtain ⟨rfl, hsz, hP, hK, hF⟩ := hv
  have hx := B.exec
  have hb := B.bytes
  have hr := B.returns
  have hts := atoms_spec (ws := (Cond.code yX7_next cX7_next 5 (some .int) :: lw_gd)) B.pre
  have hT : ∀ w ∈ lw_gd, w.before _ s = true := fun w h9 => hts w (List.mem_cons_of_mem _ h9)
  have hown : s.vm.findClass RX7 = some m.cls := findClass_of_methodNamed B.named
  have hlocks := B.notSynchronized
  subst hsz
  have hS : va_S (AX 18 X.1 s.heap.size) s.heap s.heap [] := va_S.rf
  have W93 : ∀ (K21 : Int32 → Int32 → CS → Prop), (∀ (y2 : Int32) (y3 : Int32) (S : CS) (H : Heap) (locs : List Loc) (ls : Array Slot), va_P D vwCl (RW X S) H → va_S (AX 18 X.1 s.heap.size) s.heap H locs → lv_has ls 5 [(0, .ref (X.1 0)), (1, .int x1), (2, .int y2), (3, .int y3)] → K21 y2 y3 S → W p l e (headSpec (Cond.code yX7_next cX7_next 5 (some .int) :: lw_gd) rm_X7_next).room s m ([.ref (X.1 0), .int x1] : List Value).toArray below meth c H locs 0 0 (MQ below (va_Qi post (gB D (RW X)) (AX 18 X.1 s.heap.size)) ([.ref (X.1 0), .int x1] : List Value).toArray s 0 0 (AX 18 X.1 s.heap.size)) (F0 m 21 ls [])) → ∀ (y2 : Int32) (y3 : Int32) (z0 : Int32) (S : CS) (H : Heap) (locs : List Loc) (ls : Array Slot), va_P D vwCl (RW X S) H → va_S (AX 18 X.1 s.heap.size) s.heap H locs → lv_has ls 5 [(0, .ref (X.1 0)), (1, .int x1), (2, .int y2), (3, .int y3)] → q_X7_next_93 x1 K21 post y2 y3 z0 S → W p l e (headSpec (Cond.code yX7_next cX7_next 5 (some .int) :: lw_gd) rm_X7_next).room s m ([.ref (X.1 0), .int x1] : List Value).toArray below meth c H locs 0 0 (MQ below (va_Qi post (gB D (RW X)) (AX 18 X.1 s.heap.size)) ([.ref (X.1 0), .int x1] : List Value).toArray s 0 0 (AX 18 X.1 s.heap.size)) (F0 m 93 ls [.int z0]) := by
    intro K21 hK21 y2 y3 z0 S H locs ls hP hS hl h
    unfold q_X7_next_93 at h
    refine lv_istore (lv' := [(4, .int z0), (0, .ref (X.1 0)), (1, .int x1), (2, .int y2), (3, .int y3)]) hx hb dX7_next_93 hl (by decide) rfl (fun ls hl => ?_)
    refine lv_iload hx hb dX7_next_95 (lv_at hl 0 rfl) ?_
    refine lv_if_eq (tgt := 112) hx hb dX7_next_97 (by decide) (fun c_7 => ?_) (fun c_7 => ?_)
    · have h := h.1 c_7
      refine lv_iload_n hx hb dX7_next_112 rfl (lv_at hl 3 rfl) ?_
      refine lv_istore_n (lv' := [(2, .int y2), (4, .int z0), (0, .ref (X.1 0)), (1, .int x1), (3, .int y3)]) hx hb dX7_next_113 rfl hl (by decide) rfl (fun ls hl => ?_)
      obtain ⟨x3_8, ex3_8⟩ : ∃ z : Int32, z = y3 + 1 := ⟨_, rfl⟩
      refine lv_iinc (v := x3_8) (lv' := [(3, .int x3_8), (2, .int y2), (4, .int z0), (0, .ref (X.1 0)), (1, .int x1)]) hx hb dX7_next_114 hl (k := 4) rfl (by rw [ex3_8]; rfl) (by decide) rfl (fun ls hl => ?_)
      have h := h x3_8 ex3_8
      refine lv_goto (tgt := 21) hx hb dX7_next_117 (by decide) ?_
      exact hK21 y2 x3_8 S H locs ls hP hS (lv_sub hl [3, 4, 1, 0] rfl) h
    · have h := h.2 c_7
      refine lv_aload_n hx hb dX7_next_100 rfl (lv_at hl 1 rfl) ?_
      refine lv_iload_n hx hb dX7_next_101 rfl (lv_at hl 4 rfl) ?_
      refine rVi (As := [.int y3]) (rest := []) hX ⟨hx, hb, hml, hown, hT⟩ (c_X7_isSent l D X hX H.size S y3 _ h) (gd_V wl_X7_149 wi_X7_isSent wv_X7_isSent wn_X7 wc_X7_isSent) rfl hd_X7_isSent ⟨rfl, rfl⟩ ⟨Nat.le_of_ble_eq_true rfl, Nat.le_of_ble_eq_true rfl⟩ (va_recv hK hP (ci := 7) (q0 := 0) rfl rw_Model) hK hP hS hF rfl hl.1 rfl (Nat.le_of_ble_eq_true rfl) dX7_next_102 ⟨Nat.zero_le _, Nat.zero_le _⟩ (fun r_10 S_9 H locs h hP hS => ?_)
      refine lv_if_ne (tgt := 112) hx hb dX7_next_105 (by decide) (fun c_11 => ?_) (fun c_11 => ?_)
      · have h := h.2 c_11
        refine lv_iload_n hx hb dX7_next_112 rfl (lv_at hl 3 rfl) ?_
        refine lv_istore_n (lv' := [(2, .int y2), (4, .int z0), (0, .ref (X.1 0)), (1, .int x1), (3, .int y3)]) hx hb dX7_next_113 rfl hl (by decide) rfl (fun ls hl => ?_)
        obtain ⟨x3_12, ex3_12⟩ : ∃ z : Int32, z = y3 + 1 := ⟨_, rfl⟩
        refine lv_iinc (v := x3_12) (lv' := [(3, .int x3_12), (2, .int y2), (4, .int z0), (0, .ref (X.1 0)), (1, .int x1)]) hx hb dX7_next_114 hl (k := 4) rfl (by rw [ex3_12]; rfl) (by decide) rfl (fun ls hl => ?_)
        have h := h x3_12 ex3_12
        refine lv_goto (tgt := 21) hx hb dX7_next_117 (by decide) ?_
        exact hK21 y2 x3_12 S_9 H locs ls hP hS (lv_sub hl [3, 4, 1, 0] rfl) h
      · have h := h.1 c_11
        refine lv_iload_n hx hb dX7_next_108 rfl (lv_at hl 4 rfl) ?_
        refine lv_goto (tgt := 113) hx hb dX7_next_109 (by decide) ?_
        refine lv_istore_n (lv' := [(2, .int y3), (4, .int z0), (0, .ref (X.1 0)), (1, .int x1), (3, .int y3)]) hx hb dX7_next_113 rfl hl (by decide) rfl (fun ls hl => ?_)
        obtain ⟨x3_13, ex3_13⟩ : ∃ z : Int32, z = y3 + 1 := ⟨_, rfl⟩
        refine lv_iinc (v := x3_13) (lv' := [(3, .int x3_13), (2, .int y3), (4, .int z0), (0, .ref (X.1 0)), (1, .int x1)]) hx hb dX7_next_114 hl (k := 4) rfl (by rw [ex3_13]; rfl) (by decide) rfl (fun ls hl => ?_)
        have h := h x3_13 ex3_13
        refine lv_goto (tgt := 21) hx hb dX7_next_117 (by decide) ?_
        exact hK21 y3 x3_13 S_9 H locs ls hP hS (lv_sub hl [3, 4, 1, 0] rfl) h
  have W21 : ∀ n1 : Nat, ∀ (y2 : Int32) (y3 : Int32) (S : CS) (H : Heap) (locs : List Loc) (ls : Array Slot), va_P D vwCl (RW X S) H → va_S (AX 18 X.1 s.heap.size) s.heap H locs → lv_has ls 5 [(0, .ref (X.1 0)), (1, .int x1), (2, .int y2), (3, .int y3)] → q_X7_next_21 x1 post n1 y2 y3 S → W p l e (headSpec (Cond.code yX7_next cX7_next 5 (some .int) :: lw_gd) rm_X7_next).room s m ([.ref (X.1 0), .int x1] : List Value).toArray below meth c H locs 0 0 (MQ below (va_Qi post (gB D (RW X)) (AX 18 X.1 s.heap.size)) ([.ref (X.1 0), .int x1] : List Value).toArray s 0 0 (AX 18 X.1 s.heap.size)) (F0 m 21 ls []) := by
    intro n1
    induction n1 with
    | zero => intro y2 y3 S H locs ls hP hS hl h; exact h.elim
    | succ n9 ih =>
      intro y2 y3 S H locs ls hP hS hl h
      rw [q_X7_next_21] at h
      refine lv_iload_n hx hb dX7_next_21 rfl (lv_at hl 3 rfl) ?_
      refine lv_aload_n hx hb dX7_next_22 rfl (lv_at hl 0 rfl) ?_
      refine va_get (D := D) (ci := 7) (v := .ref (X.1 2)) (C := RX7) (T := TX7) (N := 28) hx hb hT inX7 hown hK hP 0 rw_Model rfl 9 (by decide) (hT _ wf_X7_13) (fun _ h9 => h9) rfl dX7_next_23 ?_
      refine lv_iconst (v := 1) hx hb dX7_next_26 (by decide) ?_
      refine g_iald hx hb hK hP 2 rw_2 rfl (vpc (by decide)) 1 rfl dX7_next_27 ?_
      refine lv_icmp_ge (tgt := 120) hx hb dX7_next_28 (by decide) (fun c_5 => ?_) (fun c_5 => ?_)
      · have h := h.1 c_5
        refine lv_iload_n hx hb dX7_next_120 rfl (lv_at hl 2 rfl) ?_
        exact W.iret (v := y2) hx hb hr (fun t ht hW => ⟨⟨y2, S, rfl, h, gB_of ht hP⟩, hS.F ht⟩) hS.2.2 dX7_next_121
      · have h := h.2 c_5
        refine lv_iload_n hx hb dX7_next_31 rfl (lv_at hl 2 rfl) ?_
        refine lv_bipush (v := (-9)) hx hb dX7_next_32 (by decide) ?_
        refine lv_icmp_eq (tgt := 88) hx hb dX7_next_34 (by decide) (fun c_6 => ?_) (fun c_6 => ?_)
        · have h := h.1 c_6
          refine lv_iconst (v := 1) hx hb dX7_next_88 (by decide) ?_
          refine lv_goto (tgt := 93) hx hb dX7_next_89 (by decide) ?_
          exact W93 (fun y2' y3' S9 => q_X7_next_21 x1 post n9 y2' y3' S9) ih y2 y3 1 S H locs ls hP hS hl h
        · have h := h.2 c_6
          refine lv_iload_n hx hb dX7_next_37 rfl (lv_at hl 1 rfl) ?_
          refine lv_if_ne (tgt := 59) hx hb dX7_next_38 (by decide) (fun c_14 => ?_) (fun c_14 => ?_)
          · have h := h.2 c_14
            refine lv_aload_n hx hb dX7_next_59 rfl (lv_at hl 0 rfl) ?_
            refine va_get (D := D) (ci := 7) (v := .ref (X.1 7)) (C := RX7) (T := TX7) (N := 28) hx hb hT inX7 hown hK hP 0 rw_Model rfl 15 (by decide) (hT _ wf_X7_28) (fun _ h9 => h9) rfl dX7_next_60 ?_
            refine lv_iload_n hx hb dX7_next_63 rfl (lv_at hl 3 rfl) ?_
            obtain ⟨hi, h⟩ := h
            refine g_iald hx hb hK hP 7 rw_7 rfl hi y3.toNatClampNeg rfl dX7_next_64 ?_
            refine lv_aload_n hx hb dX7_next_65 rfl (lv_at hl 0 rfl) ?_
            refine va_get (D := D) (ci := 7) (v := .ref (X.1 6)) (C := RX7) (T := TX7) (N := 28) hx hb hT inX7 hown hK hP 0 rw_Model rfl 14 (by decide) (hT _ wf_X7_25) (fun _ h9 => h9) rfl dX7_next_66 ?_
            refine lv_iload_n hx hb dX7_next_69 rfl (lv_at hl 2 rfl) ?_
            obtain ⟨hi, h⟩ := h
            refine g_iald hx hb hK hP 6 rw_6 rfl hi y2.toNatClampNeg rfl dX7_next_70 ?_
            refine lv_imul hx hb dX7_next_71 ?_
            refine lv_aload_n hx hb dX7_next_72 rfl (lv_at hl 0 rfl) ?_
            refine va_get (D := D) (ci := 7) (v := .ref (X.1 7)) (C := RX7) (T := TX7) (N := 28) hx hb hT inX7 hown hK hP 0 rw_Model rfl 15 (by decide) (hT _ wf_X7_28) (fun _ h9 => h9) rfl dX7_next_73 ?_
            refine lv_iload_n hx hb dX7_next_76 rfl (lv_at hl 2 rfl) ?_
            obtain ⟨hi, h⟩ := h
            refine g_iald hx hb hK hP 7 rw_7 rfl hi y2.toNatClampNeg rfl dX7_next_77 ?_
            refine lv_aload_n hx hb dX7_next_78 rfl (lv_at hl 0 rfl) ?_
            refine va_get (D := D) (ci := 7) (v := .ref (X.1 6)) (C := RX7) (T := TX7) (N := 28) hx hb hT inX7 hown hK hP 0 rw_Model rfl 14 (by decide) (hT _ wf_X7_25) (fun _ h9 => h9) rfl dX7_next_79 ?_
            refine lv_iload_n hx hb dX7_next_82 rfl (lv_at hl 3 rfl) ?_
            obtain ⟨hi, h⟩ := h
            refine g_iald hx hb hK hP 6 rw_6 rfl hi y3.toNatClampNeg rfl dX7_next_83 ?_
            refine lv_imul hx hb dX7_next_84 ?_
            refine lv_icmp_le (tgt := 92) hx hb dX7_next_85 (by decide) (fun c_15 => ?_) (fun c_15 => ?_)
            · have h := h.1 c_15
              refine lv_iconst (v := 0) hx hb dX7_next_92 (by decide) ?_
              exact W93 (fun y2' y3' S9 => q_X7_next_21 x1 post n9 y2' y3' S9) ih y2 y3 0 S H locs ls hP hS hl h
            · have h := h.2 c_15
              refine lv_iconst (v := 1) hx hb dX7_next_88 (by decide) ?_
              refine lv_goto (tgt := 93) hx hb dX7_next_89 (by decide) ?_
              exact W93 (fun y2' y3' S9 => q_X7_next_21 x1 post n9 y2' y3' S9) ih y2 y3 1 S H locs ls hP hS hl h
          · have h := h.1 c_14
            refine lv_aload_n hx hb dX7_next_41 rfl (lv_at hl 0 rfl) ?_
            refine va_get (D := D) (ci := 7) (v := .ref (X.1 5)) (C := RX7) (T := TX7) (N := 28) hx hb hT inX7 hown hK hP 0 rw_Model rfl 13 (by decide) (hT _ wf_X7_22) (fun _ h9 => h9) rfl dX7_next_42 ?_
            refine lv_iload_n hx hb dX7_next_45 rfl (lv_at hl 3 rfl) ?_
            obtain ⟨hi, h⟩ := h
            refine g_iald hx hb hK hP 5 rw_5 rfl hi y3.toNatClampNeg rfl dX7_next_46 ?_
            refine lv_aload_n hx hb dX7_next_47 rfl (lv_at hl 0 rfl) ?_
            refine va_get (D := D) (ci := 7) (v := .ref (X.1 5)) (C := RX7) (T := TX7) (N := 28) hx hb hT inX7 hown hK hP 0 rw_Model rfl 13 (by decide) (hT _ wf_X7_22) (fun _ h9 => h9) rfl dX7_next_48 ?_
            refine lv_iload_n hx hb dX7_next_51 rfl (lv_at hl 2 rfl) ?_
            obtain ⟨hi, h⟩ := h
            refine g_iald hx hb hK hP 5 rw_5 rfl hi y2.toNatClampNeg rfl dX7_next_52 ?_
            refine lv_icmp_ge (tgt := 92) hx hb dX7_next_53 (by decide) (fun c_16 => ?_) (fun c_16 => ?_)
            · have h := h.1 c_16
              refine lv_iconst (v := 0) hx hb dX7_next_92 (by decide) ?_
              exact W93 (fun y2' y3' S9 => q_X7_next_21 x1 post n9 y2' y3' S9) ih y2 y3 0 S H locs ls hP hS hl h
            · have h := h.2 c_16
              refine lv_goto (tgt := 88) hx hb dX7_next_56 (by decide) ?_
              refine lv_iconst (v := 1) hx hb dX7_next_88 (by decide) ?_
              refine lv_goto (tgt := 93) hx hb dX7_next_89 (by decide) ?_
              exact W93 (fun y2' y3' S9 => q_X7_next_21 x1 post n9 y2' y3' S9) ih y2 y3 1 S H locs ls hP hS hl h
  have hl := lv_entry ([.ref (X.1 0), .int x1]) (n := 5) (Nat.le_of_ble_eq_true rfl)
  rw [lg_entry_eq]
  generalize (lg_sl ([.ref (X.1 0), .int x1]) ++ List.replicate (5 - (lg_sl ([.ref (X.1 0), .int x1])).length) Slot.unset).toArray = ls at hl ⊢
  have hl : lv_has ls 5 [(0, .ref (X.1 0)), (1, .int x1)] := hl
  obtain ⟨H, hH⟩ : ∃ H : Heap, H = s.heap := ⟨_, rfl⟩
  obtain ⟨locs, hlc⟩ : ∃ q : List Loc, q = [] := ⟨_, rfl⟩
  have hS : va_S (AX 18 X.1 s.heap.size) s.heap H locs := by rw [hH, hlc]; exact hS
  have hP : va_P D vwCl (RW X S) H := by rw [hH]; exact hP
  show W p l e (headSpec (Cond.code yX7_next cX7_next 5 (some .int) :: lw_gd) rm_X7_next).room s m ([.ref (X.1 0), .int x1] : List Value).toArray below meth c s.heap [] 0 0 (MQ below (va_Qi post (gB D (RW X)) (AX 18 X.1 s.heap.size)) ([.ref (X.1 0), .int x1] : List Value).toArray s 0 0 (AX 18 X.1 s.heap.size)) _
  suffices hgo : W p l e (headSpec (Cond.code yX7_next cX7_next 5 (some .int) :: lw_gd) rm_X7_next).room s m ([.ref (X.1 0), .int x1] : List Value).toArray below meth c H locs 0 0 (MQ below (va_Qi post (gB D (RW X)) (AX 18 X.1 s.heap.size)) ([.ref (X.1 0), .int x1] : List Value).toArray s 0 0 (AX 18 X.1 s.heap.size)) (F0 m 0 ls []) from by rw [hH, hlc] at hgo; exact hgo
  unfold p_X7_next at h
  refine lv_aload_n hx hb dX7_next_0 rfl (lv_at hl 0 rfl) ?_
  refine lv_iconst (v := 0) hx hb dX7_next_1 (by decide) ?_
  refine va_put (D := D) (ci := 7) (v := .int 0) (ty := .int) (C := RX7) (T := TX7) (N := 28) hx hb hT inX7 tyX7 tyX7_ok nmX7 hown hK hP (gw_D hX) hS 0 rw_Model rfl 0 (by decide) (hT _ wf_X7_68) (fun _ h9 => h9) rfl (by decide +kernel) rfl rfl (Nat.le_of_ble_eq_true rfl) dX7_next_2 (fun H locs hP _ hS => ?_)
  have hP := rw_st (j := 0) (x := 0) rfl hP
  obtain ⟨S_1, eS_1⟩ : ∃ z : CS, z = sti S 0 0 0 := ⟨_, rfl⟩
  rw [← eS_1] at hP
  have h := h S_1 eS_1
  refine lv_iload_n hx hb dX7_next_5 rfl (lv_at hl 1 rfl) ?_
  refine lv_iconst (v := 0) hx hb dX7_next_6 (by decide) ?_
  refine lv_iconst (v := 1) hx hb dX7_next_7 (by decide) ?_
  refine rSi (As := [.int x1, .int 0, .int 1]) (rest := []) hX ⟨hx, hb, hml, hown, hT⟩ (c_X7_in l D X hX H.size S_1 x1 0 1 _ h) (gd_S wl_X7_72 wt_X7_in wn_X7 wc_X7_in) hd_X7_in ⟨rfl, rfl⟩ ⟨Nat.le_of_ble_eq_true rfl, Nat.le_of_ble_eq_true rfl⟩ hK hP hS hF rfl hl.1 rfl (Nat.le_of_ble_eq_true rfl) dX7_next_8 ⟨Nat.zero_le _, Nat.zero_le _⟩ (fun r_3 S_2 H locs h hP hS => ?_)
  refine lv_if_ne (tgt := 16) hx hb dX7_next_11 (by decide) (fun c_4 => ?_) (fun c_4 => ?_)
  · have h := h.2 c_4
    refine lv_bipush (v := (-9)) hx hb dX7_next_16 (by decide) ?_
    refine lv_istore_n (lv' := [(2, .int (-9)), (0, .ref (X.1 0)), (1, .int x1)]) hx hb dX7_next_18 rfl hl (by decide) rfl (fun ls hl => ?_)
    refine lv_iconst (v := 0) hx hb dX7_next_19 (by decide) ?_
    refine lv_istore_n (lv' := [(3, .int 0), (2, .int (-9)), (0, .ref (X.1 0)), (1, .int x1)]) hx hb dX7_next_20 rfl hl (by decide) rfl (fun ls hl => ?_)
    obtain ⟨n1, h⟩ := h
    exact W21  n1 (-9) 0 S_2 H locs ls hP hS (lv_sub hl [2, 3, 1, 0] rfl) h
  · have h := h.1 c_4
    refine lv_iconst (v := (-1)) hx hb dX7_next_14 (by decide) ?_
    exact W.iret (v := (-1)) hx hb hr (fun t ht hW => ⟨⟨(-1), S_2, rfl, h, gB_of ht hP⟩, hS.F ht⟩) hS.2.2 dX7_next_15

abbrev rm_X7_wanted : Room := { frames := 1, cells := 0, slots := 0, locals := 24 }
def p_X7_wanted (S : CS)  (post : Int32 → CS → Prop) : Prop := p_X7_besomsBy S (((1 <<< ((S.1 2 1) &&& 31)) - 1) &&& ((S.1 8 5) ^^^ (-1))) 60 (fun r_2 S_1 => (∀ x1_3 : Int32, x1_3 = (r_2 - (S_1.1 8 3)) → ((0 ≤ x1_3 → (post x1_3 S_1)) ∧ (¬ (0 ≤ x1_3) → (post 0 S_1)))))
set_option maxHeartbeats 4000000 in
set_option maxRecDepth 100000 in
theorem c_X7_wanted (l : Launch) (D : va_G) (X : XE) (hX : Inj 18 X.1) (sz : Nat) (S : CS)  (post : Int32 → CS → Prop) (h : p_X7_wanted S  post) : Met l yX7_wanted (Cond.code yX7_wanted cX7_wanted 2 (some .int) :: lw_gd) rm_X7_wanted (gPc D (tyX X) (RW X) (FXr X) (AX 18 X.1 sz) sz S [.ref (X.1 0)]) (va_Qi post (gB D (RW X)) (AX 18 X.1 sz)) 0 0 (AX 18 X.1 sz) := by
  refine Met.ofW (cc := cX7_wanted) (maxL := 2) (ret := (some .int)) (by decide) rfl ?_
  intro p e s m args below meth c s₁ B hml hv
  obtain ⟨rfl, hsz, hP, hK, hF⟩ := hv
  have hx := B.exec
  have hb := B.bytes
  have hr := B.returns
  have hts := atoms_spec (ws := (Cond.code yX7_wanted cX7_wanted 2 (some .int) :: lw_gd)) B.pre
  have hT : ∀ w ∈ lw_gd, w.before _ s = true := fun w h9 => hts w (List.mem_cons_of_mem _ h9)
  have hown : s.vm.findClass RX7 = some m.cls := findClass_of_methodNamed B.named
  have hlocks := B.notSynchronized
  subst hsz
  have hS : va_S (AX 18 X.1 s.heap.size) s.heap s.heap [] := va_S.rf
  have hl := lv_entry ([.ref (X.1 0)]) (n := 2) (Nat.le_of_ble_eq_true rfl)
  rw [lg_entry_eq]
  generalize (lg_sl ([.ref (X.1 0)]) ++ List.replicate (2 - (lg_sl ([.ref (X.1 0)])).length) Slot.unset).toArray = ls at hl ⊢
  have hl : lv_has ls 2 [(0, .ref (X.1 0))] := hl
  obtain ⟨H, hH⟩ : ∃ H : Heap, H = s.heap := ⟨_, rfl⟩
  obtain ⟨locs, hlc⟩ : ∃ q : List Loc, q = [] := ⟨_, rfl⟩
  have hS : va_S (AX 18 X.1 s.heap.size) s.heap H locs := by rw [hH, hlc]; exact hS
  have hP : va_P D vwCl (RW X S) H := by rw [hH]; exact hP
  show W p l e (headSpec (Cond.code yX7_wanted cX7_wanted 2 (some .int) :: lw_gd) rm_X7_wanted).room s m ([.ref (X.1 0)] : List Value).toArray below meth c s.heap [] 0 0 (MQ below (va_Qi post (gB D (RW X)) (AX 18 X.1 s.heap.size)) ([.ref (X.1 0)] : List Value).toArray s 0 0 (AX 18 X.1 s.heap.size)) _
  suffices hgo : W p l e (headSpec (Cond.code yX7_wanted cX7_wanted 2 (some .int) :: lw_gd) rm_X7_wanted).room s m ([.ref (X.1 0)] : List Value).toArray below meth c H locs 0 0 (MQ below (va_Qi post (gB D (RW X)) (AX 18 X.1 s.heap.size)) ([.ref (X.1 0)] : List Value).toArray s 0 0 (AX 18 X.1 s.heap.size)) (F0 m 0 ls []) from by rw [hH, hlc] at hgo; exact hgo
  unfold p_X7_wanted at h
  refine lv_aload_n hx hb dX7_wanted_0 rfl (lv_at hl 0 rfl) ?_
  refine lv_iconst (v := 1) hx hb dX7_wanted_1 (by decide) ?_
  refine lv_aload_n hx hb dX7_wanted_2 rfl (lv_at hl 0 rfl) ?_
  refine va_get (D := D) (ci := 7) (v := .ref (X.1 2)) (C := RX7) (T := TX7) (N := 28) hx hb hT inX7 hown hK hP 0 rw_Model rfl 9 (by decide) (hT _ wf_X7_13) (fun _ h9 => h9) rfl dX7_wanted_3 ?_
  refine lv_iconst (v := 1) hx hb dX7_wanted_6 (by decide) ?_
  refine g_iald hx hb hK hP 2 rw_2 rfl (vpc (by decide)) 1 rfl dX7_wanted_7 ?_
  refine lv_ishl hx hb dX7_wanted_8 ?_
  refine lv_iconst (v := 1) hx hb dX7_wanted_9 (by decide) ?_
  refine lv_isub hx hb dX7_wanted_10 ?_
  refine lv_aload_n hx hb dX7_wanted_11 rfl (lv_at hl 0 rfl) ?_
  refine va_get (D := D) (ci := 7) (v := .ref (X.1 8)) (C := RX7) (T := TX7) (N := 28) hx hb hT inX7 hown hK hP 0 rw_Model rfl 16 (by decide) (hT _ wf_X7_31) (fun _ h9 => h9) rfl dX7_wanted_12 ?_
  refine lv_iconst (v := 5) hx hb dX7_wanted_15 (by decide) ?_
  refine g_iald hx hb hK hP 8 rw_8 rfl (vpc (by decide)) 5 rfl dX7_wanted_16 ?_
  refine lv_iconst (v := (-1)) hx hb dX7_wanted_17 (by decide) ?_
  refine lv_ixor hx hb dX7_wanted_18 ?_
  refine lv_iand hx hb dX7_wanted_19 ?_
  refine lv_bipush (v := 60) hx hb dX7_wanted_20 (by decide) ?_
  refine rVi (As := [.int (((1 <<< ((S.1 2 1) &&& 31)) - 1) &&& ((S.1 8 5) ^^^ (-1))), .int 60]) (rest := []) hX ⟨hx, hb, hml, hown, hT⟩ (c_X7_besomsBy l D X hX H.size S (((1 <<< ((S.1 2 1) &&& 31)) - 1) &&& ((S.1 8 5) ^^^ (-1))) 60 _ h) (gd_V wl_X7_181 wi_X7_besomsBy wv_X7_besomsBy wn_X7 wc_X7_besomsBy) rfl hd_X7_besomsBy ⟨rfl, rfl⟩ ⟨Nat.le_of_ble_eq_true rfl, Nat.le_of_ble_eq_true rfl⟩ (va_recv hK hP (ci := 7) (q0 := 0) rfl rw_Model) hK hP hS hF rfl hl.1 rfl (Nat.le_of_ble_eq_true rfl) dX7_wanted_22 ⟨Nat.zero_le _, Nat.zero_le _⟩ (fun r_2 S_1 H locs h hP hS => ?_)
  refine lv_aload_n hx hb dX7_wanted_25 rfl (lv_at hl 0 rfl) ?_
  refine va_get (D := D) (ci := 7) (v := .ref (X.1 8)) (C := RX7) (T := TX7) (N := 28) hx hb hT inX7 hown hK hP 0 rw_Model rfl 16 (by decide) (hT _ wf_X7_31) (fun _ h9 => h9) rfl dX7_wanted_26 ?_
  refine lv_iconst (v := 3) hx hb dX7_wanted_29 (by decide) ?_
  refine g_iald hx hb hK hP 8 rw_8 rfl (vpc (by decide)) 3 rfl dX7_wanted_30 ?_
  refine lv_isub hx hb dX7_wanted_31 ?_
  refine lv_topi (fun x1_3 ex1_3 => ?_)
  have h := h x1_3 ex1_3
  refine lv_istore_n (lv' := [(1, .int x1_3), (0, .ref (X.1 0))]) hx hb dX7_wanted_32 rfl hl (by decide) rfl (fun ls hl => ?_)
  refine lv_iload_n hx hb dX7_wanted_33 rfl (lv_at hl 0 rfl) ?_
  refine lv_if_ge (tgt := 41) hx hb dX7_wanted_34 (by decide) (fun c_4 => ?_) (fun c_4 => ?_)
  · have h := h.1 c_4
    refine lv_iload_n hx hb dX7_wanted_41 rfl (lv_at hl 0 rfl) ?_
    exact W.iret (v := x1_3) hx hb hr (fun t ht hW => ⟨⟨x1_3, S_1, rfl, h, gB_of ht hP⟩, hS.F ht⟩) hS.2.2 dX7_wanted_42
  · have h := h.2 c_4
    refine lv_iconst (v := 0) hx hb dX7_wanted_37 (by decide) ?_
    refine lv_goto (tgt := 42) hx hb dX7_wanted_38 (by decide) ?_
    exact W.iret (v := 0) hx hb hr (fun t ht hW => ⟨⟨0, S_1, rfl, h, gB_of ht hP⟩, hS.F ht⟩) hS.2.2 dX7_wanted_42

abbrev rm_X7_lacks : Room := { frames := 2, cells := 0, slots := 0, locals := 45 }
def p_X7_lacks (S : CS)  (post : Int32 → CS → Prop) : Prop := p_X7_wanted S  (fun r_2 S_1 => (∀ x1_3 : Int32, x1_3 = ((r_2 * (S_1.1 2 3)) - (S_1.1 8 2)) → ((0 ≤ x1_3 → (post x1_3 S_1)) ∧ (¬ (0 ≤ x1_3) → (post 0 S_1)))))
set_option maxHeartbeats 4000000 in
set_option maxRecDepth 100000 in
theorem c_X7_lacks (l : Launch) (D : va_G) (X : XE) (hX : Inj 18 X.1) (sz : Nat) (S : CS)  (post : Int32 → CS → Prop) (h : p_X7_lacks S  post) : Met l yX7_lacks (Cond.code yX7_lacks cX7_lacks 2 (some .int) :: lw_gd) rm_X7_lacks (gPc D (tyX X) (RW X) (FXr X) (AX 18 X.1 sz) sz S [.ref (X.1 0)]) (va_Qi post (gB D (RW X)) (AX 18 X.1 sz)) 0 0 (AX 18 X.1 sz) := by
  refine Met.ofW (cc := cX7_lacks) (maxL := 2) (ret := (some .int)) (by decide) rfl ?_
  intro p e s m args below meth c s₁ B hml hv
  obtain ⟨rfl, hsz, hP, hK, hF⟩ := hv
  have hx := B.exec
  have hb := B.bytes
  have hr := B.returns
  have hts := atoms_spec (ws := (Cond.code yX7_lacks cX7_lacks 2 (some .int) :: lw_gd)) B.pre
  have hT : ∀ w ∈ lw_gd, w.before _ s = true := fun w h9 => hts w (List.mem_cons_of_mem _ h9)
  have hown : s.vm.findClass RX7 = some m.cls := findClass_of_methodNamed B.named
  have hlocks := B.notSynchronized
  subst hsz
  have hS : va_S (AX 18 X.1 s.heap.size) s.heap s.heap [] := va_S.rf
  have hl := lv_entry ([.ref (X.1 0)]) (n := 2) (Nat.le_of_ble_eq_true rfl)
  rw [lg_entry_eq]
  generalize (lg_sl ([.ref (X.1 0)]) ++ List.replicate (2 - (lg_sl ([.ref (X.1 0)])).length) Slot.unset).toArray = ls at hl ⊢
  have hl : lv_has ls 2 [(0, .ref (X.1 0))] := hl
  obtain ⟨H, hH⟩ : ∃ H : Heap, H = s.heap := ⟨_, rfl⟩
  obtain ⟨locs, hlc⟩ : ∃ q : List Loc, q = [] := ⟨_, rfl⟩
  have hS : va_S (AX 18 X.1 s.heap.size) s.heap H locs := by rw [hH, hlc]; exact hS
  have hP : va_P D vwCl (RW X S) H := by rw [hH]; exact hP
  show W p l e (headSpec (Cond.code yX7_lacks cX7_lacks 2 (some .int) :: lw_gd) rm_X7_lacks).room s m ([.ref (X.1 0)] : List Value).toArray below meth c s.heap [] 0 0 (MQ below (va_Qi post (gB D (RW X)) (AX 18 X.1 s.heap.size)) ([.ref (X.1 0)] : List Value).toArray s 0 0 (AX 18 X.1 s.heap.size)) _
  suffices hgo : W p l e (headSpec (Cond.code yX7_lacks cX7_lacks 2 (some .int) :: lw_gd) rm_X7_lacks).room s m ([.ref (X.1 0)] : List Value).toArray below meth c H locs 0 0 (MQ below (va_Qi post (gB D (RW X)) (AX 18 X.1 s.heap.size)) ([.ref (X.1 0)] : List Value).toArray s 0 0 (AX 18 X.1 s.heap.size)) (F0 m 0 ls []) from by rw [hH, hlc] at hgo; exact hgo
  unfold p_X7_lacks at h
  refine lv_aload_n hx hb dX7_lacks_0 rfl (lv_at hl 0 rfl) ?_
  refine rVi (As := []) (rest := []) hX ⟨hx, hb, hml, hown, hT⟩ (c_X7_wanted l D X hX H.size S  _ h) (gd_V wl_X7_190 wi_X7_wanted wv_X7_wanted wn_X7 wc_X7_wanted) rfl hd_X7_wanted ⟨rfl, rfl⟩ ⟨Nat.le_of_ble_eq_true rfl, Nat.le_of_ble_eq_true rfl⟩ (va_recv hK hP (ci := 7) (q0 := 0) rfl rw_Model) hK hP hS hF rfl hl.1 rfl (Nat.le_of_ble_eq_true rfl) dX7_lacks_1 ⟨Nat.zero_le _, Nat.zero_le _⟩ (fun r_2 S_1 H locs h hP hS => ?_)
  refine lv_aload_n hx hb dX7_lacks_4 rfl (lv_at hl 0 rfl) ?_
  refine va_get (D := D) (ci := 7) (v := .ref (X.1 2)) (C := RX7) (T := TX7) (N := 28) hx hb hT inX7 hown hK hP 0 rw_Model rfl 9 (by decide) (hT _ wf_X7_13) (fun _ h9 => h9) rfl dX7_lacks_5 ?_
  refine lv_iconst (v := 3) hx hb dX7_lacks_8 (by decide) ?_
  refine g_iald hx hb hK hP 2 rw_2 rfl (vpc (by decide)) 3 rfl dX7_lacks_9 ?_
  refine lv_imul hx hb dX7_lacks_10 ?_
  refine lv_aload_n hx hb dX7_lacks_11 rfl (lv_at hl 0 rfl) ?_
  refine va_get (D := D) (ci := 7) (v := .ref (X.1 8)) (C := RX7) (T := TX7) (N := 28) hx hb hT inX7 hown hK hP 0 rw_Model rfl 16 (by decide) (hT _ wf_X7_31) (fun _ h9 => h9) rfl dX7_lacks_12 ?_
  refine lv_iconst (v := 2) hx hb dX7_lacks_15 (by decide) ?_
  refine g_iald hx hb hK hP 8 rw_8 rfl (vpc (by decide)) 2 rfl dX7_lacks_16 ?_
  refine lv_isub hx hb dX7_lacks_17 ?_
  refine lv_topi (fun x1_3 ex1_3 => ?_)
  have h := h x1_3 ex1_3
  refine lv_istore_n (lv' := [(1, .int x1_3), (0, .ref (X.1 0))]) hx hb dX7_lacks_18 rfl hl (by decide) rfl (fun ls hl => ?_)
  refine lv_iload_n hx hb dX7_lacks_19 rfl (lv_at hl 0 rfl) ?_
  refine lv_if_ge (tgt := 27) hx hb dX7_lacks_20 (by decide) (fun c_4 => ?_) (fun c_4 => ?_)
  · have h := h.1 c_4
    refine lv_iload_n hx hb dX7_lacks_27 rfl (lv_at hl 0 rfl) ?_
    exact W.iret (v := x1_3) hx hb hr (fun t ht hW => ⟨⟨x1_3, S_1, rfl, h, gB_of ht hP⟩, hS.F ht⟩) hS.2.2 dX7_lacks_28
  · have h := h.2 c_4
    refine lv_iconst (v := 0) hx hb dX7_lacks_23 (by decide) ?_
    refine lv_goto (tgt := 28) hx hb dX7_lacks_24 (by decide) ?_
    exact W.iret (v := 0) hx hb hr (fun t ht hW => ⟨⟨0, S_1, rfl, h, gB_of ht hP⟩, hS.F ht⟩) hS.2.2 dX7_lacks_28

abbrev rm_X7_lack : Room := { frames := 3, cells := 0, slots := 0, locals := 66 }
def p_X7_lack (S : CS)  (post : Int32 → CS → Prop) : Prop := ∀ S_1 : CS, S_1 = sti S 0 0 0 → (p_X7_lacks S_1  (fun r_3 S_2 => (post r_3 S_2)))
set_option maxHeartbeats 4000000 in
set_option maxRecDepth 100000 in
theorem c_X7_lack (l : Launch) (D : va_G) (X : XE) (hX : Inj 18 X.1) (sz : Nat) (S : CS)  (post : Int32 → CS → Prop) (h : p_X7_lack S  post) : Met l yX7_lack (Cond.code yX7_lack cX7_lack 1 (some .int) :: lw_gd) rm_X7_lack (gPc D (tyX X) (RW X) (FXr X) (AX 18 X.1 sz) sz S [.ref (X.1 0)]) (va_Qi post (gB D (RW X)) (AX 18 X.1 sz)) 0 0 (AX 18 X.1 sz) := by
  refine Met.ofW (cc := cX7_lack) (maxL := 1) (ret := (some .int)) (by decide) rfl ?_
  intro p e s m args below meth c s₁ B hml hv
  obtain ⟨rfl, hsz, hP, hK, hF⟩ := hv
  have hx := B.exec
  have hb := B.bytes
  have hr := B.returns
  have hts := atoms_spec (ws := (Cond.code yX7_lack cX7_lack 1 (some .int) :: lw_gd)) B.pre
  have hT : ∀ w ∈ lw_gd, w.before _ s = true := fun w h9 => hts w (List.mem_cons_of_mem _ h9)
  have hown : s.vm.findClass RX7 = some m.cls := findClass_of_methodNamed B.named
  have hlocks := B.notSynchronized
  subst hsz
  have hS : va_S (AX 18 X.1 s.heap.size) s.heap s.heap [] := va_S.rf
  have hl := lv_entry ([.ref (X.1 0)]) (n := 1) (Nat.le_of_ble_eq_true rfl)
  rw [lg_entry_eq]
  generalize (lg_sl ([.ref (X.1 0)]) ++ List.replicate (1 - (lg_sl ([.ref (X.1 0)])).length) Slot.unset).toArray = ls at hl ⊢
  have hl : lv_has ls 1 [(0, .ref (X.1 0))] := hl
  obtain ⟨H, hH⟩ : ∃ H : Heap, H = s.heap := ⟨_, rfl⟩
  obtain ⟨locs, hlc⟩ : ∃ q : List Loc, q = [] := ⟨_, rfl⟩
  have hS : va_S (AX 18 X.1 s.heap.size) s.heap H locs := by rw [hH, hlc]; exact hS
  have hP : va_P D vwCl (RW X S) H := by rw [hH]; exact hP
  show W p l e (headSpec (Cond.code yX7_lack cX7_lack 1 (some .int) :: lw_gd) rm_X7_lack).room s m ([.ref (X.1 0)] : List Value).toArray below meth c s.heap [] 0 0 (MQ below (va_Qi post (gB D (RW X)) (AX 18 X.1 s.heap.size)) ([.ref (X.1 0)] : List Value).toArray s 0 0 (AX 18 X.1 s.heap.size)) _
  suffices hgo : W p l e (headSpec (Cond.code yX7_lack cX7_lack 1 (some .int) :: lw_gd) rm_X7_lack).room s m ([.ref (X.1 0)] : List Value).toArray below meth c H locs 0 0 (MQ below (va_Qi post (gB D (RW X)) (AX 18 X.1 s.heap.size)) ([.ref (X.1 0)] : List Value).toArray s 0 0 (AX 18 X.1 s.heap.size)) (F0 m 0 ls []) from by rw [hH, hlc] at hgo; exact hgo
  unfold p_X7_lack at h
  refine lv_aload_n hx hb dX7_lack_0 rfl (lv_at hl 0 rfl) ?_
  refine lv_iconst (v := 0) hx hb dX7_lack_1 (by decide) ?_
  refine va_put (D := D) (ci := 7) (v := .int 0) (ty := .int) (C := RX7) (T := TX7) (N := 28) hx hb hT inX7 tyX7 tyX7_ok nmX7 hown hK hP (gw_D hX) hS 0 rw_Model rfl 0 (by decide) (hT _ wf_X7_68) (fun _ h9 => h9) rfl (by decide +kernel) rfl rfl (Nat.le_of_ble_eq_true rfl) dX7_lack_2 (fun H locs hP _ hS => ?_)
  have hP := rw_st (j := 0) (x := 0) rfl hP
  obtain ⟨S_1, eS_1⟩ : ∃ z : CS, z = sti S 0 0 0 := ⟨_, rfl⟩
  rw [← eS_1] at hP
  have h := h S_1 eS_1
  refine lv_aload_n hx hb dX7_lack_5 rfl (lv_at hl 0 rfl) ?_
  refine rVi (As := []) (rest := []) hX ⟨hx, hb, hml, hown, hT⟩ (c_X7_lacks l D X hX H.size S_1  _ h) (gd_V wl_X7_194 wi_X7_lacks wv_X7_lacks wn_X7 wc_X7_lacks) rfl hd_X7_lacks ⟨rfl, rfl⟩ ⟨Nat.le_of_ble_eq_true rfl, Nat.le_of_ble_eq_true rfl⟩ (va_recv hK hP (ci := 7) (q0 := 0) rfl rw_Model) hK hP hS hF rfl hl.1 rfl (Nat.le_of_ble_eq_true rfl) dX7_lack_6 ⟨Nat.zero_le _, Nat.zero_le _⟩ (fun r_3 S_2 H locs h hP hS => ?_)
  exact W.iret (v := r_3) hx hb hr (fun t ht hW => ⟨⟨r_3, S_2, rfl, h, gB_of ht hP⟩, hS.F ht⟩) hS.2.2 dX7_lack_9
