abbrev rm_X7_settles : Room := { frames := 0, cells := 0, slots := 0, locals := 0 }
def q_X7_settles_155  (post : CS → Prop) : Nat → Int32 → CS → Prop
  | 0, _, _ => False
  | n9 + 1, y1, S => (8 ≤ y1 → (∀ S_5 : CS, S_5 = sti S 0 3 0 → (∀ S_6 : CS, S_6 = sti S_5 0 25 0 → (∀ S_7 : CS, S_7 = sti S_6 0 21 0 → (∀ S_8 : CS, S_8 = sti S_7 11 0 (vp_nar .boolean 0) → (∀ S_9 : CS, S_9 = sti S_8 11 1 (vp_nar .boolean 0) → (post S_9))))))) ∧ (¬ (8 ≤ y1) → (∀ u_10 : Int32, u_10 = S.1 2 5 → (vp_in (7 + y1) 21 ∧ (∀ S_11 : CS, S_11 = sti S 8 ((7 + y1).toNatClampNeg) u_10 → (∀ x1_12 : Int32, x1_12 = y1 + 1 → (q_X7_settles_155 post n9 x1_12 S_11))))))
def q_X7_settles_52  (post : CS → Prop) : Nat → Int32 → CS → Prop
  | 0, _, _ => False
  | n9 + 1, y1, S => (6 ≤ y1 → (∃ n, q_X7_settles_155 post n 0 S)) ∧ (¬ (6 ≤ y1) → (vp_in (6 + y1) 12 ∧ (∀ u_13 : Int32, u_13 = S.1 3 ((6 + y1).toNatClampNeg) → (vp_in y1 12 ∧ (∀ S_14 : CS, S_14 = sti S 3 y1.toNatClampNeg u_13 → (vp_in (6 + y1) 12 ∧ (∀ u_15 : Int32, u_15 = S_14.1 5 ((6 + y1).toNatClampNeg) → (vp_in y1 12 ∧ (∀ S_16 : CS, S_16 = sti S_14 5 y1.toNatClampNeg u_15 → (vp_in (6 + y1) 12 ∧ (∀ u_17 : Int32, u_17 = S_16.1 6 ((6 + y1).toNatClampNeg) → (vp_in y1 12 ∧ (∀ S_18 : CS, S_18 = sti S_16 6 y1.toNatClampNeg u_17 → (vp_in (6 + y1) 12 ∧ (∀ u_19 : Int32, u_19 = S_18.1 7 ((6 + y1).toNatClampNeg) → (vp_in y1 12 ∧ (∀ S_20 : CS, S_20 = sti S_18 7 y1.toNatClampNeg u_19 → (((S_20.1 2 0) ≤ y1 → (vp_in (15 + y1) 21 ∧ (∀ S_22 : CS, S_22 = sti S_20 8 ((15 + y1).toNatClampNeg) 0 → (∀ x1_23 : Int32, x1_23 = y1 + 1 → (q_X7_settles_52 post n9 x1_23 S_22))))) ∧ (¬ ((S_20.1 2 0) ≤ y1) → (vp_in y1 6 ∧ (∀ u_24 : Int32, u_24 = S_20.1 4 y1.toNatClampNeg → (vp_in (15 + y1) 21 ∧ (∀ S_25 : CS, S_25 = sti S_20 8 ((15 + y1).toNatClampNeg) u_24 → (∀ x1_26 : Int32, x1_26 = y1 + 1 → (q_X7_settles_52 post n9 x1_26 S_25)))))))))))))))))))))))))
def q_X7_settles_31  (post : CS → Prop) : Nat → Int32 → CS → Prop
  | 0, _, _ => False
  | n9 + 1, y1, S => (21 ≤ y1 → (∃ n, q_X7_settles_52 post n 0 S)) ∧ (¬ (21 ≤ y1) → (vp_in y1 21 ∧ (∀ S_27 : CS, S_27 = sti S 8 y1.toNatClampNeg 0 → (∀ x1_28 : Int32, x1_28 = y1 + 1 → (q_X7_settles_31 post n9 x1_28 S_27)))))
def q_X7_settles_2  (post : CS → Prop) : Nat → Int32 → CS → Prop
  | 0, _, _ => False
  | n9 + 1, y1, S => (6 ≤ y1 → (∃ n, q_X7_settles_31 post n 0 S)) ∧ (¬ (6 ≤ y1) → (vp_in (6 + y1) 12 ∧ (∀ u_29 : Int32, u_29 = S.1 2 ((6 + y1).toNatClampNeg) → (vp_in y1 12 ∧ (∀ S_30 : CS, S_30 = sti S 2 y1.toNatClampNeg u_29 → (∀ x1_31 : Int32, x1_31 = y1 + 1 → (q_X7_settles_2 post n9 x1_31 S_30)))))))
def p_X7_settles (S : CS)  (post : CS → Prop) : Prop := ∃ n, q_X7_settles_2 post n 0 S
set_option maxHeartbeats 4000000 in
set_option maxRecDepth 100000 in
theorem c_X7_settles (l : Launch) (D : va_G) (X : XE) (hX : Inj 18 X.1) (sz : Nat) (S : CS)  (post : CS → Prop) (h : p_X7_settles S  post) : Met l yX7_settles (Cond.code yX7_settles cX7_settles 2 none :: lw_gd) rm_X7_settles (gPc D (tyX X) (RW X) (FXr X) (AX 18 X.1 sz) sz S [.ref (X.1 0)]) (va_Qv post (gB D (RW X)) (AX 18 X.1 sz)) 0 0 (AX 18 X.1 sz) := by
  refine Met.ofW (cc := cX7_settles) (maxL := 2) (ret := none) (by decide) rfl ?_
  intro p e s m args below meth c s₁ B hml hv
  obtain ⟨rfl, hsz, hP, hK, hF⟩ := hv
  have hx := B.exec
  have hb := B.bytes
  have hr := B.returns
  have hts := atoms_spec (ws := (Cond.code yX7_settles cX7_settles 2 none :: lw_gd)) B.pre
  have hT : ∀ w ∈ lw_gd, w.before _ s = true := fun w h9 => hts w (List.mem_cons_of_mem _ h9)
  have hown : s.vm.findClass RX7 = some m.cls := findClass_of_methodNamed B.named
  have hlocks := B.notSynchronized
  subst hsz
  have hS : va_S (AX 18 X.1 s.heap.size) s.heap s.heap [] := va_S.rf
  have W155 : ∀ n1 : Nat, ∀ (y1 : Int32) (S : CS) (H : Heap) (locs : List Loc) (ls : Array Slot), va_P D vwCl (RW X S) H → va_S (AX 18 X.1 s.heap.size) s.heap H locs → lv_has ls 2 [(0, .ref (X.1 0)), (1, .int y1)] → q_X7_settles_155 post n1 y1 S → W p l e (headSpec (Cond.code yX7_settles cX7_settles 2 none :: lw_gd) rm_X7_settles).room s m ([.ref (X.1 0)] : List Value).toArray below meth c H locs 0 0 (MQ below (va_Qv post (gB D (RW X)) (AX 18 X.1 s.heap.size)) ([.ref (X.1 0)] : List Value).toArray s 0 0 (AX 18 X.1 s.heap.size)) (F0 m 155 ls []) := by
    intro n1
    induction n1 with
    | zero => intro y1 S H locs ls hP hS hl h; exact h.elim
    | succ n9 ih =>
      intro y1 S H locs ls hP hS hl h
      rw [q_X7_settles_155] at h
      refine lv_iload_n hx hb dX7_settles_155 rfl (lv_at hl 1 rfl) ?_
      refine lv_bipush (v := 8) hx hb dX7_settles_156 (by decide) ?_
      refine lv_icmp_ge (tgt := 182) hx hb dX7_settles_158 (by decide) (fun c_4 => ?_) (fun c_4 => ?_)
      · have h := h.1 c_4
        refine lv_aload_n hx hb dX7_settles_182 rfl (lv_at hl 0 rfl) ?_
        refine lv_iconst (v := 0) hx hb dX7_settles_183 (by decide) ?_
        refine va_put (D := D) (ci := 7) (v := .int 0) (ty := .int) (C := RX7) (T := TX7) (N := 28) hx hb hT inX7 tyX7 tyX7_ok nmX7 hown hK hP (gw_D hX) hS 0 rw_Model rfl 3 (by decide) (hT _ wf_X7_76) (fun _ h9 => h9) rfl (by decide +kernel) rfl rfl (Nat.le_of_ble_eq_true rfl) dX7_settles_184 (fun H locs hP _ hS => ?_)
        have hP := rw_st (j := 3) (x := 0) rfl hP
        obtain ⟨S_5, eS_5⟩ : ∃ z : CS, z = sti S 0 3 0 := ⟨_, rfl⟩
        rw [← eS_5] at hP
        have h := h S_5 eS_5
        refine lv_aload_n hx hb dX7_settles_187 rfl (lv_at hl 0 rfl) ?_
        refine lv_iconst (v := 0) hx hb dX7_settles_188 (by decide) ?_
        refine va_put (D := D) (ci := 7) (v := .int 0) (ty := .int) (C := RX7) (T := TX7) (N := 28) hx hb hT inX7 tyX7 tyX7_ok nmX7 hown hK hP (gw_D hX) hS 0 rw_Model rfl 25 (by decide) (hT _ wf_X7_130) (fun _ h9 => h9) rfl (by decide +kernel) rfl rfl (Nat.le_of_ble_eq_true rfl) dX7_settles_189 (fun H locs hP _ hS => ?_)
        have hP := rw_st (j := 25) (x := 0) rfl hP
        obtain ⟨S_6, eS_6⟩ : ∃ z : CS, z = sti S_5 0 25 0 := ⟨_, rfl⟩
        rw [← eS_6] at hP
        have h := h S_6 eS_6
        refine lv_aload_n hx hb dX7_settles_192 rfl (lv_at hl 0 rfl) ?_
        refine lv_iconst (v := 0) hx hb dX7_settles_193 (by decide) ?_
        refine va_put (D := D) (ci := 7) (v := .int 0) (ty := .int) (C := RX7) (T := TX7) (N := 28) hx hb hT inX7 tyX7 tyX7_ok nmX7 hown hK hP (gw_D hX) hS 0 rw_Model rfl 21 (by decide) (hT _ wf_X7_133) (fun _ h9 => h9) rfl (by decide +kernel) rfl rfl (Nat.le_of_ble_eq_true rfl) dX7_settles_194 (fun H locs hP _ hS => ?_)
        have hP := rw_st (j := 21) (x := 0) rfl hP
        obtain ⟨S_7, eS_7⟩ : ∃ z : CS, z = sti S_6 0 21 0 := ⟨_, rfl⟩
        rw [← eS_7] at hP
        have h := h S_7 eS_7
        refine lv_aload_n hx hb dX7_settles_197 rfl (lv_at hl 0 rfl) ?_
        refine va_get (D := D) (ci := 7) (v := .ref (X.1 11)) (C := RX7) (T := TX7) (N := 28) hx hb hT inX7 hown hK hP 0 rw_Model rfl 19 (by decide) (hT _ wf_X7_40) (fun _ h9 => h9) rfl dX7_settles_198 ?_
        refine lv_iconst (v := 0) hx hb dX7_settles_201 (by decide) ?_
        refine lv_iconst (v := 0) hx hb dX7_settles_202 (by decide) ?_
        refine g_zast hx hb hK hP (gw_D hX) hS 11 rw_11 rfl (vpc (by decide)) 0 rfl dX7_settles_203 (fun H locs hP hS => ?_)
        have hP := rw_st (j := 0) (x := (vp_nar .boolean 0)) rfl hP
        obtain ⟨S_8, eS_8⟩ : ∃ z : CS, z = sti S_7 11 0 (vp_nar .boolean 0) := ⟨_, rfl⟩
        rw [← eS_8] at hP
        have h := h S_8 eS_8
        refine lv_aload_n hx hb dX7_settles_204 rfl (lv_at hl 0 rfl) ?_
        refine va_get (D := D) (ci := 7) (v := .ref (X.1 11)) (C := RX7) (T := TX7) (N := 28) hx hb hT inX7 hown hK hP 0 rw_Model rfl 19 (by decide) (hT _ wf_X7_40) (fun _ h9 => h9) rfl dX7_settles_205 ?_
        refine lv_iconst (v := 1) hx hb dX7_settles_208 (by decide) ?_
        refine lv_iconst (v := 0) hx hb dX7_settles_209 (by decide) ?_
        refine g_zast hx hb hK hP (gw_D hX) hS 11 rw_11 rfl (vpc (by decide)) 1 rfl dX7_settles_210 (fun H locs hP hS => ?_)
        have hP := rw_st (j := 1) (x := (vp_nar .boolean 0)) rfl hP
        obtain ⟨S_9, eS_9⟩ : ∃ z : CS, z = sti S_8 11 1 (vp_nar .boolean 0) := ⟨_, rfl⟩
        rw [← eS_9] at hP
        have h := h S_9 eS_9
        exact W.vret hx hb hr (fun t ht hW => ⟨⟨S_9, rfl, h, gB_of ht hP⟩, hS.F ht⟩) hS.2.2 dX7_settles_211
      · have h := h.2 c_4
        refine lv_aload_n hx hb dX7_settles_161 rfl (lv_at hl 0 rfl) ?_
        refine va_get (D := D) (ci := 7) (v := .ref (X.1 8)) (C := RX7) (T := TX7) (N := 28) hx hb hT inX7 hown hK hP 0 rw_Model rfl 16 (by decide) (hT _ wf_X7_31) (fun _ h9 => h9) rfl dX7_settles_162 ?_
        refine lv_bipush (v := 7) hx hb dX7_settles_165 (by decide) ?_
        refine lv_iload_n hx hb dX7_settles_167 rfl (lv_at hl 1 rfl) ?_
        refine lv_iadd hx hb dX7_settles_168 ?_
        refine lv_aload_n hx hb dX7_settles_169 rfl (lv_at hl 0 rfl) ?_
        refine va_get (D := D) (ci := 7) (v := .ref (X.1 2)) (C := RX7) (T := TX7) (N := 28) hx hb hT inX7 hown hK hP 0 rw_Model rfl 9 (by decide) (hT _ wf_X7_13) (fun _ h9 => h9) rfl dX7_settles_170 ?_
        refine lv_iconst (v := 5) hx hb dX7_settles_173 (by decide) ?_
        refine g_iald hx hb hK hP 2 rw_2 rfl (vpc (by decide)) 5 rfl dX7_settles_174 ?_
        refine lv_topi (fun u_10 eu_10 => ?_)
        have h := h u_10 eu_10
        obtain ⟨hi, h⟩ := h
        refine g_iast hx hb hK hP (gw_D hX) hS 8 rw_8 rfl hi ((7 + y1).toNatClampNeg) rfl dX7_settles_175 (fun H locs hP hS => ?_)
        have hP := rw_st (j := (7 + y1).toNatClampNeg) (x := u_10) rfl hP
        obtain ⟨S_11, eS_11⟩ : ∃ z : CS, z = sti S 8 ((7 + y1).toNatClampNeg) u_10 := ⟨_, rfl⟩
        rw [← eS_11] at hP
        have h := h S_11 eS_11
        obtain ⟨x1_12, ex1_12⟩ : ∃ z : Int32, z = y1 + 1 := ⟨_, rfl⟩
        refine lv_iinc (v := x1_12) (lv' := [(1, .int x1_12), (0, .ref (X.1 0))]) hx hb dX7_settles_176 hl (k := 1) rfl (by rw [ex1_12]; rfl) (by decide) rfl (fun ls hl => ?_)
        have h := h x1_12 ex1_12
        refine lv_goto (tgt := 155) hx hb dX7_settles_179 (by decide) ?_
        exact ih x1_12 S_11 H locs ls hP hS (lv_sub hl [1, 0] rfl) h
  have W52 : ∀ n1 : Nat, ∀ (y1 : Int32) (S : CS) (H : Heap) (locs : List Loc) (ls : Array Slot), va_P D vwCl (RW X S) H → va_S (AX 18 X.1 s.heap.size) s.heap H locs → lv_has ls 2 [(0, .ref (X.1 0)), (1, .int y1)] → q_X7_settles_52 post n1 y1 S → W p l e (headSpec (Cond.code yX7_settles cX7_settles 2 none :: lw_gd) rm_X7_settles).room s m ([.ref (X.1 0)] : List Value).toArray below meth c H locs 0 0 (MQ below (va_Qv post (gB D (RW X)) (AX 18 X.1 s.heap.size)) ([.ref (X.1 0)] : List Value).toArray s 0 0 (AX 18 X.1 s.heap.size)) (F0 m 52 ls []) := by
    intro n1
    induction n1 with
    | zero => intro y1 S H locs ls hP hS hl h; exact h.elim
    | succ n9 ih =>
      intro y1 S H locs ls hP hS hl h
      rw [q_X7_settles_52] at h
      refine lv_iload_n hx hb dX7_settles_52 rfl (lv_at hl 1 rfl) ?_
      refine lv_bipush (v := 6) hx hb dX7_settles_53 (by decide) ?_
      refine lv_icmp_ge (tgt := 153) hx hb dX7_settles_55 (by decide) (fun c_3 => ?_) (fun c_3 => ?_)
      · have h := h.1 c_3
        refine lv_iconst (v := 0) hx hb dX7_settles_153 (by decide) ?_
        refine lv_istore_n (lv' := [(1, .int 0), (0, .ref (X.1 0))]) hx hb dX7_settles_154 rfl hl (by decide) rfl (fun ls hl => ?_)
        obtain ⟨n1, h⟩ := h
        exact W155  n1 0 S H locs ls hP hS (lv_sub hl [1, 0] rfl) h
      · have h := h.2 c_3
        refine lv_aload_n hx hb dX7_settles_58 rfl (lv_at hl 0 rfl) ?_
        refine va_get (D := D) (ci := 7) (v := .ref (X.1 3)) (C := RX7) (T := TX7) (N := 28) hx hb hT inX7 hown hK hP 0 rw_Model rfl 11 (by decide) (hT _ wf_X7_16) (fun _ h9 => h9) rfl dX7_settles_59 ?_
        refine lv_iload_n hx hb dX7_settles_62 rfl (lv_at hl 1 rfl) ?_
        refine lv_aload_n hx hb dX7_settles_63 rfl (lv_at hl 0 rfl) ?_
        refine va_get (D := D) (ci := 7) (v := .ref (X.1 3)) (C := RX7) (T := TX7) (N := 28) hx hb hT inX7 hown hK hP 0 rw_Model rfl 11 (by decide) (hT _ wf_X7_16) (fun _ h9 => h9) rfl dX7_settles_64 ?_
        refine lv_bipush (v := 6) hx hb dX7_settles_67 (by decide) ?_
        refine lv_iload_n hx hb dX7_settles_69 rfl (lv_at hl 1 rfl) ?_
        refine lv_iadd hx hb dX7_settles_70 ?_
        obtain ⟨hi, h⟩ := h
        refine g_iald hx hb hK hP 3 rw_3 rfl hi ((6 + y1).toNatClampNeg) rfl dX7_settles_71 ?_
        refine lv_topi (fun u_13 eu_13 => ?_)
        have h := h u_13 eu_13
        obtain ⟨hi, h⟩ := h
        refine g_iast hx hb hK hP (gw_D hX) hS 3 rw_3 rfl hi y1.toNatClampNeg rfl dX7_settles_72 (fun H locs hP hS => ?_)
        have hP := rw_st (j := y1.toNatClampNeg) (x := u_13) rfl hP
        obtain ⟨S_14, eS_14⟩ : ∃ z : CS, z = sti S 3 y1.toNatClampNeg u_13 := ⟨_, rfl⟩
        rw [← eS_14] at hP
        have h := h S_14 eS_14
        refine lv_aload_n hx hb dX7_settles_73 rfl (lv_at hl 0 rfl) ?_
        refine va_get (D := D) (ci := 7) (v := .ref (X.1 5)) (C := RX7) (T := TX7) (N := 28) hx hb hT inX7 hown hK hP 0 rw_Model rfl 13 (by decide) (hT _ wf_X7_22) (fun _ h9 => h9) rfl dX7_settles_74 ?_
        refine lv_iload_n hx hb dX7_settles_77 rfl (lv_at hl 1 rfl) ?_
        refine lv_aload_n hx hb dX7_settles_78 rfl (lv_at hl 0 rfl) ?_
        refine va_get (D := D) (ci := 7) (v := .ref (X.1 5)) (C := RX7) (T := TX7) (N := 28) hx hb hT inX7 hown hK hP 0 rw_Model rfl 13 (by decide) (hT _ wf_X7_22) (fun _ h9 => h9) rfl dX7_settles_79 ?_
        refine lv_bipush (v := 6) hx hb dX7_settles_82 (by decide) ?_
        refine lv_iload_n hx hb dX7_settles_84 rfl (lv_at hl 1 rfl) ?_
        refine lv_iadd hx hb dX7_settles_85 ?_
        obtain ⟨hi, h⟩ := h
        refine g_iald hx hb hK hP 5 rw_5 rfl hi ((6 + y1).toNatClampNeg) rfl dX7_settles_86 ?_
        refine lv_topi (fun u_15 eu_15 => ?_)
        have h := h u_15 eu_15
        obtain ⟨hi, h⟩ := h
        refine g_iast hx hb hK hP (gw_D hX) hS 5 rw_5 rfl hi y1.toNatClampNeg rfl dX7_settles_87 (fun H locs hP hS => ?_)
        have hP := rw_st (j := y1.toNatClampNeg) (x := u_15) rfl hP
        obtain ⟨S_16, eS_16⟩ : ∃ z : CS, z = sti S_14 5 y1.toNatClampNeg u_15 := ⟨_, rfl⟩
        rw [← eS_16] at hP
        have h := h S_16 eS_16
        refine lv_aload_n hx hb dX7_settles_88 rfl (lv_at hl 0 rfl) ?_
        refine va_get (D := D) (ci := 7) (v := .ref (X.1 6)) (C := RX7) (T := TX7) (N := 28) hx hb hT inX7 hown hK hP 0 rw_Model rfl 14 (by decide) (hT _ wf_X7_25) (fun _ h9 => h9) rfl dX7_settles_89 ?_
        refine lv_iload_n hx hb dX7_settles_92 rfl (lv_at hl 1 rfl) ?_
        refine lv_aload_n hx hb dX7_settles_93 rfl (lv_at hl 0 rfl) ?_
        refine va_get (D := D) (ci := 7) (v := .ref (X.1 6)) (C := RX7) (T := TX7) (N := 28) hx hb hT inX7 hown hK hP 0 rw_Model rfl 14 (by decide) (hT _ wf_X7_25) (fun _ h9 => h9) rfl dX7_settles_94 ?_
        refine lv_bipush (v := 6) hx hb dX7_settles_97 (by decide) ?_
        refine lv_iload_n hx hb dX7_settles_99 rfl (lv_at hl 1 rfl) ?_
        refine lv_iadd hx hb dX7_settles_100 ?_
        obtain ⟨hi, h⟩ := h
        refine g_iald hx hb hK hP 6 rw_6 rfl hi ((6 + y1).toNatClampNeg) rfl dX7_settles_101 ?_
        refine lv_topi (fun u_17 eu_17 => ?_)
        have h := h u_17 eu_17
        obtain ⟨hi, h⟩ := h
        refine g_iast hx hb hK hP (gw_D hX) hS 6 rw_6 rfl hi y1.toNatClampNeg rfl dX7_settles_102 (fun H locs hP hS => ?_)
        have hP := rw_st (j := y1.toNatClampNeg) (x := u_17) rfl hP
        obtain ⟨S_18, eS_18⟩ : ∃ z : CS, z = sti S_16 6 y1.toNatClampNeg u_17 := ⟨_, rfl⟩
        rw [← eS_18] at hP
        have h := h S_18 eS_18
        refine lv_aload_n hx hb dX7_settles_103 rfl (lv_at hl 0 rfl) ?_
        refine va_get (D := D) (ci := 7) (v := .ref (X.1 7)) (C := RX7) (T := TX7) (N := 28) hx hb hT inX7 hown hK hP 0 rw_Model rfl 15 (by decide) (hT _ wf_X7_28) (fun _ h9 => h9) rfl dX7_settles_104 ?_
        refine lv_iload_n hx hb dX7_settles_107 rfl (lv_at hl 1 rfl) ?_
        refine lv_aload_n hx hb dX7_settles_108 rfl (lv_at hl 0 rfl) ?_
        refine va_get (D := D) (ci := 7) (v := .ref (X.1 7)) (C := RX7) (T := TX7) (N := 28) hx hb hT inX7 hown hK hP 0 rw_Model rfl 15 (by decide) (hT _ wf_X7_28) (fun _ h9 => h9) rfl dX7_settles_109 ?_
        refine lv_bipush (v := 6) hx hb dX7_settles_112 (by decide) ?_
        refine lv_iload_n hx hb dX7_settles_114 rfl (lv_at hl 1 rfl) ?_
        refine lv_iadd hx hb dX7_settles_115 ?_
        obtain ⟨hi, h⟩ := h
        refine g_iald hx hb hK hP 7 rw_7 rfl hi ((6 + y1).toNatClampNeg) rfl dX7_settles_116 ?_
        refine lv_topi (fun u_19 eu_19 => ?_)
        have h := h u_19 eu_19
        obtain ⟨hi, h⟩ := h
        refine g_iast hx hb hK hP (gw_D hX) hS 7 rw_7 rfl hi y1.toNatClampNeg rfl dX7_settles_117 (fun H locs hP hS => ?_)
        have hP := rw_st (j := y1.toNatClampNeg) (x := u_19) rfl hP
        obtain ⟨S_20, eS_20⟩ : ∃ z : CS, z = sti S_18 7 y1.toNatClampNeg u_19 := ⟨_, rfl⟩
        rw [← eS_20] at hP
        have h := h S_20 eS_20
        refine lv_aload_n hx hb dX7_settles_118 rfl (lv_at hl 0 rfl) ?_
        refine va_get (D := D) (ci := 7) (v := .ref (X.1 8)) (C := RX7) (T := TX7) (N := 28) hx hb hT inX7 hown hK hP 0 rw_Model rfl 16 (by decide) (hT _ wf_X7_31) (fun _ h9 => h9) rfl dX7_settles_119 ?_
        refine lv_bipush (v := 15) hx hb dX7_settles_122 (by decide) ?_
        refine lv_iload_n hx hb dX7_settles_124 rfl (lv_at hl 1 rfl) ?_
        refine lv_iadd hx hb dX7_settles_125 ?_
        refine lv_iload_n hx hb dX7_settles_126 rfl (lv_at hl 1 rfl) ?_
        refine lv_aload_n hx hb dX7_settles_127 rfl (lv_at hl 0 rfl) ?_
        refine va_get (D := D) (ci := 7) (v := .ref (X.1 2)) (C := RX7) (T := TX7) (N := 28) hx hb hT inX7 hown hK hP 0 rw_Model rfl 9 (by decide) (hT _ wf_X7_13) (fun _ h9 => h9) rfl dX7_settles_128 ?_
        refine lv_iconst (v := 0) hx hb dX7_settles_131 (by decide) ?_
        refine g_iald hx hb hK hP 2 rw_2 rfl (vpc (by decide)) 0 rfl dX7_settles_132 ?_
        refine lv_icmp_ge (tgt := 145) hx hb dX7_settles_133 (by decide) (fun c_21 => ?_) (fun c_21 => ?_)
        · have h := h.1 c_21
          refine lv_iconst (v := 0) hx hb dX7_settles_145 (by decide) ?_
          obtain ⟨hi, h⟩ := h
          refine g_iast hx hb hK hP (gw_D hX) hS 8 rw_8 rfl hi ((15 + y1).toNatClampNeg) rfl dX7_settles_146 (fun H locs hP hS => ?_)
          have hP := rw_st (j := (15 + y1).toNatClampNeg) (x := 0) rfl hP
          obtain ⟨S_22, eS_22⟩ : ∃ z : CS, z = sti S_20 8 ((15 + y1).toNatClampNeg) 0 := ⟨_, rfl⟩
          rw [← eS_22] at hP
          have h := h S_22 eS_22
          obtain ⟨x1_23, ex1_23⟩ : ∃ z : Int32, z = y1 + 1 := ⟨_, rfl⟩
          refine lv_iinc (v := x1_23) (lv' := [(1, .int x1_23), (0, .ref (X.1 0))]) hx hb dX7_settles_147 hl (k := 1) rfl (by rw [ex1_23]; rfl) (by decide) rfl (fun ls hl => ?_)
          have h := h x1_23 ex1_23
          refine lv_goto (tgt := 52) hx hb dX7_settles_150 (by decide) ?_
          exact ih x1_23 S_22 H locs ls hP hS (lv_sub hl [1, 0] rfl) h
        · have h := h.2 c_21
          refine lv_aload_n hx hb dX7_settles_136 rfl (lv_at hl 0 rfl) ?_
          refine va_get (D := D) (ci := 7) (v := .ref (X.1 4)) (C := RX7) (T := TX7) (N := 28) hx hb hT inX7 hown hK hP 0 rw_Model rfl 12 (by decide) (hT _ wf_X7_19) (fun _ h9 => h9) rfl dX7_settles_137 ?_
          refine lv_iload_n hx hb dX7_settles_140 rfl (lv_at hl 1 rfl) ?_
          obtain ⟨hi, h⟩ := h
          refine g_iald hx hb hK hP 4 rw_4 rfl hi y1.toNatClampNeg rfl dX7_settles_141 ?_
          refine lv_goto (tgt := 146) hx hb dX7_settles_142 (by decide) ?_
          refine lv_topi (fun u_24 eu_24 => ?_)
          have h := h u_24 eu_24
          obtain ⟨hi, h⟩ := h
          refine g_iast hx hb hK hP (gw_D hX) hS 8 rw_8 rfl hi ((15 + y1).toNatClampNeg) rfl dX7_settles_146 (fun H locs hP hS => ?_)
          have hP := rw_st (j := (15 + y1).toNatClampNeg) (x := u_24) rfl hP
          obtain ⟨S_25, eS_25⟩ : ∃ z : CS, z = sti S_20 8 ((15 + y1).toNatClampNeg) u_24 := ⟨_, rfl⟩
          rw [← eS_25] at hP
          have h := h S_25 eS_25
          obtain ⟨x1_26, ex1_26⟩ : ∃ z : Int32, z = y1 + 1 := ⟨_, rfl⟩
          refine lv_iinc (v := x1_26) (lv' := [(1, .int x1_26), (0, .ref (X.1 0))]) hx hb dX7_settles_147 hl (k := 1) rfl (by rw [ex1_26]; rfl) (by decide) rfl (fun ls hl => ?_)
          have h := h x1_26 ex1_26
          refine lv_goto (tgt := 52) hx hb dX7_settles_150 (by decide) ?_
          exact ih x1_26 S_25 H locs ls hP hS (lv_sub hl [1, 0] rfl) h
  have W31 : ∀ n1 : Nat, ∀ (y1 : Int32) (S : CS) (H : Heap) (locs : List Loc) (ls : Array Slot), va_P D vwCl (RW X S) H → va_S (AX 18 X.1 s.heap.size) s.heap H locs → lv_has ls 2 [(0, .ref (X.1 0)), (1, .int y1)] → q_X7_settles_31 post n1 y1 S → W p l e (headSpec (Cond.code yX7_settles cX7_settles 2 none :: lw_gd) rm_X7_settles).room s m ([.ref (X.1 0)] : List Value).toArray below meth c H locs 0 0 (MQ below (va_Qv post (gB D (RW X)) (AX 18 X.1 s.heap.size)) ([.ref (X.1 0)] : List Value).toArray s 0 0 (AX 18 X.1 s.heap.size)) (F0 m 31 ls []) := by
    intro n1
    induction n1 with
    | zero => intro y1 S H locs ls hP hS hl h; exact h.elim
    | succ n9 ih =>
      intro y1 S H locs ls hP hS hl h
      rw [q_X7_settles_31] at h
      refine lv_iload_n hx hb dX7_settles_31 rfl (lv_at hl 1 rfl) ?_
      refine lv_bipush (v := 21) hx hb dX7_settles_32 (by decide) ?_
      refine lv_icmp_ge (tgt := 50) hx hb dX7_settles_34 (by decide) (fun c_2 => ?_) (fun c_2 => ?_)
      · have h := h.1 c_2
        refine lv_iconst (v := 0) hx hb dX7_settles_50 (by decide) ?_
        refine lv_istore_n (lv' := [(1, .int 0), (0, .ref (X.1 0))]) hx hb dX7_settles_51 rfl hl (by decide) rfl (fun ls hl => ?_)
        obtain ⟨n1, h⟩ := h
        exact W52  n1 0 S H locs ls hP hS (lv_sub hl [1, 0] rfl) h
      · have h := h.2 c_2
        refine lv_aload_n hx hb dX7_settles_37 rfl (lv_at hl 0 rfl) ?_
        refine va_get (D := D) (ci := 7) (v := .ref (X.1 8)) (C := RX7) (T := TX7) (N := 28) hx hb hT inX7 hown hK hP 0 rw_Model rfl 16 (by decide) (hT _ wf_X7_31) (fun _ h9 => h9) rfl dX7_settles_38 ?_
        refine lv_iload_n hx hb dX7_settles_41 rfl (lv_at hl 1 rfl) ?_
        refine lv_iconst (v := 0) hx hb dX7_settles_42 (by decide) ?_
        obtain ⟨hi, h⟩ := h
        refine g_iast hx hb hK hP (gw_D hX) hS 8 rw_8 rfl hi y1.toNatClampNeg rfl dX7_settles_43 (fun H locs hP hS => ?_)
        have hP := rw_st (j := y1.toNatClampNeg) (x := 0) rfl hP
        obtain ⟨S_27, eS_27⟩ : ∃ z : CS, z = sti S 8 y1.toNatClampNeg 0 := ⟨_, rfl⟩
        rw [← eS_27] at hP
        have h := h S_27 eS_27
        obtain ⟨x1_28, ex1_28⟩ : ∃ z : Int32, z = y1 + 1 := ⟨_, rfl⟩
        refine lv_iinc (v := x1_28) (lv' := [(1, .int x1_28), (0, .ref (X.1 0))]) hx hb dX7_settles_44 hl (k := 1) rfl (by rw [ex1_28]; rfl) (by decide) rfl (fun ls hl => ?_)
        have h := h x1_28 ex1_28
        refine lv_goto (tgt := 31) hx hb dX7_settles_47 (by decide) ?_
        exact ih x1_28 S_27 H locs ls hP hS (lv_sub hl [1, 0] rfl) h
  have W2 : ∀ n1 : Nat, ∀ (y1 : Int32) (S : CS) (H : Heap) (locs : List Loc) (ls : Array Slot), va_P D vwCl (RW X S) H → va_S (AX 18 X.1 s.heap.size) s.heap H locs → lv_has ls 2 [(0, .ref (X.1 0)), (1, .int y1)] → q_X7_settles_2 post n1 y1 S → W p l e (headSpec (Cond.code yX7_settles cX7_settles 2 none :: lw_gd) rm_X7_settles).room s m ([.ref (X.1 0)] : List Value).toArray below meth c H locs 0 0 (MQ below (va_Qv post (gB D (RW X)) (AX 18 X.1 s.heap.size)) ([.ref (X.1 0)] : List Value).toArray s 0 0 (AX 18 X.1 s.heap.size)) (F0 m 2 ls []) := by
    intro n1
    induction n1 with
    | zero => intro y1 S H locs ls hP hS hl h; exact h.elim
    | succ n9 ih =>
      intro y1 S H locs ls hP hS hl h
      rw [q_X7_settles_2] at h
      refine lv_iload_n hx hb dX7_settles_2 rfl (lv_at hl 1 rfl) ?_
      refine lv_bipush (v := 6) hx hb dX7_settles_3 (by decide) ?_
      refine lv_icmp_ge (tgt := 29) hx hb dX7_settles_5 (by decide) (fun c_1 => ?_) (fun c_1 => ?_)
      · have h := h.1 c_1
        refine lv_iconst (v := 0) hx hb dX7_settles_29 (by decide) ?_
        refine lv_istore_n (lv' := [(1, .int 0), (0, .ref (X.1 0))]) hx hb dX7_settles_30 rfl hl (by decide) rfl (fun ls hl => ?_)
        obtain ⟨n1, h⟩ := h
        exact W31  n1 0 S H locs ls hP hS (lv_sub hl [1, 0] rfl) h
      · have h := h.2 c_1
        refine lv_aload_n hx hb dX7_settles_8 rfl (lv_at hl 0 rfl) ?_
        refine va_get (D := D) (ci := 7) (v := .ref (X.1 2)) (C := RX7) (T := TX7) (N := 28) hx hb hT inX7 hown hK hP 0 rw_Model rfl 9 (by decide) (hT _ wf_X7_13) (fun _ h9 => h9) rfl dX7_settles_9 ?_
        refine lv_iload_n hx hb dX7_settles_12 rfl (lv_at hl 1 rfl) ?_
        refine lv_aload_n hx hb dX7_settles_13 rfl (lv_at hl 0 rfl) ?_
        refine va_get (D := D) (ci := 7) (v := .ref (X.1 2)) (C := RX7) (T := TX7) (N := 28) hx hb hT inX7 hown hK hP 0 rw_Model rfl 9 (by decide) (hT _ wf_X7_13) (fun _ h9 => h9) rfl dX7_settles_14 ?_
        refine lv_bipush (v := 6) hx hb dX7_settles_17 (by decide) ?_
        refine lv_iload_n hx hb dX7_settles_19 rfl (lv_at hl 1 rfl) ?_
        refine lv_iadd hx hb dX7_settles_20 ?_
        obtain ⟨hi, h⟩ := h
        refine g_iald hx hb hK hP 2 rw_2 rfl hi ((6 + y1).toNatClampNeg) rfl dX7_settles_21 ?_
        refine lv_topi (fun u_29 eu_29 => ?_)
        have h := h u_29 eu_29
        obtain ⟨hi, h⟩ := h
        refine g_iast hx hb hK hP (gw_D hX) hS 2 rw_2 rfl hi y1.toNatClampNeg rfl dX7_settles_22 (fun H locs hP hS => ?_)
        have hP := rw_st (j := y1.toNatClampNeg) (x := u_29) rfl hP
        obtain ⟨S_30, eS_30⟩ : ∃ z : CS, z = sti S 2 y1.toNatClampNeg u_29 := ⟨_, rfl⟩
        rw [← eS_30] at hP
        have h := h S_30 eS_30
        obtain ⟨x1_31, ex1_31⟩ : ∃ z : Int32, z = y1 + 1 := ⟨_, rfl⟩
        refine lv_iinc (v := x1_31) (lv' := [(1, .int x1_31), (0, .ref (X.1 0))]) hx hb dX7_settles_23 hl (k := 1) rfl (by rw [ex1_31]; rfl) (by decide) rfl (fun ls hl => ?_)
        have h := h x1_31 ex1_31
        refine lv_goto (tgt := 2) hx hb dX7_settles_26 (by decide) ?_
        exact ih x1_31 S_30 H locs ls hP hS (lv_sub hl [1, 0] rfl) h
  have hl := lv_entry ([.ref (X.1 0)]) (n := 2) (Nat.le_of_ble_eq_true rfl)
  rw [lg_entry_eq]
  generalize (lg_sl ([.ref (X.1 0)]) ++ List.replicate (2 - (lg_sl ([.ref (X.1 0)])).length) Slot.unset).toArray = ls at hl ⊢
  have hl : lv_has ls 2 [(0, .ref (X.1 0))] := hl
  obtain ⟨H, hH⟩ : ∃ H : Heap, H = s.heap := ⟨_, rfl⟩
  obtain ⟨locs, hlc⟩ : ∃ q : List Loc, q = [] := ⟨_, rfl⟩
  have hS : va_S (AX 18 X.1 s.heap.size) s.heap H locs := by rw [hH, hlc]; exact hS
  have hP : va_P D vwCl (RW X S) H := by rw [hH]; exact hP
  show W p l e (headSpec (Cond.code yX7_settles cX7_settles 2 none :: lw_gd) rm_X7_settles).room s m ([.ref (X.1 0)] : List Value).toArray below meth c s.heap [] 0 0 (MQ below (va_Qv post (gB D (RW X)) (AX 18 X.1 s.heap.size)) ([.ref (X.1 0)] : List Value).toArray s 0 0 (AX 18 X.1 s.heap.size)) _
  suffices hgo : W p l e (headSpec (Cond.code yX7_settles cX7_settles 2 none :: lw_gd) rm_X7_settles).room s m ([.ref (X.1 0)] : List Value).toArray below meth c H locs 0 0 (MQ below (va_Qv post (gB D (RW X)) (AX 18 X.1 s.heap.size)) ([.ref (X.1 0)] : List Value).toArray s 0 0 (AX 18 X.1 s.heap.size)) (F0 m 0 ls []) from by rw [hH, hlc] at hgo; exact hgo
  unfold p_X7_settles at h
  refine lv_iconst (v := 0) hx hb dX7_settles_0 (by decide) ?_
  refine lv_istore_n (lv' := [(1, .int 0), (0, .ref (X.1 0))]) hx hb dX7_settles_1 rfl hl (by decide) rfl (fun ls hl => ?_)
  obtain ⟨n1, h⟩ := h
  exact W2  n1 0 S H locs ls hP hS (lv_sub hl [1, 0] rfl) h

abbrev rm_X7_yard : Room := { frames := 5, cells := 0, slots := 0, locals := 109 }
def q_X7_yard_100  (post : Int32 → CS → Prop) (y1 : Int32) (S : CS) : Prop := p_X7_isWell S  (fun r_12 S_11 => ((r_12 = 0 → (post ((-10) - (S_11.1 0 8)) S_11)) ∧ (¬ (r_12 = 0) → (p_X7_settles S_11  (fun S_14 => (post y1 S_14))))))
def q_X7_yard_76  (K25 : Int32 → CS → Prop) (post : Int32 → CS → Prop) (y1 : Int32) (S : CS) : Prop := ((S.1 0 5) = 3 → (p_X7_takes S 1 (fun r_28 S_27 => (∀ x1_29 : Int32, x1_29 = y1 + 1 → (K25 x1_29 S_27))))) ∧ (¬ ((S.1 0 5) = 3) → (p_X7_takes S 0 (fun r_25 S_24 => (∀ x1_26 : Int32, x1_26 = y1 + 1 → (K25 x1_26 S_24)))))
def q_X7_yard_60  (K25 : Int32 → CS → Prop) (post : Int32 → CS → Prop) (y1 : Int32) (z0 : Int32) (S : CS) : Prop := p_X7_takes S z0 (fun r_19 S_18 => (p_X7_isWell S_18  (fun r_21 S_20 => ((r_21 = 0 → (q_X7_yard_76 K25 post y1 S_20)) ∧ (¬ (r_21 = 0) → (p_X7_readsItem S_20 r_19 (fun S_30 => (q_X7_yard_76 K25 post y1 S_30))))))))
def q_X7_yard_25  (post : Int32 → CS → Prop) : Nat → Int32 → CS → Prop
  | 0, _, _ => False
  | n9 + 1, y1, S => p_X7_isWell S  (fun r_9 S_8 => ((r_9 = 0 → (q_X7_yard_100 post y1 S_8)) ∧ (¬ (r_9 = 0) → (((S_8.1 0 5) = 0 → (q_X7_yard_100 post y1 S_8)) ∧ (¬ ((S_8.1 0 5) = 0) → (((S_8.1 0 5) = 1 → (p_X7_mayBegin S_8  (fun r_33 S_32 => ((r_33 = 0 → (q_X7_yard_60 (fun y1' S9 => q_X7_yard_25 post n9 y1' S9) post y1 0 S_32)) ∧ (¬ (r_33 = 0) → (q_X7_yard_60 (fun y1' S9 => q_X7_yard_25 post n9 y1' S9) post y1 1 S_32)))))) ∧ (¬ ((S_8.1 0 5) = 1) → (q_X7_yard_60 (fun y1' S9 => q_X7_yard_25 post n9 y1' S9) post y1 0 S_8))))))))
def p_X7_yard (S : CS)  (post : Int32 → CS → Prop) : Prop := ∀ S_1 : CS, S_1 = sti S 0 0 0 → (∀ S_2 : CS, S_2 = sti S_1 0 8 (-1) → (∀ S_3 : CS, S_3 = sti S_2 0 4 0 → (p_X7_begins S_3  (fun S_4 => (p_X7_advances S_4  (fun S_6 => (∃ n, q_X7_yard_25 post n 0 S_6)))))))
set_option maxHeartbeats 4000000 in
set_option maxRecDepth 100000 in
theorem c_X7_yard (l : Launch) (D : va_G) (X : XE) (hX : Inj 18 X.1) (sz : Nat) (S : CS)  (post : Int32 → CS → Prop) (h : p_X7_yard S  post) : Met l yX7_yard (Cond.code yX7_yard cX7_yard 3 (some .int) :: lw_gd) rm_X7_yard (gPc D (tyX X) (RW X) (FXr X) (AX 18 X.1 sz) sz S [.ref (X.1 0)]) (va_Qi post (gB D (RW X)) (AX 18 X.1 sz)) 0 0 (AX 18 X.1 sz) := by
  refine Met.ofW (cc := cX7_yard) (maxL := 3) (ret := (some .int)) (by decide) rfl ?_
  intro p e s m args below meth c s₁ B hml hv
  obtain ⟨rfl, hsz, hP, hK, hF⟩ := hv
  have hx := B.exec
  have hb := B.bytes
  have hr := B.returns
  have hts := atoms_spec (ws := (Cond.code yX7_yard cX7_yard 3 (some .int) :: lw_gd)) B.pre
  have hT : ∀ w ∈ lw_gd, w.before _ s = true := fun w h9 => hts w (List.mem_cons_of_mem _ h9)
  have hown : s.vm.findClass RX7 = some m.cls := findClass_of_methodNamed B.named
  have hlocks := B.notSynchronized
  subst hsz
  have hS : va_S (AX 18 X.1 s.heap.size) s.heap s.heap [] := va_S.rf
  have W100 : ∀ (y1 : Int32) (S : CS) (H : Heap) (locs : List Loc) (ls : Array Slot), va_P D vwCl (RW X S) H → va_S (AX 18 X.1 s.heap.size) s.heap H locs → lv_has ls 3 [(0, .ref (X.1 0)), (1, .int y1)] → q_X7_yard_100 post y1 S → W p l e (headSpec (Cond.code yX7_yard cX7_yard 3 (some .int) :: lw_gd) rm_X7_yard).room s m ([.ref (X.1 0)] : List Value).toArray below meth c H locs 0 0 (MQ below (va_Qi post (gB D (RW X)) (AX 18 X.1 s.heap.size)) ([.ref (X.1 0)] : List Value).toArray s 0 0 (AX 18 X.1 s.heap.size)) (F0 m 100 ls []) := by
    intro y1 S H locs ls hP hS hl h
    unfold q_X7_yard_100 at h
    refine lv_aload_n hx hb dX7_yard_100 rfl (lv_at hl 0 rfl) ?_
    refine rVi (As := []) (rest := []) hX ⟨hx, hb, hml, hown, hT⟩ (c_X7_isWell l D X hX H.size S  _ h) (gd_V wl_X7_102 wi_X7_isWell wv_X7_isWell wn_X7 wc_X7_isWell) rfl hd_X7_isWell ⟨rfl, rfl⟩ ⟨Nat.le_of_ble_eq_true rfl, Nat.le_of_ble_eq_true rfl⟩ (va_recv hK hP (ci := 7) (q0 := 0) rfl rw_Model) hK hP hS hF rfl hl.1 rfl (Nat.le_of_ble_eq_true rfl) dX7_yard_101 ⟨Nat.zero_le _, Nat.zero_le _⟩ (fun r_12 S_11 H locs h hP hS => ?_)
    refine lv_if_ne (tgt := 115) hx hb dX7_yard_104 (by decide) (fun c_13 => ?_) (fun c_13 => ?_)
    · have h := h.2 c_13
      refine lv_aload_n hx hb dX7_yard_115 rfl (lv_at hl 0 rfl) ?_
      refine rVv (As := []) (rest := []) hX ⟨hx, hb, hml, hown, hT⟩ (c_X7_settles l D X hX H.size S_11  _ h) (gd_V wl_X7_65 wi_X7_settles wv_X7_settles wn_X7 wc_X7_settles) rfl hd_X7_settles ⟨rfl, rfl⟩ ⟨Nat.le_of_ble_eq_true rfl, Nat.le_of_ble_eq_true rfl⟩ (va_recv hK hP (ci := 7) (q0 := 0) rfl rw_Model) hK hP hS hF rfl hl.1 rfl (Nat.le_of_ble_eq_true rfl) dX7_yard_116 ⟨Nat.zero_le _, Nat.zero_le _⟩ (fun S_14 H locs h hP hS => ?_)
      refine lv_iload_n hx hb dX7_yard_119 rfl (lv_at hl 1 rfl) ?_
      exact W.iret (v := y1) hx hb hr (fun t ht hW => ⟨⟨y1, S_14, rfl, h, gB_of ht hP⟩, hS.F ht⟩) hS.2.2 dX7_yard_120
    · have h := h.1 c_13
      refine lv_bipush (v := (-10)) hx hb dX7_yard_107 (by decide) ?_
      refine lv_aload_n hx hb dX7_yard_109 rfl (lv_at hl 0 rfl) ?_
      refine va_get (D := D) (ci := 7) (v := .int (S_11.1 0 8)) (C := RX7) (T := TX7) (N := 28) hx hb hT inX7 hown hK hP 0 rw_Model rfl 8 (by decide) (hT _ wf_X7_99) (fun _ h9 => h9) rfl dX7_yard_110 ?_
      refine lv_isub hx hb dX7_yard_113 ?_
      exact W.iret (v := ((-10) - (S_11.1 0 8))) hx hb hr (fun t ht hW => ⟨⟨((-10) - (S_11.1 0 8)), S_11, rfl, h, gB_of ht hP⟩, hS.F ht⟩) hS.2.2 dX7_yard_114
  have W76 : ∀ (K25 : Int32 → CS → Prop), (∀ (y1 : Int32) (S : CS) (H : Heap) (locs : List Loc) (ls : Array Slot), va_P D vwCl (RW X S) H → va_S (AX 18 X.1 s.heap.size) s.heap H locs → lv_has ls 3 [(0, .ref (X.1 0)), (1, .int y1)] → K25 y1 S → W p l e (headSpec (Cond.code yX7_yard cX7_yard 3 (some .int) :: lw_gd) rm_X7_yard).room s m ([.ref (X.1 0)] : List Value).toArray below meth c H locs 0 0 (MQ below (va_Qi post (gB D (RW X)) (AX 18 X.1 s.heap.size)) ([.ref (X.1 0)] : List Value).toArray s 0 0 (AX 18 X.1 s.heap.size)) (F0 m 25 ls [])) → ∀ (y1 : Int32) (S : CS) (H : Heap) (locs : List Loc) (ls : Array Slot), va_P D vwCl (RW X S) H → va_S (AX 18 X.1 s.heap.size) s.heap H locs → lv_has ls 3 [(0, .ref (X.1 0)), (1, .int y1)] → q_X7_yard_76 K25 post y1 S → W p l e (headSpec (Cond.code yX7_yard cX7_yard 3 (some .int) :: lw_gd) rm_X7_yard).room s m ([.ref (X.1 0)] : List Value).toArray below meth c H locs 0 0 (MQ below (va_Qi post (gB D (RW X)) (AX 18 X.1 s.heap.size)) ([.ref (X.1 0)] : List Value).toArray s 0 0 (AX 18 X.1 s.heap.size)) (F0 m 76 ls []) := by
    intro K25 hK25 y1 S H locs ls hP hS hl h
    unfold q_X7_yard_76 at h
    refine lv_aload_n hx hb dX7_yard_76 rfl (lv_at hl 0 rfl) ?_
    refine lv_aload_n hx hb dX7_yard_77 rfl (lv_at hl 0 rfl) ?_
    refine va_get (D := D) (ci := 7) (v := .int (S.1 0 5)) (C := RX7) (T := TX7) (N := 28) hx hb hT inX7 hown hK hP 0 rw_Model rfl 5 (by decide) (hT _ wf_X7_89) (fun _ h9 => h9) rfl dX7_yard_78 ?_
    refine lv_iconst (v := 3) hx hb dX7_yard_81 (by decide) ?_
    refine lv_icmp_ne (tgt := 89) hx hb dX7_yard_82 (by decide) (fun c_23 => ?_) (fun c_23 => ?_)
    · have h := h.2 c_23
      refine lv_iconst (v := 0) hx hb dX7_yard_89 (by decide) ?_
      refine rVi (As := [.int 0]) (rest := []) hX ⟨hx, hb, hml, hown, hT⟩ (c_X7_takes l D X hX H.size S 0 _ h) (gd_V wl_X7_109 wi_X7_takes wv_X7_takes wn_X7 wc_X7_takes) rfl hd_X7_takes ⟨rfl, rfl⟩ ⟨Nat.le_of_ble_eq_true rfl, Nat.le_of_ble_eq_true rfl⟩ (va_recv hK hP (ci := 7) (q0 := 0) rfl rw_Model) hK hP hS hF rfl hl.1 rfl (Nat.le_of_ble_eq_true rfl) dX7_yard_90 ⟨Nat.zero_le _, Nat.zero_le _⟩ (fun r_25 S_24 H locs h hP hS => ?_)
      refine lv_pop hx hb dX7_yard_93 rfl ?_
      obtain ⟨x1_26, ex1_26⟩ : ∃ z : Int32, z = y1 + 1 := ⟨_, rfl⟩
      refine lv_iinc (v := x1_26) (lv' := [(1, .int x1_26), (0, .ref (X.1 0))]) hx hb dX7_yard_94 hl (k := 1) rfl (by rw [ex1_26]; rfl) (by decide) rfl (fun ls hl => ?_)
      have h := h x1_26 ex1_26
      refine lv_goto (tgt := 25) hx hb dX7_yard_97 (by decide) ?_
      exact hK25 x1_26 S_24 H locs ls hP hS (lv_sub hl [1, 0] rfl) h
    · have h := h.1 c_23
      refine lv_iconst (v := 1) hx hb dX7_yard_85 (by decide) ?_
      refine lv_goto (tgt := 90) hx hb dX7_yard_86 (by decide) ?_
      refine rVi (As := [.int 1]) (rest := []) hX ⟨hx, hb, hml, hown, hT⟩ (c_X7_takes l D X hX H.size S 1 _ h) (gd_V wl_X7_109 wi_X7_takes wv_X7_takes wn_X7 wc_X7_takes) rfl hd_X7_takes ⟨rfl, rfl⟩ ⟨Nat.le_of_ble_eq_true rfl, Nat.le_of_ble_eq_true rfl⟩ (va_recv hK hP (ci := 7) (q0 := 0) rfl rw_Model) hK hP hS hF rfl hl.1 rfl (Nat.le_of_ble_eq_true rfl) dX7_yard_90 ⟨Nat.zero_le _, Nat.zero_le _⟩ (fun r_28 S_27 H locs h hP hS => ?_)
      refine lv_pop hx hb dX7_yard_93 rfl ?_
      obtain ⟨x1_29, ex1_29⟩ : ∃ z : Int32, z = y1 + 1 := ⟨_, rfl⟩
      refine lv_iinc (v := x1_29) (lv' := [(1, .int x1_29), (0, .ref (X.1 0))]) hx hb dX7_yard_94 hl (k := 1) rfl (by rw [ex1_29]; rfl) (by decide) rfl (fun ls hl => ?_)
      have h := h x1_29 ex1_29
      refine lv_goto (tgt := 25) hx hb dX7_yard_97 (by decide) ?_
      exact hK25 x1_29 S_27 H locs ls hP hS (lv_sub hl [1, 0] rfl) h
  have W60 : ∀ (K25 : Int32 → CS → Prop), (∀ (y1 : Int32) (S : CS) (H : Heap) (locs : List Loc) (ls : Array Slot), va_P D vwCl (RW X S) H → va_S (AX 18 X.1 s.heap.size) s.heap H locs → lv_has ls 3 [(0, .ref (X.1 0)), (1, .int y1)] → K25 y1 S → W p l e (headSpec (Cond.code yX7_yard cX7_yard 3 (some .int) :: lw_gd) rm_X7_yard).room s m ([.ref (X.1 0)] : List Value).toArray below meth c H locs 0 0 (MQ below (va_Qi post (gB D (RW X)) (AX 18 X.1 s.heap.size)) ([.ref (X.1 0)] : List Value).toArray s 0 0 (AX 18 X.1 s.heap.size)) (F0 m 25 ls [])) → ∀ (y1 : Int32) (z0 : Int32) (S : CS) (H : Heap) (locs : List Loc) (ls : Array Slot), va_P D vwCl (RW X S) H → va_S (AX 18 X.1 s.heap.size) s.heap H locs → lv_has ls 3 [(0, .ref (X.1 0)), (1, .int y1)] → q_X7_yard_60 K25 post y1 z0 S → W p l e (headSpec (Cond.code yX7_yard cX7_yard 3 (some .int) :: lw_gd) rm_X7_yard).room s m ([.ref (X.1 0)] : List Value).toArray below meth c H locs 0 0 (MQ below (va_Qi post (gB D (RW X)) (AX 18 X.1 s.heap.size)) ([.ref (X.1 0)] : List Value).toArray s 0 0 (AX 18 X.1 s.heap.size)) (F0 m 60 ls [.int z0, .ref (X.1 0)]) := by
    intro K25 hK25 y1 z0 S H locs ls hP hS hl h
    unfold q_X7_yard_60 at h
    refine rVi (As := [.int z0]) (rest := []) hX ⟨hx, hb, hml, hown, hT⟩ (c_X7_takes l D X hX H.size S z0 _ h) (gd_V wl_X7_109 wi_X7_takes wv_X7_takes wn_X7 wc_X7_takes) rfl hd_X7_takes ⟨rfl, rfl⟩ ⟨Nat.le_of_ble_eq_true rfl, Nat.le_of_ble_eq_true rfl⟩ (va_recv hK hP (ci := 7) (q0 := 0) rfl rw_Model) hK hP hS hF rfl hl.1 rfl (Nat.le_of_ble_eq_true rfl) dX7_yard_60 ⟨Nat.zero_le _, Nat.zero_le _⟩ (fun r_19 S_18 H locs h hP hS => ?_)
    refine lv_istore_n (lv' := [(2, .int r_19), (0, .ref (X.1 0)), (1, .int y1)]) hx hb dX7_yard_63 rfl hl (by decide) rfl (fun ls hl => ?_)
    refine lv_aload_n hx hb dX7_yard_64 rfl (lv_at hl 1 rfl) ?_
    refine rVi (As := []) (rest := []) hX ⟨hx, hb, hml, hown, hT⟩ (c_X7_isWell l D X hX H.size S_18  _ h) (gd_V wl_X7_102 wi_X7_isWell wv_X7_isWell wn_X7 wc_X7_isWell) rfl hd_X7_isWell ⟨rfl, rfl⟩ ⟨Nat.le_of_ble_eq_true rfl, Nat.le_of_ble_eq_true rfl⟩ (va_recv hK hP (ci := 7) (q0 := 0) rfl rw_Model) hK hP hS hF rfl hl.1 rfl (Nat.le_of_ble_eq_true rfl) dX7_yard_65 ⟨Nat.zero_le _, Nat.zero_le _⟩ (fun r_21 S_20 H locs h hP hS => ?_)
    refine lv_if_eq (tgt := 76) hx hb dX7_yard_68 (by decide) (fun c_22 => ?_) (fun c_22 => ?_)
    · have h := h.1 c_22
      exact W76 K25 hK25 y1 S_20 H locs ls hP hS (lv_sub hl [1, 2] rfl) h
    · have h := h.2 c_22
      refine lv_aload_n hx hb dX7_yard_71 rfl (lv_at hl 1 rfl) ?_
      refine lv_iload_n hx hb dX7_yard_72 rfl (lv_at hl 0 rfl) ?_
      refine rVv (As := [.int r_19]) (rest := []) hX ⟨hx, hb, hml, hown, hT⟩ (c_X7_readsItem l D X hX H.size S_20 r_19 _ h) (gd_V wl_X7_126 wi_X7_readsItem wv_X7_readsItem wn_X7 wc_X7_readsItem) rfl hd_X7_readsItem ⟨rfl, rfl⟩ ⟨Nat.le_of_ble_eq_true rfl, Nat.le_of_ble_eq_true rfl⟩ (va_recv hK hP (ci := 7) (q0 := 0) rfl rw_Model) hK hP hS hF rfl hl.1 rfl (Nat.le_of_ble_eq_true rfl) dX7_yard_73 ⟨Nat.zero_le _, Nat.zero_le _⟩ (fun S_30 H locs h hP hS => ?_)
      exact W76 K25 hK25 y1 S_30 H locs ls hP hS (lv_sub hl [1, 2] rfl) h
  have W25 : ∀ n1 : Nat, ∀ (y1 : Int32) (S : CS) (H : Heap) (locs : List Loc) (ls : Array Slot), va_P D vwCl (RW X S) H → va_S (AX 18 X.1 s.heap.size) s.heap H locs → lv_has ls 3 [(0, .ref (X.1 0)), (1, .int y1)] → q_X7_yard_25 post n1 y1 S → W p l e (headSpec (Cond.code yX7_yard cX7_yard 3 (some .int) :: lw_gd) rm_X7_yard).room s m ([.ref (X.1 0)] : List Value).toArray below meth c H locs 0 0 (MQ below (va_Qi post (gB D (RW X)) (AX 18 X.1 s.heap.size)) ([.ref (X.1 0)] : List Value).toArray s 0 0 (AX 18 X.1 s.heap.size)) (F0 m 25 ls []) := by
    intro n1
    induction n1 with
    | zero => intro y1 S H locs ls hP hS hl h; exact h.elim
    | succ n9 ih =>
      intro y1 S H locs ls hP hS hl h
      rw [q_X7_yard_25] at h
      refine lv_aload_n hx hb dX7_yard_25 rfl (lv_at hl 0 rfl) ?_
      refine rVi (As := []) (rest := []) hX ⟨hx, hb, hml, hown, hT⟩ (c_X7_isWell l D X hX H.size S  _ h) (gd_V wl_X7_102 wi_X7_isWell wv_X7_isWell wn_X7 wc_X7_isWell) rfl hd_X7_isWell ⟨rfl, rfl⟩ ⟨Nat.le_of_ble_eq_true rfl, Nat.le_of_ble_eq_true rfl⟩ (va_recv hK hP (ci := 7) (q0 := 0) rfl rw_Model) hK hP hS hF rfl hl.1 rfl (Nat.le_of_ble_eq_true rfl) dX7_yard_26 ⟨Nat.zero_le _, Nat.zero_le _⟩ (fun r_9 S_8 H locs h hP hS => ?_)
      refine lv_if_eq (tgt := 100) hx hb dX7_yard_29 (by decide) (fun c_10 => ?_) (fun c_10 => ?_)
      · have h := h.1 c_10
        exact W100  y1 S_8 H locs ls hP hS hl h
      · have h := h.2 c_10
        refine lv_aload_n hx hb dX7_yard_32 rfl (lv_at hl 0 rfl) ?_
        refine va_get (D := D) (ci := 7) (v := .int (S_8.1 0 5)) (C := RX7) (T := TX7) (N := 28) hx hb hT inX7 hown hK hP 0 rw_Model rfl 5 (by decide) (hT _ wf_X7_89) (fun _ h9 => h9) rfl dX7_yard_33 ?_
        refine lv_if_eq (tgt := 100) hx hb dX7_yard_36 (by decide) (fun c_16 => ?_) (fun c_16 => ?_)
        · have h := h.1 c_16
          exact W100  y1 S_8 H locs ls hP hS hl h
        · have h := h.2 c_16
          refine lv_aload_n hx hb dX7_yard_39 rfl (lv_at hl 0 rfl) ?_
          refine lv_aload_n hx hb dX7_yard_40 rfl (lv_at hl 0 rfl) ?_
          refine va_get (D := D) (ci := 7) (v := .int (S_8.1 0 5)) (C := RX7) (T := TX7) (N := 28) hx hb hT inX7 hown hK hP 0 rw_Model rfl 5 (by decide) (hT _ wf_X7_89) (fun _ h9 => h9) rfl dX7_yard_41 ?_
          refine lv_iconst (v := 1) hx hb dX7_yard_44 (by decide) ?_
          refine lv_icmp_ne (tgt := 59) hx hb dX7_yard_45 (by decide) (fun c_17 => ?_) (fun c_17 => ?_)
          · have h := h.2 c_17
            refine lv_iconst (v := 0) hx hb dX7_yard_59 (by decide) ?_
            exact W60 (fun y1' S9 => q_X7_yard_25 post n9 y1' S9) ih y1 0 S_8 H locs ls hP hS hl h
          · have h := h.1 c_17
            refine lv_aload_n hx hb dX7_yard_48 rfl (lv_at hl 0 rfl) ?_
            refine rVi (As := []) (rest := [.ref (X.1 0)]) hX ⟨hx, hb, hml, hown, hT⟩ (c_X7_mayBegin l D X hX H.size S_8  _ h) (gd_V wl_X7_123 wi_X7_mayBegin wv_X7_mayBegin wn_X7 wc_X7_mayBegin) rfl hd_X7_mayBegin ⟨rfl, rfl⟩ ⟨Nat.le_of_ble_eq_true rfl, Nat.le_of_ble_eq_true rfl⟩ (va_recv hK hP (ci := 7) (q0 := 0) rfl rw_Model) hK hP hS hF rfl hl.1 rfl (Nat.le_of_ble_eq_true rfl) dX7_yard_49 ⟨Nat.zero_le _, Nat.zero_le _⟩ (fun r_33 S_32 H locs h hP hS => ?_)
            refine lv_if_eq (tgt := 59) hx hb dX7_yard_52 (by decide) (fun c_34 => ?_) (fun c_34 => ?_)
            · have h := h.1 c_34
              refine lv_iconst (v := 0) hx hb dX7_yard_59 (by decide) ?_
              exact W60 (fun y1' S9 => q_X7_yard_25 post n9 y1' S9) ih y1 0 S_32 H locs ls hP hS hl h
            · have h := h.2 c_34
              refine lv_iconst (v := 1) hx hb dX7_yard_55 (by decide) ?_
              refine lv_goto (tgt := 60) hx hb dX7_yard_56 (by decide) ?_
              exact W60 (fun y1' S9 => q_X7_yard_25 post n9 y1' S9) ih y1 1 S_32 H locs ls hP hS hl h
  have hl := lv_entry ([.ref (X.1 0)]) (n := 3) (Nat.le_of_ble_eq_true rfl)
  rw [lg_entry_eq]
  generalize (lg_sl ([.ref (X.1 0)]) ++ List.replicate (3 - (lg_sl ([.ref (X.1 0)])).length) Slot.unset).toArray = ls at hl ⊢
  have hl : lv_has ls 3 [(0, .ref (X.1 0))] := hl
  obtain ⟨H, hH⟩ : ∃ H : Heap, H = s.heap := ⟨_, rfl⟩
  obtain ⟨locs, hlc⟩ : ∃ q : List Loc, q = [] := ⟨_, rfl⟩
  have hS : va_S (AX 18 X.1 s.heap.size) s.heap H locs := by rw [hH, hlc]; exact hS
  have hP : va_P D vwCl (RW X S) H := by rw [hH]; exact hP
  show W p l e (headSpec (Cond.code yX7_yard cX7_yard 3 (some .int) :: lw_gd) rm_X7_yard).room s m ([.ref (X.1 0)] : List Value).toArray below meth c s.heap [] 0 0 (MQ below (va_Qi post (gB D (RW X)) (AX 18 X.1 s.heap.size)) ([.ref (X.1 0)] : List Value).toArray s 0 0 (AX 18 X.1 s.heap.size)) _
  suffices hgo : W p l e (headSpec (Cond.code yX7_yard cX7_yard 3 (some .int) :: lw_gd) rm_X7_yard).room s m ([.ref (X.1 0)] : List Value).toArray below meth c H locs 0 0 (MQ below (va_Qi post (gB D (RW X)) (AX 18 X.1 s.heap.size)) ([.ref (X.1 0)] : List Value).toArray s 0 0 (AX 18 X.1 s.heap.size)) (F0 m 0 ls []) from by rw [hH, hlc] at hgo; exact hgo
  unfold p_X7_yard at h
  refine lv_aload_n hx hb dX7_yard_0 rfl (lv_at hl 0 rfl) ?_
  refine lv_iconst (v := 0) hx hb dX7_yard_1 (by decide) ?_
  refine va_put (D := D) (ci := 7) (v := .int 0) (ty := .int) (C := RX7) (T := TX7) (N := 28) hx hb hT inX7 tyX7 tyX7_ok nmX7 hown hK hP (gw_D hX) hS 0 rw_Model rfl 0 (by decide) (hT _ wf_X7_68) (fun _ h9 => h9) rfl (by decide +kernel) rfl rfl (Nat.le_of_ble_eq_true rfl) dX7_yard_2 (fun H locs hP _ hS => ?_)
  have hP := rw_st (j := 0) (x := 0) rfl hP
  obtain ⟨S_1, eS_1⟩ : ∃ z : CS, z = sti S 0 0 0 := ⟨_, rfl⟩
  rw [← eS_1] at hP
  have h := h S_1 eS_1
  refine lv_aload_n hx hb dX7_yard_5 rfl (lv_at hl 0 rfl) ?_
  refine lv_iconst (v := (-1)) hx hb dX7_yard_6 (by decide) ?_
  refine va_put (D := D) (ci := 7) (v := .int (-1)) (ty := .int) (C := RX7) (T := TX7) (N := 28) hx hb hT inX7 tyX7 tyX7_ok nmX7 hown hK hP (gw_D hX) hS 0 rw_Model rfl 8 (by decide) (hT _ wf_X7_99) (fun _ h9 => h9) rfl (by decide +kernel) rfl rfl (Nat.le_of_ble_eq_true rfl) dX7_yard_7 (fun H locs hP _ hS => ?_)
  have hP := rw_st (j := 8) (x := (-1)) rfl hP
  obtain ⟨S_2, eS_2⟩ : ∃ z : CS, z = sti S_1 0 8 (-1) := ⟨_, rfl⟩
  rw [← eS_2] at hP
  have h := h S_2 eS_2
  refine lv_aload_n hx hb dX7_yard_10 rfl (lv_at hl 0 rfl) ?_
  refine lv_iconst (v := 0) hx hb dX7_yard_11 (by decide) ?_
  refine va_put (D := D) (ci := 7) (v := .int 0) (ty := .int) (C := RX7) (T := TX7) (N := 28) hx hb hT inX7 tyX7 tyX7_ok nmX7 hown hK hP (gw_D hX) hS 0 rw_Model rfl 4 (by decide) (hT _ wf_X7_79) (fun _ h9 => h9) rfl (by decide +kernel) rfl rfl (Nat.le_of_ble_eq_true rfl) dX7_yard_12 (fun H locs hP _ hS => ?_)
  have hP := rw_st (j := 4) (x := 0) rfl hP
  obtain ⟨S_3, eS_3⟩ : ∃ z : CS, z = sti S_2 0 4 0 := ⟨_, rfl⟩
  rw [← eS_3] at hP
  have h := h S_3 eS_3
  refine lv_aload_n hx hb dX7_yard_15 rfl (lv_at hl 0 rfl) ?_
  refine rVv (As := []) (rest := []) hX ⟨hx, hb, hml, hown, hT⟩ (c_X7_begins l D X hX H.size S_3  _ h) (gd_V wl_X7_62 wi_X7_begins wv_X7_begins wn_X7 wc_X7_begins) rfl hd_X7_begins ⟨rfl, rfl⟩ ⟨Nat.le_of_ble_eq_true rfl, Nat.le_of_ble_eq_true rfl⟩ (va_recv hK hP (ci := 7) (q0 := 0) rfl rw_Model) hK hP hS hF rfl hl.1 rfl (Nat.le_of_ble_eq_true rfl) dX7_yard_16 ⟨Nat.zero_le _, Nat.zero_le _⟩ (fun S_4 H locs h hP hS => ?_)
  refine lv_iconst (v := 0) hx hb dX7_yard_19 (by decide) ?_
  refine lv_istore_n (lv' := [(1, .int 0), (0, .ref (X.1 0))]) hx hb dX7_yard_20 rfl hl (by decide) rfl (fun ls hl => ?_)
  refine lv_aload_n hx hb dX7_yard_21 rfl (lv_at hl 1 rfl) ?_
  refine rVv (As := []) (rest := []) hX ⟨hx, hb, hml, hown, hT⟩ (c_X7_advances l D X hX H.size S_4  _ h) (gd_V wl_X7_106 wi_X7_advances wv_X7_advances wn_X7 wc_X7_advances) rfl hd_X7_advances ⟨rfl, rfl⟩ ⟨Nat.le_of_ble_eq_true rfl, Nat.le_of_ble_eq_true rfl⟩ (va_recv hK hP (ci := 7) (q0 := 0) rfl rw_Model) hK hP hS hF rfl hl.1 rfl (Nat.le_of_ble_eq_true rfl) dX7_yard_22 ⟨Nat.zero_le _, Nat.zero_le _⟩ (fun S_6 H locs h hP hS => ?_)
  obtain ⟨n1, h⟩ := h
  exact W25  n1 0 S_6 H locs ls hP hS (lv_sub hl [1, 0] rfl) h

abbrev rm_X7_isPart : Room := { frames := 1, cells := 0, slots := 0, locals := 22 }
def p_X7_isPart (S : CS) (x1 : Int32) (post : Int32 → CS → Prop) : Prop := p_X7_in S x1 0 ((S.1 2 0) - 1) (fun r_2 S_1 => ((narrow .boolean (.int r_2) = .int r_2) ∧ (post r_2 S_1)))
set_option maxHeartbeats 4000000 in
set_option maxRecDepth 100000 in
theorem c_X7_isPart (l : Launch) (D : va_G) (X : XE) (hX : Inj 18 X.1) (sz : Nat) (S : CS) (x1 : Int32) (post : Int32 → CS → Prop) (h : p_X7_isPart S x1 post) : Met l yX7_isPart (Cond.code yX7_isPart cX7_isPart 2 (some .boolean) :: lw_gd) rm_X7_isPart (gPc D (tyX X) (RW X) (FXr X) (AX 18 X.1 sz) sz S [.ref (X.1 0), .int x1]) (va_Qi post (gB D (RW X)) (AX 18 X.1 sz)) 0 0 (AX 18 X.1 sz) := by
  refine Met.ofW (cc := cX7_isPart) (maxL := 2) (ret := (some .boolean)) (by decide) rfl ?_
  intro p e s m args below meth c s₁ B hml hv
  obtain ⟨rfl, hsz, hP, hK, hF⟩ := hv
  have hx := B.exec
  have hb := B.bytes
  have hr := B.returns
  have hts := atoms_spec (ws := (Cond.code yX7_isPart cX7_isPart 2 (some .boolean) :: lw_gd)) B.pre
  have hT : ∀ w ∈ lw_gd, w.before _ s = true := fun w h9 => hts w (List.mem_cons_of_mem _ h9)
  have hown : s.vm.findClass RX7 = some m.cls := findClass_of_methodNamed B.named
  have hlocks := B.notSynchronized
  subst hsz
  have hS : va_S (AX 18 X.1 s.heap.size) s.heap s.heap [] := va_S.rf
  have hl := lv_entry ([.ref (X.1 0), .int x1]) (n := 2) (Nat.le_of_ble_eq_true rfl)
  rw [lg_entry_eq]
  generalize (lg_sl ([.ref (X.1 0), .int x1]) ++ List.replicate (2 - (lg_sl ([.ref (X.1 0), .int x1])).length) Slot.unset).toArray = ls at hl ⊢
  have hl : lv_has ls 2 [(0, .ref (X.1 0)), (1, .int x1)] := hl
  obtain ⟨H, hH⟩ : ∃ H : Heap, H = s.heap := ⟨_, rfl⟩
  obtain ⟨locs, hlc⟩ : ∃ q : List Loc, q = [] := ⟨_, rfl⟩
  have hS : va_S (AX 18 X.1 s.heap.size) s.heap H locs := by rw [hH, hlc]; exact hS
  have hP : va_P D vwCl (RW X S) H := by rw [hH]; exact hP
  show W p l e (headSpec (Cond.code yX7_isPart cX7_isPart 2 (some .boolean) :: lw_gd) rm_X7_isPart).room s m ([.ref (X.1 0), .int x1] : List Value).toArray below meth c s.heap [] 0 0 (MQ below (va_Qi post (gB D (RW X)) (AX 18 X.1 s.heap.size)) ([.ref (X.1 0), .int x1] : List Value).toArray s 0 0 (AX 18 X.1 s.heap.size)) _
  suffices hgo : W p l e (headSpec (Cond.code yX7_isPart cX7_isPart 2 (some .boolean) :: lw_gd) rm_X7_isPart).room s m ([.ref (X.1 0), .int x1] : List Value).toArray below meth c H locs 0 0 (MQ below (va_Qi post (gB D (RW X)) (AX 18 X.1 s.heap.size)) ([.ref (X.1 0), .int x1] : List Value).toArray s 0 0 (AX 18 X.1 s.heap.size)) (F0 m 0 ls []) from by rw [hH, hlc] at hgo; exact hgo
  unfold p_X7_isPart at h
  refine lv_iload_n hx hb dX7_isPart_0 rfl (lv_at hl 1 rfl) ?_
  refine lv_iconst (v := 0) hx hb dX7_isPart_1 (by decide) ?_
  refine lv_aload_n hx hb dX7_isPart_2 rfl (lv_at hl 0 rfl) ?_
  refine va_get (D := D) (ci := 7) (v := .ref (X.1 2)) (C := RX7) (T := TX7) (N := 28) hx hb hT inX7 hown hK hP 0 rw_Model rfl 9 (by decide) (hT _ wf_X7_13) (fun _ h9 => h9) rfl dX7_isPart_3 ?_
  refine lv_iconst (v := 0) hx hb dX7_isPart_6 (by decide) ?_
  refine g_iald hx hb hK hP 2 rw_2 rfl (vpc (by decide)) 0 rfl dX7_isPart_7 ?_
  refine lv_iconst (v := 1) hx hb dX7_isPart_8 (by decide) ?_
  refine lv_isub hx hb dX7_isPart_9 ?_
  refine rSi (As := [.int x1, .int 0, .int ((S.1 2 0) - 1)]) (rest := []) hX ⟨hx, hb, hml, hown, hT⟩ (c_X7_in l D X hX H.size S x1 0 ((S.1 2 0) - 1) _ h) (gd_S wl_X7_72 wt_X7_in wn_X7 wc_X7_in) hd_X7_in ⟨rfl, rfl⟩ ⟨Nat.le_of_ble_eq_true rfl, Nat.le_of_ble_eq_true rfl⟩ hK hP hS hF rfl hl.1 rfl (Nat.le_of_ble_eq_true rfl) dX7_isPart_10 ⟨Nat.zero_le _, Nat.zero_le _⟩ (fun r_2 S_1 H locs h hP hS => ?_)
  obtain ⟨hn, h⟩ := h
  exact W.zret (v := r_2) hx hb hr hn (fun t ht hW => ⟨⟨r_2, S_1, rfl, h, gB_of ht hP⟩, hS.F ht⟩) hS.2.2 dX7_isPart_13

abbrev rm_X7_isOrder : Room := { frames := 1, cells := 0, slots := 0, locals := 22 }
def p_X7_isOrder (S : CS) (x1 : Int32) (post : Int32 → CS → Prop) : Prop := p_X7_in S x1 0 ((S.1 2 1) - 1) (fun r_2 S_1 => ((narrow .boolean (.int r_2) = .int r_2) ∧ (post r_2 S_1)))
set_option maxHeartbeats 4000000 in
set_option maxRecDepth 100000 in
theorem c_X7_isOrder (l : Launch) (D : va_G) (X : XE) (hX : Inj 18 X.1) (sz : Nat) (S : CS) (x1 : Int32) (post : Int32 → CS → Prop) (h : p_X7_isOrder S x1 post) : Met l yX7_isOrder (Cond.code yX7_isOrder cX7_isOrder 2 (some .boolean) :: lw_gd) rm_X7_isOrder (gPc D (tyX X) (RW X) (FXr X) (AX 18 X.1 sz) sz S [.ref (X.1 0), .int x1]) (va_Qi post (gB D (RW X)) (AX 18 X.1 sz)) 0 0 (AX 18 X.1 sz) := by
  refine Met.ofW (cc := cX7_isOrder) (maxL := 2) (ret := (some .boolean)) (by decide) rfl ?_
  intro p e s m args below meth c s₁ B hml hv
  obtain ⟨rfl, hsz, hP, hK, hF⟩ := hv
  have hx := B.exec
  have hb := B.bytes
  have hr := B.returns
  have hts := atoms_spec (ws := (Cond.code yX7_isOrder cX7_isOrder 2 (some .boolean) :: lw_gd)) B.pre
  have hT : ∀ w ∈ lw_gd, w.before _ s = true := fun w h9 => hts w (List.mem_cons_of_mem _ h9)
  have hown : s.vm.findClass RX7 = some m.cls := findClass_of_methodNamed B.named
  have hlocks := B.notSynchronized
  subst hsz
  have hS : va_S (AX 18 X.1 s.heap.size) s.heap s.heap [] := va_S.rf
  have hl := lv_entry ([.ref (X.1 0), .int x1]) (n := 2) (Nat.le_of_ble_eq_true rfl)
  rw [lg_entry_eq]
  generalize (lg_sl ([.ref (X.1 0), .int x1]) ++ List.replicate (2 - (lg_sl ([.ref (X.1 0), .int x1])).length) Slot.unset).toArray = ls at hl ⊢
  have hl : lv_has ls 2 [(0, .ref (X.1 0)), (1, .int x1)] := hl
  obtain ⟨H, hH⟩ : ∃ H : Heap, H = s.heap := ⟨_, rfl⟩
  obtain ⟨locs, hlc⟩ : ∃ q : List Loc, q = [] := ⟨_, rfl⟩
  have hS : va_S (AX 18 X.1 s.heap.size) s.heap H locs := by rw [hH, hlc]; exact hS
  have hP : va_P D vwCl (RW X S) H := by rw [hH]; exact hP
  show W p l e (headSpec (Cond.code yX7_isOrder cX7_isOrder 2 (some .boolean) :: lw_gd) rm_X7_isOrder).room s m ([.ref (X.1 0), .int x1] : List Value).toArray below meth c s.heap [] 0 0 (MQ below (va_Qi post (gB D (RW X)) (AX 18 X.1 s.heap.size)) ([.ref (X.1 0), .int x1] : List Value).toArray s 0 0 (AX 18 X.1 s.heap.size)) _
  suffices hgo : W p l e (headSpec (Cond.code yX7_isOrder cX7_isOrder 2 (some .boolean) :: lw_gd) rm_X7_isOrder).room s m ([.ref (X.1 0), .int x1] : List Value).toArray below meth c H locs 0 0 (MQ below (va_Qi post (gB D (RW X)) (AX 18 X.1 s.heap.size)) ([.ref (X.1 0), .int x1] : List Value).toArray s 0 0 (AX 18 X.1 s.heap.size)) (F0 m 0 ls []) from by rw [hH, hlc] at hgo; exact hgo
  unfold p_X7_isOrder at h
  refine lv_iload_n hx hb dX7_isOrder_0 rfl (lv_at hl 1 rfl) ?_
  refine lv_iconst (v := 0) hx hb dX7_isOrder_1 (by decide) ?_
  refine lv_aload_n hx hb dX7_isOrder_2 rfl (lv_at hl 0 rfl) ?_
  refine va_get (D := D) (ci := 7) (v := .ref (X.1 2)) (C := RX7) (T := TX7) (N := 28) hx hb hT inX7 hown hK hP 0 rw_Model rfl 9 (by decide) (hT _ wf_X7_13) (fun _ h9 => h9) rfl dX7_isOrder_3 ?_
  refine lv_iconst (v := 1) hx hb dX7_isOrder_6 (by decide) ?_
  refine g_iald hx hb hK hP 2 rw_2 rfl (vpc (by decide)) 1 rfl dX7_isOrder_7 ?_
  refine lv_iconst (v := 1) hx hb dX7_isOrder_8 (by decide) ?_
  refine lv_isub hx hb dX7_isOrder_9 ?_
  refine rSi (As := [.int x1, .int 0, .int ((S.1 2 1) - 1)]) (rest := []) hX ⟨hx, hb, hml, hown, hT⟩ (c_X7_in l D X hX H.size S x1 0 ((S.1 2 1) - 1) _ h) (gd_S wl_X7_72 wt_X7_in wn_X7 wc_X7_in) hd_X7_in ⟨rfl, rfl⟩ ⟨Nat.le_of_ble_eq_true rfl, Nat.le_of_ble_eq_true rfl⟩ hK hP hS hF rfl hl.1 rfl (Nat.le_of_ble_eq_true rfl) dX7_isOrder_10 ⟨Nat.zero_le _, Nat.zero_le _⟩ (fun r_2 S_1 H locs h hP hS => ?_)
  obtain ⟨hn, h⟩ := h
  exact W.zret (v := r_2) hx hb hr hn (fun t ht hW => ⟨⟨r_2, S_1, rfl, h, gB_of ht hP⟩, hS.F ht⟩) hS.2.2 dX7_isOrder_13

abbrev rm_X7_givesAt : Room := { frames := 0, cells := 0, slots := 0, locals := 0 }
def q_X7_givesAt_28 (x1 : Int32) (x2 : Int32) (post : Int32 → CS → Prop) (z0 : Int32) (S : CS) : Prop := (0 ≤ z0 → (post (x1 * z0) S)) ∧ (¬ (0 ≤ z0) → (post 0 S))
def p_X7_givesAt (S : CS) (x1 : Int32) (x2 : Int32) (post : Int32 → CS → Prop) : Prop := ((S.1 2 2) < x2 → (q_X7_givesAt_28 x1 x2 post (((2 * (S.1 2 2)) - 2) - x2) S)) ∧ (¬ ((S.1 2 2) < x2) → (q_X7_givesAt_28 x1 x2 post (x2 - 2) S))
set_option maxHeartbeats 4000000 in
set_option maxRecDepth 100000 in
theorem c_X7_givesAt (l : Launch) (D : va_G) (X : XE) (hX : Inj 18 X.1) (sz : Nat) (S : CS) (x1 : Int32) (x2 : Int32) (post : Int32 → CS → Prop) (h : p_X7_givesAt S x1 x2 post) : Met l yX7_givesAt (Cond.code yX7_givesAt cX7_givesAt 4 (some .int) :: lw_gd) rm_X7_givesAt (gPc D (tyX X) (RW X) (FXr X) (AX 18 X.1 sz) sz S [.ref (X.1 0), .int x1, .int x2]) (va_Qi post (gB D (RW X)) (AX 18 X.1 sz)) 0 0 (AX 18 X.1 sz) := by
  refine Met.ofW (cc := cX7_givesAt) (maxL := 4) (ret := (some .int)) (by decide) rfl ?_
  intro p e s m args below meth c s₁ B hml hv
  obtain ⟨rfl, hsz, hP, hK, hF⟩ := hv
  have hx := B.exec
  have hb := B.bytes
  have hr := B.returns
  have hts := atoms_spec (ws := (Cond.code yX7_givesAt cX7_givesAt 4 (some .int) :: lw_gd)) B.pre
  have hT : ∀ w ∈ lw_gd, w.before _ s = true := fun w h9 => hts w (List.mem_cons_of_mem _ h9)
  have hown : s.vm.findClass RX7 = some m.cls := findClass_of_methodNamed B.named
  have hlocks := B.notSynchronized
  subst hsz
  have hS : va_S (AX 18 X.1 s.heap.size) s.heap s.heap [] := va_S.rf
  have W28 : ∀ (z0 : Int32) (S : CS) (H : Heap) (locs : List Loc) (ls : Array Slot), va_P D vwCl (RW X S) H → va_S (AX 18 X.1 s.heap.size) s.heap H locs → lv_has ls 4 [(1, .int x1)] → q_X7_givesAt_28 x1 x2 post z0 S → W p l e (headSpec (Cond.code yX7_givesAt cX7_givesAt 4 (some .int) :: lw_gd) rm_X7_givesAt).room s m ([.ref (X.1 0), .int x1, .int x2] : List Value).toArray below meth c H locs 0 0 (MQ below (va_Qi post (gB D (RW X)) (AX 18 X.1 s.heap.size)) ([.ref (X.1 0), .int x1, .int x2] : List Value).toArray s 0 0 (AX 18 X.1 s.heap.size)) (F0 m 28 ls [.int z0]) := by
    intro z0 S H locs ls hP hS hl h
    unfold q_X7_givesAt_28 at h
    refine lv_istore_n (lv' := [(3, .int z0), (1, .int x1)]) hx hb dX7_givesAt_28 rfl hl (by decide) rfl (fun ls hl => ?_)
    refine lv_iload_n hx hb dX7_givesAt_29 rfl (lv_at hl 0 rfl) ?_
    refine lv_if_ge (tgt := 37) hx hb dX7_givesAt_30 (by decide) (fun c_2 => ?_) (fun c_2 => ?_)
    · have h := h.1 c_2
      refine lv_iload_n hx hb dX7_givesAt_37 rfl (lv_at hl 1 rfl) ?_
      refine lv_iload_n hx hb dX7_givesAt_38 rfl (lv_at hl 0 rfl) ?_
      refine lv_imul hx hb dX7_givesAt_39 ?_
      exact W.iret (v := (x1 * z0)) hx hb hr (fun t ht hW => ⟨⟨(x1 * z0), S, rfl, h, gB_of ht hP⟩, hS.F ht⟩) hS.2.2 dX7_givesAt_40
    · have h := h.2 c_2
      refine lv_iconst (v := 0) hx hb dX7_givesAt_33 (by decide) ?_
      refine lv_goto (tgt := 40) hx hb dX7_givesAt_34 (by decide) ?_
      exact W.iret (v := 0) hx hb hr (fun t ht hW => ⟨⟨0, S, rfl, h, gB_of ht hP⟩, hS.F ht⟩) hS.2.2 dX7_givesAt_40
  have hl := lv_entry ([.ref (X.1 0), .int x1, .int x2]) (n := 4) (Nat.le_of_ble_eq_true rfl)
  rw [lg_entry_eq]
  generalize (lg_sl ([.ref (X.1 0), .int x1, .int x2]) ++ List.replicate (4 - (lg_sl ([.ref (X.1 0), .int x1, .int x2])).length) Slot.unset).toArray = ls at hl ⊢
  have hl : lv_has ls 4 [(0, .ref (X.1 0)), (1, .int x1), (2, .int x2)] := hl
  obtain ⟨H, hH⟩ : ∃ H : Heap, H = s.heap := ⟨_, rfl⟩
  obtain ⟨locs, hlc⟩ : ∃ q : List Loc, q = [] := ⟨_, rfl⟩
  have hS : va_S (AX 18 X.1 s.heap.size) s.heap H locs := by rw [hH, hlc]; exact hS
  have hP : va_P D vwCl (RW X S) H := by rw [hH]; exact hP
  show W p l e (headSpec (Cond.code yX7_givesAt cX7_givesAt 4 (some .int) :: lw_gd) rm_X7_givesAt).room s m ([.ref (X.1 0), .int x1, .int x2] : List Value).toArray below meth c s.heap [] 0 0 (MQ below (va_Qi post (gB D (RW X)) (AX 18 X.1 s.heap.size)) ([.ref (X.1 0), .int x1, .int x2] : List Value).toArray s 0 0 (AX 18 X.1 s.heap.size)) _
  suffices hgo : W p l e (headSpec (Cond.code yX7_givesAt cX7_givesAt 4 (some .int) :: lw_gd) rm_X7_givesAt).room s m ([.ref (X.1 0), .int x1, .int x2] : List Value).toArray below meth c H locs 0 0 (MQ below (va_Qi post (gB D (RW X)) (AX 18 X.1 s.heap.size)) ([.ref (X.1 0), .int x1, .int x2] : List Value).toArray s 0 0 (AX 18 X.1 s.heap.size)) (F0 m 0 ls []) from by rw [hH, hlc] at hgo; exact hgo
  unfold p_X7_givesAt at h
  refine lv_iload_n hx hb dX7_givesAt_0 rfl (lv_at hl 2 rfl) ?_
  refine lv_aload_n hx hb dX7_givesAt_1 rfl (lv_at hl 0 rfl) ?_
  refine va_get (D := D) (ci := 7) (v := .ref (X.1 2)) (C := RX7) (T := TX7) (N := 28) hx hb hT inX7 hown hK hP 0 rw_Model rfl 9 (by decide) (hT _ wf_X7_13) (fun _ h9 => h9) rfl dX7_givesAt_2 ?_
  refine lv_iconst (v := 2) hx hb dX7_givesAt_5 (by decide) ?_
  refine g_iald hx hb hK hP 2 rw_2 rfl (vpc (by decide)) 2 rfl dX7_givesAt_6 ?_
  refine lv_icmp_gt (tgt := 16) hx hb dX7_givesAt_7 (by decide) (fun c_1 => ?_) (fun c_1 => ?_)
  · have h := h.1 c_1
    refine lv_iconst (v := 2) hx hb dX7_givesAt_16 (by decide) ?_
    refine lv_aload_n hx hb dX7_givesAt_17 rfl (lv_at hl 0 rfl) ?_
    refine va_get (D := D) (ci := 7) (v := .ref (X.1 2)) (C := RX7) (T := TX7) (N := 28) hx hb hT inX7 hown hK hP 0 rw_Model rfl 9 (by decide) (hT _ wf_X7_13) (fun _ h9 => h9) rfl dX7_givesAt_18 ?_
    refine lv_iconst (v := 2) hx hb dX7_givesAt_21 (by decide) ?_
    refine g_iald hx hb hK hP 2 rw_2 rfl (vpc (by decide)) 2 rfl dX7_givesAt_22 ?_
    refine lv_imul hx hb dX7_givesAt_23 ?_
    refine lv_iconst (v := 2) hx hb dX7_givesAt_24 (by decide) ?_
    refine lv_isub hx hb dX7_givesAt_25 ?_
    refine lv_iload_n hx hb dX7_givesAt_26 rfl (lv_at hl 2 rfl) ?_
    refine lv_isub hx hb dX7_givesAt_27 ?_
    exact W28  (((2 * (S.1 2 2)) - 2) - x2) S H locs ls hP hS (lv_sub hl [1] rfl) h
  · have h := h.2 c_1
    refine lv_iload_n hx hb dX7_givesAt_10 rfl (lv_at hl 2 rfl) ?_
    refine lv_iconst (v := 2) hx hb dX7_givesAt_11 (by decide) ?_
    refine lv_isub hx hb dX7_givesAt_12 ?_
    refine lv_goto (tgt := 28) hx hb dX7_givesAt_13 (by decide) ?_
    exact W28  (x2 - 2) S H locs ls hP hS (lv_sub hl [1] rfl) h

abbrev rm_X7_gives : Room := { frames := 1, cells := 0, slots := 0, locals := 23 }
def p_X7_gives (S : CS) (c1 : Nat) (x2 : Int32) (post : Int32 → CS → Prop) : Prop := vp_in x2 12 ∧ (vp_in (15 + x2) 21 ∧ (p_X7_givesAt S (S.1 3 x2.toNatClampNeg) (S.1 c1 ((15 + x2).toNatClampNeg)) (fun r_2 S_1 => (post r_2 S_1))))
set_option maxHeartbeats 4000000 in
set_option maxRecDepth 100000 in
theorem c_X7_gives (l : Launch) (D : va_G) (X : XE) (hX : Inj 18 X.1) (sz : Nat) (S : CS) (c1 : Nat) (hyp_c1 : c1 = 8 ∨ c1 = 9) (x2 : Int32) (post : Int32 → CS → Prop) (h : p_X7_gives S c1 x2 post) : Met l yX7_gives (Cond.code yX7_gives cX7_gives 3 (some .int) :: lw_gd) rm_X7_gives (gPc D (tyX X) (RW X) (FXr X) (AX 18 X.1 sz) sz S [.ref (X.1 0), .ref (X.1 c1), .int x2]) (va_Qi post (gB D (RW X)) (AX 18 X.1 sz)) 0 0 (AX 18 X.1 sz) := by
  refine Met.ofW (cc := cX7_gives) (maxL := 3) (ret := (some .int)) (by decide) rfl ?_
  intro p e s m args below meth c s₁ B hml hv
  obtain ⟨rfl, hsz, hP, hK, hF⟩ := hv
  have hx := B.exec
  have hb := B.bytes
  have hr := B.returns
  have hts := atoms_spec (ws := (Cond.code yX7_gives cX7_gives 3 (some .int) :: lw_gd)) B.pre
  have hT : ∀ w ∈ lw_gd, w.before _ s = true := fun w h9 => hts w (List.mem_cons_of_mem _ h9)
  have hown : s.vm.findClass RX7 = some m.cls := findClass_of_methodNamed B.named
  have hlocks := B.notSynchronized
  subst hsz
  have hS : va_S (AX 18 X.1 s.heap.size) s.heap s.heap [] := va_S.rf
  have hl := lv_entry ([.ref (X.1 0), .ref (X.1 c1), .int x2]) (n := 3) (Nat.le_of_ble_eq_true rfl)
  rw [lg_entry_eq]
  generalize (lg_sl ([.ref (X.1 0), .ref (X.1 c1), .int x2]) ++ List.replicate (3 - (lg_sl ([.ref (X.1 0), .ref (X.1 c1), .int x2])).length) Slot.unset).toArray = ls at hl ⊢
  have hl : lv_has ls 3 [(0, .ref (X.1 0)), (1, .ref (X.1 c1)), (2, .int x2)] := hl
  obtain ⟨H, hH⟩ : ∃ H : Heap, H = s.heap := ⟨_, rfl⟩
  obtain ⟨locs, hlc⟩ : ∃ q : List Loc, q = [] := ⟨_, rfl⟩
  have hS : va_S (AX 18 X.1 s.heap.size) s.heap H locs := by rw [hH, hlc]; exact hS
  have hP : va_P D vwCl (RW X S) H := by rw [hH]; exact hP
  show W p l e (headSpec (Cond.code yX7_gives cX7_gives 3 (some .int) :: lw_gd) rm_X7_gives).room s m ([.ref (X.1 0), .ref (X.1 c1), .int x2] : List Value).toArray below meth c s.heap [] 0 0 (MQ below (va_Qi post (gB D (RW X)) (AX 18 X.1 s.heap.size)) ([.ref (X.1 0), .ref (X.1 c1), .int x2] : List Value).toArray s 0 0 (AX 18 X.1 s.heap.size)) _
  suffices hgo : W p l e (headSpec (Cond.code yX7_gives cX7_gives 3 (some .int) :: lw_gd) rm_X7_gives).room s m ([.ref (X.1 0), .ref (X.1 c1), .int x2] : List Value).toArray below meth c H locs 0 0 (MQ below (va_Qi post (gB D (RW X)) (AX 18 X.1 s.heap.size)) ([.ref (X.1 0), .ref (X.1 c1), .int x2] : List Value).toArray s 0 0 (AX 18 X.1 s.heap.size)) (F0 m 0 ls []) from by rw [hH, hlc] at hgo; exact hgo
  unfold p_X7_gives at h
  refine lv_aload_n hx hb dX7_gives_0 rfl (lv_at hl 0 rfl) ?_
  refine lv_aload_n hx hb dX7_gives_1 rfl (lv_at hl 0 rfl) ?_
  refine va_get (D := D) (ci := 7) (v := .ref (X.1 3)) (C := RX7) (T := TX7) (N := 28) hx hb hT inX7 hown hK hP 0 rw_Model rfl 11 (by decide) (hT _ wf_X7_16) (fun _ h9 => h9) rfl dX7_gives_2 ?_
  refine lv_iload_n hx hb dX7_gives_5 rfl (lv_at hl 2 rfl) ?_
  obtain ⟨hi, h⟩ := h
  refine g_iald hx hb hK hP 3 rw_3 rfl hi x2.toNatClampNeg rfl dX7_gives_6 ?_
  refine lv_aload_n hx hb dX7_gives_7 rfl (lv_at hl 1 rfl) ?_
  refine lv_bipush (v := 15) hx hb dX7_gives_8 (by decide) ?_
  refine lv_iload_n hx hb dX7_gives_10 rfl (lv_at hl 2 rfl) ?_
  refine lv_iadd hx hb dX7_gives_11 ?_
  obtain ⟨hi, h⟩ := h
  refine g_iald hx hb hK hP c1 (rw_sw hyp_c1) rfl hi ((15 + x2).toNatClampNeg) rfl dX7_gives_12 ?_
  refine rVi (As := [.int (S.1 3 x2.toNatClampNeg), .int (S.1 c1 ((15 + x2).toNatClampNeg))]) (rest := []) hX ⟨hx, hb, hml, hown, hT⟩ (c_X7_givesAt l D X hX H.size S (S.1 3 x2.toNatClampNeg) (S.1 c1 ((15 + x2).toNatClampNeg)) _ h) (gd_V wl_X7_136 wi_X7_givesAt wv_X7_givesAt wn_X7 wc_X7_givesAt) rfl hd_X7_givesAt ⟨rfl, rfl⟩ ⟨Nat.le_of_ble_eq_true rfl, Nat.le_of_ble_eq_true rfl⟩ (va_recv hK hP (ci := 7) (q0 := 0) rfl rw_Model) hK hP hS hF rfl hl.1 rfl (Nat.le_of_ble_eq_true rfl) dX7_gives_13 ⟨Nat.zero_le _, Nat.zero_le _⟩ (fun r_2 S_1 H locs h hP hS => ?_)
  exact W.iret (v := r_2) hx hb hr (fun t ht hW => ⟨⟨r_2, S_1, rfl, h, gB_of ht hP⟩, hS.F ht⟩) hS.2.2 dX7_gives_16

abbrev rm_X7_isSent : Room := { frames := 0, cells := 0, slots := 0, locals := 0 }
def p_X7_isSent (S : CS) (x1 : Int32) (post : Int32 → CS → Prop) : Prop := ((((S.1 8 5) >>> (x1 &&& 31)) &&& 1) = 1 → (post 1 S)) ∧ (¬ ((((S.1 8 5) >>> (x1 &&& 31)) &&& 1) = 1) → (post 0 S))
set_option maxHeartbeats 4000000 in
set_option maxRecDepth 100000 in
theorem c_X7_isSent (l : Launch) (D : va_G) (X : XE) (hX : Inj 18 X.1) (sz : Nat) (S : CS) (x1 : Int32) (post : Int32 → CS → Prop) (h : p_X7_isSent S x1 post) : Met l yX7_isSent (Cond.code yX7_isSent cX7_isSent 2 (some .boolean) :: lw_gd) rm_X7_isSent (gPc D (tyX X) (RW X) (FXr X) (AX 18 X.1 sz) sz S [.ref (X.1 0), .int x1]) (va_Qi post (gB D (RW X)) (AX 18 X.1 sz)) 0 0 (AX 18 X.1 sz) := by
  refine Met.ofW (cc := cX7_isSent) (maxL := 2) (ret := (some .boolean)) (by decide) rfl ?_
  intro p e s m args below meth c s₁ B hml hv
  obtain ⟨rfl, hsz, hP, hK, hF⟩ := hv
  have hx := B.exec
  have hb := B.bytes
  have hr := B.returns
  have hts := atoms_spec (ws := (Cond.code yX7_isSent cX7_isSent 2 (some .boolean) :: lw_gd)) B.pre
  have hT : ∀ w ∈ lw_gd, w.before _ s = true := fun w h9 => hts w (List.mem_cons_of_mem _ h9)
  have hown : s.vm.findClass RX7 = some m.cls := findClass_of_methodNamed B.named
  have hlocks := B.notSynchronized
  subst hsz
  have hS : va_S (AX 18 X.1 s.heap.size) s.heap s.heap [] := va_S.rf
  have hl := lv_entry ([.ref (X.1 0), .int x1]) (n := 2) (Nat.le_of_ble_eq_true rfl)
  rw [lg_entry_eq]
  generalize (lg_sl ([.ref (X.1 0), .int x1]) ++ List.replicate (2 - (lg_sl ([.ref (X.1 0), .int x1])).length) Slot.unset).toArray = ls at hl ⊢
  have hl : lv_has ls 2 [(0, .ref (X.1 0)), (1, .int x1)] := hl
  obtain ⟨H, hH⟩ : ∃ H : Heap, H = s.heap := ⟨_, rfl⟩
  obtain ⟨locs, hlc⟩ : ∃ q : List Loc, q = [] := ⟨_, rfl⟩
  have hS : va_S (AX 18 X.1 s.heap.size) s.heap H locs := by rw [hH, hlc]; exact hS
  have hP : va_P D vwCl (RW X S) H := by rw [hH]; exact hP
  show W p l e (headSpec (Cond.code yX7_isSent cX7_isSent 2 (some .boolean) :: lw_gd) rm_X7_isSent).room s m ([.ref (X.1 0), .int x1] : List Value).toArray below meth c s.heap [] 0 0 (MQ below (va_Qi post (gB D (RW X)) (AX 18 X.1 s.heap.size)) ([.ref (X.1 0), .int x1] : List Value).toArray s 0 0 (AX 18 X.1 s.heap.size)) _
  suffices hgo : W p l e (headSpec (Cond.code yX7_isSent cX7_isSent 2 (some .boolean) :: lw_gd) rm_X7_isSent).room s m ([.ref (X.1 0), .int x1] : List Value).toArray below meth c H locs 0 0 (MQ below (va_Qi post (gB D (RW X)) (AX 18 X.1 s.heap.size)) ([.ref (X.1 0), .int x1] : List Value).toArray s 0 0 (AX 18 X.1 s.heap.size)) (F0 m 0 ls []) from by rw [hH, hlc] at hgo; exact hgo
  unfold p_X7_isSent at h
  refine lv_aload_n hx hb dX7_isSent_0 rfl (lv_at hl 0 rfl) ?_
  refine va_get (D := D) (ci := 7) (v := .ref (X.1 8)) (C := RX7) (T := TX7) (N := 28) hx hb hT inX7 hown hK hP 0 rw_Model rfl 16 (by decide) (hT _ wf_X7_31) (fun _ h9 => h9) rfl dX7_isSent_1 ?_
  refine lv_iconst (v := 5) hx hb dX7_isSent_4 (by decide) ?_
  refine g_iald hx hb hK hP 8 rw_8 rfl (vpc (by decide)) 5 rfl dX7_isSent_5 ?_
  refine lv_iload_n hx hb dX7_isSent_6 rfl (lv_at hl 1 rfl) ?_
  refine lv_ishr hx hb dX7_isSent_7 ?_
  refine lv_iconst (v := 1) hx hb dX7_isSent_8 (by decide) ?_
  refine lv_iand hx hb dX7_isSent_9 ?_
  refine lv_iconst (v := 1) hx hb dX7_isSent_10 (by decide) ?_
  refine lv_icmp_ne (tgt := 18) hx hb dX7_isSent_11 (by decide) (fun c_1 => ?_) (fun c_1 => ?_)
  · have h := h.2 c_1
    refine lv_iconst (v := 0) hx hb dX7_isSent_18 (by decide) ?_
    exact W.zret (v := 0) hx hb hr rfl (fun t ht hW => ⟨⟨0, S, rfl, h, gB_of ht hP⟩, hS.F ht⟩) hS.2.2 dX7_isSent_19
  · have h := h.1 c_1
    refine lv_iconst (v := 1) hx hb dX7_isSent_14 (by decide) ?_
    refine lv_goto (tgt := 19) hx hb dX7_isSent_15 (by decide) ?_
    exact W.zret (v := 1) hx hb hr rfl (fun t ht hW => ⟨⟨1, S, rfl, h, gB_of ht hP⟩, hS.F ht⟩) hS.2.2 dX7_isSent_19

abbrev rm_X7_part : Room := { frames := 2, cells := 0, slots := 0, locals := 45 }
def p_X7_part (S : CS) (x1 : Int32) (x2 : Int32) (post : Int32 → CS → Prop) : Prop := ∀ S_1 : CS, S_1 = sti S 0 0 0 → (p_X7_isPart S_1 x1 (fun r_3 S_2 => ((r_3 = 0 → (post (-1) S_2)) ∧ (¬ (r_3 = 0) → (p_X7_in S_2 x2 0 2 (fun r_6 S_5 => ((r_6 = 0 → (post (-1) S_5)) ∧ (¬ (r_6 = 0) → ((x2 = 0 → (vp_in x1 12 ∧ (post (S_5.1 3 x1.toNatClampNeg) S_5))) ∧ (¬ (x2 = 0) → ((x2 = 1 → (vp_in (15 + x1) 21 ∧ (post (S_5.1 8 ((15 + x1).toNatClampNeg)) S_5))) ∧ (¬ (x2 = 1) → (p_X7_gives S_5 8 x1 (fun r_11 S_10 => (post r_11 S_10)))))))))))))))
set_option maxHeartbeats 4000000 in
set_option maxRecDepth 100000 in
theorem c_X7_part (l : Launch) (D : va_G) (X : XE) (hX : Inj 18 X.1) (sz : Nat) (S : CS) (x1 : Int32) (x2 : Int32) (post : Int32 → CS → Prop) (h : p_X7_part S x1 x2 post) : Met l yX7_part (Cond.code yX7_part cX7_part 3 (some .int) :: lw_gd) rm_X7_part (gPc D (tyX X) (RW X) (FXr X) (AX 18 X.1 sz) sz S [.ref (X.1 0), .int x1, .int x2]) (va_Qi post (gB D (RW X)) (AX 18 X.1 sz)) 0 0 (AX 18 X.1 sz) := by
  refine Met.ofW (cc := cX7_part) (maxL := 3) (ret := (some .int)) (by decide) rfl ?_
  intro p e s m args below meth c s₁ B hml hv
  obtain ⟨rfl, hsz, hP, hK, hF⟩ := hv
  have hx := B.exec
  have hb := B.bytes
  have hr := B.returns
  have hts := atoms_spec (ws := (Cond.code yX7_part cX7_part 3 (some .int) :: lw_gd)) B.pre
  have hT : ∀ w ∈ lw_gd, w.before _ s = true := fun w h9 => hts w (List.mem_cons_of_mem _ h9)
  have hown : s.vm.findClass RX7 = some m.cls := findClass_of_methodNamed B.named
  have hlocks := B.notSynchronized
  subst hsz
  have hS : va_S (AX 18 X.1 s.heap.size) s.heap s.heap [] := va_S.rf
  have hl := lv_entry ([.ref (X.1 0), .int x1, .int x2]) (n := 3) (Nat.le_of_ble_eq_true rfl)
  rw [lg_entry_eq]
  generalize (lg_sl ([.ref (X.1 0), .int x1, .int x2]) ++ List.replicate (3 - (lg_sl ([.ref (X.1 0), .int x1, .int x2])).length) Slot.unset).toArray = ls at hl ⊢
  have hl : lv_has ls 3 [(0, .ref (X.1 0)), (1, .int x1), (2, .int x2)] := hl
  obtain ⟨H, hH⟩ : ∃ H : Heap, H = s.heap := ⟨_, rfl⟩
  obtain ⟨locs, hlc⟩ : ∃ q : List Loc, q = [] := ⟨_, rfl⟩
  have hS : va_S (AX 18 X.1 s.heap.size) s.heap H locs := by rw [hH, hlc]; exact hS
  have hP : va_P D vwCl (RW X S) H := by rw [hH]; exact hP
  show W p l e (headSpec (Cond.code yX7_part cX7_part 3 (some .int) :: lw_gd) rm_X7_part).room s m ([.ref (X.1 0), .int x1, .int x2] : List Value).toArray below meth c s.heap [] 0 0 (MQ below (va_Qi post (gB D (RW X)) (AX 18 X.1 s.heap.size)) ([.ref (X.1 0), .int x1, .int x2] : List Value).toArray s 0 0 (AX 18 X.1 s.heap.size)) _
  suffices hgo : W p l e (headSpec (Cond.code yX7_part cX7_part 3 (some .int) :: lw_gd) rm_X7_part).room s m ([.ref (X.1 0), .int x1, .int x2] : List Value).toArray below meth c H locs 0 0 (MQ below (va_Qi post (gB D (RW X)) (AX 18 X.1 s.heap.size)) ([.ref (X.1 0), .int x1, .int x2] : List Value).toArray s 0 0 (AX 18 X.1 s.heap.size)) (F0 m 0 ls []) from by rw [hH, hlc] at hgo; exact hgo
  unfold p_X7_part at h
  refine lv_aload_n hx hb dX7_part_0 rfl (lv_at hl 0 rfl) ?_
  refine lv_iconst (v := 0) hx hb dX7_part_1 (by decide) ?_
  refine va_put (D := D) (ci := 7) (v := .int 0) (ty := .int) (C := RX7) (T := TX7) (N := 28) hx hb hT inX7 tyX7 tyX7_ok nmX7 hown hK hP (gw_D hX) hS 0 rw_Model rfl 0 (by decide) (hT _ wf_X7_68) (fun _ h9 => h9) rfl (by decide +kernel) rfl rfl (Nat.le_of_ble_eq_true rfl) dX7_part_2 (fun H locs hP _ hS => ?_)
  have hP := rw_st (j := 0) (x := 0) rfl hP
  obtain ⟨S_1, eS_1⟩ : ∃ z : CS, z = sti S 0 0 0 := ⟨_, rfl⟩
  rw [← eS_1] at hP
  have h := h S_1 eS_1
  refine lv_aload_n hx hb dX7_part_5 rfl (lv_at hl 0 rfl) ?_
  refine lv_iload_n hx hb dX7_part_6 rfl (lv_at hl 1 rfl) ?_
  refine rVi (As := [.int x1]) (rest := []) hX ⟨hx, hb, hml, hown, hT⟩ (c_X7_isPart l D X hX H.size S_1 x1 _ h) (gd_V wl_X7_139 wi_X7_isPart wv_X7_isPart wn_X7 wc_X7_isPart) rfl hd_X7_isPart ⟨rfl, rfl⟩ ⟨Nat.le_of_ble_eq_true rfl, Nat.le_of_ble_eq_true rfl⟩ (va_recv hK hP (ci := 7) (q0 := 0) rfl rw_Model) hK hP hS hF rfl hl.1 rfl (Nat.le_of_ble_eq_true rfl) dX7_part_7 ⟨Nat.zero_le _, Nat.zero_le _⟩ (fun r_3 S_2 H locs h hP hS => ?_)
  refine lv_if_eq (tgt := 22) hx hb dX7_part_10 (by decide) (fun c_4 => ?_) (fun c_4 => ?_)
  · have h := h.1 c_4
    refine lv_iconst (v := (-1)) hx hb dX7_part_22 (by decide) ?_
    exact W.iret (v := (-1)) hx hb hr (fun t ht hW => ⟨⟨(-1), S_2, rfl, h, gB_of ht hP⟩, hS.F ht⟩) hS.2.2 dX7_part_23
  · have h := h.2 c_4
    refine lv_iload_n hx hb dX7_part_13 rfl (lv_at hl 2 rfl) ?_
    refine lv_iconst (v := 0) hx hb dX7_part_14 (by decide) ?_
    refine lv_iconst (v := 2) hx hb dX7_part_15 (by decide) ?_
    refine rSi (As := [.int x2, .int 0, .int 2]) (rest := []) hX ⟨hx, hb, hml, hown, hT⟩ (c_X7_in l D X hX H.size S_2 x2 0 2 _ h) (gd_S wl_X7_72 wt_X7_in wn_X7 wc_X7_in) hd_X7_in ⟨rfl, rfl⟩ ⟨Nat.le_of_ble_eq_true rfl, Nat.le_of_ble_eq_true rfl⟩ hK hP hS hF rfl hl.1 rfl (Nat.le_of_ble_eq_true rfl) dX7_part_16 ⟨Nat.zero_le _, Nat.zero_le _⟩ (fun r_6 S_5 H locs h hP hS => ?_)
    refine lv_if_ne (tgt := 24) hx hb dX7_part_19 (by decide) (fun c_7 => ?_) (fun c_7 => ?_)
    · have h := h.2 c_7
      refine lv_iload_n hx hb dX7_part_24 rfl (lv_at hl 2 rfl) ?_
      refine lv_if_ne (tgt := 37) hx hb dX7_part_25 (by decide) (fun c_8 => ?_) (fun c_8 => ?_)
      · have h := h.2 c_8
        refine lv_iload_n hx hb dX7_part_37 rfl (lv_at hl 2 rfl) ?_
        refine lv_iconst (v := 1) hx hb dX7_part_38 (by decide) ?_
        refine lv_icmp_ne (tgt := 54) hx hb dX7_part_39 (by decide) (fun c_9 => ?_) (fun c_9 => ?_)
        · have h := h.2 c_9
          refine lv_aload_n hx hb dX7_part_54 rfl (lv_at hl 0 rfl) ?_
          refine lv_aload_n hx hb dX7_part_55 rfl (lv_at hl 0 rfl) ?_
          refine va_get (D := D) (ci := 7) (v := .ref (X.1 8)) (C := RX7) (T := TX7) (N := 28) hx hb hT inX7 hown hK hP 0 rw_Model rfl 16 (by decide) (hT _ wf_X7_31) (fun _ h9 => h9) rfl dX7_part_56 ?_
          refine lv_iload_n hx hb dX7_part_59 rfl (lv_at hl 1 rfl) ?_
          refine rVi (As := [.ref (X.1 8), .int x1]) (rest := []) hX ⟨hx, hb, hml, hown, hT⟩ (c_X7_gives l D X hX H.size S_5 8 (by decide) x1 _ h) (gd_V wl_X7_142 wi_X7_gives wv_X7_gives wn_X7 wc_X7_gives) rfl hd_X7_gives ⟨rfl, rfl⟩ ⟨Nat.le_of_ble_eq_true rfl, Nat.le_of_ble_eq_true rfl⟩ (va_recv hK hP (ci := 7) (q0 := 0) rfl rw_Model) hK hP hS hF rfl hl.1 rfl (Nat.le_of_ble_eq_true rfl) dX7_part_60 ⟨Nat.zero_le _, Nat.zero_le _⟩ (fun r_11 S_10 H locs h hP hS => ?_)
          exact W.iret (v := r_11) hx hb hr (fun t ht hW => ⟨⟨r_11, S_10, rfl, h, gB_of ht hP⟩, hS.F ht⟩) hS.2.2 dX7_part_63
        · have h := h.1 c_9
          refine lv_aload_n hx hb dX7_part_42 rfl (lv_at hl 0 rfl) ?_
          refine va_get (D := D) (ci := 7) (v := .ref (X.1 8)) (C := RX7) (T := TX7) (N := 28) hx hb hT inX7 hown hK hP 0 rw_Model rfl 16 (by decide) (hT _ wf_X7_31) (fun _ h9 => h9) rfl dX7_part_43 ?_
          refine lv_bipush (v := 15) hx hb dX7_part_46 (by decide) ?_
          refine lv_iload_n hx hb dX7_part_48 rfl (lv_at hl 1 rfl) ?_
          refine lv_iadd hx hb dX7_part_49 ?_
          obtain ⟨hi, h⟩ := h
          refine g_iald hx hb hK hP 8 rw_8 rfl hi ((15 + x1).toNatClampNeg) rfl dX7_part_50 ?_
          refine lv_goto (tgt := 63) hx hb dX7_part_51 (by decide) ?_
          exact W.iret (v := S_5.1 8 ((15 + x1).toNatClampNeg)) hx hb hr (fun t ht hW => ⟨⟨S_5.1 8 ((15 + x1).toNatClampNeg), S_5, rfl, h, gB_of ht hP⟩, hS.F ht⟩) hS.2.2 dX7_part_63
      · have h := h.1 c_8
        refine lv_aload_n hx hb dX7_part_28 rfl (lv_at hl 0 rfl) ?_
        refine va_get (D := D) (ci := 7) (v := .ref (X.1 3)) (C := RX7) (T := TX7) (N := 28) hx hb hT inX7 hown hK hP 0 rw_Model rfl 11 (by decide) (hT _ wf_X7_16) (fun _ h9 => h9) rfl dX7_part_29 ?_
        refine lv_iload_n hx hb dX7_part_32 rfl (lv_at hl 1 rfl) ?_
        obtain ⟨hi, h⟩ := h
        refine g_iald hx hb hK hP 3 rw_3 rfl hi x1.toNatClampNeg rfl dX7_part_33 ?_
        refine lv_goto (tgt := 63) hx hb dX7_part_34 (by decide) ?_
        exact W.iret (v := S_5.1 3 x1.toNatClampNeg) hx hb hr (fun t ht hW => ⟨⟨S_5.1 3 x1.toNatClampNeg, S_5, rfl, h, gB_of ht hP⟩, hS.F ht⟩) hS.2.2 dX7_part_63
    · have h := h.1 c_7
      refine lv_iconst (v := (-1)) hx hb dX7_part_22 (by decide) ?_
      exact W.iret (v := (-1)) hx hb hr (fun t ht hW => ⟨⟨(-1), S_5, rfl, h, gB_of ht hP⟩, hS.F ht⟩) hS.2.2 dX7_part_23

abbrev rm_X7_order : Room := { frames := 2, cells := 0, slots := 0, locals := 43 }
def p_X7_order (S : CS) (x1 : Int32) (x2 : Int32) (post : Int32 → CS → Prop) : Prop := ∀ S_1 : CS, S_1 = sti S 0 0 0 → (p_X7_isOrder S_1 x1 (fun r_3 S_2 => ((r_3 = 0 → (post (-1) S_2)) ∧ (¬ (r_3 = 0) → (p_X7_in S_2 x2 0 3 (fun r_6 S_5 => ((r_6 = 0 → (post (-1) S_5)) ∧ (¬ (r_6 = 0) → ((x2 = 0 → (vp_in x1 12 ∧ (post (S_5.1 5 x1.toNatClampNeg) S_5))) ∧ (¬ (x2 = 0) → ((x2 = 1 → (vp_in x1 12 ∧ (post (S_5.1 6 x1.toNatClampNeg) S_5))) ∧ (¬ (x2 = 1) → ((x2 = 2 → (vp_in x1 12 ∧ (post (S_5.1 7 x1.toNatClampNeg) S_5))) ∧ (¬ (x2 = 2) → (p_X7_isSent S_5 x1 (fun r_12 S_11 => ((r_12 = 0 → (post 0 S_11)) ∧ (¬ (r_12 = 0) → (post 1 S_11)))))))))))))))))))
set_option maxHeartbeats 4000000 in
set_option maxRecDepth 100000 in
theorem c_X7_order (l : Launch) (D : va_G) (X : XE) (hX : Inj 18 X.1) (sz : Nat) (S : CS) (x1 : Int32) (x2 : Int32) (post : Int32 → CS → Prop) (h : p_X7_order S x1 x2 post) : Met l yX7_order (Cond.code yX7_order cX7_order 3 (some .int) :: lw_gd) rm_X7_order (gPc D (tyX X) (RW X) (FXr X) (AX 18 X.1 sz) sz S [.ref (X.1 0), .int x1, .int x2]) (va_Qi post (gB D (RW X)) (AX 18 X.1 sz)) 0 0 (AX 18 X.1 sz) := by
  refine Met.ofW (cc := cX7_order) (maxL := 3) (ret := (some .int)) (by decide) rfl ?_
  intro p e s m args below meth c s₁ B hml hv
  obtain ⟨rfl, hsz, hP, hK, hF⟩ := hv
  have hx := B.exec
  have hb := B.bytes
  have hr := B.returns
  have hts := atoms_spec (ws := (Cond.code yX7_order cX7_order 3 (some .int) :: lw_gd)) B.pre
  have hT : ∀ w ∈ lw_gd, w.before _ s = true := fun w h9 => hts w (List.mem_cons_of_mem _ h9)
  have hown : s.vm.findClass RX7 = some m.cls := findClass_of_methodNamed B.named
  have hlocks := B.notSynchronized
  subst hsz
  have hS : va_S (AX 18 X.1 s.heap.size) s.heap s.heap [] := va_S.rf
  have hl := lv_entry ([.ref (X.1 0), .int x1, .int x2]) (n := 3) (Nat.le_of_ble_eq_true rfl)
  rw [lg_entry_eq]
  generalize (lg_sl ([.ref (X.1 0), .int x1, .int x2]) ++ List.replicate (3 - (lg_sl ([.ref (X.1 0), .int x1, .int x2])).length) Slot.unset).toArray = ls at hl ⊢
  have hl : lv_has ls 3 [(0, .ref (X.1 0)), (1, .int x1), (2, .int x2)] := hl
  obtain ⟨H, hH⟩ : ∃ H : Heap, H = s.heap := ⟨_, rfl⟩
  obtain ⟨locs, hlc⟩ : ∃ q : List Loc, q = [] := ⟨_, rfl⟩
  have hS : va_S (AX 18 X.1 s.heap.size) s.heap H locs := by rw [hH, hlc]; exact hS
  have hP : va_P D vwCl (RW X S) H := by rw [hH]; exact hP
  show W p l e (headSpec (Cond.code yX7_order cX7_order 3 (some .int) :: lw_gd) rm_X7_order).room s m ([.ref (X.1 0), .int x1, .int x2] : List Value).toArray below meth c s.heap [] 0 0 (MQ below (va_Qi post (gB D (RW X)) (AX 18 X.1 s.heap.size)) ([.ref (X.1 0), .int x1, .int x2] : List Value).toArray s 0 0 (AX 18 X.1 s.heap.size)) _
  suffices hgo : W p l e (headSpec (Cond.code yX7_order cX7_order 3 (some .int) :: lw_gd) rm_X7_order).room s m ([.ref (X.1 0), .int x1, .int x2] : List Value).toArray below meth c H locs 0 0 (MQ below (va_Qi post (gB D (RW X)) (AX 18 X.1 s.heap.size)) ([.ref (X.1 0), .int x1, .int x2] : List Value).toArray s 0 0 (AX 18 X.1 s.heap.size)) (F0 m 0 ls []) from by rw [hH, hlc] at hgo; exact hgo
  unfold p_X7_order at h
  refine lv_aload_n hx hb dX7_order_0 rfl (lv_at hl 0 rfl) ?_
  refine lv_iconst (v := 0) hx hb dX7_order_1 (by decide) ?_
  refine va_put (D := D) (ci := 7) (v := .int 0) (ty := .int) (C := RX7) (T := TX7) (N := 28) hx hb hT inX7 tyX7 tyX7_ok nmX7 hown hK hP (gw_D hX) hS 0 rw_Model rfl 0 (by decide) (hT _ wf_X7_68) (fun _ h9 => h9) rfl (by decide +kernel) rfl rfl (Nat.le_of_ble_eq_true rfl) dX7_order_2 (fun H locs hP _ hS => ?_)
  have hP := rw_st (j := 0) (x := 0) rfl hP
  obtain ⟨S_1, eS_1⟩ : ∃ z : CS, z = sti S 0 0 0 := ⟨_, rfl⟩
  rw [← eS_1] at hP
  have h := h S_1 eS_1
  refine lv_aload_n hx hb dX7_order_5 rfl (lv_at hl 0 rfl) ?_
  refine lv_iload_n hx hb dX7_order_6 rfl (lv_at hl 1 rfl) ?_
  refine rVi (As := [.int x1]) (rest := []) hX ⟨hx, hb, hml, hown, hT⟩ (c_X7_isOrder l D X hX H.size S_1 x1 _ h) (gd_V wl_X7_146 wi_X7_isOrder wv_X7_isOrder wn_X7 wc_X7_isOrder) rfl hd_X7_isOrder ⟨rfl, rfl⟩ ⟨Nat.le_of_ble_eq_true rfl, Nat.le_of_ble_eq_true rfl⟩ (va_recv hK hP (ci := 7) (q0 := 0) rfl rw_Model) hK hP hS hF rfl hl.1 rfl (Nat.le_of_ble_eq_true rfl) dX7_order_7 ⟨Nat.zero_le _, Nat.zero_le _⟩ (fun r_3 S_2 H locs h hP hS => ?_)
  refine lv_if_eq (tgt := 22) hx hb dX7_order_10 (by decide) (fun c_4 => ?_) (fun c_4 => ?_)
  · have h := h.1 c_4
    refine lv_iconst (v := (-1)) hx hb dX7_order_22 (by decide) ?_
    exact W.iret (v := (-1)) hx hb hr (fun t ht hW => ⟨⟨(-1), S_2, rfl, h, gB_of ht hP⟩, hS.F ht⟩) hS.2.2 dX7_order_23
  · have h := h.2 c_4
    refine lv_iload_n hx hb dX7_order_13 rfl (lv_at hl 2 rfl) ?_
    refine lv_iconst (v := 0) hx hb dX7_order_14 (by decide) ?_
    refine lv_iconst (v := 3) hx hb dX7_order_15 (by decide) ?_
    refine rSi (As := [.int x2, .int 0, .int 3]) (rest := []) hX ⟨hx, hb, hml, hown, hT⟩ (c_X7_in l D X hX H.size S_2 x2 0 3 _ h) (gd_S wl_X7_72 wt_X7_in wn_X7 wc_X7_in) hd_X7_in ⟨rfl, rfl⟩ ⟨Nat.le_of_ble_eq_true rfl, Nat.le_of_ble_eq_true rfl⟩ hK hP hS hF rfl hl.1 rfl (Nat.le_of_ble_eq_true rfl) dX7_order_16 ⟨Nat.zero_le _, Nat.zero_le _⟩ (fun r_6 S_5 H locs h hP hS => ?_)
    refine lv_if_ne (tgt := 24) hx hb dX7_order_19 (by decide) (fun c_7 => ?_) (fun c_7 => ?_)
    · have h := h.2 c_7
      refine lv_iload_n hx hb dX7_order_24 rfl (lv_at hl 2 rfl) ?_
      refine lv_if_ne (tgt := 37) hx hb dX7_order_25 (by decide) (fun c_8 => ?_) (fun c_8 => ?_)
      · have h := h.2 c_8
        refine lv_iload_n hx hb dX7_order_37 rfl (lv_at hl 2 rfl) ?_
        refine lv_iconst (v := 1) hx hb dX7_order_38 (by decide) ?_
        refine lv_icmp_ne (tgt := 51) hx hb dX7_order_39 (by decide) (fun c_9 => ?_) (fun c_9 => ?_)
        · have h := h.2 c_9
          refine lv_iload_n hx hb dX7_order_51 rfl (lv_at hl 2 rfl) ?_
          refine lv_iconst (v := 2) hx hb dX7_order_52 (by decide) ?_
          refine lv_icmp_ne (tgt := 65) hx hb dX7_order_53 (by decide) (fun c_10 => ?_) (fun c_10 => ?_)
          · have h := h.2 c_10
            refine lv_aload_n hx hb dX7_order_65 rfl (lv_at hl 0 rfl) ?_
            refine lv_iload_n hx hb dX7_order_66 rfl (lv_at hl 1 rfl) ?_
            refine rVi (As := [.int x1]) (rest := []) hX ⟨hx, hb, hml, hown, hT⟩ (c_X7_isSent l D X hX H.size S_5 x1 _ h) (gd_V wl_X7_149 wi_X7_isSent wv_X7_isSent wn_X7 wc_X7_isSent) rfl hd_X7_isSent ⟨rfl, rfl⟩ ⟨Nat.le_of_ble_eq_true rfl, Nat.le_of_ble_eq_true rfl⟩ (va_recv hK hP (ci := 7) (q0 := 0) rfl rw_Model) hK hP hS hF rfl hl.1 rfl (Nat.le_of_ble_eq_true rfl) dX7_order_67 ⟨Nat.zero_le _, Nat.zero_le _⟩ (fun r_12 S_11 H locs h hP hS => ?_)
            refine lv_if_eq (tgt := 77) hx hb dX7_order_70 (by decide) (fun c_13 => ?_) (fun c_13 => ?_)
            · have h := h.1 c_13
              refine lv_iconst (v := 0) hx hb dX7_order_77 (by decide) ?_
              exact W.iret (v := 0) hx hb hr (fun t ht hW => ⟨⟨0, S_11, rfl, h, gB_of ht hP⟩, hS.F ht⟩) hS.2.2 dX7_order_78
            · have h := h.2 c_13
              refine lv_iconst (v := 1) hx hb dX7_order_73 (by decide) ?_
              refine lv_goto (tgt := 78) hx hb dX7_order_74 (by decide) ?_
              exact W.iret (v := 1) hx hb hr (fun t ht hW => ⟨⟨1, S_11, rfl, h, gB_of ht hP⟩, hS.F ht⟩) hS.2.2 dX7_order_78
          · have h := h.1 c_10
            refine lv_aload_n hx hb dX7_order_56 rfl (lv_at hl 0 rfl) ?_
            refine va_get (D := D) (ci := 7) (v := .ref (X.1 7)) (C := RX7) (T := TX7) (N := 28) hx hb hT inX7 hown hK hP 0 rw_Model rfl 15 (by decide) (hT _ wf_X7_28) (fun _ h9 => h9) rfl dX7_order_57 ?_
            refine lv_iload_n hx hb dX7_order_60 rfl (lv_at hl 1 rfl) ?_
            obtain ⟨hi, h⟩ := h
            refine g_iald hx hb hK hP 7 rw_7 rfl hi x1.toNatClampNeg rfl dX7_order_61 ?_
            refine lv_goto (tgt := 78) hx hb dX7_order_62 (by decide) ?_
            exact W.iret (v := S_5.1 7 x1.toNatClampNeg) hx hb hr (fun t ht hW => ⟨⟨S_5.1 7 x1.toNatClampNeg, S_5, rfl, h, gB_of ht hP⟩, hS.F ht⟩) hS.2.2 dX7_order_78
        · have h := h.1 c_9
          refine lv_aload_n hx hb dX7_order_42 rfl (lv_at hl 0 rfl) ?_
          refine va_get (D := D) (ci := 7) (v := .ref (X.1 6)) (C := RX7) (T := TX7) (N := 28) hx hb hT inX7 hown hK hP 0 rw_Model rfl 14 (by decide) (hT _ wf_X7_25) (fun _ h9 => h9) rfl dX7_order_43 ?_
          refine lv_iload_n hx hb dX7_order_46 rfl (lv_at hl 1 rfl) ?_
          obtain ⟨hi, h⟩ := h
          refine g_iald hx hb hK hP 6 rw_6 rfl hi x1.toNatClampNeg rfl dX7_order_47 ?_
          refine lv_goto (tgt := 78) hx hb dX7_order_48 (by decide) ?_
          exact W.iret (v := S_5.1 6 x1.toNatClampNeg) hx hb hr (fun t ht hW => ⟨⟨S_5.1 6 x1.toNatClampNeg, S_5, rfl, h, gB_of ht hP⟩, hS.F ht⟩) hS.2.2 dX7_order_78
      · have h := h.1 c_8
        refine lv_aload_n hx hb dX7_order_28 rfl (lv_at hl 0 rfl) ?_
        refine va_get (D := D) (ci := 7) (v := .ref (X.1 5)) (C := RX7) (T := TX7) (N := 28) hx hb hT inX7 hown hK hP 0 rw_Model rfl 13 (by decide) (hT _ wf_X7_22) (fun _ h9 => h9) rfl dX7_order_29 ?_
        refine lv_iload_n hx hb dX7_order_32 rfl (lv_at hl 1 rfl) ?_
        obtain ⟨hi, h⟩ := h
        refine g_iald hx hb hK hP 5 rw_5 rfl hi x1.toNatClampNeg rfl dX7_order_33 ?_
        refine lv_goto (tgt := 78) hx hb dX7_order_34 (by decide) ?_
        exact W.iret (v := S_5.1 5 x1.toNatClampNeg) hx hb hr (fun t ht hW => ⟨⟨S_5.1 5 x1.toNatClampNeg, S_5, rfl, h, gB_of ht hP⟩, hS.F ht⟩) hS.2.2 dX7_order_78
    · have h := h.1 c_7
      refine lv_iconst (v := (-1)) hx hb dX7_order_22 (by decide) ?_
      exact W.iret (v := (-1)) hx hb hr (fun t ht hW => ⟨⟨(-1), S_5, rfl, h, gB_of ht hP⟩, hS.F ht⟩) hS.2.2 dX7_order_23

abbrev rm_X7_side : Room := { frames := 1, cells := 0, slots := 0, locals := 22 }
def p_X7_side (S : CS) (x1 : Int32) (post : Int32 → CS → Prop) : Prop := ∀ S_1 : CS, S_1 = sti S 0 0 0 → (p_X7_in S_1 x1 0 7 (fun r_3 S_2 => ((r_3 = 0 → (post (-1) S_2)) ∧ (¬ (r_3 = 0) → (vp_in (7 + x1) 21 ∧ (post (S_2.1 8 ((7 + x1).toNatClampNeg)) S_2))))))
set_option maxHeartbeats 4000000 in
set_option maxRecDepth 100000 in
theorem c_X7_side (l : Launch) (D : va_G) (X : XE) (hX : Inj 18 X.1) (sz : Nat) (S : CS) (x1 : Int32) (post : Int32 → CS → Prop) (h : p_X7_side S x1 post) : Met l yX7_side (Cond.code yX7_side cX7_side 2 (some .int) :: lw_gd) rm_X7_side (gPc D (tyX X) (RW X) (FXr X) (AX 18 X.1 sz) sz S [.ref (X.1 0), .int x1]) (va_Qi post (gB D (RW X)) (AX 18 X.1 sz)) 0 0 (AX 18 X.1 sz) := by
  refine Met.ofW (cc := cX7_side) (maxL := 2) (ret := (some .int)) (by decide) rfl ?_
  intro p e s m args below meth c s₁ B hml hv
  obtain ⟨rfl, hsz, hP, hK, hF⟩ := hv
  have hx := B.exec
  have hb := B.bytes
  have hr := B.returns
  have hts := atoms_spec (ws := (Cond.code yX7_side cX7_side 2 (some .int) :: lw_gd)) B.pre
  have hT : ∀ w ∈ lw_gd, w.before _ s = true := fun w h9 => hts w (List.mem_cons_of_mem _ h9)
  have hown : s.vm.findClass RX7 = some m.cls := findClass_of_methodNamed B.named
  have hlocks := B.notSynchronized
  subst hsz
  have hS : va_S (AX 18 X.1 s.heap.size) s.heap s.heap [] := va_S.rf
  have hl := lv_entry ([.ref (X.1 0), .int x1]) (n := 2) (Nat.le_of_ble_eq_true rfl)
  rw [lg_entry_eq]
  generalize (lg_sl ([.ref (X.1 0), .int x1]) ++ List.replicate (2 - (lg_sl ([.ref (X.1 0), .int x1])).length) Slot.unset).toArray = ls at hl ⊢
  have hl : lv_has ls 2 [(0, .ref (X.1 0)), (1, .int x1)] := hl
  obtain ⟨H, hH⟩ : ∃ H : Heap, H = s.heap := ⟨_, rfl⟩
  obtain ⟨locs, hlc⟩ : ∃ q : List Loc, q = [] := ⟨_, rfl⟩
  have hS : va_S (AX 18 X.1 s.heap.size) s.heap H locs := by rw [hH, hlc]; exact hS
  have hP : va_P D vwCl (RW X S) H := by rw [hH]; exact hP
  show W p l e (headSpec (Cond.code yX7_side cX7_side 2 (some .int) :: lw_gd) rm_X7_side).room s m ([.ref (X.1 0), .int x1] : List Value).toArray below meth c s.heap [] 0 0 (MQ below (va_Qi post (gB D (RW X)) (AX 18 X.1 s.heap.size)) ([.ref (X.1 0), .int x1] : List Value).toArray s 0 0 (AX 18 X.1 s.heap.size)) _
  suffices hgo : W p l e (headSpec (Cond.code yX7_side cX7_side 2 (some .int) :: lw_gd) rm_X7_side).room s m ([.ref (X.1 0), .int x1] : List Value).toArray below meth c H locs 0 0 (MQ below (va_Qi post (gB D (RW X)) (AX 18 X.1 s.heap.size)) ([.ref (X.1 0), .int x1] : List Value).toArray s 0 0 (AX 18 X.1 s.heap.size)) (F0 m 0 ls []) from by rw [hH, hlc] at hgo; exact hgo
  unfold p_X7_side at h
  refine lv_aload_n hx hb dX7_side_0 rfl (lv_at hl 0 rfl) ?_
  refine lv_iconst (v := 0) hx hb dX7_side_1 (by decide) ?_
  refine va_put (D := D) (ci := 7) (v := .int 0) (ty := .int) (C := RX7) (T := TX7) (N := 28) hx hb hT inX7 tyX7 tyX7_ok nmX7 hown hK hP (gw_D hX) hS 0 rw_Model rfl 0 (by decide) (hT _ wf_X7_68) (fun _ h9 => h9) rfl (by decide +kernel) rfl rfl (Nat.le_of_ble_eq_true rfl) dX7_side_2 (fun H locs hP _ hS => ?_)
  have hP := rw_st (j := 0) (x := 0) rfl hP
  obtain ⟨S_1, eS_1⟩ : ∃ z : CS, z = sti S 0 0 0 := ⟨_, rfl⟩
  rw [← eS_1] at hP
  have h := h S_1 eS_1
  refine lv_iload_n hx hb dX7_side_5 rfl (lv_at hl 1 rfl) ?_
  refine lv_iconst (v := 0) hx hb dX7_side_6 (by decide) ?_
  refine lv_bipush (v := 7) hx hb dX7_side_7 (by decide) ?_
  refine rSi (As := [.int x1, .int 0, .int 7]) (rest := []) hX ⟨hx, hb, hml, hown, hT⟩ (c_X7_in l D X hX H.size S_1 x1 0 7 _ h) (gd_S wl_X7_72 wt_X7_in wn_X7 wc_X7_in) hd_X7_in ⟨rfl, rfl⟩ ⟨Nat.le_of_ble_eq_true rfl, Nat.le_of_ble_eq_true rfl⟩ hK hP hS hF rfl hl.1 rfl (Nat.le_of_ble_eq_true rfl) dX7_side_9 ⟨Nat.zero_le _, Nat.zero_le _⟩ (fun r_3 S_2 H locs h hP hS => ?_)
  refine lv_if_eq (tgt := 27) hx hb dX7_side_12 (by decide) (fun c_4 => ?_) (fun c_4 => ?_)
  · have h := h.1 c_4
    refine lv_iconst (v := (-1)) hx hb dX7_side_27 (by decide) ?_
    exact W.iret (v := (-1)) hx hb hr (fun t ht hW => ⟨⟨(-1), S_2, rfl, h, gB_of ht hP⟩, hS.F ht⟩) hS.2.2 dX7_side_28
  · have h := h.2 c_4
    refine lv_aload_n hx hb dX7_side_15 rfl (lv_at hl 0 rfl) ?_
    refine va_get (D := D) (ci := 7) (v := .ref (X.1 8)) (C := RX7) (T := TX7) (N := 28) hx hb hT inX7 hown hK hP 0 rw_Model rfl 16 (by decide) (hT _ wf_X7_31) (fun _ h9 => h9) rfl dX7_side_16 ?_
    refine lv_bipush (v := 7) hx hb dX7_side_19 (by decide) ?_
    refine lv_iload_n hx hb dX7_side_21 rfl (lv_at hl 1 rfl) ?_
    refine lv_iadd hx hb dX7_side_22 ?_
    obtain ⟨hi, h⟩ := h
    refine g_iald hx hb hK hP 8 rw_8 rfl hi ((7 + x1).toNatClampNeg) rfl dX7_side_23 ?_
    refine lv_goto (tgt := 28) hx hb dX7_side_24 (by decide) ?_
    exact W.iret (v := S_2.1 8 ((7 + x1).toNatClampNeg)) hx hb hr (fun t ht hW => ⟨⟨S_2.1 8 ((7 + x1).toNatClampNeg), S_2, rfl, h, gB_of ht hP⟩, hS.F ht⟩) hS.2.2 dX7_side_28

abbrev rm_X7_now : Room := { frames := 1, cells := 0, slots := 0, locals := 22 }
def p_X7_now (S : CS) (x1 : Int32) (post : Int32 → CS → Prop) : Prop := ∀ S_1 : CS, S_1 = sti S 0 0 0 → (p_X7_in S_1 x1 0 6 (fun r_3 S_2 => ((r_3 = 0 → ((x1 = 7 → (post (S_2.1 0 21) S_2)) ∧ (¬ (x1 = 7) → (post (-1) S_2)))) ∧ (¬ (r_3 = 0) → (vp_in x1 21 ∧ (post (S_2.1 8 x1.toNatClampNeg) S_2))))))
set_option maxHeartbeats 4000000 in
set_option maxRecDepth 100000 in
theorem c_X7_now (l : Launch) (D : va_G) (X : XE) (hX : Inj 18 X.1) (sz : Nat) (S : CS) (x1 : Int32) (post : Int32 → CS → Prop) (h : p_X7_now S x1 post) : Met l yX7_now (Cond.code yX7_now cX7_now 2 (some .int) :: lw_gd) rm_X7_now (gPc D (tyX X) (RW X) (FXr X) (AX 18 X.1 sz) sz S [.ref (X.1 0), .int x1]) (va_Qi post (gB D (RW X)) (AX 18 X.1 sz)) 0 0 (AX 18 X.1 sz) := by
  refine Met.ofW (cc := cX7_now) (maxL := 2) (ret := (some .int)) (by decide) rfl ?_
  intro p e s m args below meth c s₁ B hml hv
  obtain ⟨rfl, hsz, hP, hK, hF⟩ := hv
  have hx := B.exec
  have hb := B.bytes
  have hr := B.returns
  have hts := atoms_spec (ws := (Cond.code yX7_now cX7_now 2 (some .int) :: lw_gd)) B.pre
  have hT : ∀ w ∈ lw_gd, w.before _ s = true := fun w h9 => hts w (List.mem_cons_of_mem _ h9)
  have hown : s.vm.findClass RX7 = some m.cls := findClass_of_methodNamed B.named
  have hlocks := B.notSynchronized
  subst hsz
  have hS : va_S (AX 18 X.1 s.heap.size) s.heap s.heap [] := va_S.rf
  have hl := lv_entry ([.ref (X.1 0), .int x1]) (n := 2) (Nat.le_of_ble_eq_true rfl)
  rw [lg_entry_eq]
  generalize (lg_sl ([.ref (X.1 0), .int x1]) ++ List.replicate (2 - (lg_sl ([.ref (X.1 0), .int x1])).length) Slot.unset).toArray = ls at hl ⊢
  have hl : lv_has ls 2 [(0, .ref (X.1 0)), (1, .int x1)] := hl
  obtain ⟨H, hH⟩ : ∃ H : Heap, H = s.heap := ⟨_, rfl⟩
  obtain ⟨locs, hlc⟩ : ∃ q : List Loc, q = [] := ⟨_, rfl⟩
  have hS : va_S (AX 18 X.1 s.heap.size) s.heap H locs := by rw [hH, hlc]; exact hS
  have hP : va_P D vwCl (RW X S) H := by rw [hH]; exact hP
  show W p l e (headSpec (Cond.code yX7_now cX7_now 2 (some .int) :: lw_gd) rm_X7_now).room s m ([.ref (X.1 0), .int x1] : List Value).toArray below meth c s.heap [] 0 0 (MQ below (va_Qi post (gB D (RW X)) (AX 18 X.1 s.heap.size)) ([.ref (X.1 0), .int x1] : List Value).toArray s 0 0 (AX 18 X.1 s.heap.size)) _
  suffices hgo : W p l e (headSpec (Cond.code yX7_now cX7_now 2 (some .int) :: lw_gd) rm_X7_now).room s m ([.ref (X.1 0), .int x1] : List Value).toArray below meth c H locs 0 0 (MQ below (va_Qi post (gB D (RW X)) (AX 18 X.1 s.heap.size)) ([.ref (X.1 0), .int x1] : List Value).toArray s 0 0 (AX 18 X.1 s.heap.size)) (F0 m 0 ls []) from by rw [hH, hlc] at hgo; exact hgo
  unfold p_X7_now at h
  refine lv_aload_n hx hb dX7_now_0 rfl (lv_at hl 0 rfl) ?_
  refine lv_iconst (v := 0) hx hb dX7_now_1 (by decide) ?_
  refine va_put (D := D) (ci := 7) (v := .int 0) (ty := .int) (C := RX7) (T := TX7) (N := 28) hx hb hT inX7 tyX7 tyX7_ok nmX7 hown hK hP (gw_D hX) hS 0 rw_Model rfl 0 (by decide) (hT _ wf_X7_68) (fun _ h9 => h9) rfl (by decide +kernel) rfl rfl (Nat.le_of_ble_eq_true rfl) dX7_now_2 (fun H locs hP _ hS => ?_)
  have hP := rw_st (j := 0) (x := 0) rfl hP
  obtain ⟨S_1, eS_1⟩ : ∃ z : CS, z = sti S 0 0 0 := ⟨_, rfl⟩
  rw [← eS_1] at hP
  have h := h S_1 eS_1
  refine lv_iload_n hx hb dX7_now_5 rfl (lv_at hl 1 rfl) ?_
  refine lv_iconst (v := 0) hx hb dX7_now_6 (by decide) ?_
  refine lv_bipush (v := 6) hx hb dX7_now_7 (by decide) ?_
  refine rSi (As := [.int x1, .int 0, .int 6]) (rest := []) hX ⟨hx, hb, hml, hown, hT⟩ (c_X7_in l D X hX H.size S_1 x1 0 6 _ h) (gd_S wl_X7_72 wt_X7_in wn_X7 wc_X7_in) hd_X7_in ⟨rfl, rfl⟩ ⟨Nat.le_of_ble_eq_true rfl, Nat.le_of_ble_eq_true rfl⟩ hK hP hS hF rfl hl.1 rfl (Nat.le_of_ble_eq_true rfl) dX7_now_9 ⟨Nat.zero_le _, Nat.zero_le _⟩ (fun r_3 S_2 H locs h hP hS => ?_)
  refine lv_if_eq (tgt := 24) hx hb dX7_now_12 (by decide) (fun c_4 => ?_) (fun c_4 => ?_)
  · have h := h.1 c_4
    refine lv_iload_n hx hb dX7_now_24 rfl (lv_at hl 1 rfl) ?_
    refine lv_bipush (v := 7) hx hb dX7_now_25 (by decide) ?_
    refine lv_icmp_ne (tgt := 37) hx hb dX7_now_27 (by decide) (fun c_5 => ?_) (fun c_5 => ?_)
    · have h := h.2 c_5
      refine lv_iconst (v := (-1)) hx hb dX7_now_37 (by decide) ?_
      exact W.iret (v := (-1)) hx hb hr (fun t ht hW => ⟨⟨(-1), S_2, rfl, h, gB_of ht hP⟩, hS.F ht⟩) hS.2.2 dX7_now_38
    · have h := h.1 c_5
      refine lv_aload_n hx hb dX7_now_30 rfl (lv_at hl 0 rfl) ?_
      refine va_get (D := D) (ci := 7) (v := .int (S_2.1 0 21)) (C := RX7) (T := TX7) (N := 28) hx hb hT inX7 hown hK hP 0 rw_Model rfl 21 (by decide) (hT _ wf_X7_133) (fun _ h9 => h9) rfl dX7_now_31 ?_
      refine lv_goto (tgt := 38) hx hb dX7_now_34 (by decide) ?_
      exact W.iret (v := S_2.1 0 21) hx hb hr (fun t ht hW => ⟨⟨S_2.1 0 21, S_2, rfl, h, gB_of ht hP⟩, hS.F ht⟩) hS.2.2 dX7_now_38
  · have h := h.2 c_4
    refine lv_aload_n hx hb dX7_now_15 rfl (lv_at hl 0 rfl) ?_
    refine va_get (D := D) (ci := 7) (v := .ref (X.1 8)) (C := RX7) (T := TX7) (N := 28) hx hb hT inX7 hown hK hP 0 rw_Model rfl 16 (by decide) (hT _ wf_X7_31) (fun _ h9 => h9) rfl dX7_now_16 ?_
    refine lv_iload_n hx hb dX7_now_19 rfl (lv_at hl 1 rfl) ?_
    obtain ⟨hi, h⟩ := h
    refine g_iald hx hb hK hP 8 rw_8 rfl hi x1.toNatClampNeg rfl dX7_now_20 ?_
    refine lv_goto (tgt := 38) hx hb dX7_now_21 (by decide) ?_
    exact W.iret (v := S_2.1 8 x1.toNatClampNeg) hx hb hr (fun t ht hW => ⟨⟨S_2.1 8 x1.toNatClampNeg, S_2, rfl, h, gB_of ht hP⟩, hS.F ht⟩) hS.2.2 dX7_now_38

abbrev rm_X7_notes : Room := { frames := 0, cells := 0, slots := 0, locals := 0 }
def q_X7_notes_47  (post : CS → Prop) : Nat → Int32 → CS → Prop
  | 0, _, _ => False
  | n9 + 1, y1, S => (21 ≤ y1 → (∀ u_3 : Int32, u_3 = ((S.1 0 21) + 1) → (∀ S_4 : CS, S_4 = sti S 0 21 u_3 → (post S_4)))) ∧ (¬ (21 ≤ y1) → (vp_in y1 21 ∧ (∀ u_5 : Int32, u_5 = S.1 8 y1.toNatClampNeg → (vp_in ((21 * (S.1 0 21)) + y1) 210 ∧ (∀ S_6 : CS, S_6 = sti S 12 (((21 * (S.1 0 21)) + y1).toNatClampNeg) u_5 → (∀ x1_7 : Int32, x1_7 = y1 + 1 → (q_X7_notes_47 post n9 x1_7 S_6)))))))
def q_X7_notes_11  (post : CS → Prop) : Nat → Int32 → CS → Prop
  | 0, _, _ => False
  | n9 + 1, y1, S => (189 ≤ y1 → (∀ S_9 : CS, S_9 = sti S 0 21 9 → (∃ n, q_X7_notes_47 post n 0 S_9))) ∧ (¬ (189 ≤ y1) → (vp_in (y1 + 21) 210 ∧ (∀ u_10 : Int32, u_10 = S.1 12 ((y1 + 21).toNatClampNeg) → (vp_in y1 210 ∧ (∀ S_11 : CS, S_11 = sti S 12 y1.toNatClampNeg u_10 → (∀ x1_12 : Int32, x1_12 = y1 + 1 → (q_X7_notes_11 post n9 x1_12 S_11)))))))
def p_X7_notes (S : CS)  (post : CS → Prop) : Prop := ((S.1 0 21) = 10 → (∃ n, q_X7_notes_11 post n 0 S)) ∧ (¬ ((S.1 0 21) = 10) → (∃ n, q_X7_notes_47 post n 0 S))
set_option maxHeartbeats 4000000 in
set_option maxRecDepth 100000 in
theorem c_X7_notes (l : Launch) (D : va_G) (X : XE) (hX : Inj 18 X.1) (sz : Nat) (S : CS)  (post : CS → Prop) (h : p_X7_notes S  post) : Met l yX7_notes (Cond.code yX7_notes cX7_notes 2 none :: lw_gd) rm_X7_notes (gPc D (tyX X) (RW X) (FXr X) (AX 18 X.1 sz) sz S [.ref (X.1 0)]) (va_Qv post (gB D (RW X)) (AX 18 X.1 sz)) 0 0 (AX 18 X.1 sz) := by
  refine Met.ofW (cc := cX7_notes) (maxL := 2) (ret := none) (by decide) rfl ?_
  intro p e s m args below meth c s₁ B hml hv
  obtain ⟨rfl, hsz, hP, hK, hF⟩ := hv
  have hx := B.exec
  have hb := B.bytes
  have hr := B.returns
  have hts := atoms_spec (ws := (Cond.code yX7_notes cX7_notes 2 none :: lw_gd)) B.pre
  have hT : ∀ w ∈ lw_gd, w.before _ s = true := fun w h9 => hts w (List.mem_cons_of_mem _ h9)
  have hown : s.vm.findClass RX7 = some m.cls := findClass_of_methodNamed B.named
  have hlocks := B.notSynchronized
  subst hsz
  have hS : va_S (AX 18 X.1 s.heap.size) s.heap s.heap [] := va_S.rf
  have W47 : ∀ n1 : Nat, ∀ (y1 : Int32) (S : CS) (H : Heap) (locs : List Loc) (ls : Array Slot), va_P D vwCl (RW X S) H → va_S (AX 18 X.1 s.heap.size) s.heap H locs → lv_has ls 2 [(0, .ref (X.1 0)), (1, .int y1)] → q_X7_notes_47 post n1 y1 S → W p l e (headSpec (Cond.code yX7_notes cX7_notes 2 none :: lw_gd) rm_X7_notes).room s m ([.ref (X.1 0)] : List Value).toArray below meth c H locs 0 0 (MQ below (va_Qv post (gB D (RW X)) (AX 18 X.1 s.heap.size)) ([.ref (X.1 0)] : List Value).toArray s 0 0 (AX 18 X.1 s.heap.size)) (F0 m 47 ls []) := by
    intro n1
    induction n1 with
    | zero => intro y1 S H locs ls hP hS hl h; exact h.elim
    | succ n9 ih =>
      intro y1 S H locs ls hP hS hl h
      rw [q_X7_notes_47] at h
      refine lv_iload_n hx hb dX7_notes_47 rfl (lv_at hl 1 rfl) ?_
      refine lv_bipush (v := 21) hx hb dX7_notes_48 (by decide) ?_
      refine lv_icmp_ge (tgt := 79) hx hb dX7_notes_50 (by decide) (fun c_2 => ?_) (fun c_2 => ?_)
      · have h := h.1 c_2
        refine lv_aload_n hx hb dX7_notes_79 rfl (lv_at hl 0 rfl) ?_
        refine lv_dup hx hb dX7_notes_80 rfl ?_
        refine va_get (D := D) (ci := 7) (v := .int (S.1 0 21)) (C := RX7) (T := TX7) (N := 28) hx hb hT inX7 hown hK hP 0 rw_Model rfl 21 (by decide) (hT _ wf_X7_133) (fun _ h9 => h9) rfl dX7_notes_81 ?_
        refine lv_iconst (v := 1) hx hb dX7_notes_84 (by decide) ?_
        refine lv_iadd hx hb dX7_notes_85 ?_
        refine lv_topi (fun u_3 eu_3 => ?_)
        have h := h u_3 eu_3
        refine va_put (D := D) (ci := 7) (v := .int u_3) (ty := .int) (C := RX7) (T := TX7) (N := 28) hx hb hT inX7 tyX7 tyX7_ok nmX7 hown hK hP (gw_D hX) hS 0 rw_Model rfl 21 (by decide) (hT _ wf_X7_133) (fun _ h9 => h9) rfl (by decide +kernel) rfl rfl (Nat.le_of_ble_eq_true rfl) dX7_notes_86 (fun H locs hP _ hS => ?_)
        have hP := rw_st (j := 21) (x := u_3) rfl hP
        obtain ⟨S_4, eS_4⟩ : ∃ z : CS, z = sti S 0 21 u_3 := ⟨_, rfl⟩
        rw [← eS_4] at hP
        have h := h S_4 eS_4
        exact W.vret hx hb hr (fun t ht hW => ⟨⟨S_4, rfl, h, gB_of ht hP⟩, hS.F ht⟩) hS.2.2 dX7_notes_89
      · have h := h.2 c_2
        refine lv_aload_n hx hb dX7_notes_53 rfl (lv_at hl 0 rfl) ?_
        refine va_get (D := D) (ci := 7) (v := .ref (X.1 12)) (C := RX7) (T := TX7) (N := 28) hx hb hT inX7 hown hK hP 0 rw_Model rfl 20 (by decide) (hT _ wf_X7_44) (fun _ h9 => h9) rfl dX7_notes_54 ?_
        refine lv_bipush (v := 21) hx hb dX7_notes_57 (by decide) ?_
        refine lv_aload_n hx hb dX7_notes_59 rfl (lv_at hl 0 rfl) ?_
        refine va_get (D := D) (ci := 7) (v := .int (S.1 0 21)) (C := RX7) (T := TX7) (N := 28) hx hb hT inX7 hown hK hP 0 rw_Model rfl 21 (by decide) (hT _ wf_X7_133) (fun _ h9 => h9) rfl dX7_notes_60 ?_
        refine lv_imul hx hb dX7_notes_63 ?_
        refine lv_iload_n hx hb dX7_notes_64 rfl (lv_at hl 1 rfl) ?_
        refine lv_iadd hx hb dX7_notes_65 ?_
        refine lv_aload_n hx hb dX7_notes_66 rfl (lv_at hl 0 rfl) ?_
        refine va_get (D := D) (ci := 7) (v := .ref (X.1 8)) (C := RX7) (T := TX7) (N := 28) hx hb hT inX7 hown hK hP 0 rw_Model rfl 16 (by decide) (hT _ wf_X7_31) (fun _ h9 => h9) rfl dX7_notes_67 ?_
        refine lv_iload_n hx hb dX7_notes_70 rfl (lv_at hl 1 rfl) ?_
        obtain ⟨hi, h⟩ := h
        refine g_iald hx hb hK hP 8 rw_8 rfl hi y1.toNatClampNeg rfl dX7_notes_71 ?_
        refine lv_topi (fun u_5 eu_5 => ?_)
        have h := h u_5 eu_5
        obtain ⟨hi, h⟩ := h
        refine g_iast hx hb hK hP (gw_D hX) hS 12 rw_12 rfl hi (((21 * (S.1 0 21)) + y1).toNatClampNeg) rfl dX7_notes_72 (fun H locs hP hS => ?_)
        have hP := rw_st (j := ((21 * (S.1 0 21)) + y1).toNatClampNeg) (x := u_5) rfl hP
        obtain ⟨S_6, eS_6⟩ : ∃ z : CS, z = sti S 12 (((21 * (S.1 0 21)) + y1).toNatClampNeg) u_5 := ⟨_, rfl⟩
        rw [← eS_6] at hP
        have h := h S_6 eS_6
        obtain ⟨x1_7, ex1_7⟩ : ∃ z : Int32, z = y1 + 1 := ⟨_, rfl⟩
        refine lv_iinc (v := x1_7) (lv' := [(1, .int x1_7), (0, .ref (X.1 0))]) hx hb dX7_notes_73 hl (k := 1) rfl (by rw [ex1_7]; rfl) (by decide) rfl (fun ls hl => ?_)
        have h := h x1_7 ex1_7
        refine lv_goto (tgt := 47) hx hb dX7_notes_76 (by decide) ?_
        exact ih x1_7 S_6 H locs ls hP hS (lv_sub hl [1, 0] rfl) h
  have W11 : ∀ n1 : Nat, ∀ (y1 : Int32) (S : CS) (H : Heap) (locs : List Loc) (ls : Array Slot), va_P D vwCl (RW X S) H → va_S (AX 18 X.1 s.heap.size) s.heap H locs → lv_has ls 2 [(0, .ref (X.1 0)), (1, .int y1)] → q_X7_notes_11 post n1 y1 S → W p l e (headSpec (Cond.code yX7_notes cX7_notes 2 none :: lw_gd) rm_X7_notes).room s m ([.ref (X.1 0)] : List Value).toArray below meth c H locs 0 0 (MQ below (va_Qv post (gB D (RW X)) (AX 18 X.1 s.heap.size)) ([.ref (X.1 0)] : List Value).toArray s 0 0 (AX 18 X.1 s.heap.size)) (F0 m 11 ls []) := by
    intro n1
    induction n1 with
    | zero => intro y1 S H locs ls hP hS hl h; exact h.elim
    | succ n9 ih =>
      intro y1 S H locs ls hP hS hl h
      rw [q_X7_notes_11] at h
      refine lv_iload_n hx hb dX7_notes_11 rfl (lv_at hl 1 rfl) ?_
      refine lv_sipush (v := 189) hx hb dX7_notes_12 (by decide) ?_
      refine lv_icmp_ge (tgt := 39) hx hb dX7_notes_15 (by decide) (fun c_8 => ?_) (fun c_8 => ?_)
      · have h := h.1 c_8
        refine lv_aload_n hx hb dX7_notes_39 rfl (lv_at hl 0 rfl) ?_
        refine lv_bipush (v := 9) hx hb dX7_notes_40 (by decide) ?_
        refine va_put (D := D) (ci := 7) (v := .int 9) (ty := .int) (C := RX7) (T := TX7) (N := 28) hx hb hT inX7 tyX7 tyX7_ok nmX7 hown hK hP (gw_D hX) hS 0 rw_Model rfl 21 (by decide) (hT _ wf_X7_133) (fun _ h9 => h9) rfl (by decide +kernel) rfl rfl (Nat.le_of_ble_eq_true rfl) dX7_notes_42 (fun H locs hP _ hS => ?_)
        have hP := rw_st (j := 21) (x := 9) rfl hP
        obtain ⟨S_9, eS_9⟩ : ∃ z : CS, z = sti S 0 21 9 := ⟨_, rfl⟩
        rw [← eS_9] at hP
        have h := h S_9 eS_9
        refine lv_iconst (v := 0) hx hb dX7_notes_45 (by decide) ?_
        refine lv_istore_n (lv' := [(1, .int 0), (0, .ref (X.1 0))]) hx hb dX7_notes_46 rfl hl (by decide) rfl (fun ls hl => ?_)
        obtain ⟨n1, h⟩ := h
        exact W47  n1 0 S_9 H locs ls hP hS (lv_sub hl [1, 0] rfl) h
      · have h := h.2 c_8
        refine lv_aload_n hx hb dX7_notes_18 rfl (lv_at hl 0 rfl) ?_
        refine va_get (D := D) (ci := 7) (v := .ref (X.1 12)) (C := RX7) (T := TX7) (N := 28) hx hb hT inX7 hown hK hP 0 rw_Model rfl 20 (by decide) (hT _ wf_X7_44) (fun _ h9 => h9) rfl dX7_notes_19 ?_
        refine lv_iload_n hx hb dX7_notes_22 rfl (lv_at hl 1 rfl) ?_
        refine lv_aload_n hx hb dX7_notes_23 rfl (lv_at hl 0 rfl) ?_
        refine va_get (D := D) (ci := 7) (v := .ref (X.1 12)) (C := RX7) (T := TX7) (N := 28) hx hb hT inX7 hown hK hP 0 rw_Model rfl 20 (by decide) (hT _ wf_X7_44) (fun _ h9 => h9) rfl dX7_notes_24 ?_
        refine lv_iload_n hx hb dX7_notes_27 rfl (lv_at hl 1 rfl) ?_
        refine lv_bipush (v := 21) hx hb dX7_notes_28 (by decide) ?_
        refine lv_iadd hx hb dX7_notes_30 ?_
        obtain ⟨hi, h⟩ := h
        refine g_iald hx hb hK hP 12 rw_12 rfl hi ((y1 + 21).toNatClampNeg) rfl dX7_notes_31 ?_
        refine lv_topi (fun u_10 eu_10 => ?_)
        have h := h u_10 eu_10
        obtain ⟨hi, h⟩ := h
        refine g_iast hx hb hK hP (gw_D hX) hS 12 rw_12 rfl hi y1.toNatClampNeg rfl dX7_notes_32 (fun H locs hP hS => ?_)
        have hP := rw_st (j := y1.toNatClampNeg) (x := u_10) rfl hP
        obtain ⟨S_11, eS_11⟩ : ∃ z : CS, z = sti S 12 y1.toNatClampNeg u_10 := ⟨_, rfl⟩
        rw [← eS_11] at hP
        have h := h S_11 eS_11
        obtain ⟨x1_12, ex1_12⟩ : ∃ z : Int32, z = y1 + 1 := ⟨_, rfl⟩
        refine lv_iinc (v := x1_12) (lv' := [(1, .int x1_12), (0, .ref (X.1 0))]) hx hb dX7_notes_33 hl (k := 1) rfl (by rw [ex1_12]; rfl) (by decide) rfl (fun ls hl => ?_)
        have h := h x1_12 ex1_12
        refine lv_goto (tgt := 11) hx hb dX7_notes_36 (by decide) ?_
        exact ih x1_12 S_11 H locs ls hP hS (lv_sub hl [1, 0] rfl) h
  have hl := lv_entry ([.ref (X.1 0)]) (n := 2) (Nat.le_of_ble_eq_true rfl)
  rw [lg_entry_eq]
  generalize (lg_sl ([.ref (X.1 0)]) ++ List.replicate (2 - (lg_sl ([.ref (X.1 0)])).length) Slot.unset).toArray = ls at hl ⊢
  have hl : lv_has ls 2 [(0, .ref (X.1 0))] := hl
  obtain ⟨H, hH⟩ : ∃ H : Heap, H = s.heap := ⟨_, rfl⟩
  obtain ⟨locs, hlc⟩ : ∃ q : List Loc, q = [] := ⟨_, rfl⟩
  have hS : va_S (AX 18 X.1 s.heap.size) s.heap H locs := by rw [hH, hlc]; exact hS
  have hP : va_P D vwCl (RW X S) H := by rw [hH]; exact hP
  show W p l e (headSpec (Cond.code yX7_notes cX7_notes 2 none :: lw_gd) rm_X7_notes).room s m ([.ref (X.1 0)] : List Value).toArray below meth c s.heap [] 0 0 (MQ below (va_Qv post (gB D (RW X)) (AX 18 X.1 s.heap.size)) ([.ref (X.1 0)] : List Value).toArray s 0 0 (AX 18 X.1 s.heap.size)) _
  suffices hgo : W p l e (headSpec (Cond.code yX7_notes cX7_notes 2 none :: lw_gd) rm_X7_notes).room s m ([.ref (X.1 0)] : List Value).toArray below meth c H locs 0 0 (MQ below (va_Qv post (gB D (RW X)) (AX 18 X.1 s.heap.size)) ([.ref (X.1 0)] : List Value).toArray s 0 0 (AX 18 X.1 s.heap.size)) (F0 m 0 ls []) from by rw [hH, hlc] at hgo; exact hgo
  unfold p_X7_notes at h
  refine lv_aload_n hx hb dX7_notes_0 rfl (lv_at hl 0 rfl) ?_
  refine va_get (D := D) (ci := 7) (v := .int (S.1 0 21)) (C := RX7) (T := TX7) (N := 28) hx hb hT inX7 hown hK hP 0 rw_Model rfl 21 (by decide) (hT _ wf_X7_133) (fun _ h9 => h9) rfl dX7_notes_1 ?_
  refine lv_bipush (v := 10) hx hb dX7_notes_4 (by decide) ?_
  refine lv_icmp_ne (tgt := 45) hx hb dX7_notes_6 (by decide) (fun c_1 => ?_) (fun c_1 => ?_)
  · have h := h.2 c_1
    refine lv_iconst (v := 0) hx hb dX7_notes_45 (by decide) ?_
    refine lv_istore_n (lv' := [(1, .int 0), (0, .ref (X.1 0))]) hx hb dX7_notes_46 rfl hl (by decide) rfl (fun ls hl => ?_)
    obtain ⟨n1, h⟩ := h
    exact W47  n1 0 S H locs ls hP hS (lv_sub hl [1, 0] rfl) h
  · have h := h.1 c_1
    refine lv_iconst (v := 0) hx hb dX7_notes_9 (by decide) ?_
    refine lv_istore_n (lv' := [(1, .int 0), (0, .ref (X.1 0))]) hx hb dX7_notes_10 rfl hl (by decide) rfl (fun ls hl => ?_)
    obtain ⟨n1, h⟩ := h
    exact W11  n1 0 S H locs ls hP hS (lv_sub hl [1, 0] rfl) h

abbrev rm_X7_fells : Room := { frames := 2, cells := 0, slots := 0, locals := 45 }
def p_X7_fells (S : CS) (c1 : Nat) (x2 : Int32) (post : Int32 → CS → Prop) : Prop := p_X7_gives S c1 x2 (fun r_2 S_1 => (∀ u_3 : Int32, u_3 = ((S_1.1 c1 2) + r_2) → (∀ S_4 : CS, S_4 = sti S_1 c1 2 u_3 → (vp_in (15 + x2) 21 ∧ (∀ S_5 : CS, S_5 = sti S_4 c1 ((15 + x2).toNatClampNeg) 0 → (post r_2 S_5))))))
set_option maxHeartbeats 4000000 in
set_option maxRecDepth 100000 in
theorem c_X7_fells (l : Launch) (D : va_G) (X : XE) (hX : Inj 18 X.1) (sz : Nat) (S : CS) (c1 : Nat) (hyp_c1 : c1 = 8 ∨ c1 = 9) (x2 : Int32) (post : Int32 → CS → Prop) (h : p_X7_fells S c1 x2 post) : Met l yX7_fells (Cond.code yX7_fells cX7_fells 4 (some .int) :: lw_gd) rm_X7_fells (gPc D (tyX X) (RW X) (FXr X) (AX 18 X.1 sz) sz S [.ref (X.1 0), .ref (X.1 c1), .int x2]) (va_Qi post (gB D (RW X)) (AX 18 X.1 sz)) 0 0 (AX 18 X.1 sz) := by
  refine Met.ofW (cc := cX7_fells) (maxL := 4) (ret := (some .int)) (by decide) rfl ?_
  intro p e s m args below meth c s₁ B hml hv
  obtain ⟨rfl, hsz, hP, hK, hF⟩ := hv
  have hx := B.exec
  have hb := B.bytes
  have hr := B.returns
  have hts := atoms_spec (ws := (Cond.code yX7_fells cX7_fells 4 (some .int) :: lw_gd)) B.pre
  have hT : ∀ w ∈ lw_gd, w.before _ s = true := fun w h9 => hts w (List.mem_cons_of_mem _ h9)
  have hown : s.vm.findClass RX7 = some m.cls := findClass_of_methodNamed B.named
  have hlocks := B.notSynchronized
  subst hsz
  have hS : va_S (AX 18 X.1 s.heap.size) s.heap s.heap [] := va_S.rf
  have hl := lv_entry ([.ref (X.1 0), .ref (X.1 c1), .int x2]) (n := 4) (Nat.le_of_ble_eq_true rfl)
  rw [lg_entry_eq]
  generalize (lg_sl ([.ref (X.1 0), .ref (X.1 c1), .int x2]) ++ List.replicate (4 - (lg_sl ([.ref (X.1 0), .ref (X.1 c1), .int x2])).length) Slot.unset).toArray = ls at hl ⊢
  have hl : lv_has ls 4 [(0, .ref (X.1 0)), (1, .ref (X.1 c1)), (2, .int x2)] := hl
  obtain ⟨H, hH⟩ : ∃ H : Heap, H = s.heap := ⟨_, rfl⟩
  obtain ⟨locs, hlc⟩ : ∃ q : List Loc, q = [] := ⟨_, rfl⟩
  have hS : va_S (AX 18 X.1 s.heap.size) s.heap H locs := by rw [hH, hlc]; exact hS
  have hP : va_P D vwCl (RW X S) H := by rw [hH]; exact hP
  show W p l e (headSpec (Cond.code yX7_fells cX7_fells 4 (some .int) :: lw_gd) rm_X7_fells).room s m ([.ref (X.1 0), .ref (X.1 c1), .int x2] : List Value).toArray below meth c s.heap [] 0 0 (MQ below (va_Qi post (gB D (RW X)) (AX 18 X.1 s.heap.size)) ([.ref (X.1 0), .ref (X.1 c1), .int x2] : List Value).toArray s 0 0 (AX 18 X.1 s.heap.size)) _
  suffices hgo : W p l e (headSpec (Cond.code yX7_fells cX7_fells 4 (some .int) :: lw_gd) rm_X7_fells).room s m ([.ref (X.1 0), .ref (X.1 c1), .int x2] : List Value).toArray below meth c H locs 0 0 (MQ below (va_Qi post (gB D (RW X)) (AX 18 X.1 s.heap.size)) ([.ref (X.1 0), .ref (X.1 c1), .int x2] : List Value).toArray s 0 0 (AX 18 X.1 s.heap.size)) (F0 m 0 ls []) from by rw [hH, hlc] at hgo; exact hgo
  unfold p_X7_fells at h
  refine lv_aload_n hx hb dX7_fells_0 rfl (lv_at hl 0 rfl) ?_
  refine lv_aload_n hx hb dX7_fells_1 rfl (lv_at hl 1 rfl) ?_
  refine lv_iload_n hx hb dX7_fells_2 rfl (lv_at hl 2 rfl) ?_
  refine rVi (As := [.ref (X.1 c1), .int x2]) (rest := []) hX ⟨hx, hb, hml, hown, hT⟩ (c_X7_gives l D X hX H.size S c1 hyp_c1 x2 _ h) (gd_V wl_X7_142 wi_X7_gives wv_X7_gives wn_X7 wc_X7_gives) rfl hd_X7_gives ⟨rfl, rfl⟩ ⟨Nat.le_of_ble_eq_true rfl, Nat.le_of_ble_eq_true rfl⟩ (va_recv hK hP (ci := 7) (q0 := 0) rfl rw_Model) hK hP hS hF rfl hl.1 rfl (Nat.le_of_ble_eq_true rfl) dX7_fells_3 ⟨Nat.zero_le _, Nat.zero_le _⟩ (fun r_2 S_1 H locs h hP hS => ?_)
  refine lv_istore_n (lv' := [(3, .int r_2), (0, .ref (X.1 0)), (1, .ref (X.1 c1)), (2, .int x2)]) hx hb dX7_fells_6 rfl hl (by decide) rfl (fun ls hl => ?_)
  refine lv_aload_n hx hb dX7_fells_7 rfl (lv_at hl 2 rfl) ?_
  refine lv_iconst (v := 2) hx hb dX7_fells_8 (by decide) ?_
  refine lv_dup2_11 hx hb dX7_fells_9 rfl rfl ?_
  refine g_iald hx hb hK hP c1 (rw_sw hyp_c1) rfl (vpc (by decide)) 2 rfl dX7_fells_10 ?_
  refine lv_iload_n hx hb dX7_fells_11 rfl (lv_at hl 0 rfl) ?_
  refine lv_iadd hx hb dX7_fells_12 ?_
  refine lv_topi (fun u_3 eu_3 => ?_)
  have h := h u_3 eu_3
  refine g_iast hx hb hK hP (gw_D hX) hS c1 (rw_sw hyp_c1) rfl (vpc (by decide)) 2 rfl dX7_fells_13 (fun H locs hP hS => ?_)
  have hP := rw_st (j := 2) (x := u_3) (rce_sw X _ hyp_c1 _) hP
  obtain ⟨S_4, eS_4⟩ : ∃ z : CS, z = sti S_1 c1 2 u_3 := ⟨_, rfl⟩
  rw [← eS_4] at hP
  have h := h S_4 eS_4
  refine lv_aload_n hx hb dX7_fells_14 rfl (lv_at hl 2 rfl) ?_
  refine lv_bipush (v := 15) hx hb dX7_fells_15 (by decide) ?_
  refine lv_iload_n hx hb dX7_fells_17 rfl (lv_at hl 3 rfl) ?_
  refine lv_iadd hx hb dX7_fells_18 ?_
  refine lv_iconst (v := 0) hx hb dX7_fells_19 (by decide) ?_
  obtain ⟨hi, h⟩ := h
  refine g_iast hx hb hK hP (gw_D hX) hS c1 (rw_sw hyp_c1) rfl hi ((15 + x2).toNatClampNeg) rfl dX7_fells_20 (fun H locs hP hS => ?_)
  have hP := rw_st (j := (15 + x2).toNatClampNeg) (x := 0) (rce_sw X _ hyp_c1 _) hP
  obtain ⟨S_5, eS_5⟩ : ∃ z : CS, z = sti S_4 c1 ((15 + x2).toNatClampNeg) 0 := ⟨_, rfl⟩
  rw [← eS_5] at hP
  have h := h S_5 eS_5
  refine lv_iload_n hx hb dX7_fells_21 rfl (lv_at hl 0 rfl) ?_
  exact W.iret (v := r_2) hx hb hr (fun t ht hW => ⟨⟨r_2, S_5, rfl, h, gB_of ht hP⟩, hS.F ht⟩) hS.2.2 dX7_fells_22

abbrev rm_X7_grows : Room := { frames := 0, cells := 0, slots := 0, locals := 0 }
def q_X7_grows_2 (c1 : Nat) (post : CS → Prop) : Nat → Int32 → CS → Prop
  | 0, _, _ => False
  | n9 + 1, y2, S => ((S.1 2 0) ≤ y2 → (∀ u_2 : Int32, u_2 = ((S.1 c1 1) + 1) → (∀ S_3 : CS, S_3 = sti S c1 1 u_2 → (post S_3)))) ∧ (¬ ((S.1 2 0) ≤ y2) → (vp_in (15 + y2) 21 ∧ (vp_in (15 + y2) 21 ∧ ((40 ≤ (S.1 c1 ((15 + y2).toNatClampNeg)) → (∀ u_5 : Int32, u_5 = ((S.1 c1 ((15 + y2).toNatClampNeg)) + 0) → (vp_in (15 + y2) 21 ∧ (∀ S_6 : CS, S_6 = sti S c1 ((15 + y2).toNatClampNeg) u_5 → (∀ x2_7 : Int32, x2_7 = y2 + 1 → (q_X7_grows_2 c1 post n9 x2_7 S_6)))))) ∧ (¬ (40 ≤ (S.1 c1 ((15 + y2).toNatClampNeg))) → (∀ u_8 : Int32, u_8 = ((S.1 c1 ((15 + y2).toNatClampNeg)) + 1) → (vp_in (15 + y2) 21 ∧ (∀ S_9 : CS, S_9 = sti S c1 ((15 + y2).toNatClampNeg) u_8 → (∀ x2_10 : Int32, x2_10 = y2 + 1 → (q_X7_grows_2 c1 post n9 x2_10 S_9))))))))))
def p_X7_grows (S : CS) (c1 : Nat) (post : CS → Prop) : Prop := ∃ n, q_X7_grows_2 c1 post n 0 S
set_option maxHeartbeats 4000000 in
set_option maxRecDepth 100000 in
theorem c_X7_grows (l : Launch) (D : va_G) (X : XE) (hX : Inj 18 X.1) (sz : Nat) (S : CS) (c1 : Nat) (hyp_c1 : c1 = 8 ∨ c1 = 9) (post : CS → Prop) (h : p_X7_grows S c1 post) : Met l yX7_grows (Cond.code yX7_grows cX7_grows 3 none :: lw_gd) rm_X7_grows (gPc D (tyX X) (RW X) (FXr X) (AX 18 X.1 sz) sz S [.ref (X.1 0), .ref (X.1 c1)]) (va_Qv post (gB D (RW X)) (AX 18 X.1 sz)) 0 0 (AX 18 X.1 sz) := by
  refine Met.ofW (cc := cX7_grows) (maxL := 3) (ret := none) (by decide) rfl ?_
  intro p e s m args below meth c s₁ B hml hv
  obtain ⟨rfl, hsz, hP, hK, hF⟩ := hv
  have hx := B.exec
  have hb := B.bytes
  have hr := B.returns
  have hts := atoms_spec (ws := (Cond.code yX7_grows cX7_grows 3 none :: lw_gd)) B.pre
  have hT : ∀ w ∈ lw_gd, w.before _ s = true := fun w h9 => hts w (List.mem_cons_of_mem _ h9)
  have hown : s.vm.findClass RX7 = some m.cls := findClass_of_methodNamed B.named
  have hlocks := B.notSynchronized
  subst hsz
  have hS : va_S (AX 18 X.1 s.heap.size) s.heap s.heap [] := va_S.rf
  have W2 : ∀ n1 : Nat, ∀ (y2 : Int32) (S : CS) (H : Heap) (locs : List Loc) (ls : Array Slot), va_P D vwCl (RW X S) H → va_S (AX 18 X.1 s.heap.size) s.heap H locs → lv_has ls 3 [(0, .ref (X.1 0)), (1, .ref (X.1 c1)), (2, .int y2)] → q_X7_grows_2 c1 post n1 y2 S → W p l e (headSpec (Cond.code yX7_grows cX7_grows 3 none :: lw_gd) rm_X7_grows).room s m ([.ref (X.1 0), .ref (X.1 c1)] : List Value).toArray below meth c H locs 0 0 (MQ below (va_Qv post (gB D (RW X)) (AX 18 X.1 s.heap.size)) ([.ref (X.1 0), .ref (X.1 c1)] : List Value).toArray s 0 0 (AX 18 X.1 s.heap.size)) (F0 m 2 ls []) := by
    intro n1
    induction n1 with
    | zero => intro y2 S H locs ls hP hS hl h; exact h.elim
    | succ n9 ih =>
      intro y2 S H locs ls hP hS hl h
      rw [q_X7_grows_2] at h
      refine lv_iload_n hx hb dX7_grows_2 rfl (lv_at hl 2 rfl) ?_
      refine lv_aload_n hx hb dX7_grows_3 rfl (lv_at hl 0 rfl) ?_
      refine va_get (D := D) (ci := 7) (v := .ref (X.1 2)) (C := RX7) (T := TX7) (N := 28) hx hb hT inX7 hown hK hP 0 rw_Model rfl 9 (by decide) (hT _ wf_X7_13) (fun _ h9 => h9) rfl dX7_grows_4 ?_
      refine lv_iconst (v := 0) hx hb dX7_grows_7 (by decide) ?_
      refine g_iald hx hb hK hP 2 rw_2 rfl (vpc (by decide)) 0 rfl dX7_grows_8 ?_
      refine lv_icmp_ge (tgt := 43) hx hb dX7_grows_9 (by decide) (fun c_1 => ?_) (fun c_1 => ?_)
      · have h := h.1 c_1
        refine lv_aload_n hx hb dX7_grows_43 rfl (lv_at hl 1 rfl) ?_
        refine lv_iconst (v := 1) hx hb dX7_grows_44 (by decide) ?_
        refine lv_dup2_11 hx hb dX7_grows_45 rfl rfl ?_
        refine g_iald hx hb hK hP c1 (rw_sw hyp_c1) rfl (vpc (by decide)) 1 rfl dX7_grows_46 ?_
        refine lv_iconst (v := 1) hx hb dX7_grows_47 (by decide) ?_
        refine lv_iadd hx hb dX7_grows_48 ?_
        refine lv_topi (fun u_2 eu_2 => ?_)
        have h := h u_2 eu_2
        refine g_iast hx hb hK hP (gw_D hX) hS c1 (rw_sw hyp_c1) rfl (vpc (by decide)) 1 rfl dX7_grows_49 (fun H locs hP hS => ?_)
        have hP := rw_st (j := 1) (x := u_2) (rce_sw X _ hyp_c1 _) hP
        obtain ⟨S_3, eS_3⟩ : ∃ z : CS, z = sti S c1 1 u_2 := ⟨_, rfl⟩
        rw [← eS_3] at hP
        have h := h S_3 eS_3
        exact W.vret hx hb hr (fun t ht hW => ⟨⟨S_3, rfl, h, gB_of ht hP⟩, hS.F ht⟩) hS.2.2 dX7_grows_50
      · have h := h.2 c_1
        refine lv_aload_n hx hb dX7_grows_12 rfl (lv_at hl 1 rfl) ?_
        refine lv_bipush (v := 15) hx hb dX7_grows_13 (by decide) ?_
        refine lv_iload_n hx hb dX7_grows_15 rfl (lv_at hl 2 rfl) ?_
        refine lv_iadd hx hb dX7_grows_16 ?_
        refine lv_dup2_11 hx hb dX7_grows_17 rfl rfl ?_
        obtain ⟨hi, h⟩ := h
        refine g_iald hx hb hK hP c1 (rw_sw hyp_c1) rfl hi ((15 + y2).toNatClampNeg) rfl dX7_grows_18 ?_
        refine lv_aload_n hx hb dX7_grows_19 rfl (lv_at hl 1 rfl) ?_
        refine lv_bipush (v := 15) hx hb dX7_grows_20 (by decide) ?_
        refine lv_iload_n hx hb dX7_grows_22 rfl (lv_at hl 2 rfl) ?_
        refine lv_iadd hx hb dX7_grows_23 ?_
        obtain ⟨hi, h⟩ := h
        refine g_iald hx hb hK hP c1 (rw_sw hyp_c1) rfl hi ((15 + y2).toNatClampNeg) rfl dX7_grows_24 ?_
        refine lv_bipush (v := 40) hx hb dX7_grows_25 (by decide) ?_
        refine lv_icmp_ge (tgt := 34) hx hb dX7_grows_27 (by decide) (fun c_4 => ?_) (fun c_4 => ?_)
        · have h := h.1 c_4
          refine lv_iconst (v := 0) hx hb dX7_grows_34 (by decide) ?_
          refine lv_iadd hx hb dX7_grows_35 ?_
          refine lv_topi (fun u_5 eu_5 => ?_)
          have h := h u_5 eu_5
          obtain ⟨hi, h⟩ := h
          refine g_iast hx hb hK hP (gw_D hX) hS c1 (rw_sw hyp_c1) rfl hi ((15 + y2).toNatClampNeg) rfl dX7_grows_36 (fun H locs hP hS => ?_)
          have hP := rw_st (j := (15 + y2).toNatClampNeg) (x := u_5) (rce_sw X _ hyp_c1 _) hP
          obtain ⟨S_6, eS_6⟩ : ∃ z : CS, z = sti S c1 ((15 + y2).toNatClampNeg) u_5 := ⟨_, rfl⟩
          rw [← eS_6] at hP
          have h := h S_6 eS_6
          obtain ⟨x2_7, ex2_7⟩ : ∃ z : Int32, z = y2 + 1 := ⟨_, rfl⟩
          refine lv_iinc (v := x2_7) (lv' := [(2, .int x2_7), (0, .ref (X.1 0)), (1, .ref (X.1 c1))]) hx hb dX7_grows_37 hl (k := 2) rfl (by rw [ex2_7]; rfl) (by decide) rfl (fun ls hl => ?_)
          have h := h x2_7 ex2_7
          refine lv_goto (tgt := 2) hx hb dX7_grows_40 (by decide) ?_
          exact ih x2_7 S_6 H locs ls hP hS (lv_sub hl [1, 2, 0] rfl) h
        · have h := h.2 c_4
          refine lv_iconst (v := 1) hx hb dX7_grows_30 (by decide) ?_
          refine lv_goto (tgt := 35) hx hb dX7_grows_31 (by decide) ?_
          refine lv_iadd hx hb dX7_grows_35 ?_
          refine lv_topi (fun u_8 eu_8 => ?_)
          have h := h u_8 eu_8
          obtain ⟨hi, h⟩ := h
          refine g_iast hx hb hK hP (gw_D hX) hS c1 (rw_sw hyp_c1) rfl hi ((15 + y2).toNatClampNeg) rfl dX7_grows_36 (fun H locs hP hS => ?_)
          have hP := rw_st (j := (15 + y2).toNatClampNeg) (x := u_8) (rce_sw X _ hyp_c1 _) hP
          obtain ⟨S_9, eS_9⟩ : ∃ z : CS, z = sti S c1 ((15 + y2).toNatClampNeg) u_8 := ⟨_, rfl⟩
          rw [← eS_9] at hP
          have h := h S_9 eS_9
          obtain ⟨x2_10, ex2_10⟩ : ∃ z : Int32, z = y2 + 1 := ⟨_, rfl⟩
          refine lv_iinc (v := x2_10) (lv' := [(2, .int x2_10), (0, .ref (X.1 0)), (1, .ref (X.1 c1))]) hx hb dX7_grows_37 hl (k := 2) rfl (by rw [ex2_10]; rfl) (by decide) rfl (fun ls hl => ?_)
          have h := h x2_10 ex2_10
          refine lv_goto (tgt := 2) hx hb dX7_grows_40 (by decide) ?_
          exact ih x2_10 S_9 H locs ls hP hS (lv_sub hl [1, 2, 0] rfl) h
  have hl := lv_entry ([.ref (X.1 0), .ref (X.1 c1)]) (n := 3) (Nat.le_of_ble_eq_true rfl)
  rw [lg_entry_eq]
  generalize (lg_sl ([.ref (X.1 0), .ref (X.1 c1)]) ++ List.replicate (3 - (lg_sl ([.ref (X.1 0), .ref (X.1 c1)])).length) Slot.unset).toArray = ls at hl ⊢
  have hl : lv_has ls 3 [(0, .ref (X.1 0)), (1, .ref (X.1 c1))] := hl
  obtain ⟨H, hH⟩ : ∃ H : Heap, H = s.heap := ⟨_, rfl⟩
  obtain ⟨locs, hlc⟩ : ∃ q : List Loc, q = [] := ⟨_, rfl⟩
  have hS : va_S (AX 18 X.1 s.heap.size) s.heap H locs := by rw [hH, hlc]; exact hS
  have hP : va_P D vwCl (RW X S) H := by rw [hH]; exact hP
  show W p l e (headSpec (Cond.code yX7_grows cX7_grows 3 none :: lw_gd) rm_X7_grows).room s m ([.ref (X.1 0), .ref (X.1 c1)] : List Value).toArray below meth c s.heap [] 0 0 (MQ below (va_Qv post (gB D (RW X)) (AX 18 X.1 s.heap.size)) ([.ref (X.1 0), .ref (X.1 c1)] : List Value).toArray s 0 0 (AX 18 X.1 s.heap.size)) _
  suffices hgo : W p l e (headSpec (Cond.code yX7_grows cX7_grows 3 none :: lw_gd) rm_X7_grows).room s m ([.ref (X.1 0), .ref (X.1 c1)] : List Value).toArray below meth c H locs 0 0 (MQ below (va_Qv post (gB D (RW X)) (AX 18 X.1 s.heap.size)) ([.ref (X.1 0), .ref (X.1 c1)] : List Value).toArray s 0 0 (AX 18 X.1 s.heap.size)) (F0 m 0 ls []) from by rw [hH, hlc] at hgo; exact hgo
  unfold p_X7_grows at h
  refine lv_iconst (v := 0) hx hb dX7_grows_0 (by decide) ?_
  refine lv_istore_n (lv' := [(2, .int 0), (0, .ref (X.1 0)), (1, .ref (X.1 c1))]) hx hb dX7_grows_1 rfl hl (by decide) rfl (fun ls hl => ?_)
  obtain ⟨n1, h⟩ := h
  exact W2  n1 0 S H locs ls hP hS (lv_sub hl [1, 2, 0] rfl) h
