abbrev rm_X7_rate : Room := { frames := 2, cells := 0, slots := 0, locals := 45 }
def q_X7_rate_108 (x1 : Int32) (x2 : Int32) (post : Int32 → CS → Prop) (y3 : Int32) (y4 : Int32) (z0 : Int64) (z1 : Int64) (S : CS) : Prop := ∀ u_16 : Int64, u_16 = (z1 + z0) → (∀ S_17 : CS, S_17 = stt S u_16 → ((x1 = 0 → (post y3 S_17)) ∧ (¬ (x1 = 0) → ((x1 = 1 → (vp_in x2 12 ∧ (post (y3 + (S_17.1 3 x2.toNatClampNeg)) S_17))) ∧ (¬ (x1 = 1) → ((x1 = 2 → (post y4 S_17)) ∧ (¬ (x1 = 2) → ((x1 = 3 → (vp_in x2 12 ∧ (post (2 * (y3 + (S_17.1 3 x2.toNatClampNeg))) S_17))) ∧ (¬ (x1 = 3) → ((x1 = 4 → (post (y4 + x2) S_17)) ∧ (¬ (x1 = 4) → (post (y3 + (S_17.1 8 1)) S_17))))))))))))
def p_X7_rate (S : CS) (x1 : Int32) (x2 : Int32) (post : Int32 → CS → Prop) : Prop := ∀ S_1 : CS, S_1 = sti S 0 0 0 → (p_X7_in S_1 x1 0 5 (fun r_3 S_2 => ((r_3 = 0 → (post (-1000000) S_2)) ∧ (¬ (r_3 = 0) → (p_X7_isPart S_2 x2 (fun r_6 S_5 => ((r_6 = 0 → (post (-1000000) S_5)) ∧ (¬ (r_6 = 0) → (p_X7_gives S_5 8 x2 (fun r_9 S_8 => (vp_in (15 + x2) 21 ∧ (∀ x4_10 : Int32, x4_10 = (r_9 - (S_8.1 8 ((15 + x2).toNatClampNeg))) → ((x1 = 0 → (q_X7_rate_108 x1 x2 post r_9 x4_10 1 S_8.2.2.2 S_8)) ∧ (¬ (x1 = 0) → ((x1 = 1 → (q_X7_rate_108 x1 x2 post r_9 x4_10 11 S_8.2.2.2 S_8)) ∧ (¬ (x1 = 1) → ((x1 = 2 → (q_X7_rate_108 x1 x2 post r_9 x4_10 101 S_8.2.2.2 S_8)) ∧ (¬ (x1 = 2) → ((x1 = 3 → (q_X7_rate_108 x1 x2 post r_9 x4_10 1011 S_8.2.2.2 S_8)) ∧ (¬ (x1 = 3) → ((x1 = 4 → (q_X7_rate_108 x1 x2 post r_9 x4_10 10101 S_8.2.2.2 S_8)) ∧ (¬ (x1 = 4) → (q_X7_rate_108 x1 x2 post r_9 x4_10 100001 S_8.2.2.2 S_8)))))))))))))))))))))))
set_option maxHeartbeats 4000000 in
set_option maxRecDepth 100000 in
theorem c_X7_rate (l : Launch) (D : va_G) (X : XE) (hX : Inj 18 X.1) (sz : Nat) (S : CS) (x1 : Int32) (x2 : Int32) (post : Int32 → CS → Prop) (h : p_X7_rate S x1 x2 post) : Met l yX7_rate (Cond.code yX7_rate cX7_rate 5 (some .int) :: lw_gd) rm_X7_rate (gPc D (tyX X) (RW X) (FXr X) (AX 18 X.1 sz) sz S [.ref (X.1 0), .int x1, .int x2]) (va_Qi post (gB D (RW X)) (AX 18 X.1 sz)) 0 0 (AX 18 X.1 sz) := by
  refine Met.ofW (cc := cX7_rate) (maxL := 5) (ret := (some .int)) (by decide) rfl ?_
  intro p e s m args below meth c s₁ B hml hv
  obtain ⟨rfl, hsz, hP, hK, hF⟩ := hv
  have hx := B.exec
  have hb := B.bytes
  have hr := B.returns
  have hts := atoms_spec (ws := (Cond.code yX7_rate cX7_rate 5 (some .int) :: lw_gd)) B.pre
  have hT : ∀ w ∈ lw_gd, w.before _ s = true := fun w h9 => hts w (List.mem_cons_of_mem _ h9)
  have hown : s.vm.findClass RX7 = some m.cls := findClass_of_methodNamed B.named
  have hlocks := B.notSynchronized
  subst hsz
  have hS : va_S (AX 18 X.1 s.heap.size) s.heap s.heap [] := va_S.rf
  have W108 : ∀ (y3 : Int32) (y4 : Int32) (z0 : Int64) (z1 : Int64) (S : CS) (H : Heap) (locs : List Loc) (ls : Array Slot), va_P D vwCl (RW X S) H → va_S (AX 18 X.1 s.heap.size) s.heap H locs → lv_has ls 5 [(0, .ref (X.1 0)), (1, .int x1), (2, .int x2), (3, .int y3), (4, .int y4)] → q_X7_rate_108 x1 x2 post y3 y4 z0 z1 S → W p l e (headSpec (Cond.code yX7_rate cX7_rate 5 (some .int) :: lw_gd) rm_X7_rate).room s m ([.ref (X.1 0), .int x1, .int x2] : List Value).toArray below meth c H locs 0 0 (MQ below (va_Qi post (gB D (RW X)) (AX 18 X.1 s.heap.size)) ([.ref (X.1 0), .int x1, .int x2] : List Value).toArray s 0 0 (AX 18 X.1 s.heap.size)) (F0 m 108 ls [.long z0, .long z1, .ref (X.1 0)]) := by
    intro y3 y4 z0 z1 S H locs ls hP hS hl h
    unfold q_X7_rate_108 at h
    refine lv_ladd hx hb dX7_rate_108 ?_
    refine lv_topl (fun u_16 eu_16 => ?_)
    have h := h u_16 eu_16
    refine va_put (D := D) (ci := 7) (v := .long u_16) (ty := .long) (C := RX7) (T := TX7) (N := 28) hx hb hT inX7 tyX7 tyX7_ok nmX7 hown hK hP (gw_D hX) hS 0 rw_Model rfl 1 (by decide) (hT _ wf_X7_214) (fun _ h9 => h9) rfl (by decide +kernel) rfl rfl (Nat.le_of_ble_eq_true rfl) dX7_rate_109 (fun H locs hP _ hS => ?_)
    have hP := rw_stt (x := u_16) rfl hP
    obtain ⟨S_17, eS_17⟩ : ∃ z : CS, z = stt S u_16 := ⟨_, rfl⟩
    rw [← eS_17] at hP
    have h := h S_17 eS_17
    refine lv_iload_n hx hb dX7_rate_112 rfl (lv_at hl 1 rfl) ?_
    refine lv_if_ne (tgt := 120) hx hb dX7_rate_113 (by decide) (fun c_18 => ?_) (fun c_18 => ?_)
    · have h := h.2 c_18
      refine lv_iload_n hx hb dX7_rate_120 rfl (lv_at hl 1 rfl) ?_
      refine lv_iconst (v := 1) hx hb dX7_rate_121 (by decide) ?_
      refine lv_icmp_ne (tgt := 136) hx hb dX7_rate_122 (by decide) (fun c_19 => ?_) (fun c_19 => ?_)
      · have h := h.2 c_19
        refine lv_iload_n hx hb dX7_rate_136 rfl (lv_at hl 1 rfl) ?_
        refine lv_iconst (v := 2) hx hb dX7_rate_137 (by decide) ?_
        refine lv_icmp_ne (tgt := 146) hx hb dX7_rate_138 (by decide) (fun c_20 => ?_) (fun c_20 => ?_)
        · have h := h.2 c_20
          refine lv_iload_n hx hb dX7_rate_146 rfl (lv_at hl 1 rfl) ?_
          refine lv_iconst (v := 3) hx hb dX7_rate_147 (by decide) ?_
          refine lv_icmp_ne (tgt := 164) hx hb dX7_rate_148 (by decide) (fun c_21 => ?_) (fun c_21 => ?_)
          · have h := h.2 c_21
            refine lv_iload_n hx hb dX7_rate_164 rfl (lv_at hl 1 rfl) ?_
            refine lv_iconst (v := 4) hx hb dX7_rate_165 (by decide) ?_
            refine lv_icmp_ne (tgt := 176) hx hb dX7_rate_166 (by decide) (fun c_22 => ?_) (fun c_22 => ?_)
            · have h := h.2 c_22
              refine lv_iload_n hx hb dX7_rate_176 rfl (lv_at hl 3 rfl) ?_
              refine lv_aload_n hx hb dX7_rate_177 rfl (lv_at hl 0 rfl) ?_
              refine va_get (D := D) (ci := 7) (v := .ref (X.1 8)) (C := RX7) (T := TX7) (N := 28) hx hb hT inX7 hown hK hP 0 rw_Model rfl 16 (by decide) (hT _ wf_X7_31) (fun _ h9 => h9) rfl dX7_rate_178 ?_
              refine lv_iconst (v := 1) hx hb dX7_rate_181 (by decide) ?_
              refine g_iald hx hb hK hP 8 rw_8 rfl (vpc (by decide)) 1 rfl dX7_rate_182 ?_
              refine lv_iadd hx hb dX7_rate_183 ?_
              exact W.iret (v := (y3 + (S_17.1 8 1))) hx hb hr (fun t ht hW => ⟨⟨(y3 + (S_17.1 8 1)), S_17, rfl, h, gB_of ht hP⟩, hS.F ht⟩) hS.2.2 dX7_rate_184
            · have h := h.1 c_22
              refine lv_iload hx hb dX7_rate_169 (lv_at hl 4 rfl) ?_
              refine lv_iload_n hx hb dX7_rate_171 rfl (lv_at hl 2 rfl) ?_
              refine lv_iadd hx hb dX7_rate_172 ?_
              refine lv_goto (tgt := 184) hx hb dX7_rate_173 (by decide) ?_
              exact W.iret (v := (y4 + x2)) hx hb hr (fun t ht hW => ⟨⟨(y4 + x2), S_17, rfl, h, gB_of ht hP⟩, hS.F ht⟩) hS.2.2 dX7_rate_184
          · have h := h.1 c_21
            refine lv_iconst (v := 2) hx hb dX7_rate_151 (by decide) ?_
            refine lv_iload_n hx hb dX7_rate_152 rfl (lv_at hl 3 rfl) ?_
            refine lv_aload_n hx hb dX7_rate_153 rfl (lv_at hl 0 rfl) ?_
            refine va_get (D := D) (ci := 7) (v := .ref (X.1 3)) (C := RX7) (T := TX7) (N := 28) hx hb hT inX7 hown hK hP 0 rw_Model rfl 11 (by decide) (hT _ wf_X7_16) (fun _ h9 => h9) rfl dX7_rate_154 ?_
            refine lv_iload_n hx hb dX7_rate_157 rfl (lv_at hl 2 rfl) ?_
            obtain ⟨hi, h⟩ := h
            refine g_iald hx hb hK hP 3 rw_3 rfl hi x2.toNatClampNeg rfl dX7_rate_158 ?_
            refine lv_iadd hx hb dX7_rate_159 ?_
            refine lv_imul hx hb dX7_rate_160 ?_
            refine lv_goto (tgt := 184) hx hb dX7_rate_161 (by decide) ?_
            exact W.iret (v := (2 * (y3 + (S_17.1 3 x2.toNatClampNeg)))) hx hb hr (fun t ht hW => ⟨⟨(2 * (y3 + (S_17.1 3 x2.toNatClampNeg))), S_17, rfl, h, gB_of ht hP⟩, hS.F ht⟩) hS.2.2 dX7_rate_184
        · have h := h.1 c_20
          refine lv_iload hx hb dX7_rate_141 (lv_at hl 4 rfl) ?_
          refine lv_goto (tgt := 184) hx hb dX7_rate_143 (by decide) ?_
          exact W.iret (v := y4) hx hb hr (fun t ht hW => ⟨⟨y4, S_17, rfl, h, gB_of ht hP⟩, hS.F ht⟩) hS.2.2 dX7_rate_184
      · have h := h.1 c_19
        refine lv_iload_n hx hb dX7_rate_125 rfl (lv_at hl 3 rfl) ?_
        refine lv_aload_n hx hb dX7_rate_126 rfl (lv_at hl 0 rfl) ?_
        refine va_get (D := D) (ci := 7) (v := .ref (X.1 3)) (C := RX7) (T := TX7) (N := 28) hx hb hT inX7 hown hK hP 0 rw_Model rfl 11 (by decide) (hT _ wf_X7_16) (fun _ h9 => h9) rfl dX7_rate_127 ?_
        refine lv_iload_n hx hb dX7_rate_130 rfl (lv_at hl 2 rfl) ?_
        obtain ⟨hi, h⟩ := h
        refine g_iald hx hb hK hP 3 rw_3 rfl hi x2.toNatClampNeg rfl dX7_rate_131 ?_
        refine lv_iadd hx hb dX7_rate_132 ?_
        refine lv_goto (tgt := 184) hx hb dX7_rate_133 (by decide) ?_
        exact W.iret (v := (y3 + (S_17.1 3 x2.toNatClampNeg))) hx hb hr (fun t ht hW => ⟨⟨(y3 + (S_17.1 3 x2.toNatClampNeg)), S_17, rfl, h, gB_of ht hP⟩, hS.F ht⟩) hS.2.2 dX7_rate_184
    · have h := h.1 c_18
      refine lv_iload_n hx hb dX7_rate_116 rfl (lv_at hl 3 rfl) ?_
      refine lv_goto (tgt := 184) hx hb dX7_rate_117 (by decide) ?_
      exact W.iret (v := y3) hx hb hr (fun t ht hW => ⟨⟨y3, S_17, rfl, h, gB_of ht hP⟩, hS.F ht⟩) hS.2.2 dX7_rate_184
  have hl := lv_entry ([.ref (X.1 0), .int x1, .int x2]) (n := 5) (Nat.le_of_ble_eq_true rfl)
  rw [lg_entry_eq]
  generalize (lg_sl ([.ref (X.1 0), .int x1, .int x2]) ++ List.replicate (5 - (lg_sl ([.ref (X.1 0), .int x1, .int x2])).length) Slot.unset).toArray = ls at hl ⊢
  have hl : lv_has ls 5 [(0, .ref (X.1 0)), (1, .int x1), (2, .int x2)] := hl
  obtain ⟨H, hH⟩ : ∃ H : Heap, H = s.heap := ⟨_, rfl⟩
  obtain ⟨locs, hlc⟩ : ∃ q : List Loc, q = [] := ⟨_, rfl⟩
  have hS : va_S (AX 18 X.1 s.heap.size) s.heap H locs := by rw [hH, hlc]; exact hS
  have hP : va_P D vwCl (RW X S) H := by rw [hH]; exact hP
  show W p l e (headSpec (Cond.code yX7_rate cX7_rate 5 (some .int) :: lw_gd) rm_X7_rate).room s m ([.ref (X.1 0), .int x1, .int x2] : List Value).toArray below meth c s.heap [] 0 0 (MQ below (va_Qi post (gB D (RW X)) (AX 18 X.1 s.heap.size)) ([.ref (X.1 0), .int x1, .int x2] : List Value).toArray s 0 0 (AX 18 X.1 s.heap.size)) _
  suffices hgo : W p l e (headSpec (Cond.code yX7_rate cX7_rate 5 (some .int) :: lw_gd) rm_X7_rate).room s m ([.ref (X.1 0), .int x1, .int x2] : List Value).toArray below meth c H locs 0 0 (MQ below (va_Qi post (gB D (RW X)) (AX 18 X.1 s.heap.size)) ([.ref (X.1 0), .int x1, .int x2] : List Value).toArray s 0 0 (AX 18 X.1 s.heap.size)) (F0 m 0 ls []) from by rw [hH, hlc] at hgo; exact hgo
  unfold p_X7_rate at h
  refine lv_aload_n hx hb dX7_rate_0 rfl (lv_at hl 0 rfl) ?_
  refine lv_iconst (v := 0) hx hb dX7_rate_1 (by decide) ?_
  refine va_put (D := D) (ci := 7) (v := .int 0) (ty := .int) (C := RX7) (T := TX7) (N := 28) hx hb hT inX7 tyX7 tyX7_ok nmX7 hown hK hP (gw_D hX) hS 0 rw_Model rfl 0 (by decide) (hT _ wf_X7_68) (fun _ h9 => h9) rfl (by decide +kernel) rfl rfl (Nat.le_of_ble_eq_true rfl) dX7_rate_2 (fun H locs hP _ hS => ?_)
  have hP := rw_st (j := 0) (x := 0) rfl hP
  obtain ⟨S_1, eS_1⟩ : ∃ z : CS, z = sti S 0 0 0 := ⟨_, rfl⟩
  rw [← eS_1] at hP
  have h := h S_1 eS_1
  refine lv_iload_n hx hb dX7_rate_5 rfl (lv_at hl 1 rfl) ?_
  refine lv_iconst (v := 0) hx hb dX7_rate_6 (by decide) ?_
  refine lv_iconst (v := 5) hx hb dX7_rate_7 (by decide) ?_
  refine rSi (As := [.int x1, .int 0, .int 5]) (rest := []) hX ⟨hx, hb, hml, hown, hT⟩ (c_X7_in l D X hX H.size S_1 x1 0 5 _ h) (gd_S wl_X7_72 wt_X7_in wn_X7 wc_X7_in) hd_X7_in ⟨rfl, rfl⟩ ⟨Nat.le_of_ble_eq_true rfl, Nat.le_of_ble_eq_true rfl⟩ hK hP hS hF rfl hl.1 rfl (Nat.le_of_ble_eq_true rfl) dX7_rate_8 ⟨Nat.zero_le _, Nat.zero_le _⟩ (fun r_3 S_2 H locs h hP hS => ?_)
  refine lv_if_eq (tgt := 22) hx hb dX7_rate_11 (by decide) (fun c_4 => ?_) (fun c_4 => ?_)
  · have h := h.1 c_4
    refine lv_ldc (v := (-1000000)) hx hb hown (hT _ wk_X7_213) dX7_rate_22 ?_
    exact W.iret (v := (-1000000)) hx hb hr (fun t ht hW => ⟨⟨(-1000000), S_2, rfl, h, gB_of ht hP⟩, hS.F ht⟩) hS.2.2 dX7_rate_24
  · have h := h.2 c_4
    refine lv_aload_n hx hb dX7_rate_14 rfl (lv_at hl 0 rfl) ?_
    refine lv_iload_n hx hb dX7_rate_15 rfl (lv_at hl 2 rfl) ?_
    refine rVi (As := [.int x2]) (rest := []) hX ⟨hx, hb, hml, hown, hT⟩ (c_X7_isPart l D X hX H.size S_2 x2 _ h) (gd_V wl_X7_139 wi_X7_isPart wv_X7_isPart wn_X7 wc_X7_isPart) rfl hd_X7_isPart ⟨rfl, rfl⟩ ⟨Nat.le_of_ble_eq_true rfl, Nat.le_of_ble_eq_true rfl⟩ (va_recv hK hP (ci := 7) (q0 := 0) rfl rw_Model) hK hP hS hF rfl hl.1 rfl (Nat.le_of_ble_eq_true rfl) dX7_rate_16 ⟨Nat.zero_le _, Nat.zero_le _⟩ (fun r_6 S_5 H locs h hP hS => ?_)
    refine lv_if_ne (tgt := 25) hx hb dX7_rate_19 (by decide) (fun c_7 => ?_) (fun c_7 => ?_)
    · have h := h.2 c_7
      refine lv_aload_n hx hb dX7_rate_25 rfl (lv_at hl 0 rfl) ?_
      refine lv_aload_n hx hb dX7_rate_26 rfl (lv_at hl 0 rfl) ?_
      refine va_get (D := D) (ci := 7) (v := .ref (X.1 8)) (C := RX7) (T := TX7) (N := 28) hx hb hT inX7 hown hK hP 0 rw_Model rfl 16 (by decide) (hT _ wf_X7_31) (fun _ h9 => h9) rfl dX7_rate_27 ?_
      refine lv_iload_n hx hb dX7_rate_30 rfl (lv_at hl 2 rfl) ?_
      refine rVi (As := [.ref (X.1 8), .int x2]) (rest := []) hX ⟨hx, hb, hml, hown, hT⟩ (c_X7_gives l D X hX H.size S_5 8 (by decide) x2 _ h) (gd_V wl_X7_142 wi_X7_gives wv_X7_gives wn_X7 wc_X7_gives) rfl hd_X7_gives ⟨rfl, rfl⟩ ⟨Nat.le_of_ble_eq_true rfl, Nat.le_of_ble_eq_true rfl⟩ (va_recv hK hP (ci := 7) (q0 := 0) rfl rw_Model) hK hP hS hF rfl hl.1 rfl (Nat.le_of_ble_eq_true rfl) dX7_rate_31 ⟨Nat.zero_le _, Nat.zero_le _⟩ (fun r_9 S_8 H locs h hP hS => ?_)
      refine lv_istore_n (lv' := [(3, .int r_9), (0, .ref (X.1 0)), (1, .int x1), (2, .int x2)]) hx hb dX7_rate_34 rfl hl (by decide) rfl (fun ls hl => ?_)
      refine lv_iload_n hx hb dX7_rate_35 rfl (lv_at hl 0 rfl) ?_
      refine lv_aload_n hx hb dX7_rate_36 rfl (lv_at hl 1 rfl) ?_
      refine va_get (D := D) (ci := 7) (v := .ref (X.1 8)) (C := RX7) (T := TX7) (N := 28) hx hb hT inX7 hown hK hP 0 rw_Model rfl 16 (by decide) (hT _ wf_X7_31) (fun _ h9 => h9) rfl dX7_rate_37 ?_
      refine lv_bipush (v := 15) hx hb dX7_rate_40 (by decide) ?_
      refine lv_iload_n hx hb dX7_rate_42 rfl (lv_at hl 3 rfl) ?_
      refine lv_iadd hx hb dX7_rate_43 ?_
      obtain ⟨hi, h⟩ := h
      refine g_iald hx hb hK hP 8 rw_8 rfl hi ((15 + x2).toNatClampNeg) rfl dX7_rate_44 ?_
      refine lv_isub hx hb dX7_rate_45 ?_
      refine lv_topi (fun x4_10 ex4_10 => ?_)
      have h := h x4_10 ex4_10
      refine lv_istore (lv' := [(4, .int x4_10), (3, .int r_9), (0, .ref (X.1 0)), (1, .int x1), (2, .int x2)]) hx hb dX7_rate_46 hl (by decide) rfl (fun ls hl => ?_)
      refine lv_aload_n hx hb dX7_rate_48 rfl (lv_at hl 2 rfl) ?_
      refine lv_dup hx hb dX7_rate_49 rfl ?_
      refine va_get (D := D) (ci := 7) (v := .long S_8.2.2.2) (C := RX7) (T := TX7) (N := 28) hx hb hT inX7 hown hK hP 0 rw_Model rfl 1 (by decide) (hT _ wf_X7_214) (fun _ h9 => h9) rfl dX7_rate_50 ?_
      refine lv_iload_n hx hb dX7_rate_53 rfl (lv_at hl 3 rfl) ?_
      refine lv_if_ne (tgt := 61) hx hb dX7_rate_54 (by decide) (fun c_11 => ?_) (fun c_11 => ?_)
      · have h := h.2 c_11
        refine lv_iload_n hx hb dX7_rate_61 rfl (lv_at hl 3 rfl) ?_
        refine lv_iconst (v := 1) hx hb dX7_rate_62 (by decide) ?_
        refine lv_icmp_ne (tgt := 72) hx hb dX7_rate_63 (by decide) (fun c_12 => ?_) (fun c_12 => ?_)
        · have h := h.2 c_12
          refine lv_iload_n hx hb dX7_rate_72 rfl (lv_at hl 3 rfl) ?_
          refine lv_iconst (v := 2) hx hb dX7_rate_73 (by decide) ?_
          refine lv_icmp_ne (tgt := 83) hx hb dX7_rate_74 (by decide) (fun c_13 => ?_) (fun c_13 => ?_)
          · have h := h.2 c_13
            refine lv_iload_n hx hb dX7_rate_83 rfl (lv_at hl 3 rfl) ?_
            refine lv_iconst (v := 3) hx hb dX7_rate_84 (by decide) ?_
            refine lv_icmp_ne (tgt := 94) hx hb dX7_rate_85 (by decide) (fun c_14 => ?_) (fun c_14 => ?_)
            · have h := h.2 c_14
              refine lv_iload_n hx hb dX7_rate_94 rfl (lv_at hl 3 rfl) ?_
              refine lv_iconst (v := 4) hx hb dX7_rate_95 (by decide) ?_
              refine lv_icmp_ne (tgt := 105) hx hb dX7_rate_96 (by decide) (fun c_15 => ?_) (fun c_15 => ?_)
              · have h := h.2 c_15
                refine lv_ldc2 (v := 100001) hx hb hown (hT _ wq_X7_226) dX7_rate_105 ?_
                exact W108  r_9 x4_10 100001 S_8.2.2.2 S_8 H locs ls hP hS (lv_sub hl [2, 3, 4, 1, 0] rfl) h
              · have h := h.1 c_15
                refine lv_ldc2 (v := 10101) hx hb hown (hT _ wq_X7_224) dX7_rate_99 ?_
                refine lv_goto (tgt := 108) hx hb dX7_rate_102 (by decide) ?_
                exact W108  r_9 x4_10 10101 S_8.2.2.2 S_8 H locs ls hP hS (lv_sub hl [2, 3, 4, 1, 0] rfl) h
            · have h := h.1 c_14
              refine lv_ldc2 (v := 1011) hx hb hown (hT _ wq_X7_222) dX7_rate_88 ?_
              refine lv_goto (tgt := 108) hx hb dX7_rate_91 (by decide) ?_
              exact W108  r_9 x4_10 1011 S_8.2.2.2 S_8 H locs ls hP hS (lv_sub hl [2, 3, 4, 1, 0] rfl) h
          · have h := h.1 c_13
            refine lv_ldc2 (v := 101) hx hb hown (hT _ wq_X7_220) dX7_rate_77 ?_
            refine lv_goto (tgt := 108) hx hb dX7_rate_80 (by decide) ?_
            exact W108  r_9 x4_10 101 S_8.2.2.2 S_8 H locs ls hP hS (lv_sub hl [2, 3, 4, 1, 0] rfl) h
        · have h := h.1 c_12
          refine lv_ldc2 (v := 11) hx hb hown (hT _ wq_X7_218) dX7_rate_66 ?_
          refine lv_goto (tgt := 108) hx hb dX7_rate_69 (by decide) ?_
          exact W108  r_9 x4_10 11 S_8.2.2.2 S_8 H locs ls hP hS (lv_sub hl [2, 3, 4, 1, 0] rfl) h
      · have h := h.1 c_11
        refine lv_lconst (v := 1) hx hb dX7_rate_57 (by decide) ?_
        refine lv_goto (tgt := 108) hx hb dX7_rate_58 (by decide) ?_
        exact W108  r_9 x4_10 1 S_8.2.2.2 S_8 H locs ls hP hS (lv_sub hl [2, 3, 4, 1, 0] rfl) h
    · have h := h.1 c_7
      refine lv_ldc (v := (-1000000)) hx hb hown (hT _ wk_X7_213) dX7_rate_22 ?_
      exact W.iret (v := (-1000000)) hx hb hr (fun t ht hW => ⟨⟨(-1000000), S_5, rfl, h, gB_of ht hP⟩, hS.F ht⟩) hS.2.2 dX7_rate_24

abbrev rm_X7_keep : Room := { frames := 1, cells := 0, slots := 0, locals := 22 }
def q_X7_keep_18 (x1 : Int32) (post : Int32 → CS → Prop) : Nat → Int32 → CS → Prop
  | 0, _, _ => False
  | n9 + 1, y2, S => (21 ≤ y2 → (vp_in x1 2 ∧ (∀ S_6 : CS, S_6 = sti S 11 x1.toNatClampNeg (vp_nar .boolean 1) → (post (S_6.1 8 0) S_6)))) ∧ (¬ (21 ≤ y2) → (vp_in y2 21 ∧ (∀ u_7 : Int32, u_7 = S.1 8 y2.toNatClampNeg → (vp_in ((21 * x1) + y2) 42 ∧ (∀ S_8 : CS, S_8 = sti S 10 (((21 * x1) + y2).toNatClampNeg) u_7 → (∀ x2_9 : Int32, x2_9 = y2 + 1 → (q_X7_keep_18 x1 post n9 x2_9 S_8)))))))
def p_X7_keep (S : CS) (x1 : Int32) (post : Int32 → CS → Prop) : Prop := ∀ S_1 : CS, S_1 = sti S 0 0 0 → (p_X7_in S_1 x1 0 1 (fun r_3 S_2 => ((r_3 = 0 → (post (-1) S_2)) ∧ (¬ (r_3 = 0) → (∃ n, q_X7_keep_18 x1 post n 0 S_2)))))
set_option maxHeartbeats 4000000 in
set_option maxRecDepth 100000 in
theorem c_X7_keep (l : Launch) (D : va_G) (X : XE) (hX : Inj 18 X.1) (sz : Nat) (S : CS) (x1 : Int32) (post : Int32 → CS → Prop) (h : p_X7_keep S x1 post) : Met l yX7_keep (Cond.code yX7_keep cX7_keep 3 (some .int) :: lw_gd) rm_X7_keep (gPc D (tyX X) (RW X) (FXr X) (AX 18 X.1 sz) sz S [.ref (X.1 0), .int x1]) (va_Qi post (gB D (RW X)) (AX 18 X.1 sz)) 0 0 (AX 18 X.1 sz) := by
  refine Met.ofW (cc := cX7_keep) (maxL := 3) (ret := (some .int)) (by decide) rfl ?_
  intro p e s m args below meth c s₁ B hml hv
  obtain ⟨rfl, hsz, hP, hK, hF⟩ := hv
  have hx := B.exec
  have hb := B.bytes
  have hr := B.returns
  have hts := atoms_spec (ws := (Cond.code yX7_keep cX7_keep 3 (some .int) :: lw_gd)) B.pre
  have hT : ∀ w ∈ lw_gd, w.before _ s = true := fun w h9 => hts w (List.mem_cons_of_mem _ h9)
  have hown : s.vm.findClass RX7 = some m.cls := findClass_of_methodNamed B.named
  have hlocks := B.notSynchronized
  subst hsz
  have hS : va_S (AX 18 X.1 s.heap.size) s.heap s.heap [] := va_S.rf
  have W18 : ∀ n1 : Nat, ∀ (y2 : Int32) (S : CS) (H : Heap) (locs : List Loc) (ls : Array Slot), va_P D vwCl (RW X S) H → va_S (AX 18 X.1 s.heap.size) s.heap H locs → lv_has ls 3 [(0, .ref (X.1 0)), (1, .int x1), (2, .int y2)] → q_X7_keep_18 x1 post n1 y2 S → W p l e (headSpec (Cond.code yX7_keep cX7_keep 3 (some .int) :: lw_gd) rm_X7_keep).room s m ([.ref (X.1 0), .int x1] : List Value).toArray below meth c H locs 0 0 (MQ below (va_Qi post (gB D (RW X)) (AX 18 X.1 s.heap.size)) ([.ref (X.1 0), .int x1] : List Value).toArray s 0 0 (AX 18 X.1 s.heap.size)) (F0 m 18 ls []) := by
    intro n1
    induction n1 with
    | zero => intro y2 S H locs ls hP hS hl h; exact h.elim
    | succ n9 ih =>
      intro y2 S H locs ls hP hS hl h
      rw [q_X7_keep_18] at h
      refine lv_iload_n hx hb dX7_keep_18 rfl (lv_at hl 2 rfl) ?_
      refine lv_bipush (v := 21) hx hb dX7_keep_19 (by decide) ?_
      refine lv_icmp_ge (tgt := 47) hx hb dX7_keep_21 (by decide) (fun c_5 => ?_) (fun c_5 => ?_)
      · have h := h.1 c_5
        refine lv_aload_n hx hb dX7_keep_47 rfl (lv_at hl 0 rfl) ?_
        refine va_get (D := D) (ci := 7) (v := .ref (X.1 11)) (C := RX7) (T := TX7) (N := 28) hx hb hT inX7 hown hK hP 0 rw_Model rfl 19 (by decide) (hT _ wf_X7_40) (fun _ h9 => h9) rfl dX7_keep_48 ?_
        refine lv_iload_n hx hb dX7_keep_51 rfl (lv_at hl 1 rfl) ?_
        refine lv_iconst (v := 1) hx hb dX7_keep_52 (by decide) ?_
        obtain ⟨hi, h⟩ := h
        refine g_zast hx hb hK hP (gw_D hX) hS 11 rw_11 rfl hi x1.toNatClampNeg rfl dX7_keep_53 (fun H locs hP hS => ?_)
        have hP := rw_st (j := x1.toNatClampNeg) (x := (vp_nar .boolean 1)) rfl hP
        obtain ⟨S_6, eS_6⟩ : ∃ z : CS, z = sti S 11 x1.toNatClampNeg (vp_nar .boolean 1) := ⟨_, rfl⟩
        rw [← eS_6] at hP
        have h := h S_6 eS_6
        refine lv_aload_n hx hb dX7_keep_54 rfl (lv_at hl 0 rfl) ?_
        refine va_get (D := D) (ci := 7) (v := .ref (X.1 8)) (C := RX7) (T := TX7) (N := 28) hx hb hT inX7 hown hK hP 0 rw_Model rfl 16 (by decide) (hT _ wf_X7_31) (fun _ h9 => h9) rfl dX7_keep_55 ?_
        refine lv_iconst (v := 0) hx hb dX7_keep_58 (by decide) ?_
        refine g_iald hx hb hK hP 8 rw_8 rfl (vpc (by decide)) 0 rfl dX7_keep_59 ?_
        exact W.iret (v := S_6.1 8 0) hx hb hr (fun t ht hW => ⟨⟨S_6.1 8 0, S_6, rfl, h, gB_of ht hP⟩, hS.F ht⟩) hS.2.2 dX7_keep_60
      · have h := h.2 c_5
        refine lv_aload_n hx hb dX7_keep_24 rfl (lv_at hl 0 rfl) ?_
        refine va_get (D := D) (ci := 7) (v := .ref (X.1 10)) (C := RX7) (T := TX7) (N := 28) hx hb hT inX7 hown hK hP 0 rw_Model rfl 18 (by decide) (hT _ wf_X7_37) (fun _ h9 => h9) rfl dX7_keep_25 ?_
        refine lv_bipush (v := 21) hx hb dX7_keep_28 (by decide) ?_
        refine lv_iload_n hx hb dX7_keep_30 rfl (lv_at hl 1 rfl) ?_
        refine lv_imul hx hb dX7_keep_31 ?_
        refine lv_iload_n hx hb dX7_keep_32 rfl (lv_at hl 2 rfl) ?_
        refine lv_iadd hx hb dX7_keep_33 ?_
        refine lv_aload_n hx hb dX7_keep_34 rfl (lv_at hl 0 rfl) ?_
        refine va_get (D := D) (ci := 7) (v := .ref (X.1 8)) (C := RX7) (T := TX7) (N := 28) hx hb hT inX7 hown hK hP 0 rw_Model rfl 16 (by decide) (hT _ wf_X7_31) (fun _ h9 => h9) rfl dX7_keep_35 ?_
        refine lv_iload_n hx hb dX7_keep_38 rfl (lv_at hl 2 rfl) ?_
        obtain ⟨hi, h⟩ := h
        refine g_iald hx hb hK hP 8 rw_8 rfl hi y2.toNatClampNeg rfl dX7_keep_39 ?_
        refine lv_topi (fun u_7 eu_7 => ?_)
        have h := h u_7 eu_7
        obtain ⟨hi, h⟩ := h
        refine g_iast hx hb hK hP (gw_D hX) hS 10 rw_10 rfl hi (((21 * x1) + y2).toNatClampNeg) rfl dX7_keep_40 (fun H locs hP hS => ?_)
        have hP := rw_st (j := ((21 * x1) + y2).toNatClampNeg) (x := u_7) rfl hP
        obtain ⟨S_8, eS_8⟩ : ∃ z : CS, z = sti S 10 (((21 * x1) + y2).toNatClampNeg) u_7 := ⟨_, rfl⟩
        rw [← eS_8] at hP
        have h := h S_8 eS_8
        obtain ⟨x2_9, ex2_9⟩ : ∃ z : Int32, z = y2 + 1 := ⟨_, rfl⟩
        refine lv_iinc (v := x2_9) (lv' := [(2, .int x2_9), (0, .ref (X.1 0)), (1, .int x1)]) hx hb dX7_keep_41 hl (k := 2) rfl (by rw [ex2_9]; rfl) (by decide) rfl (fun ls hl => ?_)
        have h := h x2_9 ex2_9
        refine lv_goto (tgt := 18) hx hb dX7_keep_44 (by decide) ?_
        exact ih x2_9 S_8 H locs ls hP hS (lv_sub hl [1, 2, 0] rfl) h
  have hl := lv_entry ([.ref (X.1 0), .int x1]) (n := 3) (Nat.le_of_ble_eq_true rfl)
  rw [lg_entry_eq]
  generalize (lg_sl ([.ref (X.1 0), .int x1]) ++ List.replicate (3 - (lg_sl ([.ref (X.1 0), .int x1])).length) Slot.unset).toArray = ls at hl ⊢
  have hl : lv_has ls 3 [(0, .ref (X.1 0)), (1, .int x1)] := hl
  obtain ⟨H, hH⟩ : ∃ H : Heap, H = s.heap := ⟨_, rfl⟩
  obtain ⟨locs, hlc⟩ : ∃ q : List Loc, q = [] := ⟨_, rfl⟩
  have hS : va_S (AX 18 X.1 s.heap.size) s.heap H locs := by rw [hH, hlc]; exact hS
  have hP : va_P D vwCl (RW X S) H := by rw [hH]; exact hP
  show W p l e (headSpec (Cond.code yX7_keep cX7_keep 3 (some .int) :: lw_gd) rm_X7_keep).room s m ([.ref (X.1 0), .int x1] : List Value).toArray below meth c s.heap [] 0 0 (MQ below (va_Qi post (gB D (RW X)) (AX 18 X.1 s.heap.size)) ([.ref (X.1 0), .int x1] : List Value).toArray s 0 0 (AX 18 X.1 s.heap.size)) _
  suffices hgo : W p l e (headSpec (Cond.code yX7_keep cX7_keep 3 (some .int) :: lw_gd) rm_X7_keep).room s m ([.ref (X.1 0), .int x1] : List Value).toArray below meth c H locs 0 0 (MQ below (va_Qi post (gB D (RW X)) (AX 18 X.1 s.heap.size)) ([.ref (X.1 0), .int x1] : List Value).toArray s 0 0 (AX 18 X.1 s.heap.size)) (F0 m 0 ls []) from by rw [hH, hlc] at hgo; exact hgo
  unfold p_X7_keep at h
  refine lv_aload_n hx hb dX7_keep_0 rfl (lv_at hl 0 rfl) ?_
  refine lv_iconst (v := 0) hx hb dX7_keep_1 (by decide) ?_
  refine va_put (D := D) (ci := 7) (v := .int 0) (ty := .int) (C := RX7) (T := TX7) (N := 28) hx hb hT inX7 tyX7 tyX7_ok nmX7 hown hK hP (gw_D hX) hS 0 rw_Model rfl 0 (by decide) (hT _ wf_X7_68) (fun _ h9 => h9) rfl (by decide +kernel) rfl rfl (Nat.le_of_ble_eq_true rfl) dX7_keep_2 (fun H locs hP _ hS => ?_)
  have hP := rw_st (j := 0) (x := 0) rfl hP
  obtain ⟨S_1, eS_1⟩ : ∃ z : CS, z = sti S 0 0 0 := ⟨_, rfl⟩
  rw [← eS_1] at hP
  have h := h S_1 eS_1
  refine lv_iload_n hx hb dX7_keep_5 rfl (lv_at hl 1 rfl) ?_
  refine lv_iconst (v := 0) hx hb dX7_keep_6 (by decide) ?_
  refine lv_iconst (v := 1) hx hb dX7_keep_7 (by decide) ?_
  refine rSi (As := [.int x1, .int 0, .int 1]) (rest := []) hX ⟨hx, hb, hml, hown, hT⟩ (c_X7_in l D X hX H.size S_1 x1 0 1 _ h) (gd_S wl_X7_72 wt_X7_in wn_X7 wc_X7_in) hd_X7_in ⟨rfl, rfl⟩ ⟨Nat.le_of_ble_eq_true rfl, Nat.le_of_ble_eq_true rfl⟩ hK hP hS hF rfl hl.1 rfl (Nat.le_of_ble_eq_true rfl) dX7_keep_8 ⟨Nat.zero_le _, Nat.zero_le _⟩ (fun r_3 S_2 H locs h hP hS => ?_)
  refine lv_if_ne (tgt := 16) hx hb dX7_keep_11 (by decide) (fun c_4 => ?_) (fun c_4 => ?_)
  · have h := h.2 c_4
    refine lv_iconst (v := 0) hx hb dX7_keep_16 (by decide) ?_
    refine lv_istore_n (lv' := [(2, .int 0), (0, .ref (X.1 0)), (1, .int x1)]) hx hb dX7_keep_17 rfl hl (by decide) rfl (fun ls hl => ?_)
    obtain ⟨n1, h⟩ := h
    exact W18  n1 0 S_2 H locs ls hP hS (lv_sub hl [1, 2, 0] rfl) h
  · have h := h.1 c_4
    refine lv_iconst (v := (-1)) hx hb dX7_keep_14 (by decide) ?_
    exact W.iret (v := (-1)) hx hb hr (fun t ht hW => ⟨⟨(-1), S_2, rfl, h, gB_of ht hP⟩, hS.F ht⟩) hS.2.2 dX7_keep_15

abbrev rm_X7_back : Room := { frames := 1, cells := 0, slots := 0, locals := 22 }
def q_X7_back_30 (x1 : Int32) (post : Int32 → CS → Prop) : Nat → Int32 → CS → Prop
  | 0, _, _ => False
  | n9 + 1, y2, S => (21 ≤ y2 → (∀ S_7 : CS, S_7 = sti S 0 21 0 → (post (S_7.1 8 0) S_7))) ∧ (¬ (21 ≤ y2) → (vp_in ((21 * x1) + y2) 42 ∧ (∀ u_8 : Int32, u_8 = S.1 10 (((21 * x1) + y2).toNatClampNeg) → (vp_in y2 21 ∧ (∀ S_9 : CS, S_9 = sti S 8 y2.toNatClampNeg u_8 → (∀ x2_10 : Int32, x2_10 = y2 + 1 → (q_X7_back_30 x1 post n9 x2_10 S_9)))))))
def p_X7_back (S : CS) (x1 : Int32) (post : Int32 → CS → Prop) : Prop := ∀ S_1 : CS, S_1 = sti S 0 0 0 → (p_X7_in S_1 x1 0 1 (fun r_3 S_2 => ((r_3 = 0 → (post (-1) S_2)) ∧ (¬ (r_3 = 0) → (vp_in x1 2 ∧ (((S_2.1 11 x1.toNatClampNeg) = 0 → (post (-2) S_2)) ∧ (¬ ((S_2.1 11 x1.toNatClampNeg) = 0) → (∃ n, q_X7_back_30 x1 post n 0 S_2))))))))
set_option maxHeartbeats 4000000 in
set_option maxRecDepth 100000 in
theorem c_X7_back (l : Launch) (D : va_G) (X : XE) (hX : Inj 18 X.1) (sz : Nat) (S : CS) (x1 : Int32) (post : Int32 → CS → Prop) (h : p_X7_back S x1 post) : Met l yX7_back (Cond.code yX7_back cX7_back 3 (some .int) :: lw_gd) rm_X7_back (gPc D (tyX X) (RW X) (FXr X) (AX 18 X.1 sz) sz S [.ref (X.1 0), .int x1]) (va_Qi post (gB D (RW X)) (AX 18 X.1 sz)) 0 0 (AX 18 X.1 sz) := by
  refine Met.ofW (cc := cX7_back) (maxL := 3) (ret := (some .int)) (by decide) rfl ?_
  intro p e s m args below meth c s₁ B hml hv
  obtain ⟨rfl, hsz, hP, hK, hF⟩ := hv
  have hx := B.exec
  have hb := B.bytes
  have hr := B.returns
  have hts := atoms_spec (ws := (Cond.code yX7_back cX7_back 3 (some .int) :: lw_gd)) B.pre
  have hT : ∀ w ∈ lw_gd, w.before _ s = true := fun w h9 => hts w (List.mem_cons_of_mem _ h9)
  have hown : s.vm.findClass RX7 = some m.cls := findClass_of_methodNamed B.named
  have hlocks := B.notSynchronized
  subst hsz
  have hS : va_S (AX 18 X.1 s.heap.size) s.heap s.heap [] := va_S.rf
  have W30 : ∀ n1 : Nat, ∀ (y2 : Int32) (S : CS) (H : Heap) (locs : List Loc) (ls : Array Slot), va_P D vwCl (RW X S) H → va_S (AX 18 X.1 s.heap.size) s.heap H locs → lv_has ls 3 [(0, .ref (X.1 0)), (1, .int x1), (2, .int y2)] → q_X7_back_30 x1 post n1 y2 S → W p l e (headSpec (Cond.code yX7_back cX7_back 3 (some .int) :: lw_gd) rm_X7_back).room s m ([.ref (X.1 0), .int x1] : List Value).toArray below meth c H locs 0 0 (MQ below (va_Qi post (gB D (RW X)) (AX 18 X.1 s.heap.size)) ([.ref (X.1 0), .int x1] : List Value).toArray s 0 0 (AX 18 X.1 s.heap.size)) (F0 m 30 ls []) := by
    intro n1
    induction n1 with
    | zero => intro y2 S H locs ls hP hS hl h; exact h.elim
    | succ n9 ih =>
      intro y2 S H locs ls hP hS hl h
      rw [q_X7_back_30] at h
      refine lv_iload_n hx hb dX7_back_30 rfl (lv_at hl 2 rfl) ?_
      refine lv_bipush (v := 21) hx hb dX7_back_31 (by decide) ?_
      refine lv_icmp_ge (tgt := 59) hx hb dX7_back_33 (by decide) (fun c_6 => ?_) (fun c_6 => ?_)
      · have h := h.1 c_6
        refine lv_aload_n hx hb dX7_back_59 rfl (lv_at hl 0 rfl) ?_
        refine lv_iconst (v := 0) hx hb dX7_back_60 (by decide) ?_
        refine va_put (D := D) (ci := 7) (v := .int 0) (ty := .int) (C := RX7) (T := TX7) (N := 28) hx hb hT inX7 tyX7 tyX7_ok nmX7 hown hK hP (gw_D hX) hS 0 rw_Model rfl 21 (by decide) (hT _ wf_X7_133) (fun _ h9 => h9) rfl (by decide +kernel) rfl rfl (Nat.le_of_ble_eq_true rfl) dX7_back_61 (fun H locs hP _ hS => ?_)
        have hP := rw_st (j := 21) (x := 0) rfl hP
        obtain ⟨S_7, eS_7⟩ : ∃ z : CS, z = sti S 0 21 0 := ⟨_, rfl⟩
        rw [← eS_7] at hP
        have h := h S_7 eS_7
        refine lv_aload_n hx hb dX7_back_64 rfl (lv_at hl 0 rfl) ?_
        refine va_get (D := D) (ci := 7) (v := .ref (X.1 8)) (C := RX7) (T := TX7) (N := 28) hx hb hT inX7 hown hK hP 0 rw_Model rfl 16 (by decide) (hT _ wf_X7_31) (fun _ h9 => h9) rfl dX7_back_65 ?_
        refine lv_iconst (v := 0) hx hb dX7_back_68 (by decide) ?_
        refine g_iald hx hb hK hP 8 rw_8 rfl (vpc (by decide)) 0 rfl dX7_back_69 ?_
        exact W.iret (v := S_7.1 8 0) hx hb hr (fun t ht hW => ⟨⟨S_7.1 8 0, S_7, rfl, h, gB_of ht hP⟩, hS.F ht⟩) hS.2.2 dX7_back_70
      · have h := h.2 c_6
        refine lv_aload_n hx hb dX7_back_36 rfl (lv_at hl 0 rfl) ?_
        refine va_get (D := D) (ci := 7) (v := .ref (X.1 8)) (C := RX7) (T := TX7) (N := 28) hx hb hT inX7 hown hK hP 0 rw_Model rfl 16 (by decide) (hT _ wf_X7_31) (fun _ h9 => h9) rfl dX7_back_37 ?_
        refine lv_iload_n hx hb dX7_back_40 rfl (lv_at hl 2 rfl) ?_
        refine lv_aload_n hx hb dX7_back_41 rfl (lv_at hl 0 rfl) ?_
        refine va_get (D := D) (ci := 7) (v := .ref (X.1 10)) (C := RX7) (T := TX7) (N := 28) hx hb hT inX7 hown hK hP 0 rw_Model rfl 18 (by decide) (hT _ wf_X7_37) (fun _ h9 => h9) rfl dX7_back_42 ?_
        refine lv_bipush (v := 21) hx hb dX7_back_45 (by decide) ?_
        refine lv_iload_n hx hb dX7_back_47 rfl (lv_at hl 1 rfl) ?_
        refine lv_imul hx hb dX7_back_48 ?_
        refine lv_iload_n hx hb dX7_back_49 rfl (lv_at hl 2 rfl) ?_
        refine lv_iadd hx hb dX7_back_50 ?_
        obtain ⟨hi, h⟩ := h
        refine g_iald hx hb hK hP 10 rw_10 rfl hi (((21 * x1) + y2).toNatClampNeg) rfl dX7_back_51 ?_
        refine lv_topi (fun u_8 eu_8 => ?_)
        have h := h u_8 eu_8
        obtain ⟨hi, h⟩ := h
        refine g_iast hx hb hK hP (gw_D hX) hS 8 rw_8 rfl hi y2.toNatClampNeg rfl dX7_back_52 (fun H locs hP hS => ?_)
        have hP := rw_st (j := y2.toNatClampNeg) (x := u_8) rfl hP
        obtain ⟨S_9, eS_9⟩ : ∃ z : CS, z = sti S 8 y2.toNatClampNeg u_8 := ⟨_, rfl⟩
        rw [← eS_9] at hP
        have h := h S_9 eS_9
        obtain ⟨x2_10, ex2_10⟩ : ∃ z : Int32, z = y2 + 1 := ⟨_, rfl⟩
        refine lv_iinc (v := x2_10) (lv' := [(2, .int x2_10), (0, .ref (X.1 0)), (1, .int x1)]) hx hb dX7_back_53 hl (k := 2) rfl (by rw [ex2_10]; rfl) (by decide) rfl (fun ls hl => ?_)
        have h := h x2_10 ex2_10
        refine lv_goto (tgt := 30) hx hb dX7_back_56 (by decide) ?_
        exact ih x2_10 S_9 H locs ls hP hS (lv_sub hl [1, 2, 0] rfl) h
  have hl := lv_entry ([.ref (X.1 0), .int x1]) (n := 3) (Nat.le_of_ble_eq_true rfl)
  rw [lg_entry_eq]
  generalize (lg_sl ([.ref (X.1 0), .int x1]) ++ List.replicate (3 - (lg_sl ([.ref (X.1 0), .int x1])).length) Slot.unset).toArray = ls at hl ⊢
  have hl : lv_has ls 3 [(0, .ref (X.1 0)), (1, .int x1)] := hl
  obtain ⟨H, hH⟩ : ∃ H : Heap, H = s.heap := ⟨_, rfl⟩
  obtain ⟨locs, hlc⟩ : ∃ q : List Loc, q = [] := ⟨_, rfl⟩
  have hS : va_S (AX 18 X.1 s.heap.size) s.heap H locs := by rw [hH, hlc]; exact hS
  have hP : va_P D vwCl (RW X S) H := by rw [hH]; exact hP
  show W p l e (headSpec (Cond.code yX7_back cX7_back 3 (some .int) :: lw_gd) rm_X7_back).room s m ([.ref (X.1 0), .int x1] : List Value).toArray below meth c s.heap [] 0 0 (MQ below (va_Qi post (gB D (RW X)) (AX 18 X.1 s.heap.size)) ([.ref (X.1 0), .int x1] : List Value).toArray s 0 0 (AX 18 X.1 s.heap.size)) _
  suffices hgo : W p l e (headSpec (Cond.code yX7_back cX7_back 3 (some .int) :: lw_gd) rm_X7_back).room s m ([.ref (X.1 0), .int x1] : List Value).toArray below meth c H locs 0 0 (MQ below (va_Qi post (gB D (RW X)) (AX 18 X.1 s.heap.size)) ([.ref (X.1 0), .int x1] : List Value).toArray s 0 0 (AX 18 X.1 s.heap.size)) (F0 m 0 ls []) from by rw [hH, hlc] at hgo; exact hgo
  unfold p_X7_back at h
  refine lv_aload_n hx hb dX7_back_0 rfl (lv_at hl 0 rfl) ?_
  refine lv_iconst (v := 0) hx hb dX7_back_1 (by decide) ?_
  refine va_put (D := D) (ci := 7) (v := .int 0) (ty := .int) (C := RX7) (T := TX7) (N := 28) hx hb hT inX7 tyX7 tyX7_ok nmX7 hown hK hP (gw_D hX) hS 0 rw_Model rfl 0 (by decide) (hT _ wf_X7_68) (fun _ h9 => h9) rfl (by decide +kernel) rfl rfl (Nat.le_of_ble_eq_true rfl) dX7_back_2 (fun H locs hP _ hS => ?_)
  have hP := rw_st (j := 0) (x := 0) rfl hP
  obtain ⟨S_1, eS_1⟩ : ∃ z : CS, z = sti S 0 0 0 := ⟨_, rfl⟩
  rw [← eS_1] at hP
  have h := h S_1 eS_1
  refine lv_iload_n hx hb dX7_back_5 rfl (lv_at hl 1 rfl) ?_
  refine lv_iconst (v := 0) hx hb dX7_back_6 (by decide) ?_
  refine lv_iconst (v := 1) hx hb dX7_back_7 (by decide) ?_
  refine rSi (As := [.int x1, .int 0, .int 1]) (rest := []) hX ⟨hx, hb, hml, hown, hT⟩ (c_X7_in l D X hX H.size S_1 x1 0 1 _ h) (gd_S wl_X7_72 wt_X7_in wn_X7 wc_X7_in) hd_X7_in ⟨rfl, rfl⟩ ⟨Nat.le_of_ble_eq_true rfl, Nat.le_of_ble_eq_true rfl⟩ hK hP hS hF rfl hl.1 rfl (Nat.le_of_ble_eq_true rfl) dX7_back_8 ⟨Nat.zero_le _, Nat.zero_le _⟩ (fun r_3 S_2 H locs h hP hS => ?_)
  refine lv_if_ne (tgt := 16) hx hb dX7_back_11 (by decide) (fun c_4 => ?_) (fun c_4 => ?_)
  · have h := h.2 c_4
    refine lv_aload_n hx hb dX7_back_16 rfl (lv_at hl 0 rfl) ?_
    refine va_get (D := D) (ci := 7) (v := .ref (X.1 11)) (C := RX7) (T := TX7) (N := 28) hx hb hT inX7 hown hK hP 0 rw_Model rfl 19 (by decide) (hT _ wf_X7_40) (fun _ h9 => h9) rfl dX7_back_17 ?_
    refine lv_iload_n hx hb dX7_back_20 rfl (lv_at hl 1 rfl) ?_
    obtain ⟨hi, h⟩ := h
    refine g_zald hx hb hK hP 11 rw_11 rfl hi x1.toNatClampNeg rfl dX7_back_21 ?_
    refine lv_if_ne (tgt := 28) hx hb dX7_back_22 (by decide) (fun c_5 => ?_) (fun c_5 => ?_)
    · have h := h.2 c_5
      refine lv_iconst (v := 0) hx hb dX7_back_28 (by decide) ?_
      refine lv_istore_n (lv' := [(2, .int 0), (0, .ref (X.1 0)), (1, .int x1)]) hx hb dX7_back_29 rfl hl (by decide) rfl (fun ls hl => ?_)
      obtain ⟨n1, h⟩ := h
      exact W30  n1 0 S_2 H locs ls hP hS (lv_sub hl [1, 2, 0] rfl) h
    · have h := h.1 c_5
      refine lv_bipush (v := (-2)) hx hb dX7_back_25 (by decide) ?_
      exact W.iret (v := (-2)) hx hb hr (fun t ht hW => ⟨⟨(-2), S_2, rfl, h, gB_of ht hP⟩, hS.F ht⟩) hS.2.2 dX7_back_27
  · have h := h.1 c_4
    refine lv_iconst (v := (-1)) hx hb dX7_back_14 (by decide) ?_
    exact W.iret (v := (-1)) hx hb hr (fun t ht hW => ⟨⟨(-1), S_2, rfl, h, gB_of ht hP⟩, hS.F ht⟩) hS.2.2 dX7_back_15

abbrev rm_X7_count : Room := { frames := 1, cells := 0, slots := 0, locals := 22 }
def p_X7_count (S : CS) (x1 : Int32) (post : Int32 → CS → Prop) : Prop := ∀ S_1 : CS, S_1 = sti S 0 0 0 → (p_X7_in S_1 x1 0 5 (fun r_3 S_2 => ((r_3 = 0 → ((x1 = 6 → (post (S_2.1 0 25) S_2)) ∧ (¬ (x1 = 6) → ((x1 = 7 → (post (S_2.1 0 3) S_2)) ∧ (¬ (x1 = 7) → (post (-1) S_2)))))) ∧ (¬ (r_3 = 0) → (vp_in x1 12 ∧ (post (S_2.1 2 x1.toNatClampNeg) S_2))))))
set_option maxHeartbeats 4000000 in
set_option maxRecDepth 100000 in
theorem c_X7_count (l : Launch) (D : va_G) (X : XE) (hX : Inj 18 X.1) (sz : Nat) (S : CS) (x1 : Int32) (post : Int32 → CS → Prop) (h : p_X7_count S x1 post) : Met l yX7_count (Cond.code yX7_count cX7_count 2 (some .int) :: lw_gd) rm_X7_count (gPc D (tyX X) (RW X) (FXr X) (AX 18 X.1 sz) sz S [.ref (X.1 0), .int x1]) (va_Qi post (gB D (RW X)) (AX 18 X.1 sz)) 0 0 (AX 18 X.1 sz) := by
  refine Met.ofW (cc := cX7_count) (maxL := 2) (ret := (some .int)) (by decide) rfl ?_
  intro p e s m args below meth c s₁ B hml hv
  obtain ⟨rfl, hsz, hP, hK, hF⟩ := hv
  have hx := B.exec
  have hb := B.bytes
  have hr := B.returns
  have hts := atoms_spec (ws := (Cond.code yX7_count cX7_count 2 (some .int) :: lw_gd)) B.pre
  have hT : ∀ w ∈ lw_gd, w.before _ s = true := fun w h9 => hts w (List.mem_cons_of_mem _ h9)
  have hown : s.vm.findClass RX7 = some m.cls := findClass_of_methodNamed B.named
  have hlocks := B.notSynchronized
  subst hsz
  have hS : va_S (AX 18 X.1 s.heap.size) s.heap s.heap [] := va_S.rf
  have hl := lv_entry ([.ref (X.1 0), .int x1]) (n := 2) (Nat.le_of_ble_eq_true rfl)
  rw [lg_entry_eq]
  generalize (lg_sl ([.ref (X.1 0), .int x1]) ++ List.replicate (2 - (lg_sl ([.ref (X.1 0), .int x1])).length) Slot.unset).toArray = ls at hl ⊢
  have hl : lv_has ls 2 [(0, .ref (X.1 0)), (1, .int x1)] := hl
  obtain ⟨H, hH⟩ : ∃ H : Heap, H = s.heap := ⟨_, rfl⟩
  obtain ⟨locs, hlc⟩ : ∃ q : List Loc, q = [] := ⟨_, rfl⟩
  have hS : va_S (AX 18 X.1 s.heap.size) s.heap H locs := by rw [hH, hlc]; exact hS
  have hP : va_P D vwCl (RW X S) H := by rw [hH]; exact hP
  show W p l e (headSpec (Cond.code yX7_count cX7_count 2 (some .int) :: lw_gd) rm_X7_count).room s m ([.ref (X.1 0), .int x1] : List Value).toArray below meth c s.heap [] 0 0 (MQ below (va_Qi post (gB D (RW X)) (AX 18 X.1 s.heap.size)) ([.ref (X.1 0), .int x1] : List Value).toArray s 0 0 (AX 18 X.1 s.heap.size)) _
  suffices hgo : W p l e (headSpec (Cond.code yX7_count cX7_count 2 (some .int) :: lw_gd) rm_X7_count).room s m ([.ref (X.1 0), .int x1] : List Value).toArray below meth c H locs 0 0 (MQ below (va_Qi post (gB D (RW X)) (AX 18 X.1 s.heap.size)) ([.ref (X.1 0), .int x1] : List Value).toArray s 0 0 (AX 18 X.1 s.heap.size)) (F0 m 0 ls []) from by rw [hH, hlc] at hgo; exact hgo
  unfold p_X7_count at h
  refine lv_aload_n hx hb dX7_count_0 rfl (lv_at hl 0 rfl) ?_
  refine lv_iconst (v := 0) hx hb dX7_count_1 (by decide) ?_
  refine va_put (D := D) (ci := 7) (v := .int 0) (ty := .int) (C := RX7) (T := TX7) (N := 28) hx hb hT inX7 tyX7 tyX7_ok nmX7 hown hK hP (gw_D hX) hS 0 rw_Model rfl 0 (by decide) (hT _ wf_X7_68) (fun _ h9 => h9) rfl (by decide +kernel) rfl rfl (Nat.le_of_ble_eq_true rfl) dX7_count_2 (fun H locs hP _ hS => ?_)
  have hP := rw_st (j := 0) (x := 0) rfl hP
  obtain ⟨S_1, eS_1⟩ : ∃ z : CS, z = sti S 0 0 0 := ⟨_, rfl⟩
  rw [← eS_1] at hP
  have h := h S_1 eS_1
  refine lv_iload_n hx hb dX7_count_5 rfl (lv_at hl 1 rfl) ?_
  refine lv_iconst (v := 0) hx hb dX7_count_6 (by decide) ?_
  refine lv_iconst (v := 5) hx hb dX7_count_7 (by decide) ?_
  refine rSi (As := [.int x1, .int 0, .int 5]) (rest := []) hX ⟨hx, hb, hml, hown, hT⟩ (c_X7_in l D X hX H.size S_1 x1 0 5 _ h) (gd_S wl_X7_72 wt_X7_in wn_X7 wc_X7_in) hd_X7_in ⟨rfl, rfl⟩ ⟨Nat.le_of_ble_eq_true rfl, Nat.le_of_ble_eq_true rfl⟩ hK hP hS hF rfl hl.1 rfl (Nat.le_of_ble_eq_true rfl) dX7_count_8 ⟨Nat.zero_le _, Nat.zero_le _⟩ (fun r_3 S_2 H locs h hP hS => ?_)
  refine lv_if_eq (tgt := 23) hx hb dX7_count_11 (by decide) (fun c_4 => ?_) (fun c_4 => ?_)
  · have h := h.1 c_4
    refine lv_iload_n hx hb dX7_count_23 rfl (lv_at hl 1 rfl) ?_
    refine lv_bipush (v := 6) hx hb dX7_count_24 (by decide) ?_
    refine lv_icmp_ne (tgt := 36) hx hb dX7_count_26 (by decide) (fun c_5 => ?_) (fun c_5 => ?_)
    · have h := h.2 c_5
      refine lv_iload_n hx hb dX7_count_36 rfl (lv_at hl 1 rfl) ?_
      refine lv_bipush (v := 7) hx hb dX7_count_37 (by decide) ?_
      refine lv_icmp_ne (tgt := 49) hx hb dX7_count_39 (by decide) (fun c_6 => ?_) (fun c_6 => ?_)
      · have h := h.2 c_6
        refine lv_iconst (v := (-1)) hx hb dX7_count_49 (by decide) ?_
        exact W.iret (v := (-1)) hx hb hr (fun t ht hW => ⟨⟨(-1), S_2, rfl, h, gB_of ht hP⟩, hS.F ht⟩) hS.2.2 dX7_count_50
      · have h := h.1 c_6
        refine lv_aload_n hx hb dX7_count_42 rfl (lv_at hl 0 rfl) ?_
        refine va_get (D := D) (ci := 7) (v := .int (S_2.1 0 3)) (C := RX7) (T := TX7) (N := 28) hx hb hT inX7 hown hK hP 0 rw_Model rfl 3 (by decide) (hT _ wf_X7_76) (fun _ h9 => h9) rfl dX7_count_43 ?_
        refine lv_goto (tgt := 50) hx hb dX7_count_46 (by decide) ?_
        exact W.iret (v := S_2.1 0 3) hx hb hr (fun t ht hW => ⟨⟨S_2.1 0 3, S_2, rfl, h, gB_of ht hP⟩, hS.F ht⟩) hS.2.2 dX7_count_50
    · have h := h.1 c_5
      refine lv_aload_n hx hb dX7_count_29 rfl (lv_at hl 0 rfl) ?_
      refine va_get (D := D) (ci := 7) (v := .int (S_2.1 0 25)) (C := RX7) (T := TX7) (N := 28) hx hb hT inX7 hown hK hP 0 rw_Model rfl 25 (by decide) (hT _ wf_X7_130) (fun _ h9 => h9) rfl dX7_count_30 ?_
      refine lv_goto (tgt := 50) hx hb dX7_count_33 (by decide) ?_
      exact W.iret (v := S_2.1 0 25) hx hb hr (fun t ht hW => ⟨⟨S_2.1 0 25, S_2, rfl, h, gB_of ht hP⟩, hS.F ht⟩) hS.2.2 dX7_count_50
  · have h := h.2 c_4
    refine lv_aload_n hx hb dX7_count_14 rfl (lv_at hl 0 rfl) ?_
    refine va_get (D := D) (ci := 7) (v := .ref (X.1 2)) (C := RX7) (T := TX7) (N := 28) hx hb hT inX7 hown hK hP 0 rw_Model rfl 9 (by decide) (hT _ wf_X7_13) (fun _ h9 => h9) rfl dX7_count_15 ?_
    refine lv_iload_n hx hb dX7_count_18 rfl (lv_at hl 1 rfl) ?_
    obtain ⟨hi, h⟩ := h
    refine g_iald hx hb hK hP 2 rw_2 rfl hi x1.toNatClampNeg rfl dX7_count_19 ?_
    refine lv_goto (tgt := 50) hx hb dX7_count_20 (by decide) ?_
    exact W.iret (v := S_2.1 2 x1.toNatClampNeg) hx hb hr (fun t ht hW => ⟨⟨S_2.1 2 x1.toNatClampNeg, S_2, rfl, h, gB_of ht hP⟩, hS.F ht⟩) hS.2.2 dX7_count_50

abbrev rm_X7_trace : Room := { frames := 0, cells := 0, slots := 0, locals := 0 }
def p_X7_trace (S : CS)  (post : Int64 → CS → Prop) : Prop := ∀ S_1 : CS, S_1 = sti S 0 0 0 → (post S_1.2.2.2 S_1)
set_option maxHeartbeats 4000000 in
set_option maxRecDepth 100000 in
theorem c_X7_trace (l : Launch) (D : va_G) (X : XE) (hX : Inj 18 X.1) (sz : Nat) (S : CS)  (post : Int64 → CS → Prop) (h : p_X7_trace S  post) : Met l yX7_trace (Cond.code yX7_trace cX7_trace 1 (some .long) :: lw_gd) rm_X7_trace (gPc D (tyX X) (RW X) (FXr X) (AX 18 X.1 sz) sz S [.ref (X.1 0)]) (va_Ql post (gB D (RW X)) (AX 18 X.1 sz)) 0 0 (AX 18 X.1 sz) := by
  refine Met.ofW (cc := cX7_trace) (maxL := 1) (ret := (some .long)) (by decide) rfl ?_
  intro p e s m args below meth c s₁ B hml hv
  obtain ⟨rfl, hsz, hP, hK, hF⟩ := hv
  have hx := B.exec
  have hb := B.bytes
  have hr := B.returns
  have hts := atoms_spec (ws := (Cond.code yX7_trace cX7_trace 1 (some .long) :: lw_gd)) B.pre
  have hT : ∀ w ∈ lw_gd, w.before _ s = true := fun w h9 => hts w (List.mem_cons_of_mem _ h9)
  have hown : s.vm.findClass RX7 = some m.cls := findClass_of_methodNamed B.named
  have hlocks := B.notSynchronized
  subst hsz
  have hS : va_S (AX 18 X.1 s.heap.size) s.heap s.heap [] := va_S.rf
  have hl := lv_entry ([.ref (X.1 0)]) (n := 1) (Nat.le_of_ble_eq_true rfl)
  rw [lg_entry_eq]
  generalize (lg_sl ([.ref (X.1 0)]) ++ List.replicate (1 - (lg_sl ([.ref (X.1 0)])).length) Slot.unset).toArray = ls at hl ⊢
  have hl : lv_has ls 1 [(0, .ref (X.1 0))] := hl
  obtain ⟨H, hH⟩ : ∃ H : Heap, H = s.heap := ⟨_, rfl⟩
  obtain ⟨locs, hlc⟩ : ∃ q : List Loc, q = [] := ⟨_, rfl⟩
  have hS : va_S (AX 18 X.1 s.heap.size) s.heap H locs := by rw [hH, hlc]; exact hS
  have hP : va_P D vwCl (RW X S) H := by rw [hH]; exact hP
  show W p l e (headSpec (Cond.code yX7_trace cX7_trace 1 (some .long) :: lw_gd) rm_X7_trace).room s m ([.ref (X.1 0)] : List Value).toArray below meth c s.heap [] 0 0 (MQ below (va_Ql post (gB D (RW X)) (AX 18 X.1 s.heap.size)) ([.ref (X.1 0)] : List Value).toArray s 0 0 (AX 18 X.1 s.heap.size)) _
  suffices hgo : W p l e (headSpec (Cond.code yX7_trace cX7_trace 1 (some .long) :: lw_gd) rm_X7_trace).room s m ([.ref (X.1 0)] : List Value).toArray below meth c H locs 0 0 (MQ below (va_Ql post (gB D (RW X)) (AX 18 X.1 s.heap.size)) ([.ref (X.1 0)] : List Value).toArray s 0 0 (AX 18 X.1 s.heap.size)) (F0 m 0 ls []) from by rw [hH, hlc] at hgo; exact hgo
  unfold p_X7_trace at h
  refine lv_aload_n hx hb dX7_trace_0 rfl (lv_at hl 0 rfl) ?_
  refine lv_iconst (v := 0) hx hb dX7_trace_1 (by decide) ?_
  refine va_put (D := D) (ci := 7) (v := .int 0) (ty := .int) (C := RX7) (T := TX7) (N := 28) hx hb hT inX7 tyX7 tyX7_ok nmX7 hown hK hP (gw_D hX) hS 0 rw_Model rfl 0 (by decide) (hT _ wf_X7_68) (fun _ h9 => h9) rfl (by decide +kernel) rfl rfl (Nat.le_of_ble_eq_true rfl) dX7_trace_2 (fun H locs hP _ hS => ?_)
  have hP := rw_st (j := 0) (x := 0) rfl hP
  obtain ⟨S_1, eS_1⟩ : ∃ z : CS, z = sti S 0 0 0 := ⟨_, rfl⟩
  rw [← eS_1] at hP
  have h := h S_1 eS_1
  refine lv_aload_n hx hb dX7_trace_5 rfl (lv_at hl 0 rfl) ?_
  refine va_get (D := D) (ci := 7) (v := .long S_1.2.2.2) (C := RX7) (T := TX7) (N := 28) hx hb hT inX7 hown hK hP 0 rw_Model rfl 1 (by decide) (hT _ wf_X7_214) (fun _ h9 => h9) rfl dX7_trace_6 ?_
  exact W.lret (v := S_1.2.2.2) hx hb hr (fun t ht hW => ⟨⟨S_1.2.2.2, S_1, rfl, h, gB_of ht hP⟩, hS.F ht⟩) hS.2.2 dX7_trace_9
