def tce (X : XE) (k : Nat) (f : Nat → Int32) : va_E := match k with
  | 0 => .inr (5, [.ref (X.1 1), .ref (X.1 2)])
  | 1 => ia X 6 f
  | _ => ia X 54 f
abbrev TW (X : XE) (S : CS) : va_W := GW 3 X.1 (tce X) S.1
theorem tw_0 {X : XE} {S : CS} : (TW X S)[0]? = some (X.1 0, .inr (5, [.ref (X.1 1), .ref (X.1 2)])) := gw_at (by decide) rfl
theorem tw_1 {X : XE} {S : CS} : (TW X S)[1]? = some (X.1 1, ia X 6 (S.1 1)) := gw_at (by decide) rfl
theorem tw_2 {X : XE} {S : CS} : (TW X S)[2]? = some (X.1 2, ia X 54 (S.1 2)) := gw_at (by decide) rfl
theorem tw_st {X : XE} {S : CS} {D : va_G} {H : Heap} {k j : Nat} {x : Int32} {e : va_E} (he : tce X k (upd (S.1 k) j x) = e) (h : va_P D vwCl ((TW X S).set k (X.1 k, e)) H) : va_P D vwCl (TW X (sti S k j x)) H := by
  rw [gw_set he] at h
  exact h
abbrev rm_X5T_setAsAtFirst : Room := { frames := 0, cells := 0, slots := 0, locals := 0 }
def q_X5T_setAsAtFirst_31  (K23 : Int32 → CS → Prop) (post : CS → Prop) : Nat → Int32 → Int32 → CS → Prop
  | 0, _, _, _ => False
  | n9 + 1, y1, y2, S => (6 ≤ y2 → (∀ x1_4 : Int32, x1_4 = y1 + 1 → (K23 x1_4 S))) ∧ (¬ (6 ≤ y2) → (vp_in y1 9 ∧ (∀ u_5 : Int32, u_5 = (([0, 0, 0, 0, 0, 9, 3, 11, 9] : List Int32).getD y1.toNatClampNeg 0) → (vp_in ((y1 * 6) + y2) 54 ∧ (∀ S_6 : CS, S_6 = sti S 2 (((y1 * 6) + y2).toNatClampNeg) u_5 → (∀ x2_7 : Int32, x2_7 = y2 + 1 → (q_X5T_setAsAtFirst_31 K23 post n9 y1 x2_7 S_6)))))))
def q_X5T_setAsAtFirst_23  (post : CS → Prop) : Nat → Int32 → CS → Prop
  | 0, _, _ => False
  | n9 + 1, y1, S => (9 ≤ y1 → (post S)) ∧ (¬ (9 ≤ y1) → (∃ n, q_X5T_setAsAtFirst_31 (fun y1' S9 => q_X5T_setAsAtFirst_23 post n9 y1' S9) post n y1 0 S))
def q_X5T_setAsAtFirst_2  (post : CS → Prop) : Nat → Int32 → CS → Prop
  | 0, _, _ => False
  | n9 + 1, y1, S => (6 ≤ y1 → (∃ n, q_X5T_setAsAtFirst_23 post n 0 S)) ∧ (¬ (6 ≤ y1) → (vp_in y1 6 ∧ (∀ S_8 : CS, S_8 = sti S 1 y1.toNatClampNeg 0 → (∀ x1_9 : Int32, x1_9 = y1 + 1 → (q_X5T_setAsAtFirst_2 post n9 x1_9 S_8)))))
def p_X5T_setAsAtFirst (S : CS)  (post : CS → Prop) : Prop := ∃ n, q_X5T_setAsAtFirst_2 post n 0 S
set_option maxHeartbeats 4000000 in
set_option maxRecDepth 100000 in
theorem c_X5T_setAsAtFirst (l : Launch) (D : va_G) (X : XE) (hX : Inj 3 X.1) (sz : Nat) (S : CS)  (post : CS → Prop) (h : p_X5T_setAsAtFirst S  post) : Met l yX5_setAsAtFirst (Cond.code yX5_setAsAtFirst cX5_setAsAtFirst 3 none :: lw_gd) rm_X5T_setAsAtFirst (gPc D (tyX X) (TW X) (FXc X) (AX 3 X.1 sz) sz S [.ref (X.1 0)]) (va_Qv post (gB D (TW X)) (AX 3 X.1 sz)) 0 0 (AX 3 X.1 sz) := by
  refine Met.ofW (cc := cX5_setAsAtFirst) (maxL := 3) (ret := none) (by decide) rfl ?_
  intro p e s m args below meth c s₁ B hml hv
  obtain ⟨rfl, hsz, hP, hK, hF⟩ := hv
  have hx := B.exec
  have hb := B.bytes
  have hr := B.returns
  have hts := atoms_spec (ws := (Cond.code yX5_setAsAtFirst cX5_setAsAtFirst 3 none :: lw_gd)) B.pre
  have hT : ∀ w ∈ lw_gd, w.before _ s = true := fun w h9 => hts w (List.mem_cons_of_mem _ h9)
  have hown : s.vm.findClass RX5 = some m.cls := findClass_of_methodNamed B.named
  have hlocks := B.notSynchronized
  subst hsz
  have hS : va_S (AX 3 X.1 s.heap.size) s.heap s.heap [] := va_S.rf
  have W31 : ∀ (K23 : Int32 → CS → Prop), (∀ (y1 : Int32) (S : CS) (H : Heap) (locs : List Loc) (ls : Array Slot), va_P D vwCl (TW X S) H → va_S (AX 3 X.1 s.heap.size) s.heap H locs → lv_has ls 3 [(0, .ref (X.1 0)), (1, .int y1)] → K23 y1 S → W p l e (headSpec (Cond.code yX5_setAsAtFirst cX5_setAsAtFirst 3 none :: lw_gd) rm_X5T_setAsAtFirst).room s m ([.ref (X.1 0)] : List Value).toArray below meth c H locs 0 0 (MQ below (va_Qv post (gB D (TW X)) (AX 3 X.1 s.heap.size)) ([.ref (X.1 0)] : List Value).toArray s 0 0 (AX 3 X.1 s.heap.size)) (F0 m 23 ls [])) → ∀ n1 : Nat, ∀ (y1 : Int32) (y2 : Int32) (S : CS) (H : Heap) (locs : List Loc) (ls : Array Slot), va_P D vwCl (TW X S) H → va_S (AX 3 X.1 s.heap.size) s.heap H locs → lv_has ls 3 [(0, .ref (X.1 0)), (1, .int y1), (2, .int y2)] → q_X5T_setAsAtFirst_31 K23 post n1 y1 y2 S → W p l e (headSpec (Cond.code yX5_setAsAtFirst cX5_setAsAtFirst 3 none :: lw_gd) rm_X5T_setAsAtFirst).room s m ([.ref (X.1 0)] : List Value).toArray below meth c H locs 0 0 (MQ below (va_Qv post (gB D (TW X)) (AX 3 X.1 s.heap.size)) ([.ref (X.1 0)] : List Value).toArray s 0 0 (AX 3 X.1 s.heap.size)) (F0 m 31 ls []) := by
    intro K23 hK23
    intro n1
    induction n1 with
    | zero => intro y1 y2 S H locs ls hP hS hl h; exact h.elim
    | succ n9 ih =>
      intro y1 y2 S H locs ls hP hS hl h
      rw [q_X5T_setAsAtFirst_31] at h
      refine lv_iload_n hx hb dX5_setAsAtFirst_31 rfl (lv_at hl 2 rfl) ?_
      refine lv_bipush (v := 6) hx hb dX5_setAsAtFirst_32 (by decide) ?_
      refine lv_icmp_ge (tgt := 59) hx hb dX5_setAsAtFirst_34 (by decide) (fun c_3 => ?_) (fun c_3 => ?_)
      · have h := h.1 c_3
        obtain ⟨x1_4, ex1_4⟩ : ∃ z : Int32, z = y1 + 1 := ⟨_, rfl⟩
        refine lv_iinc (v := x1_4) (lv' := [(1, .int x1_4), (0, .ref (X.1 0)), (2, .int y2)]) hx hb dX5_setAsAtFirst_59 hl (k := 1) rfl (by rw [ex1_4]; rfl) (by decide) rfl (fun ls hl => ?_)
        have h := h x1_4 ex1_4
        refine lv_goto (tgt := 23) hx hb dX5_setAsAtFirst_62 (by decide) ?_
        exact hK23 x1_4 S H locs ls hP hS (lv_sub hl [1, 0] rfl) h
      · have h := h.2 c_3
        refine lv_aload_n hx hb dX5_setAsAtFirst_37 rfl (lv_at hl 0 rfl) ?_
        refine va_get (D := D) (ci := 5) (v := .ref (X.1 2)) (C := RX5) (T := TX5) (N := 2) hx hb hT inX5 hown hK hP 0 tw_0 rfl 1 (by decide) (hT _ wf_X5_13) (fun _ h9 => h9) rfl dX5_setAsAtFirst_38 ?_
        refine lv_iload_n hx hb dX5_setAsAtFirst_41 rfl (lv_at hl 1 rfl) ?_
        refine lv_bipush (v := 6) hx hb dX5_setAsAtFirst_42 (by decide) ?_
        refine lv_imul hx hb dX5_setAsAtFirst_44 ?_
        refine lv_iload_n hx hb dX5_setAsAtFirst_45 rfl (lv_at hl 2 rfl) ?_
        refine lv_iadd hx hb dX5_setAsAtFirst_46 ?_
        refine va_gets hx hb hF.2.1.1 hS hown (hT _ wf_X5_73) (fun _ h9 => h9) dX5_setAsAtFirst_47 ?_
        refine lv_iload_n hx hb dX5_setAsAtFirst_50 rfl (lv_at hl 1 rfl) ?_
        obtain ⟨hi, h⟩ := h
        refine g_tald hx hb hF.2.1.2 hS hi y1.toNatClampNeg rfl dX5_setAsAtFirst_51 ?_
        refine lv_topi (fun u_5 eu_5 => ?_)
        have h := h u_5 eu_5
        obtain ⟨hi, h⟩ := h
        refine g_iast hx hb hK hP (gw_D hX) hS 2 tw_2 rfl hi (((y1 * 6) + y2).toNatClampNeg) rfl dX5_setAsAtFirst_52 (fun H locs hP hS => ?_)
        have hP := tw_st (j := ((y1 * 6) + y2).toNatClampNeg) (x := u_5) rfl hP
        obtain ⟨S_6, eS_6⟩ : ∃ z : CS, z = sti S 2 (((y1 * 6) + y2).toNatClampNeg) u_5 := ⟨_, rfl⟩
        rw [← eS_6] at hP
        have h := h S_6 eS_6
        obtain ⟨x2_7, ex2_7⟩ : ∃ z : Int32, z = y2 + 1 := ⟨_, rfl⟩
        refine lv_iinc (v := x2_7) (lv' := [(2, .int x2_7), (0, .ref (X.1 0)), (1, .int y1)]) hx hb dX5_setAsAtFirst_53 hl (k := 2) rfl (by rw [ex2_7]; rfl) (by decide) rfl (fun ls hl => ?_)
        have h := h x2_7 ex2_7
        refine lv_goto (tgt := 31) hx hb dX5_setAsAtFirst_56 (by decide) ?_
        exact ih y1 x2_7 S_6 H locs ls hP hS (lv_sub hl [1, 2, 0] rfl) h
  have W23 : ∀ n1 : Nat, ∀ (y1 : Int32) (S : CS) (H : Heap) (locs : List Loc) (ls : Array Slot), va_P D vwCl (TW X S) H → va_S (AX 3 X.1 s.heap.size) s.heap H locs → lv_has ls 3 [(0, .ref (X.1 0)), (1, .int y1)] → q_X5T_setAsAtFirst_23 post n1 y1 S → W p l e (headSpec (Cond.code yX5_setAsAtFirst cX5_setAsAtFirst 3 none :: lw_gd) rm_X5T_setAsAtFirst).room s m ([.ref (X.1 0)] : List Value).toArray below meth c H locs 0 0 (MQ below (va_Qv post (gB D (TW X)) (AX 3 X.1 s.heap.size)) ([.ref (X.1 0)] : List Value).toArray s 0 0 (AX 3 X.1 s.heap.size)) (F0 m 23 ls []) := by
    intro n1
    induction n1 with
    | zero => intro y1 S H locs ls hP hS hl h; exact h.elim
    | succ n9 ih =>
      intro y1 S H locs ls hP hS hl h
      rw [q_X5T_setAsAtFirst_23] at h
      refine lv_iload_n hx hb dX5_setAsAtFirst_23 rfl (lv_at hl 1 rfl) ?_
      refine lv_bipush (v := 9) hx hb dX5_setAsAtFirst_24 (by decide) ?_
      refine lv_icmp_ge (tgt := 65) hx hb dX5_setAsAtFirst_26 (by decide) (fun c_2 => ?_) (fun c_2 => ?_)
      · have h := h.1 c_2
        exact W.vret hx hb hr (fun t ht hW => ⟨⟨S, rfl, h, gB_of ht hP⟩, hS.F ht⟩) hS.2.2 dX5_setAsAtFirst_65
      · have h := h.2 c_2
        refine lv_iconst (v := 0) hx hb dX5_setAsAtFirst_29 (by decide) ?_
        refine lv_istore_n (lv' := [(2, .int 0), (0, .ref (X.1 0)), (1, .int y1)]) hx hb dX5_setAsAtFirst_30 rfl hl (by decide) rfl (fun ls hl => ?_)
        obtain ⟨n1, h⟩ := h
        exact W31 (fun y1' S9 => q_X5T_setAsAtFirst_23 post n9 y1' S9) ih n1 y1 0 S H locs ls hP hS (lv_sub hl [1, 2, 0] rfl) h
  have W2 : ∀ n1 : Nat, ∀ (y1 : Int32) (S : CS) (H : Heap) (locs : List Loc) (ls : Array Slot), va_P D vwCl (TW X S) H → va_S (AX 3 X.1 s.heap.size) s.heap H locs → lv_has ls 3 [(0, .ref (X.1 0)), (1, .int y1)] → q_X5T_setAsAtFirst_2 post n1 y1 S → W p l e (headSpec (Cond.code yX5_setAsAtFirst cX5_setAsAtFirst 3 none :: lw_gd) rm_X5T_setAsAtFirst).room s m ([.ref (X.1 0)] : List Value).toArray below meth c H locs 0 0 (MQ below (va_Qv post (gB D (TW X)) (AX 3 X.1 s.heap.size)) ([.ref (X.1 0)] : List Value).toArray s 0 0 (AX 3 X.1 s.heap.size)) (F0 m 2 ls []) := by
    intro n1
    induction n1 with
    | zero => intro y1 S H locs ls hP hS hl h; exact h.elim
    | succ n9 ih =>
      intro y1 S H locs ls hP hS hl h
      rw [q_X5T_setAsAtFirst_2] at h
      refine lv_iload_n hx hb dX5_setAsAtFirst_2 rfl (lv_at hl 1 rfl) ?_
      refine lv_bipush (v := 6) hx hb dX5_setAsAtFirst_3 (by decide) ?_
      refine lv_icmp_ge (tgt := 21) hx hb dX5_setAsAtFirst_5 (by decide) (fun c_1 => ?_) (fun c_1 => ?_)
      · have h := h.1 c_1
        refine lv_iconst (v := 0) hx hb dX5_setAsAtFirst_21 (by decide) ?_
        refine lv_istore_n (lv' := [(1, .int 0), (0, .ref (X.1 0))]) hx hb dX5_setAsAtFirst_22 rfl hl (by decide) rfl (fun ls hl => ?_)
        obtain ⟨n1, h⟩ := h
        exact W23  n1 0 S H locs ls hP hS (lv_sub hl [1, 0] rfl) h
      · have h := h.2 c_1
        refine lv_aload_n hx hb dX5_setAsAtFirst_8 rfl (lv_at hl 0 rfl) ?_
        refine va_get (D := D) (ci := 5) (v := .ref (X.1 1)) (C := RX5) (T := TX5) (N := 2) hx hb hT inX5 hown hK hP 0 tw_0 rfl 0 (by decide) (hT _ wf_X5_9) (fun _ h9 => h9) rfl dX5_setAsAtFirst_9 ?_
        refine lv_iload_n hx hb dX5_setAsAtFirst_12 rfl (lv_at hl 1 rfl) ?_
        refine lv_iconst (v := 0) hx hb dX5_setAsAtFirst_13 (by decide) ?_
        obtain ⟨hi, h⟩ := h
        refine g_iast hx hb hK hP (gw_D hX) hS 1 tw_1 rfl hi y1.toNatClampNeg rfl dX5_setAsAtFirst_14 (fun H locs hP hS => ?_)
        have hP := tw_st (j := y1.toNatClampNeg) (x := 0) rfl hP
        obtain ⟨S_8, eS_8⟩ : ∃ z : CS, z = sti S 1 y1.toNatClampNeg 0 := ⟨_, rfl⟩
        rw [← eS_8] at hP
        have h := h S_8 eS_8
        obtain ⟨x1_9, ex1_9⟩ : ∃ z : Int32, z = y1 + 1 := ⟨_, rfl⟩
        refine lv_iinc (v := x1_9) (lv' := [(1, .int x1_9), (0, .ref (X.1 0))]) hx hb dX5_setAsAtFirst_15 hl (k := 1) rfl (by rw [ex1_9]; rfl) (by decide) rfl (fun ls hl => ?_)
        have h := h x1_9 ex1_9
        refine lv_goto (tgt := 2) hx hb dX5_setAsAtFirst_18 (by decide) ?_
        exact ih x1_9 S_8 H locs ls hP hS (lv_sub hl [1, 0] rfl) h
  have hl := lv_entry ([.ref (X.1 0)]) (n := 3) (Nat.le_of_ble_eq_true rfl)
  rw [lg_entry_eq]
  generalize (lg_sl ([.ref (X.1 0)]) ++ List.replicate (3 - (lg_sl ([.ref (X.1 0)])).length) Slot.unset).toArray = ls at hl ⊢
  have hl : lv_has ls 3 [(0, .ref (X.1 0))] := hl
  obtain ⟨H, hH⟩ : ∃ H : Heap, H = s.heap := ⟨_, rfl⟩
  obtain ⟨locs, hlc⟩ : ∃ q : List Loc, q = [] := ⟨_, rfl⟩
  have hS : va_S (AX 3 X.1 s.heap.size) s.heap H locs := by rw [hH, hlc]; exact hS
  have hP : va_P D vwCl (TW X S) H := by rw [hH]; exact hP
  show W p l e (headSpec (Cond.code yX5_setAsAtFirst cX5_setAsAtFirst 3 none :: lw_gd) rm_X5T_setAsAtFirst).room s m ([.ref (X.1 0)] : List Value).toArray below meth c s.heap [] 0 0 (MQ below (va_Qv post (gB D (TW X)) (AX 3 X.1 s.heap.size)) ([.ref (X.1 0)] : List Value).toArray s 0 0 (AX 3 X.1 s.heap.size)) _
  suffices hgo : W p l e (headSpec (Cond.code yX5_setAsAtFirst cX5_setAsAtFirst 3 none :: lw_gd) rm_X5T_setAsAtFirst).room s m ([.ref (X.1 0)] : List Value).toArray below meth c H locs 0 0 (MQ below (va_Qv post (gB D (TW X)) (AX 3 X.1 s.heap.size)) ([.ref (X.1 0)] : List Value).toArray s 0 0 (AX 3 X.1 s.heap.size)) (F0 m 0 ls []) from by rw [hH, hlc] at hgo; exact hgo
  unfold p_X5T_setAsAtFirst at h
  refine lv_iconst (v := 0) hx hb dX5_setAsAtFirst_0 (by decide) ?_
  refine lv_istore_n (lv' := [(1, .int 0), (0, .ref (X.1 0))]) hx hb dX5_setAsAtFirst_1 rfl hl (by decide) rfl (fun ls hl => ?_)
  obtain ⟨n1, h⟩ := h
  exact W2  n1 0 S H locs ls hP hS (lv_sub hl [1, 0] rfl) h
