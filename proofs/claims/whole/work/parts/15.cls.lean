abbrev rm_X6_odds : Room := { frames := 2, cells := 0, slots := 0, locals := 49 }
def q_X6_odds_49 (x1 : Int32) (x2 : Int32) (x3 : Int32) (x4 : Int32) (post : Int32 → CS → Prop) : Nat → Int32 → Int32 → CS → Prop
  | 0, _, _, _ => False
  | n9 + 1, y5, y6, S => (x2 < y6 → (p_X6_power S 10 x2 (fun r_11 S_10 => (p_X6_inLeastTerms S_10 y5 r_11 x4 (fun r_13 S_12 => (post r_13 S_12)))))) ∧ (¬ (x2 < y6) → (p_X6_waysToChoose S x2 y6 (fun r_15 S_14 => (p_X6_power S_14 (10 - x1) y6 (fun r_17 S_16 => (p_X6_power S_16 x1 (x2 - y6) (fun r_19 S_18 => (∀ x5_20 : Int32, x5_20 = (y5 + ((r_15 * r_17) * r_19)) → (∀ x6_21 : Int32, x6_21 = y6 + 1 → (q_X6_odds_49 x1 x2 x3 x4 post n9 x5_20 x6_21 S_18))))))))))
def p_X6_odds (S : CS) (x1 : Int32) (x2 : Int32) (x3 : Int32) (x4 : Int32) (post : Int32 → CS → Prop) : Prop := (x1 < 0 → (post (-1) S)) ∧ (¬ (x1 < 0) → ((10 < x1 → (post (-1) S)) ∧ (¬ (10 < x1) → ((x2 < 0 → (post (-1) S)) ∧ (¬ (x2 < 0) → ((6 < x2 → (post (-1) S)) ∧ (¬ (6 < x2) → ((x3 < 0 → (post (-1) S)) ∧ (¬ (x3 < 0) → ((6 < x3 → (post (-1) S)) ∧ (¬ (6 < x3) → ((x4 < 0 → (post (-1) S)) ∧ (¬ (x4 < 0) → ((x4 ≤ 1 → (∃ n, q_X6_odds_49 x1 x2 x3 x4 post n 0 x3 S)) ∧ (¬ (x4 ≤ 1) → (post (-1) S))))))))))))))))
set_option maxHeartbeats 4000000 in
set_option maxRecDepth 100000 in
theorem c_X6_odds (l : Launch) (D : va_G) (X : XE) (hX : Inj 75 X.1) (sz : Nat) (S : CS) (x1 : Int32) (x2 : Int32) (x3 : Int32) (x4 : Int32) (post : Int32 → CS → Prop) (h : p_X6_odds S x1 x2 x3 x4 post) : Met l yX6_odds (Cond.code yX6_odds cX6_odds 7 (some .int) :: lw_gd) rm_X6_odds (gPc D (tyX X) (CW X) (FXc X) (AX 75 X.1 sz) sz S [.ref (X.1 0), .int x1, .int x2, .int x3, .int x4]) (va_Qi post (gB D (CW X)) (AX 75 X.1 sz)) 0 0 (AX 75 X.1 sz) := by
  refine Met.ofW (cc := cX6_odds) (maxL := 7) (ret := (some .int)) (by decide) rfl ?_
  intro p e s m args below meth c s₁ B hml hv
  obtain ⟨rfl, hsz, hP, hK, hF⟩ := hv
  have hx := B.exec
  have hb := B.bytes
  have hr := B.returns
  have hts := atoms_spec (ws := (Cond.code yX6_odds cX6_odds 7 (some .int) :: lw_gd)) B.pre
  have hT : ∀ w ∈ lw_gd, w.before _ s = true := fun w h9 => hts w (List.mem_cons_of_mem _ h9)
  have hown : s.vm.findClass RX6 = some m.cls := findClass_of_methodNamed B.named
  have hlocks := B.notSynchronized
  subst hsz
  have hS : va_S (AX 75 X.1 s.heap.size) s.heap s.heap [] := va_S.rf
  have W49 : ∀ n1 : Nat, ∀ (y5 : Int32) (y6 : Int32) (S : CS) (H : Heap) (locs : List Loc) (ls : Array Slot), va_P D vwCl (CW X S) H → va_S (AX 75 X.1 s.heap.size) s.heap H locs → lv_has ls 7 [(1, .int x1), (2, .int x2), (4, .int x4), (5, .int y5), (6, .int y6)] → q_X6_odds_49 x1 x2 x3 x4 post n1 y5 y6 S → W p l e (headSpec (Cond.code yX6_odds cX6_odds 7 (some .int) :: lw_gd) rm_X6_odds).room s m ([.ref (X.1 0), .int x1, .int x2, .int x3, .int x4] : List Value).toArray below meth c H locs 0 0 (MQ below (va_Qi post (gB D (CW X)) (AX 75 X.1 s.heap.size)) ([.ref (X.1 0), .int x1, .int x2, .int x3, .int x4] : List Value).toArray s 0 0 (AX 75 X.1 s.heap.size)) (F0 m 49 ls []) := by
    intro n1
    induction n1 with
    | zero => intro y5 y6 S H locs ls hP hS hl h; exact h.elim
    | succ n9 ih =>
      intro y5 y6 S H locs ls hP hS hl h
      rw [q_X6_odds_49] at h
      refine lv_iload hx hb dX6_odds_49 (lv_at hl 4 rfl) ?_
      refine lv_iload_n hx hb dX6_odds_51 rfl (lv_at hl 1 rfl) ?_
      refine lv_icmp_gt (tgt := 91) hx hb dX6_odds_52 (by decide) (fun c_9 => ?_) (fun c_9 => ?_)
      · have h := h.1 c_9
        refine lv_iload hx hb dX6_odds_91 (lv_at hl 3 rfl) ?_
        refine lv_bipush (v := 10) hx hb dX6_odds_93 (by decide) ?_
        refine lv_iload_n hx hb dX6_odds_95 rfl (lv_at hl 1 rfl) ?_
        refine cSi (As := [.int 10, .int x2]) (rest := [.int y5]) hX ⟨hx, hb, hml, hown, hT⟩ (c_X6_power l D X hX H.size S 10 x2 _ h) (gd_S wl_X6_245 wt_X6_power wn_X6 wc_X6_power) hd_X6_power ⟨rfl, rfl⟩ ⟨Nat.le_of_ble_eq_true rfl, Nat.le_of_ble_eq_true rfl⟩ hK hP hS hF rfl hl.1 rfl (Nat.le_of_ble_eq_true rfl) dX6_odds_96 ⟨Nat.zero_le _, Nat.zero_le _⟩ (fun r_11 S_10 H locs h hP hS => ?_)
        refine lv_iload hx hb dX6_odds_99 (lv_at hl 2 rfl) ?_
        refine cSi (As := [.int y5, .int r_11, .int x4]) (rest := []) hX ⟨hx, hb, hml, hown, hT⟩ (c_X6_inLeastTerms l D X hX H.size S_10 y5 r_11 x4 _ h) (gd_S wl_X6_190 wt_X6_inLeastTerms wn_X6 wc_X6_inLeastTerms) hd_X6_inLeastTerms ⟨rfl, rfl⟩ ⟨Nat.le_of_ble_eq_true rfl, Nat.le_of_ble_eq_true rfl⟩ hK hP hS hF rfl hl.1 rfl (Nat.le_of_ble_eq_true rfl) dX6_odds_101 ⟨Nat.zero_le _, Nat.zero_le _⟩ (fun r_13 S_12 H locs h hP hS => ?_)
        exact W.iret (v := r_13) hx hb hr (fun t ht hW => ⟨⟨r_13, S_12, rfl, h, gB_of ht hP⟩, hS.F ht⟩) hS.2.2 dX6_odds_104
      · have h := h.2 c_9
        refine lv_iload hx hb dX6_odds_55 (lv_at hl 3 rfl) ?_
        refine lv_iload_n hx hb dX6_odds_57 rfl (lv_at hl 1 rfl) ?_
        refine lv_iload hx hb dX6_odds_58 (lv_at hl 4 rfl) ?_
        refine cSi (As := [.int x2, .int y6]) (rest := [.int y5]) hX ⟨hx, hb, hml, hown, hT⟩ (c_X6_waysToChoose l D X hX H.size S x2 y6 _ h) (gd_S wl_X6_242 wt_X6_waysToChoose wn_X6 wc_X6_waysToChoose) hd_X6_waysToChoose ⟨rfl, rfl⟩ ⟨Nat.le_of_ble_eq_true rfl, Nat.le_of_ble_eq_true rfl⟩ hK hP hS hF rfl hl.1 rfl (Nat.le_of_ble_eq_true rfl) dX6_odds_60 ⟨Nat.zero_le _, Nat.zero_le _⟩ (fun r_15 S_14 H locs h hP hS => ?_)
        refine lv_bipush (v := 10) hx hb dX6_odds_63 (by decide) ?_
        refine lv_iload_n hx hb dX6_odds_65 rfl (lv_at hl 0 rfl) ?_
        refine lv_isub hx hb dX6_odds_66 ?_
        refine lv_iload hx hb dX6_odds_67 (lv_at hl 4 rfl) ?_
        refine cSi (As := [.int (10 - x1), .int y6]) (rest := [.int r_15, .int y5]) hX ⟨hx, hb, hml, hown, hT⟩ (c_X6_power l D X hX H.size S_14 (10 - x1) y6 _ h) (gd_S wl_X6_245 wt_X6_power wn_X6 wc_X6_power) hd_X6_power ⟨rfl, rfl⟩ ⟨Nat.le_of_ble_eq_true rfl, Nat.le_of_ble_eq_true rfl⟩ hK hP hS hF rfl hl.1 rfl (Nat.le_of_ble_eq_true rfl) dX6_odds_69 ⟨Nat.zero_le _, Nat.zero_le _⟩ (fun r_17 S_16 H locs h hP hS => ?_)
        refine lv_imul hx hb dX6_odds_72 ?_
        refine lv_iload_n hx hb dX6_odds_73 rfl (lv_at hl 0 rfl) ?_
        refine lv_iload_n hx hb dX6_odds_74 rfl (lv_at hl 1 rfl) ?_
        refine lv_iload hx hb dX6_odds_75 (lv_at hl 4 rfl) ?_
        refine lv_isub hx hb dX6_odds_77 ?_
        refine cSi (As := [.int x1, .int (x2 - y6)]) (rest := [.int (r_15 * r_17), .int y5]) hX ⟨hx, hb, hml, hown, hT⟩ (c_X6_power l D X hX H.size S_16 x1 (x2 - y6) _ h) (gd_S wl_X6_245 wt_X6_power wn_X6 wc_X6_power) hd_X6_power ⟨rfl, rfl⟩ ⟨Nat.le_of_ble_eq_true rfl, Nat.le_of_ble_eq_true rfl⟩ hK hP hS hF rfl hl.1 rfl (Nat.le_of_ble_eq_true rfl) dX6_odds_78 ⟨Nat.zero_le _, Nat.zero_le _⟩ (fun r_19 S_18 H locs h hP hS => ?_)
        refine lv_imul hx hb dX6_odds_81 ?_
        refine lv_iadd hx hb dX6_odds_82 ?_
        refine lv_topi (fun x5_20 ex5_20 => ?_)
        have h := h x5_20 ex5_20
        refine lv_istore (lv' := [(5, .int x5_20), (1, .int x1), (2, .int x2), (4, .int x4), (6, .int y6)]) hx hb dX6_odds_83 hl (by decide) rfl (fun ls hl => ?_)
        obtain ⟨x6_21, ex6_21⟩ : ∃ z : Int32, z = y6 + 1 := ⟨_, rfl⟩
        refine lv_iinc (v := x6_21) (lv' := [(6, .int x6_21), (5, .int x5_20), (1, .int x1), (2, .int x2), (4, .int x4)]) hx hb dX6_odds_85 hl (k := 4) rfl (by rw [ex6_21]; rfl) (by decide) rfl (fun ls hl => ?_)
        have h := h x6_21 ex6_21
        refine lv_goto (tgt := 49) hx hb dX6_odds_88 (by decide) ?_
        exact ih x5_20 x6_21 S_18 H locs ls hP hS (lv_sub hl [2, 3, 4, 1, 0] rfl) h
  have hl := lv_entry ([.ref (X.1 0), .int x1, .int x2, .int x3, .int x4]) (n := 7) (Nat.le_of_ble_eq_true rfl)
  rw [lg_entry_eq]
  generalize (lg_sl ([.ref (X.1 0), .int x1, .int x2, .int x3, .int x4]) ++ List.replicate (7 - (lg_sl ([.ref (X.1 0), .int x1, .int x2, .int x3, .int x4])).length) Slot.unset).toArray = ls at hl ⊢
  have hl : lv_has ls 7 [(0, .ref (X.1 0)), (1, .int x1), (2, .int x2), (3, .int x3), (4, .int x4)] := hl
  obtain ⟨H, hH⟩ : ∃ H : Heap, H = s.heap := ⟨_, rfl⟩
  obtain ⟨locs, hlc⟩ : ∃ q : List Loc, q = [] := ⟨_, rfl⟩
  have hS : va_S (AX 75 X.1 s.heap.size) s.heap H locs := by rw [hH, hlc]; exact hS
  have hP : va_P D vwCl (CW X S) H := by rw [hH]; exact hP
  show W p l e (headSpec (Cond.code yX6_odds cX6_odds 7 (some .int) :: lw_gd) rm_X6_odds).room s m ([.ref (X.1 0), .int x1, .int x2, .int x3, .int x4] : List Value).toArray below meth c s.heap [] 0 0 (MQ below (va_Qi post (gB D (CW X)) (AX 75 X.1 s.heap.size)) ([.ref (X.1 0), .int x1, .int x2, .int x3, .int x4] : List Value).toArray s 0 0 (AX 75 X.1 s.heap.size)) _
  suffices hgo : W p l e (headSpec (Cond.code yX6_odds cX6_odds 7 (some .int) :: lw_gd) rm_X6_odds).room s m ([.ref (X.1 0), .int x1, .int x2, .int x3, .int x4] : List Value).toArray below meth c H locs 0 0 (MQ below (va_Qi post (gB D (CW X)) (AX 75 X.1 s.heap.size)) ([.ref (X.1 0), .int x1, .int x2, .int x3, .int x4] : List Value).toArray s 0 0 (AX 75 X.1 s.heap.size)) (F0 m 0 ls []) from by rw [hH, hlc] at hgo; exact hgo
  unfold p_X6_odds at h
  refine lv_iload_n hx hb dX6_odds_0 rfl (lv_at hl 1 rfl) ?_
  refine lv_if_lt (tgt := 41) hx hb dX6_odds_1 (by decide) (fun c_1 => ?_) (fun c_1 => ?_)
  · have h := h.1 c_1
    refine lv_iconst (v := (-1)) hx hb dX6_odds_41 (by decide) ?_
    exact W.iret (v := (-1)) hx hb hr (fun t ht hW => ⟨⟨(-1), S, rfl, h, gB_of ht hP⟩, hS.F ht⟩) hS.2.2 dX6_odds_42
  · have h := h.2 c_1
    refine lv_iload_n hx hb dX6_odds_4 rfl (lv_at hl 1 rfl) ?_
    refine lv_bipush (v := 10) hx hb dX6_odds_5 (by decide) ?_
    refine lv_icmp_gt (tgt := 41) hx hb dX6_odds_7 (by decide) (fun c_2 => ?_) (fun c_2 => ?_)
    · have h := h.1 c_2
      refine lv_iconst (v := (-1)) hx hb dX6_odds_41 (by decide) ?_
      exact W.iret (v := (-1)) hx hb hr (fun t ht hW => ⟨⟨(-1), S, rfl, h, gB_of ht hP⟩, hS.F ht⟩) hS.2.2 dX6_odds_42
    · have h := h.2 c_2
      refine lv_iload_n hx hb dX6_odds_10 rfl (lv_at hl 2 rfl) ?_
      refine lv_if_lt (tgt := 41) hx hb dX6_odds_11 (by decide) (fun c_3 => ?_) (fun c_3 => ?_)
      · have h := h.1 c_3
        refine lv_iconst (v := (-1)) hx hb dX6_odds_41 (by decide) ?_
        exact W.iret (v := (-1)) hx hb hr (fun t ht hW => ⟨⟨(-1), S, rfl, h, gB_of ht hP⟩, hS.F ht⟩) hS.2.2 dX6_odds_42
      · have h := h.2 c_3
        refine lv_iload_n hx hb dX6_odds_14 rfl (lv_at hl 2 rfl) ?_
        refine lv_bipush (v := 6) hx hb dX6_odds_15 (by decide) ?_
        refine lv_icmp_gt (tgt := 41) hx hb dX6_odds_17 (by decide) (fun c_4 => ?_) (fun c_4 => ?_)
        · have h := h.1 c_4
          refine lv_iconst (v := (-1)) hx hb dX6_odds_41 (by decide) ?_
          exact W.iret (v := (-1)) hx hb hr (fun t ht hW => ⟨⟨(-1), S, rfl, h, gB_of ht hP⟩, hS.F ht⟩) hS.2.2 dX6_odds_42
        · have h := h.2 c_4
          refine lv_iload_n hx hb dX6_odds_20 rfl (lv_at hl 3 rfl) ?_
          refine lv_if_lt (tgt := 41) hx hb dX6_odds_21 (by decide) (fun c_5 => ?_) (fun c_5 => ?_)
          · have h := h.1 c_5
            refine lv_iconst (v := (-1)) hx hb dX6_odds_41 (by decide) ?_
            exact W.iret (v := (-1)) hx hb hr (fun t ht hW => ⟨⟨(-1), S, rfl, h, gB_of ht hP⟩, hS.F ht⟩) hS.2.2 dX6_odds_42
          · have h := h.2 c_5
            refine lv_iload_n hx hb dX6_odds_24 rfl (lv_at hl 3 rfl) ?_
            refine lv_bipush (v := 6) hx hb dX6_odds_25 (by decide) ?_
            refine lv_icmp_gt (tgt := 41) hx hb dX6_odds_27 (by decide) (fun c_6 => ?_) (fun c_6 => ?_)
            · have h := h.1 c_6
              refine lv_iconst (v := (-1)) hx hb dX6_odds_41 (by decide) ?_
              exact W.iret (v := (-1)) hx hb hr (fun t ht hW => ⟨⟨(-1), S, rfl, h, gB_of ht hP⟩, hS.F ht⟩) hS.2.2 dX6_odds_42
            · have h := h.2 c_6
              refine lv_iload hx hb dX6_odds_30 (lv_at hl 4 rfl) ?_
              refine lv_if_lt (tgt := 41) hx hb dX6_odds_32 (by decide) (fun c_7 => ?_) (fun c_7 => ?_)
              · have h := h.1 c_7
                refine lv_iconst (v := (-1)) hx hb dX6_odds_41 (by decide) ?_
                exact W.iret (v := (-1)) hx hb hr (fun t ht hW => ⟨⟨(-1), S, rfl, h, gB_of ht hP⟩, hS.F ht⟩) hS.2.2 dX6_odds_42
              · have h := h.2 c_7
                refine lv_iload hx hb dX6_odds_35 (lv_at hl 4 rfl) ?_
                refine lv_iconst (v := 1) hx hb dX6_odds_37 (by decide) ?_
                refine lv_icmp_le (tgt := 43) hx hb dX6_odds_38 (by decide) (fun c_8 => ?_) (fun c_8 => ?_)
                · have h := h.1 c_8
                  refine lv_iconst (v := 0) hx hb dX6_odds_43 (by decide) ?_
                  refine lv_istore (lv' := [(5, .int 0), (0, .ref (X.1 0)), (1, .int x1), (2, .int x2), (3, .int x3), (4, .int x4)]) hx hb dX6_odds_44 hl (by decide) rfl (fun ls hl => ?_)
                  refine lv_iload_n hx hb dX6_odds_46 rfl (lv_at hl 4 rfl) ?_
                  refine lv_istore (lv' := [(6, .int x3), (5, .int 0), (0, .ref (X.1 0)), (1, .int x1), (2, .int x2), (3, .int x3), (4, .int x4)]) hx hb dX6_odds_47 hl (by decide) rfl (fun ls hl => ?_)
                  obtain ⟨n1, h⟩ := h
                  exact W49  n1 0 x3 S H locs ls hP hS (lv_sub hl [3, 4, 6, 1, 0] rfl) h
                · have h := h.2 c_8
                  refine lv_iconst (v := (-1)) hx hb dX6_odds_41 (by decide) ?_
                  exact W.iret (v := (-1)) hx hb hr (fun t ht hW => ⟨⟨(-1), S, rfl, h, gB_of ht hP⟩, hS.F ht⟩) hS.2.2 dX6_odds_42

abbrev rm_X6_rateAsPart : Room := { frames := 4, cells := 0, slots := 0, locals := 84 }
def p_X6_rateAsPart (S : CS) (x1 : Int32) (post : Int32 → CS → Prop) : Prop := ∀ u_1 : Int64, u_1 = (S.2.2.2 + 1) → (∀ S_2 : CS, S_2 = stt S u_1 → (p_X6_giftOf S_2 x1 (fun r_4 S_3 => (post r_4 S_3))))
set_option maxHeartbeats 4000000 in
set_option maxRecDepth 100000 in
theorem c_X6_rateAsPart (l : Launch) (D : va_G) (X : XE) (hX : Inj 75 X.1) (sz : Nat) (S : CS) (x1 : Int32) (post : Int32 → CS → Prop) (h : p_X6_rateAsPart S x1 post) : Met l yX6_rateAsPart (Cond.code yX6_rateAsPart cX6_rateAsPart 2 (some .int) :: lw_gd) rm_X6_rateAsPart (gPc D (tyX X) (CW X) (FXc X) (AX 75 X.1 sz) sz S [.ref (X.1 0), .int x1]) (va_Qi post (gB D (CW X)) (AX 75 X.1 sz)) 0 0 (AX 75 X.1 sz) := by
  refine Met.ofW (cc := cX6_rateAsPart) (maxL := 2) (ret := (some .int)) (by decide) rfl ?_
  intro p e s m args below meth c s₁ B hml hv
  obtain ⟨rfl, hsz, hP, hK, hF⟩ := hv
  have hx := B.exec
  have hb := B.bytes
  have hr := B.returns
  have hts := atoms_spec (ws := (Cond.code yX6_rateAsPart cX6_rateAsPart 2 (some .int) :: lw_gd)) B.pre
  have hT : ∀ w ∈ lw_gd, w.before _ s = true := fun w h9 => hts w (List.mem_cons_of_mem _ h9)
  have hown : s.vm.findClass RX6 = some m.cls := findClass_of_methodNamed B.named
  have hlocks := B.notSynchronized
  subst hsz
  have hS : va_S (AX 75 X.1 s.heap.size) s.heap s.heap [] := va_S.rf
  have hl := lv_entry ([.ref (X.1 0), .int x1]) (n := 2) (Nat.le_of_ble_eq_true rfl)
  rw [lg_entry_eq]
  generalize (lg_sl ([.ref (X.1 0), .int x1]) ++ List.replicate (2 - (lg_sl ([.ref (X.1 0), .int x1])).length) Slot.unset).toArray = ls at hl ⊢
  have hl : lv_has ls 2 [(0, .ref (X.1 0)), (1, .int x1)] := hl
  obtain ⟨H, hH⟩ : ∃ H : Heap, H = s.heap := ⟨_, rfl⟩
  obtain ⟨locs, hlc⟩ : ∃ q : List Loc, q = [] := ⟨_, rfl⟩
  have hS : va_S (AX 75 X.1 s.heap.size) s.heap H locs := by rw [hH, hlc]; exact hS
  have hP : va_P D vwCl (CW X S) H := by rw [hH]; exact hP
  show W p l e (headSpec (Cond.code yX6_rateAsPart cX6_rateAsPart 2 (some .int) :: lw_gd) rm_X6_rateAsPart).room s m ([.ref (X.1 0), .int x1] : List Value).toArray below meth c s.heap [] 0 0 (MQ below (va_Qi post (gB D (CW X)) (AX 75 X.1 s.heap.size)) ([.ref (X.1 0), .int x1] : List Value).toArray s 0 0 (AX 75 X.1 s.heap.size)) _
  suffices hgo : W p l e (headSpec (Cond.code yX6_rateAsPart cX6_rateAsPart 2 (some .int) :: lw_gd) rm_X6_rateAsPart).room s m ([.ref (X.1 0), .int x1] : List Value).toArray below meth c H locs 0 0 (MQ below (va_Qi post (gB D (CW X)) (AX 75 X.1 s.heap.size)) ([.ref (X.1 0), .int x1] : List Value).toArray s 0 0 (AX 75 X.1 s.heap.size)) (F0 m 0 ls []) from by rw [hH, hlc] at hgo; exact hgo
  unfold p_X6_rateAsPart at h
  refine lv_aload_n hx hb dX6_rateAsPart_0 rfl (lv_at hl 0 rfl) ?_
  refine lv_dup hx hb dX6_rateAsPart_1 rfl ?_
  refine va_get (D := D) (ci := 6) (v := .long S.2.2.2) (C := RX6) (T := TX6) (N := 16) hx hb hT inX6 hown hK hP 0 cw_Yard rfl 15 (by decide) (hT _ wf_X6_279) (fun _ h9 => h9) rfl dX6_rateAsPart_2 ?_
  refine lv_lconst (v := 1) hx hb dX6_rateAsPart_5 (by decide) ?_
  refine lv_ladd hx hb dX6_rateAsPart_6 ?_
  refine lv_topl (fun u_1 eu_1 => ?_)
  have h := h u_1 eu_1
  refine va_put (D := D) (ci := 6) (v := .long u_1) (ty := .long) (C := RX6) (T := TX6) (N := 16) hx hb hT inX6 tyX6 tyX6_ok nmX6 hown hK hP (gw_D hX) hS 0 cw_Yard rfl 15 (by decide) (hT _ wf_X6_279) (fun _ h9 => h9) rfl (by decide +kernel) rfl rfl (Nat.le_of_ble_eq_true rfl) dX6_rateAsPart_7 (fun H locs hP _ hS => ?_)
  have hP := cw_stt (x := u_1) rfl hP
  obtain ⟨S_2, eS_2⟩ : ∃ z : CS, z = stt S u_1 := ⟨_, rfl⟩
  rw [← eS_2] at hP
  have h := h S_2 eS_2
  refine lv_aload_n hx hb dX6_rateAsPart_10 rfl (lv_at hl 0 rfl) ?_
  refine lv_iload_n hx hb dX6_rateAsPart_11 rfl (lv_at hl 1 rfl) ?_
  refine cVi (As := [.int x1]) (rest := []) hX ⟨hx, hb, hml, hown, hT⟩ (c_X6_giftOf l D X hX H.size S_2 x1 _ h) (gd_V wl_X6_103 wi_X6_giftOf wv_X6_giftOf wn_X6 wc_X6_giftOf) rfl hd_X6_giftOf ⟨rfl, rfl⟩ ⟨Nat.le_of_ble_eq_true rfl, Nat.le_of_ble_eq_true rfl⟩ (va_recv hK hP (ci := 6) (q0 := 0) rfl cw_Yard) hK hP hS hF rfl hl.1 rfl (Nat.le_of_ble_eq_true rfl) dX6_rateAsPart_12 ⟨Nat.zero_le _, Nat.zero_le _⟩ (fun r_4 S_3 H locs h hP hS => ?_)
  exact W.iret (v := r_4) hx hb hr (fun t ht hW => ⟨⟨r_4, S_3, rfl, h, gB_of ht hP⟩, hS.F ht⟩) hS.2.2 dX6_rateAsPart_15

abbrev rm_X6_rateAsBirch : Room := { frames := 5, cells := 0, slots := 0, locals := 105 }
def p_X6_rateAsBirch (S : CS) (x1 : Int32) (post : Int32 → CS → Prop) : Prop := ∀ u_1 : Int64, u_1 = (S.2.2.2 + 10) → (∀ S_2 : CS, S_2 = stt S u_1 → (p_X6_rateAsPart S_2 x1 (fun r_4 S_3 => ((S_3.2.1 < 2) ∧ (p_X5_value S_3 S_3.2.1 0 x1 (fun r_7 S_6 => (post (r_4 + r_7) S_6)))))))
set_option maxHeartbeats 4000000 in
set_option maxRecDepth 100000 in
theorem c_X6_rateAsBirch (l : Launch) (D : va_G) (X : XE) (hX : Inj 75 X.1) (sz : Nat) (S : CS) (x1 : Int32) (post : Int32 → CS → Prop) (h : p_X6_rateAsBirch S x1 post) : Met l yX6_rateAsBirch (Cond.code yX6_rateAsBirch cX6_rateAsBirch 2 (some .int) :: lw_gd) rm_X6_rateAsBirch (gPc D (tyX X) (CW X) (FXc X) (AX 75 X.1 sz) sz S [.ref (X.1 0), .int x1]) (va_Qi post (gB D (CW X)) (AX 75 X.1 sz)) 0 0 (AX 75 X.1 sz) := by
  refine Met.ofW (cc := cX6_rateAsBirch) (maxL := 2) (ret := (some .int)) (by decide) rfl ?_
  intro p e s m args below meth c s₁ B hml hv
  obtain ⟨rfl, hsz, hP, hK, hF⟩ := hv
  have hx := B.exec
  have hb := B.bytes
  have hr := B.returns
  have hts := atoms_spec (ws := (Cond.code yX6_rateAsBirch cX6_rateAsBirch 2 (some .int) :: lw_gd)) B.pre
  have hT : ∀ w ∈ lw_gd, w.before _ s = true := fun w h9 => hts w (List.mem_cons_of_mem _ h9)
  have hown : s.vm.findClass RX6 = some m.cls := findClass_of_methodNamed B.named
  have hlocks := B.notSynchronized
  subst hsz
  have hS : va_S (AX 75 X.1 s.heap.size) s.heap s.heap [] := va_S.rf
  have hl := lv_entry ([.ref (X.1 0), .int x1]) (n := 2) (Nat.le_of_ble_eq_true rfl)
  rw [lg_entry_eq]
  generalize (lg_sl ([.ref (X.1 0), .int x1]) ++ List.replicate (2 - (lg_sl ([.ref (X.1 0), .int x1])).length) Slot.unset).toArray = ls at hl ⊢
  have hl : lv_has ls 2 [(0, .ref (X.1 0)), (1, .int x1)] := hl
  obtain ⟨H, hH⟩ : ∃ H : Heap, H = s.heap := ⟨_, rfl⟩
  obtain ⟨locs, hlc⟩ : ∃ q : List Loc, q = [] := ⟨_, rfl⟩
  have hS : va_S (AX 75 X.1 s.heap.size) s.heap H locs := by rw [hH, hlc]; exact hS
  have hP : va_P D vwCl (CW X S) H := by rw [hH]; exact hP
  show W p l e (headSpec (Cond.code yX6_rateAsBirch cX6_rateAsBirch 2 (some .int) :: lw_gd) rm_X6_rateAsBirch).room s m ([.ref (X.1 0), .int x1] : List Value).toArray below meth c s.heap [] 0 0 (MQ below (va_Qi post (gB D (CW X)) (AX 75 X.1 s.heap.size)) ([.ref (X.1 0), .int x1] : List Value).toArray s 0 0 (AX 75 X.1 s.heap.size)) _
  suffices hgo : W p l e (headSpec (Cond.code yX6_rateAsBirch cX6_rateAsBirch 2 (some .int) :: lw_gd) rm_X6_rateAsBirch).room s m ([.ref (X.1 0), .int x1] : List Value).toArray below meth c H locs 0 0 (MQ below (va_Qi post (gB D (CW X)) (AX 75 X.1 s.heap.size)) ([.ref (X.1 0), .int x1] : List Value).toArray s 0 0 (AX 75 X.1 s.heap.size)) (F0 m 0 ls []) from by rw [hH, hlc] at hgo; exact hgo
  unfold p_X6_rateAsBirch at h
  refine lv_aload_n hx hb dX6_rateAsBirch_0 rfl (lv_at hl 0 rfl) ?_
  refine lv_dup hx hb dX6_rateAsBirch_1 rfl ?_
  refine va_get (D := D) (ci := 6) (v := .long S.2.2.2) (C := RX6) (T := TX6) (N := 16) hx hb hT inX6 hown hK hP 0 cw_Yard rfl 15 (by decide) (hT _ wf_X6_279) (fun _ h9 => h9) rfl dX6_rateAsBirch_2 ?_
  refine lv_ldc2 (v := 10) hx hb hown (hT _ wq_X6_312) dX6_rateAsBirch_5 ?_
  refine lv_ladd hx hb dX6_rateAsBirch_8 ?_
  refine lv_topl (fun u_1 eu_1 => ?_)
  have h := h u_1 eu_1
  refine va_put (D := D) (ci := 6) (v := .long u_1) (ty := .long) (C := RX6) (T := TX6) (N := 16) hx hb hT inX6 tyX6 tyX6_ok nmX6 hown hK hP (gw_D hX) hS 0 cw_Yard rfl 15 (by decide) (hT _ wf_X6_279) (fun _ h9 => h9) rfl (by decide +kernel) rfl rfl (Nat.le_of_ble_eq_true rfl) dX6_rateAsBirch_9 (fun H locs hP _ hS => ?_)
  have hP := cw_stt (x := u_1) rfl hP
  obtain ⟨S_2, eS_2⟩ : ∃ z : CS, z = stt S u_1 := ⟨_, rfl⟩
  rw [← eS_2] at hP
  have h := h S_2 eS_2
  refine lv_aload_n hx hb dX6_rateAsBirch_12 rfl (lv_at hl 0 rfl) ?_
  refine lv_iload_n hx hb dX6_rateAsBirch_13 rfl (lv_at hl 1 rfl) ?_
  refine cVi (As := [.int x1]) (rest := []) hX ⟨hx, hb, hml, hown, hT⟩ (c_X6_rateAsPart l D X hX H.size S_2 x1 _ h) (gd_V wl_X6_249 wi_X6_rateAsPart wv_X6_rateAsPart wn_X6 wc_X6_rateAsPart) rfl hd_X6_rateAsPart ⟨rfl, rfl⟩ ⟨Nat.le_of_ble_eq_true rfl, Nat.le_of_ble_eq_true rfl⟩ (va_recv hK hP (ci := 6) (q0 := 0) rfl cw_Yard) hK hP hS hF rfl hl.1 rfl (Nat.le_of_ble_eq_true rfl) dX6_rateAsBirch_14 ⟨Nat.zero_le _, Nat.zero_le _⟩ (fun r_4 S_3 H locs h hP hS => ?_)
  refine lv_aload_n hx hb dX6_rateAsBirch_17 rfl (lv_at hl 0 rfl) ?_
  obtain ⟨ht_5, h⟩ := h
  refine va_get (D := D) (ci := 6) (v := .ref (X.1 (to S_3.2.1))) (C := RX6) (T := TX6) (N := 16) hx hb hT inX6 hown hK hP 0 cw_Yard rfl 1 (by decide) (hT _ wf_X6_19) (fun _ h9 => h9) rfl dX6_rateAsBirch_18 ?_
  refine lv_iconst (v := 0) hx hb dX6_rateAsBirch_21 (by decide) ?_
  refine lv_iload_n hx hb dX6_rateAsBirch_22 rfl (lv_at hl 1 rfl) ?_
  refine cVi (As := [.int 0, .int x1]) (rest := [.int r_4]) hX ⟨hx, hb, hml, hown, hT⟩ (c_X5_value l D X hX H.size S_3 S_3.2.1 (by omega) 0 x1 _ h) (gd_V wl_X6_95 wi_X5_value wv_X5_value wn_X5 wc_X5_value) rfl hd_X5_value ⟨rfl, rfl⟩ ⟨Nat.le_of_ble_eq_true rfl, Nat.le_of_ble_eq_true rfl⟩ (va_recv hK hP (ci := 5) (q0 := (to S_3.2.1)) rfl (cw_Told (t := S_3.2.1) (by omega))) hK hP hS hF rfl hl.1 rfl (Nat.le_of_ble_eq_true rfl) dX6_rateAsBirch_23 ⟨Nat.zero_le _, Nat.zero_le _⟩ (fun r_7 S_6 H locs h hP hS => ?_)
  refine lv_iadd hx hb dX6_rateAsBirch_26 ?_
  exact W.iret (v := (r_4 + r_7)) hx hb hr (fun t ht hW => ⟨⟨(r_4 + r_7), S_6, rfl, h, gB_of ht hP⟩, hS.F ht⟩) hS.2.2 dX6_rateAsBirch_27

abbrev rm_X6_rateAsHeather : Room := { frames := 5, cells := 0, slots := 0, locals := 105 }
def p_X6_rateAsHeather (S : CS) (x1 : Int32) (post : Int32 → CS → Prop) : Prop := ∀ u_1 : Int64, u_1 = (S.2.2.2 + 100) → (∀ S_2 : CS, S_2 = stt S u_1 → (p_X6_rateAsPart S_2 x1 (fun r_4 S_3 => (p_X1_age S_3 0 x1 (fun r_6 S_5 => (post (r_4 - r_6) S_5))))))
set_option maxHeartbeats 4000000 in
set_option maxRecDepth 100000 in
theorem c_X6_rateAsHeather (l : Launch) (D : va_G) (X : XE) (hX : Inj 75 X.1) (sz : Nat) (S : CS) (x1 : Int32) (post : Int32 → CS → Prop) (h : p_X6_rateAsHeather S x1 post) : Met l yX6_rateAsHeather (Cond.code yX6_rateAsHeather cX6_rateAsHeather 2 (some .int) :: lw_gd) rm_X6_rateAsHeather (gPc D (tyX X) (CW X) (FXc X) (AX 75 X.1 sz) sz S [.ref (X.1 0), .int x1]) (va_Qi post (gB D (CW X)) (AX 75 X.1 sz)) 0 0 (AX 75 X.1 sz) := by
  refine Met.ofW (cc := cX6_rateAsHeather) (maxL := 2) (ret := (some .int)) (by decide) rfl ?_
  intro p e s m args below meth c s₁ B hml hv
  obtain ⟨rfl, hsz, hP, hK, hF⟩ := hv
  have hx := B.exec
  have hb := B.bytes
  have hr := B.returns
  have hts := atoms_spec (ws := (Cond.code yX6_rateAsHeather cX6_rateAsHeather 2 (some .int) :: lw_gd)) B.pre
  have hT : ∀ w ∈ lw_gd, w.before _ s = true := fun w h9 => hts w (List.mem_cons_of_mem _ h9)
  have hown : s.vm.findClass RX6 = some m.cls := findClass_of_methodNamed B.named
  have hlocks := B.notSynchronized
  subst hsz
  have hS : va_S (AX 75 X.1 s.heap.size) s.heap s.heap [] := va_S.rf
  have hl := lv_entry ([.ref (X.1 0), .int x1]) (n := 2) (Nat.le_of_ble_eq_true rfl)
  rw [lg_entry_eq]
  generalize (lg_sl ([.ref (X.1 0), .int x1]) ++ List.replicate (2 - (lg_sl ([.ref (X.1 0), .int x1])).length) Slot.unset).toArray = ls at hl ⊢
  have hl : lv_has ls 2 [(0, .ref (X.1 0)), (1, .int x1)] := hl
  obtain ⟨H, hH⟩ : ∃ H : Heap, H = s.heap := ⟨_, rfl⟩
  obtain ⟨locs, hlc⟩ : ∃ q : List Loc, q = [] := ⟨_, rfl⟩
  have hS : va_S (AX 75 X.1 s.heap.size) s.heap H locs := by rw [hH, hlc]; exact hS
  have hP : va_P D vwCl (CW X S) H := by rw [hH]; exact hP
  show W p l e (headSpec (Cond.code yX6_rateAsHeather cX6_rateAsHeather 2 (some .int) :: lw_gd) rm_X6_rateAsHeather).room s m ([.ref (X.1 0), .int x1] : List Value).toArray below meth c s.heap [] 0 0 (MQ below (va_Qi post (gB D (CW X)) (AX 75 X.1 s.heap.size)) ([.ref (X.1 0), .int x1] : List Value).toArray s 0 0 (AX 75 X.1 s.heap.size)) _
  suffices hgo : W p l e (headSpec (Cond.code yX6_rateAsHeather cX6_rateAsHeather 2 (some .int) :: lw_gd) rm_X6_rateAsHeather).room s m ([.ref (X.1 0), .int x1] : List Value).toArray below meth c H locs 0 0 (MQ below (va_Qi post (gB D (CW X)) (AX 75 X.1 s.heap.size)) ([.ref (X.1 0), .int x1] : List Value).toArray s 0 0 (AX 75 X.1 s.heap.size)) (F0 m 0 ls []) from by rw [hH, hlc] at hgo; exact hgo
  unfold p_X6_rateAsHeather at h
  refine lv_aload_n hx hb dX6_rateAsHeather_0 rfl (lv_at hl 0 rfl) ?_
  refine lv_dup hx hb dX6_rateAsHeather_1 rfl ?_
  refine va_get (D := D) (ci := 6) (v := .long S.2.2.2) (C := RX6) (T := TX6) (N := 16) hx hb hT inX6 hown hK hP 0 cw_Yard rfl 15 (by decide) (hT _ wf_X6_279) (fun _ h9 => h9) rfl dX6_rateAsHeather_2 ?_
  refine lv_ldc2 (v := 100) hx hb hown (hT _ wq_X6_314) dX6_rateAsHeather_5 ?_
  refine lv_ladd hx hb dX6_rateAsHeather_8 ?_
  refine lv_topl (fun u_1 eu_1 => ?_)
  have h := h u_1 eu_1
  refine va_put (D := D) (ci := 6) (v := .long u_1) (ty := .long) (C := RX6) (T := TX6) (N := 16) hx hb hT inX6 tyX6 tyX6_ok nmX6 hown hK hP (gw_D hX) hS 0 cw_Yard rfl 15 (by decide) (hT _ wf_X6_279) (fun _ h9 => h9) rfl (by decide +kernel) rfl rfl (Nat.le_of_ble_eq_true rfl) dX6_rateAsHeather_9 (fun H locs hP _ hS => ?_)
  have hP := cw_stt (x := u_1) rfl hP
  obtain ⟨S_2, eS_2⟩ : ∃ z : CS, z = stt S u_1 := ⟨_, rfl⟩
  rw [← eS_2] at hP
  have h := h S_2 eS_2
  refine lv_aload_n hx hb dX6_rateAsHeather_12 rfl (lv_at hl 0 rfl) ?_
  refine lv_iload_n hx hb dX6_rateAsHeather_13 rfl (lv_at hl 1 rfl) ?_
  refine cVi (As := [.int x1]) (rest := []) hX ⟨hx, hb, hml, hown, hT⟩ (c_X6_rateAsPart l D X hX H.size S_2 x1 _ h) (gd_V wl_X6_249 wi_X6_rateAsPart wv_X6_rateAsPart wn_X6 wc_X6_rateAsPart) rfl hd_X6_rateAsPart ⟨rfl, rfl⟩ ⟨Nat.le_of_ble_eq_true rfl, Nat.le_of_ble_eq_true rfl⟩ (va_recv hK hP (ci := 6) (q0 := 0) rfl cw_Yard) hK hP hS hF rfl hl.1 rfl (Nat.le_of_ble_eq_true rfl) dX6_rateAsHeather_14 ⟨Nat.zero_le _, Nat.zero_le _⟩ (fun r_4 S_3 H locs h hP hS => ?_)
  refine lv_aload_n hx hb dX6_rateAsHeather_17 rfl (lv_at hl 0 rfl) ?_
  refine va_get (D := D) (ci := 6) (v := .ref (X.1 (mo 0))) (C := RX6) (T := TX6) (N := 16) hx hb hT inX6 hown hK hP 0 cw_Yard rfl 3 (by decide) (hT _ wf_X6_29) (fun _ h9 => h9) rfl dX6_rateAsHeather_18 ?_
  refine lv_iload_n hx hb dX6_rateAsHeather_21 rfl (lv_at hl 1 rfl) ?_
  refine cVi (As := [.int x1]) (rest := [.int r_4]) hX ⟨hx, hb, hml, hown, hT⟩ (c_X1_age l D X hX H.size S_3 0 (by decide) x1 _ h) (gd_V wl_X6_99 wi_X1_age wv_X1_age wn_X1 wc_X1_age) rfl hd_X1_age ⟨rfl, rfl⟩ ⟨Nat.le_of_ble_eq_true rfl, Nat.le_of_ble_eq_true rfl⟩ (va_recv hK hP (ci := 1) (q0 := (mo 0)) rfl (cw_Moment (m := 0) (by decide))) hK hP hS hF rfl hl.1 rfl (Nat.le_of_ble_eq_true rfl) dX6_rateAsHeather_22 ⟨Nat.zero_le _, Nat.zero_le _⟩ (fun r_6 S_5 H locs h hP hS => ?_)
  refine lv_isub hx hb dX6_rateAsHeather_25 ?_
  exact W.iret (v := (r_4 - r_6)) hx hb hr (fun t ht hW => ⟨⟨(r_4 - r_6), S_5, rfl, h, gB_of ht hP⟩, hS.F ht⟩) hS.2.2 dX6_rateAsHeather_26

abbrev rm_X6_rateAsStake : Room := { frames := 6, cells := 0, slots := 0, locals := 126 }
def p_X6_rateAsStake (S : CS) (x1 : Int32) (post : Int32 → CS → Prop) : Prop := ∀ u_1 : Int64, u_1 = (S.2.2.2 + 1000) → (∀ S_2 : CS, S_2 = stt S u_1 → (p_X6_rateAsBirch S_2 x1 (fun r_4 S_3 => (post (2 * r_4) S_3))))
set_option maxHeartbeats 4000000 in
set_option maxRecDepth 100000 in
theorem c_X6_rateAsStake (l : Launch) (D : va_G) (X : XE) (hX : Inj 75 X.1) (sz : Nat) (S : CS) (x1 : Int32) (post : Int32 → CS → Prop) (h : p_X6_rateAsStake S x1 post) : Met l yX6_rateAsStake (Cond.code yX6_rateAsStake cX6_rateAsStake 2 (some .int) :: lw_gd) rm_X6_rateAsStake (gPc D (tyX X) (CW X) (FXc X) (AX 75 X.1 sz) sz S [.ref (X.1 0), .int x1]) (va_Qi post (gB D (CW X)) (AX 75 X.1 sz)) 0 0 (AX 75 X.1 sz) := by
  refine Met.ofW (cc := cX6_rateAsStake) (maxL := 2) (ret := (some .int)) (by decide) rfl ?_
  intro p e s m args below meth c s₁ B hml hv
  obtain ⟨rfl, hsz, hP, hK, hF⟩ := hv
  have hx := B.exec
  have hb := B.bytes
  have hr := B.returns
  have hts := atoms_spec (ws := (Cond.code yX6_rateAsStake cX6_rateAsStake 2 (some .int) :: lw_gd)) B.pre
  have hT : ∀ w ∈ lw_gd, w.before _ s = true := fun w h9 => hts w (List.mem_cons_of_mem _ h9)
  have hown : s.vm.findClass RX6 = some m.cls := findClass_of_methodNamed B.named
  have hlocks := B.notSynchronized
  subst hsz
  have hS : va_S (AX 75 X.1 s.heap.size) s.heap s.heap [] := va_S.rf
  have hl := lv_entry ([.ref (X.1 0), .int x1]) (n := 2) (Nat.le_of_ble_eq_true rfl)
  rw [lg_entry_eq]
  generalize (lg_sl ([.ref (X.1 0), .int x1]) ++ List.replicate (2 - (lg_sl ([.ref (X.1 0), .int x1])).length) Slot.unset).toArray = ls at hl ⊢
  have hl : lv_has ls 2 [(0, .ref (X.1 0)), (1, .int x1)] := hl
  obtain ⟨H, hH⟩ : ∃ H : Heap, H = s.heap := ⟨_, rfl⟩
  obtain ⟨locs, hlc⟩ : ∃ q : List Loc, q = [] := ⟨_, rfl⟩
  have hS : va_S (AX 75 X.1 s.heap.size) s.heap H locs := by rw [hH, hlc]; exact hS
  have hP : va_P D vwCl (CW X S) H := by rw [hH]; exact hP
  show W p l e (headSpec (Cond.code yX6_rateAsStake cX6_rateAsStake 2 (some .int) :: lw_gd) rm_X6_rateAsStake).room s m ([.ref (X.1 0), .int x1] : List Value).toArray below meth c s.heap [] 0 0 (MQ below (va_Qi post (gB D (CW X)) (AX 75 X.1 s.heap.size)) ([.ref (X.1 0), .int x1] : List Value).toArray s 0 0 (AX 75 X.1 s.heap.size)) _
  suffices hgo : W p l e (headSpec (Cond.code yX6_rateAsStake cX6_rateAsStake 2 (some .int) :: lw_gd) rm_X6_rateAsStake).room s m ([.ref (X.1 0), .int x1] : List Value).toArray below meth c H locs 0 0 (MQ below (va_Qi post (gB D (CW X)) (AX 75 X.1 s.heap.size)) ([.ref (X.1 0), .int x1] : List Value).toArray s 0 0 (AX 75 X.1 s.heap.size)) (F0 m 0 ls []) from by rw [hH, hlc] at hgo; exact hgo
  unfold p_X6_rateAsStake at h
  refine lv_aload_n hx hb dX6_rateAsStake_0 rfl (lv_at hl 0 rfl) ?_
  refine lv_dup hx hb dX6_rateAsStake_1 rfl ?_
  refine va_get (D := D) (ci := 6) (v := .long S.2.2.2) (C := RX6) (T := TX6) (N := 16) hx hb hT inX6 hown hK hP 0 cw_Yard rfl 15 (by decide) (hT _ wf_X6_279) (fun _ h9 => h9) rfl dX6_rateAsStake_2 ?_
  refine lv_ldc2 (v := 1000) hx hb hown (hT _ wq_X6_316) dX6_rateAsStake_5 ?_
  refine lv_ladd hx hb dX6_rateAsStake_8 ?_
  refine lv_topl (fun u_1 eu_1 => ?_)
  have h := h u_1 eu_1
  refine va_put (D := D) (ci := 6) (v := .long u_1) (ty := .long) (C := RX6) (T := TX6) (N := 16) hx hb hT inX6 tyX6 tyX6_ok nmX6 hown hK hP (gw_D hX) hS 0 cw_Yard rfl 15 (by decide) (hT _ wf_X6_279) (fun _ h9 => h9) rfl (by decide +kernel) rfl rfl (Nat.le_of_ble_eq_true rfl) dX6_rateAsStake_9 (fun H locs hP _ hS => ?_)
  have hP := cw_stt (x := u_1) rfl hP
  obtain ⟨S_2, eS_2⟩ : ∃ z : CS, z = stt S u_1 := ⟨_, rfl⟩
  rw [← eS_2] at hP
  have h := h S_2 eS_2
  refine lv_iconst (v := 2) hx hb dX6_rateAsStake_12 (by decide) ?_
  refine lv_aload_n hx hb dX6_rateAsStake_13 rfl (lv_at hl 0 rfl) ?_
  refine lv_iload_n hx hb dX6_rateAsStake_14 rfl (lv_at hl 1 rfl) ?_
  refine cVi (As := [.int x1]) (rest := [.int 2]) hX ⟨hx, hb, hml, hown, hT⟩ (c_X6_rateAsBirch l D X hX H.size S_2 x1 _ h) (gd_V wl_X6_252 wi_X6_rateAsBirch wv_X6_rateAsBirch wn_X6 wc_X6_rateAsBirch) rfl hd_X6_rateAsBirch ⟨rfl, rfl⟩ ⟨Nat.le_of_ble_eq_true rfl, Nat.le_of_ble_eq_true rfl⟩ (va_recv hK hP (ci := 6) (q0 := 0) rfl cw_Yard) hK hP hS hF rfl hl.1 rfl (Nat.le_of_ble_eq_true rfl) dX6_rateAsStake_15 ⟨Nat.zero_le _, Nat.zero_le _⟩ (fun r_4 S_3 H locs h hP hS => ?_)
  refine lv_imul hx hb dX6_rateAsStake_18 ?_
  exact W.iret (v := (2 * r_4)) hx hb hr (fun t ht hW => ⟨⟨(2 * r_4), S_3, rfl, h, gB_of ht hP⟩, hS.F ht⟩) hS.2.2 dX6_rateAsStake_19

abbrev rm_X6_rateAsKnot : Room := { frames := 6, cells := 0, slots := 0, locals := 126 }
def p_X6_rateAsKnot (S : CS) (x1 : Int32) (post : Int32 → CS → Prop) : Prop := ∀ u_1 : Int64, u_1 = (S.2.2.2 + 10000) → (∀ S_2 : CS, S_2 = stt S u_1 → (p_X6_rateAsHeather S_2 x1 (fun r_4 S_3 => (post (r_4 + x1) S_3))))
set_option maxHeartbeats 4000000 in
set_option maxRecDepth 100000 in
theorem c_X6_rateAsKnot (l : Launch) (D : va_G) (X : XE) (hX : Inj 75 X.1) (sz : Nat) (S : CS) (x1 : Int32) (post : Int32 → CS → Prop) (h : p_X6_rateAsKnot S x1 post) : Met l yX6_rateAsKnot (Cond.code yX6_rateAsKnot cX6_rateAsKnot 2 (some .int) :: lw_gd) rm_X6_rateAsKnot (gPc D (tyX X) (CW X) (FXc X) (AX 75 X.1 sz) sz S [.ref (X.1 0), .int x1]) (va_Qi post (gB D (CW X)) (AX 75 X.1 sz)) 0 0 (AX 75 X.1 sz) := by
  refine Met.ofW (cc := cX6_rateAsKnot) (maxL := 2) (ret := (some .int)) (by decide) rfl ?_
  intro p e s m args below meth c s₁ B hml hv
  obtain ⟨rfl, hsz, hP, hK, hF⟩ := hv
  have hx := B.exec
  have hb := B.bytes
  have hr := B.returns
  have hts := atoms_spec (ws := (Cond.code yX6_rateAsKnot cX6_rateAsKnot 2 (some .int) :: lw_gd)) B.pre
  have hT : ∀ w ∈ lw_gd, w.before _ s = true := fun w h9 => hts w (List.mem_cons_of_mem _ h9)
  have hown : s.vm.findClass RX6 = some m.cls := findClass_of_methodNamed B.named
  have hlocks := B.notSynchronized
  subst hsz
  have hS : va_S (AX 75 X.1 s.heap.size) s.heap s.heap [] := va_S.rf
  have hl := lv_entry ([.ref (X.1 0), .int x1]) (n := 2) (Nat.le_of_ble_eq_true rfl)
  rw [lg_entry_eq]
  generalize (lg_sl ([.ref (X.1 0), .int x1]) ++ List.replicate (2 - (lg_sl ([.ref (X.1 0), .int x1])).length) Slot.unset).toArray = ls at hl ⊢
  have hl : lv_has ls 2 [(0, .ref (X.1 0)), (1, .int x1)] := hl
  obtain ⟨H, hH⟩ : ∃ H : Heap, H = s.heap := ⟨_, rfl⟩
  obtain ⟨locs, hlc⟩ : ∃ q : List Loc, q = [] := ⟨_, rfl⟩
  have hS : va_S (AX 75 X.1 s.heap.size) s.heap H locs := by rw [hH, hlc]; exact hS
  have hP : va_P D vwCl (CW X S) H := by rw [hH]; exact hP
  show W p l e (headSpec (Cond.code yX6_rateAsKnot cX6_rateAsKnot 2 (some .int) :: lw_gd) rm_X6_rateAsKnot).room s m ([.ref (X.1 0), .int x1] : List Value).toArray below meth c s.heap [] 0 0 (MQ below (va_Qi post (gB D (CW X)) (AX 75 X.1 s.heap.size)) ([.ref (X.1 0), .int x1] : List Value).toArray s 0 0 (AX 75 X.1 s.heap.size)) _
  suffices hgo : W p l e (headSpec (Cond.code yX6_rateAsKnot cX6_rateAsKnot 2 (some .int) :: lw_gd) rm_X6_rateAsKnot).room s m ([.ref (X.1 0), .int x1] : List Value).toArray below meth c H locs 0 0 (MQ below (va_Qi post (gB D (CW X)) (AX 75 X.1 s.heap.size)) ([.ref (X.1 0), .int x1] : List Value).toArray s 0 0 (AX 75 X.1 s.heap.size)) (F0 m 0 ls []) from by rw [hH, hlc] at hgo; exact hgo
  unfold p_X6_rateAsKnot at h
  refine lv_aload_n hx hb dX6_rateAsKnot_0 rfl (lv_at hl 0 rfl) ?_
  refine lv_dup hx hb dX6_rateAsKnot_1 rfl ?_
  refine va_get (D := D) (ci := 6) (v := .long S.2.2.2) (C := RX6) (T := TX6) (N := 16) hx hb hT inX6 hown hK hP 0 cw_Yard rfl 15 (by decide) (hT _ wf_X6_279) (fun _ h9 => h9) rfl dX6_rateAsKnot_2 ?_
  refine lv_ldc2 (v := 10000) hx hb hown (hT _ wq_X6_318) dX6_rateAsKnot_5 ?_
  refine lv_ladd hx hb dX6_rateAsKnot_8 ?_
  refine lv_topl (fun u_1 eu_1 => ?_)
  have h := h u_1 eu_1
  refine va_put (D := D) (ci := 6) (v := .long u_1) (ty := .long) (C := RX6) (T := TX6) (N := 16) hx hb hT inX6 tyX6 tyX6_ok nmX6 hown hK hP (gw_D hX) hS 0 cw_Yard rfl 15 (by decide) (hT _ wf_X6_279) (fun _ h9 => h9) rfl (by decide +kernel) rfl rfl (Nat.le_of_ble_eq_true rfl) dX6_rateAsKnot_9 (fun H locs hP _ hS => ?_)
  have hP := cw_stt (x := u_1) rfl hP
  obtain ⟨S_2, eS_2⟩ : ∃ z : CS, z = stt S u_1 := ⟨_, rfl⟩
  rw [← eS_2] at hP
  have h := h S_2 eS_2
  refine lv_aload_n hx hb dX6_rateAsKnot_12 rfl (lv_at hl 0 rfl) ?_
  refine lv_iload_n hx hb dX6_rateAsKnot_13 rfl (lv_at hl 1 rfl) ?_
  refine cVi (As := [.int x1]) (rest := []) hX ⟨hx, hb, hml, hown, hT⟩ (c_X6_rateAsHeather l D X hX H.size S_2 x1 _ h) (gd_V wl_X6_255 wi_X6_rateAsHeather wv_X6_rateAsHeather wn_X6 wc_X6_rateAsHeather) rfl hd_X6_rateAsHeather ⟨rfl, rfl⟩ ⟨Nat.le_of_ble_eq_true rfl, Nat.le_of_ble_eq_true rfl⟩ (va_recv hK hP (ci := 6) (q0 := 0) rfl cw_Yard) hK hP hS hF rfl hl.1 rfl (Nat.le_of_ble_eq_true rfl) dX6_rateAsKnot_14 ⟨Nat.zero_le _, Nat.zero_le _⟩ (fun r_4 S_3 H locs h hP hS => ?_)
  refine lv_iload_n hx hb dX6_rateAsKnot_17 rfl (lv_at hl 1 rfl) ?_
  refine lv_iadd hx hb dX6_rateAsKnot_18 ?_
  exact W.iret (v := (r_4 + x1)) hx hb hr (fun t ht hW => ⟨⟨(r_4 + x1), S_3, rfl, h, gB_of ht hP⟩, hS.F ht⟩) hS.2.2 dX6_rateAsKnot_19

abbrev rm_X6_rateAsBramble : Room := { frames := 5, cells := 0, slots := 0, locals := 105 }
def p_X6_rateAsBramble (S : CS) (x1 : Int32) (post : Int32 → CS → Prop) : Prop := ∀ u_1 : Int64, u_1 = (S.2.2.2 + 100000) → (∀ S_2 : CS, S_2 = stt S u_1 → (p_X6_rateAsPart S_2 x1 (fun r_4 S_3 => (post (r_4 + (S_3.1 (mo 0) 7)) S_3))))
set_option maxHeartbeats 4000000 in
set_option maxRecDepth 100000 in
theorem c_X6_rateAsBramble (l : Launch) (D : va_G) (X : XE) (hX : Inj 75 X.1) (sz : Nat) (S : CS) (x1 : Int32) (post : Int32 → CS → Prop) (h : p_X6_rateAsBramble S x1 post) : Met l yX6_rateAsBramble (Cond.code yX6_rateAsBramble cX6_rateAsBramble 2 (some .int) :: lw_gd) rm_X6_rateAsBramble (gPc D (tyX X) (CW X) (FXc X) (AX 75 X.1 sz) sz S [.ref (X.1 0), .int x1]) (va_Qi post (gB D (CW X)) (AX 75 X.1 sz)) 0 0 (AX 75 X.1 sz) := by
  refine Met.ofW (cc := cX6_rateAsBramble) (maxL := 2) (ret := (some .int)) (by decide) rfl ?_
  intro p e s m args below meth c s₁ B hml hv
  obtain ⟨rfl, hsz, hP, hK, hF⟩ := hv
  have hx := B.exec
  have hb := B.bytes
  have hr := B.returns
  have hts := atoms_spec (ws := (Cond.code yX6_rateAsBramble cX6_rateAsBramble 2 (some .int) :: lw_gd)) B.pre
  have hT : ∀ w ∈ lw_gd, w.before _ s = true := fun w h9 => hts w (List.mem_cons_of_mem _ h9)
  have hown : s.vm.findClass RX6 = some m.cls := findClass_of_methodNamed B.named
  have hlocks := B.notSynchronized
  subst hsz
  have hS : va_S (AX 75 X.1 s.heap.size) s.heap s.heap [] := va_S.rf
  have hl := lv_entry ([.ref (X.1 0), .int x1]) (n := 2) (Nat.le_of_ble_eq_true rfl)
  rw [lg_entry_eq]
  generalize (lg_sl ([.ref (X.1 0), .int x1]) ++ List.replicate (2 - (lg_sl ([.ref (X.1 0), .int x1])).length) Slot.unset).toArray = ls at hl ⊢
  have hl : lv_has ls 2 [(0, .ref (X.1 0)), (1, .int x1)] := hl
  obtain ⟨H, hH⟩ : ∃ H : Heap, H = s.heap := ⟨_, rfl⟩
  obtain ⟨locs, hlc⟩ : ∃ q : List Loc, q = [] := ⟨_, rfl⟩
  have hS : va_S (AX 75 X.1 s.heap.size) s.heap H locs := by rw [hH, hlc]; exact hS
  have hP : va_P D vwCl (CW X S) H := by rw [hH]; exact hP
  show W p l e (headSpec (Cond.code yX6_rateAsBramble cX6_rateAsBramble 2 (some .int) :: lw_gd) rm_X6_rateAsBramble).room s m ([.ref (X.1 0), .int x1] : List Value).toArray below meth c s.heap [] 0 0 (MQ below (va_Qi post (gB D (CW X)) (AX 75 X.1 s.heap.size)) ([.ref (X.1 0), .int x1] : List Value).toArray s 0 0 (AX 75 X.1 s.heap.size)) _
  suffices hgo : W p l e (headSpec (Cond.code yX6_rateAsBramble cX6_rateAsBramble 2 (some .int) :: lw_gd) rm_X6_rateAsBramble).room s m ([.ref (X.1 0), .int x1] : List Value).toArray below meth c H locs 0 0 (MQ below (va_Qi post (gB D (CW X)) (AX 75 X.1 s.heap.size)) ([.ref (X.1 0), .int x1] : List Value).toArray s 0 0 (AX 75 X.1 s.heap.size)) (F0 m 0 ls []) from by rw [hH, hlc] at hgo; exact hgo
  unfold p_X6_rateAsBramble at h
  refine lv_aload_n hx hb dX6_rateAsBramble_0 rfl (lv_at hl 0 rfl) ?_
  refine lv_dup hx hb dX6_rateAsBramble_1 rfl ?_
  refine va_get (D := D) (ci := 6) (v := .long S.2.2.2) (C := RX6) (T := TX6) (N := 16) hx hb hT inX6 hown hK hP 0 cw_Yard rfl 15 (by decide) (hT _ wf_X6_279) (fun _ h9 => h9) rfl dX6_rateAsBramble_2 ?_
  refine lv_ldc2 (v := 100000) hx hb hown (hT _ wq_X6_320) dX6_rateAsBramble_5 ?_
  refine lv_ladd hx hb dX6_rateAsBramble_8 ?_
  refine lv_topl (fun u_1 eu_1 => ?_)
  have h := h u_1 eu_1
  refine va_put (D := D) (ci := 6) (v := .long u_1) (ty := .long) (C := RX6) (T := TX6) (N := 16) hx hb hT inX6 tyX6 tyX6_ok nmX6 hown hK hP (gw_D hX) hS 0 cw_Yard rfl 15 (by decide) (hT _ wf_X6_279) (fun _ h9 => h9) rfl (by decide +kernel) rfl rfl (Nat.le_of_ble_eq_true rfl) dX6_rateAsBramble_9 (fun H locs hP _ hS => ?_)
  have hP := cw_stt (x := u_1) rfl hP
  obtain ⟨S_2, eS_2⟩ : ∃ z : CS, z = stt S u_1 := ⟨_, rfl⟩
  rw [← eS_2] at hP
  have h := h S_2 eS_2
  refine lv_aload_n hx hb dX6_rateAsBramble_12 rfl (lv_at hl 0 rfl) ?_
  refine lv_iload_n hx hb dX6_rateAsBramble_13 rfl (lv_at hl 1 rfl) ?_
  refine cVi (As := [.int x1]) (rest := []) hX ⟨hx, hb, hml, hown, hT⟩ (c_X6_rateAsPart l D X hX H.size S_2 x1 _ h) (gd_V wl_X6_249 wi_X6_rateAsPart wv_X6_rateAsPart wn_X6 wc_X6_rateAsPart) rfl hd_X6_rateAsPart ⟨rfl, rfl⟩ ⟨Nat.le_of_ble_eq_true rfl, Nat.le_of_ble_eq_true rfl⟩ (va_recv hK hP (ci := 6) (q0 := 0) rfl cw_Yard) hK hP hS hF rfl hl.1 rfl (Nat.le_of_ble_eq_true rfl) dX6_rateAsBramble_14 ⟨Nat.zero_le _, Nat.zero_le _⟩ (fun r_4 S_3 H locs h hP hS => ?_)
  refine lv_aload_n hx hb dX6_rateAsBramble_17 rfl (lv_at hl 0 rfl) ?_
  refine va_get (D := D) (ci := 6) (v := .ref (X.1 (mo 0))) (C := RX6) (T := TX6) (N := 16) hx hb hT inX6 hown hK hP 0 cw_Yard rfl 3 (by decide) (hT _ wf_X6_29) (fun _ h9 => h9) rfl dX6_rateAsBramble_18 ?_
  refine va_getN (D := D) (ci := 1) (v := .int (S_3.1 (mo 0) 7)) (C := RX1) (T := TX1) (N := 8) hx hb hT inX1 hown hK hP (mo 0) (cw_Moment (m := 0) (by decide)) rfl 7 (by decide) (va_Nw.use rfl hF.1.1.2.2.2.2.2.2.2) (fun _ h9 => h9) rfl dX6_rateAsBramble_21 ?_
  refine lv_iadd hx hb dX6_rateAsBramble_24 ?_
  exact W.iret (v := (r_4 + (S_3.1 (mo 0) 7))) hx hb hr (fun t ht hW => ⟨⟨(r_4 + (S_3.1 (mo 0) 7)), S_3, rfl, h, gB_of ht hP⟩, hS.F ht⟩) hS.2.2 dX6_rateAsBramble_25

abbrev rm_X6_rate : Room := { frames := 7, cells := 0, slots := 0, locals := 147 }
def p_X6_rate (S : CS) (x1 : Int32) (x2 : Int32) (post : Int32 → CS → Prop) : Prop := p_X6_isPart S x2 (fun r_2 S_1 => ((r_2 = 0 → (post (-1000000) S_1)) ∧ (¬ (r_2 = 0) → ((x1 = 0 → (p_X6_rateAsPart S_1 x2 (fun r_6 S_5 => (post r_6 S_5)))) ∧ (¬ x1 = 0 → ((x1 = 1 → (p_X6_rateAsBirch S_1 x2 (fun r_9 S_8 => (post r_9 S_8)))) ∧ (¬ x1 = 1 → ((x1 = 2 → (p_X6_rateAsHeather S_1 x2 (fun r_12 S_11 => (post r_12 S_11)))) ∧ (¬ x1 = 2 → ((x1 = 3 → (p_X6_rateAsStake S_1 x2 (fun r_15 S_14 => (post r_15 S_14)))) ∧ (¬ x1 = 3 → ((x1 = 4 → (p_X6_rateAsKnot S_1 x2 (fun r_18 S_17 => (post r_18 S_17)))) ∧ (¬ x1 = 4 → ((x1 = 5 → (p_X6_rateAsBramble S_1 x2 (fun r_21 S_20 => (post r_21 S_20)))) ∧ (¬ x1 = 5 → (post (-1000000) S_1))))))))))))))))
set_option maxHeartbeats 4000000 in
set_option maxRecDepth 100000 in
theorem c_X6_rate (l : Launch) (D : va_G) (X : XE) (hX : Inj 75 X.1) (sz : Nat) (S : CS) (x1 : Int32) (x2 : Int32) (post : Int32 → CS → Prop) (h : p_X6_rate S x1 x2 post) : Met l yX6_rate (Cond.code yX6_rate cX6_rate 3 (some .int) :: lw_gd) rm_X6_rate (gPc D (tyX X) (CW X) (FXc X) (AX 75 X.1 sz) sz S [.ref (X.1 0), .int x1, .int x2]) (va_Qi post (gB D (CW X)) (AX 75 X.1 sz)) 0 0 (AX 75 X.1 sz) := by
  refine Met.ofW (cc := cX6_rate) (maxL := 3) (ret := (some .int)) (by decide) rfl ?_
  intro p e s m args below meth c s₁ B hml hv
  obtain ⟨rfl, hsz, hP, hK, hF⟩ := hv
  have hx := B.exec
  have hb := B.bytes
  have hr := B.returns
  have hts := atoms_spec (ws := (Cond.code yX6_rate cX6_rate 3 (some .int) :: lw_gd)) B.pre
  have hT : ∀ w ∈ lw_gd, w.before _ s = true := fun w h9 => hts w (List.mem_cons_of_mem _ h9)
  have hown : s.vm.findClass RX6 = some m.cls := findClass_of_methodNamed B.named
  have hlocks := B.notSynchronized
  subst hsz
  have hS : va_S (AX 75 X.1 s.heap.size) s.heap s.heap [] := va_S.rf
  have hl := lv_entry ([.ref (X.1 0), .int x1, .int x2]) (n := 3) (Nat.le_of_ble_eq_true rfl)
  rw [lg_entry_eq]
  generalize (lg_sl ([.ref (X.1 0), .int x1, .int x2]) ++ List.replicate (3 - (lg_sl ([.ref (X.1 0), .int x1, .int x2])).length) Slot.unset).toArray = ls at hl ⊢
  have hl : lv_has ls 3 [(0, .ref (X.1 0)), (1, .int x1), (2, .int x2)] := hl
  obtain ⟨H, hH⟩ : ∃ H : Heap, H = s.heap := ⟨_, rfl⟩
  obtain ⟨locs, hlc⟩ : ∃ q : List Loc, q = [] := ⟨_, rfl⟩
  have hS : va_S (AX 75 X.1 s.heap.size) s.heap H locs := by rw [hH, hlc]; exact hS
  have hP : va_P D vwCl (CW X S) H := by rw [hH]; exact hP
  show W p l e (headSpec (Cond.code yX6_rate cX6_rate 3 (some .int) :: lw_gd) rm_X6_rate).room s m ([.ref (X.1 0), .int x1, .int x2] : List Value).toArray below meth c s.heap [] 0 0 (MQ below (va_Qi post (gB D (CW X)) (AX 75 X.1 s.heap.size)) ([.ref (X.1 0), .int x1, .int x2] : List Value).toArray s 0 0 (AX 75 X.1 s.heap.size)) _
  suffices hgo : W p l e (headSpec (Cond.code yX6_rate cX6_rate 3 (some .int) :: lw_gd) rm_X6_rate).room s m ([.ref (X.1 0), .int x1, .int x2] : List Value).toArray below meth c H locs 0 0 (MQ below (va_Qi post (gB D (CW X)) (AX 75 X.1 s.heap.size)) ([.ref (X.1 0), .int x1, .int x2] : List Value).toArray s 0 0 (AX 75 X.1 s.heap.size)) (F0 m 0 ls []) from by rw [hH, hlc] at hgo; exact hgo
  unfold p_X6_rate at h
  refine lv_aload_n hx hb dX6_rate_0 rfl (lv_at hl 0 rfl) ?_
  refine lv_iload_n hx hb dX6_rate_1 rfl (lv_at hl 2 rfl) ?_
  refine cVi (As := [.int x2]) (rest := []) hX ⟨hx, hb, hml, hown, hT⟩ (c_X6_isPart l D X hX H.size S x2 _ h) (gd_V wl_X6_91 wi_X6_isPart wv_X6_isPart wn_X6 wc_X6_isPart) rfl hd_X6_isPart ⟨rfl, rfl⟩ ⟨Nat.le_of_ble_eq_true rfl, Nat.le_of_ble_eq_true rfl⟩ (va_recv hK hP (ci := 6) (q0 := 0) rfl cw_Yard) hK hP hS hF rfl hl.1 rfl (Nat.le_of_ble_eq_true rfl) dX6_rate_2 ⟨Nat.zero_le _, Nat.zero_le _⟩ (fun r_2 S_1 H locs h hP hS => ?_)
  refine lv_if_ne (tgt := 11) hx hb dX6_rate_5 (by decide) (fun c_3 => ?_) (fun c_3 => ?_)
  · have h := h.2 c_3
    refine lv_iload_n hx hb dX6_rate_11 rfl (lv_at hl 1 rfl) ?_
    by_cases c_4 : x1 = 0
    · have h := h.1 c_4
      refine lv_tableIn (off := 40) (tgt := 52) hx hb dX6_rate_12 (by rw [c_4]; decide) (by rw [c_4]; decide) (by rw [c_4]; rfl) (by decide) ?_
      refine lv_aload_n hx hb dX6_rate_52 rfl (lv_at hl 0 rfl) ?_
      refine lv_iload_n hx hb dX6_rate_53 rfl (lv_at hl 2 rfl) ?_
      refine cVi (As := [.int x2]) (rest := []) hX ⟨hx, hb, hml, hown, hT⟩ (c_X6_rateAsPart l D X hX H.size S_1 x2 _ h) (gd_V wl_X6_249 wi_X6_rateAsPart wv_X6_rateAsPart wn_X6 wc_X6_rateAsPart) rfl hd_X6_rateAsPart ⟨rfl, rfl⟩ ⟨Nat.le_of_ble_eq_true rfl, Nat.le_of_ble_eq_true rfl⟩ (va_recv hK hP (ci := 6) (q0 := 0) rfl cw_Yard) hK hP hS hF rfl hl.1 rfl (Nat.le_of_ble_eq_true rfl) dX6_rate_54 ⟨Nat.zero_le _, Nat.zero_le _⟩ (fun r_6 S_5 H locs h hP hS => ?_)
      exact W.iret (v := r_6) hx hb hr (fun t ht hW => ⟨⟨r_6, S_5, rfl, h, gB_of ht hP⟩, hS.F ht⟩) hS.2.2 dX6_rate_57
    · have h := h.2 c_4
      by_cases c_7 : x1 = 1
      · have h := h.1 c_7
        refine lv_tableIn (off := 46) (tgt := 58) hx hb dX6_rate_12 (by rw [c_7]; decide) (by rw [c_7]; decide) (by rw [c_7]; rfl) (by decide) ?_
        refine lv_aload_n hx hb dX6_rate_58 rfl (lv_at hl 0 rfl) ?_
        refine lv_iload_n hx hb dX6_rate_59 rfl (lv_at hl 2 rfl) ?_
        refine cVi (As := [.int x2]) (rest := []) hX ⟨hx, hb, hml, hown, hT⟩ (c_X6_rateAsBirch l D X hX H.size S_1 x2 _ h) (gd_V wl_X6_252 wi_X6_rateAsBirch wv_X6_rateAsBirch wn_X6 wc_X6_rateAsBirch) rfl hd_X6_rateAsBirch ⟨rfl, rfl⟩ ⟨Nat.le_of_ble_eq_true rfl, Nat.le_of_ble_eq_true rfl⟩ (va_recv hK hP (ci := 6) (q0 := 0) rfl cw_Yard) hK hP hS hF rfl hl.1 rfl (Nat.le_of_ble_eq_true rfl) dX6_rate_60 ⟨Nat.zero_le _, Nat.zero_le _⟩ (fun r_9 S_8 H locs h hP hS => ?_)
        exact W.iret (v := r_9) hx hb hr (fun t ht hW => ⟨⟨r_9, S_8, rfl, h, gB_of ht hP⟩, hS.F ht⟩) hS.2.2 dX6_rate_63
      · have h := h.2 c_7
        by_cases c_10 : x1 = 2
        · have h := h.1 c_10
          refine lv_tableIn (off := 52) (tgt := 64) hx hb dX6_rate_12 (by rw [c_10]; decide) (by rw [c_10]; decide) (by rw [c_10]; rfl) (by decide) ?_
          refine lv_aload_n hx hb dX6_rate_64 rfl (lv_at hl 0 rfl) ?_
          refine lv_iload_n hx hb dX6_rate_65 rfl (lv_at hl 2 rfl) ?_
          refine cVi (As := [.int x2]) (rest := []) hX ⟨hx, hb, hml, hown, hT⟩ (c_X6_rateAsHeather l D X hX H.size S_1 x2 _ h) (gd_V wl_X6_255 wi_X6_rateAsHeather wv_X6_rateAsHeather wn_X6 wc_X6_rateAsHeather) rfl hd_X6_rateAsHeather ⟨rfl, rfl⟩ ⟨Nat.le_of_ble_eq_true rfl, Nat.le_of_ble_eq_true rfl⟩ (va_recv hK hP (ci := 6) (q0 := 0) rfl cw_Yard) hK hP hS hF rfl hl.1 rfl (Nat.le_of_ble_eq_true rfl) dX6_rate_66 ⟨Nat.zero_le _, Nat.zero_le _⟩ (fun r_12 S_11 H locs h hP hS => ?_)
          exact W.iret (v := r_12) hx hb hr (fun t ht hW => ⟨⟨r_12, S_11, rfl, h, gB_of ht hP⟩, hS.F ht⟩) hS.2.2 dX6_rate_69
        · have h := h.2 c_10
          by_cases c_13 : x1 = 3
          · have h := h.1 c_13
            refine lv_tableIn (off := 58) (tgt := 70) hx hb dX6_rate_12 (by rw [c_13]; decide) (by rw [c_13]; decide) (by rw [c_13]; rfl) (by decide) ?_
            refine lv_aload_n hx hb dX6_rate_70 rfl (lv_at hl 0 rfl) ?_
            refine lv_iload_n hx hb dX6_rate_71 rfl (lv_at hl 2 rfl) ?_
            refine cVi (As := [.int x2]) (rest := []) hX ⟨hx, hb, hml, hown, hT⟩ (c_X6_rateAsStake l D X hX H.size S_1 x2 _ h) (gd_V wl_X6_258 wi_X6_rateAsStake wv_X6_rateAsStake wn_X6 wc_X6_rateAsStake) rfl hd_X6_rateAsStake ⟨rfl, rfl⟩ ⟨Nat.le_of_ble_eq_true rfl, Nat.le_of_ble_eq_true rfl⟩ (va_recv hK hP (ci := 6) (q0 := 0) rfl cw_Yard) hK hP hS hF rfl hl.1 rfl (Nat.le_of_ble_eq_true rfl) dX6_rate_72 ⟨Nat.zero_le _, Nat.zero_le _⟩ (fun r_15 S_14 H locs h hP hS => ?_)
            exact W.iret (v := r_15) hx hb hr (fun t ht hW => ⟨⟨r_15, S_14, rfl, h, gB_of ht hP⟩, hS.F ht⟩) hS.2.2 dX6_rate_75
          · have h := h.2 c_13
            by_cases c_16 : x1 = 4
            · have h := h.1 c_16
              refine lv_tableIn (off := 64) (tgt := 76) hx hb dX6_rate_12 (by rw [c_16]; decide) (by rw [c_16]; decide) (by rw [c_16]; rfl) (by decide) ?_
              refine lv_aload_n hx hb dX6_rate_76 rfl (lv_at hl 0 rfl) ?_
              refine lv_iload_n hx hb dX6_rate_77 rfl (lv_at hl 2 rfl) ?_
              refine cVi (As := [.int x2]) (rest := []) hX ⟨hx, hb, hml, hown, hT⟩ (c_X6_rateAsKnot l D X hX H.size S_1 x2 _ h) (gd_V wl_X6_261 wi_X6_rateAsKnot wv_X6_rateAsKnot wn_X6 wc_X6_rateAsKnot) rfl hd_X6_rateAsKnot ⟨rfl, rfl⟩ ⟨Nat.le_of_ble_eq_true rfl, Nat.le_of_ble_eq_true rfl⟩ (va_recv hK hP (ci := 6) (q0 := 0) rfl cw_Yard) hK hP hS hF rfl hl.1 rfl (Nat.le_of_ble_eq_true rfl) dX6_rate_78 ⟨Nat.zero_le _, Nat.zero_le _⟩ (fun r_18 S_17 H locs h hP hS => ?_)
              exact W.iret (v := r_18) hx hb hr (fun t ht hW => ⟨⟨r_18, S_17, rfl, h, gB_of ht hP⟩, hS.F ht⟩) hS.2.2 dX6_rate_81
            · have h := h.2 c_16
              by_cases c_19 : x1 = 5
              · have h := h.1 c_19
                refine lv_tableIn (off := 70) (tgt := 82) hx hb dX6_rate_12 (by rw [c_19]; decide) (by rw [c_19]; decide) (by rw [c_19]; rfl) (by decide) ?_
                refine lv_aload_n hx hb dX6_rate_82 rfl (lv_at hl 0 rfl) ?_
                refine lv_iload_n hx hb dX6_rate_83 rfl (lv_at hl 2 rfl) ?_
                refine cVi (As := [.int x2]) (rest := []) hX ⟨hx, hb, hml, hown, hT⟩ (c_X6_rateAsBramble l D X hX H.size S_1 x2 _ h) (gd_V wl_X6_264 wi_X6_rateAsBramble wv_X6_rateAsBramble wn_X6 wc_X6_rateAsBramble) rfl hd_X6_rateAsBramble ⟨rfl, rfl⟩ ⟨Nat.le_of_ble_eq_true rfl, Nat.le_of_ble_eq_true rfl⟩ (va_recv hK hP (ci := 6) (q0 := 0) rfl cw_Yard) hK hP hS hF rfl hl.1 rfl (Nat.le_of_ble_eq_true rfl) dX6_rate_84 ⟨Nat.zero_le _, Nat.zero_le _⟩ (fun r_21 S_20 H locs h hP hS => ?_)
                exact W.iret (v := r_21) hx hb hr (fun t ht hW => ⟨⟨r_21, S_20, rfl, h, gB_of ht hP⟩, hS.F ht⟩) hS.2.2 dX6_rate_87
              · have h := h.2 c_19
                refine lv_tableOut (tgt := 88) hx hb dX6_rate_12 (by have ec_4 := lv_neT c_4 (a := 0) rfl; have ec_7 := lv_neT c_7 (a := 1) rfl; have ec_10 := lv_neT c_10 (a := 2) rfl; have ec_13 := lv_neT c_13 (a := 3) rfl; have ec_16 := lv_neT c_16 (a := 4) rfl; have ec_19 := lv_neT c_19 (a := 5) rfl; omega) (by decide) ?_
                refine lv_ldc (v := (-1000000)) hx hb hown (hT _ wk_X6_248) dX6_rate_88 ?_
                exact W.iret (v := (-1000000)) hx hb hr (fun t ht hW => ⟨⟨(-1000000), S_1, rfl, h, gB_of ht hP⟩, hS.F ht⟩) hS.2.2 dX6_rate_90
  · have h := h.1 c_3
    refine lv_ldc (v := (-1000000)) hx hb hown (hT _ wk_X6_248) dX6_rate_8 ?_
    exact W.iret (v := (-1000000)) hx hb hr (fun t ht hW => ⟨⟨(-1000000), S_1, rfl, h, gB_of ht hP⟩, hS.F ht⟩) hS.2.2 dX6_rate_10

abbrev rm_X6_isImage : Room := { frames := 0, cells := 0, slots := 0, locals := 0 }
def p_X6_isImage (S : CS) (x0 : Int32) (post : Int32 → CS → Prop) : Prop := (x0 < 0 → (post 0 S)) ∧ (¬ (x0 < 0) → ((2 ≤ x0 → (post 0 S)) ∧ (¬ (2 ≤ x0) → (post 1 S))))
set_option maxHeartbeats 4000000 in
set_option maxRecDepth 100000 in
theorem c_X6_isImage (l : Launch) (D : va_G) (X : XE) (hX : Inj 75 X.1) (sz : Nat) (S : CS) (x0 : Int32) (post : Int32 → CS → Prop) (h : p_X6_isImage S x0 post) : Met l yX6_isImage (Cond.code yX6_isImage cX6_isImage 1 (some .boolean) :: lw_gd) rm_X6_isImage (gPc D (tyX X) (CW X) (FXc X) (AX 75 X.1 sz) sz S [.int x0]) (va_Qi post (gB D (CW X)) (AX 75 X.1 sz)) 0 0 (AX 75 X.1 sz) := by
  refine Met.ofW (cc := cX6_isImage) (maxL := 1) (ret := (some .boolean)) (by decide) rfl ?_
  intro p e s m args below meth c s₁ B hml hv
  obtain ⟨rfl, hsz, hP, hK, hF⟩ := hv
  have hx := B.exec
  have hb := B.bytes
  have hr := B.returns
  have hts := atoms_spec (ws := (Cond.code yX6_isImage cX6_isImage 1 (some .boolean) :: lw_gd)) B.pre
  have hT : ∀ w ∈ lw_gd, w.before _ s = true := fun w h9 => hts w (List.mem_cons_of_mem _ h9)
  have hown : s.vm.findClass RX6 = some m.cls := findClass_of_methodNamed B.named
  have hlocks := B.notSynchronized
  subst hsz
  have hS : va_S (AX 75 X.1 s.heap.size) s.heap s.heap [] := va_S.rf
  have hl := lv_entry ([.int x0]) (n := 1) (Nat.le_of_ble_eq_true rfl)
  rw [lg_entry_eq]
  generalize (lg_sl ([.int x0]) ++ List.replicate (1 - (lg_sl ([.int x0])).length) Slot.unset).toArray = ls at hl ⊢
  have hl : lv_has ls 1 [(0, .int x0)] := hl
  obtain ⟨H, hH⟩ : ∃ H : Heap, H = s.heap := ⟨_, rfl⟩
  obtain ⟨locs, hlc⟩ : ∃ q : List Loc, q = [] := ⟨_, rfl⟩
  have hS : va_S (AX 75 X.1 s.heap.size) s.heap H locs := by rw [hH, hlc]; exact hS
  have hP : va_P D vwCl (CW X S) H := by rw [hH]; exact hP
  show W p l e (headSpec (Cond.code yX6_isImage cX6_isImage 1 (some .boolean) :: lw_gd) rm_X6_isImage).room s m ([.int x0] : List Value).toArray below meth c s.heap [] 0 0 (MQ below (va_Qi post (gB D (CW X)) (AX 75 X.1 s.heap.size)) ([.int x0] : List Value).toArray s 0 0 (AX 75 X.1 s.heap.size)) _
  suffices hgo : W p l e (headSpec (Cond.code yX6_isImage cX6_isImage 1 (some .boolean) :: lw_gd) rm_X6_isImage).room s m ([.int x0] : List Value).toArray below meth c H locs 0 0 (MQ below (va_Qi post (gB D (CW X)) (AX 75 X.1 s.heap.size)) ([.int x0] : List Value).toArray s 0 0 (AX 75 X.1 s.heap.size)) (F0 m 0 ls []) from by rw [hH, hlc] at hgo; exact hgo
  unfold p_X6_isImage at h
  refine lv_iload_n hx hb dX6_isImage_0 rfl (lv_at hl 0 rfl) ?_
  refine lv_if_lt (tgt := 13) hx hb dX6_isImage_1 (by decide) (fun c_1 => ?_) (fun c_1 => ?_)
  · have h := h.1 c_1
    refine lv_iconst (v := 0) hx hb dX6_isImage_13 (by decide) ?_
    exact W.zret (v := 0) hx hb hr rfl (fun t ht hW => ⟨⟨0, S, rfl, h, gB_of ht hP⟩, hS.F ht⟩) hS.2.2 dX6_isImage_14
  · have h := h.2 c_1
    refine lv_iload_n hx hb dX6_isImage_4 rfl (lv_at hl 0 rfl) ?_
    refine lv_iconst (v := 2) hx hb dX6_isImage_5 (by decide) ?_
    refine lv_icmp_ge (tgt := 13) hx hb dX6_isImage_6 (by decide) (fun c_2 => ?_) (fun c_2 => ?_)
    · have h := h.1 c_2
      refine lv_iconst (v := 0) hx hb dX6_isImage_13 (by decide) ?_
      exact W.zret (v := 0) hx hb hr rfl (fun t ht hW => ⟨⟨0, S, rfl, h, gB_of ht hP⟩, hS.F ht⟩) hS.2.2 dX6_isImage_14
    · have h := h.2 c_2
      refine lv_iconst (v := 1) hx hb dX6_isImage_9 (by decide) ?_
      refine lv_goto (tgt := 14) hx hb dX6_isImage_10 (by decide) ?_
      exact W.zret (v := 1) hx hb hr rfl (fun t ht hW => ⟨⟨1, S, rfl, h, gB_of ht hP⟩, hS.F ht⟩) hS.2.2 dX6_isImage_14

abbrev rm_X6_keep : Room := { frames := 4, cells := 0, slots := 0, locals := 88 }
def p_X6_keep (S : CS) (x1 : Int32) (post : Int32 → CS → Prop) : Prop := p_X6_isImage S x1 (fun r_2 S_1 => ((r_2 = 0 → (post (-1) S_1)) ∧ (¬ (r_2 = 0) → (p_X3_put S_1 1 x1 0 (fun S_4 => (vp_in x1 2 ∧ (∀ S_6 : CS, S_6 = sti S_4 13 x1.toNatClampNeg (vp_nar .boolean 1) → (post (S_6.1 (mo 0) 4) S_6))))))))
set_option maxHeartbeats 4000000 in
set_option maxRecDepth 100000 in
theorem c_X6_keep (l : Launch) (D : va_G) (X : XE) (hX : Inj 75 X.1) (sz : Nat) (S : CS) (x1 : Int32) (post : Int32 → CS → Prop) (h : p_X6_keep S x1 post) : Met l yX6_keep (Cond.code yX6_keep cX6_keep 2 (some .int) :: lw_gd) rm_X6_keep (gPc D (tyX X) (CW X) (FXc X) (AX 75 X.1 sz) sz S [.ref (X.1 0), .int x1]) (va_Qi post (gB D (CW X)) (AX 75 X.1 sz)) 0 0 (AX 75 X.1 sz) := by
  refine Met.ofW (cc := cX6_keep) (maxL := 2) (ret := (some .int)) (by decide) rfl ?_
  intro p e s m args below meth c s₁ B hml hv
  obtain ⟨rfl, hsz, hP, hK, hF⟩ := hv
  have hx := B.exec
  have hb := B.bytes
  have hr := B.returns
  have hts := atoms_spec (ws := (Cond.code yX6_keep cX6_keep 2 (some .int) :: lw_gd)) B.pre
  have hT : ∀ w ∈ lw_gd, w.before _ s = true := fun w h9 => hts w (List.mem_cons_of_mem _ h9)
  have hown : s.vm.findClass RX6 = some m.cls := findClass_of_methodNamed B.named
  have hlocks := B.notSynchronized
  subst hsz
  have hS : va_S (AX 75 X.1 s.heap.size) s.heap s.heap [] := va_S.rf
  have hl := lv_entry ([.ref (X.1 0), .int x1]) (n := 2) (Nat.le_of_ble_eq_true rfl)
  rw [lg_entry_eq]
  generalize (lg_sl ([.ref (X.1 0), .int x1]) ++ List.replicate (2 - (lg_sl ([.ref (X.1 0), .int x1])).length) Slot.unset).toArray = ls at hl ⊢
  have hl : lv_has ls 2 [(0, .ref (X.1 0)), (1, .int x1)] := hl
  obtain ⟨H, hH⟩ : ∃ H : Heap, H = s.heap := ⟨_, rfl⟩
  obtain ⟨locs, hlc⟩ : ∃ q : List Loc, q = [] := ⟨_, rfl⟩
  have hS : va_S (AX 75 X.1 s.heap.size) s.heap H locs := by rw [hH, hlc]; exact hS
  have hP : va_P D vwCl (CW X S) H := by rw [hH]; exact hP
  show W p l e (headSpec (Cond.code yX6_keep cX6_keep 2 (some .int) :: lw_gd) rm_X6_keep).room s m ([.ref (X.1 0), .int x1] : List Value).toArray below meth c s.heap [] 0 0 (MQ below (va_Qi post (gB D (CW X)) (AX 75 X.1 s.heap.size)) ([.ref (X.1 0), .int x1] : List Value).toArray s 0 0 (AX 75 X.1 s.heap.size)) _
  suffices hgo : W p l e (headSpec (Cond.code yX6_keep cX6_keep 2 (some .int) :: lw_gd) rm_X6_keep).room s m ([.ref (X.1 0), .int x1] : List Value).toArray below meth c H locs 0 0 (MQ below (va_Qi post (gB D (CW X)) (AX 75 X.1 s.heap.size)) ([.ref (X.1 0), .int x1] : List Value).toArray s 0 0 (AX 75 X.1 s.heap.size)) (F0 m 0 ls []) from by rw [hH, hlc] at hgo; exact hgo
  unfold p_X6_keep at h
  refine lv_iload_n hx hb dX6_keep_0 rfl (lv_at hl 1 rfl) ?_
  refine cSi (As := [.int x1]) (rest := []) hX ⟨hx, hb, hml, hown, hT⟩ (c_X6_isImage l D X hX H.size S x1 _ h) (gd_S wl_X6_267 wt_X6_isImage wn_X6 wc_X6_isImage) hd_X6_isImage ⟨rfl, rfl⟩ ⟨Nat.le_of_ble_eq_true rfl, Nat.le_of_ble_eq_true rfl⟩ hK hP hS hF rfl hl.1 rfl (Nat.le_of_ble_eq_true rfl) dX6_keep_1 ⟨Nat.zero_le _, Nat.zero_le _⟩ (fun r_2 S_1 H locs h hP hS => ?_)
  refine lv_if_ne (tgt := 9) hx hb dX6_keep_4 (by decide) (fun c_3 => ?_) (fun c_3 => ?_)
  · have h := h.2 c_3
    refine lv_aload_n hx hb dX6_keep_9 rfl (lv_at hl 0 rfl) ?_
    refine va_get (D := D) (ci := 6) (v := .ref (X.1 (ho 1))) (C := RX6) (T := TX6) (N := 16) hx hb hT inX6 hown hK hP 0 cw_Yard rfl 7 (by decide) (hT _ wf_X6_42) (fun _ h9 => h9) rfl dX6_keep_10 ?_
    refine lv_iload_n hx hb dX6_keep_13 rfl (lv_at hl 1 rfl) ?_
    refine lv_aload_n hx hb dX6_keep_14 rfl (lv_at hl 0 rfl) ?_
    refine va_get (D := D) (ci := 6) (v := .ref (X.1 (mo 0))) (C := RX6) (T := TX6) (N := 16) hx hb hT inX6 hown hK hP 0 cw_Yard rfl 3 (by decide) (hT _ wf_X6_29) (fun _ h9 => h9) rfl dX6_keep_15 ?_
    refine cVv (As := [.int x1, .ref (X.1 (mo 0))]) (rest := []) hX ⟨hx, hb, hml, hown, hT⟩ (c_X3_put l D X hX H.size S_1 1 (by decide) x1 0 (by decide) _ h) (gd_V wl_X6_270 wi_X3_put wv_X3_put wn_X3 wc_X3_put) rfl hd_X3_put ⟨rfl, rfl⟩ ⟨Nat.le_of_ble_eq_true rfl, Nat.le_of_ble_eq_true rfl⟩ (va_recv hK hP (ci := 3) (q0 := (ho 1)) rfl (cw_Shelf (h := 1) (by decide))) hK hP hS hF rfl hl.1 rfl (Nat.le_of_ble_eq_true rfl) dX6_keep_18 ⟨Nat.zero_le _, Nat.zero_le _⟩ (fun S_4 H locs h hP hS => ?_)
    refine lv_aload_n hx hb dX6_keep_21 rfl (lv_at hl 0 rfl) ?_
    refine va_get (D := D) (ci := 6) (v := .ref (X.1 13)) (C := RX6) (T := TX6) (N := 16) hx hb hT inX6 hown hK hP 0 cw_Yard rfl 8 (by decide) (hT _ wf_X6_45) (fun _ h9 => h9) rfl dX6_keep_22 ?_
    refine lv_iload_n hx hb dX6_keep_25 rfl (lv_at hl 1 rfl) ?_
    refine lv_iconst (v := 1) hx hb dX6_keep_26 (by decide) ?_
    obtain ⟨hi, h⟩ := h
    refine g_zast hx hb hK hP (gw_D hX) hS 13 cw_13 rfl hi x1.toNatClampNeg rfl dX6_keep_27 (fun H locs hP hS => ?_)
    have hP := cw_st (j := x1.toNatClampNeg) (x := (vp_nar .boolean 1)) rfl hP
    obtain ⟨S_6, eS_6⟩ : ∃ z : CS, z = sti S_4 13 x1.toNatClampNeg (vp_nar .boolean 1) := ⟨_, rfl⟩
    rw [← eS_6] at hP
    have h := h S_6 eS_6
    refine lv_aload_n hx hb dX6_keep_28 rfl (lv_at hl 0 rfl) ?_
    refine va_get (D := D) (ci := 6) (v := .ref (X.1 (mo 0))) (C := RX6) (T := TX6) (N := 16) hx hb hT inX6 hown hK hP 0 cw_Yard rfl 3 (by decide) (hT _ wf_X6_29) (fun _ h9 => h9) rfl dX6_keep_29 ?_
    refine va_getN (D := D) (ci := 1) (v := .int (S_6.1 (mo 0) 4)) (C := RX1) (T := TX1) (N := 8) hx hb hT inX1 hown hK hP (mo 0) (cw_Moment (m := 0) (by decide)) rfl 4 (by decide) (va_Nw.use rfl hF.1.1.2.2.2.2.1) (fun _ h9 => h9) rfl dX6_keep_32 ?_
    exact W.iret (v := S_6.1 (mo 0) 4) hx hb hr (fun t ht hW => ⟨⟨S_6.1 (mo 0) 4, S_6, rfl, h, gB_of ht hP⟩, hS.F ht⟩) hS.2.2 dX6_keep_35
  · have h := h.1 c_3
    refine lv_iconst (v := (-1)) hx hb dX6_keep_7 (by decide) ?_
    exact W.iret (v := (-1)) hx hb hr (fun t ht hW => ⟨⟨(-1), S_1, rfl, h, gB_of ht hP⟩, hS.F ht⟩) hS.2.2 dX6_keep_8

abbrev rm_X6_back : Room := { frames := 4, cells := 0, slots := 0, locals := 88 }
def p_X6_back (S : CS) (x1 : Int32) (post : Int32 → CS → Prop) : Prop := p_X6_isImage S x1 (fun r_2 S_1 => ((r_2 = 0 → (post (-1) S_1)) ∧ (¬ (r_2 = 0) → (vp_in x1 2 ∧ (((S_1.1 13 x1.toNatClampNeg) = 0 → (post (-2) S_1)) ∧ (¬ ((S_1.1 13 x1.toNatClampNeg) = 0) → (p_X3_take S_1 1 x1 0 (fun S_5 => (p_X6_forgetPast S_5  (fun S_7 => (post (S_7.1 (mo 0) 4) S_7)))))))))))
set_option maxHeartbeats 4000000 in
set_option maxRecDepth 100000 in
theorem c_X6_back (l : Launch) (D : va_G) (X : XE) (hX : Inj 75 X.1) (sz : Nat) (S : CS) (x1 : Int32) (post : Int32 → CS → Prop) (h : p_X6_back S x1 post) : Met l yX6_back (Cond.code yX6_back cX6_back 2 (some .int) :: lw_gd) rm_X6_back (gPc D (tyX X) (CW X) (FXc X) (AX 75 X.1 sz) sz S [.ref (X.1 0), .int x1]) (va_Qi post (gB D (CW X)) (AX 75 X.1 sz)) 0 0 (AX 75 X.1 sz) := by
  refine Met.ofW (cc := cX6_back) (maxL := 2) (ret := (some .int)) (by decide) rfl ?_
  intro p e s m args below meth c s₁ B hml hv
  obtain ⟨rfl, hsz, hP, hK, hF⟩ := hv
  have hx := B.exec
  have hb := B.bytes
  have hr := B.returns
  have hts := atoms_spec (ws := (Cond.code yX6_back cX6_back 2 (some .int) :: lw_gd)) B.pre
  have hT : ∀ w ∈ lw_gd, w.before _ s = true := fun w h9 => hts w (List.mem_cons_of_mem _ h9)
  have hown : s.vm.findClass RX6 = some m.cls := findClass_of_methodNamed B.named
  have hlocks := B.notSynchronized
  subst hsz
  have hS : va_S (AX 75 X.1 s.heap.size) s.heap s.heap [] := va_S.rf
  have hl := lv_entry ([.ref (X.1 0), .int x1]) (n := 2) (Nat.le_of_ble_eq_true rfl)
  rw [lg_entry_eq]
  generalize (lg_sl ([.ref (X.1 0), .int x1]) ++ List.replicate (2 - (lg_sl ([.ref (X.1 0), .int x1])).length) Slot.unset).toArray = ls at hl ⊢
  have hl : lv_has ls 2 [(0, .ref (X.1 0)), (1, .int x1)] := hl
  obtain ⟨H, hH⟩ : ∃ H : Heap, H = s.heap := ⟨_, rfl⟩
  obtain ⟨locs, hlc⟩ : ∃ q : List Loc, q = [] := ⟨_, rfl⟩
  have hS : va_S (AX 75 X.1 s.heap.size) s.heap H locs := by rw [hH, hlc]; exact hS
  have hP : va_P D vwCl (CW X S) H := by rw [hH]; exact hP
  show W p l e (headSpec (Cond.code yX6_back cX6_back 2 (some .int) :: lw_gd) rm_X6_back).room s m ([.ref (X.1 0), .int x1] : List Value).toArray below meth c s.heap [] 0 0 (MQ below (va_Qi post (gB D (CW X)) (AX 75 X.1 s.heap.size)) ([.ref (X.1 0), .int x1] : List Value).toArray s 0 0 (AX 75 X.1 s.heap.size)) _
  suffices hgo : W p l e (headSpec (Cond.code yX6_back cX6_back 2 (some .int) :: lw_gd) rm_X6_back).room s m ([.ref (X.1 0), .int x1] : List Value).toArray below meth c H locs 0 0 (MQ below (va_Qi post (gB D (CW X)) (AX 75 X.1 s.heap.size)) ([.ref (X.1 0), .int x1] : List Value).toArray s 0 0 (AX 75 X.1 s.heap.size)) (F0 m 0 ls []) from by rw [hH, hlc] at hgo; exact hgo
  unfold p_X6_back at h
  refine lv_iload_n hx hb dX6_back_0 rfl (lv_at hl 1 rfl) ?_
  refine cSi (As := [.int x1]) (rest := []) hX ⟨hx, hb, hml, hown, hT⟩ (c_X6_isImage l D X hX H.size S x1 _ h) (gd_S wl_X6_267 wt_X6_isImage wn_X6 wc_X6_isImage) hd_X6_isImage ⟨rfl, rfl⟩ ⟨Nat.le_of_ble_eq_true rfl, Nat.le_of_ble_eq_true rfl⟩ hK hP hS hF rfl hl.1 rfl (Nat.le_of_ble_eq_true rfl) dX6_back_1 ⟨Nat.zero_le _, Nat.zero_le _⟩ (fun r_2 S_1 H locs h hP hS => ?_)
  refine lv_if_ne (tgt := 9) hx hb dX6_back_4 (by decide) (fun c_3 => ?_) (fun c_3 => ?_)
  · have h := h.2 c_3
    refine lv_aload_n hx hb dX6_back_9 rfl (lv_at hl 0 rfl) ?_
    refine va_get (D := D) (ci := 6) (v := .ref (X.1 13)) (C := RX6) (T := TX6) (N := 16) hx hb hT inX6 hown hK hP 0 cw_Yard rfl 8 (by decide) (hT _ wf_X6_45) (fun _ h9 => h9) rfl dX6_back_10 ?_
    refine lv_iload_n hx hb dX6_back_13 rfl (lv_at hl 1 rfl) ?_
    obtain ⟨hi, h⟩ := h
    refine g_zald hx hb hK hP 13 cw_13 rfl hi x1.toNatClampNeg rfl dX6_back_14 ?_
    refine lv_if_ne (tgt := 21) hx hb dX6_back_15 (by decide) (fun c_4 => ?_) (fun c_4 => ?_)
    · have h := h.2 c_4
      refine lv_aload_n hx hb dX6_back_21 rfl (lv_at hl 0 rfl) ?_
      refine va_get (D := D) (ci := 6) (v := .ref (X.1 (ho 1))) (C := RX6) (T := TX6) (N := 16) hx hb hT inX6 hown hK hP 0 cw_Yard rfl 7 (by decide) (hT _ wf_X6_42) (fun _ h9 => h9) rfl dX6_back_22 ?_
      refine lv_iload_n hx hb dX6_back_25 rfl (lv_at hl 1 rfl) ?_
      refine lv_aload_n hx hb dX6_back_26 rfl (lv_at hl 0 rfl) ?_
      refine va_get (D := D) (ci := 6) (v := .ref (X.1 (mo 0))) (C := RX6) (T := TX6) (N := 16) hx hb hT inX6 hown hK hP 0 cw_Yard rfl 3 (by decide) (hT _ wf_X6_29) (fun _ h9 => h9) rfl dX6_back_27 ?_
      refine cVv (As := [.int x1, .ref (X.1 (mo 0))]) (rest := []) hX ⟨hx, hb, hml, hown, hT⟩ (c_X3_take l D X hX H.size S_1 1 (by decide) x1 0 (by decide) _ h) (gd_V wl_X6_176 wi_X3_take wv_X3_take wn_X3 wc_X3_take) rfl hd_X3_take ⟨rfl, rfl⟩ ⟨Nat.le_of_ble_eq_true rfl, Nat.le_of_ble_eq_true rfl⟩ (va_recv hK hP (ci := 3) (q0 := (ho 1)) rfl (cw_Shelf (h := 1) (by decide))) hK hP hS hF rfl hl.1 rfl (Nat.le_of_ble_eq_true rfl) dX6_back_30 ⟨Nat.zero_le _, Nat.zero_le _⟩ (fun S_5 H locs h hP hS => ?_)
      refine lv_aload_n hx hb dX6_back_33 rfl (lv_at hl 0 rfl) ?_
      refine cVv (As := []) (rest := []) hX ⟨hx, hb, hml, hown, hT⟩ (c_X6_forgetPast l D X hX H.size S_5  _ h) (gd_V wl_X6_273 wi_X6_forgetPast wv_X6_forgetPast wn_X6 wc_X6_forgetPast) rfl hd_X6_forgetPast ⟨rfl, rfl⟩ ⟨Nat.le_of_ble_eq_true rfl, Nat.le_of_ble_eq_true rfl⟩ (va_recv hK hP (ci := 6) (q0 := 0) rfl cw_Yard) hK hP hS hF rfl hl.1 rfl (Nat.le_of_ble_eq_true rfl) dX6_back_34 ⟨Nat.zero_le _, Nat.zero_le _⟩ (fun S_7 H locs h hP hS => ?_)
      refine lv_aload_n hx hb dX6_back_37 rfl (lv_at hl 0 rfl) ?_
      refine va_get (D := D) (ci := 6) (v := .ref (X.1 (mo 0))) (C := RX6) (T := TX6) (N := 16) hx hb hT inX6 hown hK hP 0 cw_Yard rfl 3 (by decide) (hT _ wf_X6_29) (fun _ h9 => h9) rfl dX6_back_38 ?_
      refine va_getN (D := D) (ci := 1) (v := .int (S_7.1 (mo 0) 4)) (C := RX1) (T := TX1) (N := 8) hx hb hT inX1 hown hK hP (mo 0) (cw_Moment (m := 0) (by decide)) rfl 4 (by decide) (va_Nw.use rfl hF.1.1.2.2.2.2.1) (fun _ h9 => h9) rfl dX6_back_41 ?_
      exact W.iret (v := S_7.1 (mo 0) 4) hx hb hr (fun t ht hW => ⟨⟨S_7.1 (mo 0) 4, S_7, rfl, h, gB_of ht hP⟩, hS.F ht⟩) hS.2.2 dX6_back_44
    · have h := h.1 c_4
      refine lv_bipush (v := (-2)) hx hb dX6_back_18 (by decide) ?_
      exact W.iret (v := (-2)) hx hb hr (fun t ht hW => ⟨⟨(-2), S_1, rfl, h, gB_of ht hP⟩, hS.F ht⟩) hS.2.2 dX6_back_20
  · have h := h.1 c_3
    refine lv_iconst (v := (-1)) hx hb dX6_back_7 (by decide) ?_
    exact W.iret (v := (-1)) hx hb hr (fun t ht hW => ⟨⟨(-1), S_1, rfl, h, gB_of ht hP⟩, hS.F ht⟩) hS.2.2 dX6_back_8

abbrev rm_X6_count : Room := { frames := 3, cells := 0, slots := 0, locals := 63 }
def p_X6_count (S : CS) (x1 : Int32) (post : Int32 → CS → Prop) : Prop := (x1 = 0 → ((S.2.1 < 2) ∧ (p_X5_parts S S.2.1 (fun r_4 S_3 => (post r_4 S_3))))) ∧ (¬ x1 = 0 → ((x1 = 1 → ((S.2.1 < 2) ∧ (p_X5_orders S S.2.1 (fun r_8 S_7 => (post r_8 S_7))))) ∧ (¬ x1 = 1 → ((x1 = 2 → ((S.2.1 < 2) ∧ (p_X5_ripe S S.2.1 (fun r_12 S_11 => (post r_12 S_11))))) ∧ (¬ x1 = 2 → ((x1 = 3 → ((S.2.1 < 2) ∧ (p_X5_twigs S S.2.1 (fun r_16 S_15 => (post r_16 S_15))))) ∧ (¬ x1 = 3 → ((x1 = 4 → ((S.2.1 < 2) ∧ (p_X5_pace S S.2.1 (fun r_20 S_19 => (post r_20 S_19))))) ∧ (¬ x1 = 4 → ((x1 = 5 → ((S.2.1 < 2) ∧ (p_X5_lengthAtFirst S S.2.1 (fun r_24 S_23 => (post r_24 S_23))))) ∧ (¬ x1 = 5 → ((x1 = 6 → (post (S.1 0 12) S)) ∧ (¬ x1 = 6 → ((x1 = 7 → (p_X4_size S  (fun r_28 S_27 => (post r_28 S_27)))) ∧ (¬ x1 = 7 → (post (-1) S))))))))))))))))
set_option maxHeartbeats 4000000 in
set_option maxRecDepth 100000 in
theorem c_X6_count (l : Launch) (D : va_G) (X : XE) (hX : Inj 75 X.1) (sz : Nat) (S : CS) (x1 : Int32) (post : Int32 → CS → Prop) (h : p_X6_count S x1 post) : Met l yX6_count (Cond.code yX6_count cX6_count 2 (some .int) :: lw_gd) rm_X6_count (gPc D (tyX X) (CW X) (FXc X) (AX 75 X.1 sz) sz S [.ref (X.1 0), .int x1]) (va_Qi post (gB D (CW X)) (AX 75 X.1 sz)) 0 0 (AX 75 X.1 sz) := by
  refine Met.ofW (cc := cX6_count) (maxL := 2) (ret := (some .int)) (by decide) rfl ?_
  intro p e s m args below meth c s₁ B hml hv
  obtain ⟨rfl, hsz, hP, hK, hF⟩ := hv
  have hx := B.exec
  have hb := B.bytes
  have hr := B.returns
  have hts := atoms_spec (ws := (Cond.code yX6_count cX6_count 2 (some .int) :: lw_gd)) B.pre
  have hT : ∀ w ∈ lw_gd, w.before _ s = true := fun w h9 => hts w (List.mem_cons_of_mem _ h9)
  have hown : s.vm.findClass RX6 = some m.cls := findClass_of_methodNamed B.named
  have hlocks := B.notSynchronized
  subst hsz
  have hS : va_S (AX 75 X.1 s.heap.size) s.heap s.heap [] := va_S.rf
  have hl := lv_entry ([.ref (X.1 0), .int x1]) (n := 2) (Nat.le_of_ble_eq_true rfl)
  rw [lg_entry_eq]
  generalize (lg_sl ([.ref (X.1 0), .int x1]) ++ List.replicate (2 - (lg_sl ([.ref (X.1 0), .int x1])).length) Slot.unset).toArray = ls at hl ⊢
  have hl : lv_has ls 2 [(0, .ref (X.1 0)), (1, .int x1)] := hl
  obtain ⟨H, hH⟩ : ∃ H : Heap, H = s.heap := ⟨_, rfl⟩
  obtain ⟨locs, hlc⟩ : ∃ q : List Loc, q = [] := ⟨_, rfl⟩
  have hS : va_S (AX 75 X.1 s.heap.size) s.heap H locs := by rw [hH, hlc]; exact hS
  have hP : va_P D vwCl (CW X S) H := by rw [hH]; exact hP
  show W p l e (headSpec (Cond.code yX6_count cX6_count 2 (some .int) :: lw_gd) rm_X6_count).room s m ([.ref (X.1 0), .int x1] : List Value).toArray below meth c s.heap [] 0 0 (MQ below (va_Qi post (gB D (CW X)) (AX 75 X.1 s.heap.size)) ([.ref (X.1 0), .int x1] : List Value).toArray s 0 0 (AX 75 X.1 s.heap.size)) _
  suffices hgo : W p l e (headSpec (Cond.code yX6_count cX6_count 2 (some .int) :: lw_gd) rm_X6_count).room s m ([.ref (X.1 0), .int x1] : List Value).toArray below meth c H locs 0 0 (MQ below (va_Qi post (gB D (CW X)) (AX 75 X.1 s.heap.size)) ([.ref (X.1 0), .int x1] : List Value).toArray s 0 0 (AX 75 X.1 s.heap.size)) (F0 m 0 ls []) from by rw [hH, hlc] at hgo; exact hgo
  unfold p_X6_count at h
  refine lv_iload_n hx hb dX6_count_0 rfl (lv_at hl 1 rfl) ?_
  by_cases c_1 : x1 = 0
  · have h := h.1 c_1
    refine lv_tableIn (off := 47) (tgt := 48) hx hb dX6_count_1 (by rw [c_1]; decide) (by rw [c_1]; decide) (by rw [c_1]; rfl) (by decide) ?_
    refine lv_aload_n hx hb dX6_count_48 rfl (lv_at hl 0 rfl) ?_
    obtain ⟨ht_2, h⟩ := h
    refine va_get (D := D) (ci := 6) (v := .ref (X.1 (to S.2.1))) (C := RX6) (T := TX6) (N := 16) hx hb hT inX6 hown hK hP 0 cw_Yard rfl 1 (by decide) (hT _ wf_X6_19) (fun _ h9 => h9) rfl dX6_count_49 ?_
    refine cVi (As := []) (rest := []) hX ⟨hx, hb, hml, hown, hT⟩ (c_X5_parts l D X hX H.size S S.2.1 (by omega) _ h) (gd_V wl_X6_219 wi_X5_parts wv_X5_parts wn_X5 wc_X5_parts) rfl hd_X5_parts ⟨rfl, rfl⟩ ⟨Nat.le_of_ble_eq_true rfl, Nat.le_of_ble_eq_true rfl⟩ (va_recv hK hP (ci := 5) (q0 := (to S.2.1)) rfl (cw_Told (t := S.2.1) (by omega))) hK hP hS hF rfl hl.1 rfl (Nat.le_of_ble_eq_true rfl) dX6_count_52 ⟨Nat.zero_le _, Nat.zero_le _⟩ (fun r_4 S_3 H locs h hP hS => ?_)
    exact W.iret (v := r_4) hx hb hr (fun t ht hW => ⟨⟨r_4, S_3, rfl, h, gB_of ht hP⟩, hS.F ht⟩) hS.2.2 dX6_count_55
  · have h := h.2 c_1
    by_cases c_5 : x1 = 1
    · have h := h.1 c_5
      refine lv_tableIn (off := 55) (tgt := 56) hx hb dX6_count_1 (by rw [c_5]; decide) (by rw [c_5]; decide) (by rw [c_5]; rfl) (by decide) ?_
      refine lv_aload_n hx hb dX6_count_56 rfl (lv_at hl 0 rfl) ?_
      obtain ⟨ht_6, h⟩ := h
      refine va_get (D := D) (ci := 6) (v := .ref (X.1 (to S.2.1))) (C := RX6) (T := TX6) (N := 16) hx hb hT inX6 hown hK hP 0 cw_Yard rfl 1 (by decide) (hT _ wf_X6_19) (fun _ h9 => h9) rfl dX6_count_57 ?_
      refine cVi (As := []) (rest := []) hX ⟨hx, hb, hml, hown, hT⟩ (c_X5_orders l D X hX H.size S S.2.1 (by omega) _ h) (gd_V wl_X6_203 wi_X5_orders wv_X5_orders wn_X5 wc_X5_orders) rfl hd_X5_orders ⟨rfl, rfl⟩ ⟨Nat.le_of_ble_eq_true rfl, Nat.le_of_ble_eq_true rfl⟩ (va_recv hK hP (ci := 5) (q0 := (to S.2.1)) rfl (cw_Told (t := S.2.1) (by omega))) hK hP hS hF rfl hl.1 rfl (Nat.le_of_ble_eq_true rfl) dX6_count_60 ⟨Nat.zero_le _, Nat.zero_le _⟩ (fun r_8 S_7 H locs h hP hS => ?_)
      exact W.iret (v := r_8) hx hb hr (fun t ht hW => ⟨⟨r_8, S_7, rfl, h, gB_of ht hP⟩, hS.F ht⟩) hS.2.2 dX6_count_63
    · have h := h.2 c_5
      by_cases c_9 : x1 = 2
      · have h := h.1 c_9
        refine lv_tableIn (off := 63) (tgt := 64) hx hb dX6_count_1 (by rw [c_9]; decide) (by rw [c_9]; decide) (by rw [c_9]; rfl) (by decide) ?_
        refine lv_aload_n hx hb dX6_count_64 rfl (lv_at hl 0 rfl) ?_
        obtain ⟨ht_10, h⟩ := h
        refine va_get (D := D) (ci := 6) (v := .ref (X.1 (to S.2.1))) (C := RX6) (T := TX6) (N := 16) hx hb hT inX6 hown hK hP 0 cw_Yard rfl 1 (by decide) (hT _ wf_X6_19) (fun _ h9 => h9) rfl dX6_count_65 ?_
        refine cVi (As := []) (rest := []) hX ⟨hx, hb, hml, hown, hT⟩ (c_X5_ripe l D X hX H.size S S.2.1 (by omega) _ h) (gd_V wl_X6_180 wi_X5_ripe wv_X5_ripe wn_X5 wc_X5_ripe) rfl hd_X5_ripe ⟨rfl, rfl⟩ ⟨Nat.le_of_ble_eq_true rfl, Nat.le_of_ble_eq_true rfl⟩ (va_recv hK hP (ci := 5) (q0 := (to S.2.1)) rfl (cw_Told (t := S.2.1) (by omega))) hK hP hS hF rfl hl.1 rfl (Nat.le_of_ble_eq_true rfl) dX6_count_68 ⟨Nat.zero_le _, Nat.zero_le _⟩ (fun r_12 S_11 H locs h hP hS => ?_)
        exact W.iret (v := r_12) hx hb hr (fun t ht hW => ⟨⟨r_12, S_11, rfl, h, gB_of ht hP⟩, hS.F ht⟩) hS.2.2 dX6_count_71
      · have h := h.2 c_9
        by_cases c_13 : x1 = 3
        · have h := h.1 c_13
          refine lv_tableIn (off := 71) (tgt := 72) hx hb dX6_count_1 (by rw [c_13]; decide) (by rw [c_13]; decide) (by rw [c_13]; rfl) (by decide) ?_
          refine lv_aload_n hx hb dX6_count_72 rfl (lv_at hl 0 rfl) ?_
          obtain ⟨ht_14, h⟩ := h
          refine va_get (D := D) (ci := 6) (v := .ref (X.1 (to S.2.1))) (C := RX6) (T := TX6) (N := 16) hx hb hT inX6 hown hK hP 0 cw_Yard rfl 1 (by decide) (hT _ wf_X6_19) (fun _ h9 => h9) rfl dX6_count_73 ?_
          refine cVi (As := []) (rest := []) hX ⟨hx, hb, hml, hown, hT⟩ (c_X5_twigs l D X hX H.size S S.2.1 (by omega) _ h) (gd_V wl_X6_155 wi_X5_twigs wv_X5_twigs wn_X5 wc_X5_twigs) rfl hd_X5_twigs ⟨rfl, rfl⟩ ⟨Nat.le_of_ble_eq_true rfl, Nat.le_of_ble_eq_true rfl⟩ (va_recv hK hP (ci := 5) (q0 := (to S.2.1)) rfl (cw_Told (t := S.2.1) (by omega))) hK hP hS hF rfl hl.1 rfl (Nat.le_of_ble_eq_true rfl) dX6_count_76 ⟨Nat.zero_le _, Nat.zero_le _⟩ (fun r_16 S_15 H locs h hP hS => ?_)
          exact W.iret (v := r_16) hx hb hr (fun t ht hW => ⟨⟨r_16, S_15, rfl, h, gB_of ht hP⟩, hS.F ht⟩) hS.2.2 dX6_count_79
        · have h := h.2 c_13
          by_cases c_17 : x1 = 4
          · have h := h.1 c_17
            refine lv_tableIn (off := 79) (tgt := 80) hx hb dX6_count_1 (by rw [c_17]; decide) (by rw [c_17]; decide) (by rw [c_17]; rfl) (by decide) ?_
            refine lv_aload_n hx hb dX6_count_80 rfl (lv_at hl 0 rfl) ?_
            obtain ⟨ht_18, h⟩ := h
            refine va_get (D := D) (ci := 6) (v := .ref (X.1 (to S.2.1))) (C := RX6) (T := TX6) (N := 16) hx hb hT inX6 hown hK hP 0 cw_Yard rfl 1 (by decide) (hT _ wf_X6_19) (fun _ h9 => h9) rfl dX6_count_81 ?_
            refine cVi (As := []) (rest := []) hX ⟨hx, hb, hml, hown, hT⟩ (c_X5_pace l D X hX H.size S S.2.1 (by omega) _ h) (gd_V wl_X6_158 wi_X5_pace wv_X5_pace wn_X5 wc_X5_pace) rfl hd_X5_pace ⟨rfl, rfl⟩ ⟨Nat.le_of_ble_eq_true rfl, Nat.le_of_ble_eq_true rfl⟩ (va_recv hK hP (ci := 5) (q0 := (to S.2.1)) rfl (cw_Told (t := S.2.1) (by omega))) hK hP hS hF rfl hl.1 rfl (Nat.le_of_ble_eq_true rfl) dX6_count_84 ⟨Nat.zero_le _, Nat.zero_le _⟩ (fun r_20 S_19 H locs h hP hS => ?_)
            exact W.iret (v := r_20) hx hb hr (fun t ht hW => ⟨⟨r_20, S_19, rfl, h, gB_of ht hP⟩, hS.F ht⟩) hS.2.2 dX6_count_87
          · have h := h.2 c_17
            by_cases c_21 : x1 = 5
            · have h := h.1 c_21
              refine lv_tableIn (off := 87) (tgt := 88) hx hb dX6_count_1 (by rw [c_21]; decide) (by rw [c_21]; decide) (by rw [c_21]; rfl) (by decide) ?_
              refine lv_aload_n hx hb dX6_count_88 rfl (lv_at hl 0 rfl) ?_
              obtain ⟨ht_22, h⟩ := h
              refine va_get (D := D) (ci := 6) (v := .ref (X.1 (to S.2.1))) (C := RX6) (T := TX6) (N := 16) hx hb hT inX6 hown hK hP 0 cw_Yard rfl 1 (by decide) (hT _ wf_X6_19) (fun _ h9 => h9) rfl dX6_count_89 ?_
              refine cVi (As := []) (rest := []) hX ⟨hx, hb, hml, hown, hT⟩ (c_X5_lengthAtFirst l D X hX H.size S S.2.1 (by omega) _ h) (gd_V wl_X6_276 wi_X5_lengthAtFirst wv_X5_lengthAtFirst wn_X5 wc_X5_lengthAtFirst) rfl hd_X5_lengthAtFirst ⟨rfl, rfl⟩ ⟨Nat.le_of_ble_eq_true rfl, Nat.le_of_ble_eq_true rfl⟩ (va_recv hK hP (ci := 5) (q0 := (to S.2.1)) rfl (cw_Told (t := S.2.1) (by omega))) hK hP hS hF rfl hl.1 rfl (Nat.le_of_ble_eq_true rfl) dX6_count_92 ⟨Nat.zero_le _, Nat.zero_le _⟩ (fun r_24 S_23 H locs h hP hS => ?_)
              exact W.iret (v := r_24) hx hb hr (fun t ht hW => ⟨⟨r_24, S_23, rfl, h, gB_of ht hP⟩, hS.F ht⟩) hS.2.2 dX6_count_95
            · have h := h.2 c_21
              by_cases c_25 : x1 = 6
              · have h := h.1 c_25
                refine lv_tableIn (off := 95) (tgt := 96) hx hb dX6_count_1 (by rw [c_25]; decide) (by rw [c_25]; decide) (by rw [c_25]; rfl) (by decide) ?_
                refine lv_aload_n hx hb dX6_count_96 rfl (lv_at hl 0 rfl) ?_
                refine va_get (D := D) (ci := 6) (v := .int (S.1 0 12)) (C := RX6) (T := TX6) (N := 16) hx hb hT inX6 hown hK hP 0 cw_Yard rfl 12 (by decide) (hT _ wf_X6_236) (fun _ h9 => h9) rfl dX6_count_97 ?_
                exact W.iret (v := S.1 0 12) hx hb hr (fun t ht hW => ⟨⟨S.1 0 12, S, rfl, h, gB_of ht hP⟩, hS.F ht⟩) hS.2.2 dX6_count_100
              · have h := h.2 c_25
                by_cases c_26 : x1 = 7
                · have h := h.1 c_26
                  refine lv_tableIn (off := 100) (tgt := 101) hx hb dX6_count_1 (by rw [c_26]; decide) (by rw [c_26]; decide) (by rw [c_26]; rfl) (by decide) ?_
                  refine lv_aload_n hx hb dX6_count_101 rfl (lv_at hl 0 rfl) ?_
                  refine va_get (D := D) (ci := 6) (v := .ref (X.1 1)) (C := RX6) (T := TX6) (N := 16) hx hb hT inX6 hown hK hP 0 cw_Yard rfl 0 (by decide) (hT _ wf_X6_10) (fun _ h9 => h9) rfl dX6_count_102 ?_
                  refine cVi (As := []) (rest := []) hX ⟨hx, hb, hml, hown, hT⟩ (c_X4_size l D X hX H.size S  _ h) (gd_V wl_X6_80 wi_X4_size wv_X4_size wn_X4 wc_X4_size) rfl hd_X4_size ⟨rfl, rfl⟩ ⟨Nat.le_of_ble_eq_true rfl, Nat.le_of_ble_eq_true rfl⟩ (va_recv hK hP (ci := 4) (q0 := 1) rfl cw_Text) hK hP hS hF rfl hl.1 rfl (Nat.le_of_ble_eq_true rfl) dX6_count_105 ⟨Nat.zero_le _, Nat.zero_le _⟩ (fun r_28 S_27 H locs h hP hS => ?_)
                  exact W.iret (v := r_28) hx hb hr (fun t ht hW => ⟨⟨r_28, S_27, rfl, h, gB_of ht hP⟩, hS.F ht⟩) hS.2.2 dX6_count_108
                · have h := h.2 c_26
                  refine lv_tableOut (tgt := 109) hx hb dX6_count_1 (by have ec_1 := lv_neT c_1 (a := 0) rfl; have ec_5 := lv_neT c_5 (a := 1) rfl; have ec_9 := lv_neT c_9 (a := 2) rfl; have ec_13 := lv_neT c_13 (a := 3) rfl; have ec_17 := lv_neT c_17 (a := 4) rfl; have ec_21 := lv_neT c_21 (a := 5) rfl; have ec_25 := lv_neT c_25 (a := 6) rfl; have ec_26 := lv_neT c_26 (a := 7) rfl; omega) (by decide) ?_
                  refine lv_iconst (v := (-1)) hx hb dX6_count_109 (by decide) ?_
                  exact W.iret (v := (-1)) hx hb hr (fun t ht hW => ⟨⟨(-1), S, rfl, h, gB_of ht hP⟩, hS.F ht⟩) hS.2.2 dX6_count_110

abbrev rm_X6_trace : Room := { frames := 0, cells := 0, slots := 0, locals := 0 }
def p_X6_trace (S : CS)  (post : Int64 → CS → Prop) : Prop := post S.2.2.2 S
set_option maxHeartbeats 4000000 in
set_option maxRecDepth 100000 in
theorem c_X6_trace (l : Launch) (D : va_G) (X : XE) (hX : Inj 75 X.1) (sz : Nat) (S : CS)  (post : Int64 → CS → Prop) (h : p_X6_trace S  post) : Met l yX6_trace (Cond.code yX6_trace cX6_trace 1 (some .long) :: lw_gd) rm_X6_trace (gPc D (tyX X) (CW X) (FXc X) (AX 75 X.1 sz) sz S [.ref (X.1 0)]) (va_Ql post (gB D (CW X)) (AX 75 X.1 sz)) 0 0 (AX 75 X.1 sz) := by
  refine Met.ofW (cc := cX6_trace) (maxL := 1) (ret := (some .long)) (by decide) rfl ?_
  intro p e s m args below meth c s₁ B hml hv
  obtain ⟨rfl, hsz, hP, hK, hF⟩ := hv
  have hx := B.exec
  have hb := B.bytes
  have hr := B.returns
  have hts := atoms_spec (ws := (Cond.code yX6_trace cX6_trace 1 (some .long) :: lw_gd)) B.pre
  have hT : ∀ w ∈ lw_gd, w.before _ s = true := fun w h9 => hts w (List.mem_cons_of_mem _ h9)
  have hown : s.vm.findClass RX6 = some m.cls := findClass_of_methodNamed B.named
  have hlocks := B.notSynchronized
  subst hsz
  have hS : va_S (AX 75 X.1 s.heap.size) s.heap s.heap [] := va_S.rf
  have hl := lv_entry ([.ref (X.1 0)]) (n := 1) (Nat.le_of_ble_eq_true rfl)
  rw [lg_entry_eq]
  generalize (lg_sl ([.ref (X.1 0)]) ++ List.replicate (1 - (lg_sl ([.ref (X.1 0)])).length) Slot.unset).toArray = ls at hl ⊢
  have hl : lv_has ls 1 [(0, .ref (X.1 0))] := hl
  obtain ⟨H, hH⟩ : ∃ H : Heap, H = s.heap := ⟨_, rfl⟩
  obtain ⟨locs, hlc⟩ : ∃ q : List Loc, q = [] := ⟨_, rfl⟩
  have hS : va_S (AX 75 X.1 s.heap.size) s.heap H locs := by rw [hH, hlc]; exact hS
  have hP : va_P D vwCl (CW X S) H := by rw [hH]; exact hP
  show W p l e (headSpec (Cond.code yX6_trace cX6_trace 1 (some .long) :: lw_gd) rm_X6_trace).room s m ([.ref (X.1 0)] : List Value).toArray below meth c s.heap [] 0 0 (MQ below (va_Ql post (gB D (CW X)) (AX 75 X.1 s.heap.size)) ([.ref (X.1 0)] : List Value).toArray s 0 0 (AX 75 X.1 s.heap.size)) _
  suffices hgo : W p l e (headSpec (Cond.code yX6_trace cX6_trace 1 (some .long) :: lw_gd) rm_X6_trace).room s m ([.ref (X.1 0)] : List Value).toArray below meth c H locs 0 0 (MQ below (va_Ql post (gB D (CW X)) (AX 75 X.1 s.heap.size)) ([.ref (X.1 0)] : List Value).toArray s 0 0 (AX 75 X.1 s.heap.size)) (F0 m 0 ls []) from by rw [hH, hlc] at hgo; exact hgo
  unfold p_X6_trace at h
  refine lv_aload_n hx hb dX6_trace_0 rfl (lv_at hl 0 rfl) ?_
  refine va_get (D := D) (ci := 6) (v := .long S.2.2.2) (C := RX6) (T := TX6) (N := 16) hx hb hT inX6 hown hK hP 0 cw_Yard rfl 15 (by decide) (hT _ wf_X6_279) (fun _ h9 => h9) rfl dX6_trace_1 ?_
  exact W.lret (v := S.2.2.2) hx hb hr (fun t ht hW => ⟨⟨S.2.2.2, S, rfl, h, gB_of ht hP⟩, hS.F ht⟩) hS.2.2 dX6_trace_4
