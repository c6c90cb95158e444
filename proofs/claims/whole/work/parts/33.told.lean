abbrev zm : Mem := fun _ _ => 0
/-- what a told is at first -/
def told0 (v : Mem) : Prop := (∀ j, j < 6 → v 1 j = 0) ∧ ∀ j, j < 54 → v 2 j = (([0, 0, 0, 0, 0, 9, 3, 11, 9] : List Int32).getD (j / 6) 0)
theorem va_D_addr {A : Nat → Prop} {w1 w2 : va_W} (h : w1.map Prod.fst = w2.map Prod.fst) (hD : va_D A w1) : va_D A w2 := by
  have key : ∀ (k : Nat) (x : Nat × va_E), w2[k]? = some x → ∃ y, w1[k]? = some (x.1, y) := by
    intro k x hx
    have h1 : (w2.map Prod.fst)[k]? = some x.1 := by rw [List.getElem?_map, hx]; rfl
    rw [← h, List.getElem?_map] at h1
    cases hw : w1[k]? with
    | none => rw [hw] at h1; cases h1
    | some z =>
      rw [hw] at h1
      have hz : z.1 = x.1 := Option.some.inj h1
      exact ⟨z.2, by rw [← hz]⟩
  refine ⟨fun i j a b ha hb hab => ?_, fun k x hx => ?_⟩
  · obtain ⟨y1, h1⟩ := key i a ha
    obtain ⟨y2, h2⟩ := key j b hb
    exact hD.1 i j _ _ h1 h2 hab
  · obtain ⟨y, h1⟩ := key k x hx
    exact hD.2 k (x.1, y) h1
/-! counting loops over the pure predicates -/
theorem ni_le {k i : Nat} (hk : k < 2 ^ 31) (hi : i < 2 ^ 31) : (Int32.ofNat k ≤ nI i) ↔ k ≤ i := nI_leI hk hi
theorem told0_ok : p_X5T_setAsAtFirst (zm, 0, 0, 0) (fun S1 => told0 S1.1) := by
  unfold p_X5T_setAsAtFirst
  refine loop_0 (fun n i S => q_X5T_setAsAtFirst_2 (fun S1 => told0 S1.1) n (nI i) S) (fun i S => ∀ j, j < i → S.1 1 j = 0) 6 _ (fun j hj => absurd hj (Nat.not_lt_zero j)) (fun n S hI => ?_) (fun n i S hi hI ih => ?_)
  · rw [q_X5T_setAsAtFirst_2]
    refine ⟨fun _ => ?_, fun c => absurd (show (6 : Int32) ≤ nI 6 by decide) c⟩
    refine loop_0 (fun n i S => q_X5T_setAsAtFirst_23 (fun S1 => told0 S1.1) n (nI i) S) (fun i S => (∀ j, j < 6 → S.1 1 j = 0) ∧ ∀ j, j < 6 * i → S.1 2 j = (([0, 0, 0, 0, 0, 9, 3, 11, 9] : List Int32).getD (j / 6) 0)) 9 _ ⟨hI, fun j hj => absurd hj (Nat.not_lt_zero j)⟩ (fun n S hI => ?_) (fun n i S hi hI ih => ?_)
    · rw [q_X5T_setAsAtFirst_23]
      exact ⟨fun _ => hI, fun c => absurd (show (9 : Int32) ≤ nI 9 by decide) c⟩
    · rw [q_X5T_setAsAtFirst_23]
      refine ⟨fun c => absurd ((ni_le (k := 9) (by decide) (by omega)).mp c) (by omega), fun _ => ?_⟩
      refine loop_0 (fun n2 k S => q_X5T_setAsAtFirst_31 (fun y1' S9 => q_X5T_setAsAtFirst_23 (fun S1 => told0 S1.1) n y1' S9) (fun S1 => told0 S1.1) n2 (nI i) (nI k) S) (fun k S => (∀ j, j < 6 → S.1 1 j = 0) ∧ ∀ j, j < 6 * i + k → S.1 2 j = (([0, 0, 0, 0, 0, 9, 3, 11, 9] : List Int32).getD (j / 6) 0)) 6 _ hI (fun n2 S hI => ?_) (fun n2 k S hk hI ih2 => ?_)
      · rw [q_X5T_setAsAtFirst_31]
        refine ⟨fun _ x1 e1 => ?_, fun c => absurd (show (6 : Int32) ≤ nI 6 by decide) c⟩
        rw [e1, nI_1]
        exact ih S ⟨hI.1, fun j hj => hI.2 j (by omega)⟩
      · rw [q_X5T_setAsAtFirst_31]
        refine ⟨fun c => absurd ((ni_le (k := 6) (by decide) (by omega)).mp c) (by omega), fun _ => ⟨vp_in_nI hi (by decide), ?_⟩⟩
        intro u eu
        have e1 : nI i * 6 + nI k = nI (6 * i + k) := by
          rw [show (6 : Int32) = nI 6 from rfl, pk_mul, nI_add, Nat.mul_comm]
        rw [nI_clamp (by omega)] at eu
        rw [e1, nI_clamp (by omega)]
        refine ⟨vp_in_nI (by omega) (by decide), ?_⟩
        intro S1 eS1 x2 ex2
        rw [ex2, nI_1]
        refine ih2 S1 ⟨fun j hj => ?_, fun j hj => ?_⟩
        · rw [eS1, sti_1, if_neg (by omega)]
          exact hI.1 j hj
        · rw [eS1, sti_1]
          by_cases h : j = 6 * i + k
          · rw [if_pos ⟨rfl, h⟩, eu, h, show (6 * i + k) / 6 = i by omega]
          · rw [if_neg (fun q => h q.2)]
            exact hI.2 j (by omega)
  · rw [q_X5T_setAsAtFirst_2]
    refine ⟨fun c => absurd ((ni_le (k := 6) (by decide) (by omega)).mp c) (by omega), fun _ => ⟨vp_in_nI hi (by decide), ?_⟩⟩
    intro S1 eS1 x1 ex1
    rw [ex1, nI_1]
    rw [nI_clamp (by omega)] at eS1
    refine ih S1 (fun j hj => ?_)
    rw [eS1, sti_1]
    by_cases h : j = i
    · rw [if_pos ⟨rfl, h⟩]
    · rw [if_neg (fun q => h q.2)]
      exact hI j (by omega)
abbrev rm_X5_init : Room := { frames := 1, cells := 2, slots := 60, locals := 22 }
set_option maxHeartbeats 4000000 in
set_option maxRecDepth 100000 in
theorem c_X5_init (l : Launch) (D : va_G) (X : XE) (sz q : Nat) : Met l yX5_init (Cond.code yX5_init cX5_init 1 none :: lw_gd) rm_X5_init (kPc D X sz q (.inr (5, [.null, .null])) [.ref q]) (va_Qv (fun u => told0 u.2) (kB D (csTold X q) (va_A [(q, (.inr (5, [.null, .null])))] sz)) (va_A [(q, (.inr (5, [.null, .null])))] sz)) 2 60 (va_A [(q, (.inr (5, [.null, .null])))] sz) := by
  refine Met.ofW (cc := cX5_init) (maxL := 1) (ret := none) (by decide) rfl ?_
  intro p e s m args below meth c s₁ B hml hv
  obtain ⟨rfl, hsz, hP, hK, hF, hO⟩ := hv
  have hx := B.exec
  have hb := B.bytes
  have hr := B.returns
  have hts := atoms_spec (ws := (Cond.code yX5_init cX5_init 1 none :: lw_gd)) B.pre
  have hT : ∀ w ∈ lw_gd, w.before _ s = true := fun w h9 => hts w (List.mem_cons_of_mem _ h9)
  have hown : s.vm.findClass RX5 = some m.cls := findClass_of_methodNamed B.named
  have hlocks := B.notSynchronized
  have hin : meth.name = "<init>" := (name_of_methodNamed B.named B.method).1
  subst hsz
  have hD := k_D1 (q := q) (e0 := (.inr (5, [.null, .null]))) (sz := s.heap.size)
  generalize hAe : va_A [(q, (.inr (5, [.null, .null])))] s.heap.size = A at hD hF ⊢
  have hA : ∀ a : Nat, s.heap.size ≤ a → A a := fun a h9 => by rw [← hAe]; exact Or.inr h9
  have hS : va_S A s.heap s.heap [] := va_S.rf
  have hl := lv_entry ([.ref q]) (n := 1) (Nat.le_of_ble_eq_true rfl)
  rw [lg_entry_eq]
  generalize (lg_sl ([.ref q]) ++ List.replicate (1 - (lg_sl ([.ref q])).length) Slot.unset).toArray = ls at hl ⊢
  have hl : lv_has ls 1 [(0, .ref q)] := hl
  refine lv_aload_n hx hb dX5_init_0 rfl (lv_at hl 0 rfl) ?_
  refine W.objInit hx hb hown (hT _ wl_X5_1) (hT _ wi_Obj) (hT _ wc_Obj) rfl (by rw [hml]; exact hl.1) rfl dX5_init_1 (Nat.le_of_ble_eq_true rfl) (Nat.le_of_ble_eq_true rfl) ?_
  refine W.eq (g2 := F0 m 4 ls []) rfl ?_
  refine lv_aload_n hx hb dX5_init_4 rfl (lv_at hl 0 rfl) ?_
  refine lv_bipush (v := 6) hx hb dX5_init_5 (by decide) ?_
  refine g_newa (atype := .int) (t0 := 0) (a0 := (6, .inl zf)) hx hb (hT _ war_int) rfl rfl (fun C h9 => by cases h9) hK hP hD hS hA (fun _ => rfl) (by decide) rfl (Nat.le_of_ble_eq_true rfl) (Nat.le_of_ble_eq_true rfl) (Nat.le_of_ble_eq_true rfl) dX5_init_7 (fun q1 H hP hD hS => ?_)
  obtain ⟨T1, eT1⟩ : ∃ z : va_W, z = ([] : va_W) ++ [(q1, .inl (X.2.1 0, 6, .inl zf))] := ⟨_, rfl⟩
  have hP : va_P D vwCl ((q, .inr (5, [.null, .null])) :: T1) H := by rw [eT1]; exact hP
  have hD : va_D A ((q, .inr (5, [.null, .null])) :: T1) := by rw [eT1]; exact hD
  refine va_putF (D := D) (ci := 5) (v := .ref q1) (ty := .array .int) (C := RX5) (T := TX5) (N := 2) hx hb hT inX5 tyX5 tyX5_ok nmX5 hown hK hP hD hS 0 rfl rfl 0 (by decide) (hT _ wf_X5_9) (fun _ h9 => h9) rfl hin rfl (by decide +kernel) rfl rfl (Nat.le_of_ble_eq_true rfl) dX5_init_9 (fun H locs hP hD hS => ?_)
  have hP : va_P D vwCl ((q, .inr (5, [.ref q1, .null])) :: T1) H := hP
  have hD : va_D A ((q, .inr (5, [.ref q1, .null])) :: T1) := hD
  refine lv_aload_n hx hb dX5_init_12 rfl (lv_at hl 0 rfl) ?_
  refine lv_bipush (v := 54) hx hb dX5_init_13 (by decide) ?_
  refine g_newa (atype := .int) (t0 := 0) (a0 := (54, .inl zf)) hx hb (hT _ war_int) rfl rfl (fun C h9 => by cases h9) hK hP hD hS hA (fun _ => rfl) (by decide) rfl (Nat.le_of_ble_eq_true rfl) (Nat.le_of_ble_eq_true rfl) (Nat.le_of_ble_eq_true rfl) dX5_init_15 (fun q2 H hP hD hS => ?_)
  obtain ⟨T2, eT2⟩ : ∃ z : va_W, z = T1 ++ [(q2, .inl (X.2.1 0, 54, .inl zf))] := ⟨_, rfl⟩
  have hP : va_P D vwCl ((q, .inr (5, [.ref q1, .null])) :: T2) H := by rw [eT2]; exact hP
  have hD : va_D A ((q, .inr (5, [.ref q1, .null])) :: T2) := by rw [eT2]; exact hD
  refine va_putF (D := D) (ci := 5) (v := .ref q2) (ty := .array .int) (C := RX5) (T := TX5) (N := 2) hx hb hT inX5 tyX5 tyX5_ok nmX5 hown hK hP hD hS 0 rfl rfl 1 (by decide) (hT _ wf_X5_13) (fun _ h9 => h9) rfl hin rfl (by decide +kernel) rfl rfl (Nat.le_of_ble_eq_true rfl) dX5_init_17 (fun H locs hP hD hS => ?_)
  have hP : va_P D vwCl ((q, .inr (5, [.ref q1, .ref q2])) :: T2) H := hP
  have hD : va_D A ((q, .inr (5, [.ref q1, .ref q2])) :: T2) := hD
  refine lv_aload_n hx hb dX5_init_20 rfl (lv_at hl 0 rfl) ?_
  subst eT2
  subst eT1
  have e3 : (TW ((fun k => [q, q1, q2].getD k 0), X.2) (zm, 0, 0, 0)) = ((q, .inr (5, [.ref q1, .ref q2])) :: ((([] : va_W) ++ [(q1, .inl (X.2.1 0, 6, .inl zf))]) ++ [(q2, .inl (X.2.1 0, 54, .inl zf))])) := rfl
  have hX3 : Inj 3 (fun k => [q, q1, q2].getD k 0) := by
    intro i j hi hj hij
    exact hD.1 i j (([q, q1, q2].getD i 0), tce ((fun k => [q, q1, q2].getD k 0), X.2) i (zm i)) (([q, q1, q2].getD j 0), tce ((fun k => [q, q1, q2].getD k 0), X.2) j (zm j)) (by rw [← e3]; exact gw_at hi rfl) (by rw [← e3]; exact gw_at hj rfl) hij
  have hA3 : ∀ a, AX 3 (fun k => [q, q1, q2].getD k 0) H.size a → A a := by
    intro a ha
    rcases ha with ⟨k, hk, rfl⟩ | ha
    · exact hD.2 k (([q, q1, q2].getD k 0), tce ((fun k => [q, q1, q2].getD k 0), X.2) k (zm k)) (by rw [← e3]; exact gw_at hk rfl)
    · exact hA a (Nat.le_trans hS.1 ha)
  have hP3 : va_P D vwCl (TW ((fun k => [q, q1, q2].getD k 0), X.2) (zm, 0, 0, 0)) H := by rw [e3]; exact hP
  refine g_Vv (Wf := TW ((fun k => [q, q1, q2].getD k 0), X.2)) (FX := FXc ((fun k => [q, q1, q2].getD k 0), X.2)) (A := A) (A1 := AX 3 (fun k => [q, q1, q2].getD k 0) H.size) (tys := tyX X) (As := []) (rest := []) ⟨hx, hb, hml, hown, hT⟩ (c_X5T_setAsAtFirst l D ((fun k => [q, q1, q2].getD k 0), X.2) hX3 H.size (zm, 0, 0, 0) (fun S1 => told0 S1.1) told0_ok) (gd_V wl_X5_16 wi_X5_setAsAtFirst wv_X5_setAsAtFirst wn_X5 wc_X5_setAsAtFirst) rfl hd_X5_setAsAtFirst ⟨rfl, rfl⟩ ⟨Nat.le_of_ble_eq_true rfl, Nat.le_of_ble_eq_true rfl⟩ (va_recv hK hP3 (ci := 5) (q0 := 0) rfl tw_0) hK hP3 hS FXc.call (fun U hU hW => hF.go hW (fun a h1 h2 => by rw [hU]; exact hS.2.1 a h1 h2) hA3) hA3 rfl hl.1 rfl (Nat.le_of_ble_eq_true rfl) dX5_init_21 ⟨Nat.le_of_ble_eq_true rfl, Nat.le_of_ble_eq_true rfl⟩ (fun S1 H locs h1 hP hS => ?_)
  exact W.vret hx hb hr (fun t ht hW => ⟨⟨(fun k => [q1, q2].getD k 0, S1.1), rfl, h1, ⟨by rw [ht]; exact hP, va_D_addr (w1 := ((q, .inr (5, [.ref q1, .ref q2])) :: ((([] : va_W) ++ [(q1, .inl (X.2.1 0, 6, .inl zf))]) ++ [(q2, .inl (X.2.1 0, 54, .inl zf))]))) rfl hD⟩⟩, hS.F ht⟩) hS.2.2 dX5_init_24
