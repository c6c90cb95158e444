/-! items, in the reference -/
theorem RBt.mv {R R1 : CS} {D D1 : DS} (h : RBt R D) (e : R1.1 0 10 = R.1 0 10) (hD : ∀ g, 2 ≤ g → D1.1 g = D.1 g) : RBt R1 D1 := by
  obtain ⟨b, h1, h2, h3⟩ := h
  exact ⟨b, h1, by rw [e]; exact h2, fun g g2 g6 => by rw [hD g g2]; exact h3 g g2 g6⟩
theorem incr_1 (D : DS) (h g : Nat) : (incr D h).1 g = if g = h then D.1 g + 1 else D.1 g := rfl
theorem incr_2 (D : DS) (h a b : Nat) : (incr D h).2 a b = D.2 a b := rfl
theorem setv_1 (D : DS) (r i v g : Nat) : (setv D r i v).1 g = D.1 g := rfl
theorem setv_2 (D : DS) (r i v a b : Nat) : (setv D r i v).2 a b = if a = r ∧ b = i then v else D.2 a b := rfl
theorem reads_w {R : CS} {T : Nat → Nat} {n p : Nat} {f : TFt} {D : DS} {post : CS → Prop} (hf : TF T n f) (hp : p ≤ n) (hX : RX R T n f D p) (hm : D.1 0 < 6) (hn : n ≤ 200)
    (b1 : ¬ NumOk f 1 9 p → ∀ R1 : CS, Fr Rw R R1 → R1.1 0 8 = nI (f p).1 → post R1)
    (b2 : NumOk f 1 9 p → ¬ NumOk f 0 30 (f p).2.1 → ∀ R1 : CS, Fr Rw R R1 → R1.1 0 8 = nI (f (f p).2.1).1 → post R1)
    (g : NumOk f 1 9 p → NumOk f 0 30 (f p).2.1 → ∀ R1 : CS, Fr Rw R R1 → RX R1 T n f (incr (setv (setv D 0 (D.1 0) (f p).2.2.2) 1 (D.1 0) (f (f p).2.1).2.2.2) 0) (f (f p).2.1).2.1 → post R1) : p_X7_readsItem R (nI (HL 0)) post := by
  obtain ⟨xT, xC, x8, xD, xB⟩ := hX
  have he : (f p).2.1 ≤ n := (hf p hp).1.2.1
  have hq : (f p).1 ≤ n := (hf p hp).1.1
  have hq2 : (f (f p).2.1).1 ≤ n := (hf _ he).1.1
  unfold p_X7_readsItem
  refine br_t (by decide) ?_
  intro x2 ex2
  rw [xD.1.1] at ex2
  rw [ex2, sx6, nI_clamp (by omega), nI_clamp (by omega)]
  -- the rest behind a fault
  have ill : ∀ (q : Nat) (R2 : CS), q ≤ n → Fr Rw R R2 → R2.1 0 8 = nI q → (∀ R1 : CS, Fr Rw R R1 → R1.1 0 8 = nI q → post R1) → (vp_in (nI (D.1 0)) 6 ∧ (∀ S_34 : CS, S_34 = sti R2 4 (D.1 0) 0 → (∀ u_35 : Int32, u_35 = ((S_34.1 2 6) + 1) → (∀ S_36 : CS, S_36 = sti S_34 2 6 u_35 → (post S_36))))) := by
    intro q R2 hq f2 h8 hk
    refine ⟨vp_in_nI hm (by decide), ?_⟩
    intro R4 e4 u eu R5 e5
    exact hk R5 ((f2.st e4 (by unfold Rw; omega)).st e5 (by unfold Rw; omega)) (by rw [e5, sti_ne (by omega), e4, sti_ne (by omega)]; exact h8)
  by_cases c1 : NumOk f 1 9 p
  · refine r_num_ok (a := 1) (b := 9) hf xT xC hp x8 (by decide) c1 (fun R1 a1 a2 a3 a4 => ⟨vp_in_nI (by omega) (by decide), ?_⟩)
    intro R2 e2
    have f2 : Fr Rw R R2 := a1.w.st e2 (by unfold Rw; omega)
    have c2' := a3.st e2 (Or.inl (by decide))
    have h82 : R2.1 0 8 = -1 := by rw [e2, sti_ne (by omega)]; exact a4
    by_cases c2 : NumOk f 0 30 (f p).2.1
    · refine r_num_ok (a := 0) (b := 30) hf (a2.st e2 (by omega)) c2' he h82 (by decide) c2 (fun R3 k1 k2 k3 k4 => ⟨vp_in_nI hm (by decide), ?_⟩)
      intro R4 e4 u eu R5 e5
      have h26 : R4.1 2 6 = nI (D.1 0) := by rw [e4, sti_ne (by omega), k1.1 2 6 (by unfold Rt; omega), e2, sti_ne (by omega), a1.1 2 6 (by unfold Rt; omega)]; exact xD.1.1
      rw [h26, nI_1] at eu
      rw [eu] at e5
      have key : ∀ c i, c ≠ 0 → R5.1 c i = if c = 2 ∧ i = 6 then nI (D.1 0 + 1) else if c = 4 ∧ i = D.1 0 then nI (f (f p).2.1).2.2.2 else if c = 3 ∧ i = 6 + D.1 0 then nI (f p).2.2.2 else R.1 c i := fun c i hc => by rw [e5, sti_1, e4, sti_1, k1.1 c i (by unfold Rt; omega), e2, sti_1, a1.1 c i (by unfold Rt; omega)]
      refine g c1 c2 R5 (((f2.tr k1.w).st e4 (by unfold Rw; omega)).st e5 (by unfold Rw; omega)) ⟨(k2.st e4 (by omega)).st e5 (by omega), (k3.st e4 (Or.inl (by decide))).st e5 (Or.inl (by decide)), by rw [e5, sti_ne (by omega), e4, sti_ne (by omega)]; exact k4, ?_, xB.mv ?_ (fun g g2 => by rw [incr_1, if_neg (by omega)]; rfl)⟩
      · obtain ⟨⟨r1, r2, r3, r4, r5, r6⟩, r7, r8⟩ := xD
        refine ⟨⟨?_, ?_, ?_, ?_, ?_, ?_⟩, fun i hi => ⟨?_, ?_⟩, fun i hi => ⟨?_, ?_, ?_⟩⟩
        · rw [key 2 6 (by decide), if_pos ⟨rfl, rfl⟩, incr_1, if_pos rfl]; rfl
        · rw [key 2 7 (by decide), if_neg (by omega), if_neg (by omega), if_neg (by omega), incr_1, if_neg (by decide)]; exact r2
        · rw [key 2 8 (by decide), if_neg (by omega), if_neg (by omega), if_neg (by omega), incr_2, setv_2, if_neg (by omega), setv_2, if_neg (by omega)]; exact r3
        · rw [key 2 9 (by decide), if_neg (by omega), if_neg (by omega), if_neg (by omega), incr_2, setv_2, if_neg (by omega), setv_2, if_neg (by omega)]; exact r4
        · rw [key 2 10 (by decide), if_neg (by omega), if_neg (by omega), if_neg (by omega), incr_2, setv_2, if_neg (by omega), setv_2, if_neg (by omega)]; exact r5
        · rw [key 2 11 (by decide), if_neg (by omega), if_neg (by omega), if_neg (by omega), incr_2, setv_2, if_neg (by omega), setv_2, if_neg (by omega)]; exact r6
        · rw [incr_1, if_pos rfl, setv_1, setv_1] at hi
          rw [incr_2, setv_2, if_neg (by omega), setv_2, key 3 _ (by decide), if_neg (by omega), if_neg (by omega)]
          by_cases q : i = D.1 0
          · rw [if_pos ⟨rfl, by omega⟩, if_pos ⟨rfl, q⟩]
          · rw [if_neg (by omega), if_neg (fun w => q w.2)]; exact (r7 i (by omega)).1
        · rw [incr_1, if_pos rfl, setv_1, setv_1] at hi
          rw [key 4 _ (by decide), if_neg (by omega), incr_2, setv_2]
          by_cases q : i = D.1 0
          · rw [if_pos ⟨rfl, q⟩, if_pos ⟨rfl, q⟩]
          · rw [if_neg (fun w => q w.2), if_neg (by omega), if_neg (fun w => q w.2), setv_2, if_neg (by omega)]; exact (r7 i (by omega)).2
        · rw [incr_1, if_neg (by decide), setv_1, setv_1] at hi
          rw [key 5 _ (by decide), if_neg (by omega), if_neg (by omega), if_neg (by omega), incr_2, setv_2, if_neg (by omega), setv_2, if_neg (by omega)]; exact (r8 i hi).1
        · rw [incr_1, if_neg (by decide), setv_1, setv_1] at hi
          rw [key 6 _ (by decide), if_neg (by omega), if_neg (by omega), if_neg (by omega), incr_2, setv_2, if_neg (by omega), setv_2, if_neg (by omega)]; exact (r8 i hi).2.1
        · rw [incr_1, if_neg (by decide), setv_1, setv_1] at hi
          rw [key 7 _ (by decide), if_neg (by omega), if_neg (by omega), if_neg (by omega), incr_2, setv_2, if_neg (by omega), setv_2, if_neg (by omega)]; exact (r8 i hi).2.2
      · rw [e5, sti_ne (by omega), e4, sti_ne (by omega), k1.1 0 10 (by unfold Rt; omega), e2, sti_ne (by omega), a1.1 0 10 (by unfold Rt; omega)]
    · refine r_num_no (a := 0) (b := 30) hf c2' he h82 (by decide) c2 (fun R3 e3 => ?_)
      exact ill _ R3 hq2 (f2.st e3 (by unfold Rw; omega)) (by rw [e3, sti_eq]) (b2 c1 c2)
  · refine r_num_no (a := 1) (b := 9) hf xC hp x8 (by decide) c1 (fun R1 e1 => ⟨vp_in_nI (by omega) (by decide), ?_⟩)
    intro R2 e2
    have h82 : R2.1 0 8 = nI (f p).1 := by rw [e2, sti_ne (by omega), e1, sti_eq]
    exact r_num_ill h82 (by omega) (ill _ R2 hq (((Fr.rf R).st e1 (by unfold Rw; omega)).st e2 (by unfold Rw; omega)) h82 (b1 c1))
theorem reads_o {R : CS} {T : Nat → Nat} {n p : Nat} {f : TFt} {D : DS} {post : CS → Prop} (hf : TF T n f) (hp : p ≤ n) (hX : RX R T n f D p) (hm : D.1 1 < 6) (hn : n ≤ 200)
    (b1 : ¬ NumOk f 1 60 p → ∀ R1 : CS, Fr Rw R R1 → R1.1 0 8 = nI (f p).1 → post R1)
    (b2 : NumOk f 1 60 p → ¬ NumOk f 1 60 (f p).2.1 → ∀ R1 : CS, Fr Rw R R1 → R1.1 0 8 = nI (f (f p).2.1).1 → post R1)
    (b3 : NumOk f 1 60 p → NumOk f 1 60 (f p).2.1 → ¬ NumOk f 0 99 (f (f p).2.1).2.1 → ∀ R1 : CS, Fr Rw R R1 → R1.1 0 8 = nI (f (f (f p).2.1).2.1).1 → post R1)
    (g : NumOk f 1 60 p → NumOk f 1 60 (f p).2.1 → NumOk f 0 99 (f (f p).2.1).2.1 → ∀ R1 : CS, Fr Rw R R1 → RX R1 T n f (incr (setv (setv (setv D 2 (D.1 1) (f p).2.2.2) 3 (D.1 1) (f (f p).2.1).2.2.2) 4 (D.1 1) (f (f (f p).2.1).2.1).2.2.2) 1) (f (f (f p).2.1).2.1).2.1 → post R1) : p_X7_readsItem R (nI (HL 1)) post := by
  obtain ⟨xT, xC, x8, xD, xB⟩ := hX
  have he : (f p).2.1 ≤ n := (hf p hp).1.2.1
  have he2 : (f (f p).2.1).2.1 ≤ n := (hf _ he).1.2.1
  have hq : (f p).1 ≤ n := (hf p hp).1.1
  have hq2 : (f (f p).2.1).1 ≤ n := (hf _ he).1.1
  have hq3 : (f (f (f p).2.1).2.1).1 ≤ n := (hf _ he2).1.1
  unfold p_X7_readsItem
  refine br_f (by decide) (br_t (by decide) ?_)
  intro x2 ex2
  rw [xD.1.2.1, sx6] at ex2
  rw [ex2, nI_clamp (by omega)]
  have v12 : vp_in (nI (6 + D.1 1)) 12 := vp_in_nI (by omega) (by decide)
  have ill3 : ∀ (q : Nat) (R2 : CS), q ≤ n → Fr Rw R R2 → R2.1 0 8 = nI q → (∀ R1 : CS, Fr Rw R R1 → R1.1 0 8 = nI q → post R1) → (vp_in (nI (6 + D.1 1)) 12 ∧ (∀ S_25 : CS, S_25 = sti R2 7 (6 + D.1 1) 0 → (∀ u_26 : Int32, u_26 = ((S_25.1 2 7) + 1) → (∀ S_27 : CS, S_27 = sti S_25 2 7 u_26 → (post S_27))))) := by
    intro q R2 hq f2 h8 hk
    refine ⟨v12, ?_⟩
    intro R4 e4 u eu R5 e5
    exact hk R5 ((f2.st e4 (by unfold Rw; omega)).st e5 (by unfold Rw; omega)) (by rw [e5, sti_ne (by omega), e4, sti_ne (by omega)]; exact h8)
  have ill2 : ∀ (q : Nat) (R2 : CS), q ≤ n → Fr Rw R R2 → R2.1 0 8 = nI q → (∀ R1 : CS, Fr Rw R R1 → R1.1 0 8 = nI q → post R1) → (vp_in (nI (6 + D.1 1)) 12 ∧ (∀ S_22 : CS, S_22 = sti R2 6 (6 + D.1 1) 0 → (p_X7_number S_22 0 99 (fun r_24 S_23 => (vp_in (nI (6 + D.1 1)) 12 ∧ (∀ S_25 : CS, S_25 = sti S_23 7 (6 + D.1 1) r_24 → (∀ u_26 : Int32, u_26 = ((S_25.1 2 7) + 1) → (∀ S_27 : CS, S_27 = sti S_25 2 7 u_26 → (post S_27))))))))) := by
    intro q R2 hq f2 h8 hk
    refine ⟨v12, ?_⟩
    intro R4 e4
    have h84 : R4.1 0 8 = nI q := by rw [e4, sti_ne (by omega)]; exact h8
    exact r_num_ill h84 (by omega) (ill3 q R4 hq (f2.st e4 (by unfold Rw; omega)) h84 hk)
  by_cases c1 : NumOk f 1 60 p
  · refine r_num_ok (a := 1) (b := 60) hf xT xC hp x8 (by decide) c1 (fun R1 a1 a2 a3 a4 => ⟨v12, ?_⟩)
    intro R2 e2
    have f2 : Fr Rw R R2 := a1.w.st e2 (by unfold Rw; omega)
    have c2' := a3.st e2 (Or.inl (by decide))
    have h82 : R2.1 0 8 = -1 := by rw [e2, sti_ne (by omega)]; exact a4
    by_cases c2 : NumOk f 1 60 (f p).2.1
    · refine r_num_ok (a := 1) (b := 60) hf (a2.st e2 (by omega)) c2' he h82 (by decide) c2 (fun R3 k1 k2 k3 k4 => ⟨v12, ?_⟩)
      intro R4 e4
      have f4 : Fr Rw R R4 := (f2.tr k1.w).st e4 (by unfold Rw; omega)
      have c4' := k3.st e4 (Or.inl (by decide))
      have h84 : R4.1 0 8 = -1 := by rw [e4, sti_ne (by omega)]; exact k4
      by_cases c3 : NumOk f 0 99 (f (f p).2.1).2.1
      · refine r_num_ok (a := 0) (b := 99) hf (k2.st e4 (by omega)) c4' he2 h84 (by decide) c3 (fun R5 m1 m2 m3 m4 => ⟨v12, ?_⟩)
        intro R6 e6 u eu R7 e7
        have h27 : R6.1 2 7 = nI (D.1 1) := by rw [e6, sti_ne (by omega), m1.1 2 7 (by unfold Rt; omega), e4, sti_ne (by omega), k1.1 2 7 (by unfold Rt; omega), e2, sti_ne (by omega), a1.1 2 7 (by unfold Rt; omega)]; exact xD.1.2.1
        rw [h27, nI_1] at eu
        rw [eu] at e7
        have key : ∀ c i, c ≠ 0 → R7.1 c i = if c = 2 ∧ i = 7 then nI (D.1 1 + 1) else if c = 7 ∧ i = 6 + D.1 1 then nI (f (f (f p).2.1).2.1).2.2.2 else if c = 6 ∧ i = 6 + D.1 1 then nI (f (f p).2.1).2.2.2 else if c = 5 ∧ i = 6 + D.1 1 then nI (f p).2.2.2 else R.1 c i := fun c i hc => by rw [e7, sti_1, e6, sti_1, m1.1 c i (by unfold Rt; omega), e4, sti_1, k1.1 c i (by unfold Rt; omega), e2, sti_1, a1.1 c i (by unfold Rt; omega)]
        refine g c1 c2 c3 R7 (((f4.tr m1.w).st e6 (by unfold Rw; omega)).st e7 (by unfold Rw; omega)) ⟨(m2.st e6 (by omega)).st e7 (by omega), (m3.st e6 (Or.inl (by decide))).st e7 (Or.inl (by decide)), by rw [e7, sti_ne (by omega), e6, sti_ne (by omega)]; exact m4, ?_, xB.mv ?_ (fun g g2 => by rw [incr_1, if_neg (by omega)]; rfl)⟩
        · obtain ⟨⟨r1, r2, r3, r4, r5, r6⟩, r7, r8⟩ := xD
          refine ⟨⟨?_, ?_, ?_, ?_, ?_, ?_⟩, fun i hi => ⟨?_, ?_⟩, fun i hi => ⟨?_, ?_, ?_⟩⟩
          · rw [key 2 6 (by decide), if_neg (by omega), if_neg (by omega), if_neg (by omega), if_neg (by omega), incr_1, if_neg (by decide)]; exact r1
          · rw [key 2 7 (by decide), if_pos ⟨rfl, rfl⟩, incr_1, if_pos rfl]; rfl
          · rw [key 2 8 (by decide), if_neg (by omega), if_neg (by omega), if_neg (by omega), if_neg (by omega), incr_2, setv_2, if_neg (by omega), setv_2, if_neg (by omega), setv_2, if_neg (by omega)]; exact r3
          · rw [key 2 9 (by decide), if_neg (by omega), if_neg (by omega), if_neg (by omega), if_neg (by omega), incr_2, setv_2, if_neg (by omega), setv_2, if_neg (by omega), setv_2, if_neg (by omega)]; exact r4
          · rw [key 2 10 (by decide), if_neg (by omega), if_neg (by omega), if_neg (by omega), if_neg (by omega), incr_2, setv_2, if_neg (by omega), setv_2, if_neg (by omega), setv_2, if_neg (by omega)]; exact r5
          · rw [key 2 11 (by decide), if_neg (by omega), if_neg (by omega), if_neg (by omega), if_neg (by omega), incr_2, setv_2, if_neg (by omega), setv_2, if_neg (by omega), setv_2, if_neg (by omega)]; exact r6
          · rw [incr_1, if_neg (by decide), setv_1, setv_1, setv_1] at hi
            rw [key 3 _ (by decide), if_neg (by omega), if_neg (by omega), if_neg (by omega), if_neg (by omega), incr_2, setv_2, if_neg (by omega), setv_2, if_neg (by omega), setv_2, if_neg (by omega)]; exact (r7 i hi).1
          · rw [incr_1, if_neg (by decide), setv_1, setv_1, setv_1] at hi
            rw [key 4 _ (by decide), if_neg (by omega), if_neg (by omega), if_neg (by omega), if_neg (by omega), incr_2, setv_2, if_neg (by omega), setv_2, if_neg (by omega), setv_2, if_neg (by omega)]; exact (r7 i hi).2
          · rw [incr_1, if_pos rfl, setv_1, setv_1, setv_1] at hi
            rw [incr_2, setv_2, if_neg (by omega), setv_2, if_neg (by omega), setv_2, key 5 _ (by decide), if_neg (by omega), if_neg (by omega), if_neg (by omega)]
            by_cases q : i = D.1 1
            · rw [if_pos ⟨rfl, by omega⟩, if_pos ⟨rfl, q⟩]
            · rw [if_neg (by omega), if_neg (fun w => q w.2)]; exact (r8 i (by omega)).1
          · rw [incr_1, if_pos rfl, setv_1, setv_1, setv_1] at hi
            rw [incr_2, setv_2, if_neg (by omega), setv_2, key 6 _ (by decide), if_neg (by omega), if_neg (by omega)]
            by_cases q : i = D.1 1
            · rw [if_pos ⟨rfl, by omega⟩, if_pos ⟨rfl, q⟩]
            · rw [if_neg (by omega), if_neg (by omega), if_neg (fun w => q w.2), setv_2, if_neg (by omega)]; exact (r8 i (by omega)).2.1
          · rw [incr_1, if_pos rfl, setv_1, setv_1, setv_1] at hi
            rw [key 7 _ (by decide), if_neg (by omega), incr_2, setv_2]
            by_cases q : i = D.1 1
            · rw [if_pos ⟨rfl, by omega⟩, if_pos ⟨rfl, q⟩]
            · rw [if_neg (by omega), if_neg (by omega), if_neg (by omega), if_neg (fun w => q w.2), setv_2, if_neg (by omega), setv_2, if_neg (by omega)]; exact (r8 i (by omega)).2.2
        · rw [e7, sti_ne (by omega), e6, sti_ne (by omega), m1.1 0 10 (by unfold Rt; omega), e4, sti_ne (by omega), k1.1 0 10 (by unfold Rt; omega), e2, sti_ne (by omega), a1.1 0 10 (by unfold Rt; omega)]
      · refine r_num_no (a := 0) (b := 99) hf c4' he2 h84 (by decide) c3 (fun R5 e5 => ?_)
        exact ill3 _ R5 hq3 (f4.st e5 (by unfold Rw; omega)) (by rw [e5, sti_eq]) (b3 c1 c2 c3)
    · refine r_num_no (a := 1) (b := 60) hf c2' he h82 (by decide) c2 (fun R3 e3 => ?_)
      exact ill2 _ R3 hq2 (f2.st e3 (by unfold Rw; omega)) (by rw [e3, sti_eq]) (b2 c1 c2)
  · refine r_num_no (a := 1) (b := 60) hf xC hp x8 (by decide) c1 (fun R1 e1 => ⟨v12, ?_⟩)
    intro R2 e2
    have h82 : R2.1 0 8 = nI (f p).1 := by rw [e2, sti_ne (by omega), e1, sti_eq]
    exact r_num_ill h82 (by omega) (ill2 _ R2 hq (((Fr.rf R).st e1 (by unfold Rw; omega)).st e2 (by unfold Rw; omega)) h82 (b1 c1))
theorem reads_x {R : CS} {T : Nat → Nat} {n p h : Nat} {f : TFt} {D : DS} {post : CS → Prop} (hf : TF T n f) (hp : p ≤ n) (hX : RX R T n f D p) (h2 : 2 ≤ h) (h6 : h < 6) (hm : D.1 h = 0) (hn : n ≤ 200)
    (b1 : ¬ NumOk f (LEA (3 + h)) (MOS (3 + h)) p → ∀ R1 : CS, Fr Rw R R1 → R1.1 0 8 = nI (f p).1 → post R1)
    (g : NumOk f (LEA (3 + h)) (MOS (3 + h)) p → ∀ R1 : CS, Fr Rw R R1 → RX R1 T n f (incr (setv D (3 + h) 0 (f p).2.2.2) h) (f p).2.1 → post R1) : p_X7_readsItem R (nI (HL h)) post := by
  obtain ⟨xT, xC, x8, xD, xB⟩ := hX
  obtain ⟨l1, l2, l3, l4⟩ := LEA_d (3 + h) (by omega)
  have he : (f p).2.1 ≤ n := (hf p hp).1.2.1
  have hq : (f p).1 ≤ n := (hf p hp).1.1
  have red : p_X7_number R (nI (LEA (3 + h))) (nI (MOS (3 + h))) (fun r S => q_X7_readsItem_177 (nI (HL h)) post (nI h) r (6 + nI h) S) → p_X7_readsItem R (nI (HL h)) post := by
    intro z
    unfold p_X7_readsItem p_X7_fixed
    rcases (show h = 2 ∨ h = 3 ∨ h = 4 ∨ h = 5 by omega) with rfl | rfl | rfl | rfl
    · exact br_f (by decide) (br_f (by decide) (br_t (by decide) (br_t rfl z)))
    · exact br_f (by decide) (br_f (by decide) (br_f (by decide) (br_t (by decide) (br_f (by decide) (br_f (by decide) z)))))
    · exact br_f (by decide) (br_f (by decide) (br_f (by decide) (br_f (by decide) (br_t (by decide) (br_f (by decide) (br_f (by decide) z))))))
    · exact br_f (by decide) (br_f (by decide) (br_f (by decide) (br_f (by decide) (br_f (by decide) (br_f (by decide) (br_t rfl z))))))
  refine red ?_
  by_cases c1 : NumOk f (LEA (3 + h)) (MOS (3 + h)) p
  · refine r_num_ok hf xT xC hp x8 l4 c1 (fun R1 a1 a2 a3 a4 => ?_)
    unfold q_X7_readsItem_177
    rw [sx6, nI_clamp (by omega)]
    refine ⟨vp_in_nI (by omega) (by decide), ?_⟩
    intro R2 e2 u eu R3 e3
    obtain ⟨b, b64, hb, hbt⟩ := xB
    have h10 : R2.1 0 10 = nI b := by rw [e2, sti_ne (by omega), a1.1 0 10 (by unfold Rt; omega)]; exact hb
    obtain ⟨d1, d2⟩ := bt_dec b b64 h h6
    rw [h10, d1] at eu
    rw [eu] at e3
    have key : ∀ c i, c ≠ 0 → R3.1 c i = if c = 2 ∧ i = 6 + h then nI (f p).2.2.2 else R.1 c i := fun c i hc => by rw [e3, sti_ne (by omega), e2, sti_1, a1.1 c i (by unfold Rt; omega)]
    refine g c1 R3 ((a1.w.st e2 (by unfold Rw; omega)).st e3 (by unfold Rw; omega)) ⟨(a2.st e2 (by omega)).st e3 (by omega), (a3.st e2 (Or.inl (by decide))).st e3 (Or.inr (by decide)), by rw [e3, sti_ne (by omega), e2, sti_ne (by omega)]; exact a4, ?_, b ||| 2 ^ h, d2, by rw [e3, sti_eq], fun g g2 g6 => ?_⟩
    · obtain ⟨⟨r1, r2, r3, r4, r5, r6⟩, r7, r8⟩ := xD
      refine ⟨⟨?_, ?_, ?_, ?_, ?_, ?_⟩, fun i hi => ⟨?_, ?_⟩, fun i hi => ⟨?_, ?_, ?_⟩⟩
      · rw [key 2 6 (by decide), if_neg (by omega), incr_1, if_neg (by omega)]; exact r1
      · rw [key 2 7 (by decide), if_neg (by omega), incr_1, if_neg (by omega)]; exact r2
      · rw [key 2 8 (by decide), incr_2, setv_2]
        by_cases q : h = 2
        · rw [if_pos ⟨rfl, by omega⟩, if_pos ⟨by omega, rfl⟩]
        · rw [if_neg (by omega), if_neg (by omega)]; exact r3
      · rw [key 2 9 (by decide), incr_2, setv_2]
        by_cases q : h = 3
        · rw [if_pos ⟨rfl, by omega⟩, if_pos ⟨by omega, rfl⟩]
        · rw [if_neg (by omega), if_neg (by omega)]; exact r4
      · rw [key 2 10 (by decide), incr_2, setv_2]
        by_cases q : h = 4
        · rw [if_pos ⟨rfl, by omega⟩, if_pos ⟨by omega, rfl⟩]
        · rw [if_neg (by omega), if_neg (by omega)]; exact r5
      · rw [key 2 11 (by decide), incr_2, setv_2]
        by_cases q : h = 5
        · rw [if_pos ⟨rfl, by omega⟩, if_pos ⟨by omega, rfl⟩]
        · rw [if_neg (by omega), if_neg (by omega)]; exact r6
      · rw [incr_1, if_neg (by omega), setv_1] at hi
        rw [key 3 _ (by decide), if_neg (by omega), incr_2, setv_2, if_neg (by omega)]; exact (r7 i hi).1
      · rw [incr_1, if_neg (by omega), setv_1] at hi
        rw [key 4 _ (by decide), if_neg (by omega), incr_2, setv_2, if_neg (by omega)]; exact (r7 i hi).2
      · rw [incr_1, if_neg (by omega), setv_1] at hi
        rw [key 5 _ (by decide), if_neg (by omega), incr_2, setv_2, if_neg (by omega)]; exact (r8 i hi).1
      · rw [incr_1, if_neg (by omega), setv_1] at hi
        rw [key 6 _ (by decide), if_neg (by omega), incr_2, setv_2, if_neg (by omega)]; exact (r8 i hi).2.1
      · rw [incr_1, if_neg (by omega), setv_1] at hi
        rw [key 7 _ (by decide), if_neg (by omega), incr_2, setv_2, if_neg (by omega)]; exact (r8 i hi).2.2
    · rw [bt2_dec b b64 h h6 g g6, hbt g g2 g6, incr_1]
      by_cases q : g = h
      · rw [if_pos q]
        exact ⟨fun w => absurd q w.1, fun w => absurd w (by omega)⟩
      · rw [if_neg q, setv_1]
        exact ⟨fun w => w.2, fun w => ⟨q, w⟩⟩
  · refine r_num_no hf xC hp x8 (by omega) c1 (fun R1 e1 => ?_)
    unfold q_X7_readsItem_177
    rw [sx6, nI_clamp (by omega)]
    refine ⟨vp_in_nI (by omega) (by decide), ?_⟩
    intro R2 e2 u eu R3 e3
    exact b1 c1 R3 ((((Fr.rf R).st e1 (by unfold Rw; omega)).st e2 (by unfold Rw; omega)).st e3 (by unfold Rw; omega)) (by rw [e3, sti_ne (by omega), e2, sti_ne (by omega), e1, sti_eq])
