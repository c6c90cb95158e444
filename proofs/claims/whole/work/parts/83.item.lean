/-! items, on both sides -/
theorem c_head_no {S : CS} {t k v : Nat} {post : Int32 → CS → Prop} (hv : k = 1 → v < 256) (hno : ¬ (k = 1 ∧ ∃ h, h < 6 ∧ HL h = v)) (h : post 0 S) : p_X5_readItem S t (ct k v) post := by
  have z : ∀ x, q_X5_readItem_15 t x post (-1) S := fun x => by
    unfold q_X5_readItem_15
    exact br_t (by decide) h
  unfold p_X5_readItem
  by_cases k1 : k = 1
  · have e : ct k v = nI v := by unfold ct; rw [if_neg (by omega), if_pos k1]
    have v256 := hv k1
    rw [e]
    exact br_t (nI_pos' (by omega)) (index_y (h := 6) v256 (Nat.le_refl 6) (fun j hj w => hno ⟨k1, j, hj, w⟩) (fun w => absurd w (by decide)) (fun _ => z _))
  · have e : ¬ 0 ≤ ct k v := by
      unfold ct
      by_cases k0 : k = 0
      · rw [if_pos k0]; decide
      · rw [if_neg k0, if_neg k1]
        by_cases k2 : k = 2
        · rw [if_pos k2]; decide
        · rw [if_neg k2]; decide
    exact br_f e (z _)
theorem HL_lt : ∀ h, h < 6 → HL h < 256 := by decide
theorem c_head {S : CS} {t h : Nat} {D : DS} {post : Int32 → CS → Prop} (hh : h < 6) (hD : Dcl S t D) (hD6 : D.1 h ≤ 6) (hfull : ¬ D.1 h < MAX h → post 0 S) (hok : D.1 h < MAX h → ∃ n, q_X5_readItem_53 t (ct 1 (HL h)) post n (nI h) (nI (D.1 h)) 0 S) : p_X5_readItem S t (ct 1 (HL h)) post := by
  obtain ⟨n1, n2, n3, n4, n5, n6⟩ := NUM_d h hh
  have hl := HL_lt h hh
  have e : ct 1 (HL h) = nI (HL h) := rfl
  unfold p_X5_readItem
  rw [e]
  refine br_t (nI_pos' (by omega)) (index_y (h := h) hl (by omega) (fun j hj => HL_dec h hh j hj) (fun _ => ⟨rfl, ?_⟩) (fun w => absurd w (by omega)))
  unfold q_X5_readItem_15
  rw [nI_clamp (by omega), hD.1 h hh, n3]
  refine br_f (nI_pos (by omega)) (br_f (nI_ge (b := 6) hh (by decide)) ⟨vp_in_nI hh (by decide), vp_in_nI hh (by decide), fun c => ⟨vp_in_nI hh (by decide), ?_⟩, fun c => hfull (fun w => c (nI_lt w (by omega)))⟩)
  intro x4 ex4
  rw [ex4]
  exact hok ((nI_ltI (by omega) (by omega)).mp c)
theorem RX.go {R R1 : CS} {T : Nat → Nat} {n p p2 : Nat} {f : TFt} {D : DS} (hX : RX R T n f D p) (a1 : Fr Rt R R1) (a2 : RTx R1 T n) (a3 : RC R1 f p2) (a4 : R1.1 0 8 = -1) : RX R1 T n f D p2 :=
  ⟨a2, a3, a4, hX.2.2.2.1.fr (fun c i hc => a1.1 c i (by unfold Rt; omega)), hX.2.2.2.2.mv (a1.1 0 10 (by unfold Rt; omega)) (fun _ _ => rfl)⟩
section YARD
variable {T : Nat → Nat} {n p : Nat} {f : TFt} {D : DS} {R : CS} {K : Int32 → CS → Prop} {post : Int32 → CS → Prop} {y1 : Int32}
theorem y76_ill {q : Nat} (h8 : R.1 0 8 = nI q) (hq : q < 2 ^ 31) (h : ∀ x, K x R) : q_X7_yard_76 K post y1 R := by
  unfold q_X7_yard_76
  exact ⟨fun _ => r_takes_ill h8 hq (fun x _ => h x), fun _ => r_takes_ill h8 hq (fun x _ => h x)⟩
theorem y76_ok (hf : TF T n f) (hp : p ≤ n) (hX : RX R T n f D p) (hs : Stop f p) (h : ∀ R1 : CS, Fr Rw R R1 → RX R1 T n f D (f p).2.1 → K (y1 + 1) R1) : q_X7_yard_76 K post y1 R := by
  unfold q_X7_yard_76
  rw [hX.2.1.2.2.1]
  refine br_t (rt_3.mpr hs) (r_takes_1 hf hX.1 hX.2.1 hp hX.2.2.1 (fun R1 a1 a2 a3 a4 x ex => ?_))
  rw [ex]
  exact h R1 a1.w (hX.go a1 a2 a3 a4)
theorem y76_no (hX : RX R T n f D p) (hs : ¬ Stop f p) (h : ∀ (R1 : CS) (x : Int32), Fr Rw R R1 → R1.1 0 8 = nI (f p).1 → K x R1) : q_X7_yard_76 K post y1 R := by
  unfold q_X7_yard_76
  rw [hX.2.1.2.2.1]
  exact br_f (fun w => hs (rt_3.mp w)) (r_takes_0 hX.2.2.1 hX.2.1.2.1 (fun R1 e1 x _ => h R1 x ((Fr.rf R).st e1 (by unfold Rw; omega)) (by rw [e1, sti_eq])))
theorem y60_0 (hX : RX R T n f D p) (hq : (f p).1 < 2 ^ 31) (h : ∀ (R1 : CS) (x : Int32), Fr Rw R R1 → R1.1 0 8 = nI (f p).1 → K x R1) : q_X7_yard_60 K post y1 0 R := by
  unfold q_X7_yard_60
  refine r_takes_0 hX.2.2.1 hX.2.1.2.1 (fun R1 e1 => ?_)
  have h8 : R1.1 0 8 = nI (f p).1 := by rw [e1, sti_eq]
  exact r_ill h8 hq (c00 (y76_ill h8 hq (fun x => h R1 x ((Fr.rf R).st e1 (by unfold Rw; omega)) h8)))
theorem y60_1 {v : Nat} (hf : TF T n f) (hp : p ≤ n) (hX : RX R T n f D p) (hk : (f p).2.2.1 = 1) (hv : (f p).2.2.2 = v) (h : ∀ R1 : CS, Fr Rw R R1 → RX R1 T n f D (f p).2.1 → p_X7_readsItem R1 (nI v) (fun S_30 => q_X7_yard_76 K post y1 S_30)) : q_X7_yard_60 K post y1 1 R := by
  unfold q_X7_yard_60
  refine r_takes_1 hf hX.1 hX.2.1 hp hX.2.2.1 (fun R1 a1 a2 a3 a4 => ?_)
  rw [hX.2.1.2.2.2 (Or.inl hk), hv]
  exact r_well a4 (c01 (h R1 a1.w (hX.go a1 a2 a3 a4)))
end YARD
def Ritem (K : Int32 → CS → Prop) (post : Int32 → CS → Prop) (y1 : Int32) (R : CS) : Prop := ((R.1 0 5) = 1 → (p_X7_mayBegin R (fun r_33 S_32 => ((r_33 = 0 → (q_X7_yard_60 K post y1 0 S_32)) ∧ (¬ (r_33 = 0) → (q_X7_yard_60 K post y1 1 S_32)))))) ∧ (¬ ((R.1 0 5) = 1) → (q_X7_yard_60 K post y1 0 R))
def IBad (T : Nat → Nat) (n : Nat) (f : TFt) (D : DS) (p q : Nat) : Prop := q ≤ n ∧ (∀ (S : CS) (t : Nat) (post : Int32 → CS → Prop), CTx S T n → Dcl S t D → S.1 1 2 = nI (f p).1 → S.1 1 3 = nI (f p).2.1 → (∀ S1 : CS, Fr (Cw t) S S1 → S1.1 1 2 = nI q → post 0 S1) → p_X5_readItem S t (ct (f p).2.2.1 (f p).2.2.2) post) ∧ (∀ (R : CS) (K : Int32 → CS → Prop) (post : Int32 → CS → Prop) (y1 : Int32), RX R T n f D p → (∀ (R1 : CS) (x : Int32), Fr Rw R R1 → R1.1 0 8 = nI q → K x R1) → Ritem K post y1 R)
def IGood (T : Nat → Nat) (n : Nat) (f : TFt) (D : DS) (p p2 : Nat) (D2 : DS) : Prop := (p < p2 ∧ p2 ≤ n) ∧ DW D2 ∧ (∀ (S : CS) (t : Nat) (post : Int32 → CS → Prop), CTx S T n → Dcl S t D → S.1 1 2 = nI (f p).1 → S.1 1 3 = nI (f p).2.1 → (∀ S1 : CS, Fr (Cw t) S S1 → CTx S1 T n → Dcl S1 t D2 → S1.1 1 3 = nI p2 → post 1 S1) → p_X5_readItem S t (ct (f p).2.2.1 (f p).2.2.2) post) ∧ (∀ (R : CS) (K : Int32 → CS → Prop) (post : Int32 → CS → Prop) (y1 : Int32), RX R T n f D p → (∀ R1 : CS, Fr Rw R R1 → RX R1 T n f D2 p2 → K (y1 + 1) R1) → Ritem K post y1 R)
theorem ritem_1 {T : Nat → Nat} {n p h : Nat} {f : TFt} {D : DS} {R : CS} {K : Int32 → CS → Prop} {post : Int32 → CS → Prop} {y1 : Int32} (hf : TF T n f) (hp : p ≤ n) (hW : DW D) (hX : RX R T n f D p) (hh : h < 6) (hk : (f p).2.2.1 = 1) (hv : (f p).2.2.2 = HL h) (hm : D.1 h < MAX h) (hr : ∀ R1 : CS, Fr Rw R R1 → RX R1 T n f D (f p).2.1 → p_X7_readsItem R1 (nI (HL h)) (fun S_30 => q_X7_yard_76 K post y1 S_30)) : Ritem K post y1 R := by
  have hhead : HL h = 119 ∨ HL h = 111 ∨ HL h = 114 ∨ HL h = 116 ∨ HL h = 112 ∨ HL h = 108 := by
    rcases (show h = 0 ∨ h = 1 ∨ h = 2 ∨ h = 3 ∨ h = 4 ∨ h = 5 by omega) with rfl | rfl | rfl | rfl | rfl | rfl <;> decide
  unfold Ritem
  rw [hX.2.1.2.2.1]
  exact br_t (rt_1.mpr ⟨hk, by rw [hv]; exact hhead⟩) (r_may hh hW (by rw [hX.2.1.2.2.2 (Or.inl hk), hv]) hX.2.2.2.1 hX.2.2.2.2 (fun _ => c01 (y60_1 hf hp hX hk hv hr)) (fun w => absurd hm w))
theorem item_no {T : Nat → Nat} {n p : Nat} {f : TFt} {D : DS} (hf : TF T n f) (hn : n ≤ 200) (hp : p ≤ n) (hno : ¬ ((f p).2.2.1 = 1 ∧ ∃ h, h < 6 ∧ HL h = (f p).2.2.2)) : IBad T n f D p (f p).1 := by
  obtain ⟨⟨t1, t2, t3, t4, t5, t6⟩, -, -⟩ := hf p hp
  refine ⟨t1, fun S t post hT hD h2 h3 hk => c_head_no t5 hno (hk S (Fr.rf S) h2), fun R K post y1 hX hk => ?_⟩
  unfold Ritem
  rw [hX.2.1.2.2.1]
  refine br_f (fun w => hno ?_) (y60_0 hX (by omega) hk)
  obtain ⟨a, b⟩ := rt_1.mp w
  refine ⟨a, ?_⟩
  rcases b with b | b | b | b | b | b
  · exact ⟨0, by decide, b.symm⟩
  · exact ⟨1, by decide, b.symm⟩
  · exact ⟨2, by decide, b.symm⟩
  · exact ⟨3, by decide, b.symm⟩
  · exact ⟨4, by decide, b.symm⟩
  · exact ⟨5, by decide, b.symm⟩
theorem DW_6 {D : DS} (hW : DW D) {h : Nat} (hh : h < 6) : D.1 h ≤ 6 := by
  have w0 := hW.1
  have w1 := hW.2.1
  have w2 := hW.2.2.1
  rcases (show h = 0 ∨ h = 1 ∨ (2 ≤ h) by omega) with rfl | rfl | z
  · exact w0
  · exact w1
  · have := w2 h z hh; omega
theorem item_full {T : Nat → Nat} {n p h : Nat} {f : TFt} {D : DS} (hf : TF T n f) (hn : n ≤ 200) (hp : p ≤ n) (hW : DW D) (hh : h < 6) (hk : (f p).2.2.1 = 1) (hv : (f p).2.2.2 = HL h) (hm : ¬ D.1 h < MAX h) : IBad T n f D p (f p).1 := by
  obtain ⟨⟨t1, t2, t3, t4, t5, t6⟩, -, -⟩ := hf p hp
  have hhead : HL h = 119 ∨ HL h = 111 ∨ HL h = 114 ∨ HL h = 116 ∨ HL h = 112 ∨ HL h = 108 := by
    rcases (show h = 0 ∨ h = 1 ∨ h = 2 ∨ h = 3 ∨ h = 4 ∨ h = 5 by omega) with rfl | rfl | rfl | rfl | rfl | rfl <;> decide
  refine ⟨t1, fun S t post hT hD h2 h3 hpost => ?_, fun R K post y1 hX hpost => ?_⟩
  · rw [hk, hv]
    exact c_head hh hD (DW_6 hW hh) (fun _ => hpost S (Fr.rf S) h2) (fun w => absurd w hm)
  · unfold Ritem
    rw [hX.2.1.2.2.1]
    exact br_t (rt_1.mpr ⟨hk, by rw [hv]; exact hhead⟩) (r_may hh hW (by rw [hX.2.1.2.2.2 (Or.inl hk), hv]) hX.2.2.2.1 hX.2.2.2.2 (fun w => absurd w hm) (fun _ => c00 (y60_0 hX (by omega) hpost)))
theorem DW_w {D : DS} {a b : Nat} (hW : DW D) (hm : D.1 0 < 6) (ha : 1 ≤ a ∧ a ≤ 9) (hb : b ≤ 30) : DW (incr (setv (setv D 0 (D.1 0) a) 1 (D.1 0) b) 0) := by
  obtain ⟨h1, h2, h3, h4, h5, h6, h7, h8, h9⟩ := hW
  refine ⟨?_, ?_, fun h g2 g6 => ?_, fun i hi => ?_, fun i hi => ?_, ?_, ?_, ?_, ?_⟩
  · rw [incr_1, if_pos rfl]; exact hm
  · rw [incr_1, if_neg (by decide)]; exact h2
  · rw [incr_1, if_neg (by omega)]; exact h3 h g2 g6
  · rw [incr_1, if_pos rfl, setv_1, setv_1] at hi
    rw [incr_2, setv_2, if_neg (by omega), setv_2, incr_2, setv_2]
    by_cases q : i = D.1 0
    · rw [if_pos ⟨rfl, q⟩, if_pos ⟨rfl, q⟩]; exact ⟨ha, hb⟩
    · rw [if_neg (fun w => q w.2), if_neg (fun w => q w.2), setv_2, if_neg (by omega)]; exact h4 i (by omega)
  · rw [incr_1, if_neg (by decide), setv_1, setv_1] at hi
    rw [incr_2, setv_2, if_neg (by omega), setv_2, if_neg (by omega), incr_2, setv_2, if_neg (by omega), setv_2, if_neg (by omega), incr_2, setv_2, if_neg (by omega), setv_2, if_neg (by omega)]
    exact h5 i hi
  · rw [incr_2, setv_2, if_neg (by omega), setv_2, if_neg (by omega)]; exact h6
  · rw [incr_2, setv_2, if_neg (by omega), setv_2, if_neg (by omega)]; exact h7
  · rw [incr_2, setv_2, if_neg (by omega), setv_2, if_neg (by omega)]; exact h8
  · rw [incr_2, setv_2, if_neg (by omega), setv_2, if_neg (by omega)]; exact h9
theorem DW_o {D : DS} {a b c : Nat} (hW : DW D) (hm : D.1 1 < 6) (ha : 1 ≤ a ∧ a ≤ 60) (hb : 1 ≤ b ∧ b ≤ 60) (hc : c ≤ 99) : DW (incr (setv (setv (setv D 2 (D.1 1) a) 3 (D.1 1) b) 4 (D.1 1) c) 1) := by
  obtain ⟨h1, h2, h3, h4, h5, h6, h7, h8, h9⟩ := hW
  refine ⟨?_, ?_, fun h g2 g6 => ?_, fun i hi => ?_, fun i hi => ?_, ?_, ?_, ?_, ?_⟩
  · rw [incr_1, if_neg (by decide)]; exact h1
  · rw [incr_1, if_pos rfl]; exact hm
  · rw [incr_1, if_neg (by omega)]; exact h3 h g2 g6
  · rw [incr_1, if_neg (by decide), setv_1, setv_1, setv_1] at hi
    rw [incr_2, setv_2, if_neg (by omega), setv_2, if_neg (by omega), setv_2, if_neg (by omega), incr_2, setv_2, if_neg (by omega), setv_2, if_neg (by omega), setv_2, if_neg (by omega)]
    exact h4 i hi
  · rw [incr_1, if_pos rfl, setv_1, setv_1, setv_1] at hi
    have e2 : (incr (setv (setv (setv D 2 (D.1 1) a) 3 (D.1 1) b) 4 (D.1 1) c) 1).2 2 i = if i = D.1 1 then a else D.2 2 i := by
      rw [incr_2, setv_2, if_neg (by omega), setv_2, if_neg (by omega), setv_2]
      by_cases q : i = D.1 1
      · rw [if_pos ⟨rfl, q⟩, if_pos q]
      · rw [if_neg (fun w => q w.2), if_neg q]
    have e3 : (incr (setv (setv (setv D 2 (D.1 1) a) 3 (D.1 1) b) 4 (D.1 1) c) 1).2 3 i = if i = D.1 1 then b else D.2 3 i := by
      rw [incr_2, setv_2, if_neg (by omega), setv_2]
      by_cases q : i = D.1 1
      · rw [if_pos ⟨rfl, q⟩, if_pos q]
      · rw [if_neg (fun w => q w.2), if_neg q, setv_2, if_neg (by omega)]
    have e4 : (incr (setv (setv (setv D 2 (D.1 1) a) 3 (D.1 1) b) 4 (D.1 1) c) 1).2 4 i = if i = D.1 1 then c else D.2 4 i := by
      rw [incr_2, setv_2]
      by_cases q : i = D.1 1
      · rw [if_pos ⟨rfl, q⟩, if_pos q]
      · rw [if_neg (fun w => q w.2), if_neg q, setv_2, if_neg (by omega), setv_2, if_neg (by omega)]
    rw [e2, e3, e4]
    by_cases q : i = D.1 1
    · rw [if_pos q, if_pos q, if_pos q]; exact ⟨ha, hb, hc⟩
    · rw [if_neg q, if_neg q, if_neg q]; exact h5 i (by omega)
  · rw [incr_2, setv_2, if_neg (by omega), setv_2, if_neg (by omega), setv_2, if_neg (by omega)]; exact h6
  · rw [incr_2, setv_2, if_neg (by omega), setv_2, if_neg (by omega), setv_2, if_neg (by omega)]; exact h7
  · rw [incr_2, setv_2, if_neg (by omega), setv_2, if_neg (by omega), setv_2, if_neg (by omega)]; exact h8
  · rw [incr_2, setv_2, if_neg (by omega), setv_2, if_neg (by omega), setv_2, if_neg (by omega)]; exact h9
theorem DW_x {D : DS} {a h : Nat} (hW : DW D) (h2' : 2 ≤ h) (h6' : h < 6) (hm : D.1 h = 0) (ha : LEA (3 + h) ≤ a ∧ a ≤ MOS (3 + h)) : DW (incr (setv D (3 + h) 0 a) h) := by
  obtain ⟨h1, h2, h3, h4, h5, h6, h7, h8, h9⟩ := hW
  have e : ∀ r, 5 ≤ r → r < 9 → ∀ u w, u ≤ D.2 r 0 ∧ D.2 r 0 ≤ w → (h = r - 3 → u ≤ a ∧ a ≤ w) → u ≤ (incr (setv D (3 + h) 0 a) h).2 r 0 ∧ (incr (setv D (3 + h) 0 a) h).2 r 0 ≤ w := by
    intro r r5 r9 u w z1 z2
    rw [incr_2, setv_2]
    by_cases q : r = 3 + h
    · rw [if_pos ⟨q, rfl⟩]; exact z2 (by omega)
    · rw [if_neg (fun w => q w.1)]; exact z1
  refine ⟨?_, ?_, fun g g2 g6 => ?_, fun i hi => ?_, fun i hi => ?_, e 5 (by decide) (by decide) _ _ h6 (fun z => ?_), e 6 (by decide) (by decide) _ _ h7 (fun z => ?_), e 7 (by decide) (by decide) _ _ h8 (fun z => ?_), e 8 (by decide) (by decide) _ _ h9 (fun z => ?_)⟩
  · rw [incr_1, if_neg (by omega)]; exact h1
  · rw [incr_1, if_neg (by omega)]; exact h2
  · rw [incr_1, setv_1]
    by_cases q : g = h
    · rw [if_pos q, q, hm]; decide
    · rw [if_neg q]; exact h3 g g2 g6
  · rw [incr_1, if_neg (by omega), setv_1] at hi
    rw [incr_2, setv_2, if_neg (by omega), incr_2, setv_2, if_neg (by omega)]
    exact h4 i hi
  · rw [incr_1, if_neg (by omega), setv_1] at hi
    rw [incr_2, setv_2, if_neg (by omega), incr_2, setv_2, if_neg (by omega), incr_2, setv_2, if_neg (by omega)]
    exact h5 i hi
  · subst z; exact ha
  · subst z; exact ha
  · subst z; exact ha
  · subst z; exact ha
