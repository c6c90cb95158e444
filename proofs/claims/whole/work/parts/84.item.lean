theorem item_w {T : Nat → Nat} {n p : Nat} {f : TFt} {D : DS} (hf : TF T n f) (hn : n ≤ 200) (hp : p ≤ n) (hW : DW D) (hk : (f p).2.2.1 = 1) (hv : (f p).2.2.2 = HL 0) (hm : D.1 0 < MAX 0) : (∃ q, IBad T n f D p q) ∨ ∃ p2 D2, IGood T n f D p p2 D2 := by
  have hm6 : D.1 0 < 6 := hm
  have k0 : (f p).2.2.1 ≠ 0 := by omega
  have p1 : (f p).2.1 ≤ n := (hf p hp).1.2.1
  have l1 : p < (f p).2.1 := (hf p hp).1.2.2.2.1 k0
  generalize e1 : (f p).2.1 = a1 at p1 l1
  have p2 : (f a1).2.1 ≤ n := (hf a1 p1).1.2.1
  have l2 : a1 ≤ (f a1).2.1 := (hf a1 p1).1.2.2.1
  generalize e2 : (f a1).2.1 = a2 at p2 l2
  have p3 : (f a2).2.1 ≤ n := (hf a2 p2).1.2.1
  have l3 : a2 ≤ (f a2).2.1 := (hf a2 p2).1.2.2.1
  generalize e3 : (f a2).2.1 = a3 at p3 l3
  have p4 : (f a3).2.1 ≤ n := (hf a3 p3).1.2.1
  have l4 : a3 ≤ (f a3).2.1 := (hf a3 p3).1.2.2.1
  have q1 : (f a1).1 ≤ n := (hf a1 p1).1.1
  have q2 : (f a2).1 ≤ n := (hf a2 p2).1.1
  have q3 : (f a3).1 ≤ n := (hf a3 p3).1.1
  by_cases c1 : NumOk f 1 9 a1
  · by_cases c2 : NumOk f 0 30 a2
    · by_cases c3 : Stop f a3
      · right
        refine ⟨(f a3).2.1, incr (setv (setv D 0 (D.1 0) (f a1).2.2.2) 1 (D.1 0) (f a2).2.2.2) 0, ⟨by omega, p4⟩, DW_w hW hm6 c1.2 c2.2.2, fun S t post hT hD h2 h3 hpost => ?_, fun R K post y1 hX hpost => ?_⟩
        · rw [hk, hv]
          rw [e1] at h3
          refine c_head (by decide) hD (DW_6 hW (by decide)) (fun w => absurd hm w) (fun _ => ⟨0 + 1 + 1 + 1, ?_⟩)
          refine q53_ok (h := 0) (i := 0) hf hT hD h3 p1 (by decide) (by decide) hm6 c1 (fun S1 b1 b2 b3 b4 => ?_)
          rw [e2] at b4
          refine q53_ok (h := 0) (i := 1) hf b2 b3 b4 p2 (by decide) (by decide) hm6 c2 (fun S2 d1 d2 d3 d4 => ?_)
          rw [e3] at d4
          exact q53_end (h := 0) hf d2 d3 d4 p3 (by decide) (fun _ S3 g1 g2 g3 g4 => hpost S3 ((b1.tr d1).tr g1) g2 g3 g4) (fun w => absurd c3 w)
        · refine ritem_1 (h := 0) hf hp hW hX (by decide) hk hv hm (fun R1 b1 b2 => ?_)
          rw [e1] at b2
          refine reads_w hf p1 b2 hm6 hn (fun w => absurd c1 w) (fun _ w => absurd (by rw [e2]; exact c2) w) (fun _ _ R2 d1 d2 => ?_)
          rw [e2, e3] at d2
          exact y76_ok hf p3 d2 c3 (fun R3 g1 g2 => hpost R3 ((b1.tr d1).tr g1) g2)
      · left
        refine ⟨(f a3).1, q3, fun S t post hT hD h2 h3 hpost => ?_, fun R K post y1 hX hpost => ?_⟩
        · rw [hk, hv]
          rw [e1] at h3
          refine c_head (by decide) hD (DW_6 hW (by decide)) (fun w => absurd hm w) (fun _ => ⟨0 + 1 + 1 + 1, ?_⟩)
          refine q53_ok (h := 0) (i := 0) hf hT hD h3 p1 (by decide) (by decide) hm6 c1 (fun S1 b1 b2 b3 b4 => ?_)
          rw [e2] at b4
          refine q53_ok (h := 0) (i := 1) hf b2 b3 b4 p2 (by decide) (by decide) hm6 c2 (fun S2 d1 d2 d3 d4 => ?_)
          rw [e3] at d4
          exact q53_end (h := 0) hf d2 d3 d4 p3 (by decide) (fun w => absurd w c3) (fun _ S3 g1 g2 => hpost S3 ((b1.tr d1).tr g1) g2)
        · refine ritem_1 (h := 0) hf hp hW hX (by decide) hk hv hm (fun R1 b1 b2 => ?_)
          rw [e1] at b2
          refine reads_w hf p1 b2 hm6 hn (fun w => absurd c1 w) (fun _ w => absurd (by rw [e2]; exact c2) w) (fun _ _ R2 d1 d2 => ?_)
          rw [e2, e3] at d2
          exact y76_no d2 c3 (fun R3 x g1 g2 => hpost R3 x ((b1.tr d1).tr g1) g2)
    · left
      refine ⟨(f a2).1, q2, fun S t post hT hD h2 h3 hpost => ?_, fun R K post y1 hX hpost => ?_⟩
      · rw [hk, hv]
        rw [e1] at h3
        refine c_head (by decide) hD (DW_6 hW (by decide)) (fun w => absurd hm w) (fun _ => ⟨0 + 1 + 1, ?_⟩)
        refine q53_ok (h := 0) (i := 0) hf hT hD h3 p1 (by decide) (by decide) hm6 c1 (fun S1 b1 b2 b3 b4 => ?_)
        rw [e2] at b4
        exact q53_bad (h := 0) (i := 1) hf b2 b4 p2 (by decide) (by decide) hm6 c2 (fun S2 d1 d2 => hpost S2 (b1.tr (d1.mono (fun c j w => w.1))) d2)
      · refine ritem_1 (h := 0) hf hp hW hX (by decide) hk hv hm (fun R1 b1 b2 => ?_)
        rw [e1] at b2
        refine reads_w hf p1 b2 hm6 hn (fun w => absurd c1 w) (fun _ _ R2 d1 d2 => ?_) (fun _ w => absurd (by rw [e2] at w; exact w) c2)
        rw [e2] at d2
        exact y76_ill d2 (by omega) (fun x => hpost R2 x (b1.tr d1) d2)
  · left
    refine ⟨(f a1).1, q1, fun S t post hT hD h2 h3 hpost => ?_, fun R K post y1 hX hpost => ?_⟩
    · rw [hk, hv]
      rw [e1] at h3
      refine c_head (by decide) hD (DW_6 hW (by decide)) (fun w => absurd hm w) (fun _ => ⟨0 + 1, ?_⟩)
      exact q53_bad (h := 0) (i := 0) hf hT h3 p1 (by decide) (by decide) hm6 c1 (fun S2 d1 d2 => hpost S2 (d1.mono (fun c j w => w.1)) d2)
    · refine ritem_1 (h := 0) hf hp hW hX (by decide) hk hv hm (fun R1 b1 b2 => ?_)
      rw [e1] at b2
      exact reads_w hf p1 b2 hm6 hn (fun _ R2 d1 d2 => y76_ill d2 (by omega) (fun x => hpost R2 x (b1.tr d1) d2)) (fun w => absurd w c1) (fun w => absurd w c1)
theorem item_o {T : Nat → Nat} {n p : Nat} {f : TFt} {D : DS} (hf : TF T n f) (hn : n ≤ 200) (hp : p ≤ n) (hW : DW D) (hk : (f p).2.2.1 = 1) (hv : (f p).2.2.2 = HL 1) (hm : D.1 1 < MAX 1) : (∃ q, IBad T n f D p q) ∨ ∃ p2 D2, IGood T n f D p p2 D2 := by
  have hm6 : D.1 1 < 6 := hm
  have k0 : (f p).2.2.1 ≠ 0 := by omega
  have p1 : (f p).2.1 ≤ n := (hf p hp).1.2.1
  have l1 : p < (f p).2.1 := (hf p hp).1.2.2.2.1 k0
  generalize e1 : (f p).2.1 = a1 at p1 l1
  have p2 : (f a1).2.1 ≤ n := (hf a1 p1).1.2.1
  have l2 : a1 ≤ (f a1).2.1 := (hf a1 p1).1.2.2.1
  generalize e2 : (f a1).2.1 = a2 at p2 l2
  have p3 : (f a2).2.1 ≤ n := (hf a2 p2).1.2.1
  have l3 : a2 ≤ (f a2).2.1 := (hf a2 p2).1.2.2.1
  generalize e3 : (f a2).2.1 = a3 at p3 l3
  have p4 : (f a3).2.1 ≤ n := (hf a3 p3).1.2.1
  have l4 : a3 ≤ (f a3).2.1 := (hf a3 p3).1.2.2.1
  generalize e4 : (f a3).2.1 = a4 at p4 l4
  have p5 : (f a4).2.1 ≤ n := (hf a4 p4).1.2.1
  have l5 : a4 ≤ (f a4).2.1 := (hf a4 p4).1.2.2.1
  have q1 : (f a1).1 ≤ n := (hf a1 p1).1.1
  have q2 : (f a2).1 ≤ n := (hf a2 p2).1.1
  have q3 : (f a3).1 ≤ n := (hf a3 p3).1.1
  have q4 : (f a4).1 ≤ n := (hf a4 p4).1.1
  by_cases c1 : NumOk f 1 60 a1
  · by_cases c2 : NumOk f 1 60 a2
    · by_cases c3 : NumOk f 0 99 a3
      · by_cases c4 : Stop f a4
        · right
          refine ⟨(f a4).2.1, incr (setv (setv (setv D 2 (D.1 1) (f a1).2.2.2) 3 (D.1 1) (f a2).2.2.2) 4 (D.1 1) (f a3).2.2.2) 1, ⟨by omega, p5⟩, DW_o hW hm6 c1.2 c2.2 c3.2.2, fun S t post hT hD h2 h3 hpost => ?_, fun R K post y1 hX hpost => ?_⟩
          · rw [hk, hv]
            rw [e1] at h3
            refine c_head (by decide) hD (DW_6 hW (by decide)) (fun w => absurd hm w) (fun _ => ⟨0 + 1 + 1 + 1 + 1, ?_⟩)
            refine q53_ok (h := 1) (i := 0) hf hT hD h3 p1 (by decide) (by decide) hm6 c1 (fun S1 b1 b2 b3 b4 => ?_)
            rw [e2] at b4
            refine q53_ok (h := 1) (i := 1) hf b2 b3 b4 p2 (by decide) (by decide) hm6 c2 (fun S2 d1 d2 d3 d4 => ?_)
            rw [e3] at d4
            refine q53_ok (h := 1) (i := 2) hf d2 d3 d4 p3 (by decide) (by decide) hm6 c3 (fun S3 g1 g2 g3 g4 => ?_)
            rw [e4] at g4
            exact q53_end (h := 1) hf g2 g3 g4 p4 (by decide) (fun _ S4 j1 j2 j3 j4 => hpost S4 (((b1.tr d1).tr g1).tr j1) j2 j3 j4) (fun w => absurd c4 w)
          · refine ritem_1 (h := 1) hf hp hW hX (by decide) hk hv hm (fun R1 b1 b2 => ?_)
            rw [e1] at b2
            refine reads_o hf p1 b2 hm6 hn (fun w => absurd c1 w) (fun _ w => absurd (by rw [e2]; exact c2) w) (fun _ _ w => absurd (by rw [e2, e3]; exact c3) w) (fun _ _ _ R2 d1 d2 => ?_)
            rw [e2, e3, e4] at d2
            exact y76_ok hf p4 d2 c4 (fun R3 g1 g2 => hpost R3 ((b1.tr d1).tr g1) g2)
        · left
          refine ⟨(f a4).1, q4, fun S t post hT hD h2 h3 hpost => ?_, fun R K post y1 hX hpost => ?_⟩
          · rw [hk, hv]
            rw [e1] at h3
            refine c_head (by decide) hD (DW_6 hW (by decide)) (fun w => absurd hm w) (fun _ => ⟨0 + 1 + 1 + 1 + 1, ?_⟩)
            refine q53_ok (h := 1) (i := 0) hf hT hD h3 p1 (by decide) (by decide) hm6 c1 (fun S1 b1 b2 b3 b4 => ?_)
            rw [e2] at b4
            refine q53_ok (h := 1) (i := 1) hf b2 b3 b4 p2 (by decide) (by decide) hm6 c2 (fun S2 d1 d2 d3 d4 => ?_)
            rw [e3] at d4
            refine q53_ok (h := 1) (i := 2) hf d2 d3 d4 p3 (by decide) (by decide) hm6 c3 (fun S3 g1 g2 g3 g4 => ?_)
            rw [e4] at g4
            exact q53_end (h := 1) hf g2 g3 g4 p4 (by decide) (fun w => absurd w c4) (fun _ S4 j1 j2 => hpost S4 (((b1.tr d1).tr g1).tr j1) j2)
          · refine ritem_1 (h := 1) hf hp hW hX (by decide) hk hv hm (fun R1 b1 b2 => ?_)
            rw [e1] at b2
            refine reads_o hf p1 b2 hm6 hn (fun w => absurd c1 w) (fun _ w => absurd (by rw [e2]; exact c2) w) (fun _ _ w => absurd (by rw [e2, e3]; exact c3) w) (fun _ _ _ R2 d1 d2 => ?_)
            rw [e2, e3, e4] at d2
            exact y76_no d2 c4 (fun R3 x g1 g2 => hpost R3 x ((b1.tr d1).tr g1) g2)
      · left
        refine ⟨(f a3).1, q3, fun S t post hT hD h2 h3 hpost => ?_, fun R K post y1 hX hpost => ?_⟩
        · rw [hk, hv]
          rw [e1] at h3
          refine c_head (by decide) hD (DW_6 hW (by decide)) (fun w => absurd hm w) (fun _ => ⟨0 + 1 + 1 + 1, ?_⟩)
          refine q53_ok (h := 1) (i := 0) hf hT hD h3 p1 (by decide) (by decide) hm6 c1 (fun S1 b1 b2 b3 b4 => ?_)
          rw [e2] at b4
          refine q53_ok (h := 1) (i := 1) hf b2 b3 b4 p2 (by decide) (by decide) hm6 c2 (fun S2 d1 d2 d3 d4 => ?_)
          rw [e3] at d4
          exact q53_bad (h := 1) (i := 2) hf d2 d4 p3 (by decide) (by decide) hm6 c3 (fun S3 g1 g2 => hpost S3 ((b1.tr d1).tr (g1.mono (fun c j w => w.1))) g2)
        · refine ritem_1 (h := 1) hf hp hW hX (by decide) hk hv hm (fun R1 b1 b2 => ?_)
          rw [e1] at b2
          refine reads_o hf p1 b2 hm6 hn (fun w => absurd c1 w) (fun _ w => absurd (by rw [e2]; exact c2) w) (fun _ _ _ R2 d1 d2 => ?_) (fun _ _ w => absurd (by rw [e2, e3] at w; exact w) c3)
          rw [e2, e3] at d2
          exact y76_ill d2 (by omega) (fun x => hpost R2 x (b1.tr d1) d2)
    · left
      refine ⟨(f a2).1, q2, fun S t post hT hD h2 h3 hpost => ?_, fun R K post y1 hX hpost => ?_⟩
      · rw [hk, hv]
        rw [e1] at h3
        refine c_head (by decide) hD (DW_6 hW (by decide)) (fun w => absurd hm w) (fun _ => ⟨0 + 1 + 1, ?_⟩)
        refine q53_ok (h := 1) (i := 0) hf hT hD h3 p1 (by decide) (by decide) hm6 c1 (fun S1 b1 b2 b3 b4 => ?_)
        rw [e2] at b4
        exact q53_bad (h := 1) (i := 1) hf b2 b4 p2 (by decide) (by decide) hm6 c2 (fun S2 d1 d2 => hpost S2 (b1.tr (d1.mono (fun c j w => w.1))) d2)
      · refine ritem_1 (h := 1) hf hp hW hX (by decide) hk hv hm (fun R1 b1 b2 => ?_)
        rw [e1] at b2
        refine reads_o hf p1 b2 hm6 hn (fun w => absurd c1 w) (fun _ _ R2 d1 d2 => ?_) (fun _ w => absurd (by rw [e2] at w; exact w) c2) (fun _ w => absurd (by rw [e2] at w; exact w) c2)
        rw [e2] at d2
        exact y76_ill d2 (by omega) (fun x => hpost R2 x (b1.tr d1) d2)
  · left
    refine ⟨(f a1).1, q1, fun S t post hT hD h2 h3 hpost => ?_, fun R K post y1 hX hpost => ?_⟩
    · rw [hk, hv]
      rw [e1] at h3
      refine c_head (by decide) hD (DW_6 hW (by decide)) (fun w => absurd hm w) (fun _ => ⟨0 + 1, ?_⟩)
      exact q53_bad (h := 1) (i := 0) hf hT h3 p1 (by decide) (by decide) hm6 c1 (fun S2 d1 d2 => hpost S2 (d1.mono (fun c j w => w.1)) d2)
    · refine ritem_1 (h := 1) hf hp hW hX (by decide) hk hv hm (fun R1 b1 b2 => ?_)
      rw [e1] at b2
      exact reads_o hf p1 b2 hm6 hn (fun _ R2 d1 d2 => y76_ill d2 (by omega) (fun x => hpost R2 x (b1.tr d1) d2)) (fun w => absurd w c1) (fun w => absurd w c1) (fun w => absurd w c1)
theorem X_d : ∀ h, 2 ≤ h → h < 6 → MAX h = 1 ∧ NUM h = 1 ∧ FST h = 3 + h := by
  intro h a b
  rcases (show h = 2 ∨ h = 3 ∨ h = 4 ∨ h = 5 by omega) with rfl | rfl | rfl | rfl <;> decide
theorem item_x {T : Nat → Nat} {n p h : Nat} {f : TFt} {D : DS} (hf : TF T n f) (hn : n ≤ 200) (hp : p ≤ n) (hW : DW D) (h2' : 2 ≤ h) (h6' : h < 6) (hk : (f p).2.2.1 = 1) (hv : (f p).2.2.2 = HL h) (hm : D.1 h < MAX h) : (∃ q, IBad T n f D p q) ∨ ∃ p2 D2, IGood T n f D p p2 D2 := by
  obtain ⟨x1, x2, x3⟩ := X_d h h2' h6'
  have hm0 : D.1 h = 0 := by omega
  have k0 : (f p).2.2.1 ≠ 0 := by omega
  have p1 : (f p).2.1 ≤ n := (hf p hp).1.2.1
  have l1 : p < (f p).2.1 := (hf p hp).1.2.2.2.1 k0
  generalize e1 : (f p).2.1 = a1 at p1 l1
  have p2 : (f a1).2.1 ≤ n := (hf a1 p1).1.2.1
  have l2 : a1 ≤ (f a1).2.1 := (hf a1 p1).1.2.2.1
  generalize e2 : (f a1).2.1 = a2 at p2 l2
  have p3 : (f a2).2.1 ≤ n := (hf a2 p2).1.2.1
  have l3 : a2 ≤ (f a2).2.1 := (hf a2 p2).1.2.2.1
  have q1 : (f a1).1 ≤ n := (hf a1 p1).1.1
  have q2 : (f a2).1 ≤ n := (hf a2 p2).1.1
  have hfst : FST h + 0 = 3 + h := by omega
  by_cases c1 : NumOk f (LEA (3 + h)) (MOS (3 + h)) a1
  · have okc : ∀ (S : CS) (t m : Nat) (post : Int32 → CS → Prop), CTx S T n → Dcl S t D → S.1 1 3 = nI a1 → (∀ S1 : CS, Fr (Cw t) S S1 → CTx S1 T n → Dcl S1 t (setv D (3 + h) 0 (f a1).2.2.2) → S1.1 1 3 = nI a2 → q_X5_readItem_53 t (ct 1 (HL h)) post (m + 1) (nI h) (nI 0) (nI (NUM h)) S1) → q_X5_readItem_53 t (ct 1 (HL h)) post (m + 1 + 1) (nI h) (nI (D.1 h)) 0 S := by
      intro S t m post hT hD h3 hz
      rw [hm0]
      refine q53_ok (h := h) (i := 0) (it := 0) hf hT hD h3 p1 h6' (by omega) (by decide) (by rw [hfst]; exact c1) (fun S1 b1 b2 b3 b4 => ?_)
      rw [hfst] at b3
      rw [e2] at b4
      have := hz S1 b1 b2 b3 b4
      rw [x2] at this
      exact this
    by_cases c3 : Stop f a2
    · right
      refine ⟨(f a2).2.1, incr (setv D (3 + h) 0 (f a1).2.2.2) h, ⟨by omega, p3⟩, DW_x hW h2' h6' hm0 c1.2, fun S t post hT hD h2 h3 hpost => ?_, fun R K post y1 hX hpost => ?_⟩
      · rw [hk, hv]
        rw [e1] at h3
        refine c_head h6' hD (DW_6 hW h6') (fun w => absurd hm w) (fun _ => ⟨0 + 1 + 1, okc S t 0 post hT hD h3 (fun S1 b1 b2 b3 b4 => ?_)⟩)
        exact q53_end (h := h) hf b2 b3 b4 p2 h6' (fun _ S3 g1 g2 g3 g4 => hpost S3 (b1.tr g1) g2 g3 g4) (fun w => absurd c3 w)
      · refine ritem_1 (h := h) hf hp hW hX h6' hk hv hm (fun R1 b1 b2 => ?_)
        rw [e1] at b2
        refine reads_x hf p1 b2 h2' h6' hm0 hn (fun w => absurd c1 w) (fun _ R2 d1 d2 => ?_)
        rw [e2] at d2
        exact y76_ok hf p2 d2 c3 (fun R3 g1 g2 => hpost R3 ((b1.tr d1).tr g1) g2)
    · left
      refine ⟨(f a2).1, q2, fun S t post hT hD h2 h3 hpost => ?_, fun R K post y1 hX hpost => ?_⟩
      · rw [hk, hv]
        rw [e1] at h3
        refine c_head h6' hD (DW_6 hW h6') (fun w => absurd hm w) (fun _ => ⟨0 + 1 + 1, okc S t 0 post hT hD h3 (fun S1 b1 b2 b3 b4 => ?_)⟩)
        exact q53_end (h := h) hf b2 b3 b4 p2 h6' (fun w => absurd w c3) (fun _ S3 g1 g2 => hpost S3 (b1.tr g1) g2)
      · refine ritem_1 (h := h) hf hp hW hX h6' hk hv hm (fun R1 b1 b2 => ?_)
        rw [e1] at b2
        refine reads_x hf p1 b2 h2' h6' hm0 hn (fun w => absurd c1 w) (fun _ R2 d1 d2 => ?_)
        rw [e2] at d2
        exact y76_no d2 c3 (fun R3 x g1 g2 => hpost R3 x ((b1.tr d1).tr g1) g2)
  · left
    refine ⟨(f a1).1, q1, fun S t post hT hD h2 h3 hpost => ?_, fun R K post y1 hX hpost => ?_⟩
    · rw [hk, hv]
      rw [e1] at h3
      refine c_head h6' hD (DW_6 hW h6') (fun w => absurd hm w) (fun _ => ⟨0 + 1, ?_⟩)
      exact q53_bad (h := h) (i := 0) hf hT h3 p1 h6' (by omega) (by omega) (by rw [hfst]; exact c1) (fun S2 d1 d2 => hpost S2 (d1.mono (fun c j w => w.1)) d2)
    · refine ritem_1 (h := h) hf hp hW hX h6' hk hv hm (fun R1 b1 b2 => ?_)
      rw [e1] at b2
      exact reads_x hf p1 b2 h2' h6' hm0 hn (fun _ R2 d1 d2 => y76_ill d2 (by omega) (fun x => hpost R2 x (b1.tr d1) d2)) (fun w => absurd w c1)
theorem item_ex {T : Nat → Nat} {n p : Nat} {f : TFt} {D : DS} (hf : TF T n f) (hn : n ≤ 200) (hp : p ≤ n) (hW : DW D) : (∃ q, IBad T n f D p q) ∨ ∃ p2 D2, IGood T n f D p p2 D2 := by
  by_cases hd : (f p).2.2.1 = 1 ∧ ∃ h, h < 6 ∧ HL h = (f p).2.2.2
  · obtain ⟨k1, h, h6, hv⟩ := hd
    by_cases hm : D.1 h < MAX h
    · rcases (show h = 0 ∨ h = 1 ∨ 2 ≤ h by omega) with rfl | rfl | z
      · exact item_w hf hn hp hW k1 hv.symm hm
      · exact item_o hf hn hp hW k1 hv.symm hm
      · exact item_x hf hn hp hW z h6 k1 hv.symm hm
    · exact Or.inl ⟨_, item_full hf hn hp hW h6 k1 hv.symm hm⟩
  · exact Or.inl ⟨_, item_no hf hn hp hd⟩
