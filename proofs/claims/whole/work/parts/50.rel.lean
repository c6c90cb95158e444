/-! the relation between the class's state and the reference's: both hold the numbers d (numbered as the reference's cells) -/
abbrev Dat : Type := Nat → Nat → Nat
def mv (v : Mem) (m j : Nat) : Int32 :=
  if j = 0 then v (mo m) 4 else if j = 1 then v (mo m) 7 else if j = 2 then v (mo m) 2 else if j = 3 then v (mo m) 3 else if j = 4 then v (mo m) 5 else if j = 5 then v (mo m) 6 else if j = 6 then v (bo (m + 1)) 1 else if j < 15 then v (bl (m + 1)) (j - 7) else v (mg m) (j - 15)
theorem mv_congr {v v' : Mem} {m j : Nat} (h1 : ∀ i, v' (mo m) i = v (mo m) i) (h2 : ∀ i, v' (bo (m + 1)) i = v (bo (m + 1)) i) (h3 : ∀ i, v' (bl (m + 1)) i = v (bl (m + 1)) i) (h4 : ∀ i, v' (mg m) i = v (mg m) i) : mv v' m j = mv v m j := by
  unfold mv
  rw [h1, h1, h1, h1, h1, h1, h2, h3, h4]
/-- bounds of a moment's numbers behind k calls, P parts -/
def VB (k P : Nat) (f : Nat → Nat) : Prop := f 0 ≤ 9999 ∧ f 1 ≤ 999 ∧ f 2 ≤ 200 * k ∧ f 3 ≤ 200 * k ∧ f 4 ≤ 200 * k ∧ f 5 < 64 ∧ f 6 < 8 ∧ (∀ i, i < 8 → f (7 + i) ≤ 15) ∧ ∀ i, i < P → f (15 + i) ≤ 40
theorem VB.up {k k' P : Nat} {f : Nat → Nat} (h : VB k P f) (hk : k ≤ k') : VB k' P f := by
  obtain ⟨h0, h1, h2, h3, h4, h5, h6, h7, h8⟩ := h
  exact ⟨h0, h1, by omega, by omega, by omega, h5, h6, h7, h8⟩
theorem VB.cg {k P : Nat} {f g : Nat → Nat} (h : VB k P f) (e : ∀ j, j < 15 + P → g j = f j) : VB k P g := by
  obtain ⟨h0, h1, h2, h3, h4, h5, h6, h7, h8⟩ := h
  refine ⟨by rw [e 0 (by omega)]; exact h0, by rw [e 1 (by omega)]; exact h1, by rw [e 2 (by omega)]; exact h2, by rw [e 3 (by omega)]; exact h3, by rw [e 4 (by omega)]; exact h4, by rw [e 5 (by omega)]; exact h5, by rw [e 6 (by omega)]; exact h6, fun i hi => by rw [e (7 + i) (by omega)]; exact h7 i hi, fun i hi => by rw [e (15 + i) (by omega)]; exact h8 i hi⟩
-- the numbers' own bounds
def WT (d : Dat) : Prop := d 0 3 ≤ 200 ∧ ∀ i, i < d 0 3 → d 1 i < 256
def WD (d : Dat) : Prop := d 2 0 ≤ 6 ∧ d 2 1 ≤ 6 ∧ (3 ≤ d 2 2 ∧ d 2 2 ≤ 15) ∧ (1 ≤ d 2 3 ∧ d 2 3 ≤ 20) ∧ (1 ≤ d 2 4 ∧ d 2 4 ≤ 20) ∧ (1 ≤ d 2 5 ∧ d 2 5 ≤ 15) ∧ (∀ i, i < d 2 0 → 1 ≤ d 3 i ∧ d 3 i ≤ 9) ∧ ∀ i, i < d 2 1 → (1 ≤ d 5 i ∧ d 5 i ≤ 60) ∧ (1 ≤ d 6 i ∧ d 6 i ≤ 60) ∧ d 7 i ≤ 99
def WN (k : Nat) (d : Dat) : Prop := VB k (d 2 0) (d 8)
def WU (k : Nat) (d : Dat) : Prop := d 0 21 ≤ 10 ∧ ∀ j, j < d 0 21 → VB k (d 2 0) (fun i => d 12 (21 * j + i))
def WI (k : Nat) (d : Dat) : Prop := ∀ i, i < 2 → d 11 i ≤ 1 ∧ (d 11 i = 1 → VB k (d 2 0) (fun j => d 10 (21 * i + j)))
def WE (d : Dat) : Prop := d 0 25 ≤ 5 ∧ ∀ i, i < d 0 25 → d 13 i ≤ 40 ∧ d 14 i < 8 ∧ d 15 i ≤ 15
def WF (k : Nat) (d : Dat) : Prop := WT d ∧ WD d ∧ WN k d ∧ WU k d ∧ WI k d ∧ WE d
-- the reference
def RT (d : Dat) (w : Mem) : Prop := w 0 3 = nI (d 0 3) ∧ ∀ i, i < d 0 3 → w 1 i = nI (d 1 i)
def RD (d : Dat) (w : Mem) : Prop := (∀ i, i < 6 → w 2 i = nI (d 2 i)) ∧ (∀ i, i < d 2 0 → w 3 i = nI (d 3 i)) ∧ ∀ i, i < d 2 1 → w 5 i = nI (d 5 i) ∧ w 6 i = nI (d 6 i) ∧ w 7 i = nI (d 7 i)
def RN (d : Dat) (w : Mem) : Prop := ∀ j, j < 15 + d 2 0 → w 8 j = nI (d 8 j)
def RU (d : Dat) (w : Mem) : Prop := w 0 21 = nI (d 0 21) ∧ ∀ j, j < d 0 21 → ∀ i, i < 15 + d 2 0 → w 12 (21 * j + i) = nI (d 12 (21 * j + i))
def RI (d : Dat) (w : Mem) : Prop := ∀ i, i < 2 → w 11 i = nI (d 11 i) ∧ (d 11 i = 1 → ∀ j, j < 15 + d 2 0 → w 10 (21 * i + j) = nI (d 10 (21 * i + j)))
def RE (d : Dat) (w : Mem) : Prop := w 0 25 = nI (d 0 25) ∧ ∀ i, i < d 0 25 → w 13 i = nI (d 13 i) ∧ w 14 i = nI (d 14 i) ∧ w 15 i = nI (d 15 i)
def RR (d : Dat) (w : Mem) : Prop := RT d w ∧ RD d w ∧ RN d w ∧ RU d w ∧ RI d w ∧ RE d w
-- the class
def CT (d : Dat) (v : Mem) : Prop := v 1 1 = nI (d 0 3) ∧ ∀ i, i < d 0 3 → v 2 i = nI (d 1 i)
def CD (d : Dat) (t : Nat) (v : Mem) : Prop := v (tm t) 0 = nI (d 2 0) ∧ v (tm t) 1 = nI (d 2 1) ∧ v (tv t) 30 = nI (d 2 2) ∧ v (tv t) 36 = nI (d 2 3) ∧ v (tv t) 42 = nI (d 2 4) ∧ v (tv t) 48 = nI (d 2 5) ∧ (∀ i, i < d 2 0 → v (tv t) i = nI (d 3 i)) ∧ ∀ i, i < d 2 1 → v (tv t) (12 + i) = nI (d 5 i) ∧ v (tv t) (18 + i) = nI (d 6 i) ∧ v (tv t) (24 + i) = nI (d 7 i)
def CN (d : Dat) (v : Mem) : Prop := ∀ j, j < 15 + d 2 0 → mv v 0 j = nI (d 8 j)
def CU (d : Dat) (pn : Nat) (v : Mem) : Prop := pn < 10 ∧ v 0 5 = nI (d 0 21) ∧ v 0 6 = nI pn ∧ ∀ j, j < d 0 21 → ∀ i, i < 15 + d 2 0 → mv v (1 + (pn + 10 - d 0 21 + j) % 10) i = nI (d 12 (21 * j + i))
def CI (d : Dat) (v : Mem) : Prop := ∀ i, i < 2 → v 13 i = nI (d 11 i) ∧ (d 11 i = 1 → ∀ j, j < 15 + d 2 0 → mv v (11 + i) j = nI (d 10 (21 * i + j)))
def CE (d : Dat) (v : Mem) : Prop := v 0 12 = nI (d 0 25) ∧ ∀ i, i < d 0 25 → v 14 i = nI (d 13 i) ∧ v 15 i = nI (d 14 i) ∧ v 16 i = nI (d 15 i)
def CC (d : Dat) (t pn : Nat) (v : Mem) : Prop := CT d v ∧ CD d t v ∧ CN d v ∧ CU d pn v ∧ CI d v ∧ CE d v
def Rel (k : Nat) (S R : CS) : Prop := ∃ (d : Dat) (t pn : Nat), WF k d ∧ (t < 2 ∧ S.2.1 = t ∧ S.2.2.1 = 1 - t ∧ S.1 20 0 = 0) ∧ CC d t pn S.1 ∧ RR d R.1 ∧ S.2.2.2 = R.2.2.2
theorem WF.up {k k' : Nat} {d : Dat} (h : WF k d) (hk : k ≤ k') : WF k' d := by
  obtain ⟨h1, h2, h3, h4, h5, h6⟩ := h
  exact ⟨h1, h2, VB.up h3 hk, ⟨h4.1, fun j hj => (h4.2 j hj).up hk⟩, fun i hi => ⟨(h5 i hi).1, fun h => ((h5 i hi).2 h).up hk⟩, h6⟩
theorem Rel.up {k : Nat} {S R : CS} (h : Rel k S R) : Rel (k + 1) S R := by
  obtain ⟨d, t, pn, h1, h2⟩ := h
  exact ⟨d, t, pn, h1.up (Nat.le_succ k), h2⟩
/-! frames -/
theorem CT.keep {d d' : Dat} {v v' : Mem} (h : CT d v) (e0 : d' 0 3 = d 0 3) (e1 : ∀ i, d' 1 i = d 1 i) (hv1 : v' 1 1 = v 1 1) (hv2 : ∀ i, v' 2 i = v 2 i) : CT d' v' := by
  refine ⟨by rw [hv1, e0]; exact h.1, fun i hi => ?_⟩
  rw [e0] at hi
  rw [hv2, e1]
  exact h.2 i hi
theorem CD.keep {d d' : Dat} {t : Nat} {v v' : Mem} (h : CD d t v) (e2 : ∀ i, d' 2 i = d 2 i) (e3 : ∀ i, d' 3 i = d 3 i) (e5 : ∀ i, d' 5 i = d 5 i) (e6 : ∀ i, d' 6 i = d 6 i) (e7 : ∀ i, d' 7 i = d 7 i) (hv1 : ∀ i, v' (tm t) i = v (tm t) i) (hv2 : ∀ i, v' (tv t) i = v (tv t) i) : CD d' t v' := by
  obtain ⟨h1, h2, h3, h4, h5, h6, h7, h8⟩ := h
  refine ⟨by rw [hv1, e2]; exact h1, by rw [hv1, e2]; exact h2, by rw [hv2, e2]; exact h3, by rw [hv2, e2]; exact h4, by rw [hv2, e2]; exact h5, by rw [hv2, e2]; exact h6, fun i hi => ?_, fun i hi => ?_⟩
  · rw [e2] at hi
    rw [hv2, e3]
    exact h7 i hi
  · rw [e2] at hi
    rw [hv2, hv2, hv2, e5, e6, e7]
    exact h8 i hi
theorem CN.keep {d d' : Dat} {v v' : Mem} (h : CN d v) (e2 : d' 2 0 = d 2 0) (e8 : ∀ i, d' 8 i = d 8 i) (hv : ∀ j, mv v' 0 j = mv v 0 j) : CN d' v' := by
  intro j hj
  rw [e2] at hj
  rw [hv, e8]
  exact h j hj
theorem CU.keep {d d' : Dat} {pn : Nat} {v v' : Mem} (h : CU d pn v) (e0 : d' 0 21 = d 0 21) (e2 : d' 2 0 = d 2 0) (e12 : ∀ i, d' 12 i = d 12 i) (hv5 : v' 0 5 = v 0 5) (hv6 : v' 0 6 = v 0 6) (hv : ∀ m j, 1 ≤ m → m < 11 → mv v' m j = mv v m j) : CU d' pn v' := by
  obtain ⟨h1, h2, h3, h4⟩ := h
  refine ⟨h1, by rw [hv5, e0]; exact h2, by rw [hv6]; exact h3, fun j hj i hi => ?_⟩
  rw [e0] at hj ⊢
  rw [e2] at hi
  rw [hv _ _ (by omega) (by omega), e12]
  exact h4 j hj i hi
theorem CI.keep {d d' : Dat} {v v' : Mem} (h : CI d v) (e2 : d' 2 0 = d 2 0) (e10 : ∀ i, d' 10 i = d 10 i) (e11 : ∀ i, d' 11 i = d 11 i) (hv13 : ∀ i, v' 13 i = v 13 i) (hv : ∀ m j, 11 ≤ m → m < 13 → mv v' m j = mv v m j) : CI d' v' := by
  intro i hi
  obtain ⟨h1, h2⟩ := h i hi
  refine ⟨by rw [hv13, e11]; exact h1, fun he j hj => ?_⟩
  rw [e11] at he
  rw [e2] at hj
  rw [hv _ _ (by omega) (by omega), e10]
  exact h2 he j hj
theorem CE.keep {d d' : Dat} {v v' : Mem} (h : CE d v) (e0 : d' 0 25 = d 0 25) (e13 : ∀ i, d' 13 i = d 13 i) (e14 : ∀ i, d' 14 i = d 14 i) (e15 : ∀ i, d' 15 i = d 15 i) (hv0 : v' 0 12 = v 0 12) (hv14 : ∀ i, v' 14 i = v 14 i) (hv15 : ∀ i, v' 15 i = v 15 i) (hv16 : ∀ i, v' 16 i = v 16 i) : CE d' v' := by
  refine ⟨by rw [hv0, e0]; exact h.1, fun i hi => ?_⟩
  rw [e0] at hi
  rw [hv14, hv15, hv16, e13, e14, e15]
  exact h.2 i hi
theorem RT.keep {d d' : Dat} {v v' : Mem} (h : RT d v) (e0 : d' 0 3 = d 0 3) (e1 : ∀ i, d' 1 i = d 1 i) (hv1 : v' 0 3 = v 0 3) (hv2 : ∀ i, v' 1 i = v 1 i) : RT d' v' := by
  refine ⟨by rw [hv1, e0]; exact h.1, fun i hi => ?_⟩
  rw [e0] at hi
  rw [hv2, e1]
  exact h.2 i hi
theorem RD.keep {d d' : Dat} {v v' : Mem} (h : RD d v) (e2 : ∀ i, d' 2 i = d 2 i) (e3 : ∀ i, d' 3 i = d 3 i) (e5 : ∀ i, d' 5 i = d 5 i) (e6 : ∀ i, d' 6 i = d 6 i) (e7 : ∀ i, d' 7 i = d 7 i) (hv2 : ∀ i, i < 6 → v' 2 i = v 2 i) (hv3 : ∀ i, i < 6 → v' 3 i = v 3 i) (hv5 : ∀ i, i < 6 → v' 5 i = v 5 i) (hv6 : ∀ i, i < 6 → v' 6 i = v 6 i) (hv7 : ∀ i, i < 6 → v' 7 i = v 7 i) (hP : d 2 0 ≤ 6) (hO : d 2 1 ≤ 6) : RD d' v' := by
  obtain ⟨h1, h2, h3⟩ := h
  refine ⟨fun i hi => by rw [hv2 i hi, e2]; exact h1 i hi, fun i hi => ?_, fun i hi => ?_⟩
  · rw [e2] at hi
    rw [hv3 i (by omega), e3]
    exact h2 i hi
  · rw [e2] at hi
    rw [hv5 i (by omega), hv6 i (by omega), hv7 i (by omega), e5, e6, e7]
    exact h3 i hi
theorem RN.keep {d d' : Dat} {v v' : Mem} (h : RN d v) (e2 : d' 2 0 = d 2 0) (e8 : ∀ i, d' 8 i = d 8 i) (hv : ∀ j, v' 8 j = v 8 j) : RN d' v' := by
  intro j hj
  rw [e2] at hj
  rw [hv, e8]
  exact h j hj
theorem RU.keep {d d' : Dat} {v v' : Mem} (h : RU d v) (e0 : d' 0 21 = d 0 21) (e2 : d' 2 0 = d 2 0) (e12 : ∀ i, d' 12 i = d 12 i) (hv0 : v' 0 21 = v 0 21) (hv : ∀ j, v' 12 j = v 12 j) : RU d' v' := by
  refine ⟨by rw [hv0, e0]; exact h.1, fun j hj i hi => ?_⟩
  rw [e0] at hj
  rw [e2] at hi
  rw [hv, e12]
  exact h.2 j hj i hi
theorem RI.keep {d d' : Dat} {v v' : Mem} (h : RI d v) (e2 : d' 2 0 = d 2 0) (e10 : ∀ i, d' 10 i = d 10 i) (e11 : ∀ i, d' 11 i = d 11 i) (hv11 : ∀ i, v' 11 i = v 11 i) (hv : ∀ j, v' 10 j = v 10 j) : RI d' v' := by
  intro i hi
  obtain ⟨h1, h2⟩ := h i hi
  refine ⟨by rw [hv11, e11]; exact h1, fun he j hj => ?_⟩
  rw [e11] at he
  rw [e2] at hj
  rw [hv, e10]
  exact h2 he j hj
theorem RE.keep {d d' : Dat} {v v' : Mem} (h : RE d v) (e0 : d' 0 25 = d 0 25) (e13 : ∀ i, d' 13 i = d 13 i) (e14 : ∀ i, d' 14 i = d 14 i) (e15 : ∀ i, d' 15 i = d 15 i) (hv0 : v' 0 25 = v 0 25) (hv13 : ∀ i, v' 13 i = v 13 i) (hv14 : ∀ i, v' 14 i = v 14 i) (hv15 : ∀ i, v' 15 i = v 15 i) : RE d' v' := by
  refine ⟨by rw [hv0, e0]; exact h.1, fun i hi => ?_⟩
  rw [e0] at hi
  rw [hv13, hv14, hv15, e13, e14, e15]
  exact h.2 i hi
/-- what the class's asking methods may change: the planner, the besom for trials -/
def CSm (S S1 : CS) : Prop := (∀ c j, ((c < 17 ∨ 23 ≤ c) ∨ (c = 20 ∧ j = 0)) → S1.1 c j = S.1 c j) ∧ S1.2 = S.2
/-- and the reference's: 'thrown', its copy of now, its rows -/
def RSm (R R1 : CS) : Prop := (∀ c j, c ≠ 0 → c ≠ 9 → c ≠ 16 → c ≠ 17 → R1.1 c j = R.1 c j) ∧ (∀ j, j ≠ 0 → R1.1 0 j = R.1 0 j) ∧ R1.2 = R.2
theorem CSm.rf (S : CS) : CSm S S := ⟨fun _ _ _ => rfl, rfl⟩
theorem RSm.rf (R : CS) : RSm R R := ⟨fun _ _ _ _ _ _ => rfl, fun _ _ => rfl, rfl⟩
theorem RSm.thr (R : CS) (x : Int32) : RSm R (sti R 0 0 x) := by
  refine ⟨fun c j h _ _ _ => ?_, fun j hj => ?_, rfl⟩
  · rw [sti_1, if_neg (fun q => h q.1)]
  · rw [sti_1, if_neg (fun q => hj q.2)]
theorem mo_ge (m : Nat) : 49 ≤ mo m := by unfold mo; omega
theorem CC.sm {d : Dat} {t pn : Nat} {S S1 : CS} (ht : t < 2) (h : CC d t pn S.1) (e : CSm S S1) : CC d t pn S1.1 := by
  obtain ⟨h1, h2, h3, h4, h5, h6⟩ := h
  obtain ⟨e0, -⟩ := e
  have e1 : ∀ c j, c < 17 ∨ 23 ≤ c → S1.1 c j = S.1 c j := fun c j h => e0 c j (Or.inl h)
  have hm : ∀ m j, mv S1.1 m j = mv S.1 m j := fun m j => mv_congr (fun i => e1 _ i (Or.inr (by unfold mo; omega))) (fun i => e1 _ i (Or.inr (by unfold bo; omega))) (fun i => e1 _ i (Or.inr (by unfold bl; omega))) (fun i => e1 _ i (Or.inr (by unfold mg; omega)))
  exact ⟨h1.keep rfl (fun _ => rfl) (e1 _ _ (Or.inl (by decide))) (fun _ => e1 _ _ (Or.inl (by decide))), h2.keep (fun _ => rfl) (fun _ => rfl) (fun _ => rfl) (fun _ => rfl) (fun _ => rfl) (fun _ => e1 _ _ (Or.inl (by unfold tm; omega))) (fun _ => e1 _ _ (Or.inl (by unfold tv; omega))), h3.keep rfl (fun _ => rfl) (hm 0), h4.keep rfl rfl (fun _ => rfl) (e1 _ _ (Or.inl (by decide))) (e1 _ _ (Or.inl (by decide))) (fun m j _ _ => hm m j), h5.keep rfl (fun _ => rfl) (fun _ => rfl) (fun _ => e1 _ _ (Or.inl (by decide))) (fun m j _ _ => hm m j), h6.keep rfl (fun _ => rfl) (fun _ => rfl) (fun _ => rfl) (e1 _ _ (Or.inl (by decide))) (fun _ => e1 _ _ (Or.inl (by decide))) (fun _ => e1 _ _ (Or.inl (by decide))) (fun _ => e1 _ _ (Or.inl (by decide)))⟩
theorem RR.sm {d : Dat} {R R1 : CS} (hP : d 2 0 ≤ 6) (hO : d 2 1 ≤ 6) (h : RR d R.1) (e : RSm R R1) : RR d R1.1 := by
  obtain ⟨h1, h2, h3, h4, h5, h6⟩ := h
  obtain ⟨e1, e2, -⟩ := e
  have q : ∀ c j, c ≠ 0 ∧ c ≠ 9 ∧ c ≠ 16 ∧ c ≠ 17 → R1.1 c j = R.1 c j := fun c j h => e1 c j h.1 h.2.1 h.2.2.1 h.2.2.2
  exact ⟨h1.keep rfl (fun _ => rfl) (e2 3 (by decide)) (fun _ => q _ _ (by decide)), h2.keep (fun _ => rfl) (fun _ => rfl) (fun _ => rfl) (fun _ => rfl) (fun _ => rfl) (fun _ _ => q _ _ (by decide)) (fun _ _ => q _ _ (by decide)) (fun _ _ => q _ _ (by decide)) (fun _ _ => q _ _ (by decide)) (fun _ _ => q _ _ (by decide)) hP hO, h3.keep rfl (fun _ => rfl) (fun _ => q _ _ (by decide)), h4.keep rfl rfl (fun _ => rfl) (e2 21 (by decide)) (fun _ => q _ _ (by decide)), h5.keep rfl (fun _ => rfl) (fun _ => rfl) (fun _ => q _ _ (by decide)) (fun _ => q _ _ (by decide)), h6.keep rfl (fun _ => rfl) (fun _ => rfl) (fun _ => rfl) (e2 25 (by decide)) (fun _ => q _ _ (by decide)) (fun _ => q _ _ (by decide)) (fun _ => q _ _ (by decide))⟩
/-- nothing that counts has changed on either side -/
theorem Rel.sm {k : Nat} {d : Dat} {t pn : Nat} {S R S1 R1 : CS} (h1 : WF k d) (h2 : t < 2 ∧ S.2.1 = t ∧ S.2.2.1 = 1 - t ∧ S.1 20 0 = 0) (h3 : CC d t pn S.1) (h4 : RR d R.1) (h5 : S.2.2.2 = R.2.2.2) (eS : CSm S S1) (eR : RSm R R1) : Rel (k + 1) S1 R1 :=
  ⟨d, t, pn, h1.up (Nat.le_succ k), by rw [eS.2, eS.1 20 0 (Or.inr ⟨rfl, rfl⟩)]; exact h2, h3.sm h2.1 eS, h4.sm h1.2.1.1 h1.2.1.2.1 eR, by rw [eS.2, eR.2.2]; exact h5⟩
