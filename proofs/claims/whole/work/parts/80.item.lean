/-! heads, numbers: class -/
theorem ch_dec : ∀ a, a < 256 → ((nI a).toUInt32 % 65536).toInt32 = nI a := by decide +kernel
theorem ix_dec : ∀ a, a < 256 → ∀ i, i < 6 → ((([119, 111, 114, 116, 112, 108] : List Int32).getD i 0) = (nI a).toInt8.toInt32 ↔ (([119, 111, 114, 116, 112, 108] : List Nat).getD i 0) = a) := by decide +kernel
def HL (i : Nat) : Nat := ([119, 111, 114, 116, 112, 108] : List Nat).getD i 0
theorem HL_dec : ∀ i, i < 6 → ∀ j, j < i → ¬ HL j = HL i := by decide +kernel
theorem ixloop_y {S : CS} {a h : Nat} {post : Int32 → CS → Prop} (ha : a < 256) (hh : h ≤ 6) (hn : ∀ j, j < h → ¬ HL j = a) (hp : h < 6 → HL h = a ∧ post (nI h) S) (h6 : h = 6 → post (-1) S) : ∃ n, q_J1_indexOfChar_4cfef_7 (nI a) 0 6 post n ((nI a).toInt8.toInt32) 0 S := by
  refine loop_0 (σ := CS) (fun m j S1 => q_J1_indexOfChar_4cfef_7 (nI a) 0 6 post m ((nI a).toInt8.toInt32) (nI j) S1) (fun j S1 => S1 = S) h S rfl (fun m S1 hI => ?_) (fun m j S1 hj hI ih => ?_)
  · rw [q_J1_indexOfChar_4cfef_7, hI, nI_clamp (by omega)]
    rcases Nat.lt_or_ge h 6 with z | z
    · exact br_f (nI_ge (b := 6) z (by decide)) ⟨vp_in_nI z (by decide), br_t ((ix_dec a ha h z).mpr (hp z).1) (hp z).2⟩
    · have e : h = 6 := by omega
      subst e
      exact br_t (show (6 : Int32) ≤ nI 6 by decide) (h6 rfl)
  · rw [q_J1_indexOfChar_4cfef_7, hI, nI_clamp (by omega)]
    refine br_f (nI_ge (b := 6) (by omega) (by decide)) ⟨vp_in_nI (by omega) (by decide), br_f (fun w => hn j hj ((ix_dec a ha j (by omega)).mp w)) ?_⟩
    intro x ex
    rw [ex, nI_1]
    exact ih S rfl
theorem index_y {S : CS} {a h : Nat} {post : Int32 → CS → Prop} (ha : a < 256) (hh : h ≤ 6) (hn : ∀ j, j < h → ¬ HL j = a) (hp : h < 6 → HL h = a ∧ post (nI h) S) (h6 : h = 6 → post (-1) S) : p_J0_indexOf_0f7a4 S (((nI a).toUInt32 % 65536).toInt32) post := by
  rw [ch_dec a ha]
  unfold p_J0_indexOf_0f7a4 p_J0_indexOf_7cf53 p_J0_isLatin1_aae02 p_J0_length_8abf5 p_J0_coder_7d493
  refine c01 ?_
  unfold p_J1_indexOf_4cfef p_J1_canEncode_9a6ad
  refine br_f (nI_pos (by omega)) (br_f (nI_nlt (a := 255) (by omega) (by decide)) (c01 ?_))
  intro x2 ex2 x3 ex3
  rw [show x2 = 0 by rw [ex2]; decide, show x3 = 6 by rw [ex3]; decide]
  refine br_t (by decide) ?_
  unfold p_J1_indexOfChar_4cfef
  intro x4 ex4
  rw [ex4]
  exact ixloop_y ha hh hn hp h6
theorem ct_m1 {k v : Nat} (hv : k = 1 → v < 256) : ct k v = -1 ↔ k = 0 := by
  unfold ct
  by_cases k0 : k = 0
  · rw [if_pos k0]; exact ⟨fun _ => k0, fun _ => rfl⟩
  · rw [if_neg k0]
    by_cases k1 : k = 1
    · rw [if_pos k1]
      exact ⟨fun w => absurd w (m1_ne (by have := hv k1; omega)), fun w => absurd w k0⟩
    · rw [if_neg k1]
      by_cases k2 : k = 2
      · rw [if_pos k2]; exact ⟨fun w => absurd w (by decide), fun w => absurd w k0⟩
      · rw [if_neg k2]; exact ⟨fun w => absurd w (by decide), fun w => absurd w k0⟩
theorem m2_ne : ∀ v, v < 256 → ¬ nI v = (-2 : Int32) := by decide +kernel
theorem ct_m2 {k v : Nat} (hv : k = 1 → v < 256) : ct k v = -2 ↔ k = 2 := by
  unfold ct
  by_cases k0 : k = 0
  · rw [if_pos k0]; exact ⟨fun w => absurd w (by decide), fun w => absurd w (by omega)⟩
  · rw [if_neg k0]
    by_cases k1 : k = 1
    · rw [if_pos k1]
      exact ⟨fun w => absurd w (m2_ne v (hv k1)), fun w => absurd w (by omega)⟩
    · rw [if_neg k1]
      by_cases k2 : k = 2
      · rw [if_pos k2]; exact ⟨fun _ => k2, fun _ => rfl⟩
      · rw [if_neg k2]; exact ⟨fun w => absurd w (by decide), fun w => absurd w k2⟩
theorem ct_59 {k v : Nat} (hv : k = 1 → v < 256) : ct k v = 59 ↔ (k = 1 ∧ v = 59) := by
  unfold ct
  by_cases k0 : k = 0
  · rw [if_pos k0]; exact ⟨fun w => absurd w (by decide), fun w => absurd w.1 (by omega)⟩
  · rw [if_neg k0]
    by_cases k1 : k = 1
    · rw [if_pos k1]
      have := hv k1
      exact ⟨fun w => ⟨k1, (nI_eq (b := 59) (by omega) (by decide)).mp w⟩, fun w => by rw [w.2]; rfl⟩
    · rw [if_neg k1]
      by_cases k2 : k = 2
      · rw [if_pos k2]; exact ⟨fun w => absurd w (by decide), fun w => absurd w.1 k1⟩
      · rw [if_neg k2]; exact ⟨fun w => absurd w (by decide), fun w => absurd w.1 k1⟩
def TF (T : Nat → Nat) (n : Nat) (f : Nat → Nat × Nat × Nat × Nat) : Prop := ∀ p, p ≤ n → TK T n p (f p).1 (f p).2.1 (f p).2.2.1 (f p).2.2.2
theorem tf_ex {T : Nat → Nat} {n : Nat} (hB : TB T n) : ∃ f, TF T n f := by
  have h : ∀ p, ∃ z : Nat × Nat × Nat × Nat, p ≤ n → TK T n p z.1 z.2.1 z.2.2.1 z.2.2.2 := by
    intro p
    by_cases hp : p ≤ n
    · obtain ⟨q, e, k, v, ht⟩ := tok_ex hB hp
      exact ⟨(q, e, k, v), fun _ => ht⟩
    · exact ⟨(0, 0, 0, 0), fun w => absurd w hp⟩
  exact ⟨fun p => Classical.choose (h p), fun p => Classical.choose_spec (h p)⟩
abbrev TFt : Type := Nat → Nat × Nat × Nat × Nat
def NumOk (f : TFt) (a b p : Nat) : Prop := (f p).2.2.1 = 2 ∧ a ≤ (f p).2.2.2 ∧ (f p).2.2.2 ≤ b
def Stop (f : TFt) (p : Nat) : Prop := (f p).2.2.1 = 1 ∧ (f p).2.2.2 = 59
def LEA (r : Nat) : Nat := ([1, 0, 1, 1, 0, 3, 1, 1, 1] : List Nat).getD r 0
def MOS (r : Nat) : Nat := ([9, 30, 60, 60, 99, 15, 20, 20, 15] : List Nat).getD r 0
def NUM (h : Nat) : Nat := ([2, 3, 1, 1, 1, 1] : List Nat).getD h 0
def FST (h : Nat) : Nat := ([0, 2, 5, 6, 7, 8] : List Nat).getD h 0
def MAX (h : Nat) : Nat := ([6, 6, 1, 1, 1, 1] : List Nat).getD h 0
theorem LEA_d : ∀ r, r < 9 → (([1, 0, 1, 1, 0, 3, 1, 1, 1] : List Int32).getD r 0) = nI (LEA r) ∧ (([9, 30, 60, 60, 99, 15, 20, 20, 15] : List Int32).getD r 0) = nI (MOS r) ∧ LEA r ≤ 3 ∧ MOS r ≤ 99 := by decide +kernel
theorem NUM_d : ∀ h, h < 6 → (([2, 3, 1, 1, 1, 1] : List Int32).getD h 0) = nI (NUM h) ∧ (([0, 2, 5, 6, 7, 8] : List Int32).getD h 0) = nI (FST h) ∧ (([6, 6, 1, 1, 1, 1] : List Int32).getD h 0) = nI (MAX h) ∧ NUM h ≤ 3 ∧ FST h + NUM h ≤ 9 ∧ MAX h ≤ 6 := by decide +kernel
def setv (D : DS) (r i v : Nat) : DS := (D.1, fun a b => if a = r ∧ b = i then v else D.2 a b)
def incr (D : DS) (h : Nat) : DS := (fun a => if a = h then D.1 a + 1 else D.1 a, D.2)
theorem Dcl.setv {S S1 : CS} {t r i v : Nat} {D : DS} (h : Dcl S t D) (e : S1 = sti S (tv t) (6 * r + i) (nI v)) (hi : i < 6) : Dcl S1 t (setv D r i v) := by
  refine ⟨fun k hk => by rw [e, sti_ne (by unfold tm tv; omega)]; exact h.1 k hk, fun a ha b hb => ?_⟩
  show _ = nI (if a = r ∧ b = i then v else D.2 a b)
  rw [e, sti_1]
  by_cases c : a = r ∧ b = i
  · rw [if_pos c, if_pos ⟨rfl, by omega⟩]
  · rw [if_neg c, if_neg (fun w => c (by omega))]
    exact h.2 a ha b hb
theorem Dcl.incr {S S1 : CS} {t k : Nat} {D : DS} (h : Dcl S t D) (e : S1 = sti S (tm t) k (nI (D.1 k + 1))) : Dcl S1 t (incr D k) := by
  refine ⟨fun j hj => ?_, fun a ha b hb => by rw [e, sti_ne (by unfold tm tv; omega)]; exact h.2 a ha b hb⟩
  show _ = nI (if j = k then D.1 j + 1 else D.1 j)
  rw [e, sti_1]
  by_cases c : j = k
  · rw [if_pos c, if_pos ⟨rfl, c⟩, c]
  · rw [if_neg c, if_neg (fun w => c w.2)]
    exact h.1 j hj
/-- what reading leaves alone in the class -/
def Cw (t c i : Nat) : Prop := ¬ (c = 1 ∧ 2 ≤ i) ∧ c ≠ tm t ∧ c ≠ tv t
theorem Dcl.fr {S S1 : CS} {t : Nat} {D : DS} (h : Dcl S t D) (e : Fr Pt S S1) : Dcl S1 t D := ⟨fun k hk => by rw [e.1 _ _ (by unfold Pt tm; omega)]; exact h.1 k hk, fun a ha b hb => by rw [e.1 _ _ (by unfold Pt tv; omega)]; exact h.2 a ha b hb⟩
theorem tak_y {S : CS} {t r i v : Nat} {post : Int32 → CS → Prop} (hr : r < 9) (hi : i < 6) (hv : v ≤ 99) (h1 : LEA r ≤ v ∧ v ≤ MOS r → ∀ S1 : CS, S1 = sti S (tv t) (6 * r + i) (nI v) → post 1 S1) (h0 : ¬ (LEA r ≤ v ∧ v ≤ MOS r) → post 0 S) : p_X5_take S t (nI r) (nI i) (nI v) post := by
  obtain ⟨l1, l2, l3, l4⟩ := LEA_d r hr
  have e6 : nI r * 6 + nI i = nI (6 * r + i) := by rw [show (6 : Int32) = nI 6 from rfl, pk_mul, nI_add, Nat.mul_comm]
  unfold p_X5_take p_X5_isPlace
  rw [e6, nI_clamp (n := r) (by omega), nI_clamp (n := 6 * r + i) (by omega), l1, l2]
  refine br_f (nI_pos (by omega)) (br_f (nI_ge (b := 9) hr (by decide)) (br_f (nI_pos (by omega)) (br_f (nI_ge (b := 6) hi (by decide)) (c01 ⟨vp_in_nI hr (by decide), fun c => h0 (fun w => ?_), fun c => ⟨vp_in_nI hr (by decide), fun c2 => ⟨vp_in_nI (by omega) (by decide), ?_⟩, fun c2 => h0 (fun w => c2 (nI_le w.2 (by omega)))⟩⟩))))
  · exact absurd ((nI_ltI (by omega) (by omega)).mp c) (by omega)
  · refine h1 ⟨?_, (nI_leI (by omega) (by omega)).mp c2⟩
    rcases Nat.lt_or_ge v (LEA r) with z | z
    · exact absurd (nI_lt z (by omega)) c
    · exact z
theorem q53_bad {S : CS} {T : Nat → Nat} {n t p h i it m : Nat} {f : TFt} {x2 : Int32} {post : Int32 → CS → Prop} (hf : TF T n f) (hT : CTx S T n) (h3 : S.1 1 3 = nI p) (hp : p ≤ n) (hh : h < 6) (hi : i < NUM h) (hit : it < 6) (hno : ¬ NumOk f (LEA (FST h + i)) (MOS (FST h + i)) p) (hk : ∀ S1 : CS, Fr Pt S S1 → S1.1 1 2 = nI (f p).1 → post 0 S1) : q_X5_readItem_53 t x2 post (m + 1) (nI h) (nI it) (nI i) S := by
  obtain ⟨n1, n2, n3, n4, n5, n6⟩ := NUM_d h hh
  obtain ⟨⟨t1, t2, t3, t4, t5, t6⟩, hcg, -⟩ := hf p hp
  rw [q_X5_readItem_53, nI_clamp (by omega), n1, n2]
  refine ⟨vp_in_nI hh (by decide), br_f (nI_ge hi (by omega)) (hcg S _ hT h3 (fun S1 a1 a2 a3 a4 => ⟨fun c => ⟨vp_in_nI hh (by decide), ?_⟩, fun c => hk S1 a1 a2⟩))⟩
  have hk2 := (ct_m2 t5).mp c
  unfold p_X4_tokenNumber
  rw [a4 hk2, nI_add]
  exact tak_y (by omega) hit (t6 hk2) (fun w => absurd ⟨hk2, w.1, w.2⟩ hno) (fun _ => c00 (hk S1 a1 a2))
theorem q53_ok {S : CS} {T : Nat → Nat} {n t p h i it m : Nat} {f : TFt} {D : DS} {x2 : Int32} {post : Int32 → CS → Prop} (hf : TF T n f) (hT : CTx S T n) (hD : Dcl S t D) (h3 : S.1 1 3 = nI p) (hp : p ≤ n) (hh : h < 6) (hi : i < NUM h) (hit : it < 6) (hok : NumOk f (LEA (FST h + i)) (MOS (FST h + i)) p) (hk : ∀ S1 : CS, Fr (Cw t) S S1 → CTx S1 T n → Dcl S1 t (setv D (FST h + i) it (f p).2.2.2) → S1.1 1 3 = nI (f p).2.1 → q_X5_readItem_53 t x2 post m (nI h) (nI it) (nI (i + 1)) S1) : q_X5_readItem_53 t x2 post (m + 1) (nI h) (nI it) (nI i) S := by
  obtain ⟨n1, n2, n3, n4, n5, n6⟩ := NUM_d h hh
  obtain ⟨⟨t1, t2, t3, t4, t5, t6⟩, hcg, -⟩ := hf p hp
  rw [q_X5_readItem_53, nI_clamp (by omega), n1, n2]
  refine ⟨vp_in_nI hh (by decide), br_f (nI_ge hi (by omega)) (hcg S _ hT h3 (fun S1 a1 a2 a3 a4 => br_t ((ct_m2 t5).mpr hok.1) ⟨vp_in_nI hh (by decide), ?_⟩))⟩
  unfold p_X4_tokenNumber
  rw [a4 hok.1, nI_add]
  refine tak_y (by omega) hit (t6 hok.1) (fun _ S2 e2 => c01 ?_) (fun w => absurd ⟨hok.2.1, hok.2.2⟩ w)
  intro x ex
  rw [ex, nI_1]
  refine hk S2 ((a1.mono (fun c j w => w.1)).st e2 (fun w => w.2.2 rfl)) ⟨by rw [e2, sti_ne (by unfold tv; omega)]; exact (hT.fr a1).1, fun j hj => by rw [e2, sti_ne (by unfold tv; omega)]; exact (hT.fr a1).2 j hj⟩ ((hD.fr a1).setv e2 hit) (by rw [e2, sti_ne (by unfold tv; omega)]; exact a3)
theorem q53_end {S : CS} {T : Nat → Nat} {n t p h it m : Nat} {f : TFt} {D : DS} {x2 : Int32} {post : Int32 → CS → Prop} (hf : TF T n f) (hT : CTx S T n) (hD : Dcl S t D) (h3 : S.1 1 3 = nI p) (hp : p ≤ n) (hh : h < 6) (h1 : Stop f p → ∀ S1 : CS, Fr (Cw t) S S1 → CTx S1 T n → Dcl S1 t (incr D h) → S1.1 1 3 = nI (f p).2.1 → post 1 S1) (h0 : ¬ Stop f p → ∀ S1 : CS, Fr (Cw t) S S1 → S1.1 1 2 = nI (f p).1 → post 0 S1) : q_X5_readItem_53 t x2 post (m + 1) (nI h) (nI it) (nI (NUM h)) S := by
  obtain ⟨n1, n2, n3, n4, n5, n6⟩ := NUM_d h hh
  obtain ⟨⟨t1, t2, t3, t4, t5, t6⟩, hcg, -⟩ := hf p hp
  rw [q_X5_readItem_53, nI_clamp (by omega), n1, n2]
  refine ⟨vp_in_nI hh (by decide), br_t (nI_le (Nat.le_refl _) (by omega)) ⟨vp_in_nI hh (by decide), ?_⟩⟩
  intro u eu
  refine ⟨vp_in_nI hh (by decide), ?_⟩
  intro S1 e1
  rw [hD.1 h hh, nI_1] at eu
  rw [eu] at e1
  have hf1 : Fr (Cw t) S S1 := (Fr.rf S).st e1 (fun w => w.2.1 rfl)
  refine hcg S1 _ ⟨by rw [e1, sti_ne (by unfold tm; omega)]; exact hT.1, fun j hj => by rw [e1, sti_ne (by unfold tm; omega)]; exact hT.2 j hj⟩ (by rw [e1, sti_ne (by unfold tm; omega)]; exact h3) (fun S2 a1 a2 a3 a4 => ?_)
  have hf2 : Fr (Cw t) S S2 := hf1.tr (a1.mono (fun c j w => w.1))
  have hT1 : CTx S1 T n := ⟨by rw [e1, sti_ne (by unfold tm; omega)]; exact hT.1, fun j hj => by rw [e1, sti_ne (by unfold tm; omega)]; exact hT.2 j hj⟩
  by_cases c : Stop f p
  · exact br_t ((ct_59 t5).mpr c) (h1 c S2 hf2 (hT1.fr a1) ((hD.incr e1).fr a1) a3)
  · exact br_f (fun w => c ((ct_59 t5).mp w)) (h0 c S2 hf2 a2)
