/-! the shelf's constructor: n moments, made one behind another -/
abbrev mcell4 (X : XE) (u : Nat → Nat) (j : Nat) : va_W := [(u (1 + 4 * j), .inr (1, [.ref (u (2 + 4 * j)), .ref (u (3 + 4 * j)), .int 0, .int 0, .int 0, .int 0, .int 0, .int 0])), (u (2 + 4 * j), ia X 6 zf), (u (3 + 4 * j), .inr (0, [.ref (u (4 + 4 * j)), .int 0])), (u (4 + 4 * j), ia X 8 zf)]
def mcells (X : XE) (u : Nat → Nat) (n : Nat) : va_W := (List.range n).flatMap (mcell4 X u)
theorem mcells_succ (X : XE) (u : Nat → Nat) (n : Nat) : mcells X u (n + 1) = mcells X u n ++ mcell4 X u n := by
  unfold mcells
  rw [List.range_succ, List.flatMap_append]
  simp
theorem mcells_congr {X : XE} {u v : Nat → Nat} : ∀ {n : Nat}, (∀ k, k < 1 + 4 * n → u k = v k) → mcells X u n = mcells X v n
  | 0, _ => rfl
  | n + 1, h => by
    rw [mcells_succ, mcells_succ, mcells_congr (n := n) (fun k hk => h k (by omega))]
    unfold mcell4
    rw [h (1 + 4 * n) (by omega), h (2 + 4 * n) (by omega), h (3 + 4 * n) (by omega), h (4 + 4 * n) (by omega)]
theorem mcells_len (X : XE) (u : Nat → Nat) : ∀ n : Nat, (mcells X u n).length = 4 * n
  | 0 => rfl
  | n + 1 => by
    rw [mcells_succ, List.length_append, mcells_len X u n]
    simp
    omega
abbrev rfe (X : XE) (n : Nat) (f : Nat → Option Nat) : va_E := .inl (X.2.1 3, n, .inr (.inr (.inr (.inr f))))
abbrev csShelf (X : XE) (n : Nat) (h0 : Nat) (u : (Nat → Nat) × Mem) : va_W := (h0, .inr (3, [.ref (u.1 0)])) :: (u.1 0, rfe X n (fun i => some (u.1 (1 + 4 * i)))) :: mcells X u.1 n
theorem vp_cell_congr {cA : ClassId} {n : Nat} {f g : Nat → Option Nat} (h : ∀ j, j < n → f j = g j) : vp_cell cA (n, .inr (.inr (.inr (.inr f)))) = vp_cell cA (n, .inr (.inr (.inr (.inr g)))) := by
  rw [vp_cell_q, vp_cell_q]
  unfold arrV
  congr 1
  apply Array.ext
  · simp
  · intro i h1 h2
    have hi : i < n := by simpa using h1
    simp [h i hi]
theorem va_P_ref {D : va_G} {H : Heap} {a : Nat × va_E} {b n : Nat} {cA : ClassId} {f g : Nat → Option Nat} {T : va_W} (h : ∀ j, j < n → f j = g j) (hP : va_P D vwCl (a :: (b, .inl (cA, n, .inr (.inr (.inr (.inr f))))) :: T) H) : va_P D vwCl (a :: (b, .inl (cA, n, .inr (.inr (.inr (.inr g))))) :: T) H := by
  intro k q hk
  match k, hk with
  | 0, hk => exact hP 0 q hk
  | 1, hk =>
    have h1 := hP 1 _ rfl
    have hq : q = (b, .inl (cA, n, .inr (.inr (.inr (.inr g))))) := (Option.some.inj hk).symm
    subst hq
    show H[b]? = some (vp_cell cA (n, .inr (.inr (.inr (.inr g)))))
    rw [← vp_cell_congr h]
    exact h1
  | k + 2, hk => exact hP (k + 2) q hk
abbrev rm_X3_init (n : Nat) : Room := { frames := 3, cells := 1 + 4 * n, slots := n + 24 * n, locals := 61 }
set_option maxHeartbeats 4000000 in
set_option maxRecDepth 100000 in
theorem c_X3_init (l : Launch) (D : va_G) (X : XE) (sz q n : Nat) (hn : n ≤ 10) : Met l yX3_init (Cond.code yX3_init cX3_init 3 none :: lw_gd) (rm_X3_init n) (kPc D X sz q (.inr (3, [.null])) [.ref q, .int (nI n)]) (va_Qv (fun _ => True) (kB D (csShelf X n q) (va_A [(q, (.inr (3, [.null])))] sz)) (va_A [(q, (.inr (3, [.null])))] sz)) (1 + 4 * n) (n + 24 * n) (va_A [(q, (.inr (3, [.null])))] sz) := by
  refine Met.ofW (cc := cX3_init) (maxL := 3) (ret := none) (by decide) rfl ?_
  intro p e s m args below meth c s₁ B hml hv
  obtain ⟨rfl, hsz, hP, hK, hF, hO⟩ := hv
  have hx := B.exec
  have hb := B.bytes
  have hr := B.returns
  have hts := atoms_spec (ws := (Cond.code yX3_init cX3_init 3 none :: lw_gd)) B.pre
  have hT : ∀ w ∈ lw_gd, w.before _ s = true := fun w h9 => hts w (List.mem_cons_of_mem _ h9)
  have hown : s.vm.findClass RX3 = some m.cls := findClass_of_methodNamed B.named
  have hlocks := B.notSynchronized
  have hin : meth.name = "<init>" := (name_of_methodNamed B.named B.method).1
  subst hsz
  have hD := k_D1 (q := q) (e0 := (.inr (3, [.null]))) (sz := s.heap.size)
  generalize hAe : va_A [(q, (.inr (3, [.null])))] s.heap.size = A at hD hF ⊢
  have hA : ∀ a : Nat, s.heap.size ≤ a → A a := fun a h9 => by rw [← hAe]; exact Or.inr h9
  have hS : va_S A s.heap s.heap [] := va_S.rf
  have loop : ∀ (k i : Nat), i + k = n → ∀ (qp : Nat) (u : Nat → Nat) (f : Nat → Option Nat) (H : Heap) (locs : List Loc) (ls : Array Slot), u 0 = qp → (∀ j, j < i → f j = some (u (1 + 4 * j))) → va_P D vwCl ((q, .inr (3, [.ref qp])) :: (qp, rfe X n f) :: mcells X u i) H → va_D A ((q, .inr (3, [.ref qp])) :: (qp, rfe X n f) :: mcells X u i) → va_S A s.heap H locs → lv_has ls 3 [(0, .ref q), (1, .int (nI n)), (2, .int (nI i))] →
      W p l e (headSpec (Cond.code yX3_init cX3_init 3 none :: lw_gd) (rm_X3_init n)).room s m ([.ref q, .int (nI n)] : List Value).toArray below meth c H locs (1 + 4 * i) (n + 24 * i) (MQ below (va_Qv (fun _ => True) (kB D (csShelf X n q) A) A) ([.ref q, .int (nI n)] : List Value).toArray s (1 + 4 * n) (n + 24 * n) A) (F0 m 18 ls []) := by
    intro k
    induction k with
    | zero =>
      intro i hik qp u f H locs ls hu hf hP hD hS hl
      have hi : i = n := by omega
      subst hi
      refine lv_iload_n hx hb dX3_init_18 rfl (lv_at hl 2 rfl) ?_
      refine lv_aload_n hx hb dX3_init_19 rfl (lv_at hl 0 rfl) ?_
      refine va_get (D := D) (ci := 3) (v := .ref qp) (C := RX3) (T := TX3) (N := 1) hx hb hT inX3 hown hK hP 0 rfl rfl 0 (by decide) (hT _ wf_X3_15) (fun _ h9 => h9) rfl dX3_init_20 ?_
      refine va_alen hx hb hK hP 1 3 rfl rfl (v := nI i) rfl dX3_init_23 ?_
      refine lv_icmp_ge (tgt := 46) hx hb dX3_init_24 (by decide) (fun c_1 => ?_) (fun c_1 => absurd (nI_le (Nat.le_refl i) (by omega)) c_1)
      have hP : va_P D vwCl ((q, .inr (3, [.ref qp])) :: (qp, rfe X i (fun j => some (u (1 + 4 * j)))) :: mcells X u i) H := va_P_ref hf hP
      have hD : va_D A ((q, .inr (3, [.ref qp])) :: (qp, rfe X i (fun j => some (u (1 + 4 * j)))) :: mcells X u i) := va_D_addr (w1 := ((q, .inr (3, [.ref qp])) :: (qp, rfe X i f) :: mcells X u i)) rfl hD
      exact W.vret hx hb hr (fun t ht hW => ⟨⟨(u, zm), rfl, trivial, ⟨by rw [ht]; show va_P D vwCl ((q, .inr (3, [.ref (u 0)])) :: (u 0, rfe X i (fun j => some (u (1 + 4 * j)))) :: mcells X u i) H; rw [hu]; exact hP, by show va_D A ((q, .inr (3, [.ref (u 0)])) :: (u 0, rfe X i (fun j => some (u (1 + 4 * j)))) :: mcells X u i); rw [hu]; exact hD⟩⟩, hS.F ht⟩) hS.2.2 dX3_init_46
    | succ k ih =>
      intro i hik qp u f H locs ls hu hf hP hD hS hl
      refine lv_iload_n hx hb dX3_init_18 rfl (lv_at hl 2 rfl) ?_
      refine lv_aload_n hx hb dX3_init_19 rfl (lv_at hl 0 rfl) ?_
      refine va_get (D := D) (ci := 3) (v := .ref qp) (C := RX3) (T := TX3) (N := 1) hx hb hT inX3 hown hK hP 0 rfl rfl 0 (by decide) (hT _ wf_X3_15) (fun _ h9 => h9) rfl dX3_init_20 ?_
      refine va_alen hx hb hK hP 1 3 rfl rfl (v := nI n) rfl dX3_init_23 ?_
      refine lv_icmp_ge (tgt := 46) hx hb dX3_init_24 (by decide) (fun c_1 => absurd c_1 (nI_ge (by omega) (by omega))) (fun c_1 => ?_)
      refine lv_aload_n hx hb dX3_init_27 rfl (lv_at hl 0 rfl) ?_
      refine va_get (D := D) (ci := 3) (v := .ref qp) (C := RX3) (T := TX3) (N := 1) hx hb hT inX3 hown hK hP 0 rfl rfl 0 (by decide) (hT _ wf_X3_15) (fun _ h9 => h9) rfl dX3_init_28 ?_
      refine lv_iload_n hx hb dX3_init_31 rfl (lv_at hl 2 rfl) ?_
      refine va_new (ci := 1) (fs := [.null, .null, .int 0, .int 0, .int 0, .int 0, .int 0, .int 0]) (C := RX1) (T := TX1) (N := 8) hx hb hT inX1 tyX1 tyX1_ok hown (hT _ wcl_X3_13) (hT _ win_X1) (hT _ wn_X1) hK hP hD hS hA rfl (fun j hj => by rcases (show j = 0 ∨ j = 1 ∨ j = 2 ∨ j = 3 ∨ j = 4 ∨ j = 5 ∨ j = 6 ∨ j = 7 by omega) with rfl | rfl | rfl | rfl | rfl | rfl | rfl | rfl <;> rfl) (by show 1 + 4 * i + 1 ≤ 1 + 4 * n; omega) (by show n + 24 * i + 8 ≤ n + 24 * n; omega) dX3_init_32 (fun q1 H hP hD hS => ?_)
      have hP : va_P D vwCl (((q, .inr (3, [.ref qp])) :: (qp, rfe X n f) :: mcells X u i) ++ [(q1, .inr (1, [.null, .null, .int 0, .int 0, .int 0, .int 0, .int 0, .int 0]))]) H := hP
      have hD : va_D A (((q, .inr (3, [.ref qp])) :: (qp, rfe X n f) :: mcells X u i) ++ [(q1, .inr (1, [.null, .null, .int 0, .int 0, .int 0, .int 0, .int 0, .int 0]))]) := hD
      refine lv_dup hx hb dX3_init_35 rfl ?_
      refine k_IN (As := []) (rest := [.ref q1, .int (nI i), .ref qp]) (wr := ((q, .inr (3, [.ref qp])) :: (qp, rfe X n f) :: mcells X u i)) (cs := csMoment X q1) ⟨hx, hb, hml, hown, hT⟩ (c_X1_init l D X H.size q1) (gd_I wc_X1_init) hF.1.2.2.2.2.1 (hT _ wn_X1) (hT _ wi_X1_init) rfl hd_X1_init ⟨rfl, rfl⟩ ⟨Nat.le_of_ble_eq_true rfl, Nat.le_of_ble_eq_true rfl⟩ hK hP hD hS hA hF hO rfl hl.1 rfl (Nat.le_of_ble_eq_true rfl) dX3_init_36 ⟨by show 1 + 4 * i + 1 + 3 ≤ 1 + 4 * n; omega, by show n + 24 * i + 8 + 16 ≤ n + 24 * n; omega⟩ (fun w H locs _ hP hD hS => ?_)
      have hlen : ((q, .inr (3, [.ref qp])) :: (qp, rfe X n f) :: mcells X u i : va_W).length = 2 + 4 * i := by
        rw [List.length_cons, List.length_cons, mcells_len]
        omega
      refine va_astq hx hb hK hP hD hS 1 3 (2 + 4 * i) 1 (cA := X.2.1 3) (r := (RX1, TX1, 8)) (n := n) (v := q1) (vs := [.ref (w.1 0), .ref (w.1 1), .int 0, .int 0, .int 0, .int 0, .int 0, .int 0]) (f := f) rfl rfl (by rw [List.getElem?_append_right (by omega), hlen, Nat.sub_self]; rfl) rfl (i := nI i) (vp_in_nI (by omega) (by omega)) dX3_init_39 (fun H locs hP hD hS => ?_)
      rw [nI_clamp (by omega)] at hP hD
      obtain ⟨u', hu'⟩ : ∃ u' : Nat → Nat, u' = fun k => if k < 1 + 4 * i then u k else if k = 1 + 4 * i then q1 else if k = 2 + 4 * i then w.1 0 else if k = 3 + 4 * i then w.1 1 else w.1 2 := ⟨_, rfl⟩
      have hu1 : ∀ k, k < 1 + 4 * i → u k = u' k := fun k hk => by rw [hu']; simp [hk]
      have h1 : u' (1 + 4 * i) = q1 := by rw [hu']; simp
      have h2 : u' (2 + 4 * i) = w.1 0 := by
        rw [hu']
        simp only [show ¬ 2 + 4 * i < 1 + 4 * i by omega, show ¬ 2 + 4 * i = 1 + 4 * i by omega, if_false, if_true]
      have h3 : u' (3 + 4 * i) = w.1 1 := by
        rw [hu']
        simp only [show ¬ 3 + 4 * i < 1 + 4 * i by omega, show ¬ 3 + 4 * i = 1 + 4 * i by omega, show ¬ 3 + 4 * i = 2 + 4 * i by omega, if_false, if_true]
      have h4 : u' (4 + 4 * i) = w.1 2 := by
        rw [hu']
        simp only [show ¬ 4 + 4 * i < 1 + 4 * i by omega, show ¬ 4 + 4 * i = 1 + 4 * i by omega, show ¬ 4 + 4 * i = 2 + 4 * i by omega, show ¬ 4 + 4 * i = 3 + 4 * i by omega, if_false]
      have hcs : mcells X u i ++ csMoment X q1 w = mcells X u' (i + 1) := by
        rw [mcells_succ, mcells_congr hu1]
        unfold mcell4
        rw [h1, h2, h3, h4]
      have hP : va_P D vwCl ((q, .inr (3, [.ref qp])) :: (qp, rfe X n (va_up f i (some q1))) :: mcells X u' (i + 1)) H := by rw [← hcs]; exact hP
      have hD : va_D A ((q, .inr (3, [.ref qp])) :: (qp, rfe X n (va_up f i (some q1))) :: mcells X u' (i + 1)) := by rw [← hcs]; exact hD
      obtain ⟨x2, ex2⟩ : ∃ z : Int32, z = nI i + 1 := ⟨_, rfl⟩
      refine lv_iinc (v := x2) (lv' := [(2, .int x2), (0, .ref q), (1, .int (nI n))]) hx hb dX3_init_40 hl (k := 2) rfl (by rw [ex2]; rfl) (by decide) rfl (fun ls hl => ?_)
      refine lv_goto (tgt := 18) hx hb dX3_init_43 (by decide) ?_
      have hgo := ih (i + 1) (by omega) qp u' (va_up f i (some q1)) H locs ls (by rw [← hu1 0 (by omega)]; exact hu) (fun j hj => by
        unfold va_up
        by_cases hji : j = i
        · rw [if_pos hji, hji, h1]
        · rw [if_neg hji, hf j (by omega), hu1 _ (by omega)]) hP hD hS (lv_sub hl [1, 2, 0] (by rw [ex2, nI_1]; rfl))
      exact hgo
  have hl := lv_entry ([.ref q, .int (nI n)]) (n := 3) (Nat.le_of_ble_eq_true rfl)
  rw [lg_entry_eq]
  generalize (lg_sl ([.ref q, .int (nI n)]) ++ List.replicate (3 - (lg_sl ([.ref q, .int (nI n)])).length) Slot.unset).toArray = ls at hl ⊢
  have hl : lv_has ls 3 [(0, .ref q), (1, .int (nI n))] := hl
  refine lv_aload_n hx hb dX3_init_0 rfl (lv_at hl 0 rfl) ?_
  refine W.objInit hx hb hown (hT _ wl_X3_1) (hT _ wi_Obj) (hT _ wc_Obj) rfl (by rw [hml]; exact hl.1) rfl dX3_init_1 (Nat.le_of_ble_eq_true rfl) (Nat.le_of_ble_eq_true rfl) ?_
  refine W.eq (g2 := F0 m 4 ls []) rfl ?_
  refine lv_aload_n hx hb dX3_init_4 rfl (lv_at hl 0 rfl) ?_
  refine lv_iconst (v := 0) hx hb dX3_init_5 (by decide) ?_
  refine lv_iload_n hx hb dX3_init_6 rfl (lv_at hl 1 rfl) ?_
  refine va_mmax hx hb (hml.trans hl.1.symm) hown (hT _ wl_X3_7) (hT _ wt_J9_max_7cf53) (hT _ wn_J9) (hT _ wc_J9_max_7cf53) (Nat.le_of_ble_eq_true rfl) (Nat.le_of_ble_eq_true rfl) (Nat.zero_le _) (Nat.zero_le _) dX3_init_7 ?_
  have emax : (if (0 : Int32) < nI n then nI n else 0) = nI n := by
    by_cases h0 : (0 : Int32) < nI n
    · rw [if_pos h0]
    · rw [if_neg h0]
      have hn0 : n = 0 := by
        rcases Nat.eq_zero_or_pos n with h | h
        · exact h
        · exact absurd (nI_lt (a := 0) h (by omega)) h0
      rw [hn0]
      rfl
  rw [emax]
  refine g_newq (t0 := 3) (N' := n) hx hb hown (hT _ wcl_X3_13) hO rfl hK hP hD hS hA (nI_pos (by omega)) (nI_clamp (by omega)) (by omega) (by show 0 + 1 ≤ 1 + 4 * n; omega) (by show 0 + n ≤ n + 24 * n; omega) dX3_init_10 (fun qp H hP hD hS => ?_)
  have hP : va_P D vwCl ((q, .inr (3, [.null])) :: (qp, rfe X n (fun _ => none)) :: []) H := hP
  have hD : va_D A ((q, .inr (3, [.null])) :: (qp, rfe X n (fun _ => none)) :: []) := hD
  refine va_putF (D := D) (ci := 3) (v := .ref qp) (ty := .array (.object "BesomYard$Moment")) (C := RX3) (T := TX3) (N := 1) hx hb hT inX3 tyX3 tyX3_ok nmX3 hown hK hP hD hS 0 rfl rfl 0 (by decide) (hT _ wf_X3_15) (fun _ h9 => h9) rfl hin rfl (by decide +kernel) rfl rfl (Nat.le_of_ble_eq_true rfl) dX3_init_13 (fun H locs hP hD hS => ?_)
  refine lv_iconst (v := 0) hx hb dX3_init_16 (by decide) ?_
  refine lv_istore_n (lv' := [(2, .int 0), (0, .ref q), (1, .int (nI n))]) hx hb dX3_init_17 rfl hl (by decide) rfl (fun ls hl => ?_)
  have hgo := loop n 0 (by omega) qp (fun _ => qp) (fun _ => none) H locs ls rfl (fun j hj => absurd hj (Nat.not_lt_zero j)) hP hD hS (lv_sub hl [1, 2, 0] rfl)
  have e1 : (0 + 1 : Nat) = 1 + 4 * 0 := by omega
  have e2 : (0 + n : Nat) = n + 24 * 0 := by omega
  rw [e1, e2]
  exact hgo
