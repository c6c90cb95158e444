/-! the memory of a world: cell number, place in it -> an int -/
abbrev Mem : Type := Nat → Nat → Int32
/-- a state: the memory, the numbers of the cells 'told' and 'draft' (the class's alone), the trace -/
abbrev CS : Type := Mem × Nat × Nat × Int64
/-- addresses of the cells, classes of arrays, addresses of static things -/
abbrev XE : Type := (Nat → Nat) × (Nat → ClassId) × (Nat → Nat)
def sti (S : CS) (k j : Nat) (x : Int32) : CS := (va_up S.1 k (upd (S.1 k) j x), S.2)
theorem sti_1 (S : CS) (k j : Nat) (x : Int32) (k' j' : Nat) : (sti S k j x).1 k' j' = if k' = k ∧ j' = j then x else S.1 k' j' := by
  unfold sti va_up upd
  by_cases h : k' = k
  · subst h
    by_cases h2 : j' = j <;> simp [h2]
  · simp [h]
theorem sti_2 (S : CS) (k j : Nat) (x : Int32) : (sti S k j x).2 = S.2 := rfl
def GW (N : Nat) (a : Nat → Nat) (ce : Nat → (Nat → Int32) → va_E) (v : Mem) : va_W := (List.range N).map (fun k => (a k, ce k (v k)))
theorem gw_at {N : Nat} {a : Nat → Nat} {ce : Nat → (Nat → Int32) → va_E} {v : Mem} {k : Nat} (h : k < N) {e : va_E} (he : ce k (v k) = e) : (GW N a ce v)[k]? = some (a k, e) := by
  subst he
  simp [GW, h]
theorem gw_lt {N : Nat} {a : Nat → Nat} {ce : Nat → (Nat → Int32) → va_E} {v : Mem} {k : Nat} {q : Nat × va_E} (h : (GW N a ce v)[k]? = some q) : k < N ∧ q = (a k, ce k (v k)) := by
  have hk : k < N := by
    have h2 := (List.getElem?_eq_some_iff.mp h).1
    simpa [GW] using h2
  refine ⟨hk, ?_⟩
  rw [gw_at hk rfl] at h
  exact (Option.some.inj h).symm
theorem gw_set {N : Nat} {a : Nat → Nat} {ce : Nat → (Nat → Int32) → va_E} {v : Mem} {k : Nat} {f : Nat → Int32} {e : va_E} (he : ce k f = e) : (GW N a ce v).set k (a k, e) = GW N a ce (va_up v k f) := by
  subst he
  apply List.ext_getElem?
  intro j
  rw [List.getElem?_set]
  by_cases hj : k = j
  · subst hj
    by_cases h : k < N <;> simp [GW, h, va_up]
  · have hj2 : ¬ j = k := fun q => hj q.symm
    simp only [hj, if_false, GW, List.getElem?_map]
    cases h : (List.range N)[j]? with
    | none => rfl
    | some q =>
      have hq : q = j := by
        have h2 := List.getElem?_eq_some_iff.mp h
        obtain ⟨h3, h4⟩ := h2
        simpa using h4.symm
      subst hq
      simp [va_up, hj2]
def AX (N : Nat) (a : Nat → Nat) (sz : Nat) : Nat → Prop := fun q => (∃ k : Nat, k < N ∧ q = a k) ∨ sz ≤ q
def Inj (N : Nat) (a : Nat → Nat) : Prop := ∀ i j : Nat, i < N → j < N → a i = a j → i = j
theorem gw_D {N : Nat} {a : Nat → Nat} {ce : Nat → (Nat → Int32) → va_E} {v : Mem} {sz : Nat} (h : Inj N a) : va_D (AX N a sz) (GW N a ce v) := by
  refine ⟨fun i j p q hp hq hpq => ?_, fun k q hq => ?_⟩
  · obtain ⟨h1, rfl⟩ := gw_lt hp
    obtain ⟨h2, rfl⟩ := gw_lt hq
    exact h i j h1 h2 hpq
  · obtain ⟨h1, rfl⟩ := gw_lt hq
    exact Or.inl ⟨k, h1, rfl⟩
theorem ax_mono {N : Nat} {a : Nat → Nat} {s1 s2 : Nat} (h : s1 ≤ s2) : ∀ q, AX N a s2 q → AX N a s1 q := fun q hq => hq.elim Or.inl (fun z => Or.inr (Nat.le_trans h z))
/-! what holds of a state besides the world's cells: private members of nest mates, static rows, the text of the heads -/
def NW (U : State) : Prop :=
  (va_Nw (.fieldLinkNest RX6 140 "BesomYard$Besom" "front" "I" "BesomYard") U ∧ va_Nw (.fieldLinkNest RX6 115 "BesomYard$Moment" "door" "LBesomYard$Besom;" "BesomYard") U ∧ va_Nw (.fieldLinkNest RX6 128 "BesomYard$Moment" "stack" "I" "BesomYard") U ∧ va_Nw (.fieldLinkNest RX6 131 "BesomYard$Moment" "bound" "I" "BesomYard") U ∧ va_Nw (.fieldLinkNest RX6 121 "BesomYard$Moment" "day" "I" "BesomYard") U ∧ va_Nw (.fieldLinkNest RX6 134 "BesomYard$Moment" "earned" "I" "BesomYard") U ∧ va_Nw (.fieldLinkNest RX6 137 "BesomYard$Moment" "sent" "I" "BesomYard") U ∧ va_Nw (.fieldLinkNest RX6 125 "BesomYard$Moment" "year" "I" "BesomYard") U) ∧
  (va_Nw (.methodLinkNest RX6 9 yX4_init "BesomYard") U ∧ va_Nw (.methodLinkNest RX6 28 yX1_init "BesomYard") U ∧ va_Nw (.methodLinkNest RX1 17 yX0_init "BesomYard") U ∧ va_Nw (.methodLinkNest RX3 21 yX1_init "BesomYard") U ∧ va_Nw (.methodLinkNest RX6 61 yX0_init "BesomYard") U ∧ va_Nw (.methodLinkNest RX6 68 yX2_init "BesomYard") U ∧ va_Nw (.methodLinkNest RX2 63 yX6_gift "BesomYard") U)
theorem NW.warm {s U : State} (hW : s.WarmedH U.vm) (h : NW s) : NW U := by
  obtain ⟨⟨a1, a2, a3, a4, a5, a6, a7, a8⟩, b1, b2, b3, b4, b5, b6, b7⟩ := h
  exact ⟨⟨a1.warmF hW, a2.warmF hW, a3.warmF hW, a4.warmF hW, a5.warmF hW, a6.warmF hW, a7.warmF hW, a8.warmF hW⟩, b1.warmM hW, b2.warmM hW, b3.warmM hW, b4.warmM hW, b5.warmM hW, b6.warmM hW, b7.warmM hW⟩
theorem NW.same {u U : State} (hv : u.vm = U.vm) (h : NW u) : NW U := by
  obtain ⟨⟨a1, a2, a3, a4, a5, a6, a7, a8⟩, b1, b2, b3, b4, b5, b6, b7⟩ := h
  exact ⟨⟨a1.same rfl hv, a2.same rfl hv, a3.same rfl hv, a4.same rfl hv, a5.same rfl hv, a6.same rfl hv, a7.same rfl hv, a8.same rfl hv⟩, b1.same rfl hv, b2.same rfl hv, b3.same rfl hv, b4.same rfl hv, b5.same rfl hv, b6.same rfl hv, b7.same rfl hv⟩
def ZA (n : String) (t N : Nat) (vs : List Int32) (A : Nat → Prop) (U : State) : Prop := va_Z "BesomYard$Told" n "[I" (.ref t) A U U.heap ∧ va_T .int t N (fun j => .int (vs.getD j 0)) A U U.heap
theorem ZA.go {n : String} {t N : Nat} {vs : List Int32} {A B : Nat → Prop} {s U : State} (hvm : s.vm.Alike U.vm) (hq : ∀ q : Nat, q < s.heap.size → ¬ A q → U.heap[q]? = s.heap[q]?) (hAB : ∀ q, B q → A q) (h : ZA n t N vs A s) : ZA n t N vs B U :=
  ⟨((h.1.kept hq).moved hvm).narrow hAB, ((h.2.kept hq).moved hvm).narrow hAB⟩
def ZS (X : XE) (A : Nat → Prop) (U : State) : Prop := vk_R RX5 43 "wortpl" (X.2.2 6) U ∧ vk_S 1 [6] [[119, 111, 114, 116, 112, 108]] (fun _ => X.2.2 6) (fun _ => X.2.2 7) A U U.heap ∧ va_Z "java/lang/String" "COMPACT_STRINGS" "Z" (.int 1) A U U.heap
def FXc (X : XE) (A : Nat → Prop) (U : State) : Prop :=
  NW U ∧ ZA "AT_FIRST" (X.2.2 0) 9 [0, 0, 0, 0, 0, 9, 3, 11, 9] A U ∧ ZA "ITEMS_MOST" (X.2.2 1) 6 [6, 6, 1, 1, 1, 1] A U ∧ ZA "NUMBERS" (X.2.2 2) 6 [2, 3, 1, 1, 1, 1] A U ∧ ZA "FIRST_ROW" (X.2.2 3) 6 [0, 2, 5, 6, 7, 8] A U ∧ ZA "LEAST" (X.2.2 4) 9 [1, 0, 1, 1, 0, 3, 1, 1, 1] A U ∧ ZA "MOST" (X.2.2 5) 9 [9, 30, 60, 60, 99, 15, 20, 20, 15] A U ∧ ZS X A U
theorem FXc.go {X : XE} {A B : Nat → Prop} {s U : State} (hW : s.WarmedH U.vm) (hq : ∀ q : Nat, q < s.heap.size → ¬ A q → U.heap[q]? = s.heap[q]?) (hAB : ∀ q, B q → A q) (h : FXc X A s) : FXc X B U := by
  obtain ⟨h0, h1, h2, h3, h4, h5, h6, h7, h8, h9⟩ := h
  have hvm := hW.alike
  exact ⟨h0.warm hW, h1.go hvm hq hAB, h2.go hvm hq hAB, h3.go hvm hq hAB, h4.go hvm hq hAB, h5.go hvm hq hAB, h6.go hvm hq hAB, h7.warm hW, ((h8.kept hq).moved hvm).narrow hAB, ((h9.kept hq).moved hvm).narrow hAB⟩
theorem FXc.call {X : XE} {A : Nat → Prop} (U : State) (g : JFrame) (mk : MethodId) (a : Array Value) (h : FXc X A U) : FXc X A (U.calling g mk a) := by
  obtain ⟨h0, h1, h2, h3, h4, h5, h6, h7, h8, h9⟩ := h
  have hvm : U.vm.Alike (U.calling g mk a).vm := Vm.Alike.refl U.vm
  have hq : ∀ q : Nat, q < U.heap.size → ¬ A q → (U.calling g mk a).heap[q]? = U.heap[q]? := fun _ _ _ => rfl
  have hAB : ∀ q, A q → A q := fun _ h => h
  exact ⟨h0.same rfl, h1.go hvm hq hAB, h2.go hvm hq hAB, h3.go hvm hq hAB, h4.go hvm hq hAB, h5.go hvm hq hAB, h6.go hvm hq hAB, h7.same rfl, ((h8.kept hq).moved hvm).narrow hAB, ((h9.kept hq).moved hvm).narrow hAB⟩
/-- the reference rests on no such thing -/
def FXr (_ : XE) (_ : Nat → Prop) (_ : State) : Prop := True
/-! calls within one world -/
section GCALL
variable {p : Program} {l : Launch} {e : Env} {R : Room} {s : State} {m : MethodId} {args : Array Value} {below : List Frame} {meth : Method} {c : Code} {H : Heap} {locs : List Loc} {cells slots : Nat} {Q : State → Prop}
variable {cc : ByteArray} {pc : Nat} {ls : Array Slot} {rest st0 : List Value} {D : va_G} {tys : List (ClassId × FieldType)} {Wf : CS → va_W} {FX : (Nat → Prop) → State → Prop} {A A1 : Nat → Prop}
variable {y : MethodName} {bytes : ByteArray} {maxL nL n index : Nat} {ret : Option FieldType} {rm : Room} {own C : String} {b : Nat} {As : List Value} {S : CS}
abbrev gPc (D : va_G) (tys : List (ClassId × FieldType)) (Wf : CS → va_W) (FX : (Nat → Prop) → State → Prop) (A : Nat → Prop) (sz : Nat) (S : CS) (av : List Value) : Array Value → State → Prop := va_Pc av (fun U => U.heap.size = sz ∧ va_P D vwCl (Wf S) U.heap ∧ va_K D vwCl tys U ∧ FX A U)
abbrev gB (D : va_G) (Wf : CS → va_W) : CS → State → Prop := fun u t => va_P D vwCl (Wf u) t.heap
theorem gPc_blind (fb : ∀ (U : State) (g : JFrame) (mk : MethodId) (a : Array Value), FX A1 U → FX A1 (U.calling g mk a)) {sz : Nat} {av : List Value} : FrameBlind (gPc D tys Wf FX A1 sz S av) := by
  intro a U g mk q
  obtain ⟨q0, q1, qP, qK, qF⟩ := q
  exact ⟨q0, q1, qP, va_K.moved (u := U) (U := U.calling g mk a) (Vm.Alike.refl U.vm) qK, fb U g mk a qF⟩
theorem g_Vi {post : Int32 → CS → Prop} (S0 : CallFix p m c cc nL s args lw_gd own) (hM : Met l y (Cond.code y bytes maxL ret :: lw_gd) rm (gPc D tys Wf FX A1 H.size S (.ref b :: As)) (va_Qi post (gB D Wf) A1) 0 0 A1)
    (hg : GoodIn lw_gd (wsV own index C y (Cond.code y bytes maxL ret :: lw_gd))) (hC : y.cls = C) (hd : y.cls ≠ "java/lang/invoke/MethodHandle" ∧ y.cls ≠ "java/lang/invoke/VarHandle" ∧ (parseMethodDescriptor y.desc).map (fun d => d.parameters.length) = some n) (hrm : rm.cells = 0 ∧ rm.slots = 0) (hR : rm.frames + 1 ≤ R.frames ∧ 8 + (maxL + 11) + rm.locals ≤ R.locals)
    (hcell : ∃ cell : Cell, H[b]? = some cell ∧ cell.vm.isStatics = false ∧ s.vm.findClass C = some cell.cls) (hK : va_K D vwCl tys s) (hP : va_P D vwCl (Wf S) H) (hS : va_S A s.heap H locs) (fb : ∀ (U : State) (g : JFrame) (mk : MethodId) (a : Array Value), FX A1 U → FX A1 (U.calling g mk a)) (fw : ∀ U : State, U.heap = H → s.WarmedH U.vm → FX A1 U) (hA1 : ∀ q, A1 q → A q)
    (hn : As.length = n) (hl : ls.size = nL) (hst : st0 = As.reverse ++ .ref b :: rest) (hW : (rest.map fun v => v.category).sum ≤ 8) (hdg : decode cc pc = .ok (.invokevirtual index, 3)) (hcs : cells ≤ R.cells ∧ slots ≤ R.slots)
    (kk : ∀ (r : Int32) (S1 : CS) (H1 : Heap) (locs1 : List Loc), post r S1 → va_P D vwCl (Wf S1) H1 → va_S A s.heap H1 locs1 → W p l e R s m args below meth c H1 locs1 cells slots Q (F0 m (pc + 3) ls (.int r :: rest))) : W p l e R s m args below meth c H locs cells slots Q (F0 m pc ls st0) := by
  refine va_calli (va_runV (As := As) (rest := rest) (b := b) S0 hM (cwV n S0.2.2.2.2 hg rfl hrm.1 hrm.2 ⟨hC, hd⟩ hR) ⟨gPc_blind fb, hcell, fun U hU hW => ⟨rfl, by rw [hU], by rw [hU]; exact hP, va_K.moved hW.alike hK, fw U hU hW⟩⟩ rfl hn hl hst (lv_room hW) hdg hcs) hS (fun q _ h => hA1 q h) hA1 (fun r S1 t H1 locs1 ht _ hp hB _ _ hS1 => ?_)
  exact kk r S1 H1 locs1 hp (by rw [← ht]; exact hB) hS1
theorem g_Vv {post : CS → Prop} (S0 : CallFix p m c cc nL s args lw_gd own) (hM : Met l y (Cond.code y bytes maxL ret :: lw_gd) rm (gPc D tys Wf FX A1 H.size S (.ref b :: As)) (va_Qv post (gB D Wf) A1) 0 0 A1)
    (hg : GoodIn lw_gd (wsV own index C y (Cond.code y bytes maxL ret :: lw_gd))) (hC : y.cls = C) (hd : y.cls ≠ "java/lang/invoke/MethodHandle" ∧ y.cls ≠ "java/lang/invoke/VarHandle" ∧ (parseMethodDescriptor y.desc).map (fun d => d.parameters.length) = some n) (hrm : rm.cells = 0 ∧ rm.slots = 0) (hR : rm.frames + 1 ≤ R.frames ∧ 8 + (maxL + 11) + rm.locals ≤ R.locals)
    (hcell : ∃ cell : Cell, H[b]? = some cell ∧ cell.vm.isStatics = false ∧ s.vm.findClass C = some cell.cls) (hK : va_K D vwCl tys s) (hP : va_P D vwCl (Wf S) H) (hS : va_S A s.heap H locs) (fb : ∀ (U : State) (g : JFrame) (mk : MethodId) (a : Array Value), FX A1 U → FX A1 (U.calling g mk a)) (fw : ∀ U : State, U.heap = H → s.WarmedH U.vm → FX A1 U) (hA1 : ∀ q, A1 q → A q)
    (hn : As.length = n) (hl : ls.size = nL) (hst : st0 = As.reverse ++ .ref b :: rest) (hW : (rest.map fun v => v.category).sum ≤ 8) (hdg : decode cc pc = .ok (.invokevirtual index, 3)) (hcs : cells ≤ R.cells ∧ slots ≤ R.slots)
    (kk : ∀ (S1 : CS) (H1 : Heap) (locs1 : List Loc), post S1 → va_P D vwCl (Wf S1) H1 → va_S A s.heap H1 locs1 → W p l e R s m args below meth c H1 locs1 cells slots Q (F0 m (pc + 3) ls rest)) : W p l e R s m args below meth c H locs cells slots Q (F0 m pc ls st0) := by
  refine va_callv (va_runV (As := As) (rest := rest) (b := b) S0 hM (cwV n S0.2.2.2.2 hg rfl hrm.1 hrm.2 ⟨hC, hd⟩ hR) ⟨gPc_blind fb, hcell, fun U hU hW => ⟨rfl, by rw [hU], by rw [hU]; exact hP, va_K.moved hW.alike hK, fw U hU hW⟩⟩ rfl hn hl hst (lv_room hW) hdg hcs) hS (fun q _ h => hA1 q h) hA1 (fun S1 t H1 locs1 ht _ hp hB _ _ hS1 => ?_)
  exact kk S1 H1 locs1 hp (by rw [← ht]; exact hB) hS1
theorem g_Si {post : Int32 → CS → Prop} (S0 : CallFix p m c cc nL s args lw_gd own) (hM : Met l y (Cond.code y bytes maxL ret :: lw_gd) rm (gPc D tys Wf FX A1 H.size S As) (va_Qi post (gB D Wf) A1) 0 0 A1)
    (hg : GoodIn lw_gd (va_wsS own index y (Cond.code y bytes maxL ret :: lw_gd))) (hd : y.cls ≠ "java/lang/invoke/MethodHandle" ∧ y.cls ≠ "java/lang/invoke/VarHandle" ∧ (parseMethodDescriptor y.desc).map (fun d => d.parameters.length) = some n) (hrm : rm.cells = 0 ∧ rm.slots = 0) (hR : rm.frames + 1 ≤ R.frames ∧ 8 + (maxL + 11) + rm.locals ≤ R.locals)
    (hK : va_K D vwCl tys s) (hP : va_P D vwCl (Wf S) H) (hS : va_S A s.heap H locs) (fb : ∀ (U : State) (g : JFrame) (mk : MethodId) (a : Array Value), FX A1 U → FX A1 (U.calling g mk a)) (fw : ∀ U : State, U.heap = H → s.WarmedH U.vm → FX A1 U) (hA1 : ∀ q, A1 q → A q)
    (hn : As.length = n) (hl : ls.size = nL) (hst : st0 = As.reverse ++ rest) (hW : (rest.map fun v => v.category).sum ≤ 8) (hdg : decode cc pc = .ok (.invokestatic index, 3)) (hcs : cells ≤ R.cells ∧ slots ≤ R.slots)
    (kk : ∀ (r : Int32) (S1 : CS) (H1 : Heap) (locs1 : List Loc), post r S1 → va_P D vwCl (Wf S1) H1 → va_S A s.heap H1 locs1 → W p l e R s m args below meth c H1 locs1 cells slots Q (F0 m (pc + 3) ls (.int r :: rest))) : W p l e R s m args below meth c H locs cells slots Q (F0 m pc ls st0) := by
  refine va_calli (va_runS (As := As) (rest := rest) S0 hM (va_cwS n S0.2.2.2.2 hg rfl hrm.1 hrm.2 hd hR) ⟨gPc_blind fb, fun U hU hW => ⟨rfl, by rw [hU], by rw [hU]; exact hP, va_K.moved hW.alike hK, fw U hU hW⟩⟩ rfl hn hl hst (lv_room hW) hdg hcs) hS (fun q _ h => hA1 q h) hA1 (fun r S1 t H1 locs1 ht _ hp hB _ _ hS1 => ?_)
  exact kk r S1 H1 locs1 hp (by rw [← ht]; exact hB) hS1
theorem g_Sv {post : CS → Prop} (S0 : CallFix p m c cc nL s args lw_gd own) (hM : Met l y (Cond.code y bytes maxL ret :: lw_gd) rm (gPc D tys Wf FX A1 H.size S As) (va_Qv post (gB D Wf) A1) 0 0 A1)
    (hg : GoodIn lw_gd (va_wsS own index y (Cond.code y bytes maxL ret :: lw_gd))) (hd : y.cls ≠ "java/lang/invoke/MethodHandle" ∧ y.cls ≠ "java/lang/invoke/VarHandle" ∧ (parseMethodDescriptor y.desc).map (fun d => d.parameters.length) = some n) (hrm : rm.cells = 0 ∧ rm.slots = 0) (hR : rm.frames + 1 ≤ R.frames ∧ 8 + (maxL + 11) + rm.locals ≤ R.locals)
    (hK : va_K D vwCl tys s) (hP : va_P D vwCl (Wf S) H) (hS : va_S A s.heap H locs) (fb : ∀ (U : State) (g : JFrame) (mk : MethodId) (a : Array Value), FX A1 U → FX A1 (U.calling g mk a)) (fw : ∀ U : State, U.heap = H → s.WarmedH U.vm → FX A1 U) (hA1 : ∀ q, A1 q → A q)
    (hn : As.length = n) (hl : ls.size = nL) (hst : st0 = As.reverse ++ rest) (hW : (rest.map fun v => v.category).sum ≤ 8) (hdg : decode cc pc = .ok (.invokestatic index, 3)) (hcs : cells ≤ R.cells ∧ slots ≤ R.slots)
    (kk : ∀ (S1 : CS) (H1 : Heap) (locs1 : List Loc), post S1 → va_P D vwCl (Wf S1) H1 → va_S A s.heap H1 locs1 → W p l e R s m args below meth c H1 locs1 cells slots Q (F0 m (pc + 3) ls rest)) : W p l e R s m args below meth c H locs cells slots Q (F0 m pc ls st0) := by
  refine va_callv (va_runS (As := As) (rest := rest) S0 hM (va_cwS n S0.2.2.2.2 hg rfl hrm.1 hrm.2 hd hR) ⟨gPc_blind fb, fun U hU hW => ⟨rfl, by rw [hU], by rw [hU]; exact hP, va_K.moved hW.alike hK, fw U hU hW⟩⟩ rfl hn hl hst (lv_room hW) hdg hcs) hS (fun q _ h => hA1 q h) hA1 (fun S1 t H1 locs1 ht _ hp hB _ _ hS1 => ?_)
  exact kk S1 H1 locs1 hp (by rw [← ht]; exact hB) hS1
end GCALL
