/-! THE CLAIM OUT OF ONE WALK OF THE LAW'S BODY. Your part is whole_start (and what it stands on); all else here is the same for every law, but numbers. -/
def R_law : String := "BesomYardLaw"
def lw_P (b : Addr) (xs : List Int32) (args : Array Value) (s : State) : Prop := args = #[.ref b] ∧ s.IntsAt b xs ∧ xs.length ≤ 320 ∧ (Jvm.Cond.and given_1 narrow_1).before args s = true
def lw_Q (_ : Array Value) (s : State) (o : Outcome) (t : State) : Prop := o = .returned (some (.int 1)) ∧ Framed s o t [] 600000 7302250
def lw_Z (below : List Frame) (a : Array Value) (s : State) : State → Prop := fun t => ∃ o, t.status = .running ∧ Ended t below o ∧ lw_Q a s o t
/-- the law's own end, with 1 on the stack, nothing written that was there before, its room as the claim has it -/
theorem lw_ret {p : Program} {l : Launch} {e : Env} {s : State} {m : MethodId} {below : List Frame} {meth : Method} {c : Code} {b : Nat} (hx : p.tables.exec = Jvm.exec) (hb : c.code = code) (hr : meth.sig.returnType = ret) (hlocks : meth.locks = false) {pc : Nat} {H : Heap} {ls : Array Slot} (hdg : decode code pc = .ok (.ireturn, 1)) : W p l e room_1 s m #[Value.ref b] below meth c H [] 600000 7302250 (lw_Z below #[Value.ref b] s) (F0 m pc ls [.int 1]) := by
  intro T hT X
  obtain ⟨fs, hret, hrun, hended, hW, hframe⟩ := X.leave (v := some (.int 1)) (hlocks := hlocks) (fun h => by rw [hr] at h; cases h)
  have hmeth' : T.vm.method? m = some meth := X.method'
  refine ⟨T.setFrames fs, ?_, .returned (some (.int 1)), hrun, hended, rfl, ⟨_, rfl⟩, hW, hframe⟩
  jvm_step X.here [X.here.top, hx, hb, hdg, hmeth', hr, ret, narrow_b1]
  (try refine ⟨rfl, ?_⟩); (try refine ⟨rfl, ?_⟩)
  first | (intro acts; rw [hret _ acts rfl rfl rfl]) | rw [hret _ _ rfl rfl rfl]
  exact Steps.refl _
/-- what holds at the law's entry: the machine, the code, the tables' words (any of lw_tbl by 'hts w (by decide +kernel)'), the script of L ints xs at the cell b, what the Statement gives of the start (any of its parts by flat_of_before) -/
def lw_At (p : Program) (s : State) (m : MethodId) (meth : Method) (c : Code) (b L : Nat) (xs : Nat → Int32) : Prop :=
  p.tables.exec = Jvm.exec ∧ c.code = code ∧ meth.sig.returnType = ret ∧ c.maxLocals = 4 ∧ s.vm.findClass R_law = some m.cls ∧ (∀ w ∈ lw_tbl, w.before #[Value.ref b] s = true) ∧ va_X b L xs s s.heap ∧ b < s.heap.size ∧ meth.locks = false ∧ (Jvm.Cond.and given_1 narrow_1).before #[Value.ref b] s = true

abbrev A0 (s : State) : Nat → Prop := fun q => s.heap.size ≤ q
def lawCtx (p : Program) (s : State) (m : MethodId) (meth : Method) (c : Code) (b L : Nat) (xs : Nat → Int32) (D : va_G) (X Y : XE) : Prop :=
  p.tables.exec = Jvm.exec ∧ c.code = code ∧ c.maxLocals = 4 ∧ s.vm.findClass RL = some m.cls ∧ (∀ w ∈ lw_gd, w.before #[Value.ref b] s = true) ∧ va_X b L xs s s.heap ∧ b < s.heap.size ∧ va_K D vwCl (tyX X) s ∧ FXc X (A0 s) s ∧ Inj 75 X.1 ∧ Inj 18 Y.1 ∧ Y.2 = X.2 ∧ (∀ k, k < 75 → s.heap.size ≤ X.1 k) ∧ (∀ k, k < 18 → s.heap.size ≤ Y.1 k) ∧ (∀ i, i < 75 → ∀ j, j < 18 → X.1 i ≠ Y.1 j)
section LAW
variable {p : Program} {l : Launch} {e : Env} {s : State} {m : MethodId} {below : List Frame} {meth : Method} {c : Code} {H : Heap} {locs : List Loc} {cells slots : Nat} {Q : State → Prop}
variable {pc : Nat} {ls : Array Slot} {rest st0 : List Value} {D : va_G} {X Y : XE} {b L : Nat} {xs : Nat → Int32}
variable {y : MethodName} {bytes : ByteArray} {maxL n index : Nat} {ret : Option FieldType} {rm : Room} {As : List Value} {S R : CS}
theorem g_sld (hC : lawCtx p s m meth c b L xs D X Y) (hS : va_S (A0 s) s.heap H locs) (j : Nat) (hj : j < L) (hL : L ≤ 320) {i : Int32} (hi : i = nI j) (hdg : decode code pc = .ok (.iaload, 1))
    (kk : W p l e room_1 s m #[Value.ref b] below meth c H locs cells slots Q (F0 m (pc + 1) ls (.int (xs j) :: rest))) : W p l e room_1 s m #[Value.ref b] below meth c H locs cells slots Q (F0 m pc ls (.int i :: .ref b :: rest)) := by
  obtain ⟨hx, hb, hml, hown, hT, hX, hbl, -⟩ := hC
  subst hi
  refine va_sld hx hb hX hbl (Nat.not_le.mpr hbl) hS (vp_in_nI hj (by omega)) hdg ?_
  rw [nI_clamp (by omega)]
  exact kk
theorem kept_R (hC : lawCtx p s m meth c b L xs D X Y) {H1 : Heap} (hk : ∀ q : Nat, q < H.size → ¬ AX 75 X.1 H.size q → H1[q]? = H[q]?) (hPr : va_P D vwCl (RW Y R) H) : va_P D vwCl (RW Y R) H1 := by
  obtain ⟨-, -, -, -, -, -, -, -, -, hIX, hIY, hYX, hXs, hYs, hdis⟩ := hC
  intro k x hx
  have h1 := hPr k x hx
  obtain ⟨hk18, rfl⟩ := gw_lt hx
  refine h1.kept (hk _ h1.lt (fun h => ?_))
  rcases h with ⟨i, hi, he⟩ | h
  · exact hdis i hi k hk18 he.symm
  · exact absurd h1.lt (Nat.not_lt.mpr h)
theorem kept_C (hC : lawCtx p s m meth c b L xs D X Y) {H1 : Heap} (hk : ∀ q : Nat, q < H.size → ¬ AX 18 Y.1 H.size q → H1[q]? = H[q]?) (hPc : va_P D vwCl (CW X S) H) : va_P D vwCl (CW X S) H1 := by
  obtain ⟨-, -, -, -, -, -, -, -, -, hIX, hIY, hYX, hXs, hYs, hdis⟩ := hC
  intro k x hx
  have h1 := hPc k x hx
  obtain ⟨hk75, rfl⟩ := gw_lt hx
  refine h1.kept (hk _ h1.lt (fun h => ?_))
  rcases h with ⟨i, hi, he⟩ | h
  · exact hdis k hk75 i hi he
  · exact absurd h1.lt (Nat.not_lt.mpr h)
theorem axA_C (hC : lawCtx p s m meth c b L xs D X Y) (hS : va_S (A0 s) s.heap H locs) : ∀ q, AX 75 X.1 H.size q → A0 s q := by
  obtain ⟨-, -, -, -, -, -, -, -, -, hIX, hIY, hYX, hXs, hYs, hdis⟩ := hC
  intro q h
  rcases h with ⟨i, hi, rfl⟩ | h
  · exact hXs i hi
  · exact Nat.le_trans hS.1 h
theorem axA_R (hC : lawCtx p s m meth c b L xs D X Y) (hS : va_S (A0 s) s.heap H locs) : ∀ q, AX 18 Y.1 H.size q → A0 s q := by
  obtain ⟨-, -, -, -, -, -, -, -, -, hIX, hIY, hYX, hXs, hYs, hdis⟩ := hC
  intro q h
  rcases h with ⟨i, hi, rfl⟩ | h
  · exact hYs i hi
  · exact Nat.le_trans hS.1 h
theorem lawC_i {post : Int32 → CS → Prop} (hC : lawCtx p s m meth c b L xs D X Y) (hPc : va_P D vwCl (CW X S) H) (hPr : va_P D vwCl (RW Y R) H) (hS : va_S (A0 s) s.heap H locs) (hM : Met l y (Cond.code y bytes maxL ret :: lw_gd) rm (gPc D (tyX X) (CW X) (FXc X) (AX 75 X.1 H.size) H.size S (.ref (X.1 0) :: As)) (va_Qi post (gB D (CW X)) (AX 75 X.1 H.size)) 0 0 (AX 75 X.1 H.size)) (hg : GoodIn lw_gd (wsV RL index RX6 y (Cond.code y bytes maxL ret :: lw_gd))) (hcl : y.cls = RX6) (hd : y.cls ≠ "java/lang/invoke/MethodHandle" ∧ y.cls ≠ "java/lang/invoke/VarHandle" ∧ (parseMethodDescriptor y.desc).map (fun d => d.parameters.length) = some n) (hrm : rm.cells = 0 ∧ rm.slots = 0) (hR : rm.frames + 1 ≤ 12 ∧ 8 + (maxL + 11) + rm.locals ≤ 458) (hn : As.length = n) (hl : ls.size = 4) (hst : st0 = As.reverse ++ .ref (X.1 0) :: rest) (hW : (rest.map fun v => v.category).sum ≤ 8) (hdg : decode code pc = .ok (.invokevirtual index, 3)) (hcs : cells ≤ 600000 ∧ slots ≤ 7302250) (kk : ∀ (r : Int32) (S1 : CS) (H1 : Heap) (locs1 : List Loc), post r S1 → va_P D vwCl (CW X S1) H1 → va_P D vwCl (RW Y R) H1 → va_S (A0 s) s.heap H1 locs1 → W p l e room_1 s m #[Value.ref b] below meth c H1 locs1 cells slots Q (F0 m (pc + 3) ls (.int r :: rest))) : W p l e room_1 s m #[Value.ref b] below meth c H locs cells slots Q (F0 m pc ls st0) := by
  obtain ⟨hx, hb, hml, hown, hT, hX, hbl, hK, hF, hIX, hIY, hYX, hXs, hYs, hdis⟩ := id hC
  have hK2 : va_K D vwCl (tyX X) s := hK
  refine va_calli (va_runV (As := As) (rest := rest) (b := X.1 0) ⟨hx, hb, hml, hown, hT⟩ hM (cwV n hT hg rfl hrm.1 hrm.2 ⟨hcl, hd⟩ hR) ⟨gPc_blind (FX := FXc X) FXc.call, va_recv hK2 hPc (ci := 6) (q0 := 0) rfl cw_Yard, fun U hU hW => ⟨rfl, by rw [hU], by rw [hU]; exact hPc, va_K.moved hW.alike hK2, hF.go hW (fun q h1 h2 => by rw [hU]; exact hS.2.1 q h1 h2) (axA_C hC hS)⟩⟩ rfl hn hl hst (lv_room hW) hdg hcs) hS (fun q _ h => axA_C hC hS q h) (axA_C hC hS) (fun r S1 t H1 locs1 ht _ hp hB _ hk hS1 => ?_)
  exact kk r S1 H1 locs1 hp (by rw [← ht]; exact hB) (kept_R hC hk hPr) hS1
theorem lawC_l {post : Int64 → CS → Prop} (hC : lawCtx p s m meth c b L xs D X Y) (hPc : va_P D vwCl (CW X S) H) (hPr : va_P D vwCl (RW Y R) H) (hS : va_S (A0 s) s.heap H locs) (hM : Met l y (Cond.code y bytes maxL ret :: lw_gd) rm (gPc D (tyX X) (CW X) (FXc X) (AX 75 X.1 H.size) H.size S (.ref (X.1 0) :: As)) (va_Ql post (gB D (CW X)) (AX 75 X.1 H.size)) 0 0 (AX 75 X.1 H.size)) (hg : GoodIn lw_gd (wsV RL index RX6 y (Cond.code y bytes maxL ret :: lw_gd))) (hcl : y.cls = RX6) (hd : y.cls ≠ "java/lang/invoke/MethodHandle" ∧ y.cls ≠ "java/lang/invoke/VarHandle" ∧ (parseMethodDescriptor y.desc).map (fun d => d.parameters.length) = some n) (hrm : rm.cells = 0 ∧ rm.slots = 0) (hR : rm.frames + 1 ≤ 12 ∧ 8 + (maxL + 11) + rm.locals ≤ 458) (hn : As.length = n) (hl : ls.size = 4) (hst : st0 = As.reverse ++ .ref (X.1 0) :: rest) (hW : (rest.map fun v => v.category).sum ≤ 8) (hdg : decode code pc = .ok (.invokevirtual index, 3)) (hcs : cells ≤ 600000 ∧ slots ≤ 7302250) (kk : ∀ (r : Int64) (S1 : CS) (H1 : Heap) (locs1 : List Loc), post r S1 → va_P D vwCl (CW X S1) H1 → va_P D vwCl (RW Y R) H1 → va_S (A0 s) s.heap H1 locs1 → W p l e room_1 s m #[Value.ref b] below meth c H1 locs1 cells slots Q (F0 m (pc + 3) ls (.long r :: rest))) : W p l e room_1 s m #[Value.ref b] below meth c H locs cells slots Q (F0 m pc ls st0) := by
  obtain ⟨hx, hb, hml, hown, hT, hX, hbl, hK, hF, hIX, hIY, hYX, hXs, hYs, hdis⟩ := id hC
  have hK2 : va_K D vwCl (tyX X) s := hK
  refine va_calll (va_runV (As := As) (rest := rest) (b := X.1 0) ⟨hx, hb, hml, hown, hT⟩ hM (cwV n hT hg rfl hrm.1 hrm.2 ⟨hcl, hd⟩ hR) ⟨gPc_blind (FX := FXc X) FXc.call, va_recv hK2 hPc (ci := 6) (q0 := 0) rfl cw_Yard, fun U hU hW => ⟨rfl, by rw [hU], by rw [hU]; exact hPc, va_K.moved hW.alike hK2, hF.go hW (fun q h1 h2 => by rw [hU]; exact hS.2.1 q h1 h2) (axA_C hC hS)⟩⟩ rfl hn hl hst (lv_room hW) hdg hcs) hS (fun q _ h => axA_C hC hS q h) (axA_C hC hS) (fun r S1 t H1 locs1 ht _ hp hB _ hk hS1 => ?_)
  exact kk r S1 H1 locs1 hp (by rw [← ht]; exact hB) (kept_R hC hk hPr) hS1
theorem lawR_i {post : Int32 → CS → Prop} (hC : lawCtx p s m meth c b L xs D X Y) (hPc : va_P D vwCl (CW X S) H) (hPr : va_P D vwCl (RW Y R) H) (hS : va_S (A0 s) s.heap H locs) (hM : Met l y (Cond.code y bytes maxL ret :: lw_gd) rm (gPc D (tyX Y) (RW Y) (FXr Y) (AX 18 Y.1 H.size) H.size R (.ref (Y.1 0) :: As)) (va_Qi post (gB D (RW Y)) (AX 18 Y.1 H.size)) 0 0 (AX 18 Y.1 H.size)) (hg : GoodIn lw_gd (wsV RL index RX7 y (Cond.code y bytes maxL ret :: lw_gd))) (hcl : y.cls = RX7) (hd : y.cls ≠ "java/lang/invoke/MethodHandle" ∧ y.cls ≠ "java/lang/invoke/VarHandle" ∧ (parseMethodDescriptor y.desc).map (fun d => d.parameters.length) = some n) (hrm : rm.cells = 0 ∧ rm.slots = 0) (hR : rm.frames + 1 ≤ 12 ∧ 8 + (maxL + 11) + rm.locals ≤ 458) (hn : As.length = n) (hl : ls.size = 4) (hst : st0 = As.reverse ++ .ref (Y.1 0) :: rest) (hW : (rest.map fun v => v.category).sum ≤ 8) (hdg : decode code pc = .ok (.invokevirtual index, 3)) (hcs : cells ≤ 600000 ∧ slots ≤ 7302250) (kk : ∀ (r : Int32) (S1 : CS) (H1 : Heap) (locs1 : List Loc), post r S1 → va_P D vwCl (CW X S) H1 → va_P D vwCl (RW Y S1) H1 → va_S (A0 s) s.heap H1 locs1 → W p l e room_1 s m #[Value.ref b] below meth c H1 locs1 cells slots Q (F0 m (pc + 3) ls (.int r :: rest))) : W p l e room_1 s m #[Value.ref b] below meth c H locs cells slots Q (F0 m pc ls st0) := by
  obtain ⟨hx, hb, hml, hown, hT, hX, hbl, hK, hF, hIX, hIY, hYX, hXs, hYs, hdis⟩ := id hC
  have hK2 : va_K D vwCl (tyX Y) s := by unfold tyX; rw [hYX]; exact hK
  refine va_calli (va_runV (As := As) (rest := rest) (b := Y.1 0) ⟨hx, hb, hml, hown, hT⟩ hM (cwV n hT hg rfl hrm.1 hrm.2 ⟨hcl, hd⟩ hR) ⟨gPc_blind (FX := FXr Y) (fun _ _ _ _ _ => trivial), va_recv hK2 hPr (ci := 7) (q0 := 0) rfl rw_Model, fun U hU hW => ⟨rfl, by rw [hU], by rw [hU]; exact hPr, va_K.moved hW.alike hK2, trivial⟩⟩ rfl hn hl hst (lv_room hW) hdg hcs) hS (fun q _ h => axA_R hC hS q h) (axA_R hC hS) (fun r S1 t H1 locs1 ht _ hp hB _ hk hS1 => ?_)
  exact kk r S1 H1 locs1 hp (kept_C hC hk hPc) (by rw [← ht]; exact hB) hS1
theorem lawR_l {post : Int64 → CS → Prop} (hC : lawCtx p s m meth c b L xs D X Y) (hPc : va_P D vwCl (CW X S) H) (hPr : va_P D vwCl (RW Y R) H) (hS : va_S (A0 s) s.heap H locs) (hM : Met l y (Cond.code y bytes maxL ret :: lw_gd) rm (gPc D (tyX Y) (RW Y) (FXr Y) (AX 18 Y.1 H.size) H.size R (.ref (Y.1 0) :: As)) (va_Ql post (gB D (RW Y)) (AX 18 Y.1 H.size)) 0 0 (AX 18 Y.1 H.size)) (hg : GoodIn lw_gd (wsV RL index RX7 y (Cond.code y bytes maxL ret :: lw_gd))) (hcl : y.cls = RX7) (hd : y.cls ≠ "java/lang/invoke/MethodHandle" ∧ y.cls ≠ "java/lang/invoke/VarHandle" ∧ (parseMethodDescriptor y.desc).map (fun d => d.parameters.length) = some n) (hrm : rm.cells = 0 ∧ rm.slots = 0) (hR : rm.frames + 1 ≤ 12 ∧ 8 + (maxL + 11) + rm.locals ≤ 458) (hn : As.length = n) (hl : ls.size = 4) (hst : st0 = As.reverse ++ .ref (Y.1 0) :: rest) (hW : (rest.map fun v => v.category).sum ≤ 8) (hdg : decode code pc = .ok (.invokevirtual index, 3)) (hcs : cells ≤ 600000 ∧ slots ≤ 7302250) (kk : ∀ (r : Int64) (S1 : CS) (H1 : Heap) (locs1 : List Loc), post r S1 → va_P D vwCl (CW X S) H1 → va_P D vwCl (RW Y S1) H1 → va_S (A0 s) s.heap H1 locs1 → W p l e room_1 s m #[Value.ref b] below meth c H1 locs1 cells slots Q (F0 m (pc + 3) ls (.long r :: rest))) : W p l e room_1 s m #[Value.ref b] below meth c H locs cells slots Q (F0 m pc ls st0) := by
  obtain ⟨hx, hb, hml, hown, hT, hX, hbl, hK, hF, hIX, hIY, hYX, hXs, hYs, hdis⟩ := id hC
  have hK2 : va_K D vwCl (tyX Y) s := by unfold tyX; rw [hYX]; exact hK
  refine va_calll (va_runV (As := As) (rest := rest) (b := Y.1 0) ⟨hx, hb, hml, hown, hT⟩ hM (cwV n hT hg rfl hrm.1 hrm.2 ⟨hcl, hd⟩ hR) ⟨gPc_blind (FX := FXr Y) (fun _ _ _ _ _ => trivial), va_recv hK2 hPr (ci := 7) (q0 := 0) rfl rw_Model, fun U hU hW => ⟨rfl, by rw [hU], by rw [hU]; exact hPr, va_K.moved hW.alike hK2, trivial⟩⟩ rfl hn hl hst (lv_room hW) hdg hcs) hS (fun q _ h => axA_R hC hS q h) (axA_R hC hS) (fun r S1 t H1 locs1 ht _ hp hB _ hk hS1 => ?_)
  exact kk r S1 H1 locs1 hp (kept_C hC hk hPc) (by rw [← ht]; exact hB) hS1
def Sims (Rel : Nat → CS → CS → Prop) : Prop :=
  (∀ (k : Nat) (S R : CS) (x1 : Int32), k < 64 → Rel k S R → p_X6_type S x1 (fun r S1 => p_X7_type R x1 (fun r2 R1 => r = r2 ∧ Rel (k + 1) S1 R1))) ∧
  (∀ (k : Nat) (S R : CS) , k < 64 → Rel k S R → p_X6_clear S  (fun r S1 => p_X7_clear R  (fun r2 R1 => r = r2 ∧ Rel (k + 1) S1 R1))) ∧
  (∀ (k : Nat) (S R : CS) , k < 64 → Rel k S R → p_X6_yard S  (fun r S1 => p_X7_yard R  (fun r2 R1 => r = r2 ∧ Rel (k + 1) S1 R1))) ∧
  (∀ (k : Nat) (S R : CS) (x1 : Int32) (x2 : Int32), k < 64 → Rel k S R → p_X6_part S x1 x2 (fun r S1 => p_X7_part R x1 x2 (fun r2 R1 => r = r2 ∧ Rel (k + 1) S1 R1))) ∧
  (∀ (k : Nat) (S R : CS) (x1 : Int32) (x2 : Int32), k < 64 → Rel k S R → p_X6_order S x1 x2 (fun r S1 => p_X7_order R x1 x2 (fun r2 R1 => r = r2 ∧ Rel (k + 1) S1 R1))) ∧
  (∀ (k : Nat) (S R : CS) (x1 : Int32), k < 64 → Rel k S R → p_X6_side S x1 (fun r S1 => p_X7_side R x1 (fun r2 R1 => r = r2 ∧ Rel (k + 1) S1 R1))) ∧
  (∀ (k : Nat) (S R : CS) (x1 : Int32), k < 64 → Rel k S R → p_X6_now S x1 (fun r S1 => p_X7_now R x1 (fun r2 R1 => r = r2 ∧ Rel (k + 1) S1 R1))) ∧
  (∀ (k : Nat) (S R : CS) (x1 : Int32), k < 64 → Rel k S R → p_X6_cuts S x1 (fun r S1 => p_X7_cuts R x1 (fun r2 R1 => r = r2 ∧ Rel (k + 1) S1 R1))) ∧
  (∀ (k : Nat) (S R : CS) , k < 64 → Rel k S R → p_X6_year S  (fun r S1 => p_X7_year R  (fun r2 R1 => r = r2 ∧ Rel (k + 1) S1 R1))) ∧
  (∀ (k : Nat) (S R : CS) (x1 : Int32), k < 64 → Rel k S R → p_X6_binds S x1 (fun r S1 => p_X7_binds R x1 (fun r2 R1 => r = r2 ∧ Rel (k + 1) S1 R1))) ∧
  (∀ (k : Nat) (S R : CS) (x1 : Int32), k < 64 → Rel k S R → p_X6_sends S x1 (fun r S1 => p_X7_sends R x1 (fun r2 R1 => r = r2 ∧ Rel (k + 1) S1 R1))) ∧
  (∀ (k : Nat) (S R : CS) , k < 64 → Rel k S R → p_X6_sweeps S  (fun r S1 => p_X7_sweeps R  (fun r2 R1 => r = r2 ∧ Rel (k + 1) S1 R1))) ∧
  (∀ (k : Nat) (S R : CS) (x1 : Int32), k < 64 → Rel k S R → p_X6_spins S x1 (fun r S1 => p_X7_spins R x1 (fun r2 R1 => r = r2 ∧ Rel (k + 1) S1 R1))) ∧
  (∀ (k : Nat) (S R : CS) , k < 64 → Rel k S R → p_X6_undo S  (fun r S1 => p_X7_undo R  (fun r2 R1 => r = r2 ∧ Rel (k + 1) S1 R1))) ∧
  (∀ (k : Nat) (S R : CS) (x1 : Int32) (x2 : Int32), k < 64 → Rel k S R → p_X6_inYears S x1 x2 (fun r S1 => p_X7_inYears R x1 x2 (fun r2 R1 => r = r2 ∧ Rel (k + 1) S1 R1))) ∧
  (∀ (k : Nat) (S R : CS) (x1 : Int32) (x2 : Int32), k < 64 → Rel k S R → p_X6_turn S x1 x2 (fun r S1 => p_X7_turn R x1 x2 (fun r2 R1 => r = r2 ∧ Rel (k + 1) S1 R1))) ∧
  (∀ (k : Nat) (S R : CS) (x1 : Int32) (x2 : Int32), k < 64 → Rel k S R → p_X6_plan S x1 x2 (fun r S1 => p_X7_plan R x1 x2 (fun r2 R1 => r = r2 ∧ Rel (k + 1) S1 R1))) ∧
  (∀ (k : Nat) (S R : CS) (x1 : Int32), k < 64 → Rel k S R → p_X6_kept S x1 (fun r S1 => p_X7_kept R x1 (fun r2 R1 => r = r2 ∧ Rel (k + 1) S1 R1))) ∧
  (∀ (k : Nat) (S R : CS) (x1 : Int32), k < 64 → Rel k S R → p_X6_next S x1 (fun r S1 => p_X7_next R x1 (fun r2 R1 => r = r2 ∧ Rel (k + 1) S1 R1))) ∧
  (∀ (k : Nat) (S R : CS) , k < 64 → Rel k S R → p_X6_lack S  (fun r S1 => p_X7_lack R  (fun r2 R1 => r = r2 ∧ Rel (k + 1) S1 R1))) ∧
  (∀ (k : Nat) (S R : CS) , k < 64 → Rel k S R → p_X6_cutFor S  (fun r S1 => p_X7_cutFor R  (fun r2 R1 => r = r2 ∧ Rel (k + 1) S1 R1))) ∧
  (∀ (k : Nat) (S R : CS) , k < 64 → Rel k S R → p_X6_allBy S  (fun r S1 => p_X7_allBy R  (fun r2 R1 => r = r2 ∧ Rel (k + 1) S1 R1))) ∧
  (∀ (k : Nat) (S R : CS) (x1 : Int32), k < 64 → Rel k S R → p_X6_lasts S x1 (fun r S1 => p_X7_lasts R x1 (fun r2 R1 => r = r2 ∧ Rel (k + 1) S1 R1))) ∧
  (∀ (k : Nat) (S R : CS) , k < 64 → Rel k S R → p_X6_latest S  (fun r S1 => p_X7_latest R  (fun r2 R1 => r = r2 ∧ Rel (k + 1) S1 R1))) ∧
  (∀ (k : Nat) (S R : CS) (x1 : Int32) (x2 : Int32) (x3 : Int32), k < 64 → Rel k S R → p_X6_saw S x1 x2 x3 (fun r S1 => p_X7_saw R x1 x2 x3 (fun r2 R1 => r = r2 ∧ Rel (k + 1) S1 R1))) ∧
  (∀ (k : Nat) (S R : CS) , k < 64 → Rel k S R → p_X6_forget S  (fun r S1 => p_X7_forget R  (fun r2 R1 => r = r2 ∧ Rel (k + 1) S1 R1))) ∧
  (∀ (k : Nat) (S R : CS) , k < 64 → Rel k S R → p_X6_which S  (fun r S1 => p_X7_which R  (fun r2 R1 => r = r2 ∧ Rel (k + 1) S1 R1))) ∧
  (∀ (k : Nat) (S R : CS) (x1 : Int32) (x2 : Int32) (x3 : Int32) (x4 : Int32), k < 64 → Rel k S R → p_X6_odds S x1 x2 x3 x4 (fun r S1 => p_X7_odds R x1 x2 x3 x4 (fun r2 R1 => r = r2 ∧ Rel (k + 1) S1 R1))) ∧
  (∀ (k : Nat) (S R : CS) (x1 : Int32) (x2 : Int32), k < 64 → Rel k S R → p_X6_rate S x1 x2 (fun r S1 => p_X7_rate R x1 x2 (fun r2 R1 => r = r2 ∧ Rel (k + 1) S1 R1))) ∧
  (∀ (k : Nat) (S R : CS) (x1 : Int32), k < 64 → Rel k S R → p_X6_keep S x1 (fun r S1 => p_X7_keep R x1 (fun r2 R1 => r = r2 ∧ Rel (k + 1) S1 R1))) ∧
  (∀ (k : Nat) (S R : CS) (x1 : Int32), k < 64 → Rel k S R → p_X6_back S x1 (fun r S1 => p_X7_back R x1 (fun r2 R1 => r = r2 ∧ Rel (k + 1) S1 R1))) ∧
  (∀ (k : Nat) (S R : CS) (x1 : Int32), k < 64 → Rel k S R → p_X6_count S x1 (fun r S1 => p_X7_count R x1 (fun r2 R1 => r = r2 ∧ Rel (k + 1) S1 R1))) ∧
  (∀ (k : Nat) (S R : CS) , k < 64 → Rel k S R → p_X6_trace S  (fun r S1 => p_X7_trace R  (fun r2 R1 => r = r2 ∧ Rel (k + 1) S1 R1))) ∧
  (∀ (k : Nat) (S R : CS), k < 64 → Rel k S R → Rel (k + 1) S R)
set_option maxHeartbeats 4000000 in
theorem lawK_type {k : Nat} {Rl : CS → CS → Prop} (hC : lawCtx p s m meth c b L xs D X Y) (hL : L ≤ 320) (hk : 5 * k + 5 ≤ L) (hsim : p_X6_type S (xs (5 * k + 1)) (fun r S1 => p_X7_type R (xs (5 * k + 1)) (fun r2 R1 => r = r2 ∧ Rl S1 R1))) (hPc : va_P D vwCl (CW X S) H) (hPr : va_P D vwCl (RW Y R) H) (hS : va_S (A0 s) s.heap H locs) (hl : lv_has ls 4 [(0, .ref b), (1, .ref (X.1 0)), (2, .ref (Y.1 0)), (3, .int (nI (5 * k)))]) (hcs : cells ≤ 600000 ∧ slots ≤ 7302250) (kk : ∀ (S1 R1 : CS) (H1 : Heap) (locs1 : List Loc), Rl S1 R1 → va_P D vwCl (CW X S1) H1 → va_P D vwCl (RW Y R1) H1 → va_S (A0 s) s.heap H1 locs1 → W p l e room_1 s m #[Value.ref b] below meth c H1 locs1 cells slots Q (F0 m 930 ls [])) : W p l e room_1 s m #[Value.ref b] below meth c H locs cells slots Q (F0 m 180 ls []) := by
  obtain ⟨hx, hb, hml, hown, hT, hX, hbl, hK, hF, hIX, hIY, hYX, hXs, hYs, hdis⟩ := id hC
  refine lv_aload_n hx hb dL_law_180 rfl (lv_at hl 1 rfl) ?_
  refine lv_aload_n hx hb dL_law_181 rfl (lv_at hl 0 rfl) ?_
  refine lv_iload_n hx hb dL_law_182 rfl (lv_at hl 3 rfl) ?_
  refine lv_iconst (v := 1) hx hb dL_law_183 (by decide) ?_
  refine lv_iadd hx hb dL_law_184 ?_
  refine g_sld hC hS (5 * k + 1) (by omega) hL (show nI (5 * k) + 1 = nI (5 * k + 1) from nI_add (5 * k) 1) dL_law_185 ?_
  refine lawC_i (As := [.int (xs (5 * k + 1))]) (rest := []) hC hPc hPr hS (c_X6_type l D X hIX H.size S (xs (5 * k + 1)) _ hsim) (gd_V wl_L_13 wi_X6_type wv_X6_type wn_X6 wc_X6_type) rfl hd_X6_type ⟨rfl, rfl⟩ ⟨Nat.le_of_ble_eq_true rfl, Nat.le_of_ble_eq_true rfl⟩ rfl hl.1 rfl (Nat.le_of_ble_eq_true rfl) dL_law_186 hcs (fun r1 S1 H locs h1 hPc hPr hS => ?_)
  refine lv_aload_n hx hb dL_law_189 rfl (lv_at hl 2 rfl) ?_
  refine lv_aload_n hx hb dL_law_190 rfl (lv_at hl 0 rfl) ?_
  refine lv_iload_n hx hb dL_law_191 rfl (lv_at hl 3 rfl) ?_
  refine lv_iconst (v := 1) hx hb dL_law_192 (by decide) ?_
  refine lv_iadd hx hb dL_law_193 ?_
  refine g_sld hC hS (5 * k + 1) (by omega) hL (show nI (5 * k) + 1 = nI (5 * k + 1) from nI_add (5 * k) 1) dL_law_194 ?_
  refine lawR_i (As := [.int (xs (5 * k + 1))]) (rest := [.int r1]) hC hPc hPr hS (c_X7_type l D Y hIY H.size R (xs (5 * k + 1)) _ h1) (gd_V wl_L_17 wi_X7_type wv_X7_type wn_X7 wc_X7_type) rfl hd_X7_type ⟨rfl, rfl⟩ ⟨Nat.le_of_ble_eq_true rfl, Nat.le_of_ble_eq_true rfl⟩ rfl hl.1 rfl (Nat.le_of_ble_eq_true rfl) dL_law_195 hcs (fun r2 S2 H locs h2 hPc hPr hS => ?_)
  refine lv_icmp_eq (tgt := 930) hx hb dL_law_198 (by decide) (fun c9 => ?_) (fun c9 => absurd h2.1 c9)
  exact kk S1 S2 H locs h2.2 hPc hPr hS
set_option maxHeartbeats 4000000 in
theorem lawK_clear {k : Nat} {Rl : CS → CS → Prop} (hC : lawCtx p s m meth c b L xs D X Y) (hL : L ≤ 320) (hk : 5 * k + 5 ≤ L) (hsim : p_X6_clear S  (fun r S1 => p_X7_clear R  (fun r2 R1 => r = r2 ∧ Rl S1 R1))) (hPc : va_P D vwCl (CW X S) H) (hPr : va_P D vwCl (RW Y R) H) (hS : va_S (A0 s) s.heap H locs) (hl : lv_has ls 4 [(0, .ref b), (1, .ref (X.1 0)), (2, .ref (Y.1 0)), (3, .int (nI (5 * k)))]) (hcs : cells ≤ 600000 ∧ slots ≤ 7302250) (kk : ∀ (S1 R1 : CS) (H1 : Heap) (locs1 : List Loc), Rl S1 R1 → va_P D vwCl (CW X S1) H1 → va_P D vwCl (RW Y R1) H1 → va_S (A0 s) s.heap H1 locs1 → W p l e room_1 s m #[Value.ref b] below meth c H1 locs1 cells slots Q (F0 m 930 ls [])) : W p l e room_1 s m #[Value.ref b] below meth c H locs cells slots Q (F0 m 203 ls []) := by
  obtain ⟨hx, hb, hml, hown, hT, hX, hbl, hK, hF, hIX, hIY, hYX, hXs, hYs, hdis⟩ := id hC
  refine lv_aload_n hx hb dL_law_203 rfl (lv_at hl 1 rfl) ?_
  refine lawC_i (As := []) (rest := []) hC hPc hPr hS (c_X6_clear l D X hIX H.size S  _ hsim) (gd_V wl_L_18 wi_X6_clear wv_X6_clear wn_X6 wc_X6_clear) rfl hd_X6_clear ⟨rfl, rfl⟩ ⟨Nat.le_of_ble_eq_true rfl, Nat.le_of_ble_eq_true rfl⟩ rfl hl.1 rfl (Nat.le_of_ble_eq_true rfl) dL_law_204 hcs (fun r1 S1 H locs h1 hPc hPr hS => ?_)
  refine lv_aload_n hx hb dL_law_207 rfl (lv_at hl 2 rfl) ?_
  refine lawR_i (As := []) (rest := [.int r1]) hC hPc hPr hS (c_X7_clear l D Y hIY H.size R  _ h1) (gd_V wl_L_22 wi_X7_clear wv_X7_clear wn_X7 wc_X7_clear) rfl hd_X7_clear ⟨rfl, rfl⟩ ⟨Nat.le_of_ble_eq_true rfl, Nat.le_of_ble_eq_true rfl⟩ rfl hl.1 rfl (Nat.le_of_ble_eq_true rfl) dL_law_208 hcs (fun r2 S2 H locs h2 hPc hPr hS => ?_)
  refine lv_icmp_eq (tgt := 930) hx hb dL_law_211 (by decide) (fun c9 => ?_) (fun c9 => absurd h2.1 c9)
  exact kk S1 S2 H locs h2.2 hPc hPr hS
set_option maxHeartbeats 4000000 in
theorem lawK_yard {k : Nat} {Rl : CS → CS → Prop} (hC : lawCtx p s m meth c b L xs D X Y) (hL : L ≤ 320) (hk : 5 * k + 5 ≤ L) (hsim : p_X6_yard S  (fun r S1 => p_X7_yard R  (fun r2 R1 => r = r2 ∧ Rl S1 R1))) (hPc : va_P D vwCl (CW X S) H) (hPr : va_P D vwCl (RW Y R) H) (hS : va_S (A0 s) s.heap H locs) (hl : lv_has ls 4 [(0, .ref b), (1, .ref (X.1 0)), (2, .ref (Y.1 0)), (3, .int (nI (5 * k)))]) (hcs : cells ≤ 600000 ∧ slots ≤ 7302250) (kk : ∀ (S1 R1 : CS) (H1 : Heap) (locs1 : List Loc), Rl S1 R1 → va_P D vwCl (CW X S1) H1 → va_P D vwCl (RW Y R1) H1 → va_S (A0 s) s.heap H1 locs1 → W p l e room_1 s m #[Value.ref b] below meth c H1 locs1 cells slots Q (F0 m 930 ls [])) : W p l e room_1 s m #[Value.ref b] below meth c H locs cells slots Q (F0 m 216 ls []) := by
  obtain ⟨hx, hb, hml, hown, hT, hX, hbl, hK, hF, hIX, hIY, hYX, hXs, hYs, hdis⟩ := id hC
  refine lv_aload_n hx hb dL_law_216 rfl (lv_at hl 1 rfl) ?_
  refine lawC_i (As := []) (rest := []) hC hPc hPr hS (c_X6_yard l D X hIX H.size S  _ hsim) (gd_V wl_L_23 wi_X6_yard wv_X6_yard wn_X6 wc_X6_yard) rfl hd_X6_yard ⟨rfl, rfl⟩ ⟨Nat.le_of_ble_eq_true rfl, Nat.le_of_ble_eq_true rfl⟩ rfl hl.1 rfl (Nat.le_of_ble_eq_true rfl) dL_law_217 hcs (fun r1 S1 H locs h1 hPc hPr hS => ?_)
  refine lv_aload_n hx hb dL_law_220 rfl (lv_at hl 2 rfl) ?_
  refine lawR_i (As := []) (rest := [.int r1]) hC hPc hPr hS (c_X7_yard l D Y hIY H.size R  _ h1) (gd_V wl_L_26 wi_X7_yard wv_X7_yard wn_X7 wc_X7_yard) rfl hd_X7_yard ⟨rfl, rfl⟩ ⟨Nat.le_of_ble_eq_true rfl, Nat.le_of_ble_eq_true rfl⟩ rfl hl.1 rfl (Nat.le_of_ble_eq_true rfl) dL_law_221 hcs (fun r2 S2 H locs h2 hPc hPr hS => ?_)
  refine lv_icmp_eq (tgt := 930) hx hb dL_law_224 (by decide) (fun c9 => ?_) (fun c9 => absurd h2.1 c9)
  exact kk S1 S2 H locs h2.2 hPc hPr hS
set_option maxHeartbeats 4000000 in
theorem lawK_part {k : Nat} {Rl : CS → CS → Prop} (hC : lawCtx p s m meth c b L xs D X Y) (hL : L ≤ 320) (hk : 5 * k + 5 ≤ L) (hsim : p_X6_part S (xs (5 * k + 1)) (xs (5 * k + 2)) (fun r S1 => p_X7_part R (xs (5 * k + 1)) (xs (5 * k + 2)) (fun r2 R1 => r = r2 ∧ Rl S1 R1))) (hPc : va_P D vwCl (CW X S) H) (hPr : va_P D vwCl (RW Y R) H) (hS : va_S (A0 s) s.heap H locs) (hl : lv_has ls 4 [(0, .ref b), (1, .ref (X.1 0)), (2, .ref (Y.1 0)), (3, .int (nI (5 * k)))]) (hcs : cells ≤ 600000 ∧ slots ≤ 7302250) (kk : ∀ (S1 R1 : CS) (H1 : Heap) (locs1 : List Loc), Rl S1 R1 → va_P D vwCl (CW X S1) H1 → va_P D vwCl (RW Y R1) H1 → va_S (A0 s) s.heap H1 locs1 → W p l e room_1 s m #[Value.ref b] below meth c H1 locs1 cells slots Q (F0 m 930 ls [])) : W p l e room_1 s m #[Value.ref b] below meth c H locs cells slots Q (F0 m 229 ls []) := by
  obtain ⟨hx, hb, hml, hown, hT, hX, hbl, hK, hF, hIX, hIY, hYX, hXs, hYs, hdis⟩ := id hC
  refine lv_aload_n hx hb dL_law_229 rfl (lv_at hl 1 rfl) ?_
  refine lv_aload_n hx hb dL_law_230 rfl (lv_at hl 0 rfl) ?_
  refine lv_iload_n hx hb dL_law_231 rfl (lv_at hl 3 rfl) ?_
  refine lv_iconst (v := 1) hx hb dL_law_232 (by decide) ?_
  refine lv_iadd hx hb dL_law_233 ?_
  refine g_sld hC hS (5 * k + 1) (by omega) hL (show nI (5 * k) + 1 = nI (5 * k + 1) from nI_add (5 * k) 1) dL_law_234 ?_
  refine lv_aload_n hx hb dL_law_235 rfl (lv_at hl 0 rfl) ?_
  refine lv_iload_n hx hb dL_law_236 rfl (lv_at hl 3 rfl) ?_
  refine lv_iconst (v := 2) hx hb dL_law_237 (by decide) ?_
  refine lv_iadd hx hb dL_law_238 ?_
  refine g_sld hC hS (5 * k + 2) (by omega) hL (show nI (5 * k) + 2 = nI (5 * k + 2) from nI_add (5 * k) 2) dL_law_239 ?_
  refine lawC_i (As := [.int (xs (5 * k + 1)), .int (xs (5 * k + 2))]) (rest := []) hC hPc hPr hS (c_X6_part l D X hIX H.size S (xs (5 * k + 1)) (xs (5 * k + 2)) _ hsim) (gd_V wl_L_27 wi_X6_part wv_X6_part wn_X6 wc_X6_part) rfl hd_X6_part ⟨rfl, rfl⟩ ⟨Nat.le_of_ble_eq_true rfl, Nat.le_of_ble_eq_true rfl⟩ rfl hl.1 rfl (Nat.le_of_ble_eq_true rfl) dL_law_240 hcs (fun r1 S1 H locs h1 hPc hPr hS => ?_)
  refine lv_aload_n hx hb dL_law_243 rfl (lv_at hl 2 rfl) ?_
  refine lv_aload_n hx hb dL_law_244 rfl (lv_at hl 0 rfl) ?_
  refine lv_iload_n hx hb dL_law_245 rfl (lv_at hl 3 rfl) ?_
  refine lv_iconst (v := 1) hx hb dL_law_246 (by decide) ?_
  refine lv_iadd hx hb dL_law_247 ?_
  refine g_sld hC hS (5 * k + 1) (by omega) hL (show nI (5 * k) + 1 = nI (5 * k + 1) from nI_add (5 * k) 1) dL_law_248 ?_
  refine lv_aload_n hx hb dL_law_249 rfl (lv_at hl 0 rfl) ?_
  refine lv_iload_n hx hb dL_law_250 rfl (lv_at hl 3 rfl) ?_
  refine lv_iconst (v := 2) hx hb dL_law_251 (by decide) ?_
  refine lv_iadd hx hb dL_law_252 ?_
  refine g_sld hC hS (5 * k + 2) (by omega) hL (show nI (5 * k) + 2 = nI (5 * k + 2) from nI_add (5 * k) 2) dL_law_253 ?_
  refine lawR_i (As := [.int (xs (5 * k + 1)), .int (xs (5 * k + 2))]) (rest := [.int r1]) hC hPc hPr hS (c_X7_part l D Y hIY H.size R (xs (5 * k + 1)) (xs (5 * k + 2)) _ h1) (gd_V wl_L_31 wi_X7_part wv_X7_part wn_X7 wc_X7_part) rfl hd_X7_part ⟨rfl, rfl⟩ ⟨Nat.le_of_ble_eq_true rfl, Nat.le_of_ble_eq_true rfl⟩ rfl hl.1 rfl (Nat.le_of_ble_eq_true rfl) dL_law_254 hcs (fun r2 S2 H locs h2 hPc hPr hS => ?_)
  refine lv_icmp_eq (tgt := 930) hx hb dL_law_257 (by decide) (fun c9 => ?_) (fun c9 => absurd h2.1 c9)
  exact kk S1 S2 H locs h2.2 hPc hPr hS
set_option maxHeartbeats 4000000 in
theorem lawK_order {k : Nat} {Rl : CS → CS → Prop} (hC : lawCtx p s m meth c b L xs D X Y) (hL : L ≤ 320) (hk : 5 * k + 5 ≤ L) (hsim : p_X6_order S (xs (5 * k + 1)) (xs (5 * k + 2)) (fun r S1 => p_X7_order R (xs (5 * k + 1)) (xs (5 * k + 2)) (fun r2 R1 => r = r2 ∧ Rl S1 R1))) (hPc : va_P D vwCl (CW X S) H) (hPr : va_P D vwCl (RW Y R) H) (hS : va_S (A0 s) s.heap H locs) (hl : lv_has ls 4 [(0, .ref b), (1, .ref (X.1 0)), (2, .ref (Y.1 0)), (3, .int (nI (5 * k)))]) (hcs : cells ≤ 600000 ∧ slots ≤ 7302250) (kk : ∀ (S1 R1 : CS) (H1 : Heap) (locs1 : List Loc), Rl S1 R1 → va_P D vwCl (CW X S1) H1 → va_P D vwCl (RW Y R1) H1 → va_S (A0 s) s.heap H1 locs1 → W p l e room_1 s m #[Value.ref b] below meth c H1 locs1 cells slots Q (F0 m 930 ls [])) : W p l e room_1 s m #[Value.ref b] below meth c H locs cells slots Q (F0 m 262 ls []) := by
  obtain ⟨hx, hb, hml, hown, hT, hX, hbl, hK, hF, hIX, hIY, hYX, hXs, hYs, hdis⟩ := id hC
  refine lv_aload_n hx hb dL_law_262 rfl (lv_at hl 1 rfl) ?_
  refine lv_aload_n hx hb dL_law_263 rfl (lv_at hl 0 rfl) ?_
  refine lv_iload_n hx hb dL_law_264 rfl (lv_at hl 3 rfl) ?_
  refine lv_iconst (v := 1) hx hb dL_law_265 (by decide) ?_
  refine lv_iadd hx hb dL_law_266 ?_
  refine g_sld hC hS (5 * k + 1) (by omega) hL (show nI (5 * k) + 1 = nI (5 * k + 1) from nI_add (5 * k) 1) dL_law_267 ?_
  refine lv_aload_n hx hb dL_law_268 rfl (lv_at hl 0 rfl) ?_
  refine lv_iload_n hx hb dL_law_269 rfl (lv_at hl 3 rfl) ?_
  refine lv_iconst (v := 2) hx hb dL_law_270 (by decide) ?_
  refine lv_iadd hx hb dL_law_271 ?_
  refine g_sld hC hS (5 * k + 2) (by omega) hL (show nI (5 * k) + 2 = nI (5 * k + 2) from nI_add (5 * k) 2) dL_law_272 ?_
  refine lawC_i (As := [.int (xs (5 * k + 1)), .int (xs (5 * k + 2))]) (rest := []) hC hPc hPr hS (c_X6_order l D X hIX H.size S (xs (5 * k + 1)) (xs (5 * k + 2)) _ hsim) (gd_V wl_L_32 wi_X6_order wv_X6_order wn_X6 wc_X6_order) rfl hd_X6_order ⟨rfl, rfl⟩ ⟨Nat.le_of_ble_eq_true rfl, Nat.le_of_ble_eq_true rfl⟩ rfl hl.1 rfl (Nat.le_of_ble_eq_true rfl) dL_law_273 hcs (fun r1 S1 H locs h1 hPc hPr hS => ?_)
  refine lv_aload_n hx hb dL_law_276 rfl (lv_at hl 2 rfl) ?_
  refine lv_aload_n hx hb dL_law_277 rfl (lv_at hl 0 rfl) ?_
  refine lv_iload_n hx hb dL_law_278 rfl (lv_at hl 3 rfl) ?_
  refine lv_iconst (v := 1) hx hb dL_law_279 (by decide) ?_
  refine lv_iadd hx hb dL_law_280 ?_
  refine g_sld hC hS (5 * k + 1) (by omega) hL (show nI (5 * k) + 1 = nI (5 * k + 1) from nI_add (5 * k) 1) dL_law_281 ?_
  refine lv_aload_n hx hb dL_law_282 rfl (lv_at hl 0 rfl) ?_
  refine lv_iload_n hx hb dL_law_283 rfl (lv_at hl 3 rfl) ?_
  refine lv_iconst (v := 2) hx hb dL_law_284 (by decide) ?_
  refine lv_iadd hx hb dL_law_285 ?_
  refine g_sld hC hS (5 * k + 2) (by omega) hL (show nI (5 * k) + 2 = nI (5 * k + 2) from nI_add (5 * k) 2) dL_law_286 ?_
  refine lawR_i (As := [.int (xs (5 * k + 1)), .int (xs (5 * k + 2))]) (rest := [.int r1]) hC hPc hPr hS (c_X7_order l D Y hIY H.size R (xs (5 * k + 1)) (xs (5 * k + 2)) _ h1) (gd_V wl_L_35 wi_X7_order wv_X7_order wn_X7 wc_X7_order) rfl hd_X7_order ⟨rfl, rfl⟩ ⟨Nat.le_of_ble_eq_true rfl, Nat.le_of_ble_eq_true rfl⟩ rfl hl.1 rfl (Nat.le_of_ble_eq_true rfl) dL_law_287 hcs (fun r2 S2 H locs h2 hPc hPr hS => ?_)
  refine lv_icmp_eq (tgt := 930) hx hb dL_law_290 (by decide) (fun c9 => ?_) (fun c9 => absurd h2.1 c9)
  exact kk S1 S2 H locs h2.2 hPc hPr hS
set_option maxHeartbeats 4000000 in
theorem lawK_side {k : Nat} {Rl : CS → CS → Prop} (hC : lawCtx p s m meth c b L xs D X Y) (hL : L ≤ 320) (hk : 5 * k + 5 ≤ L) (hsim : p_X6_side S (xs (5 * k + 1)) (fun r S1 => p_X7_side R (xs (5 * k + 1)) (fun r2 R1 => r = r2 ∧ Rl S1 R1))) (hPc : va_P D vwCl (CW X S) H) (hPr : va_P D vwCl (RW Y R) H) (hS : va_S (A0 s) s.heap H locs) (hl : lv_has ls 4 [(0, .ref b), (1, .ref (X.1 0)), (2, .ref (Y.1 0)), (3, .int (nI (5 * k)))]) (hcs : cells ≤ 600000 ∧ slots ≤ 7302250) (kk : ∀ (S1 R1 : CS) (H1 : Heap) (locs1 : List Loc), Rl S1 R1 → va_P D vwCl (CW X S1) H1 → va_P D vwCl (RW Y R1) H1 → va_S (A0 s) s.heap H1 locs1 → W p l e room_1 s m #[Value.ref b] below meth c H1 locs1 cells slots Q (F0 m 930 ls [])) : W p l e room_1 s m #[Value.ref b] below meth c H locs cells slots Q (F0 m 295 ls []) := by
  obtain ⟨hx, hb, hml, hown, hT, hX, hbl, hK, hF, hIX, hIY, hYX, hXs, hYs, hdis⟩ := id hC
  refine lv_aload_n hx hb dL_law_295 rfl (lv_at hl 1 rfl) ?_
  refine lv_aload_n hx hb dL_law_296 rfl (lv_at hl 0 rfl) ?_
  refine lv_iload_n hx hb dL_law_297 rfl (lv_at hl 3 rfl) ?_
  refine lv_iconst (v := 1) hx hb dL_law_298 (by decide) ?_
  refine lv_iadd hx hb dL_law_299 ?_
  refine g_sld hC hS (5 * k + 1) (by omega) hL (show nI (5 * k) + 1 = nI (5 * k + 1) from nI_add (5 * k) 1) dL_law_300 ?_
  refine lawC_i (As := [.int (xs (5 * k + 1))]) (rest := []) hC hPc hPr hS (c_X6_side l D X hIX H.size S (xs (5 * k + 1)) _ hsim) (gd_V wl_L_36 wi_X6_side wv_X6_side wn_X6 wc_X6_side) rfl hd_X6_side ⟨rfl, rfl⟩ ⟨Nat.le_of_ble_eq_true rfl, Nat.le_of_ble_eq_true rfl⟩ rfl hl.1 rfl (Nat.le_of_ble_eq_true rfl) dL_law_301 hcs (fun r1 S1 H locs h1 hPc hPr hS => ?_)
  refine lv_aload_n hx hb dL_law_304 rfl (lv_at hl 2 rfl) ?_
  refine lv_aload_n hx hb dL_law_305 rfl (lv_at hl 0 rfl) ?_
  refine lv_iload_n hx hb dL_law_306 rfl (lv_at hl 3 rfl) ?_
  refine lv_iconst (v := 1) hx hb dL_law_307 (by decide) ?_
  refine lv_iadd hx hb dL_law_308 ?_
  refine g_sld hC hS (5 * k + 1) (by omega) hL (show nI (5 * k) + 1 = nI (5 * k + 1) from nI_add (5 * k) 1) dL_law_309 ?_
  refine lawR_i (As := [.int (xs (5 * k + 1))]) (rest := [.int r1]) hC hPc hPr hS (c_X7_side l D Y hIY H.size R (xs (5 * k + 1)) _ h1) (gd_V wl_L_39 wi_X7_side wv_X7_side wn_X7 wc_X7_side) rfl hd_X7_side ⟨rfl, rfl⟩ ⟨Nat.le_of_ble_eq_true rfl, Nat.le_of_ble_eq_true rfl⟩ rfl hl.1 rfl (Nat.le_of_ble_eq_true rfl) dL_law_310 hcs (fun r2 S2 H locs h2 hPc hPr hS => ?_)
  refine lv_icmp_eq (tgt := 930) hx hb dL_law_313 (by decide) (fun c9 => ?_) (fun c9 => absurd h2.1 c9)
  exact kk S1 S2 H locs h2.2 hPc hPr hS
set_option maxHeartbeats 4000000 in
theorem lawK_now {k : Nat} {Rl : CS → CS → Prop} (hC : lawCtx p s m meth c b L xs D X Y) (hL : L ≤ 320) (hk : 5 * k + 5 ≤ L) (hsim : p_X6_now S (xs (5 * k + 1)) (fun r S1 => p_X7_now R (xs (5 * k + 1)) (fun r2 R1 => r = r2 ∧ Rl S1 R1))) (hPc : va_P D vwCl (CW X S) H) (hPr : va_P D vwCl (RW Y R) H) (hS : va_S (A0 s) s.heap H locs) (hl : lv_has ls 4 [(0, .ref b), (1, .ref (X.1 0)), (2, .ref (Y.1 0)), (3, .int (nI (5 * k)))]) (hcs : cells ≤ 600000 ∧ slots ≤ 7302250) (kk : ∀ (S1 R1 : CS) (H1 : Heap) (locs1 : List Loc), Rl S1 R1 → va_P D vwCl (CW X S1) H1 → va_P D vwCl (RW Y R1) H1 → va_S (A0 s) s.heap H1 locs1 → W p l e room_1 s m #[Value.ref b] below meth c H1 locs1 cells slots Q (F0 m 930 ls [])) : W p l e room_1 s m #[Value.ref b] below meth c H locs cells slots Q (F0 m 318 ls []) := by
  obtain ⟨hx, hb, hml, hown, hT, hX, hbl, hK, hF, hIX, hIY, hYX, hXs, hYs, hdis⟩ := id hC
  refine lv_aload_n hx hb dL_law_318 rfl (lv_at hl 1 rfl) ?_
  refine lv_aload_n hx hb dL_law_319 rfl (lv_at hl 0 rfl) ?_
  refine lv_iload_n hx hb dL_law_320 rfl (lv_at hl 3 rfl) ?_
  refine lv_iconst (v := 1) hx hb dL_law_321 (by decide) ?_
  refine lv_iadd hx hb dL_law_322 ?_
  refine g_sld hC hS (5 * k + 1) (by omega) hL (show nI (5 * k) + 1 = nI (5 * k + 1) from nI_add (5 * k) 1) dL_law_323 ?_
  refine lawC_i (As := [.int (xs (5 * k + 1))]) (rest := []) hC hPc hPr hS (c_X6_now l D X hIX H.size S (xs (5 * k + 1)) _ hsim) (gd_V wl_L_40 wi_X6_now wv_X6_now wn_X6 wc_X6_now) rfl hd_X6_now ⟨rfl, rfl⟩ ⟨Nat.le_of_ble_eq_true rfl, Nat.le_of_ble_eq_true rfl⟩ rfl hl.1 rfl (Nat.le_of_ble_eq_true rfl) dL_law_324 hcs (fun r1 S1 H locs h1 hPc hPr hS => ?_)
  refine lv_aload_n hx hb dL_law_327 rfl (lv_at hl 2 rfl) ?_
  refine lv_aload_n hx hb dL_law_328 rfl (lv_at hl 0 rfl) ?_
  refine lv_iload_n hx hb dL_law_329 rfl (lv_at hl 3 rfl) ?_
  refine lv_iconst (v := 1) hx hb dL_law_330 (by decide) ?_
  refine lv_iadd hx hb dL_law_331 ?_
  refine g_sld hC hS (5 * k + 1) (by omega) hL (show nI (5 * k) + 1 = nI (5 * k + 1) from nI_add (5 * k) 1) dL_law_332 ?_
  refine lawR_i (As := [.int (xs (5 * k + 1))]) (rest := [.int r1]) hC hPc hPr hS (c_X7_now l D Y hIY H.size R (xs (5 * k + 1)) _ h1) (gd_V wl_L_43 wi_X7_now wv_X7_now wn_X7 wc_X7_now) rfl hd_X7_now ⟨rfl, rfl⟩ ⟨Nat.le_of_ble_eq_true rfl, Nat.le_of_ble_eq_true rfl⟩ rfl hl.1 rfl (Nat.le_of_ble_eq_true rfl) dL_law_333 hcs (fun r2 S2 H locs h2 hPc hPr hS => ?_)
  refine lv_icmp_eq (tgt := 930) hx hb dL_law_336 (by decide) (fun c9 => ?_) (fun c9 => absurd h2.1 c9)
  exact kk S1 S2 H locs h2.2 hPc hPr hS
set_option maxHeartbeats 4000000 in
theorem lawK_cuts {k : Nat} {Rl : CS → CS → Prop} (hC : lawCtx p s m meth c b L xs D X Y) (hL : L ≤ 320) (hk : 5 * k + 5 ≤ L) (hsim : p_X6_cuts S (xs (5 * k + 1)) (fun r S1 => p_X7_cuts R (xs (5 * k + 1)) (fun r2 R1 => r = r2 ∧ Rl S1 R1))) (hPc : va_P D vwCl (CW X S) H) (hPr : va_P D vwCl (RW Y R) H) (hS : va_S (A0 s) s.heap H locs) (hl : lv_has ls 4 [(0, .ref b), (1, .ref (X.1 0)), (2, .ref (Y.1 0)), (3, .int (nI (5 * k)))]) (hcs : cells ≤ 600000 ∧ slots ≤ 7302250) (kk : ∀ (S1 R1 : CS) (H1 : Heap) (locs1 : List Loc), Rl S1 R1 → va_P D vwCl (CW X S1) H1 → va_P D vwCl (RW Y R1) H1 → va_S (A0 s) s.heap H1 locs1 → W p l e room_1 s m #[Value.ref b] below meth c H1 locs1 cells slots Q (F0 m 930 ls [])) : W p l e room_1 s m #[Value.ref b] below meth c H locs cells slots Q (F0 m 341 ls []) := by
  obtain ⟨hx, hb, hml, hown, hT, hX, hbl, hK, hF, hIX, hIY, hYX, hXs, hYs, hdis⟩ := id hC
  refine lv_aload_n hx hb dL_law_341 rfl (lv_at hl 1 rfl) ?_
  refine lv_aload_n hx hb dL_law_342 rfl (lv_at hl 0 rfl) ?_
  refine lv_iload_n hx hb dL_law_343 rfl (lv_at hl 3 rfl) ?_
  refine lv_iconst (v := 1) hx hb dL_law_344 (by decide) ?_
  refine lv_iadd hx hb dL_law_345 ?_
  refine g_sld hC hS (5 * k + 1) (by omega) hL (show nI (5 * k) + 1 = nI (5 * k + 1) from nI_add (5 * k) 1) dL_law_346 ?_
  refine lawC_i (As := [.int (xs (5 * k + 1))]) (rest := []) hC hPc hPr hS (c_X6_cuts l D X hIX H.size S (xs (5 * k + 1)) _ hsim) (gd_V wl_L_44 wi_X6_cuts wv_X6_cuts wn_X6 wc_X6_cuts) rfl hd_X6_cuts ⟨rfl, rfl⟩ ⟨Nat.le_of_ble_eq_true rfl, Nat.le_of_ble_eq_true rfl⟩ rfl hl.1 rfl (Nat.le_of_ble_eq_true rfl) dL_law_347 hcs (fun r1 S1 H locs h1 hPc hPr hS => ?_)
  refine lv_aload_n hx hb dL_law_350 rfl (lv_at hl 2 rfl) ?_
  refine lv_aload_n hx hb dL_law_351 rfl (lv_at hl 0 rfl) ?_
  refine lv_iload_n hx hb dL_law_352 rfl (lv_at hl 3 rfl) ?_
  refine lv_iconst (v := 1) hx hb dL_law_353 (by decide) ?_
  refine lv_iadd hx hb dL_law_354 ?_
  refine g_sld hC hS (5 * k + 1) (by omega) hL (show nI (5 * k) + 1 = nI (5 * k + 1) from nI_add (5 * k) 1) dL_law_355 ?_
  refine lawR_i (As := [.int (xs (5 * k + 1))]) (rest := [.int r1]) hC hPc hPr hS (c_X7_cuts l D Y hIY H.size R (xs (5 * k + 1)) _ h1) (gd_V wl_L_47 wi_X7_cuts wv_X7_cuts wn_X7 wc_X7_cuts) rfl hd_X7_cuts ⟨rfl, rfl⟩ ⟨Nat.le_of_ble_eq_true rfl, Nat.le_of_ble_eq_true rfl⟩ rfl hl.1 rfl (Nat.le_of_ble_eq_true rfl) dL_law_356 hcs (fun r2 S2 H locs h2 hPc hPr hS => ?_)
  refine lv_icmp_eq (tgt := 930) hx hb dL_law_359 (by decide) (fun c9 => ?_) (fun c9 => absurd h2.1 c9)
  exact kk S1 S2 H locs h2.2 hPc hPr hS
set_option maxHeartbeats 4000000 in
theorem lawK_year {k : Nat} {Rl : CS → CS → Prop} (hC : lawCtx p s m meth c b L xs D X Y) (hL : L ≤ 320) (hk : 5 * k + 5 ≤ L) (hsim : p_X6_year S  (fun r S1 => p_X7_year R  (fun r2 R1 => r = r2 ∧ Rl S1 R1))) (hPc : va_P D vwCl (CW X S) H) (hPr : va_P D vwCl (RW Y R) H) (hS : va_S (A0 s) s.heap H locs) (hl : lv_has ls 4 [(0, .ref b), (1, .ref (X.1 0)), (2, .ref (Y.1 0)), (3, .int (nI (5 * k)))]) (hcs : cells ≤ 600000 ∧ slots ≤ 7302250) (kk : ∀ (S1 R1 : CS) (H1 : Heap) (locs1 : List Loc), Rl S1 R1 → va_P D vwCl (CW X S1) H1 → va_P D vwCl (RW Y R1) H1 → va_S (A0 s) s.heap H1 locs1 → W p l e room_1 s m #[Value.ref b] below meth c H1 locs1 cells slots Q (F0 m 930 ls [])) : W p l e room_1 s m #[Value.ref b] below meth c H locs cells slots Q (F0 m 364 ls []) := by
  obtain ⟨hx, hb, hml, hown, hT, hX, hbl, hK, hF, hIX, hIY, hYX, hXs, hYs, hdis⟩ := id hC
  refine lv_aload_n hx hb dL_law_364 rfl (lv_at hl 1 rfl) ?_
  refine lawC_i (As := []) (rest := []) hC hPc hPr hS (c_X6_year l D X hIX H.size S  _ hsim) (gd_V wl_L_48 wi_X6_year wv_X6_year wn_X6 wc_X6_year) rfl hd_X6_year ⟨rfl, rfl⟩ ⟨Nat.le_of_ble_eq_true rfl, Nat.le_of_ble_eq_true rfl⟩ rfl hl.1 rfl (Nat.le_of_ble_eq_true rfl) dL_law_365 hcs (fun r1 S1 H locs h1 hPc hPr hS => ?_)
  refine lv_aload_n hx hb dL_law_368 rfl (lv_at hl 2 rfl) ?_
  refine lawR_i (As := []) (rest := [.int r1]) hC hPc hPr hS (c_X7_year l D Y hIY H.size R  _ h1) (gd_V wl_L_51 wi_X7_year wv_X7_year wn_X7 wc_X7_year) rfl hd_X7_year ⟨rfl, rfl⟩ ⟨Nat.le_of_ble_eq_true rfl, Nat.le_of_ble_eq_true rfl⟩ rfl hl.1 rfl (Nat.le_of_ble_eq_true rfl) dL_law_369 hcs (fun r2 S2 H locs h2 hPc hPr hS => ?_)
  refine lv_icmp_eq (tgt := 930) hx hb dL_law_372 (by decide) (fun c9 => ?_) (fun c9 => absurd h2.1 c9)
  exact kk S1 S2 H locs h2.2 hPc hPr hS
set_option maxHeartbeats 4000000 in
theorem lawK_binds {k : Nat} {Rl : CS → CS → Prop} (hC : lawCtx p s m meth c b L xs D X Y) (hL : L ≤ 320) (hk : 5 * k + 5 ≤ L) (hsim : p_X6_binds S (xs (5 * k + 1)) (fun r S1 => p_X7_binds R (xs (5 * k + 1)) (fun r2 R1 => r = r2 ∧ Rl S1 R1))) (hPc : va_P D vwCl (CW X S) H) (hPr : va_P D vwCl (RW Y R) H) (hS : va_S (A0 s) s.heap H locs) (hl : lv_has ls 4 [(0, .ref b), (1, .ref (X.1 0)), (2, .ref (Y.1 0)), (3, .int (nI (5 * k)))]) (hcs : cells ≤ 600000 ∧ slots ≤ 7302250) (kk : ∀ (S1 R1 : CS) (H1 : Heap) (locs1 : List Loc), Rl S1 R1 → va_P D vwCl (CW X S1) H1 → va_P D vwCl (RW Y R1) H1 → va_S (A0 s) s.heap H1 locs1 → W p l e room_1 s m #[Value.ref b] below meth c H1 locs1 cells slots Q (F0 m 930 ls [])) : W p l e room_1 s m #[Value.ref b] below meth c H locs cells slots Q (F0 m 377 ls []) := by
  obtain ⟨hx, hb, hml, hown, hT, hX, hbl, hK, hF, hIX, hIY, hYX, hXs, hYs, hdis⟩ := id hC
  refine lv_aload_n hx hb dL_law_377 rfl (lv_at hl 1 rfl) ?_
  refine lv_aload_n hx hb dL_law_378 rfl (lv_at hl 0 rfl) ?_
  refine lv_iload_n hx hb dL_law_379 rfl (lv_at hl 3 rfl) ?_
  refine lv_iconst (v := 1) hx hb dL_law_380 (by decide) ?_
  refine lv_iadd hx hb dL_law_381 ?_
  refine g_sld hC hS (5 * k + 1) (by omega) hL (show nI (5 * k) + 1 = nI (5 * k + 1) from nI_add (5 * k) 1) dL_law_382 ?_
  refine lawC_i (As := [.int (xs (5 * k + 1))]) (rest := []) hC hPc hPr hS (c_X6_binds l D X hIX H.size S (xs (5 * k + 1)) _ hsim) (gd_V wl_L_52 wi_X6_binds wv_X6_binds wn_X6 wc_X6_binds) rfl hd_X6_binds ⟨rfl, rfl⟩ ⟨Nat.le_of_ble_eq_true rfl, Nat.le_of_ble_eq_true rfl⟩ rfl hl.1 rfl (Nat.le_of_ble_eq_true rfl) dL_law_383 hcs (fun r1 S1 H locs h1 hPc hPr hS => ?_)
  refine lv_aload_n hx hb dL_law_386 rfl (lv_at hl 2 rfl) ?_
  refine lv_aload_n hx hb dL_law_387 rfl (lv_at hl 0 rfl) ?_
  refine lv_iload_n hx hb dL_law_388 rfl (lv_at hl 3 rfl) ?_
  refine lv_iconst (v := 1) hx hb dL_law_389 (by decide) ?_
  refine lv_iadd hx hb dL_law_390 ?_
  refine g_sld hC hS (5 * k + 1) (by omega) hL (show nI (5 * k) + 1 = nI (5 * k + 1) from nI_add (5 * k) 1) dL_law_391 ?_
  refine lawR_i (As := [.int (xs (5 * k + 1))]) (rest := [.int r1]) hC hPc hPr hS (c_X7_binds l D Y hIY H.size R (xs (5 * k + 1)) _ h1) (gd_V wl_L_55 wi_X7_binds wv_X7_binds wn_X7 wc_X7_binds) rfl hd_X7_binds ⟨rfl, rfl⟩ ⟨Nat.le_of_ble_eq_true rfl, Nat.le_of_ble_eq_true rfl⟩ rfl hl.1 rfl (Nat.le_of_ble_eq_true rfl) dL_law_392 hcs (fun r2 S2 H locs h2 hPc hPr hS => ?_)
  refine lv_icmp_eq (tgt := 930) hx hb dL_law_395 (by decide) (fun c9 => ?_) (fun c9 => absurd h2.1 c9)
  exact kk S1 S2 H locs h2.2 hPc hPr hS
set_option maxHeartbeats 4000000 in
theorem lawK_sends {k : Nat} {Rl : CS → CS → Prop} (hC : lawCtx p s m meth c b L xs D X Y) (hL : L ≤ 320) (hk : 5 * k + 5 ≤ L) (hsim : p_X6_sends S (xs (5 * k + 1)) (fun r S1 => p_X7_sends R (xs (5 * k + 1)) (fun r2 R1 => r = r2 ∧ Rl S1 R1))) (hPc : va_P D vwCl (CW X S) H) (hPr : va_P D vwCl (RW Y R) H) (hS : va_S (A0 s) s.heap H locs) (hl : lv_has ls 4 [(0, .ref b), (1, .ref (X.1 0)), (2, .ref (Y.1 0)), (3, .int (nI (5 * k)))]) (hcs : cells ≤ 600000 ∧ slots ≤ 7302250) (kk : ∀ (S1 R1 : CS) (H1 : Heap) (locs1 : List Loc), Rl S1 R1 → va_P D vwCl (CW X S1) H1 → va_P D vwCl (RW Y R1) H1 → va_S (A0 s) s.heap H1 locs1 → W p l e room_1 s m #[Value.ref b] below meth c H1 locs1 cells slots Q (F0 m 930 ls [])) : W p l e room_1 s m #[Value.ref b] below meth c H locs cells slots Q (F0 m 400 ls []) := by
  obtain ⟨hx, hb, hml, hown, hT, hX, hbl, hK, hF, hIX, hIY, hYX, hXs, hYs, hdis⟩ := id hC
  refine lv_aload_n hx hb dL_law_400 rfl (lv_at hl 1 rfl) ?_
  refine lv_aload_n hx hb dL_law_401 rfl (lv_at hl 0 rfl) ?_
  refine lv_iload_n hx hb dL_law_402 rfl (lv_at hl 3 rfl) ?_
  refine lv_iconst (v := 1) hx hb dL_law_403 (by decide) ?_
  refine lv_iadd hx hb dL_law_404 ?_
  refine g_sld hC hS (5 * k + 1) (by omega) hL (show nI (5 * k) + 1 = nI (5 * k + 1) from nI_add (5 * k) 1) dL_law_405 ?_
  refine lawC_i (As := [.int (xs (5 * k + 1))]) (rest := []) hC hPc hPr hS (c_X6_sends l D X hIX H.size S (xs (5 * k + 1)) _ hsim) (gd_V wl_L_56 wi_X6_sends wv_X6_sends wn_X6 wc_X6_sends) rfl hd_X6_sends ⟨rfl, rfl⟩ ⟨Nat.le_of_ble_eq_true rfl, Nat.le_of_ble_eq_true rfl⟩ rfl hl.1 rfl (Nat.le_of_ble_eq_true rfl) dL_law_406 hcs (fun r1 S1 H locs h1 hPc hPr hS => ?_)
  refine lv_aload_n hx hb dL_law_409 rfl (lv_at hl 2 rfl) ?_
  refine lv_aload_n hx hb dL_law_410 rfl (lv_at hl 0 rfl) ?_
  refine lv_iload_n hx hb dL_law_411 rfl (lv_at hl 3 rfl) ?_
  refine lv_iconst (v := 1) hx hb dL_law_412 (by decide) ?_
  refine lv_iadd hx hb dL_law_413 ?_
  refine g_sld hC hS (5 * k + 1) (by omega) hL (show nI (5 * k) + 1 = nI (5 * k + 1) from nI_add (5 * k) 1) dL_law_414 ?_
  refine lawR_i (As := [.int (xs (5 * k + 1))]) (rest := [.int r1]) hC hPc hPr hS (c_X7_sends l D Y hIY H.size R (xs (5 * k + 1)) _ h1) (gd_V wl_L_59 wi_X7_sends wv_X7_sends wn_X7 wc_X7_sends) rfl hd_X7_sends ⟨rfl, rfl⟩ ⟨Nat.le_of_ble_eq_true rfl, Nat.le_of_ble_eq_true rfl⟩ rfl hl.1 rfl (Nat.le_of_ble_eq_true rfl) dL_law_415 hcs (fun r2 S2 H locs h2 hPc hPr hS => ?_)
  refine lv_icmp_eq (tgt := 930) hx hb dL_law_418 (by decide) (fun c9 => ?_) (fun c9 => absurd h2.1 c9)
  exact kk S1 S2 H locs h2.2 hPc hPr hS
set_option maxHeartbeats 4000000 in
theorem lawK_sweeps {k : Nat} {Rl : CS → CS → Prop} (hC : lawCtx p s m meth c b L xs D X Y) (hL : L ≤ 320) (hk : 5 * k + 5 ≤ L) (hsim : p_X6_sweeps S  (fun r S1 => p_X7_sweeps R  (fun r2 R1 => r = r2 ∧ Rl S1 R1))) (hPc : va_P D vwCl (CW X S) H) (hPr : va_P D vwCl (RW Y R) H) (hS : va_S (A0 s) s.heap H locs) (hl : lv_has ls 4 [(0, .ref b), (1, .ref (X.1 0)), (2, .ref (Y.1 0)), (3, .int (nI (5 * k)))]) (hcs : cells ≤ 600000 ∧ slots ≤ 7302250) (kk : ∀ (S1 R1 : CS) (H1 : Heap) (locs1 : List Loc), Rl S1 R1 → va_P D vwCl (CW X S1) H1 → va_P D vwCl (RW Y R1) H1 → va_S (A0 s) s.heap H1 locs1 → W p l e room_1 s m #[Value.ref b] below meth c H1 locs1 cells slots Q (F0 m 930 ls [])) : W p l e room_1 s m #[Value.ref b] below meth c H locs cells slots Q (F0 m 423 ls []) := by
  obtain ⟨hx, hb, hml, hown, hT, hX, hbl, hK, hF, hIX, hIY, hYX, hXs, hYs, hdis⟩ := id hC
  refine lv_aload_n hx hb dL_law_423 rfl (lv_at hl 1 rfl) ?_
  refine lawC_i (As := []) (rest := []) hC hPc hPr hS (c_X6_sweeps l D X hIX H.size S  _ hsim) (gd_V wl_L_60 wi_X6_sweeps wv_X6_sweeps wn_X6 wc_X6_sweeps) rfl hd_X6_sweeps ⟨rfl, rfl⟩ ⟨Nat.le_of_ble_eq_true rfl, Nat.le_of_ble_eq_true rfl⟩ rfl hl.1 rfl (Nat.le_of_ble_eq_true rfl) dL_law_424 hcs (fun r1 S1 H locs h1 hPc hPr hS => ?_)
  refine lv_aload_n hx hb dL_law_427 rfl (lv_at hl 2 rfl) ?_
  refine lawR_i (As := []) (rest := [.int r1]) hC hPc hPr hS (c_X7_sweeps l D Y hIY H.size R  _ h1) (gd_V wl_L_63 wi_X7_sweeps wv_X7_sweeps wn_X7 wc_X7_sweeps) rfl hd_X7_sweeps ⟨rfl, rfl⟩ ⟨Nat.le_of_ble_eq_true rfl, Nat.le_of_ble_eq_true rfl⟩ rfl hl.1 rfl (Nat.le_of_ble_eq_true rfl) dL_law_428 hcs (fun r2 S2 H locs h2 hPc hPr hS => ?_)
  refine lv_icmp_eq (tgt := 930) hx hb dL_law_431 (by decide) (fun c9 => ?_) (fun c9 => absurd h2.1 c9)
  exact kk S1 S2 H locs h2.2 hPc hPr hS
set_option maxHeartbeats 4000000 in
theorem lawK_spins {k : Nat} {Rl : CS → CS → Prop} (hC : lawCtx p s m meth c b L xs D X Y) (hL : L ≤ 320) (hk : 5 * k + 5 ≤ L) (hsim : p_X6_spins S (xs (5 * k + 1)) (fun r S1 => p_X7_spins R (xs (5 * k + 1)) (fun r2 R1 => r = r2 ∧ Rl S1 R1))) (hPc : va_P D vwCl (CW X S) H) (hPr : va_P D vwCl (RW Y R) H) (hS : va_S (A0 s) s.heap H locs) (hl : lv_has ls 4 [(0, .ref b), (1, .ref (X.1 0)), (2, .ref (Y.1 0)), (3, .int (nI (5 * k)))]) (hcs : cells ≤ 600000 ∧ slots ≤ 7302250) (kk : ∀ (S1 R1 : CS) (H1 : Heap) (locs1 : List Loc), Rl S1 R1 → va_P D vwCl (CW X S1) H1 → va_P D vwCl (RW Y R1) H1 → va_S (A0 s) s.heap H1 locs1 → W p l e room_1 s m #[Value.ref b] below meth c H1 locs1 cells slots Q (F0 m 930 ls [])) : W p l e room_1 s m #[Value.ref b] below meth c H locs cells slots Q (F0 m 436 ls []) := by
  obtain ⟨hx, hb, hml, hown, hT, hX, hbl, hK, hF, hIX, hIY, hYX, hXs, hYs, hdis⟩ := id hC
  refine lv_aload_n hx hb dL_law_436 rfl (lv_at hl 1 rfl) ?_
  refine lv_aload_n hx hb dL_law_437 rfl (lv_at hl 0 rfl) ?_
  refine lv_iload_n hx hb dL_law_438 rfl (lv_at hl 3 rfl) ?_
  refine lv_iconst (v := 1) hx hb dL_law_439 (by decide) ?_
  refine lv_iadd hx hb dL_law_440 ?_
  refine g_sld hC hS (5 * k + 1) (by omega) hL (show nI (5 * k) + 1 = nI (5 * k + 1) from nI_add (5 * k) 1) dL_law_441 ?_
  refine lawC_i (As := [.int (xs (5 * k + 1))]) (rest := []) hC hPc hPr hS (c_X6_spins l D X hIX H.size S (xs (5 * k + 1)) _ hsim) (gd_V wl_L_64 wi_X6_spins wv_X6_spins wn_X6 wc_X6_spins) rfl hd_X6_spins ⟨rfl, rfl⟩ ⟨Nat.le_of_ble_eq_true rfl, Nat.le_of_ble_eq_true rfl⟩ rfl hl.1 rfl (Nat.le_of_ble_eq_true rfl) dL_law_442 hcs (fun r1 S1 H locs h1 hPc hPr hS => ?_)
  refine lv_aload_n hx hb dL_law_445 rfl (lv_at hl 2 rfl) ?_
  refine lv_aload_n hx hb dL_law_446 rfl (lv_at hl 0 rfl) ?_
  refine lv_iload_n hx hb dL_law_447 rfl (lv_at hl 3 rfl) ?_
  refine lv_iconst (v := 1) hx hb dL_law_448 (by decide) ?_
  refine lv_iadd hx hb dL_law_449 ?_
  refine g_sld hC hS (5 * k + 1) (by omega) hL (show nI (5 * k) + 1 = nI (5 * k + 1) from nI_add (5 * k) 1) dL_law_450 ?_
  refine lawR_i (As := [.int (xs (5 * k + 1))]) (rest := [.int r1]) hC hPc hPr hS (c_X7_spins l D Y hIY H.size R (xs (5 * k + 1)) _ h1) (gd_V wl_L_67 wi_X7_spins wv_X7_spins wn_X7 wc_X7_spins) rfl hd_X7_spins ⟨rfl, rfl⟩ ⟨Nat.le_of_ble_eq_true rfl, Nat.le_of_ble_eq_true rfl⟩ rfl hl.1 rfl (Nat.le_of_ble_eq_true rfl) dL_law_451 hcs (fun r2 S2 H locs h2 hPc hPr hS => ?_)
  refine lv_icmp_eq (tgt := 930) hx hb dL_law_454 (by decide) (fun c9 => ?_) (fun c9 => absurd h2.1 c9)
  exact kk S1 S2 H locs h2.2 hPc hPr hS
set_option maxHeartbeats 4000000 in
theorem lawK_undo {k : Nat} {Rl : CS → CS → Prop} (hC : lawCtx p s m meth c b L xs D X Y) (hL : L ≤ 320) (hk : 5 * k + 5 ≤ L) (hsim : p_X6_undo S  (fun r S1 => p_X7_undo R  (fun r2 R1 => r = r2 ∧ Rl S1 R1))) (hPc : va_P D vwCl (CW X S) H) (hPr : va_P D vwCl (RW Y R) H) (hS : va_S (A0 s) s.heap H locs) (hl : lv_has ls 4 [(0, .ref b), (1, .ref (X.1 0)), (2, .ref (Y.1 0)), (3, .int (nI (5 * k)))]) (hcs : cells ≤ 600000 ∧ slots ≤ 7302250) (kk : ∀ (S1 R1 : CS) (H1 : Heap) (locs1 : List Loc), Rl S1 R1 → va_P D vwCl (CW X S1) H1 → va_P D vwCl (RW Y R1) H1 → va_S (A0 s) s.heap H1 locs1 → W p l e room_1 s m #[Value.ref b] below meth c H1 locs1 cells slots Q (F0 m 930 ls [])) : W p l e room_1 s m #[Value.ref b] below meth c H locs cells slots Q (F0 m 459 ls []) := by
  obtain ⟨hx, hb, hml, hown, hT, hX, hbl, hK, hF, hIX, hIY, hYX, hXs, hYs, hdis⟩ := id hC
  refine lv_aload_n hx hb dL_law_459 rfl (lv_at hl 1 rfl) ?_
  refine lawC_i (As := []) (rest := []) hC hPc hPr hS (c_X6_undo l D X hIX H.size S  _ hsim) (gd_V wl_L_68 wi_X6_undo wv_X6_undo wn_X6 wc_X6_undo) rfl hd_X6_undo ⟨rfl, rfl⟩ ⟨Nat.le_of_ble_eq_true rfl, Nat.le_of_ble_eq_true rfl⟩ rfl hl.1 rfl (Nat.le_of_ble_eq_true rfl) dL_law_460 hcs (fun r1 S1 H locs h1 hPc hPr hS => ?_)
  refine lv_aload_n hx hb dL_law_463 rfl (lv_at hl 2 rfl) ?_
  refine lawR_i (As := []) (rest := [.int r1]) hC hPc hPr hS (c_X7_undo l D Y hIY H.size R  _ h1) (gd_V wl_L_71 wi_X7_undo wv_X7_undo wn_X7 wc_X7_undo) rfl hd_X7_undo ⟨rfl, rfl⟩ ⟨Nat.le_of_ble_eq_true rfl, Nat.le_of_ble_eq_true rfl⟩ rfl hl.1 rfl (Nat.le_of_ble_eq_true rfl) dL_law_464 hcs (fun r2 S2 H locs h2 hPc hPr hS => ?_)
  refine lv_icmp_eq (tgt := 930) hx hb dL_law_467 (by decide) (fun c9 => ?_) (fun c9 => absurd h2.1 c9)
  exact kk S1 S2 H locs h2.2 hPc hPr hS
set_option maxHeartbeats 4000000 in
theorem lawK_inYears {k : Nat} {Rl : CS → CS → Prop} (hC : lawCtx p s m meth c b L xs D X Y) (hL : L ≤ 320) (hk : 5 * k + 5 ≤ L) (hsim : p_X6_inYears S (xs (5 * k + 1)) (xs (5 * k + 2)) (fun r S1 => p_X7_inYears R (xs (5 * k + 1)) (xs (5 * k + 2)) (fun r2 R1 => r = r2 ∧ Rl S1 R1))) (hPc : va_P D vwCl (CW X S) H) (hPr : va_P D vwCl (RW Y R) H) (hS : va_S (A0 s) s.heap H locs) (hl : lv_has ls 4 [(0, .ref b), (1, .ref (X.1 0)), (2, .ref (Y.1 0)), (3, .int (nI (5 * k)))]) (hcs : cells ≤ 600000 ∧ slots ≤ 7302250) (kk : ∀ (S1 R1 : CS) (H1 : Heap) (locs1 : List Loc), Rl S1 R1 → va_P D vwCl (CW X S1) H1 → va_P D vwCl (RW Y R1) H1 → va_S (A0 s) s.heap H1 locs1 → W p l e room_1 s m #[Value.ref b] below meth c H1 locs1 cells slots Q (F0 m 930 ls [])) : W p l e room_1 s m #[Value.ref b] below meth c H locs cells slots Q (F0 m 472 ls []) := by
  obtain ⟨hx, hb, hml, hown, hT, hX, hbl, hK, hF, hIX, hIY, hYX, hXs, hYs, hdis⟩ := id hC
  refine lv_aload_n hx hb dL_law_472 rfl (lv_at hl 1 rfl) ?_
  refine lv_aload_n hx hb dL_law_473 rfl (lv_at hl 0 rfl) ?_
  refine lv_iload_n hx hb dL_law_474 rfl (lv_at hl 3 rfl) ?_
  refine lv_iconst (v := 1) hx hb dL_law_475 (by decide) ?_
  refine lv_iadd hx hb dL_law_476 ?_
  refine g_sld hC hS (5 * k + 1) (by omega) hL (show nI (5 * k) + 1 = nI (5 * k + 1) from nI_add (5 * k) 1) dL_law_477 ?_
  refine lv_aload_n hx hb dL_law_478 rfl (lv_at hl 0 rfl) ?_
  refine lv_iload_n hx hb dL_law_479 rfl (lv_at hl 3 rfl) ?_
  refine lv_iconst (v := 2) hx hb dL_law_480 (by decide) ?_
  refine lv_iadd hx hb dL_law_481 ?_
  refine g_sld hC hS (5 * k + 2) (by omega) hL (show nI (5 * k) + 2 = nI (5 * k + 2) from nI_add (5 * k) 2) dL_law_482 ?_
  refine lawC_i (As := [.int (xs (5 * k + 1)), .int (xs (5 * k + 2))]) (rest := []) hC hPc hPr hS (c_X6_inYears l D X hIX H.size S (xs (5 * k + 1)) (xs (5 * k + 2)) _ hsim) (gd_V wl_L_72 wi_X6_inYears wv_X6_inYears wn_X6 wc_X6_inYears) rfl hd_X6_inYears ⟨rfl, rfl⟩ ⟨Nat.le_of_ble_eq_true rfl, Nat.le_of_ble_eq_true rfl⟩ rfl hl.1 rfl (Nat.le_of_ble_eq_true rfl) dL_law_483 hcs (fun r1 S1 H locs h1 hPc hPr hS => ?_)
  refine lv_aload_n hx hb dL_law_486 rfl (lv_at hl 2 rfl) ?_
  refine lv_aload_n hx hb dL_law_487 rfl (lv_at hl 0 rfl) ?_
  refine lv_iload_n hx hb dL_law_488 rfl (lv_at hl 3 rfl) ?_
  refine lv_iconst (v := 1) hx hb dL_law_489 (by decide) ?_
  refine lv_iadd hx hb dL_law_490 ?_
  refine g_sld hC hS (5 * k + 1) (by omega) hL (show nI (5 * k) + 1 = nI (5 * k + 1) from nI_add (5 * k) 1) dL_law_491 ?_
  refine lv_aload_n hx hb dL_law_492 rfl (lv_at hl 0 rfl) ?_
  refine lv_iload_n hx hb dL_law_493 rfl (lv_at hl 3 rfl) ?_
  refine lv_iconst (v := 2) hx hb dL_law_494 (by decide) ?_
  refine lv_iadd hx hb dL_law_495 ?_
  refine g_sld hC hS (5 * k + 2) (by omega) hL (show nI (5 * k) + 2 = nI (5 * k + 2) from nI_add (5 * k) 2) dL_law_496 ?_
  refine lawR_i (As := [.int (xs (5 * k + 1)), .int (xs (5 * k + 2))]) (rest := [.int r1]) hC hPc hPr hS (c_X7_inYears l D Y hIY H.size R (xs (5 * k + 1)) (xs (5 * k + 2)) _ h1) (gd_V wl_L_75 wi_X7_inYears wv_X7_inYears wn_X7 wc_X7_inYears) rfl hd_X7_inYears ⟨rfl, rfl⟩ ⟨Nat.le_of_ble_eq_true rfl, Nat.le_of_ble_eq_true rfl⟩ rfl hl.1 rfl (Nat.le_of_ble_eq_true rfl) dL_law_497 hcs (fun r2 S2 H locs h2 hPc hPr hS => ?_)
  refine lv_icmp_eq (tgt := 930) hx hb dL_law_500 (by decide) (fun c9 => ?_) (fun c9 => absurd h2.1 c9)
  exact kk S1 S2 H locs h2.2 hPc hPr hS
set_option maxHeartbeats 4000000 in
theorem lawK_turn {k : Nat} {Rl : CS → CS → Prop} (hC : lawCtx p s m meth c b L xs D X Y) (hL : L ≤ 320) (hk : 5 * k + 5 ≤ L) (hsim : p_X6_turn S (xs (5 * k + 1)) (xs (5 * k + 2)) (fun r S1 => p_X7_turn R (xs (5 * k + 1)) (xs (5 * k + 2)) (fun r2 R1 => r = r2 ∧ Rl S1 R1))) (hPc : va_P D vwCl (CW X S) H) (hPr : va_P D vwCl (RW Y R) H) (hS : va_S (A0 s) s.heap H locs) (hl : lv_has ls 4 [(0, .ref b), (1, .ref (X.1 0)), (2, .ref (Y.1 0)), (3, .int (nI (5 * k)))]) (hcs : cells ≤ 600000 ∧ slots ≤ 7302250) (kk : ∀ (S1 R1 : CS) (H1 : Heap) (locs1 : List Loc), Rl S1 R1 → va_P D vwCl (CW X S1) H1 → va_P D vwCl (RW Y R1) H1 → va_S (A0 s) s.heap H1 locs1 → W p l e room_1 s m #[Value.ref b] below meth c H1 locs1 cells slots Q (F0 m 930 ls [])) : W p l e room_1 s m #[Value.ref b] below meth c H locs cells slots Q (F0 m 505 ls []) := by
  obtain ⟨hx, hb, hml, hown, hT, hX, hbl, hK, hF, hIX, hIY, hYX, hXs, hYs, hdis⟩ := id hC
  refine lv_aload_n hx hb dL_law_505 rfl (lv_at hl 1 rfl) ?_
  refine lv_aload_n hx hb dL_law_506 rfl (lv_at hl 0 rfl) ?_
  refine lv_iload_n hx hb dL_law_507 rfl (lv_at hl 3 rfl) ?_
  refine lv_iconst (v := 1) hx hb dL_law_508 (by decide) ?_
  refine lv_iadd hx hb dL_law_509 ?_
  refine g_sld hC hS (5 * k + 1) (by omega) hL (show nI (5 * k) + 1 = nI (5 * k + 1) from nI_add (5 * k) 1) dL_law_510 ?_
  refine lv_aload_n hx hb dL_law_511 rfl (lv_at hl 0 rfl) ?_
  refine lv_iload_n hx hb dL_law_512 rfl (lv_at hl 3 rfl) ?_
  refine lv_iconst (v := 2) hx hb dL_law_513 (by decide) ?_
  refine lv_iadd hx hb dL_law_514 ?_
  refine g_sld hC hS (5 * k + 2) (by omega) hL (show nI (5 * k) + 2 = nI (5 * k + 2) from nI_add (5 * k) 2) dL_law_515 ?_
  refine lawC_i (As := [.int (xs (5 * k + 1)), .int (xs (5 * k + 2))]) (rest := []) hC hPc hPr hS (c_X6_turn l D X hIX H.size S (xs (5 * k + 1)) (xs (5 * k + 2)) _ hsim) (gd_V wl_L_76 wi_X6_turn wv_X6_turn wn_X6 wc_X6_turn) rfl hd_X6_turn ⟨rfl, rfl⟩ ⟨Nat.le_of_ble_eq_true rfl, Nat.le_of_ble_eq_true rfl⟩ rfl hl.1 rfl (Nat.le_of_ble_eq_true rfl) dL_law_516 hcs (fun r1 S1 H locs h1 hPc hPr hS => ?_)
  refine lv_aload_n hx hb dL_law_519 rfl (lv_at hl 2 rfl) ?_
  refine lv_aload_n hx hb dL_law_520 rfl (lv_at hl 0 rfl) ?_
  refine lv_iload_n hx hb dL_law_521 rfl (lv_at hl 3 rfl) ?_
  refine lv_iconst (v := 1) hx hb dL_law_522 (by decide) ?_
  refine lv_iadd hx hb dL_law_523 ?_
  refine g_sld hC hS (5 * k + 1) (by omega) hL (show nI (5 * k) + 1 = nI (5 * k + 1) from nI_add (5 * k) 1) dL_law_524 ?_
  refine lv_aload_n hx hb dL_law_525 rfl (lv_at hl 0 rfl) ?_
  refine lv_iload_n hx hb dL_law_526 rfl (lv_at hl 3 rfl) ?_
  refine lv_iconst (v := 2) hx hb dL_law_527 (by decide) ?_
  refine lv_iadd hx hb dL_law_528 ?_
  refine g_sld hC hS (5 * k + 2) (by omega) hL (show nI (5 * k) + 2 = nI (5 * k + 2) from nI_add (5 * k) 2) dL_law_529 ?_
  refine lawR_i (As := [.int (xs (5 * k + 1)), .int (xs (5 * k + 2))]) (rest := [.int r1]) hC hPc hPr hS (c_X7_turn l D Y hIY H.size R (xs (5 * k + 1)) (xs (5 * k + 2)) _ h1) (gd_V wl_L_79 wi_X7_turn wv_X7_turn wn_X7 wc_X7_turn) rfl hd_X7_turn ⟨rfl, rfl⟩ ⟨Nat.le_of_ble_eq_true rfl, Nat.le_of_ble_eq_true rfl⟩ rfl hl.1 rfl (Nat.le_of_ble_eq_true rfl) dL_law_530 hcs (fun r2 S2 H locs h2 hPc hPr hS => ?_)
  refine lv_icmp_eq (tgt := 930) hx hb dL_law_533 (by decide) (fun c9 => ?_) (fun c9 => absurd h2.1 c9)
  exact kk S1 S2 H locs h2.2 hPc hPr hS
set_option maxHeartbeats 4000000 in
theorem lawK_plan {k : Nat} {Rl : CS → CS → Prop} (hC : lawCtx p s m meth c b L xs D X Y) (hL : L ≤ 320) (hk : 5 * k + 5 ≤ L) (hsim : p_X6_plan S (xs (5 * k + 1)) (xs (5 * k + 2)) (fun r S1 => p_X7_plan R (xs (5 * k + 1)) (xs (5 * k + 2)) (fun r2 R1 => r = r2 ∧ Rl S1 R1))) (hPc : va_P D vwCl (CW X S) H) (hPr : va_P D vwCl (RW Y R) H) (hS : va_S (A0 s) s.heap H locs) (hl : lv_has ls 4 [(0, .ref b), (1, .ref (X.1 0)), (2, .ref (Y.1 0)), (3, .int (nI (5 * k)))]) (hcs : cells ≤ 600000 ∧ slots ≤ 7302250) (kk : ∀ (S1 R1 : CS) (H1 : Heap) (locs1 : List Loc), Rl S1 R1 → va_P D vwCl (CW X S1) H1 → va_P D vwCl (RW Y R1) H1 → va_S (A0 s) s.heap H1 locs1 → W p l e room_1 s m #[Value.ref b] below meth c H1 locs1 cells slots Q (F0 m 930 ls [])) : W p l e room_1 s m #[Value.ref b] below meth c H locs cells slots Q (F0 m 538 ls []) := by
  obtain ⟨hx, hb, hml, hown, hT, hX, hbl, hK, hF, hIX, hIY, hYX, hXs, hYs, hdis⟩ := id hC
  refine lv_aload_n hx hb dL_law_538 rfl (lv_at hl 1 rfl) ?_
  refine lv_aload_n hx hb dL_law_539 rfl (lv_at hl 0 rfl) ?_
  refine lv_iload_n hx hb dL_law_540 rfl (lv_at hl 3 rfl) ?_
  refine lv_iconst (v := 1) hx hb dL_law_541 (by decide) ?_
  refine lv_iadd hx hb dL_law_542 ?_
  refine g_sld hC hS (5 * k + 1) (by omega) hL (show nI (5 * k) + 1 = nI (5 * k + 1) from nI_add (5 * k) 1) dL_law_543 ?_
  refine lv_aload_n hx hb dL_law_544 rfl (lv_at hl 0 rfl) ?_
  refine lv_iload_n hx hb dL_law_545 rfl (lv_at hl 3 rfl) ?_
  refine lv_iconst (v := 2) hx hb dL_law_546 (by decide) ?_
  refine lv_iadd hx hb dL_law_547 ?_
  refine g_sld hC hS (5 * k + 2) (by omega) hL (show nI (5 * k) + 2 = nI (5 * k + 2) from nI_add (5 * k) 2) dL_law_548 ?_
  refine lawC_i (As := [.int (xs (5 * k + 1)), .int (xs (5 * k + 2))]) (rest := []) hC hPc hPr hS (c_X6_plan l D X hIX H.size S (xs (5 * k + 1)) (xs (5 * k + 2)) _ hsim) (gd_V wl_L_80 wi_X6_plan wv_X6_plan wn_X6 wc_X6_plan) rfl hd_X6_plan ⟨rfl, rfl⟩ ⟨Nat.le_of_ble_eq_true rfl, Nat.le_of_ble_eq_true rfl⟩ rfl hl.1 rfl (Nat.le_of_ble_eq_true rfl) dL_law_549 hcs (fun r1 S1 H locs h1 hPc hPr hS => ?_)
  refine lv_aload_n hx hb dL_law_552 rfl (lv_at hl 2 rfl) ?_
  refine lv_aload_n hx hb dL_law_553 rfl (lv_at hl 0 rfl) ?_
  refine lv_iload_n hx hb dL_law_554 rfl (lv_at hl 3 rfl) ?_
  refine lv_iconst (v := 1) hx hb dL_law_555 (by decide) ?_
  refine lv_iadd hx hb dL_law_556 ?_
  refine g_sld hC hS (5 * k + 1) (by omega) hL (show nI (5 * k) + 1 = nI (5 * k + 1) from nI_add (5 * k) 1) dL_law_557 ?_
  refine lv_aload_n hx hb dL_law_558 rfl (lv_at hl 0 rfl) ?_
  refine lv_iload_n hx hb dL_law_559 rfl (lv_at hl 3 rfl) ?_
  refine lv_iconst (v := 2) hx hb dL_law_560 (by decide) ?_
  refine lv_iadd hx hb dL_law_561 ?_
  refine g_sld hC hS (5 * k + 2) (by omega) hL (show nI (5 * k) + 2 = nI (5 * k + 2) from nI_add (5 * k) 2) dL_law_562 ?_
  refine lawR_i (As := [.int (xs (5 * k + 1)), .int (xs (5 * k + 2))]) (rest := [.int r1]) hC hPc hPr hS (c_X7_plan l D Y hIY H.size R (xs (5 * k + 1)) (xs (5 * k + 2)) _ h1) (gd_V wl_L_83 wi_X7_plan wv_X7_plan wn_X7 wc_X7_plan) rfl hd_X7_plan ⟨rfl, rfl⟩ ⟨Nat.le_of_ble_eq_true rfl, Nat.le_of_ble_eq_true rfl⟩ rfl hl.1 rfl (Nat.le_of_ble_eq_true rfl) dL_law_563 hcs (fun r2 S2 H locs h2 hPc hPr hS => ?_)
  refine lv_icmp_eq (tgt := 930) hx hb dL_law_566 (by decide) (fun c9 => ?_) (fun c9 => absurd h2.1 c9)
  exact kk S1 S2 H locs h2.2 hPc hPr hS
set_option maxHeartbeats 4000000 in
theorem lawK_kept {k : Nat} {Rl : CS → CS → Prop} (hC : lawCtx p s m meth c b L xs D X Y) (hL : L ≤ 320) (hk : 5 * k + 5 ≤ L) (hsim : p_X6_kept S (xs (5 * k + 1)) (fun r S1 => p_X7_kept R (xs (5 * k + 1)) (fun r2 R1 => r = r2 ∧ Rl S1 R1))) (hPc : va_P D vwCl (CW X S) H) (hPr : va_P D vwCl (RW Y R) H) (hS : va_S (A0 s) s.heap H locs) (hl : lv_has ls 4 [(0, .ref b), (1, .ref (X.1 0)), (2, .ref (Y.1 0)), (3, .int (nI (5 * k)))]) (hcs : cells ≤ 600000 ∧ slots ≤ 7302250) (kk : ∀ (S1 R1 : CS) (H1 : Heap) (locs1 : List Loc), Rl S1 R1 → va_P D vwCl (CW X S1) H1 → va_P D vwCl (RW Y R1) H1 → va_S (A0 s) s.heap H1 locs1 → W p l e room_1 s m #[Value.ref b] below meth c H1 locs1 cells slots Q (F0 m 930 ls [])) : W p l e room_1 s m #[Value.ref b] below meth c H locs cells slots Q (F0 m 571 ls []) := by
  obtain ⟨hx, hb, hml, hown, hT, hX, hbl, hK, hF, hIX, hIY, hYX, hXs, hYs, hdis⟩ := id hC
  refine lv_aload_n hx hb dL_law_571 rfl (lv_at hl 1 rfl) ?_
  refine lv_aload_n hx hb dL_law_572 rfl (lv_at hl 0 rfl) ?_
  refine lv_iload_n hx hb dL_law_573 rfl (lv_at hl 3 rfl) ?_
  refine lv_iconst (v := 1) hx hb dL_law_574 (by decide) ?_
  refine lv_iadd hx hb dL_law_575 ?_
  refine g_sld hC hS (5 * k + 1) (by omega) hL (show nI (5 * k) + 1 = nI (5 * k + 1) from nI_add (5 * k) 1) dL_law_576 ?_
  refine lawC_i (As := [.int (xs (5 * k + 1))]) (rest := []) hC hPc hPr hS (c_X6_kept l D X hIX H.size S (xs (5 * k + 1)) _ hsim) (gd_V wl_L_84 wi_X6_kept wv_X6_kept wn_X6 wc_X6_kept) rfl hd_X6_kept ⟨rfl, rfl⟩ ⟨Nat.le_of_ble_eq_true rfl, Nat.le_of_ble_eq_true rfl⟩ rfl hl.1 rfl (Nat.le_of_ble_eq_true rfl) dL_law_577 hcs (fun r1 S1 H locs h1 hPc hPr hS => ?_)
  refine lv_aload_n hx hb dL_law_580 rfl (lv_at hl 2 rfl) ?_
  refine lv_aload_n hx hb dL_law_581 rfl (lv_at hl 0 rfl) ?_
  refine lv_iload_n hx hb dL_law_582 rfl (lv_at hl 3 rfl) ?_
  refine lv_iconst (v := 1) hx hb dL_law_583 (by decide) ?_
  refine lv_iadd hx hb dL_law_584 ?_
  refine g_sld hC hS (5 * k + 1) (by omega) hL (show nI (5 * k) + 1 = nI (5 * k + 1) from nI_add (5 * k) 1) dL_law_585 ?_
  refine lawR_i (As := [.int (xs (5 * k + 1))]) (rest := [.int r1]) hC hPc hPr hS (c_X7_kept l D Y hIY H.size R (xs (5 * k + 1)) _ h1) (gd_V wl_L_87 wi_X7_kept wv_X7_kept wn_X7 wc_X7_kept) rfl hd_X7_kept ⟨rfl, rfl⟩ ⟨Nat.le_of_ble_eq_true rfl, Nat.le_of_ble_eq_true rfl⟩ rfl hl.1 rfl (Nat.le_of_ble_eq_true rfl) dL_law_586 hcs (fun r2 S2 H locs h2 hPc hPr hS => ?_)
  refine lv_icmp_eq (tgt := 930) hx hb dL_law_589 (by decide) (fun c9 => ?_) (fun c9 => absurd h2.1 c9)
  exact kk S1 S2 H locs h2.2 hPc hPr hS
set_option maxHeartbeats 4000000 in
theorem lawK_next {k : Nat} {Rl : CS → CS → Prop} (hC : lawCtx p s m meth c b L xs D X Y) (hL : L ≤ 320) (hk : 5 * k + 5 ≤ L) (hsim : p_X6_next S (xs (5 * k + 1)) (fun r S1 => p_X7_next R (xs (5 * k + 1)) (fun r2 R1 => r = r2 ∧ Rl S1 R1))) (hPc : va_P D vwCl (CW X S) H) (hPr : va_P D vwCl (RW Y R) H) (hS : va_S (A0 s) s.heap H locs) (hl : lv_has ls 4 [(0, .ref b), (1, .ref (X.1 0)), (2, .ref (Y.1 0)), (3, .int (nI (5 * k)))]) (hcs : cells ≤ 600000 ∧ slots ≤ 7302250) (kk : ∀ (S1 R1 : CS) (H1 : Heap) (locs1 : List Loc), Rl S1 R1 → va_P D vwCl (CW X S1) H1 → va_P D vwCl (RW Y R1) H1 → va_S (A0 s) s.heap H1 locs1 → W p l e room_1 s m #[Value.ref b] below meth c H1 locs1 cells slots Q (F0 m 930 ls [])) : W p l e room_1 s m #[Value.ref b] below meth c H locs cells slots Q (F0 m 594 ls []) := by
  obtain ⟨hx, hb, hml, hown, hT, hX, hbl, hK, hF, hIX, hIY, hYX, hXs, hYs, hdis⟩ := id hC
  refine lv_aload_n hx hb dL_law_594 rfl (lv_at hl 1 rfl) ?_
  refine lv_aload_n hx hb dL_law_595 rfl (lv_at hl 0 rfl) ?_
  refine lv_iload_n hx hb dL_law_596 rfl (lv_at hl 3 rfl) ?_
  refine lv_iconst (v := 1) hx hb dL_law_597 (by decide) ?_
  refine lv_iadd hx hb dL_law_598 ?_
  refine g_sld hC hS (5 * k + 1) (by omega) hL (show nI (5 * k) + 1 = nI (5 * k + 1) from nI_add (5 * k) 1) dL_law_599 ?_
  refine lawC_i (As := [.int (xs (5 * k + 1))]) (rest := []) hC hPc hPr hS (c_X6_next l D X hIX H.size S (xs (5 * k + 1)) _ hsim) (gd_V wl_L_88 wi_X6_next wv_X6_next wn_X6 wc_X6_next) rfl hd_X6_next ⟨rfl, rfl⟩ ⟨Nat.le_of_ble_eq_true rfl, Nat.le_of_ble_eq_true rfl⟩ rfl hl.1 rfl (Nat.le_of_ble_eq_true rfl) dL_law_600 hcs (fun r1 S1 H locs h1 hPc hPr hS => ?_)
  refine lv_aload_n hx hb dL_law_603 rfl (lv_at hl 2 rfl) ?_
  refine lv_aload_n hx hb dL_law_604 rfl (lv_at hl 0 rfl) ?_
  refine lv_iload_n hx hb dL_law_605 rfl (lv_at hl 3 rfl) ?_
  refine lv_iconst (v := 1) hx hb dL_law_606 (by decide) ?_
  refine lv_iadd hx hb dL_law_607 ?_
  refine g_sld hC hS (5 * k + 1) (by omega) hL (show nI (5 * k) + 1 = nI (5 * k + 1) from nI_add (5 * k) 1) dL_law_608 ?_
  refine lawR_i (As := [.int (xs (5 * k + 1))]) (rest := [.int r1]) hC hPc hPr hS (c_X7_next l D Y hIY H.size R (xs (5 * k + 1)) _ h1) (gd_V wl_L_91 wi_X7_next wv_X7_next wn_X7 wc_X7_next) rfl hd_X7_next ⟨rfl, rfl⟩ ⟨Nat.le_of_ble_eq_true rfl, Nat.le_of_ble_eq_true rfl⟩ rfl hl.1 rfl (Nat.le_of_ble_eq_true rfl) dL_law_609 hcs (fun r2 S2 H locs h2 hPc hPr hS => ?_)
  refine lv_icmp_eq (tgt := 930) hx hb dL_law_612 (by decide) (fun c9 => ?_) (fun c9 => absurd h2.1 c9)
  exact kk S1 S2 H locs h2.2 hPc hPr hS
set_option maxHeartbeats 4000000 in
theorem lawK_lack {k : Nat} {Rl : CS → CS → Prop} (hC : lawCtx p s m meth c b L xs D X Y) (hL : L ≤ 320) (hk : 5 * k + 5 ≤ L) (hsim : p_X6_lack S  (fun r S1 => p_X7_lack R  (fun r2 R1 => r = r2 ∧ Rl S1 R1))) (hPc : va_P D vwCl (CW X S) H) (hPr : va_P D vwCl (RW Y R) H) (hS : va_S (A0 s) s.heap H locs) (hl : lv_has ls 4 [(0, .ref b), (1, .ref (X.1 0)), (2, .ref (Y.1 0)), (3, .int (nI (5 * k)))]) (hcs : cells ≤ 600000 ∧ slots ≤ 7302250) (kk : ∀ (S1 R1 : CS) (H1 : Heap) (locs1 : List Loc), Rl S1 R1 → va_P D vwCl (CW X S1) H1 → va_P D vwCl (RW Y R1) H1 → va_S (A0 s) s.heap H1 locs1 → W p l e room_1 s m #[Value.ref b] below meth c H1 locs1 cells slots Q (F0 m 930 ls [])) : W p l e room_1 s m #[Value.ref b] below meth c H locs cells slots Q (F0 m 617 ls []) := by
  obtain ⟨hx, hb, hml, hown, hT, hX, hbl, hK, hF, hIX, hIY, hYX, hXs, hYs, hdis⟩ := id hC
  refine lv_aload_n hx hb dL_law_617 rfl (lv_at hl 1 rfl) ?_
  refine lawC_i (As := []) (rest := []) hC hPc hPr hS (c_X6_lack l D X hIX H.size S  _ hsim) (gd_V wl_L_92 wi_X6_lack wv_X6_lack wn_X6 wc_X6_lack) rfl hd_X6_lack ⟨rfl, rfl⟩ ⟨Nat.le_of_ble_eq_true rfl, Nat.le_of_ble_eq_true rfl⟩ rfl hl.1 rfl (Nat.le_of_ble_eq_true rfl) dL_law_618 hcs (fun r1 S1 H locs h1 hPc hPr hS => ?_)
  refine lv_aload_n hx hb dL_law_621 rfl (lv_at hl 2 rfl) ?_
  refine lawR_i (As := []) (rest := [.int r1]) hC hPc hPr hS (c_X7_lack l D Y hIY H.size R  _ h1) (gd_V wl_L_95 wi_X7_lack wv_X7_lack wn_X7 wc_X7_lack) rfl hd_X7_lack ⟨rfl, rfl⟩ ⟨Nat.le_of_ble_eq_true rfl, Nat.le_of_ble_eq_true rfl⟩ rfl hl.1 rfl (Nat.le_of_ble_eq_true rfl) dL_law_622 hcs (fun r2 S2 H locs h2 hPc hPr hS => ?_)
  refine lv_icmp_eq (tgt := 930) hx hb dL_law_625 (by decide) (fun c9 => ?_) (fun c9 => absurd h2.1 c9)
  exact kk S1 S2 H locs h2.2 hPc hPr hS
set_option maxHeartbeats 4000000 in
theorem lawK_cutFor {k : Nat} {Rl : CS → CS → Prop} (hC : lawCtx p s m meth c b L xs D X Y) (hL : L ≤ 320) (hk : 5 * k + 5 ≤ L) (hsim : p_X6_cutFor S  (fun r S1 => p_X7_cutFor R  (fun r2 R1 => r = r2 ∧ Rl S1 R1))) (hPc : va_P D vwCl (CW X S) H) (hPr : va_P D vwCl (RW Y R) H) (hS : va_S (A0 s) s.heap H locs) (hl : lv_has ls 4 [(0, .ref b), (1, .ref (X.1 0)), (2, .ref (Y.1 0)), (3, .int (nI (5 * k)))]) (hcs : cells ≤ 600000 ∧ slots ≤ 7302250) (kk : ∀ (S1 R1 : CS) (H1 : Heap) (locs1 : List Loc), Rl S1 R1 → va_P D vwCl (CW X S1) H1 → va_P D vwCl (RW Y R1) H1 → va_S (A0 s) s.heap H1 locs1 → W p l e room_1 s m #[Value.ref b] below meth c H1 locs1 cells slots Q (F0 m 930 ls [])) : W p l e room_1 s m #[Value.ref b] below meth c H locs cells slots Q (F0 m 630 ls []) := by
  obtain ⟨hx, hb, hml, hown, hT, hX, hbl, hK, hF, hIX, hIY, hYX, hXs, hYs, hdis⟩ := id hC
  refine lv_aload_n hx hb dL_law_630 rfl (lv_at hl 1 rfl) ?_
  refine lawC_i (As := []) (rest := []) hC hPc hPr hS (c_X6_cutFor l D X hIX H.size S  _ hsim) (gd_V wl_L_96 wi_X6_cutFor wv_X6_cutFor wn_X6 wc_X6_cutFor) rfl hd_X6_cutFor ⟨rfl, rfl⟩ ⟨Nat.le_of_ble_eq_true rfl, Nat.le_of_ble_eq_true rfl⟩ rfl hl.1 rfl (Nat.le_of_ble_eq_true rfl) dL_law_631 hcs (fun r1 S1 H locs h1 hPc hPr hS => ?_)
  refine lv_aload_n hx hb dL_law_634 rfl (lv_at hl 2 rfl) ?_
  refine lawR_i (As := []) (rest := [.int r1]) hC hPc hPr hS (c_X7_cutFor l D Y hIY H.size R  _ h1) (gd_V wl_L_99 wi_X7_cutFor wv_X7_cutFor wn_X7 wc_X7_cutFor) rfl hd_X7_cutFor ⟨rfl, rfl⟩ ⟨Nat.le_of_ble_eq_true rfl, Nat.le_of_ble_eq_true rfl⟩ rfl hl.1 rfl (Nat.le_of_ble_eq_true rfl) dL_law_635 hcs (fun r2 S2 H locs h2 hPc hPr hS => ?_)
  refine lv_icmp_eq (tgt := 930) hx hb dL_law_638 (by decide) (fun c9 => ?_) (fun c9 => absurd h2.1 c9)
  exact kk S1 S2 H locs h2.2 hPc hPr hS
set_option maxHeartbeats 4000000 in
theorem lawK_allBy {k : Nat} {Rl : CS → CS → Prop} (hC : lawCtx p s m meth c b L xs D X Y) (hL : L ≤ 320) (hk : 5 * k + 5 ≤ L) (hsim : p_X6_allBy S  (fun r S1 => p_X7_allBy R  (fun r2 R1 => r = r2 ∧ Rl S1 R1))) (hPc : va_P D vwCl (CW X S) H) (hPr : va_P D vwCl (RW Y R) H) (hS : va_S (A0 s) s.heap H locs) (hl : lv_has ls 4 [(0, .ref b), (1, .ref (X.1 0)), (2, .ref (Y.1 0)), (3, .int (nI (5 * k)))]) (hcs : cells ≤ 600000 ∧ slots ≤ 7302250) (kk : ∀ (S1 R1 : CS) (H1 : Heap) (locs1 : List Loc), Rl S1 R1 → va_P D vwCl (CW X S1) H1 → va_P D vwCl (RW Y R1) H1 → va_S (A0 s) s.heap H1 locs1 → W p l e room_1 s m #[Value.ref b] below meth c H1 locs1 cells slots Q (F0 m 930 ls [])) : W p l e room_1 s m #[Value.ref b] below meth c H locs cells slots Q (F0 m 643 ls []) := by
  obtain ⟨hx, hb, hml, hown, hT, hX, hbl, hK, hF, hIX, hIY, hYX, hXs, hYs, hdis⟩ := id hC
  refine lv_aload_n hx hb dL_law_643 rfl (lv_at hl 1 rfl) ?_
  refine lawC_i (As := []) (rest := []) hC hPc hPr hS (c_X6_allBy l D X hIX H.size S  _ hsim) (gd_V wl_L_100 wi_X6_allBy wv_X6_allBy wn_X6 wc_X6_allBy) rfl hd_X6_allBy ⟨rfl, rfl⟩ ⟨Nat.le_of_ble_eq_true rfl, Nat.le_of_ble_eq_true rfl⟩ rfl hl.1 rfl (Nat.le_of_ble_eq_true rfl) dL_law_644 hcs (fun r1 S1 H locs h1 hPc hPr hS => ?_)
  refine lv_aload_n hx hb dL_law_647 rfl (lv_at hl 2 rfl) ?_
  refine lawR_i (As := []) (rest := [.int r1]) hC hPc hPr hS (c_X7_allBy l D Y hIY H.size R  _ h1) (gd_V wl_L_103 wi_X7_allBy wv_X7_allBy wn_X7 wc_X7_allBy) rfl hd_X7_allBy ⟨rfl, rfl⟩ ⟨Nat.le_of_ble_eq_true rfl, Nat.le_of_ble_eq_true rfl⟩ rfl hl.1 rfl (Nat.le_of_ble_eq_true rfl) dL_law_648 hcs (fun r2 S2 H locs h2 hPc hPr hS => ?_)
  refine lv_icmp_eq (tgt := 930) hx hb dL_law_651 (by decide) (fun c9 => ?_) (fun c9 => absurd h2.1 c9)
  exact kk S1 S2 H locs h2.2 hPc hPr hS
set_option maxHeartbeats 4000000 in
theorem lawK_lasts {k : Nat} {Rl : CS → CS → Prop} (hC : lawCtx p s m meth c b L xs D X Y) (hL : L ≤ 320) (hk : 5 * k + 5 ≤ L) (hsim : p_X6_lasts S (xs (5 * k + 1)) (fun r S1 => p_X7_lasts R (xs (5 * k + 1)) (fun r2 R1 => r = r2 ∧ Rl S1 R1))) (hPc : va_P D vwCl (CW X S) H) (hPr : va_P D vwCl (RW Y R) H) (hS : va_S (A0 s) s.heap H locs) (hl : lv_has ls 4 [(0, .ref b), (1, .ref (X.1 0)), (2, .ref (Y.1 0)), (3, .int (nI (5 * k)))]) (hcs : cells ≤ 600000 ∧ slots ≤ 7302250) (kk : ∀ (S1 R1 : CS) (H1 : Heap) (locs1 : List Loc), Rl S1 R1 → va_P D vwCl (CW X S1) H1 → va_P D vwCl (RW Y R1) H1 → va_S (A0 s) s.heap H1 locs1 → W p l e room_1 s m #[Value.ref b] below meth c H1 locs1 cells slots Q (F0 m 930 ls [])) : W p l e room_1 s m #[Value.ref b] below meth c H locs cells slots Q (F0 m 656 ls []) := by
  obtain ⟨hx, hb, hml, hown, hT, hX, hbl, hK, hF, hIX, hIY, hYX, hXs, hYs, hdis⟩ := id hC
  refine lv_aload_n hx hb dL_law_656 rfl (lv_at hl 1 rfl) ?_
  refine lv_aload_n hx hb dL_law_657 rfl (lv_at hl 0 rfl) ?_
  refine lv_iload_n hx hb dL_law_658 rfl (lv_at hl 3 rfl) ?_
  refine lv_iconst (v := 1) hx hb dL_law_659 (by decide) ?_
  refine lv_iadd hx hb dL_law_660 ?_
  refine g_sld hC hS (5 * k + 1) (by omega) hL (show nI (5 * k) + 1 = nI (5 * k + 1) from nI_add (5 * k) 1) dL_law_661 ?_
  refine lawC_i (As := [.int (xs (5 * k + 1))]) (rest := []) hC hPc hPr hS (c_X6_lasts l D X hIX H.size S (xs (5 * k + 1)) _ hsim) (gd_V wl_L_104 wi_X6_lasts wv_X6_lasts wn_X6 wc_X6_lasts) rfl hd_X6_lasts ⟨rfl, rfl⟩ ⟨Nat.le_of_ble_eq_true rfl, Nat.le_of_ble_eq_true rfl⟩ rfl hl.1 rfl (Nat.le_of_ble_eq_true rfl) dL_law_662 hcs (fun r1 S1 H locs h1 hPc hPr hS => ?_)
  refine lv_aload_n hx hb dL_law_665 rfl (lv_at hl 2 rfl) ?_
  refine lv_aload_n hx hb dL_law_666 rfl (lv_at hl 0 rfl) ?_
  refine lv_iload_n hx hb dL_law_667 rfl (lv_at hl 3 rfl) ?_
  refine lv_iconst (v := 1) hx hb dL_law_668 (by decide) ?_
  refine lv_iadd hx hb dL_law_669 ?_
  refine g_sld hC hS (5 * k + 1) (by omega) hL (show nI (5 * k) + 1 = nI (5 * k + 1) from nI_add (5 * k) 1) dL_law_670 ?_
  refine lawR_i (As := [.int (xs (5 * k + 1))]) (rest := [.int r1]) hC hPc hPr hS (c_X7_lasts l D Y hIY H.size R (xs (5 * k + 1)) _ h1) (gd_V wl_L_107 wi_X7_lasts wv_X7_lasts wn_X7 wc_X7_lasts) rfl hd_X7_lasts ⟨rfl, rfl⟩ ⟨Nat.le_of_ble_eq_true rfl, Nat.le_of_ble_eq_true rfl⟩ rfl hl.1 rfl (Nat.le_of_ble_eq_true rfl) dL_law_671 hcs (fun r2 S2 H locs h2 hPc hPr hS => ?_)
  refine lv_icmp_eq (tgt := 930) hx hb dL_law_674 (by decide) (fun c9 => ?_) (fun c9 => absurd h2.1 c9)
  exact kk S1 S2 H locs h2.2 hPc hPr hS
set_option maxHeartbeats 4000000 in
theorem lawK_latest {k : Nat} {Rl : CS → CS → Prop} (hC : lawCtx p s m meth c b L xs D X Y) (hL : L ≤ 320) (hk : 5 * k + 5 ≤ L) (hsim : p_X6_latest S  (fun r S1 => p_X7_latest R  (fun r2 R1 => r = r2 ∧ Rl S1 R1))) (hPc : va_P D vwCl (CW X S) H) (hPr : va_P D vwCl (RW Y R) H) (hS : va_S (A0 s) s.heap H locs) (hl : lv_has ls 4 [(0, .ref b), (1, .ref (X.1 0)), (2, .ref (Y.1 0)), (3, .int (nI (5 * k)))]) (hcs : cells ≤ 600000 ∧ slots ≤ 7302250) (kk : ∀ (S1 R1 : CS) (H1 : Heap) (locs1 : List Loc), Rl S1 R1 → va_P D vwCl (CW X S1) H1 → va_P D vwCl (RW Y R1) H1 → va_S (A0 s) s.heap H1 locs1 → W p l e room_1 s m #[Value.ref b] below meth c H1 locs1 cells slots Q (F0 m 930 ls [])) : W p l e room_1 s m #[Value.ref b] below meth c H locs cells slots Q (F0 m 679 ls []) := by
  obtain ⟨hx, hb, hml, hown, hT, hX, hbl, hK, hF, hIX, hIY, hYX, hXs, hYs, hdis⟩ := id hC
  refine lv_aload_n hx hb dL_law_679 rfl (lv_at hl 1 rfl) ?_
  refine lawC_i (As := []) (rest := []) hC hPc hPr hS (c_X6_latest l D X hIX H.size S  _ hsim) (gd_V wl_L_108 wi_X6_latest wv_X6_latest wn_X6 wc_X6_latest) rfl hd_X6_latest ⟨rfl, rfl⟩ ⟨Nat.le_of_ble_eq_true rfl, Nat.le_of_ble_eq_true rfl⟩ rfl hl.1 rfl (Nat.le_of_ble_eq_true rfl) dL_law_680 hcs (fun r1 S1 H locs h1 hPc hPr hS => ?_)
  refine lv_aload_n hx hb dL_law_683 rfl (lv_at hl 2 rfl) ?_
  refine lawR_i (As := []) (rest := [.int r1]) hC hPc hPr hS (c_X7_latest l D Y hIY H.size R  _ h1) (gd_V wl_L_111 wi_X7_latest wv_X7_latest wn_X7 wc_X7_latest) rfl hd_X7_latest ⟨rfl, rfl⟩ ⟨Nat.le_of_ble_eq_true rfl, Nat.le_of_ble_eq_true rfl⟩ rfl hl.1 rfl (Nat.le_of_ble_eq_true rfl) dL_law_684 hcs (fun r2 S2 H locs h2 hPc hPr hS => ?_)
  refine lv_icmp_eq (tgt := 930) hx hb dL_law_687 (by decide) (fun c9 => ?_) (fun c9 => absurd h2.1 c9)
  exact kk S1 S2 H locs h2.2 hPc hPr hS
set_option maxHeartbeats 4000000 in
theorem lawK_saw {k : Nat} {Rl : CS → CS → Prop} (hC : lawCtx p s m meth c b L xs D X Y) (hL : L ≤ 320) (hk : 5 * k + 5 ≤ L) (hsim : p_X6_saw S (xs (5 * k + 1)) (xs (5 * k + 2)) (xs (5 * k + 3)) (fun r S1 => p_X7_saw R (xs (5 * k + 1)) (xs (5 * k + 2)) (xs (5 * k + 3)) (fun r2 R1 => r = r2 ∧ Rl S1 R1))) (hPc : va_P D vwCl (CW X S) H) (hPr : va_P D vwCl (RW Y R) H) (hS : va_S (A0 s) s.heap H locs) (hl : lv_has ls 4 [(0, .ref b), (1, .ref (X.1 0)), (2, .ref (Y.1 0)), (3, .int (nI (5 * k)))]) (hcs : cells ≤ 600000 ∧ slots ≤ 7302250) (kk : ∀ (S1 R1 : CS) (H1 : Heap) (locs1 : List Loc), Rl S1 R1 → va_P D vwCl (CW X S1) H1 → va_P D vwCl (RW Y R1) H1 → va_S (A0 s) s.heap H1 locs1 → W p l e room_1 s m #[Value.ref b] below meth c H1 locs1 cells slots Q (F0 m 930 ls [])) : W p l e room_1 s m #[Value.ref b] below meth c H locs cells slots Q (F0 m 692 ls []) := by
  obtain ⟨hx, hb, hml, hown, hT, hX, hbl, hK, hF, hIX, hIY, hYX, hXs, hYs, hdis⟩ := id hC
  refine lv_aload_n hx hb dL_law_692 rfl (lv_at hl 1 rfl) ?_
  refine lv_aload_n hx hb dL_law_693 rfl (lv_at hl 0 rfl) ?_
  refine lv_iload_n hx hb dL_law_694 rfl (lv_at hl 3 rfl) ?_
  refine lv_iconst (v := 1) hx hb dL_law_695 (by decide) ?_
  refine lv_iadd hx hb dL_law_696 ?_
  refine g_sld hC hS (5 * k + 1) (by omega) hL (show nI (5 * k) + 1 = nI (5 * k + 1) from nI_add (5 * k) 1) dL_law_697 ?_
  refine lv_aload_n hx hb dL_law_698 rfl (lv_at hl 0 rfl) ?_
  refine lv_iload_n hx hb dL_law_699 rfl (lv_at hl 3 rfl) ?_
  refine lv_iconst (v := 2) hx hb dL_law_700 (by decide) ?_
  refine lv_iadd hx hb dL_law_701 ?_
  refine g_sld hC hS (5 * k + 2) (by omega) hL (show nI (5 * k) + 2 = nI (5 * k + 2) from nI_add (5 * k) 2) dL_law_702 ?_
  refine lv_aload_n hx hb dL_law_703 rfl (lv_at hl 0 rfl) ?_
  refine lv_iload_n hx hb dL_law_704 rfl (lv_at hl 3 rfl) ?_
  refine lv_iconst (v := 3) hx hb dL_law_705 (by decide) ?_
  refine lv_iadd hx hb dL_law_706 ?_
  refine g_sld hC hS (5 * k + 3) (by omega) hL (show nI (5 * k) + 3 = nI (5 * k + 3) from nI_add (5 * k) 3) dL_law_707 ?_
  refine lawC_i (As := [.int (xs (5 * k + 1)), .int (xs (5 * k + 2)), .int (xs (5 * k + 3))]) (rest := []) hC hPc hPr hS (c_X6_saw l D X hIX H.size S (xs (5 * k + 1)) (xs (5 * k + 2)) (xs (5 * k + 3)) _ hsim) (gd_V wl_L_112 wi_X6_saw wv_X6_saw wn_X6 wc_X6_saw) rfl hd_X6_saw ⟨rfl, rfl⟩ ⟨Nat.le_of_ble_eq_true rfl, Nat.le_of_ble_eq_true rfl⟩ rfl hl.1 rfl (Nat.le_of_ble_eq_true rfl) dL_law_708 hcs (fun r1 S1 H locs h1 hPc hPr hS => ?_)
  refine lv_aload_n hx hb dL_law_711 rfl (lv_at hl 2 rfl) ?_
  refine lv_aload_n hx hb dL_law_712 rfl (lv_at hl 0 rfl) ?_
  refine lv_iload_n hx hb dL_law_713 rfl (lv_at hl 3 rfl) ?_
  refine lv_iconst (v := 1) hx hb dL_law_714 (by decide) ?_
  refine lv_iadd hx hb dL_law_715 ?_
  refine g_sld hC hS (5 * k + 1) (by omega) hL (show nI (5 * k) + 1 = nI (5 * k + 1) from nI_add (5 * k) 1) dL_law_716 ?_
  refine lv_aload_n hx hb dL_law_717 rfl (lv_at hl 0 rfl) ?_
  refine lv_iload_n hx hb dL_law_718 rfl (lv_at hl 3 rfl) ?_
  refine lv_iconst (v := 2) hx hb dL_law_719 (by decide) ?_
  refine lv_iadd hx hb dL_law_720 ?_
  refine g_sld hC hS (5 * k + 2) (by omega) hL (show nI (5 * k) + 2 = nI (5 * k + 2) from nI_add (5 * k) 2) dL_law_721 ?_
  refine lv_aload_n hx hb dL_law_722 rfl (lv_at hl 0 rfl) ?_
  refine lv_iload_n hx hb dL_law_723 rfl (lv_at hl 3 rfl) ?_
  refine lv_iconst (v := 3) hx hb dL_law_724 (by decide) ?_
  refine lv_iadd hx hb dL_law_725 ?_
  refine g_sld hC hS (5 * k + 3) (by omega) hL (show nI (5 * k) + 3 = nI (5 * k + 3) from nI_add (5 * k) 3) dL_law_726 ?_
  refine lawR_i (As := [.int (xs (5 * k + 1)), .int (xs (5 * k + 2)), .int (xs (5 * k + 3))]) (rest := [.int r1]) hC hPc hPr hS (c_X7_saw l D Y hIY H.size R (xs (5 * k + 1)) (xs (5 * k + 2)) (xs (5 * k + 3)) _ h1) (gd_V wl_L_116 wi_X7_saw wv_X7_saw wn_X7 wc_X7_saw) rfl hd_X7_saw ⟨rfl, rfl⟩ ⟨Nat.le_of_ble_eq_true rfl, Nat.le_of_ble_eq_true rfl⟩ rfl hl.1 rfl (Nat.le_of_ble_eq_true rfl) dL_law_727 hcs (fun r2 S2 H locs h2 hPc hPr hS => ?_)
  refine lv_icmp_eq (tgt := 930) hx hb dL_law_730 (by decide) (fun c9 => ?_) (fun c9 => absurd h2.1 c9)
  exact kk S1 S2 H locs h2.2 hPc hPr hS
set_option maxHeartbeats 4000000 in
theorem lawK_forget {k : Nat} {Rl : CS → CS → Prop} (hC : lawCtx p s m meth c b L xs D X Y) (hL : L ≤ 320) (hk : 5 * k + 5 ≤ L) (hsim : p_X6_forget S  (fun r S1 => p_X7_forget R  (fun r2 R1 => r = r2 ∧ Rl S1 R1))) (hPc : va_P D vwCl (CW X S) H) (hPr : va_P D vwCl (RW Y R) H) (hS : va_S (A0 s) s.heap H locs) (hl : lv_has ls 4 [(0, .ref b), (1, .ref (X.1 0)), (2, .ref (Y.1 0)), (3, .int (nI (5 * k)))]) (hcs : cells ≤ 600000 ∧ slots ≤ 7302250) (kk : ∀ (S1 R1 : CS) (H1 : Heap) (locs1 : List Loc), Rl S1 R1 → va_P D vwCl (CW X S1) H1 → va_P D vwCl (RW Y R1) H1 → va_S (A0 s) s.heap H1 locs1 → W p l e room_1 s m #[Value.ref b] below meth c H1 locs1 cells slots Q (F0 m 930 ls [])) : W p l e room_1 s m #[Value.ref b] below meth c H locs cells slots Q (F0 m 735 ls []) := by
  obtain ⟨hx, hb, hml, hown, hT, hX, hbl, hK, hF, hIX, hIY, hYX, hXs, hYs, hdis⟩ := id hC
  refine lv_aload_n hx hb dL_law_735 rfl (lv_at hl 1 rfl) ?_
  refine lawC_i (As := []) (rest := []) hC hPc hPr hS (c_X6_forget l D X hIX H.size S  _ hsim) (gd_V wl_L_117 wi_X6_forget wv_X6_forget wn_X6 wc_X6_forget) rfl hd_X6_forget ⟨rfl, rfl⟩ ⟨Nat.le_of_ble_eq_true rfl, Nat.le_of_ble_eq_true rfl⟩ rfl hl.1 rfl (Nat.le_of_ble_eq_true rfl) dL_law_736 hcs (fun r1 S1 H locs h1 hPc hPr hS => ?_)
  refine lv_aload_n hx hb dL_law_739 rfl (lv_at hl 2 rfl) ?_
  refine lawR_i (As := []) (rest := [.int r1]) hC hPc hPr hS (c_X7_forget l D Y hIY H.size R  _ h1) (gd_V wl_L_120 wi_X7_forget wv_X7_forget wn_X7 wc_X7_forget) rfl hd_X7_forget ⟨rfl, rfl⟩ ⟨Nat.le_of_ble_eq_true rfl, Nat.le_of_ble_eq_true rfl⟩ rfl hl.1 rfl (Nat.le_of_ble_eq_true rfl) dL_law_740 hcs (fun r2 S2 H locs h2 hPc hPr hS => ?_)
  refine lv_icmp_eq (tgt := 930) hx hb dL_law_743 (by decide) (fun c9 => ?_) (fun c9 => absurd h2.1 c9)
  exact kk S1 S2 H locs h2.2 hPc hPr hS
set_option maxHeartbeats 4000000 in
theorem lawK_which {k : Nat} {Rl : CS → CS → Prop} (hC : lawCtx p s m meth c b L xs D X Y) (hL : L ≤ 320) (hk : 5 * k + 5 ≤ L) (hsim : p_X6_which S  (fun r S1 => p_X7_which R  (fun r2 R1 => r = r2 ∧ Rl S1 R1))) (hPc : va_P D vwCl (CW X S) H) (hPr : va_P D vwCl (RW Y R) H) (hS : va_S (A0 s) s.heap H locs) (hl : lv_has ls 4 [(0, .ref b), (1, .ref (X.1 0)), (2, .ref (Y.1 0)), (3, .int (nI (5 * k)))]) (hcs : cells ≤ 600000 ∧ slots ≤ 7302250) (kk : ∀ (S1 R1 : CS) (H1 : Heap) (locs1 : List Loc), Rl S1 R1 → va_P D vwCl (CW X S1) H1 → va_P D vwCl (RW Y R1) H1 → va_S (A0 s) s.heap H1 locs1 → W p l e room_1 s m #[Value.ref b] below meth c H1 locs1 cells slots Q (F0 m 930 ls [])) : W p l e room_1 s m #[Value.ref b] below meth c H locs cells slots Q (F0 m 748 ls []) := by
  obtain ⟨hx, hb, hml, hown, hT, hX, hbl, hK, hF, hIX, hIY, hYX, hXs, hYs, hdis⟩ := id hC
  refine lv_aload_n hx hb dL_law_748 rfl (lv_at hl 1 rfl) ?_
  refine lawC_i (As := []) (rest := []) hC hPc hPr hS (c_X6_which l D X hIX H.size S  _ hsim) (gd_V wl_L_121 wi_X6_which wv_X6_which wn_X6 wc_X6_which) rfl hd_X6_which ⟨rfl, rfl⟩ ⟨Nat.le_of_ble_eq_true rfl, Nat.le_of_ble_eq_true rfl⟩ rfl hl.1 rfl (Nat.le_of_ble_eq_true rfl) dL_law_749 hcs (fun r1 S1 H locs h1 hPc hPr hS => ?_)
  refine lv_aload_n hx hb dL_law_752 rfl (lv_at hl 2 rfl) ?_
  refine lawR_i (As := []) (rest := [.int r1]) hC hPc hPr hS (c_X7_which l D Y hIY H.size R  _ h1) (gd_V wl_L_124 wi_X7_which wv_X7_which wn_X7 wc_X7_which) rfl hd_X7_which ⟨rfl, rfl⟩ ⟨Nat.le_of_ble_eq_true rfl, Nat.le_of_ble_eq_true rfl⟩ rfl hl.1 rfl (Nat.le_of_ble_eq_true rfl) dL_law_753 hcs (fun r2 S2 H locs h2 hPc hPr hS => ?_)
  refine lv_icmp_eq (tgt := 930) hx hb dL_law_756 (by decide) (fun c9 => ?_) (fun c9 => absurd h2.1 c9)
  exact kk S1 S2 H locs h2.2 hPc hPr hS
set_option maxHeartbeats 4000000 in
theorem lawK_odds {k : Nat} {Rl : CS → CS → Prop} (hC : lawCtx p s m meth c b L xs D X Y) (hL : L ≤ 320) (hk : 5 * k + 5 ≤ L) (hsim : p_X6_odds S (xs (5 * k + 1)) (xs (5 * k + 2)) (xs (5 * k + 3)) (xs (5 * k + 4)) (fun r S1 => p_X7_odds R (xs (5 * k + 1)) (xs (5 * k + 2)) (xs (5 * k + 3)) (xs (5 * k + 4)) (fun r2 R1 => r = r2 ∧ Rl S1 R1))) (hPc : va_P D vwCl (CW X S) H) (hPr : va_P D vwCl (RW Y R) H) (hS : va_S (A0 s) s.heap H locs) (hl : lv_has ls 4 [(0, .ref b), (1, .ref (X.1 0)), (2, .ref (Y.1 0)), (3, .int (nI (5 * k)))]) (hcs : cells ≤ 600000 ∧ slots ≤ 7302250) (kk : ∀ (S1 R1 : CS) (H1 : Heap) (locs1 : List Loc), Rl S1 R1 → va_P D vwCl (CW X S1) H1 → va_P D vwCl (RW Y R1) H1 → va_S (A0 s) s.heap H1 locs1 → W p l e room_1 s m #[Value.ref b] below meth c H1 locs1 cells slots Q (F0 m 930 ls [])) : W p l e room_1 s m #[Value.ref b] below meth c H locs cells slots Q (F0 m 761 ls []) := by
  obtain ⟨hx, hb, hml, hown, hT, hX, hbl, hK, hF, hIX, hIY, hYX, hXs, hYs, hdis⟩ := id hC
  refine lv_aload_n hx hb dL_law_761 rfl (lv_at hl 1 rfl) ?_
  refine lv_aload_n hx hb dL_law_762 rfl (lv_at hl 0 rfl) ?_
  refine lv_iload_n hx hb dL_law_763 rfl (lv_at hl 3 rfl) ?_
  refine lv_iconst (v := 1) hx hb dL_law_764 (by decide) ?_
  refine lv_iadd hx hb dL_law_765 ?_
  refine g_sld hC hS (5 * k + 1) (by omega) hL (show nI (5 * k) + 1 = nI (5 * k + 1) from nI_add (5 * k) 1) dL_law_766 ?_
  refine lv_aload_n hx hb dL_law_767 rfl (lv_at hl 0 rfl) ?_
  refine lv_iload_n hx hb dL_law_768 rfl (lv_at hl 3 rfl) ?_
  refine lv_iconst (v := 2) hx hb dL_law_769 (by decide) ?_
  refine lv_iadd hx hb dL_law_770 ?_
  refine g_sld hC hS (5 * k + 2) (by omega) hL (show nI (5 * k) + 2 = nI (5 * k + 2) from nI_add (5 * k) 2) dL_law_771 ?_
  refine lv_aload_n hx hb dL_law_772 rfl (lv_at hl 0 rfl) ?_
  refine lv_iload_n hx hb dL_law_773 rfl (lv_at hl 3 rfl) ?_
  refine lv_iconst (v := 3) hx hb dL_law_774 (by decide) ?_
  refine lv_iadd hx hb dL_law_775 ?_
  refine g_sld hC hS (5 * k + 3) (by omega) hL (show nI (5 * k) + 3 = nI (5 * k + 3) from nI_add (5 * k) 3) dL_law_776 ?_
  refine lv_aload_n hx hb dL_law_777 rfl (lv_at hl 0 rfl) ?_
  refine lv_iload_n hx hb dL_law_778 rfl (lv_at hl 3 rfl) ?_
  refine lv_iconst (v := 4) hx hb dL_law_779 (by decide) ?_
  refine lv_iadd hx hb dL_law_780 ?_
  refine g_sld hC hS (5 * k + 4) (by omega) hL (show nI (5 * k) + 4 = nI (5 * k + 4) from nI_add (5 * k) 4) dL_law_781 ?_
  refine lawC_i (As := [.int (xs (5 * k + 1)), .int (xs (5 * k + 2)), .int (xs (5 * k + 3)), .int (xs (5 * k + 4))]) (rest := []) hC hPc hPr hS (c_X6_odds l D X hIX H.size S (xs (5 * k + 1)) (xs (5 * k + 2)) (xs (5 * k + 3)) (xs (5 * k + 4)) _ hsim) (gd_V wl_L_125 wi_X6_odds wv_X6_odds wn_X6 wc_X6_odds) rfl hd_X6_odds ⟨rfl, rfl⟩ ⟨Nat.le_of_ble_eq_true rfl, Nat.le_of_ble_eq_true rfl⟩ rfl hl.1 rfl (Nat.le_of_ble_eq_true rfl) dL_law_782 hcs (fun r1 S1 H locs h1 hPc hPr hS => ?_)
  refine lv_aload_n hx hb dL_law_785 rfl (lv_at hl 2 rfl) ?_
  refine lv_aload_n hx hb dL_law_786 rfl (lv_at hl 0 rfl) ?_
  refine lv_iload_n hx hb dL_law_787 rfl (lv_at hl 3 rfl) ?_
  refine lv_iconst (v := 1) hx hb dL_law_788 (by decide) ?_
  refine lv_iadd hx hb dL_law_789 ?_
  refine g_sld hC hS (5 * k + 1) (by omega) hL (show nI (5 * k) + 1 = nI (5 * k + 1) from nI_add (5 * k) 1) dL_law_790 ?_
  refine lv_aload_n hx hb dL_law_791 rfl (lv_at hl 0 rfl) ?_
  refine lv_iload_n hx hb dL_law_792 rfl (lv_at hl 3 rfl) ?_
  refine lv_iconst (v := 2) hx hb dL_law_793 (by decide) ?_
  refine lv_iadd hx hb dL_law_794 ?_
  refine g_sld hC hS (5 * k + 2) (by omega) hL (show nI (5 * k) + 2 = nI (5 * k + 2) from nI_add (5 * k) 2) dL_law_795 ?_
  refine lv_aload_n hx hb dL_law_796 rfl (lv_at hl 0 rfl) ?_
  refine lv_iload_n hx hb dL_law_797 rfl (lv_at hl 3 rfl) ?_
  refine lv_iconst (v := 3) hx hb dL_law_798 (by decide) ?_
  refine lv_iadd hx hb dL_law_799 ?_
  refine g_sld hC hS (5 * k + 3) (by omega) hL (show nI (5 * k) + 3 = nI (5 * k + 3) from nI_add (5 * k) 3) dL_law_800 ?_
  refine lv_aload_n hx hb dL_law_801 rfl (lv_at hl 0 rfl) ?_
  refine lv_iload_n hx hb dL_law_802 rfl (lv_at hl 3 rfl) ?_
  refine lv_iconst (v := 4) hx hb dL_law_803 (by decide) ?_
  refine lv_iadd hx hb dL_law_804 ?_
  refine g_sld hC hS (5 * k + 4) (by omega) hL (show nI (5 * k) + 4 = nI (5 * k + 4) from nI_add (5 * k) 4) dL_law_805 ?_
  refine lawR_i (As := [.int (xs (5 * k + 1)), .int (xs (5 * k + 2)), .int (xs (5 * k + 3)), .int (xs (5 * k + 4))]) (rest := [.int r1]) hC hPc hPr hS (c_X7_odds l D Y hIY H.size R (xs (5 * k + 1)) (xs (5 * k + 2)) (xs (5 * k + 3)) (xs (5 * k + 4)) _ h1) (gd_V wl_L_129 wi_X7_odds wv_X7_odds wn_X7 wc_X7_odds) rfl hd_X7_odds ⟨rfl, rfl⟩ ⟨Nat.le_of_ble_eq_true rfl, Nat.le_of_ble_eq_true rfl⟩ rfl hl.1 rfl (Nat.le_of_ble_eq_true rfl) dL_law_806 hcs (fun r2 S2 H locs h2 hPc hPr hS => ?_)
  refine lv_icmp_eq (tgt := 930) hx hb dL_law_809 (by decide) (fun c9 => ?_) (fun c9 => absurd h2.1 c9)
  exact kk S1 S2 H locs h2.2 hPc hPr hS
set_option maxHeartbeats 4000000 in
theorem lawK_rate {k : Nat} {Rl : CS → CS → Prop} (hC : lawCtx p s m meth c b L xs D X Y) (hL : L ≤ 320) (hk : 5 * k + 5 ≤ L) (hsim : p_X6_rate S (xs (5 * k + 1)) (xs (5 * k + 2)) (fun r S1 => p_X7_rate R (xs (5 * k + 1)) (xs (5 * k + 2)) (fun r2 R1 => r = r2 ∧ Rl S1 R1))) (hPc : va_P D vwCl (CW X S) H) (hPr : va_P D vwCl (RW Y R) H) (hS : va_S (A0 s) s.heap H locs) (hl : lv_has ls 4 [(0, .ref b), (1, .ref (X.1 0)), (2, .ref (Y.1 0)), (3, .int (nI (5 * k)))]) (hcs : cells ≤ 600000 ∧ slots ≤ 7302250) (kk : ∀ (S1 R1 : CS) (H1 : Heap) (locs1 : List Loc), Rl S1 R1 → va_P D vwCl (CW X S1) H1 → va_P D vwCl (RW Y R1) H1 → va_S (A0 s) s.heap H1 locs1 → W p l e room_1 s m #[Value.ref b] below meth c H1 locs1 cells slots Q (F0 m 930 ls [])) : W p l e room_1 s m #[Value.ref b] below meth c H locs cells slots Q (F0 m 814 ls []) := by
  obtain ⟨hx, hb, hml, hown, hT, hX, hbl, hK, hF, hIX, hIY, hYX, hXs, hYs, hdis⟩ := id hC
  refine lv_aload_n hx hb dL_law_814 rfl (lv_at hl 1 rfl) ?_
  refine lv_aload_n hx hb dL_law_815 rfl (lv_at hl 0 rfl) ?_
  refine lv_iload_n hx hb dL_law_816 rfl (lv_at hl 3 rfl) ?_
  refine lv_iconst (v := 1) hx hb dL_law_817 (by decide) ?_
  refine lv_iadd hx hb dL_law_818 ?_
  refine g_sld hC hS (5 * k + 1) (by omega) hL (show nI (5 * k) + 1 = nI (5 * k + 1) from nI_add (5 * k) 1) dL_law_819 ?_
  refine lv_aload_n hx hb dL_law_820 rfl (lv_at hl 0 rfl) ?_
  refine lv_iload_n hx hb dL_law_821 rfl (lv_at hl 3 rfl) ?_
  refine lv_iconst (v := 2) hx hb dL_law_822 (by decide) ?_
  refine lv_iadd hx hb dL_law_823 ?_
  refine g_sld hC hS (5 * k + 2) (by omega) hL (show nI (5 * k) + 2 = nI (5 * k + 2) from nI_add (5 * k) 2) dL_law_824 ?_
  refine lawC_i (As := [.int (xs (5 * k + 1)), .int (xs (5 * k + 2))]) (rest := []) hC hPc hPr hS (c_X6_rate l D X hIX H.size S (xs (5 * k + 1)) (xs (5 * k + 2)) _ hsim) (gd_V wl_L_130 wi_X6_rate wv_X6_rate wn_X6 wc_X6_rate) rfl hd_X6_rate ⟨rfl, rfl⟩ ⟨Nat.le_of_ble_eq_true rfl, Nat.le_of_ble_eq_true rfl⟩ rfl hl.1 rfl (Nat.le_of_ble_eq_true rfl) dL_law_825 hcs (fun r1 S1 H locs h1 hPc hPr hS => ?_)
  refine lv_aload_n hx hb dL_law_828 rfl (lv_at hl 2 rfl) ?_
  refine lv_aload_n hx hb dL_law_829 rfl (lv_at hl 0 rfl) ?_
  refine lv_iload_n hx hb dL_law_830 rfl (lv_at hl 3 rfl) ?_
  refine lv_iconst (v := 1) hx hb dL_law_831 (by decide) ?_
  refine lv_iadd hx hb dL_law_832 ?_
  refine g_sld hC hS (5 * k + 1) (by omega) hL (show nI (5 * k) + 1 = nI (5 * k + 1) from nI_add (5 * k) 1) dL_law_833 ?_
  refine lv_aload_n hx hb dL_law_834 rfl (lv_at hl 0 rfl) ?_
  refine lv_iload_n hx hb dL_law_835 rfl (lv_at hl 3 rfl) ?_
  refine lv_iconst (v := 2) hx hb dL_law_836 (by decide) ?_
  refine lv_iadd hx hb dL_law_837 ?_
  refine g_sld hC hS (5 * k + 2) (by omega) hL (show nI (5 * k) + 2 = nI (5 * k + 2) from nI_add (5 * k) 2) dL_law_838 ?_
  refine lawR_i (As := [.int (xs (5 * k + 1)), .int (xs (5 * k + 2))]) (rest := [.int r1]) hC hPc hPr hS (c_X7_rate l D Y hIY H.size R (xs (5 * k + 1)) (xs (5 * k + 2)) _ h1) (gd_V wl_L_133 wi_X7_rate wv_X7_rate wn_X7 wc_X7_rate) rfl hd_X7_rate ⟨rfl, rfl⟩ ⟨Nat.le_of_ble_eq_true rfl, Nat.le_of_ble_eq_true rfl⟩ rfl hl.1 rfl (Nat.le_of_ble_eq_true rfl) dL_law_839 hcs (fun r2 S2 H locs h2 hPc hPr hS => ?_)
  refine lv_icmp_eq (tgt := 930) hx hb dL_law_842 (by decide) (fun c9 => ?_) (fun c9 => absurd h2.1 c9)
  exact kk S1 S2 H locs h2.2 hPc hPr hS
set_option maxHeartbeats 4000000 in
theorem lawK_keep {k : Nat} {Rl : CS → CS → Prop} (hC : lawCtx p s m meth c b L xs D X Y) (hL : L ≤ 320) (hk : 5 * k + 5 ≤ L) (hsim : p_X6_keep S (xs (5 * k + 1)) (fun r S1 => p_X7_keep R (xs (5 * k + 1)) (fun r2 R1 => r = r2 ∧ Rl S1 R1))) (hPc : va_P D vwCl (CW X S) H) (hPr : va_P D vwCl (RW Y R) H) (hS : va_S (A0 s) s.heap H locs) (hl : lv_has ls 4 [(0, .ref b), (1, .ref (X.1 0)), (2, .ref (Y.1 0)), (3, .int (nI (5 * k)))]) (hcs : cells ≤ 600000 ∧ slots ≤ 7302250) (kk : ∀ (S1 R1 : CS) (H1 : Heap) (locs1 : List Loc), Rl S1 R1 → va_P D vwCl (CW X S1) H1 → va_P D vwCl (RW Y R1) H1 → va_S (A0 s) s.heap H1 locs1 → W p l e room_1 s m #[Value.ref b] below meth c H1 locs1 cells slots Q (F0 m 930 ls [])) : W p l e room_1 s m #[Value.ref b] below meth c H locs cells slots Q (F0 m 847 ls []) := by
  obtain ⟨hx, hb, hml, hown, hT, hX, hbl, hK, hF, hIX, hIY, hYX, hXs, hYs, hdis⟩ := id hC
  refine lv_aload_n hx hb dL_law_847 rfl (lv_at hl 1 rfl) ?_
  refine lv_aload_n hx hb dL_law_848 rfl (lv_at hl 0 rfl) ?_
  refine lv_iload_n hx hb dL_law_849 rfl (lv_at hl 3 rfl) ?_
  refine lv_iconst (v := 1) hx hb dL_law_850 (by decide) ?_
  refine lv_iadd hx hb dL_law_851 ?_
  refine g_sld hC hS (5 * k + 1) (by omega) hL (show nI (5 * k) + 1 = nI (5 * k + 1) from nI_add (5 * k) 1) dL_law_852 ?_
  refine lawC_i (As := [.int (xs (5 * k + 1))]) (rest := []) hC hPc hPr hS (c_X6_keep l D X hIX H.size S (xs (5 * k + 1)) _ hsim) (gd_V wl_L_134 wi_X6_keep wv_X6_keep wn_X6 wc_X6_keep) rfl hd_X6_keep ⟨rfl, rfl⟩ ⟨Nat.le_of_ble_eq_true rfl, Nat.le_of_ble_eq_true rfl⟩ rfl hl.1 rfl (Nat.le_of_ble_eq_true rfl) dL_law_853 hcs (fun r1 S1 H locs h1 hPc hPr hS => ?_)
  refine lv_aload_n hx hb dL_law_856 rfl (lv_at hl 2 rfl) ?_
  refine lv_aload_n hx hb dL_law_857 rfl (lv_at hl 0 rfl) ?_
  refine lv_iload_n hx hb dL_law_858 rfl (lv_at hl 3 rfl) ?_
  refine lv_iconst (v := 1) hx hb dL_law_859 (by decide) ?_
  refine lv_iadd hx hb dL_law_860 ?_
  refine g_sld hC hS (5 * k + 1) (by omega) hL (show nI (5 * k) + 1 = nI (5 * k + 1) from nI_add (5 * k) 1) dL_law_861 ?_
  refine lawR_i (As := [.int (xs (5 * k + 1))]) (rest := [.int r1]) hC hPc hPr hS (c_X7_keep l D Y hIY H.size R (xs (5 * k + 1)) _ h1) (gd_V wl_L_137 wi_X7_keep wv_X7_keep wn_X7 wc_X7_keep) rfl hd_X7_keep ⟨rfl, rfl⟩ ⟨Nat.le_of_ble_eq_true rfl, Nat.le_of_ble_eq_true rfl⟩ rfl hl.1 rfl (Nat.le_of_ble_eq_true rfl) dL_law_862 hcs (fun r2 S2 H locs h2 hPc hPr hS => ?_)
  refine lv_icmp_eq (tgt := 930) hx hb dL_law_865 (by decide) (fun c9 => ?_) (fun c9 => absurd h2.1 c9)
  exact kk S1 S2 H locs h2.2 hPc hPr hS
set_option maxHeartbeats 4000000 in
theorem lawK_back {k : Nat} {Rl : CS → CS → Prop} (hC : lawCtx p s m meth c b L xs D X Y) (hL : L ≤ 320) (hk : 5 * k + 5 ≤ L) (hsim : p_X6_back S (xs (5 * k + 1)) (fun r S1 => p_X7_back R (xs (5 * k + 1)) (fun r2 R1 => r = r2 ∧ Rl S1 R1))) (hPc : va_P D vwCl (CW X S) H) (hPr : va_P D vwCl (RW Y R) H) (hS : va_S (A0 s) s.heap H locs) (hl : lv_has ls 4 [(0, .ref b), (1, .ref (X.1 0)), (2, .ref (Y.1 0)), (3, .int (nI (5 * k)))]) (hcs : cells ≤ 600000 ∧ slots ≤ 7302250) (kk : ∀ (S1 R1 : CS) (H1 : Heap) (locs1 : List Loc), Rl S1 R1 → va_P D vwCl (CW X S1) H1 → va_P D vwCl (RW Y R1) H1 → va_S (A0 s) s.heap H1 locs1 → W p l e room_1 s m #[Value.ref b] below meth c H1 locs1 cells slots Q (F0 m 930 ls [])) : W p l e room_1 s m #[Value.ref b] below meth c H locs cells slots Q (F0 m 870 ls []) := by
  obtain ⟨hx, hb, hml, hown, hT, hX, hbl, hK, hF, hIX, hIY, hYX, hXs, hYs, hdis⟩ := id hC
  refine lv_aload_n hx hb dL_law_870 rfl (lv_at hl 1 rfl) ?_
  refine lv_aload_n hx hb dL_law_871 rfl (lv_at hl 0 rfl) ?_
  refine lv_iload_n hx hb dL_law_872 rfl (lv_at hl 3 rfl) ?_
  refine lv_iconst (v := 1) hx hb dL_law_873 (by decide) ?_
  refine lv_iadd hx hb dL_law_874 ?_
  refine g_sld hC hS (5 * k + 1) (by omega) hL (show nI (5 * k) + 1 = nI (5 * k + 1) from nI_add (5 * k) 1) dL_law_875 ?_
  refine lawC_i (As := [.int (xs (5 * k + 1))]) (rest := []) hC hPc hPr hS (c_X6_back l D X hIX H.size S (xs (5 * k + 1)) _ hsim) (gd_V wl_L_138 wi_X6_back wv_X6_back wn_X6 wc_X6_back) rfl hd_X6_back ⟨rfl, rfl⟩ ⟨Nat.le_of_ble_eq_true rfl, Nat.le_of_ble_eq_true rfl⟩ rfl hl.1 rfl (Nat.le_of_ble_eq_true rfl) dL_law_876 hcs (fun r1 S1 H locs h1 hPc hPr hS => ?_)
  refine lv_aload_n hx hb dL_law_879 rfl (lv_at hl 2 rfl) ?_
  refine lv_aload_n hx hb dL_law_880 rfl (lv_at hl 0 rfl) ?_
  refine lv_iload_n hx hb dL_law_881 rfl (lv_at hl 3 rfl) ?_
  refine lv_iconst (v := 1) hx hb dL_law_882 (by decide) ?_
  refine lv_iadd hx hb dL_law_883 ?_
  refine g_sld hC hS (5 * k + 1) (by omega) hL (show nI (5 * k) + 1 = nI (5 * k + 1) from nI_add (5 * k) 1) dL_law_884 ?_
  refine lawR_i (As := [.int (xs (5 * k + 1))]) (rest := [.int r1]) hC hPc hPr hS (c_X7_back l D Y hIY H.size R (xs (5 * k + 1)) _ h1) (gd_V wl_L_141 wi_X7_back wv_X7_back wn_X7 wc_X7_back) rfl hd_X7_back ⟨rfl, rfl⟩ ⟨Nat.le_of_ble_eq_true rfl, Nat.le_of_ble_eq_true rfl⟩ rfl hl.1 rfl (Nat.le_of_ble_eq_true rfl) dL_law_885 hcs (fun r2 S2 H locs h2 hPc hPr hS => ?_)
  refine lv_icmp_eq (tgt := 930) hx hb dL_law_888 (by decide) (fun c9 => ?_) (fun c9 => absurd h2.1 c9)
  exact kk S1 S2 H locs h2.2 hPc hPr hS
set_option maxHeartbeats 4000000 in
theorem lawK_count {k : Nat} {Rl : CS → CS → Prop} (hC : lawCtx p s m meth c b L xs D X Y) (hL : L ≤ 320) (hk : 5 * k + 5 ≤ L) (hsim : p_X6_count S (xs (5 * k + 1)) (fun r S1 => p_X7_count R (xs (5 * k + 1)) (fun r2 R1 => r = r2 ∧ Rl S1 R1))) (hPc : va_P D vwCl (CW X S) H) (hPr : va_P D vwCl (RW Y R) H) (hS : va_S (A0 s) s.heap H locs) (hl : lv_has ls 4 [(0, .ref b), (1, .ref (X.1 0)), (2, .ref (Y.1 0)), (3, .int (nI (5 * k)))]) (hcs : cells ≤ 600000 ∧ slots ≤ 7302250) (kk : ∀ (S1 R1 : CS) (H1 : Heap) (locs1 : List Loc), Rl S1 R1 → va_P D vwCl (CW X S1) H1 → va_P D vwCl (RW Y R1) H1 → va_S (A0 s) s.heap H1 locs1 → W p l e room_1 s m #[Value.ref b] below meth c H1 locs1 cells slots Q (F0 m 930 ls [])) : W p l e room_1 s m #[Value.ref b] below meth c H locs cells slots Q (F0 m 893 ls []) := by
  obtain ⟨hx, hb, hml, hown, hT, hX, hbl, hK, hF, hIX, hIY, hYX, hXs, hYs, hdis⟩ := id hC
  refine lv_aload_n hx hb dL_law_893 rfl (lv_at hl 1 rfl) ?_
  refine lv_aload_n hx hb dL_law_894 rfl (lv_at hl 0 rfl) ?_
  refine lv_iload_n hx hb dL_law_895 rfl (lv_at hl 3 rfl) ?_
  refine lv_iconst (v := 1) hx hb dL_law_896 (by decide) ?_
  refine lv_iadd hx hb dL_law_897 ?_
  refine g_sld hC hS (5 * k + 1) (by omega) hL (show nI (5 * k) + 1 = nI (5 * k + 1) from nI_add (5 * k) 1) dL_law_898 ?_
  refine lawC_i (As := [.int (xs (5 * k + 1))]) (rest := []) hC hPc hPr hS (c_X6_count l D X hIX H.size S (xs (5 * k + 1)) _ hsim) (gd_V wl_L_142 wi_X6_count wv_X6_count wn_X6 wc_X6_count) rfl hd_X6_count ⟨rfl, rfl⟩ ⟨Nat.le_of_ble_eq_true rfl, Nat.le_of_ble_eq_true rfl⟩ rfl hl.1 rfl (Nat.le_of_ble_eq_true rfl) dL_law_899 hcs (fun r1 S1 H locs h1 hPc hPr hS => ?_)
  refine lv_aload_n hx hb dL_law_902 rfl (lv_at hl 2 rfl) ?_
  refine lv_aload_n hx hb dL_law_903 rfl (lv_at hl 0 rfl) ?_
  refine lv_iload_n hx hb dL_law_904 rfl (lv_at hl 3 rfl) ?_
  refine lv_iconst (v := 1) hx hb dL_law_905 (by decide) ?_
  refine lv_iadd hx hb dL_law_906 ?_
  refine g_sld hC hS (5 * k + 1) (by omega) hL (show nI (5 * k) + 1 = nI (5 * k + 1) from nI_add (5 * k) 1) dL_law_907 ?_
  refine lawR_i (As := [.int (xs (5 * k + 1))]) (rest := [.int r1]) hC hPc hPr hS (c_X7_count l D Y hIY H.size R (xs (5 * k + 1)) _ h1) (gd_V wl_L_145 wi_X7_count wv_X7_count wn_X7 wc_X7_count) rfl hd_X7_count ⟨rfl, rfl⟩ ⟨Nat.le_of_ble_eq_true rfl, Nat.le_of_ble_eq_true rfl⟩ rfl hl.1 rfl (Nat.le_of_ble_eq_true rfl) dL_law_908 hcs (fun r2 S2 H locs h2 hPc hPr hS => ?_)
  refine lv_icmp_eq (tgt := 930) hx hb dL_law_911 (by decide) (fun c9 => ?_) (fun c9 => absurd h2.1 c9)
  exact kk S1 S2 H locs h2.2 hPc hPr hS
set_option maxHeartbeats 4000000 in
theorem lawK_trace {k : Nat} {Rl : CS → CS → Prop} (hC : lawCtx p s m meth c b L xs D X Y) (hL : L ≤ 320) (hk : 5 * k + 5 ≤ L) (hsim : p_X6_trace S  (fun r S1 => p_X7_trace R  (fun r2 R1 => r = r2 ∧ Rl S1 R1))) (hPc : va_P D vwCl (CW X S) H) (hPr : va_P D vwCl (RW Y R) H) (hS : va_S (A0 s) s.heap H locs) (hl : lv_has ls 4 [(0, .ref b), (1, .ref (X.1 0)), (2, .ref (Y.1 0)), (3, .int (nI (5 * k)))]) (hcs : cells ≤ 600000 ∧ slots ≤ 7302250) (kk : ∀ (S1 R1 : CS) (H1 : Heap) (locs1 : List Loc), Rl S1 R1 → va_P D vwCl (CW X S1) H1 → va_P D vwCl (RW Y R1) H1 → va_S (A0 s) s.heap H1 locs1 → W p l e room_1 s m #[Value.ref b] below meth c H1 locs1 cells slots Q (F0 m 930 ls [])) : W p l e room_1 s m #[Value.ref b] below meth c H locs cells slots Q (F0 m 916 ls []) := by
  obtain ⟨hx, hb, hml, hown, hT, hX, hbl, hK, hF, hIX, hIY, hYX, hXs, hYs, hdis⟩ := id hC
  refine lv_aload_n hx hb dL_law_916 rfl (lv_at hl 1 rfl) ?_
  refine lawC_l (As := []) (rest := []) hC hPc hPr hS (c_X6_trace l D X hIX H.size S  _ hsim) (gd_V wl_L_146 wi_X6_trace wv_X6_trace wn_X6 wc_X6_trace) rfl hd_X6_trace ⟨rfl, rfl⟩ ⟨Nat.le_of_ble_eq_true rfl, Nat.le_of_ble_eq_true rfl⟩ rfl hl.1 rfl (Nat.le_of_ble_eq_true rfl) dL_law_917 hcs (fun r1 S1 H locs h1 hPc hPr hS => ?_)
  refine lv_aload_n hx hb dL_law_920 rfl (lv_at hl 2 rfl) ?_
  refine lawR_l (As := []) (rest := [.long r1]) hC hPc hPr hS (c_X7_trace l D Y hIY H.size R  _ h1) (gd_V wl_L_150 wi_X7_trace wv_X7_trace wn_X7 wc_X7_trace) rfl hd_X7_trace ⟨rfl, rfl⟩ ⟨Nat.le_of_ble_eq_true rfl, Nat.le_of_ble_eq_true rfl⟩ rfl hl.1 rfl (Nat.le_of_ble_eq_true rfl) dL_law_921 hcs (fun r2 S2 H locs h2 hPc hPr hS => ?_)
  refine W.lcmp hx hb dL_law_924 ?_
  refine lv_if_eq (tgt := 930) hx hb dL_law_925 (by decide) (fun c9 => ?_) (fun c9 => absurd (by rw [h2.1]; simp [lg_cmp]) c9)
  exact kk S1 S2 H locs h2.2 hPc hPr hS
end LAW
