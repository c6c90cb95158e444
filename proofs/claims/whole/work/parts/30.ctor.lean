/-! rows for constructors: small worlds that grow at their end -/
section KCALL
variable {p : Program} {l : Launch} {e : Env} {R : Room} {s : State} {m : MethodId} {args : Array Value} {below : List Frame} {meth : Method} {c : Code} {H : Heap} {locs : List Loc} {cells slots : Nat} {Q : State → Prop}
variable {cc : ByteArray} {pc : Nat} {ls : Array Slot} {rest st0 : List Value} {D : va_G} {cl : List vw_C} {tys : List (ClassId × FieldType)} {ws wr : va_W} {A : Nat → Prop} {H0 : Heap} {X : XE}
variable {y : MethodName} {bytes : ByteArray} {maxL nL n index mc ms : Nat} {ret : Option FieldType} {rm : Room} {own host : String} {q : Nat} {As : List Value}
theorem g_newa {t0 : Nat} {cA0 : ClassId} (hx : p.tables.exec = Jvm.exec) (hb : c.code = cc) {atype : ArrayType} (harr : (Cond.arrayClass (newarray.typeOf atype)).before args s = true) {ty : FieldType} (hty : newarray.typeOf atype = ty) (ht : tys[t0]? = some (cA0, ty)) (hna : ∀ C, ty ≠ .object C) (hK : va_K D cl tys s) (hP : va_P D cl ws H) (hD : va_D A ws) (hS : va_S A H0 H locs) (hA : ∀ q, H0.size ≤ q → A q)
    {n : Int32} {N' : Nat} {a0 : vp_A} (ha : ∀ cA : ClassId, vp_cell cA a0 = arrV cA N' (fun _ => defaultValue ty)) (hn : ¬ n < 0) (hN : n.toNatClampNeg = N') (hbytes : N' * componentBytes ty ≤ 536870912) (hcells : cells + 1 ≤ R.cells) (hslots : slots + N' ≤ R.slots) (hdg : decode cc pc = .ok (.newarray atype, 2))
    (kk : ∀ (q : Nat) (H1 : Heap), va_P D cl (ws ++ [(q, .inl (cA0, a0))]) H1 → va_D A (ws ++ [(q, .inl (cA0, a0))]) → va_S A H0 H1 locs →
      W p l e R s m args below meth c H1 locs (cells + 1) (slots + N') Q (F0 m (pc + 2) ls (.ref q :: rest))) : W p l e R s m args below meth c H locs cells slots Q (F0 m pc ls (.int n :: rest)) := by
  refine va_newa hx hb harr hty hK hP hD hS hA ha hn hN hbytes hcells hslots hdg (fun q cA H1 hK1 hP1 hD1 hS1 => ?_)
  have h1 := (hK.2 t0 _ ht).2
  have h2 := (hK1.2 tys.length (cA, ty) (by simp)).2
  have e : cA = cA0 := by
    cases ty with
    | object C => exact absurd rfl (hna C)
    | _ => exact Option.some.inj (h2.symm.trans h1)
  subst e
  exact kk q H1 hP1 hD1 hS1
theorem g_newq {t0 : Nat} {cA0 : ClassId} (hx : p.tables.exec = Jvm.exec) (hb : c.code = cc) {C : String} (hown : s.vm.findClass own = some m.cls) (hclink : (Cond.classLink own index C).before args s = true) (hover : va_AO C s) (ht : tys[t0]? = some (cA0, .object C)) (hK : va_K D cl tys s) (hP : va_P D cl ws H) (hD : va_D A ws) (hS : va_S A H0 H locs) (hA : ∀ q, H0.size ≤ q → A q)
    {n : Int32} {N' : Nat} (hn : ¬ n < 0) (hN : n.toNatClampNeg = N') (hbytes : N' * 4 ≤ 536870912) (hcells : cells + 1 ≤ R.cells) (hslots : slots + N' ≤ R.slots) (hdg : decode cc pc = .ok (.anewarray index, 3))
    (kk : ∀ (q : Nat) (H1 : Heap), va_P D cl (ws ++ [(q, .inl (cA0, N', .inr (.inr (.inr (.inr (fun _ => none))))))]) H1 → va_D A (ws ++ [(q, .inl (cA0, N', .inr (.inr (.inr (.inr (fun _ => none))))))]) → va_S A H0 H1 locs →
      W p l e R s m args below meth c H1 locs (cells + 1) (slots + N') Q (F0 m (pc + 3) ls (.ref q :: rest))) : W p l e R s m args below meth c H locs cells slots Q (F0 m pc ls (.int n :: rest)) := by
  refine va_newq hx hb hown hclink hover hK hP hD hS hA hn hN hbytes hcells hslots hdg (fun q cA H1 hK1 hP1 hD1 hS1 => ?_)
  obtain ⟨_, _, _, _, _, h1⟩ := (hK.2 t0 _ ht).2
  obtain ⟨_, _, _, _, _, h2⟩ := (hK1.2 tys.length (cA, .object C) (by simp)).2
  have e : cA = cA0 := Option.some.inj (h2.symm.trans h1)
  subst e
  exact kk q H1 hP1 hD1 hS1
theorem k_join {e0 : va_E} {w1 : va_W} {H1 : Heap} (hP : va_P D cl (wr ++ [(q, e0)]) H) (hD : va_D A (wr ++ [(q, e0)])) (hk : ∀ a : Nat, a < H.size → ¬ va_A [(q, e0)] H.size a → H1[a]? = H[a]?) (hF : ∀ a, va_A [(q, e0)] H.size a → A a) (hP1 : va_P D cl w1 H1) (hD1 : va_D (va_A [(q, e0)] H.size) w1) : va_P D cl (wr ++ w1) H1 ∧ va_D A (wr ++ w1) := by
  have at' : ∀ (k : Nat) (x : Nat × va_E), wr[k]? = some x → k < wr.length ∧ (wr ++ [(q, e0)])[k]? = some x := by
    intro k x hx
    have hl := (List.getElem?_eq_some_iff.mp hx).1
    exact ⟨hl, by rw [List.getElem?_append_left hl]; exact hx⟩
  have apart : ∀ (k : Nat) (x : Nat × va_E), wr[k]? = some x → x.1 < H.size ∧ ¬ va_A [(q, e0)] H.size x.1 := by
    intro k x hx
    obtain ⟨hl, h2⟩ := at' k x hx
    have hlt := (hP k x h2).lt
    refine ⟨hlt, fun h => ?_⟩
    rcases h with ⟨k2, e, h⟩ | h
    · have hk2 : k2 = 0 := by
        have h3 := (List.getElem?_eq_some_iff.mp h).1
        simp at h3
        omega
      subst hk2
      simp at h
      have h4 : (wr ++ [(q, e0)])[wr.length]? = some (q, e0) := by simp
      have h5 := hD.1 k wr.length x (q, e0) h2 h4 h.1.symm
      omega
    · omega
  refine ⟨va_P.app (fun k x hx => (hP k x (at' k x hx).2).kept (hk x.1 (apart k x hx).1 (apart k x hx).2)) hP1, va_D.app ⟨fun i j a b ha hb hab => ?_, fun k x hx => hD.2 k x (at' k x hx).2⟩ (hD1.weaken (fun k x _ h => hF x.1 h)) (fun i j a b ha hb hab => ?_)⟩
  · exact hD.1 i j a b (at' i a ha).2 (at' j b hb).2 hab
  · exact (apart i a ha).2 (by rw [hab]; exact hD1.2 j b hb)
abbrev kPc (D : va_G) (X : XE) (sz q : Nat) (e0 : va_E) (av : List Value) : Array Value → State → Prop := va_Pc av (fun U => U.heap.size = sz ∧ va_P D vwCl [(q, e0)] U.heap ∧ va_K D vwCl (tyX X) U ∧ FXc X (va_A [(q, e0)] sz) U ∧ va_AO "BesomYard$Moment" U)
abbrev kB (D : va_G) (cs : (Nat → Nat) × Mem → va_W) (A : Nat → Prop) : (Nat → Nat) × Mem → State → Prop := fun u t => va_P D vwCl (cs u) t.heap ∧ va_D A (cs u)
theorem kPc_blind {sz : Nat} {e0 : va_E} {av : List Value} : FrameBlind (kPc D X sz q e0 av) := by
  intro a U g mk h
  obtain ⟨q0, q1, qP, qK, qF, qO⟩ := h
  exact ⟨q0, q1, qP, va_K.moved (u := U) (U := U.calling g mk a) (Vm.Alike.refl U.vm) qK, FXc.call U g mk a qF, va_AO.moved (u := U) (U := U.calling g mk a) (Vm.Alike.refl U.vm) qO⟩
theorem k_A {e0 : va_E} (hD : va_D A (wr ++ [(q, e0)])) (hS : va_S A H0 H locs) (hA : ∀ q, H0.size ≤ q → A q) : ∀ a, va_A [(q, e0)] H.size a → A a := by
  intro a h
  rcases h with ⟨k2, e, h⟩ | h
  · have hk2 : k2 = 0 := by
      have h3 := (List.getElem?_eq_some_iff.mp h).1
      simp at h3
      omega
    subst hk2
    simp at h
    have h4 : (wr ++ [(q, e0)])[wr.length]? = some (q, e0) := by simp
    rw [← h.1]
    exact hD.2 wr.length _ h4
  · exact hA a (Nat.le_trans hS.1 h)
/-- a constructor, private of a nest mate, on the newest cell -/
theorem k_IN {e0 : va_E} {post : (Nat → Nat) × Mem → Prop} {cs : (Nat → Nat) × Mem → va_W} (S0 : CallFix p m c cc nL s args lw_gd own) (hM : Met l y (Cond.code y bytes maxL none :: lw_gd) rm (kPc D X H.size q e0 (.ref q :: As)) (va_Qv post (kB D cs (va_A [(q, e0)] H.size)) (va_A [(q, e0)] H.size)) mc ms (va_A [(q, e0)] H.size))
    (hg : GoodIn lw_gd (Cond.code y bytes maxL none :: lw_gd)) (hnw : va_Nw (.methodLinkNest own index y host) s) (hini : (Cond.initialized y.cls).before args s = true) (hin : (Cond.instanceMethod y).before args s = true) (hy : y.name = "<init>") (hd : y.cls ≠ "java/lang/invoke/MethodHandle" ∧ y.cls ≠ "java/lang/invoke/VarHandle" ∧ (parseMethodDescriptor y.desc).map (fun d => d.parameters.length) = some n) (hrm : rm.cells = mc ∧ rm.slots = ms) (hR : rm.frames + 1 ≤ R.frames ∧ 8 + (maxL + 11) + rm.locals ≤ R.locals)
    (hK : va_K D vwCl (tyX X) s) (hP : va_P D vwCl (wr ++ [(q, e0)]) H) (hD : va_D A (wr ++ [(q, e0)])) (hS : va_S A s.heap H locs) (hA : ∀ q, s.heap.size ≤ q → A q) (hF : FXc X A s) (hO : va_AO "BesomYard$Moment" s)
    (hn : As.length = n) (hl : ls.size = nL) (hst : st0 = As.reverse ++ .ref q :: rest) (hW : (rest.map fun v => v.category).sum ≤ 8) (hdg : decode cc pc = .ok (.invokespecial index, 3)) (hcs : cells + mc ≤ R.cells ∧ slots + ms ≤ R.slots)
    (kk : ∀ (u : (Nat → Nat) × Mem) (H1 : Heap) (locs1 : List Loc), post u → va_P D vwCl (wr ++ cs u) H1 → va_D A (wr ++ cs u) → va_S A s.heap H1 locs1 → W p l e R s m args below meth c H1 locs1 (cells + mc) (slots + ms) Q (F0 m (pc + 3) ls rest)) : W p l e R s m args below meth c H locs cells slots Q (F0 m pc ls st0) := by
  have hA1 := k_A hD hS hA
  have hP0 : va_P D vwCl [(q, e0)] H := fun k x hx => hP (wr.length + k) x (by rw [List.getElem?_append_right (by omega), Nat.add_sub_cancel_left]; exact hx)
  refine va_callv (va_runIN (As := As) (rest := rest) (b := q) S0 hM ⟨va_cnB n S0.2.2.2.2 hg rfl hrm.1 hrm.2 hnw hini hd hR, hy, hin⟩ ⟨kPc_blind, fun U hU hW => ⟨rfl, by rw [hU], by rw [hU]; exact hP0, va_K.moved hW.alike hK, hF.go hW (fun a h1 h2 => by rw [hU]; exact hS.2.1 a h1 h2) hA1, va_AO.moved hW.alike hO⟩⟩ rfl hn hl hst (lv_room hW) hdg hcs) hS (fun a _ h => hA1 a h) hA1 (fun u t H1 locs1 ht _ hp hB _ hk hS1 => ?_)
  obtain ⟨hB1, hB2⟩ := hB
  rw [ht] at hB1
  obtain ⟨j1, j2⟩ := k_join hP hD hk hA1 hB1 hB2
  exact kk u H1 locs1 hp j1 j2 hS1
/-- a constructor that may be seen, on the newest cell -/
theorem k_I {e0 : va_E} {post : (Nat → Nat) × Mem → Prop} {cs : (Nat → Nat) × Mem → va_W} (S0 : CallFix p m c cc nL s args lw_gd own) (hM : Met l y (Cond.code y bytes maxL none :: lw_gd) rm (kPc D X H.size q e0 (.ref q :: As)) (va_Qv post (kB D cs (va_A [(q, e0)] H.size)) (va_A [(q, e0)] H.size)) mc ms (va_A [(q, e0)] H.size))
    (hg : GoodIn lw_gd (Cond.code y bytes maxL none :: lw_gd)) (hnw : (Cond.methodLink own index y).before args s = true) (hini : (Cond.initialized y.cls).before args s = true) (hin : (Cond.instanceMethod y).before args s = true) (hy : y.name = "<init>") (hd : y.cls ≠ "java/lang/invoke/MethodHandle" ∧ y.cls ≠ "java/lang/invoke/VarHandle" ∧ (parseMethodDescriptor y.desc).map (fun d => d.parameters.length) = some n) (hrm : rm.cells = mc ∧ rm.slots = ms) (hR : rm.frames + 1 ≤ R.frames ∧ 8 + (maxL + 11) + rm.locals ≤ R.locals)
    (hK : va_K D vwCl (tyX X) s) (hP : va_P D vwCl (wr ++ [(q, e0)]) H) (hD : va_D A (wr ++ [(q, e0)])) (hS : va_S A s.heap H locs) (hA : ∀ q, s.heap.size ≤ q → A q) (hF : FXc X A s) (hO : va_AO "BesomYard$Moment" s)
    (hn : As.length = n) (hl : ls.size = nL) (hst : st0 = As.reverse ++ .ref q :: rest) (hW : (rest.map fun v => v.category).sum ≤ 8) (hdg : decode cc pc = .ok (.invokespecial index, 3)) (hcs : cells + mc ≤ R.cells ∧ slots + ms ≤ R.slots)
    (kk : ∀ (u : (Nat → Nat) × Mem) (H1 : Heap) (locs1 : List Loc), post u → va_P D vwCl (wr ++ cs u) H1 → va_D A (wr ++ cs u) → va_S A s.heap H1 locs1 → W p l e R s m args below meth c H1 locs1 (cells + mc) (slots + ms) Q (F0 m (pc + 3) ls rest)) : W p l e R s m args below meth c H locs cells slots Q (F0 m pc ls st0) := by
  have hA1 := k_A hD hS hA
  have hP0 : va_P D vwCl [(q, e0)] H := fun k x hx => hP (wr.length + k) x (by rw [List.getElem?_append_right (by omega), Nat.add_sub_cancel_left]; exact hx)
  refine va_callv (va_runI (As := As) (rest := rest) (b := q) S0 hM (cwI n S0.2.2.2.2 hg rfl hrm.1 hrm.2 hini hnw hin hy hd hR) ⟨kPc_blind, fun U hU hW => ⟨rfl, by rw [hU], by rw [hU]; exact hP0, va_K.moved hW.alike hK, hF.go hW (fun a h1 h2 => by rw [hU]; exact hS.2.1 a h1 h2) hA1, va_AO.moved hW.alike hO⟩⟩ rfl hn hl hst (lv_room hW) hdg hcs) hS (fun a _ h => hA1 a h) hA1 (fun u t H1 locs1 ht _ hp hB _ hk hS1 => ?_)
  obtain ⟨hB1, hB2⟩ := hB
  rw [ht] at hB1
  obtain ⟨j1, j2⟩ := k_join hP hD hk hA1 hB1 hB2
  exact kk u H1 locs1 hp j1 j2 hS1
end KCALL
/-! the cells that constructors leave -/
abbrev zf : Nat → Int32 := fun _ => 0
abbrev csBesom (X : XE) (h0 : Nat) (u : (Nat → Nat) × Mem) : va_W := [(h0, .inr (0, [.ref (u.1 0), .int 0])), (u.1 0, ia X 8 zf)]
abbrev csMoment (X : XE) (h0 : Nat) (u : (Nat → Nat) × Mem) : va_W := [(h0, .inr (1, [.ref (u.1 0), .ref (u.1 1), .int 0, .int 0, .int 0, .int 0, .int 0, .int 0])), (u.1 0, ia X 6 zf), (u.1 1, .inr (0, [.ref (u.1 2), .int 0])), (u.1 2, ia X 8 zf)]
abbrev csPlanner (X : XE) (h0 : Nat) (u : (Nat → Nat) × Mem) : va_W := [(h0, .inr (2, [.int 0, .ref (u.1 0), .ref (u.1 1), .ref (u.1 2)])), (u.1 0, ia X 4 zf), (u.1 1, ia X 4 zf), (u.1 2, ia X 5 zf)]
abbrev csText (X : XE) (h0 : Nat) (u : (Nat → Nat) × Mem) : va_W := [(h0, .inr (4, [.ref (u.1 0), .int 0, .int 0, .int 0, .int 0, .int 0])), (u.1 0, .inl (X.2.1 1, 200, .inl zf))]
abbrev csTold (X : XE) (h0 : Nat) (u : (Nat → Nat) × Mem) : va_W := [(h0, .inr (5, [.ref (u.1 0), .ref (u.1 1)])), (u.1 0, ia X 6 (u.2 1)), (u.1 1, ia X 54 (u.2 2))]
