section LAW2
variable {p : Program} {l : Launch} {e : Env} {s : State} {m : MethodId} {below : List Frame} {meth : Method} {c : Code} {D : va_G} {X Y : XE} {b L : Nat} {xs : Nat → Int32}
theorem law_gt {k L : Nat} (hL : L ≤ 320) (h : L < 5 * k + 5) (hk : 5 * k ≤ L) : nI L - 5 < nI (5 * k) := by
  rw [Int32.lt_iff_toInt_lt, show (5 : Int32) = nI 5 from rfl, pk_sub_toInt (by omega) (by omega), nI_toInt (by omega)]
  omega
set_option maxHeartbeats 8000000 in
set_option maxRecDepth 100000 in
theorem law_loop {cells slots : Nat} {Rel : Nat → CS → CS → Prop} (hs : Sims Rel) (hC : lawCtx p s m meth c b L xs D X Y) (hr : meth.sig.returnType = ret) (hlocks : meth.locks = false) (hL : L ≤ 320) (hcs : cells ≤ 600000 ∧ slots ≤ 7302250) : ∀ (n k : Nat) (S R : CS) (H : Heap) (locs : List Loc) (ls : Array Slot), L - 5 * k < n → 5 * k ≤ L → Rel k S R → va_P D vwCl (CW X S) H → va_P D vwCl (RW Y R) H → va_S (A0 s) s.heap H locs → lv_has ls 4 [(0, .ref b), (1, .ref (X.1 0)), (2, .ref (Y.1 0)), (3, .int (nI (5 * k)))] → W p l e room_1 s m #[Value.ref b] below meth c H locs cells slots (lw_Z below #[Value.ref b] s) (F0 m 18 ls []) := by
  obtain ⟨hx, hb, hml, hown, hT, hX, hbl, hK, hF, hIX, hIY, hYX, hXs, hYs, hdis⟩ := id hC
  intro n
  induction n with
  | zero => intro k S R H locs ls h; exact absurd h (Nat.not_lt_zero _)
  | succ n ih =>
    intro k S R H locs ls hn hkL hrel hPc hPr hS hl
    refine lv_iload_n hx hb dL_law_18 rfl (lv_at hl 3 rfl) ?_
    refine lv_aload_n hx hb dL_law_19 rfl (lv_at hl 0 rfl) ?_
    refine va_slen hx hb hX hbl (Nat.not_le.mpr hbl) hS dL_law_20 ?_
    refine lv_iconst (v := 5) hx hb dL_law_21 (by decide) ?_
    refine lv_isub hx hb dL_law_22 ?_
    refine lv_icmp_gt (tgt := 936) hx hb dL_law_23 (by decide) (fun c9 => ?_) (fun c9 => ?_)
    · refine lv_iconst (v := 1) hx hb dL_law_936 (by decide) ?_
      refine va_forget (fun q hq => hS.2.2 q hq) ?_
      refine W.widen (k := 600000) (n := 7302250) hcs.1 hcs.2 ?_
      exact lw_ret hx hb hr hlocks dL_law_937
    · have hk5 : 5 * k + 5 ≤ L := by
        rcases Nat.lt_or_ge L (5 * k + 5) with h9 | h9
        · exact absurd (law_gt hL h9 hkL) c9
        · exact h9
      have hk64 : k < 64 := by omega
      have nx : ∀ (S1 R1 : CS) (H1 : Heap) (locs1 : List Loc), Rel (k + 1) S1 R1 → va_P D vwCl (CW X S1) H1 → va_P D vwCl (RW Y R1) H1 → va_S (A0 s) s.heap H1 locs1 → W p l e room_1 s m #[Value.ref b] below meth c H1 locs1 cells slots (lw_Z below #[Value.ref b] s) (F0 m 930 ls []) := by
        intro S1 R1 H1 locs1 hr1 hPc1 hPr1 hS1
        obtain ⟨x3, ex3⟩ : ∃ z : Int32, z = nI (5 * k) + 5 := ⟨_, rfl⟩
        refine lv_iinc (v := x3) (lv' := [(3, .int x3), (0, .ref b), (1, .ref (X.1 0)), (2, .ref (Y.1 0))]) hx hb dL_law_930 hl (k := 3) rfl (by rw [ex3]; rfl) (by decide) rfl (fun ls hl => ?_)
        refine lv_goto (tgt := 18) hx hb dL_law_933 (by decide) ?_
        have e3 : x3 = nI (5 * (k + 1)) := by rw [ex3]; exact (nI_add (5 * k) 5).trans (by rw [Nat.mul_succ])
        exact ih (k + 1) S1 R1 H1 locs1 ls (by omega) (by omega) hr1 hPc1 hPr1 hS1 (lv_sub hl [1, 2, 3, 0] (by rw [e3]; rfl))
      refine lv_aload_n hx hb dL_law_26 rfl (lv_at hl 0 rfl) ?_
      refine lv_iload_n hx hb dL_law_27 rfl (lv_at hl 3 rfl) ?_
      refine g_sld hC hS (5 * k) (by omega) hL rfl dL_law_28 ?_
      refine lv_bipush (v := 63) hx hb dL_law_29 (by decide) ?_
      refine lv_iand hx hb dL_law_31 ?_
      generalize xs (5 * k) &&& 63 = sw
      by_cases c0 : sw = 0
      · refine lv_tableIn (off := 148) (tgt := 180) hx hb dL_law_32 (by rw [c0]; decide) (by rw [c0]; decide) (by rw [c0]; rfl) (by decide) ?_
        exact lawK_type hC hL hk5 (hs.1 k S R _ hk64 hrel) hPc hPr hS hl hcs nx
      by_cases c1 : sw = 1
      · refine lv_tableIn (off := 171) (tgt := 203) hx hb dL_law_32 (by rw [c1]; decide) (by rw [c1]; decide) (by rw [c1]; rfl) (by decide) ?_
        exact lawK_clear hC hL hk5 (hs.2.1 k S R  hk64 hrel) hPc hPr hS hl hcs nx
      by_cases c2 : sw = 2
      · refine lv_tableIn (off := 184) (tgt := 216) hx hb dL_law_32 (by rw [c2]; decide) (by rw [c2]; decide) (by rw [c2]; rfl) (by decide) ?_
        exact lawK_yard hC hL hk5 (hs.2.2.1 k S R  hk64 hrel) hPc hPr hS hl hcs nx
      by_cases c3 : sw = 3
      · refine lv_tableIn (off := 197) (tgt := 229) hx hb dL_law_32 (by rw [c3]; decide) (by rw [c3]; decide) (by rw [c3]; rfl) (by decide) ?_
        exact lawK_part hC hL hk5 (hs.2.2.2.1 k S R _ _ hk64 hrel) hPc hPr hS hl hcs nx
      by_cases c4 : sw = 4
      · refine lv_tableIn (off := 230) (tgt := 262) hx hb dL_law_32 (by rw [c4]; decide) (by rw [c4]; decide) (by rw [c4]; rfl) (by decide) ?_
        exact lawK_order hC hL hk5 (hs.2.2.2.2.1 k S R _ _ hk64 hrel) hPc hPr hS hl hcs nx
      by_cases c5 : sw = 5
      · refine lv_tableIn (off := 263) (tgt := 295) hx hb dL_law_32 (by rw [c5]; decide) (by rw [c5]; decide) (by rw [c5]; rfl) (by decide) ?_
        exact lawK_side hC hL hk5 (hs.2.2.2.2.2.1 k S R _ hk64 hrel) hPc hPr hS hl hcs nx
      by_cases c6 : sw = 6
      · refine lv_tableIn (off := 286) (tgt := 318) hx hb dL_law_32 (by rw [c6]; decide) (by rw [c6]; decide) (by rw [c6]; rfl) (by decide) ?_
        exact lawK_now hC hL hk5 (hs.2.2.2.2.2.2.1 k S R _ hk64 hrel) hPc hPr hS hl hcs nx
      by_cases c7 : sw = 7
      · refine lv_tableIn (off := 309) (tgt := 341) hx hb dL_law_32 (by rw [c7]; decide) (by rw [c7]; decide) (by rw [c7]; rfl) (by decide) ?_
        exact lawK_cuts hC hL hk5 (hs.2.2.2.2.2.2.2.1 k S R _ hk64 hrel) hPc hPr hS hl hcs nx
      by_cases c8 : sw = 8
      · refine lv_tableIn (off := 332) (tgt := 364) hx hb dL_law_32 (by rw [c8]; decide) (by rw [c8]; decide) (by rw [c8]; rfl) (by decide) ?_
        exact lawK_year hC hL hk5 (hs.2.2.2.2.2.2.2.2.1 k S R  hk64 hrel) hPc hPr hS hl hcs nx
      by_cases c9 : sw = 9
      · refine lv_tableIn (off := 345) (tgt := 377) hx hb dL_law_32 (by rw [c9]; decide) (by rw [c9]; decide) (by rw [c9]; rfl) (by decide) ?_
        exact lawK_binds hC hL hk5 (hs.2.2.2.2.2.2.2.2.2.1 k S R _ hk64 hrel) hPc hPr hS hl hcs nx
      by_cases c10 : sw = 10
      · refine lv_tableIn (off := 368) (tgt := 400) hx hb dL_law_32 (by rw [c10]; decide) (by rw [c10]; decide) (by rw [c10]; rfl) (by decide) ?_
        exact lawK_sends hC hL hk5 (hs.2.2.2.2.2.2.2.2.2.2.1 k S R _ hk64 hrel) hPc hPr hS hl hcs nx
      by_cases c11 : sw = 11
      · refine lv_tableIn (off := 391) (tgt := 423) hx hb dL_law_32 (by rw [c11]; decide) (by rw [c11]; decide) (by rw [c11]; rfl) (by decide) ?_
        exact lawK_sweeps hC hL hk5 (hs.2.2.2.2.2.2.2.2.2.2.2.1 k S R  hk64 hrel) hPc hPr hS hl hcs nx
      by_cases c12 : sw = 12
      · refine lv_tableIn (off := 404) (tgt := 436) hx hb dL_law_32 (by rw [c12]; decide) (by rw [c12]; decide) (by rw [c12]; rfl) (by decide) ?_
        exact lawK_spins hC hL hk5 (hs.2.2.2.2.2.2.2.2.2.2.2.2.1 k S R _ hk64 hrel) hPc hPr hS hl hcs nx
      by_cases c13 : sw = 13
      · refine lv_tableIn (off := 427) (tgt := 459) hx hb dL_law_32 (by rw [c13]; decide) (by rw [c13]; decide) (by rw [c13]; rfl) (by decide) ?_
        exact lawK_undo hC hL hk5 (hs.2.2.2.2.2.2.2.2.2.2.2.2.2.1 k S R  hk64 hrel) hPc hPr hS hl hcs nx
      by_cases c14 : sw = 14
      · refine lv_tableIn (off := 440) (tgt := 472) hx hb dL_law_32 (by rw [c14]; decide) (by rw [c14]; decide) (by rw [c14]; rfl) (by decide) ?_
        exact lawK_inYears hC hL hk5 (hs.2.2.2.2.2.2.2.2.2.2.2.2.2.2.1 k S R _ _ hk64 hrel) hPc hPr hS hl hcs nx
      by_cases c15 : sw = 15
      · refine lv_tableIn (off := 473) (tgt := 505) hx hb dL_law_32 (by rw [c15]; decide) (by rw [c15]; decide) (by rw [c15]; rfl) (by decide) ?_
        exact lawK_turn hC hL hk5 (hs.2.2.2.2.2.2.2.2.2.2.2.2.2.2.2.1 k S R _ _ hk64 hrel) hPc hPr hS hl hcs nx
      by_cases c16 : sw = 16
      · refine lv_tableIn (off := 506) (tgt := 538) hx hb dL_law_32 (by rw [c16]; decide) (by rw [c16]; decide) (by rw [c16]; rfl) (by decide) ?_
        exact lawK_plan hC hL hk5 (hs.2.2.2.2.2.2.2.2.2.2.2.2.2.2.2.2.1 k S R _ _ hk64 hrel) hPc hPr hS hl hcs nx
      by_cases c17 : sw = 17
      · refine lv_tableIn (off := 539) (tgt := 571) hx hb dL_law_32 (by rw [c17]; decide) (by rw [c17]; decide) (by rw [c17]; rfl) (by decide) ?_
        exact lawK_kept hC hL hk5 (hs.2.2.2.2.2.2.2.2.2.2.2.2.2.2.2.2.2.1 k S R _ hk64 hrel) hPc hPr hS hl hcs nx
      by_cases c18 : sw = 18
      · refine lv_tableIn (off := 562) (tgt := 594) hx hb dL_law_32 (by rw [c18]; decide) (by rw [c18]; decide) (by rw [c18]; rfl) (by decide) ?_
        exact lawK_next hC hL hk5 (hs.2.2.2.2.2.2.2.2.2.2.2.2.2.2.2.2.2.2.1 k S R _ hk64 hrel) hPc hPr hS hl hcs nx
      by_cases c19 : sw = 19
      · refine lv_tableIn (off := 585) (tgt := 617) hx hb dL_law_32 (by rw [c19]; decide) (by rw [c19]; decide) (by rw [c19]; rfl) (by decide) ?_
        exact lawK_lack hC hL hk5 (hs.2.2.2.2.2.2.2.2.2.2.2.2.2.2.2.2.2.2.2.1 k S R  hk64 hrel) hPc hPr hS hl hcs nx
      by_cases c20 : sw = 20
      · refine lv_tableIn (off := 598) (tgt := 630) hx hb dL_law_32 (by rw [c20]; decide) (by rw [c20]; decide) (by rw [c20]; rfl) (by decide) ?_
        exact lawK_cutFor hC hL hk5 (hs.2.2.2.2.2.2.2.2.2.2.2.2.2.2.2.2.2.2.2.2.1 k S R  hk64 hrel) hPc hPr hS hl hcs nx
      by_cases c21 : sw = 21
      · refine lv_tableIn (off := 611) (tgt := 643) hx hb dL_law_32 (by rw [c21]; decide) (by rw [c21]; decide) (by rw [c21]; rfl) (by decide) ?_
        exact lawK_allBy hC hL hk5 (hs.2.2.2.2.2.2.2.2.2.2.2.2.2.2.2.2.2.2.2.2.2.1 k S R  hk64 hrel) hPc hPr hS hl hcs nx
      by_cases c22 : sw = 22
      · refine lv_tableIn (off := 624) (tgt := 656) hx hb dL_law_32 (by rw [c22]; decide) (by rw [c22]; decide) (by rw [c22]; rfl) (by decide) ?_
        exact lawK_lasts hC hL hk5 (hs.2.2.2.2.2.2.2.2.2.2.2.2.2.2.2.2.2.2.2.2.2.2.1 k S R _ hk64 hrel) hPc hPr hS hl hcs nx
      by_cases c23 : sw = 23
      · refine lv_tableIn (off := 647) (tgt := 679) hx hb dL_law_32 (by rw [c23]; decide) (by rw [c23]; decide) (by rw [c23]; rfl) (by decide) ?_
        exact lawK_latest hC hL hk5 (hs.2.2.2.2.2.2.2.2.2.2.2.2.2.2.2.2.2.2.2.2.2.2.2.1 k S R  hk64 hrel) hPc hPr hS hl hcs nx
      by_cases c24 : sw = 24
      · refine lv_tableIn (off := 660) (tgt := 692) hx hb dL_law_32 (by rw [c24]; decide) (by rw [c24]; decide) (by rw [c24]; rfl) (by decide) ?_
        exact lawK_saw hC hL hk5 (hs.2.2.2.2.2.2.2.2.2.2.2.2.2.2.2.2.2.2.2.2.2.2.2.2.1 k S R _ _ _ hk64 hrel) hPc hPr hS hl hcs nx
      by_cases c25 : sw = 25
      · refine lv_tableIn (off := 703) (tgt := 735) hx hb dL_law_32 (by rw [c25]; decide) (by rw [c25]; decide) (by rw [c25]; rfl) (by decide) ?_
        exact lawK_forget hC hL hk5 (hs.2.2.2.2.2.2.2.2.2.2.2.2.2.2.2.2.2.2.2.2.2.2.2.2.2.1 k S R  hk64 hrel) hPc hPr hS hl hcs nx
      by_cases c26 : sw = 26
      · refine lv_tableIn (off := 716) (tgt := 748) hx hb dL_law_32 (by rw [c26]; decide) (by rw [c26]; decide) (by rw [c26]; rfl) (by decide) ?_
        exact lawK_which hC hL hk5 (hs.2.2.2.2.2.2.2.2.2.2.2.2.2.2.2.2.2.2.2.2.2.2.2.2.2.2.1 k S R  hk64 hrel) hPc hPr hS hl hcs nx
      by_cases c27 : sw = 27
      · refine lv_tableIn (off := 729) (tgt := 761) hx hb dL_law_32 (by rw [c27]; decide) (by rw [c27]; decide) (by rw [c27]; rfl) (by decide) ?_
        exact lawK_odds hC hL hk5 (hs.2.2.2.2.2.2.2.2.2.2.2.2.2.2.2.2.2.2.2.2.2.2.2.2.2.2.2.1 k S R _ _ _ _ hk64 hrel) hPc hPr hS hl hcs nx
      by_cases c28 : sw = 28
      · refine lv_tableIn (off := 782) (tgt := 814) hx hb dL_law_32 (by rw [c28]; decide) (by rw [c28]; decide) (by rw [c28]; rfl) (by decide) ?_
        exact lawK_rate hC hL hk5 (hs.2.2.2.2.2.2.2.2.2.2.2.2.2.2.2.2.2.2.2.2.2.2.2.2.2.2.2.2.1 k S R _ _ hk64 hrel) hPc hPr hS hl hcs nx
      by_cases c29 : sw = 29
      · refine lv_tableIn (off := 815) (tgt := 847) hx hb dL_law_32 (by rw [c29]; decide) (by rw [c29]; decide) (by rw [c29]; rfl) (by decide) ?_
        exact lawK_keep hC hL hk5 (hs.2.2.2.2.2.2.2.2.2.2.2.2.2.2.2.2.2.2.2.2.2.2.2.2.2.2.2.2.2.1 k S R _ hk64 hrel) hPc hPr hS hl hcs nx
      by_cases c30 : sw = 30
      · refine lv_tableIn (off := 838) (tgt := 870) hx hb dL_law_32 (by rw [c30]; decide) (by rw [c30]; decide) (by rw [c30]; rfl) (by decide) ?_
        exact lawK_back hC hL hk5 (hs.2.2.2.2.2.2.2.2.2.2.2.2.2.2.2.2.2.2.2.2.2.2.2.2.2.2.2.2.2.2.1 k S R _ hk64 hrel) hPc hPr hS hl hcs nx
      by_cases c31 : sw = 31
      · refine lv_tableIn (off := 861) (tgt := 893) hx hb dL_law_32 (by rw [c31]; decide) (by rw [c31]; decide) (by rw [c31]; rfl) (by decide) ?_
        exact lawK_count hC hL hk5 (hs.2.2.2.2.2.2.2.2.2.2.2.2.2.2.2.2.2.2.2.2.2.2.2.2.2.2.2.2.2.2.2.1 k S R _ hk64 hrel) hPc hPr hS hl hcs nx
      by_cases c32 : sw = 32
      · refine lv_tableIn (off := 884) (tgt := 916) hx hb dL_law_32 (by rw [c32]; decide) (by rw [c32]; decide) (by rw [c32]; rfl) (by decide) ?_
        exact lawK_trace hC hL hk5 (hs.2.2.2.2.2.2.2.2.2.2.2.2.2.2.2.2.2.2.2.2.2.2.2.2.2.2.2.2.2.2.2.2.1 k S R  hk64 hrel) hPc hPr hS hl hcs nx
      refine lv_tableOut (tgt := 930) hx hb dL_law_32 (by have e0 := lv_neT c0 (a := 0) rfl; have e1 := lv_neT c1 (a := 1) rfl; have e2 := lv_neT c2 (a := 2) rfl; have e3 := lv_neT c3 (a := 3) rfl; have e4 := lv_neT c4 (a := 4) rfl; have e5 := lv_neT c5 (a := 5) rfl; have e6 := lv_neT c6 (a := 6) rfl; have e7 := lv_neT c7 (a := 7) rfl; have e8 := lv_neT c8 (a := 8) rfl; have e9 := lv_neT c9 (a := 9) rfl; have e10 := lv_neT c10 (a := 10) rfl; have e11 := lv_neT c11 (a := 11) rfl; have e12 := lv_neT c12 (a := 12) rfl; have e13 := lv_neT c13 (a := 13) rfl; have e14 := lv_neT c14 (a := 14) rfl; have e15 := lv_neT c15 (a := 15) rfl; have e16 := lv_neT c16 (a := 16) rfl; have e17 := lv_neT c17 (a := 17) rfl; have e18 := lv_neT c18 (a := 18) rfl; have e19 := lv_neT c19 (a := 19) rfl; have e20 := lv_neT c20 (a := 20) rfl; have e21 := lv_neT c21 (a := 21) rfl; have e22 := lv_neT c22 (a := 22) rfl; have e23 := lv_neT c23 (a := 23) rfl; have e24 := lv_neT c24 (a := 24) rfl; have e25 := lv_neT c25 (a := 25) rfl; have e26 := lv_neT c26 (a := 26) rfl; have e27 := lv_neT c27 (a := 27) rfl; have e28 := lv_neT c28 (a := 28) rfl; have e29 := lv_neT c29 (a := 29) rfl; have e30 := lv_neT c30 (a := 30) rfl; have e31 := lv_neT c31 (a := 31) rfl; have e32 := lv_neT c32 (a := 32) rfl; omega) (by decide) ?_
      exact nx S R H locs (hs.2.2.2.2.2.2.2.2.2.2.2.2.2.2.2.2.2.2.2.2.2.2.2.2.2.2.2.2.2.2.2.2.2 k S R hk64 hrel) hPc hPr hS
end LAW2
theorem zA_AT_FIRST {b : Nat} {s : State} (hT : ∀ w ∈ lw_tbl, w.before #[Value.ref b] s = true) (hg : (Jvm.Cond.and given_1 narrow_1).before #[Value.ref b] s = true) : ∃ t : Nat, ZA "AT_FIRST" t 9 [0, 0, 0, 0, 0, 9, 3, 11, 9] (A0 s) s := by
  have hs := flat_of_before _ hg
  have hA : ∀ a : Nat, a < s.heap.size → ¬ A0 s a := fun a h => Nat.not_le.mpr h
  have harr : (Cond.arrayOf (Term.static "BesomYard$Told" "AT_FIRST" "[I") .int).before #[Value.ref b] s = true := hs _ (by decide +kernel)
  have hlen : (Cond.eq (.length (Term.static "BesomYard$Told" "AT_FIRST" "[I")) (.int 9)).before #[Value.ref b] s = true := hs _ (by decide +kernel)
  have h0 : (Cond.eq (.elem (Term.static "BesomYard$Told" "AT_FIRST" "[I") (.int 0)) (.int 0)).before #[Value.ref b] s = true := hs _ (by decide +kernel)
  have h1 : (Cond.eq (.elem (Term.static "BesomYard$Told" "AT_FIRST" "[I") (.int 1)) (.int 0)).before #[Value.ref b] s = true := hs _ (by decide +kernel)
  have h2 : (Cond.eq (.elem (Term.static "BesomYard$Told" "AT_FIRST" "[I") (.int 2)) (.int 0)).before #[Value.ref b] s = true := hs _ (by decide +kernel)
  have h3 : (Cond.eq (.elem (Term.static "BesomYard$Told" "AT_FIRST" "[I") (.int 3)) (.int 0)).before #[Value.ref b] s = true := hs _ (by decide +kernel)
  have h4 : (Cond.eq (.elem (Term.static "BesomYard$Told" "AT_FIRST" "[I") (.int 4)) (.int 0)).before #[Value.ref b] s = true := hs _ (by decide +kernel)
  have h5 : (Cond.eq (.elem (Term.static "BesomYard$Told" "AT_FIRST" "[I") (.int 5)) (.int 9)).before #[Value.ref b] s = true := hs _ (by decide +kernel)
  have h6 : (Cond.eq (.elem (Term.static "BesomYard$Told" "AT_FIRST" "[I") (.int 6)) (.int 3)).before #[Value.ref b] s = true := hs _ (by decide +kernel)
  have h7 : (Cond.eq (.elem (Term.static "BesomYard$Told" "AT_FIRST" "[I") (.int 7)) (.int 11)).before #[Value.ref b] s = true := hs _ (by decide +kernel)
  have h8 : (Cond.eq (.elem (Term.static "BesomYard$Told" "AT_FIRST" "[I") (.int 8)) (.int 9)).before #[Value.ref b] s = true := hs _ (by decide +kernel)
  obtain ⟨t, h1, h2⟩ := va_Tof (N := 9) (f := fun j => .int (([0, 0, 0, 0, 0, 9, 3, 11, 9] : List Int32).getD j 0)) (A := A0 s) (by decide) harr (va_eqt hlen) (fun j hj => by
    rcases (show j = 0 ∨ j = 1 ∨ j = 2 ∨ j = 3 ∨ j = 4 ∨ j = 5 ∨ j = 6 ∨ j = 7 ∨ j = 8 by omega) with rfl | rfl | rfl | rfl | rfl | rfl | rfl | rfl | rfl
    · exact va_eqt h0
    · exact va_eqt h1
    · exact va_eqt h2
    · exact va_eqt h3
    · exact va_eqt h4
    · exact va_eqt h5
    · exact va_eqt h6
    · exact va_eqt h7
    · exact va_eqt h8) hA
  exact ⟨t, va_Zof (hT _ wls_61) (hT _ (List.mem_filter.mp wn_X5).1) h1 hA, h2⟩
theorem zA_ITEMS_MOST {b : Nat} {s : State} (hT : ∀ w ∈ lw_tbl, w.before #[Value.ref b] s = true) (hg : (Jvm.Cond.and given_1 narrow_1).before #[Value.ref b] s = true) : ∃ t : Nat, ZA "ITEMS_MOST" t 6 [6, 6, 1, 1, 1, 1] (A0 s) s := by
  have hs := flat_of_before _ hg
  have hA : ∀ a : Nat, a < s.heap.size → ¬ A0 s a := fun a h => Nat.not_le.mpr h
  have harr : (Cond.arrayOf (Term.static "BesomYard$Told" "ITEMS_MOST" "[I") .int).before #[Value.ref b] s = true := hs _ (by decide +kernel)
  have hlen : (Cond.eq (.length (Term.static "BesomYard$Told" "ITEMS_MOST" "[I")) (.int 6)).before #[Value.ref b] s = true := hs _ (by decide +kernel)
  have h0 : (Cond.eq (.elem (Term.static "BesomYard$Told" "ITEMS_MOST" "[I") (.int 0)) (.int 6)).before #[Value.ref b] s = true := hs _ (by decide +kernel)
  have h1 : (Cond.eq (.elem (Term.static "BesomYard$Told" "ITEMS_MOST" "[I") (.int 1)) (.int 6)).before #[Value.ref b] s = true := hs _ (by decide +kernel)
  have h2 : (Cond.eq (.elem (Term.static "BesomYard$Told" "ITEMS_MOST" "[I") (.int 2)) (.int 1)).before #[Value.ref b] s = true := hs _ (by decide +kernel)
  have h3 : (Cond.eq (.elem (Term.static "BesomYard$Told" "ITEMS_MOST" "[I") (.int 3)) (.int 1)).before #[Value.ref b] s = true := hs _ (by decide +kernel)
  have h4 : (Cond.eq (.elem (Term.static "BesomYard$Told" "ITEMS_MOST" "[I") (.int 4)) (.int 1)).before #[Value.ref b] s = true := hs _ (by decide +kernel)
  have h5 : (Cond.eq (.elem (Term.static "BesomYard$Told" "ITEMS_MOST" "[I") (.int 5)) (.int 1)).before #[Value.ref b] s = true := hs _ (by decide +kernel)
  obtain ⟨t, h1, h2⟩ := va_Tof (N := 6) (f := fun j => .int (([6, 6, 1, 1, 1, 1] : List Int32).getD j 0)) (A := A0 s) (by decide) harr (va_eqt hlen) (fun j hj => by
    rcases (show j = 0 ∨ j = 1 ∨ j = 2 ∨ j = 3 ∨ j = 4 ∨ j = 5 by omega) with rfl | rfl | rfl | rfl | rfl | rfl
    · exact va_eqt h0
    · exact va_eqt h1
    · exact va_eqt h2
    · exact va_eqt h3
    · exact va_eqt h4
    · exact va_eqt h5) hA
  exact ⟨t, va_Zof (hT _ wls_376) (hT _ (List.mem_filter.mp wn_X5).1) h1 hA, h2⟩
theorem zA_NUMBERS {b : Nat} {s : State} (hT : ∀ w ∈ lw_tbl, w.before #[Value.ref b] s = true) (hg : (Jvm.Cond.and given_1 narrow_1).before #[Value.ref b] s = true) : ∃ t : Nat, ZA "NUMBERS" t 6 [2, 3, 1, 1, 1, 1] (A0 s) s := by
  have hs := flat_of_before _ hg
  have hA : ∀ a : Nat, a < s.heap.size → ¬ A0 s a := fun a h => Nat.not_le.mpr h
  have harr : (Cond.arrayOf (Term.static "BesomYard$Told" "NUMBERS" "[I") .int).before #[Value.ref b] s = true := hs _ (by decide +kernel)
  have hlen : (Cond.eq (.length (Term.static "BesomYard$Told" "NUMBERS" "[I")) (.int 6)).before #[Value.ref b] s = true := hs _ (by decide +kernel)
  have h0 : (Cond.eq (.elem (Term.static "BesomYard$Told" "NUMBERS" "[I") (.int 0)) (.int 2)).before #[Value.ref b] s = true := hs _ (by decide +kernel)
  have h1 : (Cond.eq (.elem (Term.static "BesomYard$Told" "NUMBERS" "[I") (.int 1)) (.int 3)).before #[Value.ref b] s = true := hs _ (by decide +kernel)
  have h2 : (Cond.eq (.elem (Term.static "BesomYard$Told" "NUMBERS" "[I") (.int 2)) (.int 1)).before #[Value.ref b] s = true := hs _ (by decide +kernel)
  have h3 : (Cond.eq (.elem (Term.static "BesomYard$Told" "NUMBERS" "[I") (.int 3)) (.int 1)).before #[Value.ref b] s = true := hs _ (by decide +kernel)
  have h4 : (Cond.eq (.elem (Term.static "BesomYard$Told" "NUMBERS" "[I") (.int 4)) (.int 1)).before #[Value.ref b] s = true := hs _ (by decide +kernel)
  have h5 : (Cond.eq (.elem (Term.static "BesomYard$Told" "NUMBERS" "[I") (.int 5)) (.int 1)).before #[Value.ref b] s = true := hs _ (by decide +kernel)
  obtain ⟨t, h1, h2⟩ := va_Tof (N := 6) (f := fun j => .int (([2, 3, 1, 1, 1, 1] : List Int32).getD j 0)) (A := A0 s) (by decide) harr (va_eqt hlen) (fun j hj => by
    rcases (show j = 0 ∨ j = 1 ∨ j = 2 ∨ j = 3 ∨ j = 4 ∨ j = 5 by omega) with rfl | rfl | rfl | rfl | rfl | rfl
    · exact va_eqt h0
    · exact va_eqt h1
    · exact va_eqt h2
    · exact va_eqt h3
    · exact va_eqt h4
    · exact va_eqt h5) hA
  exact ⟨t, va_Zof (hT _ wls_378) (hT _ (List.mem_filter.mp wn_X5).1) h1 hA, h2⟩
theorem zA_FIRST_ROW {b : Nat} {s : State} (hT : ∀ w ∈ lw_tbl, w.before #[Value.ref b] s = true) (hg : (Jvm.Cond.and given_1 narrow_1).before #[Value.ref b] s = true) : ∃ t : Nat, ZA "FIRST_ROW" t 6 [0, 2, 5, 6, 7, 8] (A0 s) s := by
  have hs := flat_of_before _ hg
  have hA : ∀ a : Nat, a < s.heap.size → ¬ A0 s a := fun a h => Nat.not_le.mpr h
  have harr : (Cond.arrayOf (Term.static "BesomYard$Told" "FIRST_ROW" "[I") .int).before #[Value.ref b] s = true := hs _ (by decide +kernel)
  have hlen : (Cond.eq (.length (Term.static "BesomYard$Told" "FIRST_ROW" "[I")) (.int 6)).before #[Value.ref b] s = true := hs _ (by decide +kernel)
  have h0 : (Cond.eq (.elem (Term.static "BesomYard$Told" "FIRST_ROW" "[I") (.int 0)) (.int 0)).before #[Value.ref b] s = true := hs _ (by decide +kernel)
  have h1 : (Cond.eq (.elem (Term.static "BesomYard$Told" "FIRST_ROW" "[I") (.int 1)) (.int 2)).before #[Value.ref b] s = true := hs _ (by decide +kernel)
  have h2 : (Cond.eq (.elem (Term.static "BesomYard$Told" "FIRST_ROW" "[I") (.int 2)) (.int 5)).before #[Value.ref b] s = true := hs _ (by decide +kernel)
  have h3 : (Cond.eq (.elem (Term.static "BesomYard$Told" "FIRST_ROW" "[I") (.int 3)) (.int 6)).before #[Value.ref b] s = true := hs _ (by decide +kernel)
  have h4 : (Cond.eq (.elem (Term.static "BesomYard$Told" "FIRST_ROW" "[I") (.int 4)) (.int 7)).before #[Value.ref b] s = true := hs _ (by decide +kernel)
  have h5 : (Cond.eq (.elem (Term.static "BesomYard$Told" "FIRST_ROW" "[I") (.int 5)) (.int 8)).before #[Value.ref b] s = true := hs _ (by decide +kernel)
  obtain ⟨t, h1, h2⟩ := va_Tof (N := 6) (f := fun j => .int (([0, 2, 5, 6, 7, 8] : List Int32).getD j 0)) (A := A0 s) (by decide) harr (va_eqt hlen) (fun j hj => by
    rcases (show j = 0 ∨ j = 1 ∨ j = 2 ∨ j = 3 ∨ j = 4 ∨ j = 5 by omega) with rfl | rfl | rfl | rfl | rfl | rfl
    · exact va_eqt h0
    · exact va_eqt h1
    · exact va_eqt h2
    · exact va_eqt h3
    · exact va_eqt h4
    · exact va_eqt h5) hA
  exact ⟨t, va_Zof (hT _ wls_380) (hT _ (List.mem_filter.mp wn_X5).1) h1 hA, h2⟩
theorem zA_LEAST {b : Nat} {s : State} (hT : ∀ w ∈ lw_tbl, w.before #[Value.ref b] s = true) (hg : (Jvm.Cond.and given_1 narrow_1).before #[Value.ref b] s = true) : ∃ t : Nat, ZA "LEAST" t 9 [1, 0, 1, 1, 0, 3, 1, 1, 1] (A0 s) s := by
  have hs := flat_of_before _ hg
  have hA : ∀ a : Nat, a < s.heap.size → ¬ A0 s a := fun a h => Nat.not_le.mpr h
  have harr : (Cond.arrayOf (Term.static "BesomYard$Told" "LEAST" "[I") .int).before #[Value.ref b] s = true := hs _ (by decide +kernel)
  have hlen : (Cond.eq (.length (Term.static "BesomYard$Told" "LEAST" "[I")) (.int 9)).before #[Value.ref b] s = true := hs _ (by decide +kernel)
  have h0 : (Cond.eq (.elem (Term.static "BesomYard$Told" "LEAST" "[I") (.int 0)) (.int 1)).before #[Value.ref b] s = true := hs _ (by decide +kernel)
  have h1 : (Cond.eq (.elem (Term.static "BesomYard$Told" "LEAST" "[I") (.int 1)) (.int 0)).before #[Value.ref b] s = true := hs _ (by decide +kernel)
  have h2 : (Cond.eq (.elem (Term.static "BesomYard$Told" "LEAST" "[I") (.int 2)) (.int 1)).before #[Value.ref b] s = true := hs _ (by decide +kernel)
  have h3 : (Cond.eq (.elem (Term.static "BesomYard$Told" "LEAST" "[I") (.int 3)) (.int 1)).before #[Value.ref b] s = true := hs _ (by decide +kernel)
  have h4 : (Cond.eq (.elem (Term.static "BesomYard$Told" "LEAST" "[I") (.int 4)) (.int 0)).before #[Value.ref b] s = true := hs _ (by decide +kernel)
  have h5 : (Cond.eq (.elem (Term.static "BesomYard$Told" "LEAST" "[I") (.int 5)) (.int 3)).before #[Value.ref b] s = true := hs _ (by decide +kernel)
  have h6 : (Cond.eq (.elem (Term.static "BesomYard$Told" "LEAST" "[I") (.int 6)) (.int 1)).before #[Value.ref b] s = true := hs _ (by decide +kernel)
  have h7 : (Cond.eq (.elem (Term.static "BesomYard$Told" "LEAST" "[I") (.int 7)) (.int 1)).before #[Value.ref b] s = true := hs _ (by decide +kernel)
  have h8 : (Cond.eq (.elem (Term.static "BesomYard$Told" "LEAST" "[I") (.int 8)) (.int 1)).before #[Value.ref b] s = true := hs _ (by decide +kernel)
  obtain ⟨t, h1, h2⟩ := va_Tof (N := 9) (f := fun j => .int (([1, 0, 1, 1, 0, 3, 1, 1, 1] : List Int32).getD j 0)) (A := A0 s) (by decide) harr (va_eqt hlen) (fun j hj => by
    rcases (show j = 0 ∨ j = 1 ∨ j = 2 ∨ j = 3 ∨ j = 4 ∨ j = 5 ∨ j = 6 ∨ j = 7 ∨ j = 8 by omega) with rfl | rfl | rfl | rfl | rfl | rfl | rfl | rfl | rfl
    · exact va_eqt h0
    · exact va_eqt h1
    · exact va_eqt h2
    · exact va_eqt h3
    · exact va_eqt h4
    · exact va_eqt h5
    · exact va_eqt h6
    · exact va_eqt h7
    · exact va_eqt h8) hA
  exact ⟨t, va_Zof (hT _ wls_390) (hT _ (List.mem_filter.mp wn_X5).1) h1 hA, h2⟩
theorem zA_MOST {b : Nat} {s : State} (hT : ∀ w ∈ lw_tbl, w.before #[Value.ref b] s = true) (hg : (Jvm.Cond.and given_1 narrow_1).before #[Value.ref b] s = true) : ∃ t : Nat, ZA "MOST" t 9 [9, 30, 60, 60, 99, 15, 20, 20, 15] (A0 s) s := by
  have hs := flat_of_before _ hg
  have hA : ∀ a : Nat, a < s.heap.size → ¬ A0 s a := fun a h => Nat.not_le.mpr h
  have harr : (Cond.arrayOf (Term.static "BesomYard$Told" "MOST" "[I") .int).before #[Value.ref b] s = true := hs _ (by decide +kernel)
  have hlen : (Cond.eq (.length (Term.static "BesomYard$Told" "MOST" "[I")) (.int 9)).before #[Value.ref b] s = true := hs _ (by decide +kernel)
  have h0 : (Cond.eq (.elem (Term.static "BesomYard$Told" "MOST" "[I") (.int 0)) (.int 9)).before #[Value.ref b] s = true := hs _ (by decide +kernel)
  have h1 : (Cond.eq (.elem (Term.static "BesomYard$Told" "MOST" "[I") (.int 1)) (.int 30)).before #[Value.ref b] s = true := hs _ (by decide +kernel)
  have h2 : (Cond.eq (.elem (Term.static "BesomYard$Told" "MOST" "[I") (.int 2)) (.int 60)).before #[Value.ref b] s = true := hs _ (by decide +kernel)
  have h3 : (Cond.eq (.elem (Term.static "BesomYard$Told" "MOST" "[I") (.int 3)) (.int 60)).before #[Value.ref b] s = true := hs _ (by decide +kernel)
  have h4 : (Cond.eq (.elem (Term.static "BesomYard$Told" "MOST" "[I") (.int 4)) (.int 99)).before #[Value.ref b] s = true := hs _ (by decide +kernel)
  have h5 : (Cond.eq (.elem (Term.static "BesomYard$Told" "MOST" "[I") (.int 5)) (.int 15)).before #[Value.ref b] s = true := hs _ (by decide +kernel)
  have h6 : (Cond.eq (.elem (Term.static "BesomYard$Told" "MOST" "[I") (.int 6)) (.int 20)).before #[Value.ref b] s = true := hs _ (by decide +kernel)
  have h7 : (Cond.eq (.elem (Term.static "BesomYard$Told" "MOST" "[I") (.int 7)) (.int 20)).before #[Value.ref b] s = true := hs _ (by decide +kernel)
  have h8 : (Cond.eq (.elem (Term.static "BesomYard$Told" "MOST" "[I") (.int 8)) (.int 15)).before #[Value.ref b] s = true := hs _ (by decide +kernel)
  obtain ⟨t, h1, h2⟩ := va_Tof (N := 9) (f := fun j => .int (([9, 30, 60, 60, 99, 15, 20, 20, 15] : List Int32).getD j 0)) (A := A0 s) (by decide) harr (va_eqt hlen) (fun j hj => by
    rcases (show j = 0 ∨ j = 1 ∨ j = 2 ∨ j = 3 ∨ j = 4 ∨ j = 5 ∨ j = 6 ∨ j = 7 ∨ j = 8 by omega) with rfl | rfl | rfl | rfl | rfl | rfl | rfl | rfl | rfl
    · exact va_eqt h0
    · exact va_eqt h1
    · exact va_eqt h2
    · exact va_eqt h3
    · exact va_eqt h4
    · exact va_eqt h5
    · exact va_eqt h6
    · exact va_eqt h7
    · exact va_eqt h8) hA
  exact ⟨t, va_Zof (hT _ wls_392) (hT _ (List.mem_filter.mp wn_X5).1) h1 hA, h2⟩
theorem zS_ok {b : Nat} {s : State} (hT : ∀ w ∈ lw_tbl, w.before #[Value.ref b] s = true) (hg : (Jvm.Cond.and given_1 narrow_1).before #[Value.ref b] s = true) : ∃ a6 a7 : Nat, vk_R RX5 43 "wortpl" a6 s ∧ vk_S 1 [6] [[119, 111, 114, 116, 112, 108]] (fun _ => a6) (fun _ => a7) (A0 s) s s.heap ∧ va_Z "java/lang/String" "COMPACT_STRINGS" "Z" (.int 1) (A0 s) s s.heap := by
  have hs := flat_of_before _ hg
  have hA : ∀ a : Nat, a < s.heap.size → ¬ A0 s a := fun a h => Nat.not_le.mpr h
  have h0 : (Cond.exactly (Term.string "BesomYard$Told" 43) "java/lang/String").before #[Value.ref b] s = true := hs _ (by decide +kernel)
  have h1 : (Cond.eq (.field (Term.string "BesomYard$Told" 43) "java/lang/String" "coder" "B") (.int 0)).before #[Value.ref b] s = true := hs _ (by decide +kernel)
  have h2 : (Cond.arrayOf (.field (Term.string "BesomYard$Told" 43) "java/lang/String" "value" "[B") .byte).before #[Value.ref b] s = true := hs _ (by decide +kernel)
  have h3 : (Cond.eq (.length (.field (Term.string "BesomYard$Told" 43) "java/lang/String" "value" "[B")) (.int 6)).before #[Value.ref b] s = true := hs _ (by decide +kernel)
  have g0 : (Cond.eq (.elem (.field (Term.string "BesomYard$Told" 43) "java/lang/String" "value" "[B") (.int 0)) (.int 119)).before #[Value.ref b] s = true := hs _ (by decide +kernel)
  have g1 : (Cond.eq (.elem (.field (Term.string "BesomYard$Told" 43) "java/lang/String" "value" "[B") (.int 1)) (.int 111)).before #[Value.ref b] s = true := hs _ (by decide +kernel)
  have g2 : (Cond.eq (.elem (.field (Term.string "BesomYard$Told" 43) "java/lang/String" "value" "[B") (.int 2)) (.int 114)).before #[Value.ref b] s = true := hs _ (by decide +kernel)
  have g3 : (Cond.eq (.elem (.field (Term.string "BesomYard$Told" 43) "java/lang/String" "value" "[B") (.int 3)) (.int 116)).before #[Value.ref b] s = true := hs _ (by decide +kernel)
  have g4 : (Cond.eq (.elem (.field (Term.string "BesomYard$Told" 43) "java/lang/String" "value" "[B") (.int 4)) (.int 112)).before #[Value.ref b] s = true := hs _ (by decide +kernel)
  have g5 : (Cond.eq (.elem (.field (Term.string "BesomYard$Told" 43) "java/lang/String" "value" "[B") (.int 5)) (.int 108)).before #[Value.ref b] s = true := hs _ (by decide +kernel)
  have hc : (Cond.eq (.static "java/lang/String" "COMPACT_STRINGS" "Z") (.int 1)).before #[Value.ref b] s = true := hs _ (by decide +kernel)
  obtain ⟨adK, adV, hV, hK⟩ := vk_Sof (N := 1) (tm := fun _ => (Term.string "BesomYard$Told" 43)) (len := [6]) (byt := [[119, 111, 114, 116, 112, 108]]) (A := A0 s) (fun i hi => by rcases (show i = 0 by omega) with rfl; decide) (fun _ _ => h0) (fun _ _ => h1) (fun _ _ => h2) (fun i hi => by rcases (show i = 0 by omega) with rfl; exact h3) (fun i hi j hj => by
    rcases (show i = 0 by omega) with rfl
    have hj6 : j < 6 := hj
    rcases (show j = 0 ∨ j = 1 ∨ j = 2 ∨ j = 3 ∨ j = 4 ∨ j = 5 by omega) with rfl | rfl | rfl | rfl | rfl | rfl
    · exact g0
    · exact g1
    · exact g2
    · exact g3
    · exact g4
    · exact g5) (fun i j hi hj hij => absurd (show i = j by omega) hij) hA
  refine ⟨adK 0, adV 0, ?_, ?_, va_Zof (hT _ wls_306) (hT _ (List.mem_filter.mp wn_J0).1) (va_eqi hc) hA⟩
  · exact vk_R.of (hT _ wsr_292) (hK 0 (by decide))
  · refine ⟨fun i hi => ?_, fun i j hi hj _ => by omega⟩
    rcases (show i = 0 by omega) with rfl
    exact hV.1 0 (by decide)
theorem nw_ok {b : Nat} {s : State} (hT : ∀ w ∈ lw_tbl, w.before #[Value.ref b] s = true) : NW s := ⟨⟨va_Nw.of rfl (hT _ wfn_X6_140), va_Nw.of rfl (hT _ wfn_X6_115), va_Nw.of rfl (hT _ wfn_X6_128), va_Nw.of rfl (hT _ wfn_X6_131), va_Nw.of rfl (hT _ wfn_X6_121), va_Nw.of rfl (hT _ wfn_X6_134), va_Nw.of rfl (hT _ wfn_X6_137), va_Nw.of rfl (hT _ wfn_X6_125)⟩, va_Nw.of rfl (hT _ wmn_X6_9), va_Nw.of rfl (hT _ wmn_X6_28), va_Nw.of rfl (hT _ wmn_X1_17), va_Nw.of rfl (hT _ wmn_X3_21), va_Nw.of rfl (hT _ wmn_X6_61), va_Nw.of rfl (hT _ wmn_X6_68), va_Nw.of rfl (hT _ wmn_X2_63)⟩
theorem fx_ok {b : Nat} {s : State} (hT : ∀ w ∈ lw_tbl, w.before #[Value.ref b] s = true) (hg : (Jvm.Cond.and given_1 narrow_1).before #[Value.ref b] s = true) : ∃ z : Nat → Nat, ∀ (a : Nat → Nat) (ids : Nat → ClassId), FXc (a, ids, z) (A0 s) s := by
  obtain ⟨t0, h0⟩ := zA_AT_FIRST hT hg
  obtain ⟨t1, h1⟩ := zA_ITEMS_MOST hT hg
  obtain ⟨t2, h2⟩ := zA_NUMBERS hT hg
  obtain ⟨t3, h3⟩ := zA_FIRST_ROW hT hg
  obtain ⟨t4, h4⟩ := zA_LEAST hT hg
  obtain ⟨t5, h5⟩ := zA_MOST hT hg
  obtain ⟨t6, t7, h6, h7, h8⟩ := zS_ok hT hg
  exact ⟨fun k => ([t0, t1, t2, t3, t4, t5, t6, t7] : List Nat).getD k 0, fun a ids => ⟨nw_ok hT, h0, h1, h2, h3, h4, h5, h6, h7, h8⟩⟩
theorem ty_prim {b : Nat} {s : State} {ty : FieldType} (hna : ∀ C, ty ≠ .object C) (h : (Cond.arrayClass ty).before #[Value.ref b] s = true) : ∃ cA : ClassId, ArrOfT s cA ty ∧ va_RA s cA ty := by
  obtain ⟨cA, k, comp, h1, h2, h3⟩ := Cond.arrayClass_spec h
  refine ⟨cA, fun N z => ⟨(fun k h => by cases h), k, h2, comp, h3⟩, ?_⟩
  cases ty with
  | object C => exact absurd rfl (hna C)
  | _ => exact h1
theorem ty_obj {b : Nat} {s : State} {C : String} (h : (Cond.arrayOver (.object C)).before #[Value.ref b] s = true) : ∃ cA : ClassId, ArrOfT s cA (.object C) ∧ va_RA s cA (.object C) := by
  obtain ⟨comp, cA, k, h1, h2, h3, h4, h5⟩ := Cond.arrayOver_spec h
  exact ⟨cA, fun N z => ⟨(fun k h => by cases h), k, h3, comp, h4⟩, k, comp, h3, h4, h1, h5⟩
set_option maxHeartbeats 8000000 in
set_option maxRecDepth 100000 in
theorem whole_open {Rel : Nat → CS → CS → Prop} (hsim : Sims Rel) (hini : ∀ S0 : CS, iniC S0 → p_X6_startAnew S0 (fun S => p_X7_begins (zm, 0, 0, 0) (fun R1 => p_X7_settles R1 (fun R => Rel 0 S R)))) {p : Program} {e : Env} {s : State} {m : MethodId} {below : List Frame} {meth : Method} {c : Code} (l : Launch) {b L : Nat} {xs : Nat → Int32} (hL : L ≤ 320) (C0 : lw_At p s m meth c b L xs) : W p l e room_1 s m #[Value.ref b] below meth c s.heap [] 0 0 (lw_Z below #[Value.ref b] s) (entryFrame m ([Value.ref b] : List Value).toArray 4) := by
  obtain ⟨hx, hb, hr, hml, hown0, hts, hX, hbl, hlocks, hgv⟩ := id C0
  have hown : s.vm.findClass RL = some m.cls := hown0
  have hT : ∀ w ∈ lw_gd, w.before #[Value.ref b] s = true := fun w h9 => hts w (List.mem_filter.mp h9).1
  have hA : ∀ q : Nat, s.heap.size ≤ q → A0 s q := fun _ h => h
  obtain ⟨c0, iS0, hKn0⟩ := u_known (C := RX0) (T := TX0) (N := 2) (n := 2) hT inX0 (hT _ win_X0)
  obtain ⟨c1, iS1, hKn1⟩ := u_known (C := RX1) (T := TX1) (N := 8) (n := 8) hT inX1 (hT _ win_X1)
  obtain ⟨c2, iS2, hKn2⟩ := u_known (C := RX2) (T := TX2) (N := 4) (n := 4) hT inX2 (hT _ win_X2)
  obtain ⟨c3, iS3, hKn3⟩ := u_known (C := RX3) (T := TX3) (N := 1) (n := 1) hT inX3 (hT _ win_X3)
  obtain ⟨c4, iS4, hKn4⟩ := u_known (C := RX4) (T := TX4) (N := 6) (n := 6) hT inX4 (hT _ win_X4)
  obtain ⟨c5, iS5, hKn5⟩ := u_known (C := RX5) (T := TX5) (N := 2) (n := 2) hT inX5 (hT _ win_X5)
  obtain ⟨c6, iS6, hKn6⟩ := u_known (C := RX6) (T := TX6) (N := 16) (n := 16) hT inX6 (hT _ win_X6)
  obtain ⟨c7, iS7, hKn7⟩ := u_known (C := RX7) (T := TX7) (N := 28) (n := 28) hT inX7 (hT _ win_X7)
  obtain ⟨dC, dI, hKc⟩ : ∃ (dC : Nat → ClassId) (dI : Nat → Nat → Nat), ∀ (k : Nat) (q : vw_C), vwCl[k]? = some q → u_Kn s q.1 q.2.1 q.2.2 (dC k) (dI k) := by
    refine ⟨fun k => if k = 0 then c0 else if k = 1 then c1 else if k = 2 then c2 else if k = 3 then c3 else if k = 4 then c4 else if k = 5 then c5 else if k = 6 then c6 else c7, fun k => if k = 0 then iS0 else if k = 1 then iS1 else if k = 2 then iS2 else if k = 3 then iS3 else if k = 4 then iS4 else if k = 5 then iS5 else if k = 6 then iS6 else iS7, ?_⟩
    intro k q hq
    match k, hq with
    | 0, hq => cases hq; exact hKn0
    | 1, hq => cases hq; exact hKn1
    | 2, hq => cases hq; exact hKn2
    | 3, hq => cases hq; exact hKn3
    | 4, hq => cases hq; exact hKn4
    | 5, hq => cases hq; exact hKn5
    | 6, hq => cases hq; exact hKn6
    | 7, hq => cases hq; exact hKn7
    | k + 8, hq => simp [vwCl] at hq
  obtain ⟨cI, hI1, hI2⟩ := ty_prim (fun C h9 => by cases h9) (hT _ war_int)
  obtain ⟨cC, hC1, hC2⟩ := ty_prim (fun C h9 => by cases h9) (hT _ war_char)
  obtain ⟨cZ, hZ1, hZ2⟩ := ty_prim (fun C h9 => by cases h9) (hT _ war_boolean)
  obtain ⟨cM, hM1, hM2⟩ := ty_obj (C := "BesomYard$Moment") (hts _ wao_132)
  have hO : va_AO "BesomYard$Moment" s := va_AO.of (hts _ wao_132)
  obtain ⟨z, hFz⟩ := fx_ok hts hgv
  obtain ⟨ids, hids⟩ : ∃ ids : Nat → ClassId, ids = fun k => ([cI, cC, cZ, cM] : List ClassId).getD k 0 := ⟨_, rfl⟩
  obtain ⟨X0, hX0⟩ : ∃ X0 : XE, X0 = ((fun _ => 0), ids, z) := ⟨_, rfl⟩
  have hK : va_K (dC, dI) vwCl (tyX X0) s := by
    refine ⟨hKc, fun k q hq => ?_⟩
    rw [hX0, hids] at hq
    match k, hq with
    | 0, hq => cases hq; exact ⟨hI1, hI2⟩
    | 1, hq => cases hq; exact ⟨hC1, hC2⟩
    | 2, hq => cases hq; exact ⟨hZ1, hZ2⟩
    | 3, hq => cases hq; exact ⟨hM1, hM2⟩
    | k + 4, hq => simp [tyX] at hq
  have hF : FXc X0 (A0 s) s := by rw [hX0]; exact hFz _ _
  generalize hD0 : (dC, dI) = D at hK
  have hS : va_S (A0 s) s.heap s.heap [] := va_S.rf
  have hP : va_P D vwCl [] s.heap := fun k q h => by simp at h
  have hD : va_D (A0 s) [] := ⟨fun i j p q h => by simp at h, fun k q h => by simp at h⟩
  have hl := lv_entry ([.ref b]) (n := 4) (Nat.le_of_ble_eq_true rfl)
  rw [lg_entry_eq]
  generalize (lg_sl ([.ref b]) ++ List.replicate (4 - (lg_sl ([.ref b])).length) Slot.unset).toArray = ls at hl ⊢
  have hl : lv_has ls 4 [(0, .ref b)] := hl
  refine va_new (ci := 6) (fs := [.null, .null, .null, .null, .null, .int 0, .int 0, .null, .null, .null, .null, .null, .int 0, .null, .null, .long 0]) (C := RX6) (T := TX6) (N := 16) hx hb hT inX6 tyX6 tyX6_ok hown (hT _ wcl_L_7) (hT _ win_X6) (hT _ wn_X6) hK hP hD hS hA rfl (fun j hj => by rcases (show j = 0 ∨ j = 1 ∨ j = 2 ∨ j = 3 ∨ j = 4 ∨ j = 5 ∨ j = 6 ∨ j = 7 ∨ j = 8 ∨ j = 9 ∨ j = 10 ∨ j = 11 ∨ j = 12 ∨ j = 13 ∨ j = 14 ∨ j = 15 by omega) with rfl | rfl | rfl | rfl | rfl | rfl | rfl | rfl | rfl | rfl | rfl | rfl | rfl | rfl | rfl | rfl <;> rfl) (Nat.le_of_ble_eq_true rfl) (Nat.le_of_ble_eq_true rfl) dL_law_0 (fun q0 H hP hD hS => ?_)
  have hP : va_P D vwCl ([] ++ [(q0, (.inr (6, [.null, .null, .null, .null, .null, .int 0, .int 0, .null, .null, .null, .null, .null, .int 0, .null, .null, .long 0])))]) H := hP
  have hD : va_D (A0 s) ([] ++ [(q0, (.inr (6, [.null, .null, .null, .null, .null, .int 0, .int 0, .null, .null, .null, .null, .null, .int 0, .null, .null, .long 0])))]) := hD
  refine lv_dup hx hb dL_law_3 rfl ?_
  have hA1 := k_A hD hS hA
  refine va_callv (va_runI (As := []) (rest := [.ref q0]) (b := q0) ⟨hx, hb, hml, hown, hT⟩ (c_X6_init l D X0 H.size q0 _ hini) (cwI 0 hT (gd_I wc_X6_init) rfl rfl rfl (hT _ wn_X6) (hT _ wl_L_9) (hT _ wi_X6_init) rfl hd_X6_init ⟨Nat.le_of_ble_eq_true rfl, Nat.le_of_ble_eq_true rfl⟩) ⟨kPc_blind, fun U hU hW => ⟨rfl, by rw [hU], by rw [hU]; exact hP, va_K.moved hW.alike hK, hF.go hW (fun a h1 h2 => by rw [hU]; exact hS.2.1 a h1 h2) hA1, va_AO.moved hW.alike hO⟩⟩ rfl rfl hl.1 rfl (lv_room (Nat.le_of_ble_eq_true rfl)) dL_law_4 ⟨Nat.le_of_ble_eq_true rfl, Nat.le_of_ble_eq_true rfl⟩) hS (fun a _ h => hA1 a h) hA1 (fun u t H1 locs1 ht _ hp hB _ hk hS1 => ?_)
  obtain ⟨a1, S⟩ := u
  obtain ⟨hPc, hIX, hq0, hXs⟩ := hB
  rw [ht] at hPc
  have hXs1 : ∀ k, k < 75 → s.heap.size ≤ a1 k := fun k hk => hA1 _ (hXs k hk)
  refine lv_astore_n (lv' := [(1, .ref q0), (0, .ref b)]) hx hb dL_law_7 rfl hl (by decide) rfl (fun ls hl => ?_)
  have hP0 : va_P D vwCl [] H1 := fun k q h => by simp at h
  have hD0 : va_D (A0 s) [] := ⟨fun i j p q h => by simp at h, fun k q h => by simp at h⟩
  have hPc : va_P D vwCl (CW (a1, X0.2) S) H1 := hPc
  have hDc : va_D (A0 s) (CW (a1, X0.2) S) := (gw_D (sz := s.heap.size) hIX).weaken (fun k q hq h => by
    obtain ⟨hk, rfl⟩ := gw_lt hq
    exact hXs1 k hk)
  refine va_new (ci := 7) (fs := [.int 0, .long 0, .null, .int 0, .int 0, .int 0, .int 0, .int 0, .int 0, .null, .int 0, .null, .null, .null, .null, .null, .null, .null, .null, .null, .null, .int 0, .null, .null, .null, .int 0, .null, .null]) (C := RX7) (T := TX7) (N := 28) hx hb hT inX7 tyX7 tyX7_ok hown (hT _ wcl_L_10) (hT _ win_X7) (hT _ wn_X7) hK hPc hDc hS1 hA rfl (fun j hj => by rcases (show j = 0 ∨ j = 1 ∨ j = 2 ∨ j = 3 ∨ j = 4 ∨ j = 5 ∨ j = 6 ∨ j = 7 ∨ j = 8 ∨ j = 9 ∨ j = 10 ∨ j = 11 ∨ j = 12 ∨ j = 13 ∨ j = 14 ∨ j = 15 ∨ j = 16 ∨ j = 17 ∨ j = 18 ∨ j = 19 ∨ j = 20 ∨ j = 21 ∨ j = 22 ∨ j = 23 ∨ j = 24 ∨ j = 25 ∨ j = 26 ∨ j = 27 by omega) with rfl | rfl | rfl | rfl | rfl | rfl | rfl | rfl | rfl | rfl | rfl | rfl | rfl | rfl | rfl | rfl | rfl | rfl | rfl | rfl | rfl | rfl | rfl | rfl | rfl | rfl | rfl | rfl <;> rfl) (Nat.le_of_ble_eq_true rfl) (Nat.le_of_ble_eq_true rfl) dL_law_8 (fun q1 H2 hP2 hD2 hS2 => ?_)
  refine lv_dup hx hb dL_law_11 rfl ?_
  have hA2 := k_A hD2 hS2 hA
  have hP3 : va_P D vwCl [(q1, (.inr (7, [.int 0, .long 0, .null, .int 0, .int 0, .int 0, .int 0, .int 0, .int 0, .null, .int 0, .null, .null, .null, .null, .null, .null, .null, .null, .null, .null, .int 0, .null, .null, .null, .int 0, .null, .null])))] H2 := fun k x hx => hP2 ((CW (a1, X0.2) S).length + k) x (by rw [List.getElem?_append_right (by omega), Nat.add_sub_cancel_left]; exact hx)
  refine va_callv (va_runI (As := []) (rest := [.ref q1]) (b := q1) ⟨hx, hb, hml, hown, hT⟩ (c_X7_init l D X0 H2.size q1 _ hp) (cwI 0 hT (gd_I wc_X7_init) rfl rfl rfl (hT _ wn_X7) (hT _ wl_L_12) (hT _ wi_X7_init) rfl hd_X7_init ⟨Nat.le_of_ble_eq_true rfl, Nat.le_of_ble_eq_true rfl⟩) ⟨kPc_blind, fun U hU hW => ⟨rfl, by rw [hU], by rw [hU]; exact hP3, va_K.moved hW.alike hK, hF.go hW (fun a h1 h2 => by rw [hU]; exact hS2.2.1 a h1 h2) hA2, va_AO.moved hW.alike hO⟩⟩ rfl rfl hl.1 rfl (lv_room (Nat.le_of_ble_eq_true rfl)) dL_law_12 ⟨Nat.le_of_ble_eq_true rfl, Nat.le_of_ble_eq_true rfl⟩) hS2 (fun a _ h => hA2 a h) hA2 (fun u t H3 locs3 ht _ hp hB _ hk3 hS3 => ?_)
  obtain ⟨a2, R⟩ := u
  obtain ⟨hPr, hIY, hq1, hYs⟩ := hB
  rw [ht] at hPr
  have hdY : va_D (va_A [(q1, (.inr (7, [.int 0, .long 0, .null, .int 0, .int 0, .int 0, .int 0, .int 0, .int 0, .null, .int 0, .null, .null, .null, .null, .null, .null, .null, .null, .null, .null, .int 0, .null, .null, .null, .int 0, .null, .null])))] H2.size) (RW (a2, X0.2) R) := (gw_D (sz := H2.size) hIY).weaken (fun k q hq h => by
    obtain ⟨hk, rfl⟩ := gw_lt hq
    exact hYs k hk)
  obtain ⟨hj1, hj2⟩ := k_join hP2 hD2 hk3 hA2 hPr hdY
  have hPc3 : va_P D vwCl (CW (a1, X0.2) S) H3 := fun k x hx => hj1 k x (by rw [List.getElem?_append_left (List.getElem?_eq_some_iff.mp hx).1]; exact hx)
  have hdis : ∀ i, i < 75 → ∀ j, j < 18 → a1 i ≠ a2 j := by
    intro i hi j hj hij
    have h1 : (CW (a1, X0.2) S ++ RW (a2, X0.2) R)[i]? = some (a1 i, cce (a1, X0.2) S.2 i (S.1 i)) := by
      have h2 : (CW (a1, X0.2) S)[i]? = some (a1 i, cce (a1, X0.2) S.2 i (S.1 i)) := gw_at hi rfl
      rw [List.getElem?_append_left (List.getElem?_eq_some_iff.mp h2).1]
      exact h2
    have h3 : (CW (a1, X0.2) S ++ RW (a2, X0.2) R)[75 + j]? = some (a2 j, rce (a2, X0.2) R.2 j (R.1 j)) := by
      have hlen : (CW (a1, X0.2) S).length = 75 := by simp [CW, GW]
      rw [List.getElem?_append_right (by omega), hlen, Nat.add_sub_cancel_left]
      exact gw_at hj rfl
    have h4 := hj2.1 i (75 + j) _ _ h1 h3 hij
    omega
  refine lv_astore_n (lv' := [(2, .ref q1), (1, .ref q0), (0, .ref b)]) hx hb dL_law_15 rfl hl (by decide) rfl (fun ls hl => ?_)
  refine lv_iconst (v := 0) hx hb dL_law_16 (by decide) ?_
  refine lv_istore_n (lv' := [(3, .int 0), (2, .ref q1), (1, .ref q0), (0, .ref b)]) hx hb dL_law_17 rfl hl (by decide) rfl (fun ls hl => ?_)
  have hCx : lawCtx p s m meth c b L xs D (a1, X0.2) (a2, X0.2) := ⟨hx, hb, hml, hown, hT, hX, hbl, hK, hF, hIX, hIY, rfl, hXs1, fun k hk => hA2 _ (hYs k hk), hdis⟩
  exact law_loop hsim hCx hr hlocks hL ⟨Nat.le_of_ble_eq_true rfl, Nat.le_of_ble_eq_true rfl⟩ (L + 1) 0 S R H3 locs3 ls (by omega) (Nat.zero_le L) hp hPc3 hPr hS3 (lv_sub hl [3, 2, 1, 0] (by rw [show ((a1, X0.2) : XE).1 0 = q0 from hq0, show ((a2, X0.2) : XE).1 0 = q1 from hq1]; rfl))
