/-! The law's loop. -/
theorem lw_exit {L i : Nat} (hL : L ≤ 4097) (hi : i < 100000) : (Int32.ofNat L - 8 < nI i) ↔ L < i + 8 := by
  rw [Int32.lt_iff_toInt_lt, nI_toInt (show i < 2 ^ 31 by omega)]
  have h := pk_sub_toInt (a := L) (b := 8) (by omega) (by decide)
  have e : (Int32.ofNat L - 8).toInt = (nI L - nI 8).toInt := rfl
  rw [e, h]
  omega
theorem lw_I.up {dC : Nat → ClassId} {dI : Nat → Nat → Nat} {A : Nat → Prop} {cK cB cI cJ cZ : ClassId} {o q ou N : Nat} {H : Heap} (h : lw_I dC dI A cK cB cI cJ cZ o q ou N H) : lw_I dC dI A cK cB cI cJ cZ o q ou (N + 1) H := by
  obtain ⟨ks, fa, oa, fb, ob, dr, ds, L, n, sp, cr, rl, qs, kA, oA, kB, oB, tt, ss, st, K, aS, aC, aW, aL, aN, aI, aB, aD, aU, aF, gv, sz, cd, se, ct, aw, le, ne, ins, ba, dd, un, fr, ov, h1, h2, h3, h4, hR⟩ := h
  exact ⟨ks, fa, oa, fb, ob, dr, ds, L, n, sp, cr, rl, qs, kA, oA, kB, oB, tt, ss, st, K, aS, aC, aW, aL, aN, aI, aB, aD, aU, aF, gv, sz, cd, se, ct, aw, le, ne, ins, ba, dd, un, fr, ov, h1, h2, h3, h4, hR.up (Nat.le_succ N)⟩
set_option maxHeartbeats 4000000 in
set_option maxRecDepth 100000 in
theorem lw_loop {p : Program} {l : Launch} {e : Env} {s : State} {m : MethodId} {below : List Frame} {meth : Method} {c : Code} {dC : Nat → ClassId} {dI : Nat → Nat → Nat} {b Ln : Nat} {xs : Nat → Int32} {cK cB cI cJ cZ : ClassId} {tX tY o q ou : Nat} (hE0 : lw_E p l s m c dC dI b Ln xs cK cB cI cJ cZ tX tY) (hr : meth.sig.returnType = ret) (hlocks : meth.locks = false) :
    ∀ (r N : Nat), N + r = 513 → ∀ (H : Heap) (locs : List Loc) (ls : Array Slot), lw_I dC dI (lw_A s) cK cB cI cJ cZ o q ou N H → va_S (lw_A s) s.heap H locs → lv_has ls 7 [(4, .int (nI (8 * N + 1))), (0, .ref b), (1, .ref o), (2, .ref q), (3, .ref ou)] → W p l e room_1 s m #[Value.ref b] below meth c H locs (20 + N) (182 + 7 * N) (lw_Z below #[Value.ref b] s) (F0 m 33 ls []) := by
  obtain ⟨hx, hb, hml, hown, hts0, hX, hbl, hbA, hK, hN9, hZ, hfl, hL⟩ := id hE0
  intro r
  induction r with
  | zero =>
    intro N hN H locs ls hI hS hl
    refine lv_iload hx hb dL_law_33 (lv_at hl 0 rfl) ?_
    refine lv_aload_n hx hb dL_law_35 rfl (lv_at hl 1 rfl) ?_
    refine va_slen hx hb hX hbl hbA hS dL_law_36 ?_
    refine lv_bipush (v := 8) hx hb dL_law_37 (by decide) ?_
    refine lv_isub hx hb dL_law_39 ?_
    refine lv_icmp_gt (tgt := 821) hx hb dL_law_40 (by decide) (fun c_40 => ?_) (fun c_40 => (c_40 ((lw_exit hL (by omega)).mpr (by omega))).elim)
    refine lv_iconst (v := 1) hx hb dL_law_821 (by decide) ?_
    refine va_forget (fun z hz => hS.2.2 z hz) ?_
    refine W.widen (k := 670060) (n := 7085891) (by omega) (by omega) ?_
    exact lw_ret hx hb hr hlocks dL_law_822
  | succ r ih =>
    intro N hN H locs ls hI hS hl
    refine lv_iload hx hb dL_law_33 (lv_at hl 0 rfl) ?_
    refine lv_aload_n hx hb dL_law_35 rfl (lv_at hl 1 rfl) ?_
    refine va_slen hx hb hX hbl hbA hS dL_law_36 ?_
    refine lv_bipush (v := 8) hx hb dL_law_37 (by decide) ?_
    refine lv_isub hx hb dL_law_39 ?_
    refine lv_icmp_gt (tgt := 821) hx hb dL_law_40 (by decide) (fun c_40 => ?_) (fun c_40 => ?_)
    · refine lv_iconst (v := 1) hx hb dL_law_821 (by decide) ?_
      refine va_forget (fun z hz => hS.2.2 z hz) ?_
      refine W.widen (k := 670060) (n := 7085891) (by omega) (by omega) ?_
      exact lw_ret hx hb hr hlocks dL_law_822
    · have hi8 : 8 * N + 1 + 8 ≤ Ln := by
        have h9 : ¬ Ln < 8 * N + 1 + 8 := fun z => c_40 ((lw_exit hL (by omega)).mpr z)
        omega
      refine lv_aload_n hx hb dL_law_43 rfl (lv_at hl 1 rfl) ?_
      refine lv_iload hx hb dL_law_44 (lv_at hl 0 rfl) ?_
      refine va_sld hx hb hX hbl hbA hS (vp_in_nI (n := 8 * N + 1) (by omega) (by omega)) dL_law_46 ?_
      refine lv_bipush (v := 15) hx hb dL_law_47 (by decide) ?_
      refine lv_iand hx hb dL_law_49 ?_
      have hcont : ∀ (H1 : Heap) (locs1 : List Loc) (ls1 : Array Slot), lw_I dC dI (lw_A s) cK cB cI cJ cZ o q ou (N + 1) H1 → va_S (lw_A s) s.heap H1 locs1 → lv_has ls1 7 [(4, .int (nI (8 * N + 1))), (0, .ref b), (1, .ref o), (2, .ref q), (3, .ref ou)] → W p l e room_1 s m #[Value.ref b] below meth c H1 locs1 (20 + N + 1) (182 + 7 * N + 7) (lw_Z below #[Value.ref b] s) (F0 m 815 ls1 []) := by
        intro H1 locs1 ls1 hI hS hl
        have e8 : nI (8 * N + 1) + Int32.ofInt 8 = nI (8 * (N + 1) + 1) := by
          show nI (8 * N + 1) + nI 8 = _
          rw [nI_add]
          exact congrArg nI (by omega)
        refine lv_iinc (v := nI (8 * (N + 1) + 1)) (lv' := [(4, .int (nI (8 * (N + 1) + 1))), (0, .ref b), (1, .ref o), (2, .ref q), (3, .ref ou)]) hx hb dL_law_815 hl (k := 0) rfl e8 (by decide) rfl (fun ls hl => ?_)
        refine lv_goto (tgt := 33) hx hb dL_law_818 (by decide) ?_
        exact W.widen (k := 20 + (N + 1)) (n := 182 + 7 * (N + 1)) (by omega) (by omega) (ih (N + 1) (by omega) H1 locs1 ls hI hS hl)
      obtain ⟨j, hj16, hj⟩ := pk_andE (xs (nI (8 * N + 1)).toNatClampNeg) (m := 15) 4 (by decide)
      match j, hj16, hj with
      | 0, _, hj =>
        rw [hj]
        refine lv_tableIn (off := 66) (tgt := 116) hx hb dL_law_50 (by decide) (by decide) (by decide) (by decide) ?_
        exact lw_k_key (i := 8 * N + 1) hE0 (by omega) (by omega) hI hS (by omega) (by omega) hl hcont
      | 1, _, hj =>
        rw [hj]
        refine lv_tableIn (off := 167) (tgt := 217) hx hb dL_law_50 (by decide) (by decide) (by decide) (by decide) ?_
        exact lw_k_remote (i := 8 * N + 1) hE0 (by omega) (by omega) hI hS (by omega) (by omega) hl hcont
      | 2, _, hj =>
        rw [hj]
        refine lv_tableIn (off := 222) (tgt := 272) hx hb dL_law_50 (by decide) (by decide) (by decide) (by decide) ?_
        exact lw_k_counter (i := 8 * N + 1) hE0 (by omega) (by omega) hI hS (by omega) (by omega) hl hcont
      | 3, _, hj =>
        rw [hj]
        refine lv_tableIn (off := 248) (tgt := 298) hx hb dL_law_50 (by decide) (by decide) (by decide) (by decide) ?_
        exact lw_k_lock (i := 8 * N + 1) hE0 (by omega) (by omega) hI hS (by omega) (by omega) hl hcont
      | 4, _, hj =>
        rw [hj]
        refine lv_tableIn (off := 273) (tgt := 323) hx hb dL_law_50 (by decide) (by decide) (by decide) (by decide) ?_
        exact lw_k_learn (i := 8 * N + 1) hE0 (by omega) (by omega) hI hS (by omega) (by omega) hl hcont
      | 5, _, hj =>
        rw [hj]
        refine lv_tableIn (off := 322) (tgt := 372) hx hb dL_law_50 (by decide) (by decide) (by decide) (by decide) ?_
        exact lw_k_erase (i := 8 * N + 1) hE0 (by omega) (by omega) hI hS (by omega) (by omega) hl hcont
      | 6, _, hj =>
        rw [hj]
        refine lv_tableIn (off := 347) (tgt := 397) hx hb dL_law_50 (by decide) (by decide) (by decide) (by decide) ?_
        exact lw_k_field (i := 8 * N + 1) hE0 (by omega) (by omega) hI hS (by omega) (by omega) hl hcont
      | 7, _, hj =>
        rw [hj]
        refine lv_tableIn (off := 508) (tgt := 558) hx hb dL_law_50 (by decide) (by decide) (by decide) (by decide) ?_
        exact lw_k_start (i := 8 * N + 1) hE0 (by omega) (by omega) hI hS (by omega) (by omega) hl hcont
      | 8, _, hj =>
        rw [hj]
        refine lv_tableIn (off := 577) (tgt := 627) hx hb dL_law_50 (by decide) (by decide) (by decide) (by decide) ?_
        exact lw_k_crash (i := 8 * N + 1) hE0 (by omega) (by omega) hI hS (by omega) (by omega) hl hcont
      | 9, _, hj =>
        rw [hj]
        refine lv_tableIn (off := 590) (tgt := 640) hx hb dL_law_50 (by decide) (by decide) (by decide) (by decide) ?_
        exact lw_k_alarm (i := 8 * N + 1) hE0 (by omega) (by omega) hI hS (by omega) (by omega) hl hcont
      | 10, _, hj =>
        rw [hj]
        refine lv_tableIn (off := 659) (tgt := 709) hx hb dL_law_50 (by decide) (by decide) (by decide) (by decide) ?_
        exact lw_k_battery (i := 8 * N + 1) hE0 (by omega) (by omega) hI hS (by omega) (by omega) hl hcont
      | 11, _, hj =>
        rw [hj]
        refine lv_tableIn (off := 684) (tgt := 734) hx hb dL_law_50 (by decide) (by decide) (by decide) (by decide) ?_
        exact lw_k_octet (i := 8 * N + 1) hE0 (by omega) (by omega) hI hS (by omega) (by omega) hl hcont
      | 12, _, hj =>
        rw [hj]
        refine lv_tableIn (off := 740) (tgt := 790) hx hb dL_law_50 (by decide) (by decide) (by decide) (by decide) ?_
        exact lw_k_state (i := 8 * N + 1) hE0 (by omega) (by omega) hI hS (by omega) (by omega) hl hcont
      | 13, _, hj =>
        rw [hj]
        refine lv_tableOut (tgt := 815) hx hb dL_law_50 (by decide) (by decide) ?_
        refine W.widen (k := 20 + N + 1) (n := 182 + 7 * N + 7) (by omega) (by omega) ?_
        exact hcont _ _ _ (hI.up) hS hl
      | 14, _, hj =>
        rw [hj]
        refine lv_tableOut (tgt := 815) hx hb dL_law_50 (by decide) (by decide) ?_
        refine W.widen (k := 20 + N + 1) (n := 182 + 7 * N + 7) (by omega) (by omega) ?_
        exact hcont _ _ _ (hI.up) hS hl
      | 15, _, hj =>
        rw [hj]
        refine lv_tableOut (tgt := 815) hx hb dL_law_50 (by decide) (by decide) ?_
        refine W.widen (k := 20 + N + 1) (n := 182 + 7 * N + 7) (by omega) (by omega) ?_
        exact hcont _ _ _ (hI.up) hS hl
      | k + 16, h16, _ => exact absurd h16 (by omega)
