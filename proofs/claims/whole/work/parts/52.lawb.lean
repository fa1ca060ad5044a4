/-! The law's cases (laid by wip/law.py) -/
set_option maxHeartbeats 4000000 in
set_option maxRecDepth 100000 in
theorem lw_k_start {p : Program} {l : Launch} {e : Env} {s : State} {m : MethodId} {below : List Frame} {meth : Method} {c : Code} {dC : Nat → ClassId} {dI : Nat → Nat → Nat} {b Ln : Nat} {xs : Nat → Int32} {cK cB cI cJ cZ : ClassId} {tX tY o q ou N i : Nat} {H : Heap} {locs : List Loc} {cells slots : Nat} {Q : State → Prop} (hE : lw_E p l s m c dC dI b Ln xs cK cB cI cJ cZ tX tY) (hN6 : N ≤ 600) (hi8 : i + 8 ≤ Ln) (hI : lw_I dC dI (lw_A s) cK cB cI cJ cZ o q ou N H) (hS : va_S (lw_A s) s.heap H locs) (hc : cells + 1 ≤ 670060) (hsl : slots + 7 ≤ 7085891) {ls : Array Slot} (hl : lv_has ls 7 [(4, .int (nI i)), (0, .ref b), (1, .ref o), (2, .ref q), (3, .ref ou)])
    (hcont : ∀ (H1 : Heap) (locs1 : List Loc) (ls1 : Array Slot), lw_I dC dI (lw_A s) cK cB cI cJ cZ o q ou (N + 1) H1 → va_S (lw_A s) s.heap H1 locs1 → lv_has ls1 7 [(4, .int (nI i)), (0, .ref b), (1, .ref o), (2, .ref q), (3, .ref ou)] → W p l e room_1 s m #[Value.ref b] below meth c H1 locs1 (cells + 1) (slots + 7) Q (F0 m 815 ls1 [])) : W p l e room_1 s m #[Value.ref b] below meth c H locs cells slots Q (F0 m 558 ls []) := by
  obtain ⟨hx, hb, hml, hown, hts0, hX, hbl, hbA, hK, hN, hZ, hfl, hL⟩ := hE
  have hts := fun w h => hts0 w (wsL_law_in w h)
  obtain ⟨ks, fa, oa, fb, ob, dr, ds, L, n, sp, cr, rl, qs, kA, oA, kB, oB, tt, ss, st, K, aS, aC, aW, aL, aN, aI, aB, aD, aU, aF, gv, sz, cd, se, ct, aw, le, ne, ins, ba, dd, un, fr, ov, hPx, hPm, hPo, hD, hR⟩ := hI
  have hKx : va_K (dC, dI) vwCl (dkT cK cB cI) s := hK.sub [0, 1, 2] rfl
  have hKm : va_K (dC, dI) vwCl (mdT cI cJ cZ) s := hK.sub [2, 3, 4] rfl
  refine lv_aload_n hx hb dL_law_558 rfl (lv_at hl 2 rfl) ?_
  refine lv_aload_n hx hb dL_law_559 rfl (lv_at hl 1 rfl) ?_
  refine lv_iload hx hb dL_law_560 (lv_at hl 0 rfl) ?_
  refine lv_iconst (v := 1) hx hb dL_law_562 (by decide) ?_
  refine lv_iadd hx hb dL_law_563 ?_
  refine va_sld hx hb hX hbl hbA hS (lw_ix 1 (by decide) hi8 hL) dL_law_564 ?_
  refine lv_aload_n hx hb dL_law_565 rfl (lv_at hl 1 rfl) ?_
  refine lv_iload hx hb dL_law_566 (lv_at hl 0 rfl) ?_
  refine lv_iconst (v := 2) hx hb dL_law_568 (by decide) ?_
  refine lv_iadd hx hb dL_law_569 ?_
  refine va_sld hx hb hX hbl hbA hS (lw_ix 2 (by decide) hi8 hL) dL_law_570 ?_
  refine lv_i2l (v := (xs ((nI i) + 2).toNatClampNeg).toInt64) hx hb dL_law_571 rfl ?_
  refine lv_bipush (v := 32) hx hb dL_law_572 (by decide) ?_
  refine lv_lshl (v := (xs ((nI i) + 2).toNatClampNeg).toInt64 <<< ((32 : Int32).toInt64 &&& 63)) hx hb dL_law_574 rfl ?_
  refine lv_aload_n hx hb dL_law_575 rfl (lv_at hl 1 rfl) ?_
  refine lv_iload hx hb dL_law_576 (lv_at hl 0 rfl) ?_
  refine lv_iconst (v := 3) hx hb dL_law_578 (by decide) ?_
  refine lv_iadd hx hb dL_law_579 ?_
  refine va_sld hx hb hX hbl hbA hS (lw_ix 3 (by decide) hi8 hL) dL_law_580 ?_
  refine lv_i2l (v := (xs ((nI i) + 3).toNatClampNeg).toInt64) hx hb dL_law_581 rfl ?_
  refine lv_ldc2 (v := 4294967295) hx hb hown (hts (.constantLong RL 27 4294967295) (by decide +kernel)) dL_law_582 ?_
  refine lv_land hx hb dL_law_585 ?_
  refine lv_lor hx hb dL_law_586 ?_
  refine lw_call1 (W.runV (As := [.int (xs ((nI i) + 1).toNatClampNeg), .long (((xs ((nI i) + 2).toNatClampNeg).toInt64 <<< ((32 : Int32).toInt64 &&& 63)) ||| ((xs ((nI i) + 3).toNatClampNeg).toInt64 &&& 4294967295))]) (rest := []) ⟨hx, hb, hml, hown, hts⟩ (c_X3_start l dC dI cK cB cI o ks fa oa fb ob dr ds L n sp fa fb cr rl qs kA oA kB oB tt ss st K (xs ((nI i) + 1).toNatClampNeg) (((xs ((nI i) + 2).toNatClampNeg).toInt64 <<< ((32 : Int32).toInt64 &&& 63)) ||| ((xs ((nI i) + 3).toNatClampNeg).toInt64 &&& 4294967295)) hR.1) (cwV 2 hts gL_law_X3_start rfl rfl rfl (by decide +kernel) ⟨Nat.le_of_ble_eq_true rfl, Nat.le_of_ble_eq_true rfl⟩) (up_preV (q0 := 0) (ci := 4) hPx hKx (up_leftD hD) rfl rfl) rfl rfl hl.1 rfl (lv_room (Nat.le_of_ble_eq_true rfl)) dL_law_587 ⟨by show cells + 0 ≤ 670060; omega, by show slots + 0 ≤ 7085891; omega⟩) hPm hPo hD hS ((dk_fst ..).trans (dk_fst ..).symm) (fun H locs hPx hPm hPo hD hS => ?_)
  have hPx : va_P (dC, dI) vwCl (dkW cK cB cI o ks fa oa fb ob dr ds L n sp fa fb ((dk_start n K qs cr (xs ((nI i) + 1).toNatClampNeg) (((xs ((nI i) + 2).toNatClampNeg).toInt64 <<< ((32 : Int32).toInt64 &&& 63)) ||| ((xs ((nI i) + 3).toNatClampNeg).toInt64 &&& 4294967295))).2.2) rl ((dk_start n K qs cr (xs ((nI i) + 1).toNatClampNeg) (((xs ((nI i) + 2).toNatClampNeg).toInt64 <<< ((32 : Int32).toInt64 &&& 63)) ||| ((xs ((nI i) + 3).toNatClampNeg).toInt64 &&& 4294967295))).2.1) kA oA kB oB tt ss st K) H := hPx
  have hPm : va_P (dC, dI) vwCl (mdW cI cJ cZ q aS aC aW aL aN aI aB aD aU aF n gv sz cd sp se ct aw le ne ins ba dd cr tt ss un fr rl qs) H := hPm
  have hD : va_D (lw_A s) ((dkW cK cB cI o ks fa oa fb ob dr ds L n sp fa fb ((dk_start n K qs cr (xs ((nI i) + 1).toNatClampNeg) (((xs ((nI i) + 2).toNatClampNeg).toInt64 <<< ((32 : Int32).toInt64 &&& 63)) ||| ((xs ((nI i) + 3).toNatClampNeg).toInt64 &&& 4294967295))).2.2) rl ((dk_start n K qs cr (xs ((nI i) + 1).toNatClampNeg) (((xs ((nI i) + 2).toNatClampNeg).toInt64 <<< ((32 : Int32).toInt64 &&& 63)) ||| ((xs ((nI i) + 3).toNatClampNeg).toInt64 &&& 4294967295))).2.1) kA oA kB oB tt ss st K) ++ ((mdW cI cJ cZ q aS aC aW aL aN aI aB aD aU aF n gv sz cd sp se ct aw le ne ins ba dd cr tt ss un fr rl qs) ++ [(ou, .inl (cJ, 1, .inr (.inl ov)))])) := hD
  refine lv_aload_n hx hb dL_law_590 rfl (lv_at hl 3 rfl) ?_
  refine lv_aload_n hx hb dL_law_591 rfl (lv_at hl 1 rfl) ?_
  refine lv_iload hx hb dL_law_592 (lv_at hl 0 rfl) ?_
  refine lv_iconst (v := 1) hx hb dL_law_594 (by decide) ?_
  refine lv_iadd hx hb dL_law_595 ?_
  refine va_sld hx hb hX hbl hbA hS (lw_ix 1 (by decide) hi8 hL) dL_law_596 ?_
  refine lv_aload_n hx hb dL_law_597 rfl (lv_at hl 1 rfl) ?_
  refine lv_iload hx hb dL_law_598 (lv_at hl 0 rfl) ?_
  refine lv_iconst (v := 2) hx hb dL_law_600 (by decide) ?_
  refine lv_iadd hx hb dL_law_601 ?_
  refine va_sld hx hb hX hbl hbA hS (lw_ix 2 (by decide) hi8 hL) dL_law_602 ?_
  refine lv_i2l (v := (xs ((nI i) + 2).toNatClampNeg).toInt64) hx hb dL_law_603 rfl ?_
  refine lv_bipush (v := 32) hx hb dL_law_604 (by decide) ?_
  refine lv_lshl (v := (xs ((nI i) + 2).toNatClampNeg).toInt64 <<< ((32 : Int32).toInt64 &&& 63)) hx hb dL_law_606 rfl ?_
  refine lv_aload_n hx hb dL_law_607 rfl (lv_at hl 1 rfl) ?_
  refine lv_iload hx hb dL_law_608 (lv_at hl 0 rfl) ?_
  refine lv_iconst (v := 3) hx hb dL_law_610 (by decide) ?_
  refine lv_iadd hx hb dL_law_611 ?_
  refine va_sld hx hb hX hbl hbA hS (lw_ix 3 (by decide) hi8 hL) dL_law_612 ?_
  refine lv_i2l (v := (xs ((nI i) + 3).toNatClampNeg).toInt64) hx hb dL_law_613 rfl ?_
  refine lv_ldc2 (v := 4294967295) hx hb hown (hts (.constantLong RL 27 4294967295) (by decide +kernel)) dL_law_614 ?_
  refine lv_land hx hb dL_law_617 ?_
  refine lv_lor hx hb dL_law_618 ?_
  refine lw_call1 (W.runV (As := [.int (xs ((nI i) + 1).toNatClampNeg), .long (((xs ((nI i) + 2).toNatClampNeg).toInt64 <<< ((32 : Int32).toInt64 &&& 63)) ||| ((xs ((nI i) + 3).toNatClampNeg).toInt64 &&& 4294967295))]) (rest := [.int ((dk_start n K qs cr (xs ((nI i) + 1).toNatClampNeg) (((xs ((nI i) + 2).toNatClampNeg).toInt64 <<< ((32 : Int32).toInt64 &&& 63)) ||| ((xs ((nI i) + 3).toNatClampNeg).toInt64 &&& 4294967295))).1)]) ⟨hx, hb, hml, hown, hts⟩ (c_X4_start l dC dI cI cJ cZ q aS aC aW aL aN aI aB aD aU aF n gv sz cd sp se ct aw le ne ins ba dd cr tt ss un fr rl qs (xs ((nI i) + 1).toNatClampNeg) (((xs ((nI i) + 2).toNatClampNeg).toInt64 <<< ((32 : Int32).toInt64 &&& 63)) ||| ((xs ((nI i) + 3).toNatClampNeg).toInt64 &&& 4294967295)) hR.1) (cwV 2 hts gL_law_X4_start rfl rfl rfl (by decide +kernel) ⟨Nat.le_of_ble_eq_true rfl, Nat.le_of_ble_eq_true rfl⟩) (up_preV (q0 := 0) (ci := 5) hPm hKm (up_leftD (up_3 hD)) rfl rfl) rfl rfl hl.1 rfl (lv_room (Nat.le_of_ble_eq_true rfl)) dL_law_619 ⟨by show cells + 0 ≤ 670060; omega, by show slots + 0 ≤ 7085891; omega⟩) hPx hPo (up_3 hD) hS ((md_fst ..).trans (md_fst ..).symm) (fun H locs hPm hPx hPo hD hS => ?_)
  have hD := up_3 hD
  have hPx : va_P (dC, dI) vwCl (dkW cK cB cI o ks fa oa fb ob dr ds L n sp fa fb ((dk_start n K qs cr (xs ((nI i) + 1).toNatClampNeg) (((xs ((nI i) + 2).toNatClampNeg).toInt64 <<< ((32 : Int32).toInt64 &&& 63)) ||| ((xs ((nI i) + 3).toNatClampNeg).toInt64 &&& 4294967295))).2.2) rl ((dk_start n K qs cr (xs ((nI i) + 1).toNatClampNeg) (((xs ((nI i) + 2).toNatClampNeg).toInt64 <<< ((32 : Int32).toInt64 &&& 63)) ||| ((xs ((nI i) + 3).toNatClampNeg).toInt64 &&& 4294967295))).2.1) kA oA kB oB tt ss st K) H := hPx
  have hPm : va_P (dC, dI) vwCl (mdW cI cJ cZ q aS aC aW aL aN aI aB aD aU aF n gv sz 0 sp se ct aw le ne ins ba dd ((md_start n se le ins cr qs (xs ((nI i) + 1).toNatClampNeg) (((xs ((nI i) + 2).toNatClampNeg).toInt64 <<< ((32 : Int32).toInt64 &&& 63)) ||| ((xs ((nI i) + 3).toNatClampNeg).toInt64 &&& 4294967295))).2.2) tt ss un fr rl ((md_start n se le ins cr qs (xs ((nI i) + 1).toNatClampNeg) (((xs ((nI i) + 2).toNatClampNeg).toInt64 <<< ((32 : Int32).toInt64 &&& 63)) ||| ((xs ((nI i) + 3).toNatClampNeg).toInt64 &&& 4294967295))).2.1)) H := hPm
  have hD : va_D (lw_A s) ((dkW cK cB cI o ks fa oa fb ob dr ds L n sp fa fb ((dk_start n K qs cr (xs ((nI i) + 1).toNatClampNeg) (((xs ((nI i) + 2).toNatClampNeg).toInt64 <<< ((32 : Int32).toInt64 &&& 63)) ||| ((xs ((nI i) + 3).toNatClampNeg).toInt64 &&& 4294967295))).2.2) rl ((dk_start n K qs cr (xs ((nI i) + 1).toNatClampNeg) (((xs ((nI i) + 2).toNatClampNeg).toInt64 <<< ((32 : Int32).toInt64 &&& 63)) ||| ((xs ((nI i) + 3).toNatClampNeg).toInt64 &&& 4294967295))).2.1) kA oA kB oB tt ss st K) ++ ((mdW cI cJ cZ q aS aC aW aL aN aI aB aD aU aF n gv sz 0 sp se ct aw le ne ins ba dd ((md_start n se le ins cr qs (xs ((nI i) + 1).toNatClampNeg) (((xs ((nI i) + 2).toNatClampNeg).toInt64 <<< ((32 : Int32).toInt64 &&& 63)) ||| ((xs ((nI i) + 3).toNatClampNeg).toInt64 &&& 4294967295))).2.2) tt ss un fr rl ((md_start n se le ins cr qs (xs ((nI i) + 1).toNatClampNeg) (((xs ((nI i) + 2).toNatClampNeg).toInt64 <<< ((32 : Int32).toInt64 &&& 63)) ||| ((xs ((nI i) + 3).toNatClampNeg).toInt64 &&& 4294967295))).2.1)) ++ [(ou, .inl (cJ, 1, .inr (.inl ov)))])) := hD
  have pr := pr_start hR qs cr (xs ((nI i) + 1).toNatClampNeg) ((((xs ((nI i) + 2).toNatClampNeg)).toInt64 <<< ((32 : Int32).toInt64 &&& 63)) ||| (((xs ((nI i) + 3).toNatClampNeg)).toInt64 &&& 4294967295))
  refine lv_icmp_eq (tgt := 815) hx hb dL_law_622 (by decide) (fun c_622 => ?_) (fun c_622 => (c_622 pr.1).elim)
  rw [← pr.2.1] at hPm hD
  rw [← pr.2.2.1] at hPm hD
  have hR9 := pr.2.2.2
  refine W.widen (k := cells + 1) (n := slots + 7) (by omega) (by omega) ?_
  exact hcont _ _ ls ⟨_, _, _, _, _, _, _, _, _, _, _, _, _, _, _, _, _, _, _, _, _, _, _, _, _, _, _, _, _, _, _, _, _, _, _, _, _, _, _, _, _, _, _, _, _, hPx, hPm, hPo, hD, hR9⟩ hS (lv_sub hl [0, 1, 2, 3, 4] rfl)
set_option maxHeartbeats 4000000 in
set_option maxRecDepth 100000 in
theorem lw_k_crash {p : Program} {l : Launch} {e : Env} {s : State} {m : MethodId} {below : List Frame} {meth : Method} {c : Code} {dC : Nat → ClassId} {dI : Nat → Nat → Nat} {b Ln : Nat} {xs : Nat → Int32} {cK cB cI cJ cZ : ClassId} {tX tY o q ou N i : Nat} {H : Heap} {locs : List Loc} {cells slots : Nat} {Q : State → Prop} (hE : lw_E p l s m c dC dI b Ln xs cK cB cI cJ cZ tX tY) (hN6 : N ≤ 600) (hi8 : i + 8 ≤ Ln) (hI : lw_I dC dI (lw_A s) cK cB cI cJ cZ o q ou N H) (hS : va_S (lw_A s) s.heap H locs) (hc : cells + 1 ≤ 670060) (hsl : slots + 7 ≤ 7085891) {ls : Array Slot} (hl : lv_has ls 7 [(4, .int (nI i)), (0, .ref b), (1, .ref o), (2, .ref q), (3, .ref ou)])
    (hcont : ∀ (H1 : Heap) (locs1 : List Loc) (ls1 : Array Slot), lw_I dC dI (lw_A s) cK cB cI cJ cZ o q ou (N + 1) H1 → va_S (lw_A s) s.heap H1 locs1 → lv_has ls1 7 [(4, .int (nI i)), (0, .ref b), (1, .ref o), (2, .ref q), (3, .ref ou)] → W p l e room_1 s m #[Value.ref b] below meth c H1 locs1 (cells + 1) (slots + 7) Q (F0 m 815 ls1 [])) : W p l e room_1 s m #[Value.ref b] below meth c H locs cells slots Q (F0 m 627 ls []) := by
  obtain ⟨hx, hb, hml, hown, hts0, hX, hbl, hbA, hK, hN, hZ, hfl, hL⟩ := hE
  have hts := fun w h => hts0 w (wsL_law_in w h)
  obtain ⟨ks, fa, oa, fb, ob, dr, ds, L, n, sp, cr, rl, qs, kA, oA, kB, oB, tt, ss, st, K, aS, aC, aW, aL, aN, aI, aB, aD, aU, aF, gv, sz, cd, se, ct, aw, le, ne, ins, ba, dd, un, fr, ov, hPx, hPm, hPo, hD, hR⟩ := hI
  have hKx : va_K (dC, dI) vwCl (dkT cK cB cI) s := hK.sub [0, 1, 2] rfl
  have hKm : va_K (dC, dI) vwCl (mdT cI cJ cZ) s := hK.sub [2, 3, 4] rfl
  refine lv_aload_n hx hb dL_law_627 rfl (lv_at hl 2 rfl) ?_
  refine lw_call1 (W.runV (As := []) (rest := []) ⟨hx, hb, hml, hown, hts⟩ (c_X3_crash l dC dI cK cB cI o ks fa oa fb ob dr ds L n sp fa fb cr rl qs kA oA kB oB tt ss st K) (cwV 0 hts gL_law_X3_crash rfl rfl rfl (by decide +kernel) ⟨Nat.le_of_ble_eq_true rfl, Nat.le_of_ble_eq_true rfl⟩) (up_preV (q0 := 0) (ci := 4) hPx hKx (up_leftD hD) rfl rfl) rfl rfl hl.1 rfl (lv_room (Nat.le_of_ble_eq_true rfl)) dL_law_628 ⟨by show cells + 0 ≤ 670060; omega, by show slots + 0 ≤ 7085891; omega⟩) hPm hPo hD hS ((dk_fst ..).trans (dk_fst ..).symm) (fun H locs hPx hPm hPo hD hS => ?_)
  have hPx : va_P (dC, dI) vwCl (dkW cK cB cI o ks fa oa fb ob dr ds L n sp fa fb ((dk_crash st).2.1) rl qs kA oA kB oB tt ss ((dk_crash st).2.2) K) H := hPx
  have hPm : va_P (dC, dI) vwCl (mdW cI cJ cZ q aS aC aW aL aN aI aB aD aU aF n gv sz cd sp se ct aw le ne ins ba dd cr tt ss un fr rl qs) H := hPm
  have hD : va_D (lw_A s) ((dkW cK cB cI o ks fa oa fb ob dr ds L n sp fa fb ((dk_crash st).2.1) rl qs kA oA kB oB tt ss ((dk_crash st).2.2) K) ++ ((mdW cI cJ cZ q aS aC aW aL aN aI aB aD aU aF n gv sz cd sp se ct aw le ne ins ba dd cr tt ss un fr rl qs) ++ [(ou, .inl (cJ, 1, .inr (.inl ov)))])) := hD
  refine lv_aload_n hx hb dL_law_631 rfl (lv_at hl 3 rfl) ?_
  refine lw_call1 (W.runV (As := []) (rest := [.int ((dk_crash st).1)]) ⟨hx, hb, hml, hown, hts⟩ (c_X4_crash l dC dI cI cJ cZ q aS aC aW aL aN aI aB aD aU aF n gv sz cd sp se ct aw le ne ins ba dd cr tt ss un fr rl qs) (cwV 0 hts gL_law_X4_crash rfl rfl rfl (by decide +kernel) ⟨Nat.le_of_ble_eq_true rfl, Nat.le_of_ble_eq_true rfl⟩) (up_preV (q0 := 0) (ci := 5) hPm hKm (up_leftD (up_3 hD)) rfl rfl) rfl rfl hl.1 rfl (lv_room (Nat.le_of_ble_eq_true rfl)) dL_law_632 ⟨by show cells + 0 ≤ 670060; omega, by show slots + 0 ≤ 7085891; omega⟩) hPx hPo (up_3 hD) hS ((md_fst ..).trans (md_fst ..).symm) (fun H locs hPm hPx hPo hD hS => ?_)
  have hD := up_3 hD
  have hPx : va_P (dC, dI) vwCl (dkW cK cB cI o ks fa oa fb ob dr ds L n sp fa fb ((dk_crash st).2.1) rl qs kA oA kB oB tt ss ((dk_crash st).2.2) K) H := hPx
  have hPm : va_P (dC, dI) vwCl (mdW cI cJ cZ q aS aC aW aL aN aI aB aD aU aF n gv sz 0 sp se ct aw le ne ins ba ((md_crash dd tt ss).2.2.1) ((md_crash dd tt ss).2.1) tt ((md_crash dd tt ss).2.2.2) un fr rl qs) H := hPm
  have hD : va_D (lw_A s) ((dkW cK cB cI o ks fa oa fb ob dr ds L n sp fa fb ((dk_crash st).2.1) rl qs kA oA kB oB tt ss ((dk_crash st).2.2) K) ++ ((mdW cI cJ cZ q aS aC aW aL aN aI aB aD aU aF n gv sz 0 sp se ct aw le ne ins ba ((md_crash dd tt ss).2.2.1) ((md_crash dd tt ss).2.1) tt ((md_crash dd tt ss).2.2.2) un fr rl qs) ++ [(ou, .inl (cJ, 1, .inr (.inl ov)))])) := hD
  have pr := pr_crash hR tt ss
  refine lv_icmp_eq (tgt := 815) hx hb dL_law_635 (by decide) (fun c_635 => ?_) (fun c_635 => (c_635 pr.1).elim)
  rw [← pr.2.1] at hPm hD
  rw [← pr.2.2.1] at hPm hD
  have hR9 := pr.2.2.2
  refine W.widen (k := cells + 1) (n := slots + 7) (by omega) (by omega) ?_
  exact hcont _ _ ls ⟨_, _, _, _, _, _, _, _, _, _, _, _, _, _, _, _, _, _, _, _, _, _, _, _, _, _, _, _, _, _, _, _, _, _, _, _, _, _, _, _, _, _, _, _, _, hPx, hPm, hPo, hD, hR9⟩ hS (lv_sub hl [0, 1, 2, 3, 4] rfl)
set_option maxHeartbeats 4000000 in
set_option maxRecDepth 100000 in
theorem lw_k_alarm {p : Program} {l : Launch} {e : Env} {s : State} {m : MethodId} {below : List Frame} {meth : Method} {c : Code} {dC : Nat → ClassId} {dI : Nat → Nat → Nat} {b Ln : Nat} {xs : Nat → Int32} {cK cB cI cJ cZ : ClassId} {tX tY o q ou N i : Nat} {H : Heap} {locs : List Loc} {cells slots : Nat} {Q : State → Prop} (hE : lw_E p l s m c dC dI b Ln xs cK cB cI cJ cZ tX tY) (hN6 : N ≤ 600) (hi8 : i + 8 ≤ Ln) (hI : lw_I dC dI (lw_A s) cK cB cI cJ cZ o q ou N H) (hS : va_S (lw_A s) s.heap H locs) (hc : cells + 1 ≤ 670060) (hsl : slots + 7 ≤ 7085891) {ls : Array Slot} (hl : lv_has ls 7 [(4, .int (nI i)), (0, .ref b), (1, .ref o), (2, .ref q), (3, .ref ou)])
    (hcont : ∀ (H1 : Heap) (locs1 : List Loc) (ls1 : Array Slot), lw_I dC dI (lw_A s) cK cB cI cJ cZ o q ou (N + 1) H1 → va_S (lw_A s) s.heap H1 locs1 → lv_has ls1 7 [(4, .int (nI i)), (0, .ref b), (1, .ref o), (2, .ref q), (3, .ref ou)] → W p l e room_1 s m #[Value.ref b] below meth c H1 locs1 (cells + 1) (slots + 7) Q (F0 m 815 ls1 [])) : W p l e room_1 s m #[Value.ref b] below meth c H locs cells slots Q (F0 m 640 ls []) := by
  obtain ⟨hx, hb, hml, hown, hts0, hX, hbl, hbA, hK, hN, hZ, hfl, hL⟩ := hE
  have hts := fun w h => hts0 w (wsL_law_in w h)
  obtain ⟨ks, fa, oa, fb, ob, dr, ds, L, n, sp, cr, rl, qs, kA, oA, kB, oB, tt, ss, st, K, aS, aC, aW, aL, aN, aI, aB, aD, aU, aF, gv, sz, cd, se, ct, aw, le, ne, ins, ba, dd, un, fr, ov, hPx, hPm, hPo, hD, hR⟩ := hI
  have hKx : va_K (dC, dI) vwCl (dkT cK cB cI) s := hK.sub [0, 1, 2] rfl
  have hKm : va_K (dC, dI) vwCl (mdT cI cJ cZ) s := hK.sub [2, 3, 4] rfl
  refine lv_aload_n hx hb dL_law_640 rfl (lv_at hl 2 rfl) ?_
  refine lv_aload_n hx hb dL_law_641 rfl (lv_at hl 1 rfl) ?_
  refine lv_iload hx hb dL_law_642 (lv_at hl 0 rfl) ?_
  refine lv_iconst (v := 1) hx hb dL_law_644 (by decide) ?_
  refine lv_iadd hx hb dL_law_645 ?_
  refine va_sld hx hb hX hbl hbA hS (lw_ix 1 (by decide) hi8 hL) dL_law_646 ?_
  refine lv_aload_n hx hb dL_law_647 rfl (lv_at hl 1 rfl) ?_
  refine lv_iload hx hb dL_law_648 (lv_at hl 0 rfl) ?_
  refine lv_iconst (v := 2) hx hb dL_law_650 (by decide) ?_
  refine lv_iadd hx hb dL_law_651 ?_
  refine va_sld hx hb hX hbl hbA hS (lw_ix 2 (by decide) hi8 hL) dL_law_652 ?_
  refine lv_i2l (v := (xs ((nI i) + 2).toNatClampNeg).toInt64) hx hb dL_law_653 rfl ?_
  refine lv_bipush (v := 32) hx hb dL_law_654 (by decide) ?_
  refine lv_lshl (v := (xs ((nI i) + 2).toNatClampNeg).toInt64 <<< ((32 : Int32).toInt64 &&& 63)) hx hb dL_law_656 rfl ?_
  refine lv_aload_n hx hb dL_law_657 rfl (lv_at hl 1 rfl) ?_
  refine lv_iload hx hb dL_law_658 (lv_at hl 0 rfl) ?_
  refine lv_iconst (v := 3) hx hb dL_law_660 (by decide) ?_
  refine lv_iadd hx hb dL_law_661 ?_
  refine va_sld hx hb hX hbl hbA hS (lw_ix 3 (by decide) hi8 hL) dL_law_662 ?_
  refine lv_i2l (v := (xs ((nI i) + 3).toNatClampNeg).toInt64) hx hb dL_law_663 rfl ?_
  refine lv_ldc2 (v := 4294967295) hx hb hown (hts (.constantLong RL 27 4294967295) (by decide +kernel)) dL_law_664 ?_
  refine lv_land hx hb dL_law_667 ?_
  refine lv_lor hx hb dL_law_668 ?_
  refine lw_call1 (W.runV (As := [.int (xs ((nI i) + 1).toNatClampNeg), .long (((xs ((nI i) + 2).toNatClampNeg).toInt64 <<< ((32 : Int32).toInt64 &&& 63)) ||| ((xs ((nI i) + 3).toNatClampNeg).toInt64 &&& 4294967295))]) (rest := []) ⟨hx, hb, hml, hown, hts⟩ (c_X3_alarm l dC dI cK cB cI o ks fa oa fb ob dr ds L n sp fa fb cr rl qs kA oA kB oB tt ss st K (xs ((nI i) + 1).toNatClampNeg) (((xs ((nI i) + 2).toNatClampNeg).toInt64 <<< ((32 : Int32).toInt64 &&& 63)) ||| ((xs ((nI i) + 3).toNatClampNeg).toInt64 &&& 4294967295))) (cwV 2 hts gL_law_X3_alarm rfl rfl rfl (by decide +kernel) ⟨Nat.le_of_ble_eq_true rfl, Nat.le_of_ble_eq_true rfl⟩) (up_preV (q0 := 0) (ci := 4) hPx hKx (up_leftD hD) rfl rfl) rfl rfl hl.1 rfl (lv_room (Nat.le_of_ble_eq_true rfl)) dL_law_669 ⟨by show cells + 0 ≤ 670060; omega, by show slots + 0 ≤ 7085891; omega⟩) hPm hPo hD hS ((dk_fst ..).trans (dk_fst ..).symm) (fun H locs hPx hPm hPo hD hS => ?_)
  have hPx : va_P (dC, dI) vwCl (dkW cK cB cI o ks fa oa fb ob dr ds L n sp fa fb cr rl qs kA oA kB oB ((dk_alarm st tt ss (xs ((nI i) + 1).toNatClampNeg) (((xs ((nI i) + 2).toNatClampNeg).toInt64 <<< ((32 : Int32).toInt64 &&& 63)) ||| ((xs ((nI i) + 3).toNatClampNeg).toInt64 &&& 4294967295))).2) ss st K) H := hPx
  have hPm : va_P (dC, dI) vwCl (mdW cI cJ cZ q aS aC aW aL aN aI aB aD aU aF n gv sz cd sp se ct aw le ne ins ba dd cr tt ss un fr rl qs) H := hPm
  have hD : va_D (lw_A s) ((dkW cK cB cI o ks fa oa fb ob dr ds L n sp fa fb cr rl qs kA oA kB oB ((dk_alarm st tt ss (xs ((nI i) + 1).toNatClampNeg) (((xs ((nI i) + 2).toNatClampNeg).toInt64 <<< ((32 : Int32).toInt64 &&& 63)) ||| ((xs ((nI i) + 3).toNatClampNeg).toInt64 &&& 4294967295))).2) ss st K) ++ ((mdW cI cJ cZ q aS aC aW aL aN aI aB aD aU aF n gv sz cd sp se ct aw le ne ins ba dd cr tt ss un fr rl qs) ++ [(ou, .inl (cJ, 1, .inr (.inl ov)))])) := hD
  refine lv_aload_n hx hb dL_law_672 rfl (lv_at hl 3 rfl) ?_
  refine lv_aload_n hx hb dL_law_673 rfl (lv_at hl 1 rfl) ?_
  refine lv_iload hx hb dL_law_674 (lv_at hl 0 rfl) ?_
  refine lv_iconst (v := 1) hx hb dL_law_676 (by decide) ?_
  refine lv_iadd hx hb dL_law_677 ?_
  refine va_sld hx hb hX hbl hbA hS (lw_ix 1 (by decide) hi8 hL) dL_law_678 ?_
  refine lv_aload_n hx hb dL_law_679 rfl (lv_at hl 1 rfl) ?_
  refine lv_iload hx hb dL_law_680 (lv_at hl 0 rfl) ?_
  refine lv_iconst (v := 2) hx hb dL_law_682 (by decide) ?_
  refine lv_iadd hx hb dL_law_683 ?_
  refine va_sld hx hb hX hbl hbA hS (lw_ix 2 (by decide) hi8 hL) dL_law_684 ?_
  refine lv_i2l (v := (xs ((nI i) + 2).toNatClampNeg).toInt64) hx hb dL_law_685 rfl ?_
  refine lv_bipush (v := 32) hx hb dL_law_686 (by decide) ?_
  refine lv_lshl (v := (xs ((nI i) + 2).toNatClampNeg).toInt64 <<< ((32 : Int32).toInt64 &&& 63)) hx hb dL_law_688 rfl ?_
  refine lv_aload_n hx hb dL_law_689 rfl (lv_at hl 1 rfl) ?_
  refine lv_iload hx hb dL_law_690 (lv_at hl 0 rfl) ?_
  refine lv_iconst (v := 3) hx hb dL_law_692 (by decide) ?_
  refine lv_iadd hx hb dL_law_693 ?_
  refine va_sld hx hb hX hbl hbA hS (lw_ix 3 (by decide) hi8 hL) dL_law_694 ?_
  refine lv_i2l (v := (xs ((nI i) + 3).toNatClampNeg).toInt64) hx hb dL_law_695 rfl ?_
  refine lv_ldc2 (v := 4294967295) hx hb hown (hts (.constantLong RL 27 4294967295) (by decide +kernel)) dL_law_696 ?_
  refine lv_land hx hb dL_law_699 ?_
  refine lv_lor hx hb dL_law_700 ?_
  refine lw_call1 (W.runV (As := [.int (xs ((nI i) + 1).toNatClampNeg), .long (((xs ((nI i) + 2).toNatClampNeg).toInt64 <<< ((32 : Int32).toInt64 &&& 63)) ||| ((xs ((nI i) + 3).toNatClampNeg).toInt64 &&& 4294967295))]) (rest := [.int ((dk_alarm st tt ss (xs ((nI i) + 1).toNatClampNeg) (((xs ((nI i) + 2).toNatClampNeg).toInt64 <<< ((32 : Int32).toInt64 &&& 63)) ||| ((xs ((nI i) + 3).toNatClampNeg).toInt64 &&& 4294967295))).1)]) ⟨hx, hb, hml, hown, hts⟩ (c_X4_alarm l dC dI cI cJ cZ q aS aC aW aL aN aI aB aD aU aF n gv sz cd sp se ct aw le ne ins ba dd cr tt ss un fr rl qs (xs ((nI i) + 1).toNatClampNeg) (((xs ((nI i) + 2).toNatClampNeg).toInt64 <<< ((32 : Int32).toInt64 &&& 63)) ||| ((xs ((nI i) + 3).toNatClampNeg).toInt64 &&& 4294967295))) (cwV 2 hts gL_law_X4_alarm rfl rfl rfl (by decide +kernel) ⟨Nat.le_of_ble_eq_true rfl, Nat.le_of_ble_eq_true rfl⟩) (up_preV (q0 := 0) (ci := 5) hPm hKm (up_leftD (up_3 hD)) rfl rfl) rfl rfl hl.1 rfl (lv_room (Nat.le_of_ble_eq_true rfl)) dL_law_701 ⟨by show cells + 0 ≤ 670060; omega, by show slots + 0 ≤ 7085891; omega⟩) hPx hPo (up_3 hD) hS ((md_fst ..).trans (md_fst ..).symm) (fun H locs hPm hPx hPo hD hS => ?_)
  have hD := up_3 hD
  have hPx : va_P (dC, dI) vwCl (dkW cK cB cI o ks fa oa fb ob dr ds L n sp fa fb cr rl qs kA oA kB oB ((dk_alarm st tt ss (xs ((nI i) + 1).toNatClampNeg) (((xs ((nI i) + 2).toNatClampNeg).toInt64 <<< ((32 : Int32).toInt64 &&& 63)) ||| ((xs ((nI i) + 3).toNatClampNeg).toInt64 &&& 4294967295))).2) ss st K) H := hPx
  have hPm : va_P (dC, dI) vwCl (mdW cI cJ cZ q aS aC aW aL aN aI aB aD aU aF n gv sz 0 sp se ct aw le ne ins ba dd cr ((md_alarm dd tt ss (xs ((nI i) + 1).toNatClampNeg) (((xs ((nI i) + 2).toNatClampNeg).toInt64 <<< ((32 : Int32).toInt64 &&& 63)) ||| ((xs ((nI i) + 3).toNatClampNeg).toInt64 &&& 4294967295))).2) ss un fr rl qs) H := hPm
  have hD : va_D (lw_A s) ((dkW cK cB cI o ks fa oa fb ob dr ds L n sp fa fb cr rl qs kA oA kB oB ((dk_alarm st tt ss (xs ((nI i) + 1).toNatClampNeg) (((xs ((nI i) + 2).toNatClampNeg).toInt64 <<< ((32 : Int32).toInt64 &&& 63)) ||| ((xs ((nI i) + 3).toNatClampNeg).toInt64 &&& 4294967295))).2) ss st K) ++ ((mdW cI cJ cZ q aS aC aW aL aN aI aB aD aU aF n gv sz 0 sp se ct aw le ne ins ba dd cr ((md_alarm dd tt ss (xs ((nI i) + 1).toNatClampNeg) (((xs ((nI i) + 2).toNatClampNeg).toInt64 <<< ((32 : Int32).toInt64 &&& 63)) ||| ((xs ((nI i) + 3).toNatClampNeg).toInt64 &&& 4294967295))).2) ss un fr rl qs) ++ [(ou, .inl (cJ, 1, .inr (.inl ov)))])) := hD
  have pr := pr_alarm hR tt ss (xs ((nI i) + 1).toNatClampNeg) ((((xs ((nI i) + 2).toNatClampNeg)).toInt64 <<< ((32 : Int32).toInt64 &&& 63)) ||| (((xs ((nI i) + 3).toNatClampNeg)).toInt64 &&& 4294967295))
  refine lv_icmp_eq (tgt := 815) hx hb dL_law_704 (by decide) (fun c_704 => ?_) (fun c_704 => (c_704 pr.1).elim)
  rw [← pr.2.1] at hPm hD
  have hR9 := pr.2.2
  refine W.widen (k := cells + 1) (n := slots + 7) (by omega) (by omega) ?_
  exact hcont _ _ ls ⟨_, _, _, _, _, _, _, _, _, _, _, _, _, _, _, _, _, _, _, _, _, _, _, _, _, _, _, _, _, _, _, _, _, _, _, _, _, _, _, _, _, _, _, _, _, hPx, hPm, hPo, hD, hR9⟩ hS (lv_sub hl [0, 1, 2, 3, 4] rfl)
set_option maxHeartbeats 4000000 in
set_option maxRecDepth 100000 in
theorem lw_k_battery {p : Program} {l : Launch} {e : Env} {s : State} {m : MethodId} {below : List Frame} {meth : Method} {c : Code} {dC : Nat → ClassId} {dI : Nat → Nat → Nat} {b Ln : Nat} {xs : Nat → Int32} {cK cB cI cJ cZ : ClassId} {tX tY o q ou N i : Nat} {H : Heap} {locs : List Loc} {cells slots : Nat} {Q : State → Prop} (hE : lw_E p l s m c dC dI b Ln xs cK cB cI cJ cZ tX tY) (hN6 : N ≤ 600) (hi8 : i + 8 ≤ Ln) (hI : lw_I dC dI (lw_A s) cK cB cI cJ cZ o q ou N H) (hS : va_S (lw_A s) s.heap H locs) (hc : cells + 1 ≤ 670060) (hsl : slots + 7 ≤ 7085891) {ls : Array Slot} (hl : lv_has ls 7 [(4, .int (nI i)), (0, .ref b), (1, .ref o), (2, .ref q), (3, .ref ou)])
    (hcont : ∀ (H1 : Heap) (locs1 : List Loc) (ls1 : Array Slot), lw_I dC dI (lw_A s) cK cB cI cJ cZ o q ou (N + 1) H1 → va_S (lw_A s) s.heap H1 locs1 → lv_has ls1 7 [(4, .int (nI i)), (0, .ref b), (1, .ref o), (2, .ref q), (3, .ref ou)] → W p l e room_1 s m #[Value.ref b] below meth c H1 locs1 (cells + 1) (slots + 7) Q (F0 m 815 ls1 [])) : W p l e room_1 s m #[Value.ref b] below meth c H locs cells slots Q (F0 m 709 ls []) := by
  obtain ⟨hx, hb, hml, hown, hts0, hX, hbl, hbA, hK, hN, hZ, hfl, hL⟩ := hE
  have hts := fun w h => hts0 w (wsL_law_in w h)
  obtain ⟨ks, fa, oa, fb, ob, dr, ds, L, n, sp, cr, rl, qs, kA, oA, kB, oB, tt, ss, st, K, aS, aC, aW, aL, aN, aI, aB, aD, aU, aF, gv, sz, cd, se, ct, aw, le, ne, ins, ba, dd, un, fr, ov, hPx, hPm, hPo, hD, hR⟩ := hI
  have hKx : va_K (dC, dI) vwCl (dkT cK cB cI) s := hK.sub [0, 1, 2] rfl
  have hKm : va_K (dC, dI) vwCl (mdT cI cJ cZ) s := hK.sub [2, 3, 4] rfl
  refine lv_aload_n hx hb dL_law_709 rfl (lv_at hl 2 rfl) ?_
  refine lv_aload_n hx hb dL_law_710 rfl (lv_at hl 1 rfl) ?_
  refine lv_iload hx hb dL_law_711 (lv_at hl 0 rfl) ?_
  refine lv_iconst (v := 1) hx hb dL_law_713 (by decide) ?_
  refine lv_iadd hx hb dL_law_714 ?_
  refine va_sld hx hb hX hbl hbA hS (lw_ix 1 (by decide) hi8 hL) dL_law_715 ?_
  refine up_read (W.runV (As := [.int (xs ((nI i) + 1).toNatClampNeg)]) (rest := []) ⟨hx, hb, hml, hown, hts⟩ (c_X3_battery l dC dI cK cB cI o ks fa oa fb ob dr ds L n sp fa fb cr rl qs kA oA kB oB tt ss st K (xs ((nI i) + 1).toNatClampNeg) hR.1) (cwV 1 hts gL_law_X3_battery rfl rfl rfl (by decide +kernel) ⟨Nat.le_of_ble_eq_true rfl, Nat.le_of_ble_eq_true rfl⟩) (up_preV (q0 := 0) (ci := 4) hPx hKx (up_leftD hD) rfl rfl) rfl rfl hl.1 rfl (lv_room (Nat.le_of_ble_eq_true rfl)) dL_law_716 ⟨by show cells + 0 ≤ 670060; omega, by show slots + 0 ≤ 7085891; omega⟩) ?_
  refine lv_aload_n hx hb dL_law_719 rfl (lv_at hl 3 rfl) ?_
  refine lv_aload_n hx hb dL_law_720 rfl (lv_at hl 1 rfl) ?_
  refine lv_iload hx hb dL_law_721 (lv_at hl 0 rfl) ?_
  refine lv_iconst (v := 1) hx hb dL_law_723 (by decide) ?_
  refine lv_iadd hx hb dL_law_724 ?_
  refine va_sld hx hb hX hbl hbA hS (lw_ix 1 (by decide) hi8 hL) dL_law_725 ?_
  refine lw_call1 (W.runV (As := [.int (xs ((nI i) + 1).toNatClampNeg)]) (rest := [.int (dk_battery n K (xs ((nI i) + 1).toNatClampNeg))]) ⟨hx, hb, hml, hown, hts⟩ (c_X4_battery l dC dI cI cJ cZ q aS aC aW aL aN aI aB aD aU aF n gv sz cd sp se ct aw le ne ins ba dd cr tt ss un fr rl qs (xs ((nI i) + 1).toNatClampNeg) hR.1) (cwV 1 hts gL_law_X4_battery rfl rfl rfl (by decide +kernel) ⟨Nat.le_of_ble_eq_true rfl, Nat.le_of_ble_eq_true rfl⟩) (up_preV (q0 := 0) (ci := 5) hPm hKm (up_leftD (up_3 hD)) rfl rfl) rfl rfl hl.1 rfl (lv_room (Nat.le_of_ble_eq_true rfl)) dL_law_726 ⟨by show cells + 0 ≤ 670060; omega, by show slots + 0 ≤ 7085891; omega⟩) hPx hPo (up_3 hD) hS ((md_fst ..).trans (md_fst ..).symm) (fun H locs hPm hPx hPo hD hS => ?_)
  have hD := up_3 hD
  have hPx : va_P (dC, dI) vwCl (dkW cK cB cI o ks fa oa fb ob dr ds L n sp fa fb cr rl qs kA oA kB oB tt ss st K) H := hPx
  have hPm : va_P (dC, dI) vwCl (mdW cI cJ cZ q aS aC aW aL aN aI aB aD aU aF n gv sz 0 sp se ct aw le ne ins ba dd cr tt ss un fr rl qs) H := hPm
  have hD : va_D (lw_A s) ((dkW cK cB cI o ks fa oa fb ob dr ds L n sp fa fb cr rl qs kA oA kB oB tt ss st K) ++ ((mdW cI cJ cZ q aS aC aW aL aN aI aB aD aU aF n gv sz 0 sp se ct aw le ne ins ba dd cr tt ss un fr rl qs) ++ [(ou, .inl (cJ, 1, .inr (.inl ov)))])) := hD
  have pr := pr_battery hR (xs ((nI i) + 1).toNatClampNeg)
  refine lv_icmp_eq (tgt := 815) hx hb dL_law_729 (by decide) (fun c_729 => ?_) (fun c_729 => (c_729 pr.1).elim)
  have hR9 := pr.2
  refine W.widen (k := cells + 1) (n := slots + 7) (by omega) (by omega) ?_
  exact hcont _ _ ls ⟨_, _, _, _, _, _, _, _, _, _, _, _, _, _, _, _, _, _, _, _, _, _, _, _, _, _, _, _, _, _, _, _, _, _, _, _, _, _, _, _, _, _, _, _, _, hPx, hPm, hPo, hD, hR9⟩ hS (lv_sub hl [0, 1, 2, 3, 4] rfl)
set_option maxHeartbeats 4000000 in
set_option maxRecDepth 100000 in
theorem lw_k_state {p : Program} {l : Launch} {e : Env} {s : State} {m : MethodId} {below : List Frame} {meth : Method} {c : Code} {dC : Nat → ClassId} {dI : Nat → Nat → Nat} {b Ln : Nat} {xs : Nat → Int32} {cK cB cI cJ cZ : ClassId} {tX tY o q ou N i : Nat} {H : Heap} {locs : List Loc} {cells slots : Nat} {Q : State → Prop} (hE : lw_E p l s m c dC dI b Ln xs cK cB cI cJ cZ tX tY) (hN6 : N ≤ 600) (hi8 : i + 8 ≤ Ln) (hI : lw_I dC dI (lw_A s) cK cB cI cJ cZ o q ou N H) (hS : va_S (lw_A s) s.heap H locs) (hc : cells + 1 ≤ 670060) (hsl : slots + 7 ≤ 7085891) {ls : Array Slot} (hl : lv_has ls 7 [(4, .int (nI i)), (0, .ref b), (1, .ref o), (2, .ref q), (3, .ref ou)])
    (hcont : ∀ (H1 : Heap) (locs1 : List Loc) (ls1 : Array Slot), lw_I dC dI (lw_A s) cK cB cI cJ cZ o q ou (N + 1) H1 → va_S (lw_A s) s.heap H1 locs1 → lv_has ls1 7 [(4, .int (nI i)), (0, .ref b), (1, .ref o), (2, .ref q), (3, .ref ou)] → W p l e room_1 s m #[Value.ref b] below meth c H1 locs1 (cells + 1) (slots + 7) Q (F0 m 815 ls1 [])) : W p l e room_1 s m #[Value.ref b] below meth c H locs cells slots Q (F0 m 790 ls []) := by
  obtain ⟨hx, hb, hml, hown, hts0, hX, hbl, hbA, hK, hN, hZ, hfl, hL⟩ := hE
  have hts := fun w h => hts0 w (wsL_law_in w h)
  obtain ⟨ks, fa, oa, fb, ob, dr, ds, L, n, sp, cr, rl, qs, kA, oA, kB, oB, tt, ss, st, K, aS, aC, aW, aL, aN, aI, aB, aD, aU, aF, gv, sz, cd, se, ct, aw, le, ne, ins, ba, dd, un, fr, ov, hPx, hPm, hPo, hD, hR⟩ := hI
  have hKx : va_K (dC, dI) vwCl (dkT cK cB cI) s := hK.sub [0, 1, 2] rfl
  have hKm : va_K (dC, dI) vwCl (mdT cI cJ cZ) s := hK.sub [2, 3, 4] rfl
  refine lv_aload_n hx hb dL_law_790 rfl (lv_at hl 2 rfl) ?_
  refine lv_aload_n hx hb dL_law_791 rfl (lv_at hl 1 rfl) ?_
  refine lv_iload hx hb dL_law_792 (lv_at hl 0 rfl) ?_
  refine lv_iconst (v := 1) hx hb dL_law_794 (by decide) ?_
  refine lv_iadd hx hb dL_law_795 ?_
  refine va_sld hx hb hX hbl hbA hS (lw_ix 1 (by decide) hi8 hL) dL_law_796 ?_
  refine up_read (W.runV (As := [.int (xs ((nI i) + 1).toNatClampNeg)]) (rest := []) ⟨hx, hb, hml, hown, hts⟩ (c_X3_state l dC dI cK cB cI o ks fa oa fb ob dr ds L n sp fa fb cr rl qs kA oA kB oB tt ss st K (xs ((nI i) + 1).toNatClampNeg)) (cwV 1 hts gL_law_X3_state rfl rfl rfl (by decide +kernel) ⟨Nat.le_of_ble_eq_true rfl, Nat.le_of_ble_eq_true rfl⟩) (up_preV (q0 := 0) (ci := 4) hPx hKx (up_leftD hD) rfl rfl) rfl rfl hl.1 rfl (lv_room (Nat.le_of_ble_eq_true rfl)) dL_law_797 ⟨by show cells + 0 ≤ 670060; omega, by show slots + 0 ≤ 7085891; omega⟩) ?_
  refine lv_aload_n hx hb dL_law_800 rfl (lv_at hl 3 rfl) ?_
  refine lv_aload_n hx hb dL_law_801 rfl (lv_at hl 1 rfl) ?_
  refine lv_iload hx hb dL_law_802 (lv_at hl 0 rfl) ?_
  refine lv_iconst (v := 1) hx hb dL_law_804 (by decide) ?_
  refine lv_iadd hx hb dL_law_805 ?_
  refine va_sld hx hb hX hbl hbA hS (lw_ix 1 (by decide) hi8 hL) dL_law_806 ?_
  refine lw_call1 (W.runV (As := [.int (xs ((nI i) + 1).toNatClampNeg)]) (rest := [.int (dk_state rl qs st (xs ((nI i) + 1).toNatClampNeg))]) ⟨hx, hb, hml, hown, hts⟩ (c_X4_state l dC dI cI cJ cZ q aS aC aW aL aN aI aB aD aU aF n gv sz cd sp se ct aw le ne ins ba dd cr tt ss un fr rl qs (xs ((nI i) + 1).toNatClampNeg)) (cwV 1 hts gL_law_X4_state rfl rfl rfl (by decide +kernel) ⟨Nat.le_of_ble_eq_true rfl, Nat.le_of_ble_eq_true rfl⟩) (up_preV (q0 := 0) (ci := 5) hPm hKm (up_leftD (up_3 hD)) rfl rfl) rfl rfl hl.1 rfl (lv_room (Nat.le_of_ble_eq_true rfl)) dL_law_807 ⟨by show cells + 0 ≤ 670060; omega, by show slots + 0 ≤ 7085891; omega⟩) hPx hPo (up_3 hD) hS ((md_fst ..).trans (md_fst ..).symm) (fun H locs hPm hPx hPo hD hS => ?_)
  have hD := up_3 hD
  have hPx : va_P (dC, dI) vwCl (dkW cK cB cI o ks fa oa fb ob dr ds L n sp fa fb cr rl qs kA oA kB oB tt ss st K) H := hPx
  have hPm : va_P (dC, dI) vwCl (mdW cI cJ cZ q aS aC aW aL aN aI aB aD aU aF n gv sz 0 sp se ct aw le ne ins ba dd cr tt ss un fr rl qs) H := hPm
  have hD : va_D (lw_A s) ((dkW cK cB cI o ks fa oa fb ob dr ds L n sp fa fb cr rl qs kA oA kB oB tt ss st K) ++ ((mdW cI cJ cZ q aS aC aW aL aN aI aB aD aU aF n gv sz 0 sp se ct aw le ne ins ba dd cr tt ss un fr rl qs) ++ [(ou, .inl (cJ, 1, .inr (.inl ov)))])) := hD
  have pr := pr_state hR rl qs (xs ((nI i) + 1).toNatClampNeg)
  refine lv_icmp_eq (tgt := 815) hx hb dL_law_810 (by decide) (fun c_810 => ?_) (fun c_810 => (c_810 pr.1).elim)
  have hR9 := pr.2
  refine W.widen (k := cells + 1) (n := slots + 7) (by omega) (by omega) ?_
  exact hcont _ _ ls ⟨_, _, _, _, _, _, _, _, _, _, _, _, _, _, _, _, _, _, _, _, _, _, _, _, _, _, _, _, _, _, _, _, _, _, _, _, _, _, _, _, _, _, _, _, _, hPx, hPm, hPo, hD, hR9⟩ hS (lv_sub hl [0, 1, 2, 3, 4] rfl)
