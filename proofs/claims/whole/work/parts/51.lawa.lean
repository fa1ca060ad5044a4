/-! The law's cases (laid by wip/law.py) -/
set_option maxHeartbeats 4000000 in
set_option maxRecDepth 100000 in
theorem lw_k_counter {p : Program} {l : Launch} {e : Env} {s : State} {m : MethodId} {below : List Frame} {meth : Method} {c : Code} {dC : Nat → ClassId} {dI : Nat → Nat → Nat} {b Ln : Nat} {xs : Nat → Int32} {cK cB cI cJ cZ : ClassId} {tX tY o q ou N i : Nat} {H : Heap} {locs : List Loc} {cells slots : Nat} {Q : State → Prop} (hE : lw_E p l s m c dC dI b Ln xs cK cB cI cJ cZ tX tY) (hN6 : N ≤ 600) (hi8 : i + 8 ≤ Ln) (hI : lw_I dC dI (lw_A s) cK cB cI cJ cZ o q ou N H) (hS : va_S (lw_A s) s.heap H locs) (hc : cells + 1 ≤ 670060) (hsl : slots + 7 ≤ 7085891) {ls : Array Slot} (hl : lv_has ls 7 [(4, .int (nI i)), (0, .ref b), (1, .ref o), (2, .ref q), (3, .ref ou)])
    (hcont : ∀ (H1 : Heap) (locs1 : List Loc) (ls1 : Array Slot), lw_I dC dI (lw_A s) cK cB cI cJ cZ o q ou (N + 1) H1 → va_S (lw_A s) s.heap H1 locs1 → lv_has ls1 7 [(4, .int (nI i)), (0, .ref b), (1, .ref o), (2, .ref q), (3, .ref ou)] → W p l e room_1 s m #[Value.ref b] below meth c H1 locs1 (cells + 1) (slots + 7) Q (F0 m 815 ls1 [])) : W p l e room_1 s m #[Value.ref b] below meth c H locs cells slots Q (F0 m 272 ls []) := by
  obtain ⟨hx, hb, hml, hown, hts0, hX, hbl, hbA, hK, hN, hZ, hfl, hL⟩ := hE
  have hts := fun w h => hts0 w (wsL_law_in w h)
  obtain ⟨ks, fa, oa, fb, ob, dr, ds, L, n, sp, cr, rl, qs, kA, oA, kB, oB, tt, ss, st, K, aS, aC, aW, aL, aN, aI, aB, aD, aU, aF, gv, sz, cd, se, ct, aw, le, ne, ins, ba, dd, un, fr, ov, hPx, hPm, hPo, hD, hR⟩ := hI
  have hKx : va_K (dC, dI) vwCl (dkT cK cB cI) s := hK.sub [0, 1, 2] rfl
  have hKm : va_K (dC, dI) vwCl (mdT cI cJ cZ) s := hK.sub [2, 3, 4] rfl
  refine lv_aload_n hx hb dL_law_272 rfl (lv_at hl 2 rfl) ?_
  refine lv_aload_n hx hb dL_law_273 rfl (lv_at hl 1 rfl) ?_
  refine lv_iload hx hb dL_law_274 (lv_at hl 0 rfl) ?_
  refine lv_iconst (v := 1) hx hb dL_law_276 (by decide) ?_
  refine lv_iadd hx hb dL_law_277 ?_
  refine va_sld hx hb hX hbl hbA hS (lw_ix 1 (by decide) hi8 hL) dL_law_278 ?_
  refine up_read (W.runV (As := [.int (xs ((nI i) + 1).toNatClampNeg)]) (rest := []) ⟨hx, hb, hml, hown, hts⟩ (c_X3_counter l dC dI cK cB cI o ks fa oa fb ob dr ds L n sp fa fb cr rl qs kA oA kB oB tt ss st K (xs ((nI i) + 1).toNatClampNeg) hR.1) (cwV 1 hts gL_law_X3_counter rfl rfl rfl (by decide +kernel) ⟨Nat.le_of_ble_eq_true rfl, Nat.le_of_ble_eq_true rfl⟩) (up_preV (q0 := 0) (ci := 4) hPx hKx (up_leftD hD) rfl rfl) rfl rfl hl.1 rfl (lv_room (Nat.le_of_ble_eq_true rfl)) dL_law_279 ⟨by show cells + 0 ≤ 670060; omega, by show slots + 0 ≤ 7085891; omega⟩) ?_
  refine lv_aload_n hx hb dL_law_282 rfl (lv_at hl 3 rfl) ?_
  refine lv_aload_n hx hb dL_law_283 rfl (lv_at hl 1 rfl) ?_
  refine lv_iload hx hb dL_law_284 (lv_at hl 0 rfl) ?_
  refine lv_iconst (v := 1) hx hb dL_law_286 (by decide) ?_
  refine lv_iadd hx hb dL_law_287 ?_
  refine va_sld hx hb hX hbl hbA hS (lw_ix 1 (by decide) hi8 hL) dL_law_288 ?_
  refine lw_call1 (W.runV (As := [.int (xs ((nI i) + 1).toNatClampNeg)]) (rest := [.long (dk_counter n K (xs ((nI i) + 1).toNatClampNeg))]) ⟨hx, hb, hml, hown, hts⟩ (c_X4_counter l dC dI cI cJ cZ q aS aC aW aL aN aI aB aD aU aF n gv sz cd sp se ct aw le ne ins ba dd cr tt ss un fr rl qs (xs ((nI i) + 1).toNatClampNeg) hR.1) (cwV 1 hts gL_law_X4_counter rfl rfl rfl (by decide +kernel) ⟨Nat.le_of_ble_eq_true rfl, Nat.le_of_ble_eq_true rfl⟩) (up_preV (q0 := 0) (ci := 5) hPm hKm (up_leftD (up_3 hD)) rfl rfl) rfl rfl hl.1 rfl (lv_room (Nat.le_of_ble_eq_true rfl)) dL_law_289 ⟨by show cells + 0 ≤ 670060; omega, by show slots + 0 ≤ 7085891; omega⟩) hPx hPo (up_3 hD) hS ((md_fst ..).trans (md_fst ..).symm) (fun H locs hPm hPx hPo hD hS => ?_)
  have hD := up_3 hD
  have hPx : va_P (dC, dI) vwCl (dkW cK cB cI o ks fa oa fb ob dr ds L n sp fa fb cr rl qs kA oA kB oB tt ss st K) H := hPx
  have hPm : va_P (dC, dI) vwCl (mdW cI cJ cZ q aS aC aW aL aN aI aB aD aU aF n gv sz 0 sp se ct aw le ne ins ba dd cr tt ss un fr rl qs) H := hPm
  have hD : va_D (lw_A s) ((dkW cK cB cI o ks fa oa fb ob dr ds L n sp fa fb cr rl qs kA oA kB oB tt ss st K) ++ ((mdW cI cJ cZ q aS aC aW aL aN aI aB aD aU aF n gv sz 0 sp se ct aw le ne ins ba dd cr tt ss un fr rl qs) ++ [(ou, .inl (cJ, 1, .inr (.inl ov)))])) := hD
  refine W.lcmp hx hb dL_law_292 ?_
  have pr := pr_counter hR (xs ((nI i) + 1).toNatClampNeg)
  refine lv_if_eq (tgt := 815) hx hb dL_law_293 (by decide) (fun c_293 => ?_) (fun c_293 => (c_293 (lw_cmp0 pr.1)).elim)
  have hR9 := pr.2
  refine W.widen (k := cells + 1) (n := slots + 7) (by omega) (by omega) ?_
  exact hcont _ _ ls ⟨_, _, _, _, _, _, _, _, _, _, _, _, _, _, _, _, _, _, _, _, _, _, _, _, _, _, _, _, _, _, _, _, _, _, _, _, _, _, _, _, _, _, _, _, _, hPx, hPm, hPo, hD, hR9⟩ hS (lv_sub hl [0, 1, 2, 3, 4] rfl)
set_option maxHeartbeats 4000000 in
set_option maxRecDepth 100000 in
theorem lw_k_lock {p : Program} {l : Launch} {e : Env} {s : State} {m : MethodId} {below : List Frame} {meth : Method} {c : Code} {dC : Nat → ClassId} {dI : Nat → Nat → Nat} {b Ln : Nat} {xs : Nat → Int32} {cK cB cI cJ cZ : ClassId} {tX tY o q ou N i : Nat} {H : Heap} {locs : List Loc} {cells slots : Nat} {Q : State → Prop} (hE : lw_E p l s m c dC dI b Ln xs cK cB cI cJ cZ tX tY) (hN6 : N ≤ 600) (hi8 : i + 8 ≤ Ln) (hI : lw_I dC dI (lw_A s) cK cB cI cJ cZ o q ou N H) (hS : va_S (lw_A s) s.heap H locs) (hc : cells + 1 ≤ 670060) (hsl : slots + 7 ≤ 7085891) {ls : Array Slot} (hl : lv_has ls 7 [(4, .int (nI i)), (0, .ref b), (1, .ref o), (2, .ref q), (3, .ref ou)])
    (hcont : ∀ (H1 : Heap) (locs1 : List Loc) (ls1 : Array Slot), lw_I dC dI (lw_A s) cK cB cI cJ cZ o q ou (N + 1) H1 → va_S (lw_A s) s.heap H1 locs1 → lv_has ls1 7 [(4, .int (nI i)), (0, .ref b), (1, .ref o), (2, .ref q), (3, .ref ou)] → W p l e room_1 s m #[Value.ref b] below meth c H1 locs1 (cells + 1) (slots + 7) Q (F0 m 815 ls1 [])) : W p l e room_1 s m #[Value.ref b] below meth c H locs cells slots Q (F0 m 298 ls []) := by
  obtain ⟨hx, hb, hml, hown, hts0, hX, hbl, hbA, hK, hN, hZ, hfl, hL⟩ := hE
  have hts := fun w h => hts0 w (wsL_law_in w h)
  obtain ⟨ks, fa, oa, fb, ob, dr, ds, L, n, sp, cr, rl, qs, kA, oA, kB, oB, tt, ss, st, K, aS, aC, aW, aL, aN, aI, aB, aD, aU, aF, gv, sz, cd, se, ct, aw, le, ne, ins, ba, dd, un, fr, ov, hPx, hPm, hPo, hD, hR⟩ := hI
  have hKx : va_K (dC, dI) vwCl (dkT cK cB cI) s := hK.sub [0, 1, 2] rfl
  have hKm : va_K (dC, dI) vwCl (mdT cI cJ cZ) s := hK.sub [2, 3, 4] rfl
  refine lv_aload_n hx hb dL_law_298 rfl (lv_at hl 2 rfl) ?_
  refine lv_aload_n hx hb dL_law_299 rfl (lv_at hl 1 rfl) ?_
  refine lv_iload hx hb dL_law_300 (lv_at hl 0 rfl) ?_
  refine lv_iconst (v := 1) hx hb dL_law_302 (by decide) ?_
  refine lv_iadd hx hb dL_law_303 ?_
  refine va_sld hx hb hX hbl hbA hS (lw_ix 1 (by decide) hi8 hL) dL_law_304 ?_
  refine lw_call1 (W.runV (As := [.int (xs ((nI i) + 1).toNatClampNeg)]) (rest := []) ⟨hx, hb, hml, hown, hts⟩ (c_X3_lock l dC dI cK cB cI o ks fa oa fb ob dr ds L n sp fa fb cr rl qs kA oA kB oB tt ss st K (xs ((nI i) + 1).toNatClampNeg)) (cwV 1 hts gL_law_X3_lock rfl rfl rfl (by decide +kernel) ⟨Nat.le_of_ble_eq_true rfl, Nat.le_of_ble_eq_true rfl⟩) (up_preV (q0 := 0) (ci := 4) hPx hKx (up_leftD hD) rfl rfl) rfl rfl hl.1 rfl (lv_room (Nat.le_of_ble_eq_true rfl)) dL_law_305 ⟨by show cells + 0 ≤ 670060; omega, by show slots + 0 ≤ 7085891; omega⟩) hPm hPo hD hS ((dk_fst ..).trans (dk_fst ..).symm) (fun H locs hPx hPm hPo hD hS => ?_)
  have hPx : va_P (dC, dI) vwCl (dkW cK cB cI o ks fa oa fb ob dr ds L n sp fa fb cr rl qs kA oA kB oB tt ((dk_lock cr st tt ss (xs ((nI i) + 1).toNatClampNeg)).2.2) ((dk_lock cr st tt ss (xs ((nI i) + 1).toNatClampNeg)).2.1) K) H := hPx
  have hPm : va_P (dC, dI) vwCl (mdW cI cJ cZ q aS aC aW aL aN aI aB aD aU aF n gv sz cd sp se ct aw le ne ins ba dd cr tt ss un fr rl qs) H := hPm
  have hD : va_D (lw_A s) ((dkW cK cB cI o ks fa oa fb ob dr ds L n sp fa fb cr rl qs kA oA kB oB tt ((dk_lock cr st tt ss (xs ((nI i) + 1).toNatClampNeg)).2.2) ((dk_lock cr st tt ss (xs ((nI i) + 1).toNatClampNeg)).2.1) K) ++ ((mdW cI cJ cZ q aS aC aW aL aN aI aB aD aU aF n gv sz cd sp se ct aw le ne ins ba dd cr tt ss un fr rl qs) ++ [(ou, .inl (cJ, 1, .inr (.inl ov)))])) := hD
  refine lv_aload_n hx hb dL_law_308 rfl (lv_at hl 3 rfl) ?_
  refine lv_aload_n hx hb dL_law_309 rfl (lv_at hl 1 rfl) ?_
  refine lv_iload hx hb dL_law_310 (lv_at hl 0 rfl) ?_
  refine lv_iconst (v := 1) hx hb dL_law_312 (by decide) ?_
  refine lv_iadd hx hb dL_law_313 ?_
  refine va_sld hx hb hX hbl hbA hS (lw_ix 1 (by decide) hi8 hL) dL_law_314 ?_
  refine lw_call1 (W.runV (As := [.int (xs ((nI i) + 1).toNatClampNeg)]) (rest := [.int ((dk_lock cr st tt ss (xs ((nI i) + 1).toNatClampNeg)).1)]) ⟨hx, hb, hml, hown, hts⟩ (c_X4_lock l dC dI cI cJ cZ q aS aC aW aL aN aI aB aD aU aF n gv sz cd sp se ct aw le ne ins ba dd cr tt ss un fr rl qs (xs ((nI i) + 1).toNatClampNeg)) (cwV 1 hts gL_law_X4_lock rfl rfl rfl (by decide +kernel) ⟨Nat.le_of_ble_eq_true rfl, Nat.le_of_ble_eq_true rfl⟩) (up_preV (q0 := 0) (ci := 5) hPm hKm (up_leftD (up_3 hD)) rfl rfl) rfl rfl hl.1 rfl (lv_room (Nat.le_of_ble_eq_true rfl)) dL_law_315 ⟨by show cells + 0 ≤ 670060; omega, by show slots + 0 ≤ 7085891; omega⟩) hPx hPo (up_3 hD) hS ((md_fst ..).trans (md_fst ..).symm) (fun H locs hPm hPx hPo hD hS => ?_)
  have hD := up_3 hD
  have hPx : va_P (dC, dI) vwCl (dkW cK cB cI o ks fa oa fb ob dr ds L n sp fa fb cr rl qs kA oA kB oB tt ((dk_lock cr st tt ss (xs ((nI i) + 1).toNatClampNeg)).2.2) ((dk_lock cr st tt ss (xs ((nI i) + 1).toNatClampNeg)).2.1) K) H := hPx
  have hPm : va_P (dC, dI) vwCl (mdW cI cJ cZ q aS aC aW aL aN aI aB aD aU aF n gv sz 0 sp se ct aw le ne ins ba ((md_lock dd cr tt ss (xs ((nI i) + 1).toNatClampNeg)).2.1) cr tt ((md_lock dd cr tt ss (xs ((nI i) + 1).toNatClampNeg)).2.2) un fr rl qs) H := hPm
  have hD : va_D (lw_A s) ((dkW cK cB cI o ks fa oa fb ob dr ds L n sp fa fb cr rl qs kA oA kB oB tt ((dk_lock cr st tt ss (xs ((nI i) + 1).toNatClampNeg)).2.2) ((dk_lock cr st tt ss (xs ((nI i) + 1).toNatClampNeg)).2.1) K) ++ ((mdW cI cJ cZ q aS aC aW aL aN aI aB aD aU aF n gv sz 0 sp se ct aw le ne ins ba ((md_lock dd cr tt ss (xs ((nI i) + 1).toNatClampNeg)).2.1) cr tt ((md_lock dd cr tt ss (xs ((nI i) + 1).toNatClampNeg)).2.2) un fr rl qs) ++ [(ou, .inl (cJ, 1, .inr (.inl ov)))])) := hD
  have pr := pr_lock hR cr tt ss (xs ((nI i) + 1).toNatClampNeg)
  refine lv_icmp_eq (tgt := 815) hx hb dL_law_318 (by decide) (fun c_318 => ?_) (fun c_318 => (c_318 pr.1).elim)
  rw [← pr.2.1] at hPm hD
  have hR9 := pr.2.2
  refine W.widen (k := cells + 1) (n := slots + 7) (by omega) (by omega) ?_
  exact hcont _ _ ls ⟨_, _, _, _, _, _, _, _, _, _, _, _, _, _, _, _, _, _, _, _, _, _, _, _, _, _, _, _, _, _, _, _, _, _, _, _, _, _, _, _, _, _, _, _, _, hPx, hPm, hPo, hD, hR9⟩ hS (lv_sub hl [0, 1, 2, 3, 4] rfl)
set_option maxHeartbeats 4000000 in
set_option maxRecDepth 100000 in
theorem lw_k_learn {p : Program} {l : Launch} {e : Env} {s : State} {m : MethodId} {below : List Frame} {meth : Method} {c : Code} {dC : Nat → ClassId} {dI : Nat → Nat → Nat} {b Ln : Nat} {xs : Nat → Int32} {cK cB cI cJ cZ : ClassId} {tX tY o q ou N i : Nat} {H : Heap} {locs : List Loc} {cells slots : Nat} {Q : State → Prop} (hE : lw_E p l s m c dC dI b Ln xs cK cB cI cJ cZ tX tY) (hN6 : N ≤ 600) (hi8 : i + 8 ≤ Ln) (hI : lw_I dC dI (lw_A s) cK cB cI cJ cZ o q ou N H) (hS : va_S (lw_A s) s.heap H locs) (hc : cells + 1 ≤ 670060) (hsl : slots + 7 ≤ 7085891) {ls : Array Slot} (hl : lv_has ls 7 [(4, .int (nI i)), (0, .ref b), (1, .ref o), (2, .ref q), (3, .ref ou)])
    (hcont : ∀ (H1 : Heap) (locs1 : List Loc) (ls1 : Array Slot), lw_I dC dI (lw_A s) cK cB cI cJ cZ o q ou (N + 1) H1 → va_S (lw_A s) s.heap H1 locs1 → lv_has ls1 7 [(4, .int (nI i)), (0, .ref b), (1, .ref o), (2, .ref q), (3, .ref ou)] → W p l e room_1 s m #[Value.ref b] below meth c H1 locs1 (cells + 1) (slots + 7) Q (F0 m 815 ls1 [])) : W p l e room_1 s m #[Value.ref b] below meth c H locs cells slots Q (F0 m 323 ls []) := by
  obtain ⟨hx, hb, hml, hown, hts0, hX, hbl, hbA, hK, hN, hZ, hfl, hL⟩ := hE
  have hts := fun w h => hts0 w (wsL_law_in w h)
  obtain ⟨ks, fa, oa, fb, ob, dr, ds, L, n, sp, cr, rl, qs, kA, oA, kB, oB, tt, ss, st, K, aS, aC, aW, aL, aN, aI, aB, aD, aU, aF, gv, sz, cd, se, ct, aw, le, ne, ins, ba, dd, un, fr, ov, hPx, hPm, hPo, hD, hR⟩ := hI
  have hKx : va_K (dC, dI) vwCl (dkT cK cB cI) s := hK.sub [0, 1, 2] rfl
  have hKm : va_K (dC, dI) vwCl (mdT cI cJ cZ) s := hK.sub [2, 3, 4] rfl
  refine lv_aload_n hx hb dL_law_323 rfl (lv_at hl 2 rfl) ?_
  refine lv_aload_n hx hb dL_law_324 rfl (lv_at hl 1 rfl) ?_
  refine lv_iload hx hb dL_law_325 (lv_at hl 0 rfl) ?_
  refine lv_iconst (v := 1) hx hb dL_law_327 (by decide) ?_
  refine lv_iadd hx hb dL_law_328 ?_
  refine va_sld hx hb hX hbl hbA hS (lw_ix 1 (by decide) hi8 hL) dL_law_329 ?_
  refine lv_aload_n hx hb dL_law_330 rfl (lv_at hl 1 rfl) ?_
  refine lv_iload hx hb dL_law_331 (lv_at hl 0 rfl) ?_
  refine lv_iconst (v := 2) hx hb dL_law_333 (by decide) ?_
  refine lv_iadd hx hb dL_law_334 ?_
  refine va_sld hx hb hX hbl hbA hS (lw_ix 2 (by decide) hi8 hL) dL_law_335 ?_
  refine lv_aload_n hx hb dL_law_336 rfl (lv_at hl 1 rfl) ?_
  refine lv_iload hx hb dL_law_337 (lv_at hl 0 rfl) ?_
  refine lv_iconst (v := 3) hx hb dL_law_339 (by decide) ?_
  refine lv_iadd hx hb dL_law_340 ?_
  refine va_sld hx hb hX hbl hbA hS (lw_ix 3 (by decide) hi8 hL) dL_law_341 ?_
  refine lw_call1 (W.runV (As := [.int (xs ((nI i) + 1).toNatClampNeg), .int (xs ((nI i) + 2).toNatClampNeg), .int (xs ((nI i) + 3).toNatClampNeg)]) (rest := []) ⟨hx, hb, hml, hown, hts⟩ (c_X3_learn l dC dI cK cB cI o ks fa oa fb ob dr ds L n sp fa fb cr rl qs kA oA kB oB tt ss st K (xs ((nI i) + 1).toNatClampNeg) (xs ((nI i) + 2).toNatClampNeg) (xs ((nI i) + 3).toNatClampNeg) hR.1) (cwV 3 hts gL_law_X3_learn rfl rfl rfl (by decide +kernel) ⟨Nat.le_of_ble_eq_true rfl, Nat.le_of_ble_eq_true rfl⟩) (up_preV (q0 := 0) (ci := 4) hPx hKx (up_leftD hD) rfl rfl) rfl rfl hl.1 rfl (lv_room (Nat.le_of_ble_eq_true rfl)) dL_law_342 ⟨by show cells + 0 ≤ 670060; omega, by show slots + 0 ≤ 7085891; omega⟩) hPm hPo hD hS ((dk_fst ..).trans (dk_fst ..).symm) (fun H locs hPx hPm hPo hD hS => ?_)
  have hPx : va_P (dC, dI) vwCl (dkW cK cB cI o ks fa oa fb ob dr ds L n sp fa fb cr rl qs kA oA kB oB tt ss st ((dk_learn n K (xs ((nI i) + 1).toNatClampNeg) (xs ((nI i) + 2).toNatClampNeg) (xs ((nI i) + 3).toNatClampNeg)).2)) H := hPx
  have hPm : va_P (dC, dI) vwCl (mdW cI cJ cZ q aS aC aW aL aN aI aB aD aU aF n gv sz cd sp se ct aw le ne ins ba dd cr tt ss un fr rl qs) H := hPm
  have hD : va_D (lw_A s) ((dkW cK cB cI o ks fa oa fb ob dr ds L n sp fa fb cr rl qs kA oA kB oB tt ss st ((dk_learn n K (xs ((nI i) + 1).toNatClampNeg) (xs ((nI i) + 2).toNatClampNeg) (xs ((nI i) + 3).toNatClampNeg)).2)) ++ ((mdW cI cJ cZ q aS aC aW aL aN aI aB aD aU aF n gv sz cd sp se ct aw le ne ins ba dd cr tt ss un fr rl qs) ++ [(ou, .inl (cJ, 1, .inr (.inl ov)))])) := hD
  refine lv_aload_n hx hb dL_law_345 rfl (lv_at hl 3 rfl) ?_
  refine lv_aload_n hx hb dL_law_346 rfl (lv_at hl 1 rfl) ?_
  refine lv_iload hx hb dL_law_347 (lv_at hl 0 rfl) ?_
  refine lv_iconst (v := 1) hx hb dL_law_349 (by decide) ?_
  refine lv_iadd hx hb dL_law_350 ?_
  refine va_sld hx hb hX hbl hbA hS (lw_ix 1 (by decide) hi8 hL) dL_law_351 ?_
  refine lv_aload_n hx hb dL_law_352 rfl (lv_at hl 1 rfl) ?_
  refine lv_iload hx hb dL_law_353 (lv_at hl 0 rfl) ?_
  refine lv_iconst (v := 2) hx hb dL_law_355 (by decide) ?_
  refine lv_iadd hx hb dL_law_356 ?_
  refine va_sld hx hb hX hbl hbA hS (lw_ix 2 (by decide) hi8 hL) dL_law_357 ?_
  refine lv_aload_n hx hb dL_law_358 rfl (lv_at hl 1 rfl) ?_
  refine lv_iload hx hb dL_law_359 (lv_at hl 0 rfl) ?_
  refine lv_iconst (v := 3) hx hb dL_law_361 (by decide) ?_
  refine lv_iadd hx hb dL_law_362 ?_
  refine va_sld hx hb hX hbl hbA hS (lw_ix 3 (by decide) hi8 hL) dL_law_363 ?_
  refine lw_call1 (W.runV (As := [.int (xs ((nI i) + 1).toNatClampNeg), .int (xs ((nI i) + 2).toNatClampNeg), .int (xs ((nI i) + 3).toNatClampNeg)]) (rest := [.int ((dk_learn n K (xs ((nI i) + 1).toNatClampNeg) (xs ((nI i) + 2).toNatClampNeg) (xs ((nI i) + 3).toNatClampNeg)).1)]) ⟨hx, hb, hml, hown, hts⟩ (c_X4_learn l dC dI cI cJ cZ q aS aC aW aL aN aI aB aD aU aF n gv sz cd sp se ct aw le ne ins ba dd cr tt ss un fr rl qs (xs ((nI i) + 1).toNatClampNeg) (xs ((nI i) + 2).toNatClampNeg) (xs ((nI i) + 3).toNatClampNeg) hR.1) (cwV 3 hts gL_law_X4_learn rfl rfl rfl (by decide +kernel) ⟨Nat.le_of_ble_eq_true rfl, Nat.le_of_ble_eq_true rfl⟩) (up_preV (q0 := 0) (ci := 5) hPm hKm (up_leftD (up_3 hD)) rfl rfl) rfl rfl hl.1 rfl (lv_room (Nat.le_of_ble_eq_true rfl)) dL_law_364 ⟨by show cells + 0 ≤ 670060; omega, by show slots + 0 ≤ 7085891; omega⟩) hPx hPo (up_3 hD) hS ((md_fst ..).trans (md_fst ..).symm) (fun H locs hPm hPx hPo hD hS => ?_)
  have hD := up_3 hD
  have hPx : va_P (dC, dI) vwCl (dkW cK cB cI o ks fa oa fb ob dr ds L n sp fa fb cr rl qs kA oA kB oB tt ss st ((dk_learn n K (xs ((nI i) + 1).toNatClampNeg) (xs ((nI i) + 2).toNatClampNeg) (xs ((nI i) + 3).toNatClampNeg)).2)) H := hPx
  have hPm : va_P (dC, dI) vwCl (mdW cI cJ cZ q aS aC aW aL aN aI aB aD aU aF n gv sz 0 sp se ct aw ((md_learn n le ne ins (xs ((nI i) + 1).toNatClampNeg) (xs ((nI i) + 2).toNatClampNeg) (xs ((nI i) + 3).toNatClampNeg)).2) ne ins ba dd cr tt ss un fr rl qs) H := hPm
  have hD : va_D (lw_A s) ((dkW cK cB cI o ks fa oa fb ob dr ds L n sp fa fb cr rl qs kA oA kB oB tt ss st ((dk_learn n K (xs ((nI i) + 1).toNatClampNeg) (xs ((nI i) + 2).toNatClampNeg) (xs ((nI i) + 3).toNatClampNeg)).2)) ++ ((mdW cI cJ cZ q aS aC aW aL aN aI aB aD aU aF n gv sz 0 sp se ct aw ((md_learn n le ne ins (xs ((nI i) + 1).toNatClampNeg) (xs ((nI i) + 2).toNatClampNeg) (xs ((nI i) + 3).toNatClampNeg)).2) ne ins ba dd cr tt ss un fr rl qs) ++ [(ou, .inl (cJ, 1, .inr (.inl ov)))])) := hD
  have pr := pr_learn hR (xs ((nI i) + 1).toNatClampNeg) (xs ((nI i) + 2).toNatClampNeg) (xs ((nI i) + 3).toNatClampNeg)
  refine lv_icmp_eq (tgt := 815) hx hb dL_law_367 (by decide) (fun c_367 => ?_) (fun c_367 => (c_367 pr.1).elim)
  have hR9 := pr.2
  refine W.widen (k := cells + 1) (n := slots + 7) (by omega) (by omega) ?_
  exact hcont _ _ ls ⟨_, _, _, _, _, _, _, _, _, _, _, _, _, _, _, _, _, _, _, _, _, _, _, _, _, _, _, _, _, _, _, _, _, _, _, _, _, _, _, _, _, _, _, _, _, hPx, hPm, hPo, hD, hR9⟩ hS (lv_sub hl [0, 1, 2, 3, 4] rfl)
set_option maxHeartbeats 4000000 in
set_option maxRecDepth 100000 in
theorem lw_k_erase {p : Program} {l : Launch} {e : Env} {s : State} {m : MethodId} {below : List Frame} {meth : Method} {c : Code} {dC : Nat → ClassId} {dI : Nat → Nat → Nat} {b Ln : Nat} {xs : Nat → Int32} {cK cB cI cJ cZ : ClassId} {tX tY o q ou N i : Nat} {H : Heap} {locs : List Loc} {cells slots : Nat} {Q : State → Prop} (hE : lw_E p l s m c dC dI b Ln xs cK cB cI cJ cZ tX tY) (hN6 : N ≤ 600) (hi8 : i + 8 ≤ Ln) (hI : lw_I dC dI (lw_A s) cK cB cI cJ cZ o q ou N H) (hS : va_S (lw_A s) s.heap H locs) (hc : cells + 1 ≤ 670060) (hsl : slots + 7 ≤ 7085891) {ls : Array Slot} (hl : lv_has ls 7 [(4, .int (nI i)), (0, .ref b), (1, .ref o), (2, .ref q), (3, .ref ou)])
    (hcont : ∀ (H1 : Heap) (locs1 : List Loc) (ls1 : Array Slot), lw_I dC dI (lw_A s) cK cB cI cJ cZ o q ou (N + 1) H1 → va_S (lw_A s) s.heap H1 locs1 → lv_has ls1 7 [(4, .int (nI i)), (0, .ref b), (1, .ref o), (2, .ref q), (3, .ref ou)] → W p l e room_1 s m #[Value.ref b] below meth c H1 locs1 (cells + 1) (slots + 7) Q (F0 m 815 ls1 [])) : W p l e room_1 s m #[Value.ref b] below meth c H locs cells slots Q (F0 m 372 ls []) := by
  obtain ⟨hx, hb, hml, hown, hts0, hX, hbl, hbA, hK, hN, hZ, hfl, hL⟩ := hE
  have hts := fun w h => hts0 w (wsL_law_in w h)
  obtain ⟨ks, fa, oa, fb, ob, dr, ds, L, n, sp, cr, rl, qs, kA, oA, kB, oB, tt, ss, st, K, aS, aC, aW, aL, aN, aI, aB, aD, aU, aF, gv, sz, cd, se, ct, aw, le, ne, ins, ba, dd, un, fr, ov, hPx, hPm, hPo, hD, hR⟩ := hI
  have hKx : va_K (dC, dI) vwCl (dkT cK cB cI) s := hK.sub [0, 1, 2] rfl
  have hKm : va_K (dC, dI) vwCl (mdT cI cJ cZ) s := hK.sub [2, 3, 4] rfl
  refine lv_aload_n hx hb dL_law_372 rfl (lv_at hl 2 rfl) ?_
  refine lv_aload_n hx hb dL_law_373 rfl (lv_at hl 1 rfl) ?_
  refine lv_iload hx hb dL_law_374 (lv_at hl 0 rfl) ?_
  refine lv_iconst (v := 1) hx hb dL_law_376 (by decide) ?_
  refine lv_iadd hx hb dL_law_377 ?_
  refine va_sld hx hb hX hbl hbA hS (lw_ix 1 (by decide) hi8 hL) dL_law_378 ?_
  refine lw_call1 (W.runV (As := [.int (xs ((nI i) + 1).toNatClampNeg)]) (rest := []) ⟨hx, hb, hml, hown, hts⟩ (c_X3_erase l dC dI cK cB cI o ks fa oa fb ob dr ds L n sp fa fb cr rl qs kA oA kB oB tt ss st K (xs ((nI i) + 1).toNatClampNeg) hR.1) (cwV 1 hts gL_law_X3_erase rfl rfl rfl (by decide +kernel) ⟨Nat.le_of_ble_eq_true rfl, Nat.le_of_ble_eq_true rfl⟩) (up_preV (q0 := 0) (ci := 4) hPx hKx (up_leftD hD) rfl rfl) rfl rfl hl.1 rfl (lv_room (Nat.le_of_ble_eq_true rfl)) dL_law_379 ⟨by show cells + 0 ≤ 670060; omega, by show slots + 0 ≤ 7085891; omega⟩) hPm hPo hD hS ((dk_fst ..).trans (dk_fst ..).symm) (fun H locs hPx hPm hPo hD hS => ?_)
  have hPx : va_P (dC, dI) vwCl (dkW cK cB cI o ks fa oa fb ob dr ds L n sp fa fb cr rl qs kA oA kB oB tt ss st ((dk_erase n K (xs ((nI i) + 1).toNatClampNeg)).2)) H := hPx
  have hPm : va_P (dC, dI) vwCl (mdW cI cJ cZ q aS aC aW aL aN aI aB aD aU aF n gv sz cd sp se ct aw le ne ins ba dd cr tt ss un fr rl qs) H := hPm
  have hD : va_D (lw_A s) ((dkW cK cB cI o ks fa oa fb ob dr ds L n sp fa fb cr rl qs kA oA kB oB tt ss st ((dk_erase n K (xs ((nI i) + 1).toNatClampNeg)).2)) ++ ((mdW cI cJ cZ q aS aC aW aL aN aI aB aD aU aF n gv sz cd sp se ct aw le ne ins ba dd cr tt ss un fr rl qs) ++ [(ou, .inl (cJ, 1, .inr (.inl ov)))])) := hD
  refine lv_aload_n hx hb dL_law_382 rfl (lv_at hl 3 rfl) ?_
  refine lv_aload_n hx hb dL_law_383 rfl (lv_at hl 1 rfl) ?_
  refine lv_iload hx hb dL_law_384 (lv_at hl 0 rfl) ?_
  refine lv_iconst (v := 1) hx hb dL_law_386 (by decide) ?_
  refine lv_iadd hx hb dL_law_387 ?_
  refine va_sld hx hb hX hbl hbA hS (lw_ix 1 (by decide) hi8 hL) dL_law_388 ?_
  refine lw_call1 (W.runV (As := [.int (xs ((nI i) + 1).toNatClampNeg)]) (rest := [.int ((dk_erase n K (xs ((nI i) + 1).toNatClampNeg)).1)]) ⟨hx, hb, hml, hown, hts⟩ (c_X4_erase l dC dI cI cJ cZ q aS aC aW aL aN aI aB aD aU aF n gv sz cd sp se ct aw le ne ins ba dd cr tt ss un fr rl qs (xs ((nI i) + 1).toNatClampNeg) hR.1) (cwV 1 hts gL_law_X4_erase rfl rfl rfl (by decide +kernel) ⟨Nat.le_of_ble_eq_true rfl, Nat.le_of_ble_eq_true rfl⟩) (up_preV (q0 := 0) (ci := 5) hPm hKm (up_leftD (up_3 hD)) rfl rfl) rfl rfl hl.1 rfl (lv_room (Nat.le_of_ble_eq_true rfl)) dL_law_389 ⟨by show cells + 0 ≤ 670060; omega, by show slots + 0 ≤ 7085891; omega⟩) hPx hPo (up_3 hD) hS ((md_fst ..).trans (md_fst ..).symm) (fun H locs hPm hPx hPo hD hS => ?_)
  have hD := up_3 hD
  have hPx : va_P (dC, dI) vwCl (dkW cK cB cI o ks fa oa fb ob dr ds L n sp fa fb cr rl qs kA oA kB oB tt ss st ((dk_erase n K (xs ((nI i) + 1).toNatClampNeg)).2)) H := hPx
  have hPm : va_P (dC, dI) vwCl (mdW cI cJ cZ q aS aC aW aL aN aI aB aD aU aF n gv sz 0 sp se ct aw ((md_erase n le ne ins (xs ((nI i) + 1).toNatClampNeg)).2.1) ((md_erase n le ne ins (xs ((nI i) + 1).toNatClampNeg)).2.2.1) ((md_erase n le ne ins (xs ((nI i) + 1).toNatClampNeg)).2.2.2) ba dd cr tt ss un fr rl qs) H := hPm
  have hD : va_D (lw_A s) ((dkW cK cB cI o ks fa oa fb ob dr ds L n sp fa fb cr rl qs kA oA kB oB tt ss st ((dk_erase n K (xs ((nI i) + 1).toNatClampNeg)).2)) ++ ((mdW cI cJ cZ q aS aC aW aL aN aI aB aD aU aF n gv sz 0 sp se ct aw ((md_erase n le ne ins (xs ((nI i) + 1).toNatClampNeg)).2.1) ((md_erase n le ne ins (xs ((nI i) + 1).toNatClampNeg)).2.2.1) ((md_erase n le ne ins (xs ((nI i) + 1).toNatClampNeg)).2.2.2) ba dd cr tt ss un fr rl qs) ++ [(ou, .inl (cJ, 1, .inr (.inl ov)))])) := hD
  have pr := pr_erase hR (xs ((nI i) + 1).toNatClampNeg)
  refine lv_icmp_eq (tgt := 815) hx hb dL_law_392 (by decide) (fun c_392 => ?_) (fun c_392 => (c_392 pr.1).elim)
  have hR9 := pr.2
  refine W.widen (k := cells + 1) (n := slots + 7) (by omega) (by omega) ?_
  exact hcont _ _ ls ⟨_, _, _, _, _, _, _, _, _, _, _, _, _, _, _, _, _, _, _, _, _, _, _, _, _, _, _, _, _, _, _, _, _, _, _, _, _, _, _, _, _, _, _, _, _, hPx, hPm, hPo, hD, hR9⟩ hS (lv_sub hl [0, 1, 2, 3, 4] rfl)
set_option maxHeartbeats 4000000 in
set_option maxRecDepth 100000 in
theorem lw_k_field {p : Program} {l : Launch} {e : Env} {s : State} {m : MethodId} {below : List Frame} {meth : Method} {c : Code} {dC : Nat → ClassId} {dI : Nat → Nat → Nat} {b Ln : Nat} {xs : Nat → Int32} {cK cB cI cJ cZ : ClassId} {tX tY o q ou N i : Nat} {H : Heap} {locs : List Loc} {cells slots : Nat} {Q : State → Prop} (hE : lw_E p l s m c dC dI b Ln xs cK cB cI cJ cZ tX tY) (hN6 : N ≤ 600) (hi8 : i + 8 ≤ Ln) (hI : lw_I dC dI (lw_A s) cK cB cI cJ cZ o q ou N H) (hS : va_S (lw_A s) s.heap H locs) (hc : cells + 1 ≤ 670060) (hsl : slots + 7 ≤ 7085891) {ls : Array Slot} (hl : lv_has ls 7 [(4, .int (nI i)), (0, .ref b), (1, .ref o), (2, .ref q), (3, .ref ou)])
    (hcont : ∀ (H1 : Heap) (locs1 : List Loc) (ls1 : Array Slot), lw_I dC dI (lw_A s) cK cB cI cJ cZ o q ou (N + 1) H1 → va_S (lw_A s) s.heap H1 locs1 → lv_has ls1 7 [(4, .int (nI i)), (0, .ref b), (1, .ref o), (2, .ref q), (3, .ref ou)] → W p l e room_1 s m #[Value.ref b] below meth c H1 locs1 (cells + 1) (slots + 7) Q (F0 m 815 ls1 [])) : W p l e room_1 s m #[Value.ref b] below meth c H locs cells slots Q (F0 m 397 ls []) := by
  obtain ⟨hx, hb, hml, hown, hts0, hX, hbl, hbA, hK, hN, hZ, hfl, hL⟩ := hE
  have hts := fun w h => hts0 w (wsL_law_in w h)
  obtain ⟨ks, fa, oa, fb, ob, dr, ds, L, n, sp, cr, rl, qs, kA, oA, kB, oB, tt, ss, st, K, aS, aC, aW, aL, aN, aI, aB, aD, aU, aF, gv, sz, cd, se, ct, aw, le, ne, ins, ba, dd, un, fr, ov, hPx, hPm, hPo, hD, hR⟩ := hI
  have hKx : va_K (dC, dI) vwCl (dkT cK cB cI) s := hK.sub [0, 1, 2] rfl
  have hKm : va_K (dC, dI) vwCl (mdT cI cJ cZ) s := hK.sub [2, 3, 4] rfl
  refine lv_aload_n hx hb dL_law_397 rfl (lv_at hl 2 rfl) ?_
  refine lv_aload_n hx hb dL_law_398 rfl (lv_at hl 1 rfl) ?_
  refine lv_iload hx hb dL_law_399 (lv_at hl 0 rfl) ?_
  refine lv_iconst (v := 1) hx hb dL_law_401 (by decide) ?_
  refine lv_iadd hx hb dL_law_402 ?_
  refine va_sld hx hb hX hbl hbA hS (lw_ix 1 (by decide) hi8 hL) dL_law_403 ?_
  refine lv_aload_n hx hb dL_law_404 rfl (lv_at hl 1 rfl) ?_
  refine lv_iload hx hb dL_law_405 (lv_at hl 0 rfl) ?_
  refine lv_iconst (v := 2) hx hb dL_law_407 (by decide) ?_
  refine lv_iadd hx hb dL_law_408 ?_
  refine va_sld hx hb hX hbl hbA hS (lw_ix 2 (by decide) hi8 hL) dL_law_409 ?_
  refine lv_i2l (v := (xs ((nI i) + 2).toNatClampNeg).toInt64) hx hb dL_law_410 rfl ?_
  refine lv_bipush (v := 32) hx hb dL_law_411 (by decide) ?_
  refine lv_lshl (v := (xs ((nI i) + 2).toNatClampNeg).toInt64 <<< ((32 : Int32).toInt64 &&& 63)) hx hb dL_law_413 rfl ?_
  refine lv_aload_n hx hb dL_law_414 rfl (lv_at hl 1 rfl) ?_
  refine lv_iload hx hb dL_law_415 (lv_at hl 0 rfl) ?_
  refine lv_iconst (v := 3) hx hb dL_law_417 (by decide) ?_
  refine lv_iadd hx hb dL_law_418 ?_
  refine va_sld hx hb hX hbl hbA hS (lw_ix 3 (by decide) hi8 hL) dL_law_419 ?_
  refine lv_i2l (v := (xs ((nI i) + 3).toNatClampNeg).toInt64) hx hb dL_law_420 rfl ?_
  refine lv_ldc2 (v := 4294967295) hx hb hown (hts (.constantLong RL 27 4294967295) (by decide +kernel)) dL_law_421 ?_
  refine lv_land hx hb dL_law_424 ?_
  refine lv_lor hx hb dL_law_425 ?_
  refine lv_aload_n hx hb dL_law_426 rfl (lv_at hl 1 rfl) ?_
  refine lv_iload hx hb dL_law_427 (lv_at hl 0 rfl) ?_
  refine lv_iconst (v := 4) hx hb dL_law_429 (by decide) ?_
  refine lv_iadd hx hb dL_law_430 ?_
  refine va_sld hx hb hX hbl hbA hS (lw_ix 4 (by decide) hi8 hL) dL_law_431 ?_
  refine lv_i2l (v := (xs ((nI i) + 4).toNatClampNeg).toInt64) hx hb dL_law_432 rfl ?_
  refine lv_bipush (v := 32) hx hb dL_law_433 (by decide) ?_
  refine lv_lshl (v := (xs ((nI i) + 4).toNatClampNeg).toInt64 <<< ((32 : Int32).toInt64 &&& 63)) hx hb dL_law_435 rfl ?_
  refine lv_aload_n hx hb dL_law_436 rfl (lv_at hl 1 rfl) ?_
  refine lv_iload hx hb dL_law_437 (lv_at hl 0 rfl) ?_
  refine lv_iconst (v := 5) hx hb dL_law_439 (by decide) ?_
  refine lv_iadd hx hb dL_law_440 ?_
  refine va_sld hx hb hX hbl hbA hS (lw_ix 5 (by decide) hi8 hL) dL_law_441 ?_
  refine lv_i2l (v := (xs ((nI i) + 5).toNatClampNeg).toInt64) hx hb dL_law_442 rfl ?_
  refine lv_ldc2 (v := 4294967295) hx hb hown (hts (.constantLong RL 27 4294967295) (by decide +kernel)) dL_law_443 ?_
  refine lv_land hx hb dL_law_446 ?_
  refine lv_lor hx hb dL_law_447 ?_
  refine lv_aload_n hx hb dL_law_448 rfl (lv_at hl 1 rfl) ?_
  refine lv_iload hx hb dL_law_449 (lv_at hl 0 rfl) ?_
  refine lv_bipush (v := 6) hx hb dL_law_451 (by decide) ?_
  refine lv_iadd hx hb dL_law_453 ?_
  refine va_sld hx hb hX hbl hbA hS (lw_ix 6 (by decide) hi8 hL) dL_law_454 ?_
  refine lv_i2l (v := (xs ((nI i) + 6).toNatClampNeg).toInt64) hx hb dL_law_455 rfl ?_
  refine lv_bipush (v := 32) hx hb dL_law_456 (by decide) ?_
  refine lv_lshl (v := (xs ((nI i) + 6).toNatClampNeg).toInt64 <<< ((32 : Int32).toInt64 &&& 63)) hx hb dL_law_458 rfl ?_
  refine lv_aload_n hx hb dL_law_459 rfl (lv_at hl 1 rfl) ?_
  refine lv_iload hx hb dL_law_460 (lv_at hl 0 rfl) ?_
  refine lv_bipush (v := 7) hx hb dL_law_462 (by decide) ?_
  refine lv_iadd hx hb dL_law_464 ?_
  refine va_sld hx hb hX hbl hbA hS (lw_ix 7 (by decide) hi8 hL) dL_law_465 ?_
  refine lv_i2l (v := (xs ((nI i) + 7).toNatClampNeg).toInt64) hx hb dL_law_466 rfl ?_
  refine lv_ldc2 (v := 4294967295) hx hb hown (hts (.constantLong RL 27 4294967295) (by decide +kernel)) dL_law_467 ?_
  refine lv_land hx hb dL_law_470 ?_
  refine lv_lor hx hb dL_law_471 ?_
  refine lw_call1 (W.runV (As := [.int (xs ((nI i) + 1).toNatClampNeg), .long (((xs ((nI i) + 2).toNatClampNeg).toInt64 <<< ((32 : Int32).toInt64 &&& 63)) ||| ((xs ((nI i) + 3).toNatClampNeg).toInt64 &&& 4294967295)), .long (((xs ((nI i) + 4).toNatClampNeg).toInt64 <<< ((32 : Int32).toInt64 &&& 63)) ||| ((xs ((nI i) + 5).toNatClampNeg).toInt64 &&& 4294967295)), .long (((xs ((nI i) + 6).toNatClampNeg).toInt64 <<< ((32 : Int32).toInt64 &&& 63)) ||| ((xs ((nI i) + 7).toNatClampNeg).toInt64 &&& 4294967295))]) (rest := []) ⟨hx, hb, hml, hown, hts⟩ (c_X3_field l dC dI cK cB cI o ks fa oa fb ob dr ds L n sp fa fb cr rl qs kA oA kB oB tt ss st K tX tY (xs ((nI i) + 1).toNatClampNeg) (((xs ((nI i) + 2).toNatClampNeg).toInt64 <<< ((32 : Int32).toInt64 &&& 63)) ||| ((xs ((nI i) + 3).toNatClampNeg).toInt64 &&& 4294967295)) (((xs ((nI i) + 4).toNatClampNeg).toInt64 <<< ((32 : Int32).toInt64 &&& 63)) ||| ((xs ((nI i) + 5).toNatClampNeg).toInt64 &&& 4294967295)) (((xs ((nI i) + 6).toNatClampNeg).toInt64 <<< ((32 : Int32).toInt64 &&& 63)) ||| ((xs ((nI i) + 7).toNatClampNeg).toInt64 &&& 4294967295)) hR.1) (cwV 4 hts gL_law_X3_field rfl rfl rfl (by decide +kernel) ⟨Nat.le_of_ble_eq_true rfl, Nat.le_of_ble_eq_true rfl⟩) (up_preVS (q0 := 0) (ci := 4) hPx hKx (up_leftD hD) (lw_S hZ hS hD) rfl rfl) rfl rfl hl.1 rfl (lv_room (Nat.le_of_ble_eq_true rfl)) dL_law_472 ⟨by show cells + 0 ≤ 670060; omega, by show slots + 0 ≤ 7085891; omega⟩) hPm hPo hD hS ((dk_fst ..).trans (dk_fst ..).symm) (fun H locs hPx hPm hPo hD hS => ?_)
  have hPx : va_P (dC, dI) vwCl (dkW cK cB cI o ks fa oa fb ob dr ds L n sp fa fb cr ((dk_field n rl st K (xs ((nI i) + 1).toNatClampNeg) (((xs ((nI i) + 2).toNatClampNeg).toInt64 <<< ((32 : Int32).toInt64 &&& 63)) ||| ((xs ((nI i) + 3).toNatClampNeg).toInt64 &&& 4294967295)) (((xs ((nI i) + 4).toNatClampNeg).toInt64 <<< ((32 : Int32).toInt64 &&& 63)) ||| ((xs ((nI i) + 5).toNatClampNeg).toInt64 &&& 4294967295)) (((xs ((nI i) + 6).toNatClampNeg).toInt64 <<< ((32 : Int32).toInt64 &&& 63)) ||| ((xs ((nI i) + 7).toNatClampNeg).toInt64 &&& 4294967295))).2.2.1) qs kA oA kB oB tt ss ((dk_field n rl st K (xs ((nI i) + 1).toNatClampNeg) (((xs ((nI i) + 2).toNatClampNeg).toInt64 <<< ((32 : Int32).toInt64 &&& 63)) ||| ((xs ((nI i) + 3).toNatClampNeg).toInt64 &&& 4294967295)) (((xs ((nI i) + 4).toNatClampNeg).toInt64 <<< ((32 : Int32).toInt64 &&& 63)) ||| ((xs ((nI i) + 5).toNatClampNeg).toInt64 &&& 4294967295)) (((xs ((nI i) + 6).toNatClampNeg).toInt64 <<< ((32 : Int32).toInt64 &&& 63)) ||| ((xs ((nI i) + 7).toNatClampNeg).toInt64 &&& 4294967295))).2.2.2) ((dk_field n rl st K (xs ((nI i) + 1).toNatClampNeg) (((xs ((nI i) + 2).toNatClampNeg).toInt64 <<< ((32 : Int32).toInt64 &&& 63)) ||| ((xs ((nI i) + 3).toNatClampNeg).toInt64 &&& 4294967295)) (((xs ((nI i) + 4).toNatClampNeg).toInt64 <<< ((32 : Int32).toInt64 &&& 63)) ||| ((xs ((nI i) + 5).toNatClampNeg).toInt64 &&& 4294967295)) (((xs ((nI i) + 6).toNatClampNeg).toInt64 <<< ((32 : Int32).toInt64 &&& 63)) ||| ((xs ((nI i) + 7).toNatClampNeg).toInt64 &&& 4294967295))).2.1)) H := hPx
  have hPm : va_P (dC, dI) vwCl (mdW cI cJ cZ q aS aC aW aL aN aI aB aD aU aF n gv sz cd sp se ct aw le ne ins ba dd cr tt ss un fr rl qs) H := hPm
  have hD : va_D (lw_A s) ((dkW cK cB cI o ks fa oa fb ob dr ds L n sp fa fb cr ((dk_field n rl st K (xs ((nI i) + 1).toNatClampNeg) (((xs ((nI i) + 2).toNatClampNeg).toInt64 <<< ((32 : Int32).toInt64 &&& 63)) ||| ((xs ((nI i) + 3).toNatClampNeg).toInt64 &&& 4294967295)) (((xs ((nI i) + 4).toNatClampNeg).toInt64 <<< ((32 : Int32).toInt64 &&& 63)) ||| ((xs ((nI i) + 5).toNatClampNeg).toInt64 &&& 4294967295)) (((xs ((nI i) + 6).toNatClampNeg).toInt64 <<< ((32 : Int32).toInt64 &&& 63)) ||| ((xs ((nI i) + 7).toNatClampNeg).toInt64 &&& 4294967295))).2.2.1) qs kA oA kB oB tt ss ((dk_field n rl st K (xs ((nI i) + 1).toNatClampNeg) (((xs ((nI i) + 2).toNatClampNeg).toInt64 <<< ((32 : Int32).toInt64 &&& 63)) ||| ((xs ((nI i) + 3).toNatClampNeg).toInt64 &&& 4294967295)) (((xs ((nI i) + 4).toNatClampNeg).toInt64 <<< ((32 : Int32).toInt64 &&& 63)) ||| ((xs ((nI i) + 5).toNatClampNeg).toInt64 &&& 4294967295)) (((xs ((nI i) + 6).toNatClampNeg).toInt64 <<< ((32 : Int32).toInt64 &&& 63)) ||| ((xs ((nI i) + 7).toNatClampNeg).toInt64 &&& 4294967295))).2.2.2) ((dk_field n rl st K (xs ((nI i) + 1).toNatClampNeg) (((xs ((nI i) + 2).toNatClampNeg).toInt64 <<< ((32 : Int32).toInt64 &&& 63)) ||| ((xs ((nI i) + 3).toNatClampNeg).toInt64 &&& 4294967295)) (((xs ((nI i) + 4).toNatClampNeg).toInt64 <<< ((32 : Int32).toInt64 &&& 63)) ||| ((xs ((nI i) + 5).toNatClampNeg).toInt64 &&& 4294967295)) (((xs ((nI i) + 6).toNatClampNeg).toInt64 <<< ((32 : Int32).toInt64 &&& 63)) ||| ((xs ((nI i) + 7).toNatClampNeg).toInt64 &&& 4294967295))).2.1)) ++ ((mdW cI cJ cZ q aS aC aW aL aN aI aB aD aU aF n gv sz cd sp se ct aw le ne ins ba dd cr tt ss un fr rl qs) ++ [(ou, .inl (cJ, 1, .inr (.inl ov)))])) := hD
  refine lv_aload_n hx hb dL_law_475 rfl (lv_at hl 3 rfl) ?_
  refine lv_aload_n hx hb dL_law_476 rfl (lv_at hl 1 rfl) ?_
  refine lv_iload hx hb dL_law_477 (lv_at hl 0 rfl) ?_
  refine lv_iconst (v := 1) hx hb dL_law_479 (by decide) ?_
  refine lv_iadd hx hb dL_law_480 ?_
  refine va_sld hx hb hX hbl hbA hS (lw_ix 1 (by decide) hi8 hL) dL_law_481 ?_
  refine lv_aload_n hx hb dL_law_482 rfl (lv_at hl 1 rfl) ?_
  refine lv_iload hx hb dL_law_483 (lv_at hl 0 rfl) ?_
  refine lv_iconst (v := 2) hx hb dL_law_485 (by decide) ?_
  refine lv_iadd hx hb dL_law_486 ?_
  refine va_sld hx hb hX hbl hbA hS (lw_ix 2 (by decide) hi8 hL) dL_law_487 ?_
  refine lv_i2l (v := (xs ((nI i) + 2).toNatClampNeg).toInt64) hx hb dL_law_488 rfl ?_
  refine lv_bipush (v := 32) hx hb dL_law_489 (by decide) ?_
  refine lv_lshl (v := (xs ((nI i) + 2).toNatClampNeg).toInt64 <<< ((32 : Int32).toInt64 &&& 63)) hx hb dL_law_491 rfl ?_
  refine lv_aload_n hx hb dL_law_492 rfl (lv_at hl 1 rfl) ?_
  refine lv_iload hx hb dL_law_493 (lv_at hl 0 rfl) ?_
  refine lv_iconst (v := 3) hx hb dL_law_495 (by decide) ?_
  refine lv_iadd hx hb dL_law_496 ?_
  refine va_sld hx hb hX hbl hbA hS (lw_ix 3 (by decide) hi8 hL) dL_law_497 ?_
  refine lv_i2l (v := (xs ((nI i) + 3).toNatClampNeg).toInt64) hx hb dL_law_498 rfl ?_
  refine lv_ldc2 (v := 4294967295) hx hb hown (hts (.constantLong RL 27 4294967295) (by decide +kernel)) dL_law_499 ?_
  refine lv_land hx hb dL_law_502 ?_
  refine lv_lor hx hb dL_law_503 ?_
  refine lv_aload_n hx hb dL_law_504 rfl (lv_at hl 1 rfl) ?_
  refine lv_iload hx hb dL_law_505 (lv_at hl 0 rfl) ?_
  refine lv_iconst (v := 4) hx hb dL_law_507 (by decide) ?_
  refine lv_iadd hx hb dL_law_508 ?_
  refine va_sld hx hb hX hbl hbA hS (lw_ix 4 (by decide) hi8 hL) dL_law_509 ?_
  refine lv_i2l (v := (xs ((nI i) + 4).toNatClampNeg).toInt64) hx hb dL_law_510 rfl ?_
  refine lv_bipush (v := 32) hx hb dL_law_511 (by decide) ?_
  refine lv_lshl (v := (xs ((nI i) + 4).toNatClampNeg).toInt64 <<< ((32 : Int32).toInt64 &&& 63)) hx hb dL_law_513 rfl ?_
  refine lv_aload_n hx hb dL_law_514 rfl (lv_at hl 1 rfl) ?_
  refine lv_iload hx hb dL_law_515 (lv_at hl 0 rfl) ?_
  refine lv_iconst (v := 5) hx hb dL_law_517 (by decide) ?_
  refine lv_iadd hx hb dL_law_518 ?_
  refine va_sld hx hb hX hbl hbA hS (lw_ix 5 (by decide) hi8 hL) dL_law_519 ?_
  refine lv_i2l (v := (xs ((nI i) + 5).toNatClampNeg).toInt64) hx hb dL_law_520 rfl ?_
  refine lv_ldc2 (v := 4294967295) hx hb hown (hts (.constantLong RL 27 4294967295) (by decide +kernel)) dL_law_521 ?_
  refine lv_land hx hb dL_law_524 ?_
  refine lv_lor hx hb dL_law_525 ?_
  refine lv_aload_n hx hb dL_law_526 rfl (lv_at hl 1 rfl) ?_
  refine lv_iload hx hb dL_law_527 (lv_at hl 0 rfl) ?_
  refine lv_bipush (v := 6) hx hb dL_law_529 (by decide) ?_
  refine lv_iadd hx hb dL_law_531 ?_
  refine va_sld hx hb hX hbl hbA hS (lw_ix 6 (by decide) hi8 hL) dL_law_532 ?_
  refine lv_i2l (v := (xs ((nI i) + 6).toNatClampNeg).toInt64) hx hb dL_law_533 rfl ?_
  refine lv_bipush (v := 32) hx hb dL_law_534 (by decide) ?_
  refine lv_lshl (v := (xs ((nI i) + 6).toNatClampNeg).toInt64 <<< ((32 : Int32).toInt64 &&& 63)) hx hb dL_law_536 rfl ?_
  refine lv_aload_n hx hb dL_law_537 rfl (lv_at hl 1 rfl) ?_
  refine lv_iload hx hb dL_law_538 (lv_at hl 0 rfl) ?_
  refine lv_bipush (v := 7) hx hb dL_law_540 (by decide) ?_
  refine lv_iadd hx hb dL_law_542 ?_
  refine va_sld hx hb hX hbl hbA hS (lw_ix 7 (by decide) hi8 hL) dL_law_543 ?_
  refine lv_i2l (v := (xs ((nI i) + 7).toNatClampNeg).toInt64) hx hb dL_law_544 rfl ?_
  refine lv_ldc2 (v := 4294967295) hx hb hown (hts (.constantLong RL 27 4294967295) (by decide +kernel)) dL_law_545 ?_
  refine lv_land hx hb dL_law_548 ?_
  refine lv_lor hx hb dL_law_549 ?_
  refine lw_call1 (W.runV (As := [.int (xs ((nI i) + 1).toNatClampNeg), .long (((xs ((nI i) + 2).toNatClampNeg).toInt64 <<< ((32 : Int32).toInt64 &&& 63)) ||| ((xs ((nI i) + 3).toNatClampNeg).toInt64 &&& 4294967295)), .long (((xs ((nI i) + 4).toNatClampNeg).toInt64 <<< ((32 : Int32).toInt64 &&& 63)) ||| ((xs ((nI i) + 5).toNatClampNeg).toInt64 &&& 4294967295)), .long (((xs ((nI i) + 6).toNatClampNeg).toInt64 <<< ((32 : Int32).toInt64 &&& 63)) ||| ((xs ((nI i) + 7).toNatClampNeg).toInt64 &&& 4294967295))]) (rest := [.int ((dk_field n rl st K (xs ((nI i) + 1).toNatClampNeg) (((xs ((nI i) + 2).toNatClampNeg).toInt64 <<< ((32 : Int32).toInt64 &&& 63)) ||| ((xs ((nI i) + 3).toNatClampNeg).toInt64 &&& 4294967295)) (((xs ((nI i) + 4).toNatClampNeg).toInt64 <<< ((32 : Int32).toInt64 &&& 63)) ||| ((xs ((nI i) + 5).toNatClampNeg).toInt64 &&& 4294967295)) (((xs ((nI i) + 6).toNatClampNeg).toInt64 <<< ((32 : Int32).toInt64 &&& 63)) ||| ((xs ((nI i) + 7).toNatClampNeg).toInt64 &&& 4294967295))).1)]) ⟨hx, hb, hml, hown, hts⟩ (c_X4_field l dC dI cI cJ cZ q aS aC aW aL aN aI aB aD aU aF n gv sz cd sp se ct aw le ne ins ba dd cr tt ss un fr rl qs (xs ((nI i) + 1).toNatClampNeg) (((xs ((nI i) + 2).toNatClampNeg).toInt64 <<< ((32 : Int32).toInt64 &&& 63)) ||| ((xs ((nI i) + 3).toNatClampNeg).toInt64 &&& 4294967295)) (((xs ((nI i) + 4).toNatClampNeg).toInt64 <<< ((32 : Int32).toInt64 &&& 63)) ||| ((xs ((nI i) + 5).toNatClampNeg).toInt64 &&& 4294967295)) (((xs ((nI i) + 6).toNatClampNeg).toInt64 <<< ((32 : Int32).toInt64 &&& 63)) ||| ((xs ((nI i) + 7).toNatClampNeg).toInt64 &&& 4294967295)) hR.1) (cwV 4 hts gL_law_X4_field rfl rfl rfl (by decide +kernel) ⟨Nat.le_of_ble_eq_true rfl, Nat.le_of_ble_eq_true rfl⟩) (up_preV (q0 := 0) (ci := 5) hPm hKm (up_leftD (up_3 hD)) rfl rfl) rfl rfl hl.1 rfl (lv_room (Nat.le_of_ble_eq_true rfl)) dL_law_550 ⟨by show cells + 0 ≤ 670060; omega, by show slots + 0 ≤ 7085891; omega⟩) hPx hPo (up_3 hD) hS ((md_fst ..).trans (md_fst ..).symm) (fun H locs hPm hPx hPo hD hS => ?_)
  have hD := up_3 hD
  have hPx : va_P (dC, dI) vwCl (dkW cK cB cI o ks fa oa fb ob dr ds L n sp fa fb cr ((dk_field n rl st K (xs ((nI i) + 1).toNatClampNeg) (((xs ((nI i) + 2).toNatClampNeg).toInt64 <<< ((32 : Int32).toInt64 &&& 63)) ||| ((xs ((nI i) + 3).toNatClampNeg).toInt64 &&& 4294967295)) (((xs ((nI i) + 4).toNatClampNeg).toInt64 <<< ((32 : Int32).toInt64 &&& 63)) ||| ((xs ((nI i) + 5).toNatClampNeg).toInt64 &&& 4294967295)) (((xs ((nI i) + 6).toNatClampNeg).toInt64 <<< ((32 : Int32).toInt64 &&& 63)) ||| ((xs ((nI i) + 7).toNatClampNeg).toInt64 &&& 4294967295))).2.2.1) qs kA oA kB oB tt ss ((dk_field n rl st K (xs ((nI i) + 1).toNatClampNeg) (((xs ((nI i) + 2).toNatClampNeg).toInt64 <<< ((32 : Int32).toInt64 &&& 63)) ||| ((xs ((nI i) + 3).toNatClampNeg).toInt64 &&& 4294967295)) (((xs ((nI i) + 4).toNatClampNeg).toInt64 <<< ((32 : Int32).toInt64 &&& 63)) ||| ((xs ((nI i) + 5).toNatClampNeg).toInt64 &&& 4294967295)) (((xs ((nI i) + 6).toNatClampNeg).toInt64 <<< ((32 : Int32).toInt64 &&& 63)) ||| ((xs ((nI i) + 7).toNatClampNeg).toInt64 &&& 4294967295))).2.2.2) ((dk_field n rl st K (xs ((nI i) + 1).toNatClampNeg) (((xs ((nI i) + 2).toNatClampNeg).toInt64 <<< ((32 : Int32).toInt64 &&& 63)) ||| ((xs ((nI i) + 3).toNatClampNeg).toInt64 &&& 4294967295)) (((xs ((nI i) + 4).toNatClampNeg).toInt64 <<< ((32 : Int32).toInt64 &&& 63)) ||| ((xs ((nI i) + 5).toNatClampNeg).toInt64 &&& 4294967295)) (((xs ((nI i) + 6).toNatClampNeg).toInt64 <<< ((32 : Int32).toInt64 &&& 63)) ||| ((xs ((nI i) + 7).toNatClampNeg).toInt64 &&& 4294967295))).2.1)) H := hPx
  have hPm : va_P (dC, dI) vwCl (mdW cI cJ cZ q aS aC aW aL aN aI aB aD aU aF n gv sz 0 sp se ct aw le ((md_field n le ne ins dd tt ss rl (xs ((nI i) + 1).toNatClampNeg) (((xs ((nI i) + 2).toNatClampNeg).toInt64 <<< ((32 : Int32).toInt64 &&& 63)) ||| ((xs ((nI i) + 3).toNatClampNeg).toInt64 &&& 4294967295)) (((xs ((nI i) + 4).toNatClampNeg).toInt64 <<< ((32 : Int32).toInt64 &&& 63)) ||| ((xs ((nI i) + 5).toNatClampNeg).toInt64 &&& 4294967295)) (((xs ((nI i) + 6).toNatClampNeg).toInt64 <<< ((32 : Int32).toInt64 &&& 63)) ||| ((xs ((nI i) + 7).toNatClampNeg).toInt64 &&& 4294967295))).2.2.1) ((md_field n le ne ins dd tt ss rl (xs ((nI i) + 1).toNatClampNeg) (((xs ((nI i) + 2).toNatClampNeg).toInt64 <<< ((32 : Int32).toInt64 &&& 63)) ||| ((xs ((nI i) + 3).toNatClampNeg).toInt64 &&& 4294967295)) (((xs ((nI i) + 4).toNatClampNeg).toInt64 <<< ((32 : Int32).toInt64 &&& 63)) ||| ((xs ((nI i) + 5).toNatClampNeg).toInt64 &&& 4294967295)) (((xs ((nI i) + 6).toNatClampNeg).toInt64 <<< ((32 : Int32).toInt64 &&& 63)) ||| ((xs ((nI i) + 7).toNatClampNeg).toInt64 &&& 4294967295))).2.2.2.1) ba ((md_field n le ne ins dd tt ss rl (xs ((nI i) + 1).toNatClampNeg) (((xs ((nI i) + 2).toNatClampNeg).toInt64 <<< ((32 : Int32).toInt64 &&& 63)) ||| ((xs ((nI i) + 3).toNatClampNeg).toInt64 &&& 4294967295)) (((xs ((nI i) + 4).toNatClampNeg).toInt64 <<< ((32 : Int32).toInt64 &&& 63)) ||| ((xs ((nI i) + 5).toNatClampNeg).toInt64 &&& 4294967295)) (((xs ((nI i) + 6).toNatClampNeg).toInt64 <<< ((32 : Int32).toInt64 &&& 63)) ||| ((xs ((nI i) + 7).toNatClampNeg).toInt64 &&& 4294967295))).2.2.2.2.1) cr tt ((md_field n le ne ins dd tt ss rl (xs ((nI i) + 1).toNatClampNeg) (((xs ((nI i) + 2).toNatClampNeg).toInt64 <<< ((32 : Int32).toInt64 &&& 63)) ||| ((xs ((nI i) + 3).toNatClampNeg).toInt64 &&& 4294967295)) (((xs ((nI i) + 4).toNatClampNeg).toInt64 <<< ((32 : Int32).toInt64 &&& 63)) ||| ((xs ((nI i) + 5).toNatClampNeg).toInt64 &&& 4294967295)) (((xs ((nI i) + 6).toNatClampNeg).toInt64 <<< ((32 : Int32).toInt64 &&& 63)) ||| ((xs ((nI i) + 7).toNatClampNeg).toInt64 &&& 4294967295))).2.2.2.2.2) un fr ((md_field n le ne ins dd tt ss rl (xs ((nI i) + 1).toNatClampNeg) (((xs ((nI i) + 2).toNatClampNeg).toInt64 <<< ((32 : Int32).toInt64 &&& 63)) ||| ((xs ((nI i) + 3).toNatClampNeg).toInt64 &&& 4294967295)) (((xs ((nI i) + 4).toNatClampNeg).toInt64 <<< ((32 : Int32).toInt64 &&& 63)) ||| ((xs ((nI i) + 5).toNatClampNeg).toInt64 &&& 4294967295)) (((xs ((nI i) + 6).toNatClampNeg).toInt64 <<< ((32 : Int32).toInt64 &&& 63)) ||| ((xs ((nI i) + 7).toNatClampNeg).toInt64 &&& 4294967295))).2.1) qs) H := hPm
  have hD : va_D (lw_A s) ((dkW cK cB cI o ks fa oa fb ob dr ds L n sp fa fb cr ((dk_field n rl st K (xs ((nI i) + 1).toNatClampNeg) (((xs ((nI i) + 2).toNatClampNeg).toInt64 <<< ((32 : Int32).toInt64 &&& 63)) ||| ((xs ((nI i) + 3).toNatClampNeg).toInt64 &&& 4294967295)) (((xs ((nI i) + 4).toNatClampNeg).toInt64 <<< ((32 : Int32).toInt64 &&& 63)) ||| ((xs ((nI i) + 5).toNatClampNeg).toInt64 &&& 4294967295)) (((xs ((nI i) + 6).toNatClampNeg).toInt64 <<< ((32 : Int32).toInt64 &&& 63)) ||| ((xs ((nI i) + 7).toNatClampNeg).toInt64 &&& 4294967295))).2.2.1) qs kA oA kB oB tt ss ((dk_field n rl st K (xs ((nI i) + 1).toNatClampNeg) (((xs ((nI i) + 2).toNatClampNeg).toInt64 <<< ((32 : Int32).toInt64 &&& 63)) ||| ((xs ((nI i) + 3).toNatClampNeg).toInt64 &&& 4294967295)) (((xs ((nI i) + 4).toNatClampNeg).toInt64 <<< ((32 : Int32).toInt64 &&& 63)) ||| ((xs ((nI i) + 5).toNatClampNeg).toInt64 &&& 4294967295)) (((xs ((nI i) + 6).toNatClampNeg).toInt64 <<< ((32 : Int32).toInt64 &&& 63)) ||| ((xs ((nI i) + 7).toNatClampNeg).toInt64 &&& 4294967295))).2.2.2) ((dk_field n rl st K (xs ((nI i) + 1).toNatClampNeg) (((xs ((nI i) + 2).toNatClampNeg).toInt64 <<< ((32 : Int32).toInt64 &&& 63)) ||| ((xs ((nI i) + 3).toNatClampNeg).toInt64 &&& 4294967295)) (((xs ((nI i) + 4).toNatClampNeg).toInt64 <<< ((32 : Int32).toInt64 &&& 63)) ||| ((xs ((nI i) + 5).toNatClampNeg).toInt64 &&& 4294967295)) (((xs ((nI i) + 6).toNatClampNeg).toInt64 <<< ((32 : Int32).toInt64 &&& 63)) ||| ((xs ((nI i) + 7).toNatClampNeg).toInt64 &&& 4294967295))).2.1)) ++ ((mdW cI cJ cZ q aS aC aW aL aN aI aB aD aU aF n gv sz 0 sp se ct aw le ((md_field n le ne ins dd tt ss rl (xs ((nI i) + 1).toNatClampNeg) (((xs ((nI i) + 2).toNatClampNeg).toInt64 <<< ((32 : Int32).toInt64 &&& 63)) ||| ((xs ((nI i) + 3).toNatClampNeg).toInt64 &&& 4294967295)) (((xs ((nI i) + 4).toNatClampNeg).toInt64 <<< ((32 : Int32).toInt64 &&& 63)) ||| ((xs ((nI i) + 5).toNatClampNeg).toInt64 &&& 4294967295)) (((xs ((nI i) + 6).toNatClampNeg).toInt64 <<< ((32 : Int32).toInt64 &&& 63)) ||| ((xs ((nI i) + 7).toNatClampNeg).toInt64 &&& 4294967295))).2.2.1) ((md_field n le ne ins dd tt ss rl (xs ((nI i) + 1).toNatClampNeg) (((xs ((nI i) + 2).toNatClampNeg).toInt64 <<< ((32 : Int32).toInt64 &&& 63)) ||| ((xs ((nI i) + 3).toNatClampNeg).toInt64 &&& 4294967295)) (((xs ((nI i) + 4).toNatClampNeg).toInt64 <<< ((32 : Int32).toInt64 &&& 63)) ||| ((xs ((nI i) + 5).toNatClampNeg).toInt64 &&& 4294967295)) (((xs ((nI i) + 6).toNatClampNeg).toInt64 <<< ((32 : Int32).toInt64 &&& 63)) ||| ((xs ((nI i) + 7).toNatClampNeg).toInt64 &&& 4294967295))).2.2.2.1) ba ((md_field n le ne ins dd tt ss rl (xs ((nI i) + 1).toNatClampNeg) (((xs ((nI i) + 2).toNatClampNeg).toInt64 <<< ((32 : Int32).toInt64 &&& 63)) ||| ((xs ((nI i) + 3).toNatClampNeg).toInt64 &&& 4294967295)) (((xs ((nI i) + 4).toNatClampNeg).toInt64 <<< ((32 : Int32).toInt64 &&& 63)) ||| ((xs ((nI i) + 5).toNatClampNeg).toInt64 &&& 4294967295)) (((xs ((nI i) + 6).toNatClampNeg).toInt64 <<< ((32 : Int32).toInt64 &&& 63)) ||| ((xs ((nI i) + 7).toNatClampNeg).toInt64 &&& 4294967295))).2.2.2.2.1) cr tt ((md_field n le ne ins dd tt ss rl (xs ((nI i) + 1).toNatClampNeg) (((xs ((nI i) + 2).toNatClampNeg).toInt64 <<< ((32 : Int32).toInt64 &&& 63)) ||| ((xs ((nI i) + 3).toNatClampNeg).toInt64 &&& 4294967295)) (((xs ((nI i) + 4).toNatClampNeg).toInt64 <<< ((32 : Int32).toInt64 &&& 63)) ||| ((xs ((nI i) + 5).toNatClampNeg).toInt64 &&& 4294967295)) (((xs ((nI i) + 6).toNatClampNeg).toInt64 <<< ((32 : Int32).toInt64 &&& 63)) ||| ((xs ((nI i) + 7).toNatClampNeg).toInt64 &&& 4294967295))).2.2.2.2.2) un fr ((md_field n le ne ins dd tt ss rl (xs ((nI i) + 1).toNatClampNeg) (((xs ((nI i) + 2).toNatClampNeg).toInt64 <<< ((32 : Int32).toInt64 &&& 63)) ||| ((xs ((nI i) + 3).toNatClampNeg).toInt64 &&& 4294967295)) (((xs ((nI i) + 4).toNatClampNeg).toInt64 <<< ((32 : Int32).toInt64 &&& 63)) ||| ((xs ((nI i) + 5).toNatClampNeg).toInt64 &&& 4294967295)) (((xs ((nI i) + 6).toNatClampNeg).toInt64 <<< ((32 : Int32).toInt64 &&& 63)) ||| ((xs ((nI i) + 7).toNatClampNeg).toInt64 &&& 4294967295))).2.1) qs) ++ [(ou, .inl (cJ, 1, .inr (.inl ov)))])) := hD
  have pr := pr_field hR rl tt ss (xs ((nI i) + 1).toNatClampNeg) ((((xs ((nI i) + 2).toNatClampNeg)).toInt64 <<< ((32 : Int32).toInt64 &&& 63)) ||| (((xs ((nI i) + 3).toNatClampNeg)).toInt64 &&& 4294967295)) ((((xs ((nI i) + 4).toNatClampNeg)).toInt64 <<< ((32 : Int32).toInt64 &&& 63)) ||| (((xs ((nI i) + 5).toNatClampNeg)).toInt64 &&& 4294967295)) ((((xs ((nI i) + 6).toNatClampNeg)).toInt64 <<< ((32 : Int32).toInt64 &&& 63)) ||| (((xs ((nI i) + 7).toNatClampNeg)).toInt64 &&& 4294967295))
  refine lv_icmp_eq (tgt := 815) hx hb dL_law_553 (by decide) (fun c_553 => ?_) (fun c_553 => (c_553 pr.1).elim)
  rw [← pr.2.1] at hPm hD
  rw [← pr.2.2.1] at hPm hD
  have hR9 := pr.2.2.2
  refine W.widen (k := cells + 1) (n := slots + 7) (by omega) (by omega) ?_
  exact hcont _ _ ls ⟨_, _, _, _, _, _, _, _, _, _, _, _, _, _, _, _, _, _, _, _, _, _, _, _, _, _, _, _, _, _, _, _, _, _, _, _, _, _, _, _, _, _, _, _, _, hPx, hPm, hPo, hD, hR9⟩ hS (lv_sub hl [0, 1, 2, 3, 4] rfl)
