/-! The law's cases (laid by wip/law.py) -/
set_option maxHeartbeats 4000000 in
set_option maxRecDepth 100000 in
theorem lw_k_key {p : Program} {l : Launch} {e : Env} {s : State} {m : MethodId} {below : List Frame} {meth : Method} {c : Code} {dC : Nat → ClassId} {dI : Nat → Nat → Nat} {b Ln : Nat} {xs : Nat → Int32} {cK cB cI cJ cZ : ClassId} {tX tY o q ou N i : Nat} {H : Heap} {locs : List Loc} {cells slots : Nat} {Q : State → Prop} (hE : lw_E p l s m c dC dI b Ln xs cK cB cI cJ cZ tX tY) (hN6 : N ≤ 600) (hi8 : i + 8 ≤ Ln) (hI : lw_I dC dI (lw_A s) cK cB cI cJ cZ o q ou N H) (hS : va_S (lw_A s) s.heap H locs) (hc : cells + 1 ≤ 670060) (hsl : slots + 7 ≤ 7085891) {ls : Array Slot} (hl : lv_has ls 7 [(4, .int (nI i)), (0, .ref b), (1, .ref o), (2, .ref q), (3, .ref ou)])
    (hcont : ∀ (H1 : Heap) (locs1 : List Loc) (ls1 : Array Slot), lw_I dC dI (lw_A s) cK cB cI cJ cZ o q ou (N + 1) H1 → va_S (lw_A s) s.heap H1 locs1 → lv_has ls1 7 [(4, .int (nI i)), (0, .ref b), (1, .ref o), (2, .ref q), (3, .ref ou)] → W p l e room_1 s m #[Value.ref b] below meth c H1 locs1 (cells + 1) (slots + 7) Q (F0 m 815 ls1 [])) : W p l e room_1 s m #[Value.ref b] below meth c H locs cells slots Q (F0 m 116 ls []) := by
  obtain ⟨hx, hb, hml, hown, hts0, hX, hbl, hbA, hK, hN, hZ, hfl, hL⟩ := hE
  have hts := fun w h => hts0 w (wsL_law_in w h)
  obtain ⟨ks, fa, oa, fb, ob, dr, ds, L, n, sp, cr, rl, qs, kA, oA, kB, oB, tt, ss, st, K, aS, aC, aW, aL, aN, aI, aB, aD, aU, aF, gv, sz, cd, se, ct, aw, le, ne, ins, ba, dd, un, fr, ov, hPx, hPm, hPo, hD, hR⟩ := hI
  have hKx : va_K (dC, dI) vwCl (dkT cK cB cI) s := hK.sub [0, 1, 2] rfl
  have hKm : va_K (dC, dI) vwCl (mdT cI cJ cZ) s := hK.sub [2, 3, 4] rfl
  refine lv_aload_n hx hb dL_law_116 rfl (lv_at hl 2 rfl) ?_
  refine lv_aload_n hx hb dL_law_117 rfl (lv_at hl 1 rfl) ?_
  refine lv_iload hx hb dL_law_118 (lv_at hl 0 rfl) ?_
  refine lv_iconst (v := 1) hx hb dL_law_120 (by decide) ?_
  refine lv_iadd hx hb dL_law_121 ?_
  refine va_sld hx hb hX hbl hbA hS (lw_ix 1 (by decide) hi8 hL) dL_law_122 ?_
  refine lv_i2l (v := (xs ((nI i) + 1).toNatClampNeg).toInt64) hx hb dL_law_123 rfl ?_
  refine lv_bipush (v := 32) hx hb dL_law_124 (by decide) ?_
  refine lv_lshl (v := (xs ((nI i) + 1).toNatClampNeg).toInt64 <<< ((32 : Int32).toInt64 &&& 63)) hx hb dL_law_126 rfl ?_
  refine lv_aload_n hx hb dL_law_127 rfl (lv_at hl 1 rfl) ?_
  refine lv_iload hx hb dL_law_128 (lv_at hl 0 rfl) ?_
  refine lv_iconst (v := 2) hx hb dL_law_130 (by decide) ?_
  refine lv_iadd hx hb dL_law_131 ?_
  refine va_sld hx hb hX hbl hbA hS (lw_ix 2 (by decide) hi8 hL) dL_law_132 ?_
  refine lv_i2l (v := (xs ((nI i) + 2).toNatClampNeg).toInt64) hx hb dL_law_133 rfl ?_
  refine lv_ldc2 (v := 4294967295) hx hb hown (hts (.constantLong RL 27 4294967295) (by decide +kernel)) dL_law_134 ?_
  refine lv_land hx hb dL_law_137 ?_
  refine lv_lor hx hb dL_law_138 ?_
  refine lv_aload_n hx hb dL_law_139 rfl (lv_at hl 1 rfl) ?_
  refine lv_iload hx hb dL_law_140 (lv_at hl 0 rfl) ?_
  refine lv_iconst (v := 3) hx hb dL_law_142 (by decide) ?_
  refine lv_iadd hx hb dL_law_143 ?_
  refine va_sld hx hb hX hbl hbA hS (lw_ix 3 (by decide) hi8 hL) dL_law_144 ?_
  refine lv_i2l (v := (xs ((nI i) + 3).toNatClampNeg).toInt64) hx hb dL_law_145 rfl ?_
  refine lv_bipush (v := 32) hx hb dL_law_146 (by decide) ?_
  refine lv_lshl (v := (xs ((nI i) + 3).toNatClampNeg).toInt64 <<< ((32 : Int32).toInt64 &&& 63)) hx hb dL_law_148 rfl ?_
  refine lv_aload_n hx hb dL_law_149 rfl (lv_at hl 1 rfl) ?_
  refine lv_iload hx hb dL_law_150 (lv_at hl 0 rfl) ?_
  refine lv_iconst (v := 4) hx hb dL_law_152 (by decide) ?_
  refine lv_iadd hx hb dL_law_153 ?_
  refine va_sld hx hb hX hbl hbA hS (lw_ix 4 (by decide) hi8 hL) dL_law_154 ?_
  refine lv_i2l (v := (xs ((nI i) + 4).toNatClampNeg).toInt64) hx hb dL_law_155 rfl ?_
  refine lv_ldc2 (v := 4294967295) hx hb hown (hts (.constantLong RL 27 4294967295) (by decide +kernel)) dL_law_156 ?_
  refine lv_land hx hb dL_law_159 ?_
  refine lv_lor hx hb dL_law_160 ?_
  by_cases hok : dk_keyOK n K (((xs ((nI i) + 1).toNatClampNeg).toInt64 <<< ((32 : Int32).toInt64 &&& 63)) ||| ((xs ((nI i) + 2).toNatClampNeg).toInt64 &&& 4294967295)) (((xs ((nI i) + 3).toNatClampNeg).toInt64 <<< ((32 : Int32).toInt64 &&& 63)) ||| ((xs ((nI i) + 4).toNatClampNeg).toInt64 &&& 4294967295))
  · have hFc : ∀ z, va_A (dkW cK cB cI o ks fa oa fb ob dr ds L n sp fa fb cr rl qs kA oA kB oB tt ss st K) H.size z → lw_A s z := lw_free hD hS
    refine va_calli (va_runV (As := [.long (((xs ((nI i) + 1).toNatClampNeg).toInt64 <<< ((32 : Int32).toInt64 &&& 63)) ||| ((xs ((nI i) + 2).toNatClampNeg).toInt64 &&& 4294967295)), .long (((xs ((nI i) + 3).toNatClampNeg).toInt64 <<< ((32 : Int32).toInt64 &&& 63)) ||| ((xs ((nI i) + 4).toNatClampNeg).toInt64 &&& 4294967295))]) (rest := []) ⟨hx, hb, hml, hown, hts⟩ (c_X3_keyY l dC dI cK cB cI o ks fa oa fb ob dr ds L n sp fa fb cr rl qs kA oA kB oB tt ss st K H.size (((xs ((nI i) + 1).toNatClampNeg).toInt64 <<< ((32 : Int32).toInt64 &&& 63)) ||| ((xs ((nI i) + 2).toNatClampNeg).toInt64 &&& 4294967295)) (((xs ((nI i) + 3).toNatClampNeg).toInt64 <<< ((32 : Int32).toInt64 &&& 63)) ||| ((xs ((nI i) + 4).toNatClampNeg).toInt64 &&& 4294967295)) hR.1 hok) (cwV 2 hts gL_law_X3_key rfl rfl rfl (by decide +kernel) ⟨Nat.le_of_ble_eq_true rfl, Nat.le_of_ble_eq_true rfl⟩) ⟨fun a U g mk q => by obtain ⟨q0, q1, qP, qK, qD⟩ := q; exact ⟨q0, q1, qP, va_K.moved (u := U) (U := U.calling g mk a) (Vm.Alike.refl U.vm) qK, qD⟩, va_recv hKx hPx (ci := 4) (q0 := 0) rfl rfl, fun U hU hW => ⟨rfl, by rw [hU], by rw [hU]; exact hPx, va_K.moved hW.alike hKx, (up_leftD hD).weaken (fun _ _ _ _ => trivial)⟩⟩ rfl rfl hl.1 rfl (lv_room (Nat.le_of_ble_eq_true rfl)) dL_law_161 ⟨by show cells + 1 ≤ 670060; omega, by show slots + 7 ≤ 7085891; omega⟩) hS (fun z _ h => hFc z h) hFc (fun rk qn t H1 locs ht hvm hw hB hz1 hk1 hS => ?_)
    obtain ⟨hPx1, hDx1⟩ := hB
    rw [ht] at hPx1
    obtain ⟨hPr, hD⟩ := lw_joinN hPm hPo hD hk1 hFc hDx1
    have hPx := hPx1
    have hPm := up_left hPr
    have hPo := up_right hPr
    generalize H1 = H at hPx hPm hPo hS ⊢
    subst hw
    have hPx : va_P (dC, dI) vwCl (dkW cK cB cI o ks fa oa fb ob dr ds (va_up L n qn) (n + 1) sp fa fb cr rl qs kA oA kB oB tt ss st (va_up K n ((((xs ((nI i) + 1).toNatClampNeg).toInt64 <<< ((32 : Int32).toInt64 &&& 63)) ||| ((xs ((nI i) + 2).toNatClampNeg).toInt64 &&& 4294967295)), ((((xs ((nI i) + 3).toNatClampNeg).toInt64 <<< ((32 : Int32).toInt64 &&& 63)) ||| ((xs ((nI i) + 4).toNatClampNeg).toInt64 &&& 4294967295))).toInt32, -1, dk_l2 n, 0, 0, 0))) H := hPx
    have hPm : va_P (dC, dI) vwCl (mdW cI cJ cZ q aS aC aW aL aN aI aB aD aU aF n gv sz cd sp se ct aw le ne ins ba dd cr tt ss un fr rl qs) H := hPm
    have hD : va_D (lw_A s) ((dkW cK cB cI o ks fa oa fb ob dr ds (va_up L n qn) (n + 1) sp fa fb cr rl qs kA oA kB oB tt ss st (va_up K n ((((xs ((nI i) + 1).toNatClampNeg).toInt64 <<< ((32 : Int32).toInt64 &&& 63)) ||| ((xs ((nI i) + 2).toNatClampNeg).toInt64 &&& 4294967295)), ((((xs ((nI i) + 3).toNatClampNeg).toInt64 <<< ((32 : Int32).toInt64 &&& 63)) ||| ((xs ((nI i) + 4).toNatClampNeg).toInt64 &&& 4294967295))).toInt32, -1, dk_l2 n, 0, 0, 0))) ++ ((mdW cI cJ cZ q aS aC aW aL aN aI aB aD aU aF n gv sz cd sp se ct aw le ne ins ba dd cr tt ss un fr rl qs) ++ [(ou, .inl (cJ, 1, .inr (.inl ov)))])) := hD
    refine lv_aload_n hx hb dL_law_164 rfl (lv_at hl 3 rfl) ?_
    refine lv_aload_n hx hb dL_law_165 rfl (lv_at hl 1 rfl) ?_
    refine lv_iload hx hb dL_law_166 (lv_at hl 0 rfl) ?_
    refine lv_iconst (v := 1) hx hb dL_law_168 (by decide) ?_
    refine lv_iadd hx hb dL_law_169 ?_
    refine va_sld hx hb hX hbl hbA hS (lw_ix 1 (by decide) hi8 hL) dL_law_170 ?_
    refine lv_i2l (v := (xs ((nI i) + 1).toNatClampNeg).toInt64) hx hb dL_law_171 rfl ?_
    refine lv_bipush (v := 32) hx hb dL_law_172 (by decide) ?_
    refine lv_lshl (v := (xs ((nI i) + 1).toNatClampNeg).toInt64 <<< ((32 : Int32).toInt64 &&& 63)) hx hb dL_law_174 rfl ?_
    refine lv_aload_n hx hb dL_law_175 rfl (lv_at hl 1 rfl) ?_
    refine lv_iload hx hb dL_law_176 (lv_at hl 0 rfl) ?_
    refine lv_iconst (v := 2) hx hb dL_law_178 (by decide) ?_
    refine lv_iadd hx hb dL_law_179 ?_
    refine va_sld hx hb hX hbl hbA hS (lw_ix 2 (by decide) hi8 hL) dL_law_180 ?_
    refine lv_i2l (v := (xs ((nI i) + 2).toNatClampNeg).toInt64) hx hb dL_law_181 rfl ?_
    refine lv_ldc2 (v := 4294967295) hx hb hown (hts (.constantLong RL 27 4294967295) (by decide +kernel)) dL_law_182 ?_
    refine lv_land hx hb dL_law_185 ?_
    refine lv_lor hx hb dL_law_186 ?_
    refine lv_aload_n hx hb dL_law_187 rfl (lv_at hl 1 rfl) ?_
    refine lv_iload hx hb dL_law_188 (lv_at hl 0 rfl) ?_
    refine lv_iconst (v := 3) hx hb dL_law_190 (by decide) ?_
    refine lv_iadd hx hb dL_law_191 ?_
    refine va_sld hx hb hX hbl hbA hS (lw_ix 3 (by decide) hi8 hL) dL_law_192 ?_
    refine lv_i2l (v := (xs ((nI i) + 3).toNatClampNeg).toInt64) hx hb dL_law_193 rfl ?_
    refine lv_bipush (v := 32) hx hb dL_law_194 (by decide) ?_
    refine lv_lshl (v := (xs ((nI i) + 3).toNatClampNeg).toInt64 <<< ((32 : Int32).toInt64 &&& 63)) hx hb dL_law_196 rfl ?_
    refine lv_aload_n hx hb dL_law_197 rfl (lv_at hl 1 rfl) ?_
    refine lv_iload hx hb dL_law_198 (lv_at hl 0 rfl) ?_
    refine lv_iconst (v := 4) hx hb dL_law_200 (by decide) ?_
    refine lv_iadd hx hb dL_law_201 ?_
    refine va_sld hx hb hX hbl hbA hS (lw_ix 4 (by decide) hi8 hL) dL_law_202 ?_
    refine lv_i2l (v := (xs ((nI i) + 4).toNatClampNeg).toInt64) hx hb dL_law_203 rfl ?_
    refine lv_ldc2 (v := 4294967295) hx hb hown (hts (.constantLong RL 27 4294967295) (by decide +kernel)) dL_law_204 ?_
    refine lv_land hx hb dL_law_207 ?_
    refine lv_lor hx hb dL_law_208 ?_
    refine lw_call1 (W.runV (As := [.long (((xs ((nI i) + 1).toNatClampNeg).toInt64 <<< ((32 : Int32).toInt64 &&& 63)) ||| ((xs ((nI i) + 2).toNatClampNeg).toInt64 &&& 4294967295)), .long (((xs ((nI i) + 3).toNatClampNeg).toInt64 <<< ((32 : Int32).toInt64 &&& 63)) ||| ((xs ((nI i) + 4).toNatClampNeg).toInt64 &&& 4294967295))]) (rest := [.int (nI (n + 1))]) ⟨hx, hb, hml, hown, hts⟩ (c_X4_key l dC dI cI cJ cZ q aS aC aW aL aN aI aB aD aU aF n gv sz cd sp se ct aw le ne ins ba dd cr tt ss un fr rl qs (((xs ((nI i) + 1).toNatClampNeg).toInt64 <<< ((32 : Int32).toInt64 &&& 63)) ||| ((xs ((nI i) + 2).toNatClampNeg).toInt64 &&& 4294967295)) (((xs ((nI i) + 3).toNatClampNeg).toInt64 <<< ((32 : Int32).toInt64 &&& 63)) ||| ((xs ((nI i) + 4).toNatClampNeg).toInt64 &&& 4294967295)) hR.1) (cwV 2 hts gL_law_X4_key rfl rfl rfl (by decide +kernel) ⟨Nat.le_of_ble_eq_true rfl, Nat.le_of_ble_eq_true rfl⟩) (up_preV (q0 := 0) (ci := 5) hPm hKm (up_leftD (up_3 hD)) rfl rfl) rfl rfl hl.1 rfl (lv_room (Nat.le_of_ble_eq_true rfl)) dL_law_209 ⟨by show _ + 0 ≤ 670060; omega, by show _ + 0 ≤ 7085891; omega⟩) hPx hPo (up_3 hD) hS ((md_fst ..).trans (md_fst ..).symm) (fun H locs hPm hPx hPo hD hS => ?_)
    have hD := up_3 hD
    have hPx : va_P (dC, dI) vwCl (dkW cK cB cI o ks fa oa fb ob dr ds (va_up L n qn) (n + 1) sp fa fb cr rl qs kA oA kB oB tt ss st (va_up K n ((((xs ((nI i) + 1).toNatClampNeg).toInt64 <<< ((32 : Int32).toInt64 &&& 63)) ||| ((xs ((nI i) + 2).toNatClampNeg).toInt64 &&& 4294967295)), ((((xs ((nI i) + 3).toNatClampNeg).toInt64 <<< ((32 : Int32).toInt64 &&& 63)) ||| ((xs ((nI i) + 4).toNatClampNeg).toInt64 &&& 4294967295))).toInt32, -1, dk_l2 n, 0, 0, 0))) H := hPx
    have hPm : va_P (dC, dI) vwCl (mdW cI cJ cZ q aS aC aW aL aN aI aB aD aU aF ((md_key n se ct aw le (((xs ((nI i) + 1).toNatClampNeg).toInt64 <<< ((32 : Int32).toInt64 &&& 63)) ||| ((xs ((nI i) + 2).toNatClampNeg).toInt64 &&& 4294967295)) (((xs ((nI i) + 3).toNatClampNeg).toInt64 <<< ((32 : Int32).toInt64 &&& 63)) ||| ((xs ((nI i) + 4).toNatClampNeg).toInt64 &&& 4294967295))).2.1) gv sz 0 sp ((md_key n se ct aw le (((xs ((nI i) + 1).toNatClampNeg).toInt64 <<< ((32 : Int32).toInt64 &&& 63)) ||| ((xs ((nI i) + 2).toNatClampNeg).toInt64 &&& 4294967295)) (((xs ((nI i) + 3).toNatClampNeg).toInt64 <<< ((32 : Int32).toInt64 &&& 63)) ||| ((xs ((nI i) + 4).toNatClampNeg).toInt64 &&& 4294967295))).2.2.1) ((md_key n se ct aw le (((xs ((nI i) + 1).toNatClampNeg).toInt64 <<< ((32 : Int32).toInt64 &&& 63)) ||| ((xs ((nI i) + 2).toNatClampNeg).toInt64 &&& 4294967295)) (((xs ((nI i) + 3).toNatClampNeg).toInt64 <<< ((32 : Int32).toInt64 &&& 63)) ||| ((xs ((nI i) + 4).toNatClampNeg).toInt64 &&& 4294967295))).2.2.2.1) ((md_key n se ct aw le (((xs ((nI i) + 1).toNatClampNeg).toInt64 <<< ((32 : Int32).toInt64 &&& 63)) ||| ((xs ((nI i) + 2).toNatClampNeg).toInt64 &&& 4294967295)) (((xs ((nI i) + 3).toNatClampNeg).toInt64 <<< ((32 : Int32).toInt64 &&& 63)) ||| ((xs ((nI i) + 4).toNatClampNeg).toInt64 &&& 4294967295))).2.2.2.2.1) ((md_key n se ct aw le (((xs ((nI i) + 1).toNatClampNeg).toInt64 <<< ((32 : Int32).toInt64 &&& 63)) ||| ((xs ((nI i) + 2).toNatClampNeg).toInt64 &&& 4294967295)) (((xs ((nI i) + 3).toNatClampNeg).toInt64 <<< ((32 : Int32).toInt64 &&& 63)) ||| ((xs ((nI i) + 4).toNatClampNeg).toInt64 &&& 4294967295))).2.2.2.2.2) ne ins ba dd cr tt ss un fr rl qs) H := hPm
    have hD : va_D (lw_A s) ((dkW cK cB cI o ks fa oa fb ob dr ds (va_up L n qn) (n + 1) sp fa fb cr rl qs kA oA kB oB tt ss st (va_up K n ((((xs ((nI i) + 1).toNatClampNeg).toInt64 <<< ((32 : Int32).toInt64 &&& 63)) ||| ((xs ((nI i) + 2).toNatClampNeg).toInt64 &&& 4294967295)), ((((xs ((nI i) + 3).toNatClampNeg).toInt64 <<< ((32 : Int32).toInt64 &&& 63)) ||| ((xs ((nI i) + 4).toNatClampNeg).toInt64 &&& 4294967295))).toInt32, -1, dk_l2 n, 0, 0, 0))) ++ ((mdW cI cJ cZ q aS aC aW aL aN aI aB aD aU aF ((md_key n se ct aw le (((xs ((nI i) + 1).toNatClampNeg).toInt64 <<< ((32 : Int32).toInt64 &&& 63)) ||| ((xs ((nI i) + 2).toNatClampNeg).toInt64 &&& 4294967295)) (((xs ((nI i) + 3).toNatClampNeg).toInt64 <<< ((32 : Int32).toInt64 &&& 63)) ||| ((xs ((nI i) + 4).toNatClampNeg).toInt64 &&& 4294967295))).2.1) gv sz 0 sp ((md_key n se ct aw le (((xs ((nI i) + 1).toNatClampNeg).toInt64 <<< ((32 : Int32).toInt64 &&& 63)) ||| ((xs ((nI i) + 2).toNatClampNeg).toInt64 &&& 4294967295)) (((xs ((nI i) + 3).toNatClampNeg).toInt64 <<< ((32 : Int32).toInt64 &&& 63)) ||| ((xs ((nI i) + 4).toNatClampNeg).toInt64 &&& 4294967295))).2.2.1) ((md_key n se ct aw le (((xs ((nI i) + 1).toNatClampNeg).toInt64 <<< ((32 : Int32).toInt64 &&& 63)) ||| ((xs ((nI i) + 2).toNatClampNeg).toInt64 &&& 4294967295)) (((xs ((nI i) + 3).toNatClampNeg).toInt64 <<< ((32 : Int32).toInt64 &&& 63)) ||| ((xs ((nI i) + 4).toNatClampNeg).toInt64 &&& 4294967295))).2.2.2.1) ((md_key n se ct aw le (((xs ((nI i) + 1).toNatClampNeg).toInt64 <<< ((32 : Int32).toInt64 &&& 63)) ||| ((xs ((nI i) + 2).toNatClampNeg).toInt64 &&& 4294967295)) (((xs ((nI i) + 3).toNatClampNeg).toInt64 <<< ((32 : Int32).toInt64 &&& 63)) ||| ((xs ((nI i) + 4).toNatClampNeg).toInt64 &&& 4294967295))).2.2.2.2.1) ((md_key n se ct aw le (((xs ((nI i) + 1).toNatClampNeg).toInt64 <<< ((32 : Int32).toInt64 &&& 63)) ||| ((xs ((nI i) + 2).toNatClampNeg).toInt64 &&& 4294967295)) (((xs ((nI i) + 3).toNatClampNeg).toInt64 <<< ((32 : Int32).toInt64 &&& 63)) ||| ((xs ((nI i) + 4).toNatClampNeg).toInt64 &&& 4294967295))).2.2.2.2.2) ne ins ba dd cr tt ss un fr rl qs) ++ [(ou, .inl (cJ, 1, .inr (.inl ov)))])) := hD
    have pr := pr_keyY hR ((((xs ((nI i) + 1).toNatClampNeg)).toInt64 <<< ((32 : Int32).toInt64 &&& 63)) ||| (((xs ((nI i) + 2).toNatClampNeg)).toInt64 &&& 4294967295)) ((((xs ((nI i) + 3).toNatClampNeg)).toInt64 <<< ((32 : Int32).toInt64 &&& 63)) ||| (((xs ((nI i) + 4).toNatClampNeg)).toInt64 &&& 4294967295)) hok
    refine lv_icmp_eq (tgt := 815) hx hb dL_law_212 (by decide) (fun c_212 => ?_) (fun c_212 => (c_212 pr.1).elim)
    rw [← pr.2.1] at hPm hD
    have hR9 := pr.2.2
    refine W.widen (k := cells + 1) (n := slots + 7) (by omega) (by omega) ?_
    exact hcont _ _ ls ⟨_, _, _, _, _, _, _, _, _, _, _, _, _, _, _, _, _, _, _, _, _, _, _, _, _, _, _, _, _, _, _, _, _, _, _, _, _, _, _, _, _, _, _, _, _, hPx, hPm, hPo, hD, hR9⟩ hS (lv_sub hl [0, 1, 2, 3, 4] rfl)
  · refine up_read (W.runV (As := [.long (((xs ((nI i) + 1).toNatClampNeg).toInt64 <<< ((32 : Int32).toInt64 &&& 63)) ||| ((xs ((nI i) + 2).toNatClampNeg).toInt64 &&& 4294967295)), .long (((xs ((nI i) + 3).toNatClampNeg).toInt64 <<< ((32 : Int32).toInt64 &&& 63)) ||| ((xs ((nI i) + 4).toNatClampNeg).toInt64 &&& 4294967295))]) (rest := []) ⟨hx, hb, hml, hown, hts⟩ (c_X3_keyN l dC dI cK cB cI o ks fa oa fb ob dr ds L n sp fa fb cr rl qs kA oA kB oB tt ss st K (((xs ((nI i) + 1).toNatClampNeg).toInt64 <<< ((32 : Int32).toInt64 &&& 63)) ||| ((xs ((nI i) + 2).toNatClampNeg).toInt64 &&& 4294967295)) (((xs ((nI i) + 3).toNatClampNeg).toInt64 <<< ((32 : Int32).toInt64 &&& 63)) ||| ((xs ((nI i) + 4).toNatClampNeg).toInt64 &&& 4294967295)) hR.1 hok) (cwV 2 hts gL_law_X3_key rfl rfl rfl (by decide +kernel) ⟨Nat.le_of_ble_eq_true rfl, Nat.le_of_ble_eq_true rfl⟩) (up_preV (q0 := 0) (ci := 4) hPx hKx (up_leftD hD) rfl rfl) rfl rfl hl.1 rfl (lv_room (Nat.le_of_ble_eq_true rfl)) dL_law_161 ⟨by show _ + 0 ≤ 670060; omega, by show _ + 0 ≤ 7085891; omega⟩) ?_
    refine lv_aload_n hx hb dL_law_164 rfl (lv_at hl 3 rfl) ?_
    refine lv_aload_n hx hb dL_law_165 rfl (lv_at hl 1 rfl) ?_
    refine lv_iload hx hb dL_law_166 (lv_at hl 0 rfl) ?_
    refine lv_iconst (v := 1) hx hb dL_law_168 (by decide) ?_
    refine lv_iadd hx hb dL_law_169 ?_
    refine va_sld hx hb hX hbl hbA hS (lw_ix 1 (by decide) hi8 hL) dL_law_170 ?_
    refine lv_i2l (v := (xs ((nI i) + 1).toNatClampNeg).toInt64) hx hb dL_law_171 rfl ?_
    refine lv_bipush (v := 32) hx hb dL_law_172 (by decide) ?_
    refine lv_lshl (v := (xs ((nI i) + 1).toNatClampNeg).toInt64 <<< ((32 : Int32).toInt64 &&& 63)) hx hb dL_law_174 rfl ?_
    refine lv_aload_n hx hb dL_law_175 rfl (lv_at hl 1 rfl) ?_
    refine lv_iload hx hb dL_law_176 (lv_at hl 0 rfl) ?_
    refine lv_iconst (v := 2) hx hb dL_law_178 (by decide) ?_
    refine lv_iadd hx hb dL_law_179 ?_
    refine va_sld hx hb hX hbl hbA hS (lw_ix 2 (by decide) hi8 hL) dL_law_180 ?_
    refine lv_i2l (v := (xs ((nI i) + 2).toNatClampNeg).toInt64) hx hb dL_law_181 rfl ?_
    refine lv_ldc2 (v := 4294967295) hx hb hown (hts (.constantLong RL 27 4294967295) (by decide +kernel)) dL_law_182 ?_
    refine lv_land hx hb dL_law_185 ?_
    refine lv_lor hx hb dL_law_186 ?_
    refine lv_aload_n hx hb dL_law_187 rfl (lv_at hl 1 rfl) ?_
    refine lv_iload hx hb dL_law_188 (lv_at hl 0 rfl) ?_
    refine lv_iconst (v := 3) hx hb dL_law_190 (by decide) ?_
    refine lv_iadd hx hb dL_law_191 ?_
    refine va_sld hx hb hX hbl hbA hS (lw_ix 3 (by decide) hi8 hL) dL_law_192 ?_
    refine lv_i2l (v := (xs ((nI i) + 3).toNatClampNeg).toInt64) hx hb dL_law_193 rfl ?_
    refine lv_bipush (v := 32) hx hb dL_law_194 (by decide) ?_
    refine lv_lshl (v := (xs ((nI i) + 3).toNatClampNeg).toInt64 <<< ((32 : Int32).toInt64 &&& 63)) hx hb dL_law_196 rfl ?_
    refine lv_aload_n hx hb dL_law_197 rfl (lv_at hl 1 rfl) ?_
    refine lv_iload hx hb dL_law_198 (lv_at hl 0 rfl) ?_
    refine lv_iconst (v := 4) hx hb dL_law_200 (by decide) ?_
    refine lv_iadd hx hb dL_law_201 ?_
    refine va_sld hx hb hX hbl hbA hS (lw_ix 4 (by decide) hi8 hL) dL_law_202 ?_
    refine lv_i2l (v := (xs ((nI i) + 4).toNatClampNeg).toInt64) hx hb dL_law_203 rfl ?_
    refine lv_ldc2 (v := 4294967295) hx hb hown (hts (.constantLong RL 27 4294967295) (by decide +kernel)) dL_law_204 ?_
    refine lv_land hx hb dL_law_207 ?_
    refine lv_lor hx hb dL_law_208 ?_
    refine lw_call1 (W.runV (As := [.long (((xs ((nI i) + 1).toNatClampNeg).toInt64 <<< ((32 : Int32).toInt64 &&& 63)) ||| ((xs ((nI i) + 2).toNatClampNeg).toInt64 &&& 4294967295)), .long (((xs ((nI i) + 3).toNatClampNeg).toInt64 <<< ((32 : Int32).toInt64 &&& 63)) ||| ((xs ((nI i) + 4).toNatClampNeg).toInt64 &&& 4294967295))]) (rest := [.int (dk_keyN n K (((xs ((nI i) + 1).toNatClampNeg).toInt64 <<< ((32 : Int32).toInt64 &&& 63)) ||| ((xs ((nI i) + 2).toNatClampNeg).toInt64 &&& 4294967295)) (((xs ((nI i) + 3).toNatClampNeg).toInt64 <<< ((32 : Int32).toInt64 &&& 63)) ||| ((xs ((nI i) + 4).toNatClampNeg).toInt64 &&& 4294967295)))]) ⟨hx, hb, hml, hown, hts⟩ (c_X4_key l dC dI cI cJ cZ q aS aC aW aL aN aI aB aD aU aF n gv sz cd sp se ct aw le ne ins ba dd cr tt ss un fr rl qs (((xs ((nI i) + 1).toNatClampNeg).toInt64 <<< ((32 : Int32).toInt64 &&& 63)) ||| ((xs ((nI i) + 2).toNatClampNeg).toInt64 &&& 4294967295)) (((xs ((nI i) + 3).toNatClampNeg).toInt64 <<< ((32 : Int32).toInt64 &&& 63)) ||| ((xs ((nI i) + 4).toNatClampNeg).toInt64 &&& 4294967295)) hR.1) (cwV 2 hts gL_law_X4_key rfl rfl rfl (by decide +kernel) ⟨Nat.le_of_ble_eq_true rfl, Nat.le_of_ble_eq_true rfl⟩) (up_preV (q0 := 0) (ci := 5) hPm hKm (up_leftD (up_3 hD)) rfl rfl) rfl rfl hl.1 rfl (lv_room (Nat.le_of_ble_eq_true rfl)) dL_law_209 ⟨by show _ + 0 ≤ 670060; omega, by show _ + 0 ≤ 7085891; omega⟩) hPx hPo (up_3 hD) hS ((md_fst ..).trans (md_fst ..).symm) (fun H locs hPm hPx hPo hD hS => ?_)
    have hD := up_3 hD
    have hPx : va_P (dC, dI) vwCl (dkW cK cB cI o ks fa oa fb ob dr ds L n sp fa fb cr rl qs kA oA kB oB tt ss st K) H := hPx
    have hPm : va_P (dC, dI) vwCl (mdW cI cJ cZ q aS aC aW aL aN aI aB aD aU aF ((md_key n se ct aw le (((xs ((nI i) + 1).toNatClampNeg).toInt64 <<< ((32 : Int32).toInt64 &&& 63)) ||| ((xs ((nI i) + 2).toNatClampNeg).toInt64 &&& 4294967295)) (((xs ((nI i) + 3).toNatClampNeg).toInt64 <<< ((32 : Int32).toInt64 &&& 63)) ||| ((xs ((nI i) + 4).toNatClampNeg).toInt64 &&& 4294967295))).2.1) gv sz 0 sp ((md_key n se ct aw le (((xs ((nI i) + 1).toNatClampNeg).toInt64 <<< ((32 : Int32).toInt64 &&& 63)) ||| ((xs ((nI i) + 2).toNatClampNeg).toInt64 &&& 4294967295)) (((xs ((nI i) + 3).toNatClampNeg).toInt64 <<< ((32 : Int32).toInt64 &&& 63)) ||| ((xs ((nI i) + 4).toNatClampNeg).toInt64 &&& 4294967295))).2.2.1) ((md_key n se ct aw le (((xs ((nI i) + 1).toNatClampNeg).toInt64 <<< ((32 : Int32).toInt64 &&& 63)) ||| ((xs ((nI i) + 2).toNatClampNeg).toInt64 &&& 4294967295)) (((xs ((nI i) + 3).toNatClampNeg).toInt64 <<< ((32 : Int32).toInt64 &&& 63)) ||| ((xs ((nI i) + 4).toNatClampNeg).toInt64 &&& 4294967295))).2.2.2.1) ((md_key n se ct aw le (((xs ((nI i) + 1).toNatClampNeg).toInt64 <<< ((32 : Int32).toInt64 &&& 63)) ||| ((xs ((nI i) + 2).toNatClampNeg).toInt64 &&& 4294967295)) (((xs ((nI i) + 3).toNatClampNeg).toInt64 <<< ((32 : Int32).toInt64 &&& 63)) ||| ((xs ((nI i) + 4).toNatClampNeg).toInt64 &&& 4294967295))).2.2.2.2.1) ((md_key n se ct aw le (((xs ((nI i) + 1).toNatClampNeg).toInt64 <<< ((32 : Int32).toInt64 &&& 63)) ||| ((xs ((nI i) + 2).toNatClampNeg).toInt64 &&& 4294967295)) (((xs ((nI i) + 3).toNatClampNeg).toInt64 <<< ((32 : Int32).toInt64 &&& 63)) ||| ((xs ((nI i) + 4).toNatClampNeg).toInt64 &&& 4294967295))).2.2.2.2.2) ne ins ba dd cr tt ss un fr rl qs) H := hPm
    have hD : va_D (lw_A s) ((dkW cK cB cI o ks fa oa fb ob dr ds L n sp fa fb cr rl qs kA oA kB oB tt ss st K) ++ ((mdW cI cJ cZ q aS aC aW aL aN aI aB aD aU aF ((md_key n se ct aw le (((xs ((nI i) + 1).toNatClampNeg).toInt64 <<< ((32 : Int32).toInt64 &&& 63)) ||| ((xs ((nI i) + 2).toNatClampNeg).toInt64 &&& 4294967295)) (((xs ((nI i) + 3).toNatClampNeg).toInt64 <<< ((32 : Int32).toInt64 &&& 63)) ||| ((xs ((nI i) + 4).toNatClampNeg).toInt64 &&& 4294967295))).2.1) gv sz 0 sp ((md_key n se ct aw le (((xs ((nI i) + 1).toNatClampNeg).toInt64 <<< ((32 : Int32).toInt64 &&& 63)) ||| ((xs ((nI i) + 2).toNatClampNeg).toInt64 &&& 4294967295)) (((xs ((nI i) + 3).toNatClampNeg).toInt64 <<< ((32 : Int32).toInt64 &&& 63)) ||| ((xs ((nI i) + 4).toNatClampNeg).toInt64 &&& 4294967295))).2.2.1) ((md_key n se ct aw le (((xs ((nI i) + 1).toNatClampNeg).toInt64 <<< ((32 : Int32).toInt64 &&& 63)) ||| ((xs ((nI i) + 2).toNatClampNeg).toInt64 &&& 4294967295)) (((xs ((nI i) + 3).toNatClampNeg).toInt64 <<< ((32 : Int32).toInt64 &&& 63)) ||| ((xs ((nI i) + 4).toNatClampNeg).toInt64 &&& 4294967295))).2.2.2.1) ((md_key n se ct aw le (((xs ((nI i) + 1).toNatClampNeg).toInt64 <<< ((32 : Int32).toInt64 &&& 63)) ||| ((xs ((nI i) + 2).toNatClampNeg).toInt64 &&& 4294967295)) (((xs ((nI i) + 3).toNatClampNeg).toInt64 <<< ((32 : Int32).toInt64 &&& 63)) ||| ((xs ((nI i) + 4).toNatClampNeg).toInt64 &&& 4294967295))).2.2.2.2.1) ((md_key n se ct aw le (((xs ((nI i) + 1).toNatClampNeg).toInt64 <<< ((32 : Int32).toInt64 &&& 63)) ||| ((xs ((nI i) + 2).toNatClampNeg).toInt64 &&& 4294967295)) (((xs ((nI i) + 3).toNatClampNeg).toInt64 <<< ((32 : Int32).toInt64 &&& 63)) ||| ((xs ((nI i) + 4).toNatClampNeg).toInt64 &&& 4294967295))).2.2.2.2.2) ne ins ba dd cr tt ss un fr rl qs) ++ [(ou, .inl (cJ, 1, .inr (.inl ov)))])) := hD
    have pr := pr_keyN hR ((((xs ((nI i) + 1).toNatClampNeg)).toInt64 <<< ((32 : Int32).toInt64 &&& 63)) ||| (((xs ((nI i) + 2).toNatClampNeg)).toInt64 &&& 4294967295)) ((((xs ((nI i) + 3).toNatClampNeg)).toInt64 <<< ((32 : Int32).toInt64 &&& 63)) ||| (((xs ((nI i) + 4).toNatClampNeg)).toInt64 &&& 4294967295)) hok
    refine lv_icmp_eq (tgt := 815) hx hb dL_law_212 (by decide) (fun c_212 => ?_) (fun c_212 => (c_212 pr.1).elim)
    rw [← pr.2.1] at hPm hD
    have hR9 := pr.2.2
    refine W.widen (k := cells + 1) (n := slots + 7) (by omega) (by omega) ?_
    exact hcont _ _ ls ⟨_, _, _, _, _, _, _, _, _, _, _, _, _, _, _, _, _, _, _, _, _, _, _, _, _, _, _, _, _, _, _, _, _, _, _, _, _, _, _, _, _, _, _, _, _, hPx, hPm, hPo, hD, hR9⟩ hS (lv_sub hl [0, 1, 2, 3, 4] rfl)
set_option maxHeartbeats 4000000 in
set_option maxRecDepth 100000 in
theorem lw_k_remote {p : Program} {l : Launch} {e : Env} {s : State} {m : MethodId} {below : List Frame} {meth : Method} {c : Code} {dC : Nat → ClassId} {dI : Nat → Nat → Nat} {b Ln : Nat} {xs : Nat → Int32} {cK cB cI cJ cZ : ClassId} {tX tY o q ou N i : Nat} {H : Heap} {locs : List Loc} {cells slots : Nat} {Q : State → Prop} (hE : lw_E p l s m c dC dI b Ln xs cK cB cI cJ cZ tX tY) (hN6 : N ≤ 600) (hi8 : i + 8 ≤ Ln) (hI : lw_I dC dI (lw_A s) cK cB cI cJ cZ o q ou N H) (hS : va_S (lw_A s) s.heap H locs) (hc : cells + 1 ≤ 670060) (hsl : slots + 7 ≤ 7085891) {ls : Array Slot} (hl : lv_has ls 7 [(4, .int (nI i)), (0, .ref b), (1, .ref o), (2, .ref q), (3, .ref ou)])
    (hcont : ∀ (H1 : Heap) (locs1 : List Loc) (ls1 : Array Slot), lw_I dC dI (lw_A s) cK cB cI cJ cZ o q ou (N + 1) H1 → va_S (lw_A s) s.heap H1 locs1 → lv_has ls1 7 [(4, .int (nI i)), (0, .ref b), (1, .ref o), (2, .ref q), (3, .ref ou)] → W p l e room_1 s m #[Value.ref b] below meth c H1 locs1 (cells + 1) (slots + 7) Q (F0 m 815 ls1 [])) : W p l e room_1 s m #[Value.ref b] below meth c H locs cells slots Q (F0 m 217 ls []) := by
  obtain ⟨hx, hb, hml, hown, hts0, hX, hbl, hbA, hK, hN, hZ, hfl, hL⟩ := hE
  have hts := fun w h => hts0 w (wsL_law_in w h)
  obtain ⟨ks, fa, oa, fb, ob, dr, ds, L, n, sp, cr, rl, qs, kA, oA, kB, oB, tt, ss, st, K, aS, aC, aW, aL, aN, aI, aB, aD, aU, aF, gv, sz, cd, se, ct, aw, le, ne, ins, ba, dd, un, fr, ov, hPx, hPm, hPo, hD, hR⟩ := hI
  have hKx : va_K (dC, dI) vwCl (dkT cK cB cI) s := hK.sub [0, 1, 2] rfl
  have hKm : va_K (dC, dI) vwCl (mdT cI cJ cZ) s := hK.sub [2, 3, 4] rfl
  refine lv_aload_n hx hb dL_law_217 rfl (lv_at hl 2 rfl) ?_
  refine lv_aload_n hx hb dL_law_218 rfl (lv_at hl 1 rfl) ?_
  refine lv_iload hx hb dL_law_219 (lv_at hl 0 rfl) ?_
  refine lv_iconst (v := 1) hx hb dL_law_221 (by decide) ?_
  refine lv_iadd hx hb dL_law_222 ?_
  refine va_sld hx hb hX hbl hbA hS (lw_ix 1 (by decide) hi8 hL) dL_law_223 ?_
  refine lv_i2b (v := (xs ((nI i) + 1).toNatClampNeg).toInt8.toInt32) hx hb dL_law_224 rfl ?_
  refine lv_aload_n hx hb dL_law_225 rfl (lv_at hl 1 rfl) ?_
  refine lv_iload hx hb dL_law_226 (lv_at hl 0 rfl) ?_
  refine lv_iconst (v := 2) hx hb dL_law_228 (by decide) ?_
  refine lv_iadd hx hb dL_law_229 ?_
  refine va_sld hx hb hX hbl hbA hS (lw_ix 2 (by decide) hi8 hL) dL_law_230 ?_
  refine lv_if_eq (tgt := 238) hx hb dL_law_231 (by decide) (fun c_231 => ?_) (fun c_231 => ?_)
  · refine lv_iconst (v := 0) hx hb dL_law_238 (by decide) ?_
    refine lw_call1 (W.runV (As := [.int ((xs ((nI i) + 1).toNatClampNeg).toInt8.toInt32), .int 0]) (rest := []) ⟨hx, hb, hml, hown, hts⟩ (c_X3_remote0 l dC dI cK cB cI o ks fa oa fb ob dr ds L n sp cr rl qs kA oA kB oB tt ss st K ((xs ((nI i) + 1).toNatClampNeg).toInt8) hR.1) (cwV 2 hts gL_law_X3_remote rfl rfl rfl (by decide +kernel) ⟨Nat.le_of_ble_eq_true rfl, Nat.le_of_ble_eq_true rfl⟩) (up_preV (q0 := 0) (ci := 4) hPx hKx (up_leftD hD) rfl rfl) rfl rfl hl.1 rfl (lv_room (Nat.le_of_ble_eq_true rfl)) dL_law_239 ⟨by show _ + 0 ≤ 670060; omega, by show _ + 0 ≤ 7085891; omega⟩) hPm hPo hD hS ((dk_fst ..).trans (dk_fst ..).symm) (fun H locs hPx hPm hPo hD hS => ?_)
    have hPx : va_P (dC, dI) vwCl (dkW cK cB cI o ks fa oa fb ob dr ds L n sp fa fb cr rl qs ((dk_rem0 kA oA ((xs ((nI i) + 1).toNatClampNeg).toInt8)).2.1) ((dk_rem0 kA oA ((xs ((nI i) + 1).toNatClampNeg).toInt8)).2.2) kB oB tt ss st K) H := hPx
    have hPm : va_P (dC, dI) vwCl (mdW cI cJ cZ q aS aC aW aL aN aI aB aD aU aF n gv sz cd sp se ct aw le ne ins ba dd cr tt ss un fr rl qs) H := hPm
    have hD : va_D (lw_A s) ((dkW cK cB cI o ks fa oa fb ob dr ds L n sp fa fb cr rl qs ((dk_rem0 kA oA ((xs ((nI i) + 1).toNatClampNeg).toInt8)).2.1) ((dk_rem0 kA oA ((xs ((nI i) + 1).toNatClampNeg).toInt8)).2.2) kB oB tt ss st K) ++ ((mdW cI cJ cZ q aS aC aW aL aN aI aB aD aU aF n gv sz cd sp se ct aw le ne ins ba dd cr tt ss un fr rl qs) ++ [(ou, .inl (cJ, 1, .inr (.inl ov)))])) := hD
    refine lv_aload_n hx hb dL_law_242 rfl (lv_at hl 3 rfl) ?_
    refine lv_aload_n hx hb dL_law_243 rfl (lv_at hl 1 rfl) ?_
    refine lv_iload hx hb dL_law_244 (lv_at hl 0 rfl) ?_
    refine lv_iconst (v := 1) hx hb dL_law_246 (by decide) ?_
    refine lv_iadd hx hb dL_law_247 ?_
    refine va_sld hx hb hX hbl hbA hS (lw_ix 1 (by decide) hi8 hL) dL_law_248 ?_
    refine lv_i2b (v := (xs ((nI i) + 1).toNatClampNeg).toInt8.toInt32) hx hb dL_law_249 rfl ?_
    refine lv_aload_n hx hb dL_law_250 rfl (lv_at hl 1 rfl) ?_
    refine lv_iload hx hb dL_law_251 (lv_at hl 0 rfl) ?_
    refine lv_iconst (v := 2) hx hb dL_law_253 (by decide) ?_
    refine lv_iadd hx hb dL_law_254 ?_
    refine va_sld hx hb hX hbl hbA hS (lw_ix 2 (by decide) hi8 hL) dL_law_255 ?_
    refine lv_if_eq (tgt := 263) hx hb dL_law_256 (by decide) (fun c_256 => ?_) (fun c_256 => absurd c_231 c_256)
    refine lv_iconst (v := 0) hx hb dL_law_263 (by decide) ?_
    refine lw_call1 (W.runV (As := [.int ((xs ((nI i) + 1).toNatClampNeg).toInt8.toInt32), .int 0]) (rest := [.int ((dk_rem0 kA oA ((xs ((nI i) + 1).toNatClampNeg).toInt8)).1)]) ⟨hx, hb, hml, hown, hts⟩ (c_X4_remote l dC dI cI cJ cZ q aS aC aW aL aN aI aB aD aU aF n gv sz cd sp se ct aw le ne ins ba dd cr tt ss un fr rl qs ((xs ((nI i) + 1).toNatClampNeg).toInt8) 0 hR.1 (show gv < 100000 by have := hR.2.1; omega) hR.2.2.2.2.2.1) (cwV 2 hts gL_law_X4_remote rfl rfl rfl (by decide +kernel) ⟨Nat.le_of_ble_eq_true rfl, Nat.le_of_ble_eq_true rfl⟩) (up_preV (q0 := 0) (ci := 5) hPm hKm (up_leftD (up_3 hD)) rfl rfl) rfl rfl hl.1 rfl (lv_room (Nat.le_of_ble_eq_true rfl)) dL_law_264 ⟨by show _ + 0 ≤ 670060; omega, by show _ + 0 ≤ 7085891; omega⟩) hPx hPo (up_3 hD) hS ((md_fst ..).trans (md_fst ..).symm) (fun H locs hPm hPx hPo hD hS => ?_)
    have hD := up_3 hD
    have hPx : va_P (dC, dI) vwCl (dkW cK cB cI o ks fa oa fb ob dr ds L n sp fa fb cr rl qs ((dk_rem0 kA oA ((xs ((nI i) + 1).toNatClampNeg).toInt8)).2.1) ((dk_rem0 kA oA ((xs ((nI i) + 1).toNatClampNeg).toInt8)).2.2) kB oB tt ss st K) H := hPx
    have hPm : va_P (dC, dI) vwCl (mdW cI cJ cZ q aS aC aW aL aN aI aB aD aU aF n ((md_remote n gv sz sp se ct aw le ba dd cr tt ss un fr ((xs ((nI i) + 1).toNatClampNeg).toInt8) 0).2.1) ((md_remote n gv sz sp se ct aw le ba dd cr tt ss un fr ((xs ((nI i) + 1).toNatClampNeg).toInt8) 0).2.2.2.1) 0 sp se ((md_remote n gv sz sp se ct aw le ba dd cr tt ss un fr ((xs ((nI i) + 1).toNatClampNeg).toInt8) 0).2.2.2.2.2.2.1) ((md_remote n gv sz sp se ct aw le ba dd cr tt ss un fr ((xs ((nI i) + 1).toNatClampNeg).toInt8) 0).2.2.2.2.2.1) le ne ins ((md_remote n gv sz sp se ct aw le ba dd cr tt ss un fr ((xs ((nI i) + 1).toNatClampNeg).toInt8) 0).2.2.2.2.2.2.2.1) ((md_remote n gv sz sp se ct aw le ba dd cr tt ss un fr ((xs ((nI i) + 1).toNatClampNeg).toInt8) 0).2.2.2.2.2.2.2.2.1) cr tt ((md_remote n gv sz sp se ct aw le ba dd cr tt ss un fr ((xs ((nI i) + 1).toNatClampNeg).toInt8) 0).2.2.2.2.2.2.2.2.2) ((md_remote n gv sz sp se ct aw le ba dd cr tt ss un fr ((xs ((nI i) + 1).toNatClampNeg).toInt8) 0).2.2.1) ((md_remote n gv sz sp se ct aw le ba dd cr tt ss un fr ((xs ((nI i) + 1).toNatClampNeg).toInt8) 0).2.2.2.2.1) rl qs) H := hPm
    have hD : va_D (lw_A s) ((dkW cK cB cI o ks fa oa fb ob dr ds L n sp fa fb cr rl qs ((dk_rem0 kA oA ((xs ((nI i) + 1).toNatClampNeg).toInt8)).2.1) ((dk_rem0 kA oA ((xs ((nI i) + 1).toNatClampNeg).toInt8)).2.2) kB oB tt ss st K) ++ ((mdW cI cJ cZ q aS aC aW aL aN aI aB aD aU aF n ((md_remote n gv sz sp se ct aw le ba dd cr tt ss un fr ((xs ((nI i) + 1).toNatClampNeg).toInt8) 0).2.1) ((md_remote n gv sz sp se ct aw le ba dd cr tt ss un fr ((xs ((nI i) + 1).toNatClampNeg).toInt8) 0).2.2.2.1) 0 sp se ((md_remote n gv sz sp se ct aw le ba dd cr tt ss un fr ((xs ((nI i) + 1).toNatClampNeg).toInt8) 0).2.2.2.2.2.2.1) ((md_remote n gv sz sp se ct aw le ba dd cr tt ss un fr ((xs ((nI i) + 1).toNatClampNeg).toInt8) 0).2.2.2.2.2.1) le ne ins ((md_remote n gv sz sp se ct aw le ba dd cr tt ss un fr ((xs ((nI i) + 1).toNatClampNeg).toInt8) 0).2.2.2.2.2.2.2.1) ((md_remote n gv sz sp se ct aw le ba dd cr tt ss un fr ((xs ((nI i) + 1).toNatClampNeg).toInt8) 0).2.2.2.2.2.2.2.2.1) cr tt ((md_remote n gv sz sp se ct aw le ba dd cr tt ss un fr ((xs ((nI i) + 1).toNatClampNeg).toInt8) 0).2.2.2.2.2.2.2.2.2) ((md_remote n gv sz sp se ct aw le ba dd cr tt ss un fr ((xs ((nI i) + 1).toNatClampNeg).toInt8) 0).2.2.1) ((md_remote n gv sz sp se ct aw le ba dd cr tt ss un fr ((xs ((nI i) + 1).toNatClampNeg).toInt8) 0).2.2.2.2.1) rl qs) ++ [(ou, .inl (cJ, 1, .inr (.inl ov)))])) := hD
    have pr := pr_rem0 hR sp cr tt ss ((xs ((nI i) + 1).toNatClampNeg)).toInt8 hN6
    refine lv_icmp_eq (tgt := 815) hx hb dL_law_267 (by decide) (fun c_267 => ?_) (fun c_267 => (c_267 pr.1).elim)
    rw [← pr.2.1] at hPm hD
    have hR9 := pr.2.2
    refine W.widen (k := cells + 1) (n := slots + 7) (by omega) (by omega) ?_
    exact hcont _ _ ls ⟨_, _, _, _, _, _, _, _, _, _, _, _, _, _, _, _, _, _, _, _, _, _, _, _, _, _, _, _, _, _, _, _, _, _, _, _, _, _, _, _, _, _, _, _, _, hPx, hPm, hPo, hD, hR9⟩ hS (lv_sub hl [0, 1, 2, 3, 4] rfl)
  · refine lv_iconst (v := 1) hx hb dL_law_234 (by decide) ?_
    refine lv_goto (tgt := 239) hx hb dL_law_235 (by decide) ?_
    refine lw_call1 (W.runV (As := [.int ((xs ((nI i) + 1).toNatClampNeg).toInt8.toInt32), .int 1]) (rest := []) ⟨hx, hb, hml, hown, hts⟩ (c_X3_remote1 l dC dI cK cB cI o ks fa oa fb ob dr ds L n sp cr rl qs kA oA kB oB tt ss st K ((xs ((nI i) + 1).toNatClampNeg).toInt8) hR.1) (cwV 2 hts gL_law_X3_remote rfl rfl rfl (by decide +kernel) ⟨Nat.le_of_ble_eq_true rfl, Nat.le_of_ble_eq_true rfl⟩) (up_preV (q0 := 0) (ci := 4) hPx hKx (up_leftD hD) rfl rfl) rfl rfl hl.1 rfl (lv_room (Nat.le_of_ble_eq_true rfl)) dL_law_239 ⟨by show _ + 0 ≤ 670060; omega, by show _ + 0 ≤ 7085891; omega⟩) hPm hPo hD hS ((dk_fst ..).trans (dk_fst ..).symm) (fun H locs hPx hPm hPo hD hS => ?_)
    have hPx := dk_swapP hPx
    have hD := lw_swapD hD
    have hPx : va_P (dC, dI) vwCl (dkW cK cB cI o ks fb ob fa oa dr ds L n sp fb fa cr rl qs ((dk_rem1 n sp cr kA oA tt ss st K ((xs ((nI i) + 1).toNatClampNeg).toInt8)).2.2.2.1) oB ((dk_rem1 n sp cr kA oA tt ss st K ((xs ((nI i) + 1).toNatClampNeg).toInt8)).2.1) ((dk_rem1 n sp cr kA oA tt ss st K ((xs ((nI i) + 1).toNatClampNeg).toInt8)).2.2.1) tt ((dk_rem1 n sp cr kA oA tt ss st K ((xs ((nI i) + 1).toNatClampNeg).toInt8)).2.2.2.2.2.2) ((dk_rem1 n sp cr kA oA tt ss st K ((xs ((nI i) + 1).toNatClampNeg).toInt8)).2.2.2.2.2.1) ((dk_rem1 n sp cr kA oA tt ss st K ((xs ((nI i) + 1).toNatClampNeg).toInt8)).2.2.2.2.1)) H := hPx
    have hPm : va_P (dC, dI) vwCl (mdW cI cJ cZ q aS aC aW aL aN aI aB aD aU aF n gv sz cd sp se ct aw le ne ins ba dd cr tt ss un fr rl qs) H := hPm
    have hD : va_D (lw_A s) ((dkW cK cB cI o ks fb ob fa oa dr ds L n sp fb fa cr rl qs ((dk_rem1 n sp cr kA oA tt ss st K ((xs ((nI i) + 1).toNatClampNeg).toInt8)).2.2.2.1) oB ((dk_rem1 n sp cr kA oA tt ss st K ((xs ((nI i) + 1).toNatClampNeg).toInt8)).2.1) ((dk_rem1 n sp cr kA oA tt ss st K ((xs ((nI i) + 1).toNatClampNeg).toInt8)).2.2.1) tt ((dk_rem1 n sp cr kA oA tt ss st K ((xs ((nI i) + 1).toNatClampNeg).toInt8)).2.2.2.2.2.2) ((dk_rem1 n sp cr kA oA tt ss st K ((xs ((nI i) + 1).toNatClampNeg).toInt8)).2.2.2.2.2.1) ((dk_rem1 n sp cr kA oA tt ss st K ((xs ((nI i) + 1).toNatClampNeg).toInt8)).2.2.2.2.1)) ++ ((mdW cI cJ cZ q aS aC aW aL aN aI aB aD aU aF n gv sz cd sp se ct aw le ne ins ba dd cr tt ss un fr rl qs) ++ [(ou, .inl (cJ, 1, .inr (.inl ov)))])) := hD
    refine lv_aload_n hx hb dL_law_242 rfl (lv_at hl 3 rfl) ?_
    refine lv_aload_n hx hb dL_law_243 rfl (lv_at hl 1 rfl) ?_
    refine lv_iload hx hb dL_law_244 (lv_at hl 0 rfl) ?_
    refine lv_iconst (v := 1) hx hb dL_law_246 (by decide) ?_
    refine lv_iadd hx hb dL_law_247 ?_
    refine va_sld hx hb hX hbl hbA hS (lw_ix 1 (by decide) hi8 hL) dL_law_248 ?_
    refine lv_i2b (v := (xs ((nI i) + 1).toNatClampNeg).toInt8.toInt32) hx hb dL_law_249 rfl ?_
    refine lv_aload_n hx hb dL_law_250 rfl (lv_at hl 1 rfl) ?_
    refine lv_iload hx hb dL_law_251 (lv_at hl 0 rfl) ?_
    refine lv_iconst (v := 2) hx hb dL_law_253 (by decide) ?_
    refine lv_iadd hx hb dL_law_254 ?_
    refine va_sld hx hb hX hbl hbA hS (lw_ix 2 (by decide) hi8 hL) dL_law_255 ?_
    refine lv_if_eq (tgt := 263) hx hb dL_law_256 (by decide) (fun c_256 => absurd c_256 c_231) (fun c_256 => ?_)
    refine lv_iconst (v := 1) hx hb dL_law_259 (by decide) ?_
    refine lv_goto (tgt := 264) hx hb dL_law_260 (by decide) ?_
    refine lw_call1 (W.runV (As := [.int ((xs ((nI i) + 1).toNatClampNeg).toInt8.toInt32), .int 1]) (rest := [.int ((dk_rem1 n sp cr kA oA tt ss st K ((xs ((nI i) + 1).toNatClampNeg).toInt8)).1)]) ⟨hx, hb, hml, hown, hts⟩ (c_X4_remote l dC dI cI cJ cZ q aS aC aW aL aN aI aB aD aU aF n gv sz cd sp se ct aw le ne ins ba dd cr tt ss un fr rl qs ((xs ((nI i) + 1).toNatClampNeg).toInt8) 1 hR.1 (show gv < 100000 by have := hR.2.1; omega) hR.2.2.2.2.2.1) (cwV 2 hts gL_law_X4_remote rfl rfl rfl (by decide +kernel) ⟨Nat.le_of_ble_eq_true rfl, Nat.le_of_ble_eq_true rfl⟩) (up_preV (q0 := 0) (ci := 5) hPm hKm (up_leftD (up_3 hD)) rfl rfl) rfl rfl hl.1 rfl (lv_room (Nat.le_of_ble_eq_true rfl)) dL_law_264 ⟨by show _ + 0 ≤ 670060; omega, by show _ + 0 ≤ 7085891; omega⟩) hPx hPo (up_3 hD) hS ((md_fst ..).trans (md_fst ..).symm) (fun H locs hPm hPx hPo hD hS => ?_)
    have hD := up_3 hD
    have hPx : va_P (dC, dI) vwCl (dkW cK cB cI o ks fb ob fa oa dr ds L n sp fb fa cr rl qs ((dk_rem1 n sp cr kA oA tt ss st K ((xs ((nI i) + 1).toNatClampNeg).toInt8)).2.2.2.1) oB ((dk_rem1 n sp cr kA oA tt ss st K ((xs ((nI i) + 1).toNatClampNeg).toInt8)).2.1) ((dk_rem1 n sp cr kA oA tt ss st K ((xs ((nI i) + 1).toNatClampNeg).toInt8)).2.2.1) tt ((dk_rem1 n sp cr kA oA tt ss st K ((xs ((nI i) + 1).toNatClampNeg).toInt8)).2.2.2.2.2.2) ((dk_rem1 n sp cr kA oA tt ss st K ((xs ((nI i) + 1).toNatClampNeg).toInt8)).2.2.2.2.2.1) ((dk_rem1 n sp cr kA oA tt ss st K ((xs ((nI i) + 1).toNatClampNeg).toInt8)).2.2.2.2.1)) H := hPx
    have hPm : va_P (dC, dI) vwCl (mdW cI cJ cZ q aS aC aW aL aN aI aB aD aU aF n ((md_remote n gv sz sp se ct aw le ba dd cr tt ss un fr ((xs ((nI i) + 1).toNatClampNeg).toInt8) 1).2.1) ((md_remote n gv sz sp se ct aw le ba dd cr tt ss un fr ((xs ((nI i) + 1).toNatClampNeg).toInt8) 1).2.2.2.1) 0 sp se ((md_remote n gv sz sp se ct aw le ba dd cr tt ss un fr ((xs ((nI i) + 1).toNatClampNeg).toInt8) 1).2.2.2.2.2.2.1) ((md_remote n gv sz sp se ct aw le ba dd cr tt ss un fr ((xs ((nI i) + 1).toNatClampNeg).toInt8) 1).2.2.2.2.2.1) le ne ins ((md_remote n gv sz sp se ct aw le ba dd cr tt ss un fr ((xs ((nI i) + 1).toNatClampNeg).toInt8) 1).2.2.2.2.2.2.2.1) ((md_remote n gv sz sp se ct aw le ba dd cr tt ss un fr ((xs ((nI i) + 1).toNatClampNeg).toInt8) 1).2.2.2.2.2.2.2.2.1) cr tt ((md_remote n gv sz sp se ct aw le ba dd cr tt ss un fr ((xs ((nI i) + 1).toNatClampNeg).toInt8) 1).2.2.2.2.2.2.2.2.2) ((md_remote n gv sz sp se ct aw le ba dd cr tt ss un fr ((xs ((nI i) + 1).toNatClampNeg).toInt8) 1).2.2.1) ((md_remote n gv sz sp se ct aw le ba dd cr tt ss un fr ((xs ((nI i) + 1).toNatClampNeg).toInt8) 1).2.2.2.2.1) rl qs) H := hPm
    have hD : va_D (lw_A s) ((dkW cK cB cI o ks fb ob fa oa dr ds L n sp fb fa cr rl qs ((dk_rem1 n sp cr kA oA tt ss st K ((xs ((nI i) + 1).toNatClampNeg).toInt8)).2.2.2.1) oB ((dk_rem1 n sp cr kA oA tt ss st K ((xs ((nI i) + 1).toNatClampNeg).toInt8)).2.1) ((dk_rem1 n sp cr kA oA tt ss st K ((xs ((nI i) + 1).toNatClampNeg).toInt8)).2.2.1) tt ((dk_rem1 n sp cr kA oA tt ss st K ((xs ((nI i) + 1).toNatClampNeg).toInt8)).2.2.2.2.2.2) ((dk_rem1 n sp cr kA oA tt ss st K ((xs ((nI i) + 1).toNatClampNeg).toInt8)).2.2.2.2.2.1) ((dk_rem1 n sp cr kA oA tt ss st K ((xs ((nI i) + 1).toNatClampNeg).toInt8)).2.2.2.2.1)) ++ ((mdW cI cJ cZ q aS aC aW aL aN aI aB aD aU aF n ((md_remote n gv sz sp se ct aw le ba dd cr tt ss un fr ((xs ((nI i) + 1).toNatClampNeg).toInt8) 1).2.1) ((md_remote n gv sz sp se ct aw le ba dd cr tt ss un fr ((xs ((nI i) + 1).toNatClampNeg).toInt8) 1).2.2.2.1) 0 sp se ((md_remote n gv sz sp se ct aw le ba dd cr tt ss un fr ((xs ((nI i) + 1).toNatClampNeg).toInt8) 1).2.2.2.2.2.2.1) ((md_remote n gv sz sp se ct aw le ba dd cr tt ss un fr ((xs ((nI i) + 1).toNatClampNeg).toInt8) 1).2.2.2.2.2.1) le ne ins ((md_remote n gv sz sp se ct aw le ba dd cr tt ss un fr ((xs ((nI i) + 1).toNatClampNeg).toInt8) 1).2.2.2.2.2.2.2.1) ((md_remote n gv sz sp se ct aw le ba dd cr tt ss un fr ((xs ((nI i) + 1).toNatClampNeg).toInt8) 1).2.2.2.2.2.2.2.2.1) cr tt ((md_remote n gv sz sp se ct aw le ba dd cr tt ss un fr ((xs ((nI i) + 1).toNatClampNeg).toInt8) 1).2.2.2.2.2.2.2.2.2) ((md_remote n gv sz sp se ct aw le ba dd cr tt ss un fr ((xs ((nI i) + 1).toNatClampNeg).toInt8) 1).2.2.1) ((md_remote n gv sz sp se ct aw le ba dd cr tt ss un fr ((xs ((nI i) + 1).toNatClampNeg).toInt8) 1).2.2.2.2.1) rl qs) ++ [(ou, .inl (cJ, 1, .inr (.inl ov)))])) := hD
    have pr := pr_rem1 hR sp cr tt ss ((xs ((nI i) + 1).toNatClampNeg)).toInt8 hN6
    refine lv_icmp_eq (tgt := 815) hx hb dL_law_267 (by decide) (fun c_267 => ?_) (fun c_267 => (c_267 pr.1).elim)
    rw [← pr.2.1] at hPm hD
    have hR9 := pr.2.2
    refine W.widen (k := cells + 1) (n := slots + 7) (by omega) (by omega) ?_
    exact hcont _ _ ls ⟨_, _, _, _, _, _, _, _, _, _, _, _, _, _, _, _, _, _, _, _, _, _, _, _, _, _, _, _, _, _, _, _, _, _, _, _, _, _, _, _, _, _, _, _, _, hPx, hPm, hPo, hD, hR9⟩ hS (lv_sub hl [0, 1, 2, 3, 4] rfl)
set_option maxHeartbeats 4000000 in
set_option maxRecDepth 100000 in
theorem lw_k_octet {p : Program} {l : Launch} {e : Env} {s : State} {m : MethodId} {below : List Frame} {meth : Method} {c : Code} {dC : Nat → ClassId} {dI : Nat → Nat → Nat} {b Ln : Nat} {xs : Nat → Int32} {cK cB cI cJ cZ : ClassId} {tX tY o q ou N i : Nat} {H : Heap} {locs : List Loc} {cells slots : Nat} {Q : State → Prop} (hE : lw_E p l s m c dC dI b Ln xs cK cB cI cJ cZ tX tY) (hN6 : N ≤ 600) (hi8 : i + 8 ≤ Ln) (hI : lw_I dC dI (lw_A s) cK cB cI cJ cZ o q ou N H) (hS : va_S (lw_A s) s.heap H locs) (hc : cells + 1 ≤ 670060) (hsl : slots + 7 ≤ 7085891) {ls : Array Slot} (hl : lv_has ls 7 [(4, .int (nI i)), (0, .ref b), (1, .ref o), (2, .ref q), (3, .ref ou)])
    (hcont : ∀ (H1 : Heap) (locs1 : List Loc) (ls1 : Array Slot), lw_I dC dI (lw_A s) cK cB cI cJ cZ o q ou (N + 1) H1 → va_S (lw_A s) s.heap H1 locs1 → lv_has ls1 7 [(4, .int (nI i)), (0, .ref b), (1, .ref o), (2, .ref q), (3, .ref ou)] → W p l e room_1 s m #[Value.ref b] below meth c H1 locs1 (cells + 1) (slots + 7) Q (F0 m 815 ls1 [])) : W p l e room_1 s m #[Value.ref b] below meth c H locs cells slots Q (F0 m 734 ls []) := by
  obtain ⟨hx, hb, hml, hown, hts0, hX, hbl, hbA, hK, hN, hZ, hfl, hL⟩ := hE
  have hts := fun w h => hts0 w (wsL_law_in w h)
  obtain ⟨ks, fa, oa, fb, ob, dr, ds, L, n, sp, cr, rl, qs, kA, oA, kB, oB, tt, ss, st, K, aS, aC, aW, aL, aN, aI, aB, aD, aU, aF, gv, sz, cd, se, ct, aw, le, ne, ins, ba, dd, un, fr, ov, hPx, hPm, hPo, hD, hR⟩ := hI
  have hKx : va_K (dC, dI) vwCl (dkT cK cB cI) s := hK.sub [0, 1, 2] rfl
  have hKm : va_K (dC, dI) vwCl (mdT cI cJ cZ) s := hK.sub [2, 3, 4] rfl
  refine lv_aload_n hx hb dL_law_734 rfl (lv_at hl 2 rfl) ?_
  refine lv_aload_n hx hb dL_law_735 rfl (lv_at hl 1 rfl) ?_
  refine lv_iload hx hb dL_law_736 (lv_at hl 0 rfl) ?_
  refine lv_iconst (v := 1) hx hb dL_law_738 (by decide) ?_
  refine lv_iadd hx hb dL_law_739 ?_
  refine va_sld hx hb hX hbl hbA hS (lw_ix 1 (by decide) hi8 hL) dL_law_740 ?_
  refine lv_aload_n hx hb dL_law_741 rfl (lv_at hl 4 rfl) ?_
  by_cases hf : dk_fhas kB (xs ((nI i) + 1).toNatClampNeg) = 0
  · refine lw_octN (As := [.ref o, .int (xs ((nI i) + 1).toNatClampNeg), .ref ou]) (rest := []) hx hb hml hown hts0 (c_LON l hfl dC dI cK cB cI o ks fa oa fb ob dr ds ou L n sp fa cr rl qs kA oA kB oB tt ss st K (xs ((nI i) + 1).toNatClampNeg) hf) (lw_preN hPx hKx (up_leftD hD) hN hS) rfl hl.1 rfl (Nat.le_of_ble_eq_true rfl) dL_law_742 ⟨by omega, by omega⟩ (fun H1 hz hk => ?_)
    obtain ⟨hPx, hPm, hPo, hS⟩ := lw_keep3 hPx hPm hPo hS hz hk
    generalize H1 = H at hPx hPm hPo hS ⊢
    refine lv_istore (lv' := [(5, .int 1), (4, .int (nI i)), (0, .ref b), (1, .ref o), (2, .ref q), (3, .ref ou)]) hx hb dL_law_745 hl (by decide) rfl (fun ls hl => ?_)
    refine lv_aload_n hx hb dL_law_747 rfl (lv_at hl 4 rfl) ?_
    refine lv_aload_n hx hb dL_law_748 rfl (lv_at hl 2 rfl) ?_
    refine lv_iload hx hb dL_law_749 (lv_at hl 1 rfl) ?_
    refine lv_iconst (v := 1) hx hb dL_law_751 (by decide) ?_
    refine lv_iadd hx hb dL_law_752 ?_
    refine va_sld hx hb hX hbl hbA hS (lw_ix 1 (by decide) hi8 hL) dL_law_753 ?_
    refine lw_call1 (W.runV (As := [.int (xs ((nI i) + 1).toNatClampNeg)]) (rest := []) ⟨hx, hb, hml, hown, hts⟩ (c_X4_octet l dC dI cI cJ cZ q aS aC aW aL aN aI aB aD aU aF n gv sz cd sp se ct aw le ne ins ba dd cr tt ss un fr rl qs (xs ((nI i) + 1).toNatClampNeg) hR.2.2.2.2.2.1) (cwV 1 hts gL_law_X4_octet rfl rfl rfl (by decide +kernel) ⟨Nat.le_of_ble_eq_true rfl, Nat.le_of_ble_eq_true rfl⟩) (up_preV (q0 := 0) (ci := 5) hPm hKm (up_leftD (up_3 hD)) rfl rfl) rfl rfl hl.1 rfl (lv_room (Nat.le_of_ble_eq_true rfl)) dL_law_754 ⟨by show _ + 0 ≤ 670060; omega, by show _ + 0 ≤ 7085891; omega⟩) hPx hPo (up_3 hD) hS ((md_fst ..).trans (md_fst ..).symm) (fun H locs hPm hPx hPo hD hS => ?_)
    have hD := up_3 hD
    have hPx : va_P (dC, dI) vwCl (dkW cK cB cI o ks fa oa fb ob dr ds L n sp fa fb cr rl qs kA oA kB oB tt ss st K) H := hPx
    have hPm : va_P (dC, dI) vwCl (mdW cI cJ cZ q aS aC aW aL aN aI aB aD aU aF n gv sz ((md_octet sz fr (xs ((nI i) + 1).toNatClampNeg)).2) sp se ct aw le ne ins ba dd cr tt ss un fr rl qs) H := hPm
    have hD : va_D (lw_A s) ((dkW cK cB cI o ks fa oa fb ob dr ds L n sp fa fb cr rl qs kA oA kB oB tt ss st K) ++ ((mdW cI cJ cZ q aS aC aW aL aN aI aB aD aU aF n gv sz ((md_octet sz fr (xs ((nI i) + 1).toNatClampNeg)).2) sp se ct aw le ne ins ba dd cr tt ss un fr rl qs) ++ [(ou, .inl (cJ, 1, .inr (.inl ov)))])) := hD
    refine lv_istore (lv' := [(6, .int ((md_octet sz fr (xs ((nI i) + 1).toNatClampNeg)).1)), (5, .int 1), (4, .int (nI i)), (0, .ref b), (1, .ref o), (2, .ref q), (3, .ref ou)]) hx hb dL_law_757 hl (by decide) rfl (fun ls hl => ?_)
    refine lv_aload_n hx hb dL_law_759 rfl (lv_at hl 5 rfl) ?_
    refine up_read (W.runV (As := []) (rest := []) ⟨hx, hb, hml, hown, hts⟩ (c_X4_thrown l dC dI cI cJ cZ q aS aC aW aL aN aI aB aD aU aF n gv sz ((md_octet sz fr (xs ((nI i) + 1).toNatClampNeg)).2) sp se ct aw le ne ins ba dd cr tt ss un fr rl qs) (cwV 0 hts gL_law_X4_thrown rfl rfl rfl (by decide +kernel) ⟨Nat.le_of_ble_eq_true rfl, Nat.le_of_ble_eq_true rfl⟩) (up_preV (q0 := 0) (ci := 5) hPm hKm (up_leftD (up_3 hD)) rfl rfl) rfl rfl hl.1 rfl (lv_room (Nat.le_of_ble_eq_true rfl)) dL_law_760 ⟨by show _ + 0 ≤ 670060; omega, by show _ + 0 ≤ 7085891; omega⟩) ?_
    refine lv_iload hx hb dL_law_763 (lv_at hl 1 rfl) ?_
    have pr := pr_octN hR (xs ((nI i) + 1).toNatClampNeg) hf
    refine lv_icmp_eq (tgt := 770) hx hb dL_law_765 (by decide) (fun c_765 => ?_) (fun c_765 => (c_765 pr).elim)
    refine lv_iload hx hb dL_law_770 (lv_at hl 1 rfl) ?_
    refine lv_if_ne (tgt := 787) hx hb dL_law_772 (by decide) (fun c_772 => ?_) (fun c_772 => absurd c_772 (by decide))
    refine lv_goto (tgt := 815) hx hb dL_law_787 (by decide) ?_
    have hR9 := hR.up (Nat.le_succ N)
    refine W.widen (k := cells + 1) (n := slots + 7) (by omega) (by omega) ?_
    exact hcont _ _ ls ⟨_, _, _, _, _, _, _, _, _, _, _, _, _, _, _, _, _, _, _, _, _, _, _, _, _, _, _, _, _, _, _, _, _, _, _, _, _, _, _, _, _, _, _, _, _, hPx, hPm, hPo, hD, hR9⟩ hS (lv_sub hl [2, 3, 4, 5, 6] rfl)
  · refine lw_octY (As := [.ref o, .int (xs ((nI i) + 1).toNatClampNeg), .ref ou]) (rest := []) hx hb hml hown hts0 (c_LOY l dC dI cK cB cI cJ o ks fa oa fb ob dr ds ou L n sp fa cr rl qs kA oA kB oB tt ss st K ov (xs ((nI i) + 1).toNatClampNeg) hf) (up_preS (up_2 hPx hPo) (hK.sub [0, 1, 2, 3] rfl) (up_leftD (up_4 hD))) rfl hl.1 rfl (Nat.le_of_ble_eq_true rfl) dL_law_742 ⟨by omega, by omega⟩ hPm (up_4 hD) hS (by rw [List.map_append, List.map_append]; rfl) (fun H locs hPxo hPm hD hS => ?_)
    have hD := up_5 hD
    have hPx := up_left hPxo
    have hPo := up_right hPxo
    have hPx : va_P (dC, dI) vwCl (dkW cK cB cI o ks fa oa fb ob dr ds L n sp fa fb cr rl qs kA oA kB oB tt ss st K) H := hPx
    have hPm : va_P (dC, dI) vwCl (mdW cI cJ cZ q aS aC aW aL aN aI aB aD aU aF n gv sz cd sp se ct aw le ne ins ba dd cr tt ss un fr rl qs) H := hPm
    have hD : va_D (lw_A s) ((dkW cK cB cI o ks fa oa fb ob dr ds L n sp fa fb cr rl qs kA oA kB oB tt ss st K) ++ ((mdW cI cJ cZ q aS aC aW aL aN aI aB aD aU aF n gv sz cd sp se ct aw le ne ins ba dd cr tt ss un fr rl qs) ++ [(ou, .inl (cJ, 1, .inr (.inl (vp_updL ov (0 : Int32).toNatClampNeg (dk_oct oB (xs ((nI i) + 1).toNatClampNeg)).toInt64))))])) := hD
    refine lv_istore (lv' := [(5, .int 0), (4, .int (nI i)), (0, .ref b), (1, .ref o), (2, .ref q), (3, .ref ou)]) hx hb dL_law_745 hl (by decide) rfl (fun ls hl => ?_)
    refine lv_aload_n hx hb dL_law_747 rfl (lv_at hl 4 rfl) ?_
    refine lv_aload_n hx hb dL_law_748 rfl (lv_at hl 2 rfl) ?_
    refine lv_iload hx hb dL_law_749 (lv_at hl 1 rfl) ?_
    refine lv_iconst (v := 1) hx hb dL_law_751 (by decide) ?_
    refine lv_iadd hx hb dL_law_752 ?_
    refine va_sld hx hb hX hbl hbA hS (lw_ix 1 (by decide) hi8 hL) dL_law_753 ?_
    refine lw_call1 (W.runV (As := [.int (xs ((nI i) + 1).toNatClampNeg)]) (rest := []) ⟨hx, hb, hml, hown, hts⟩ (c_X4_octet l dC dI cI cJ cZ q aS aC aW aL aN aI aB aD aU aF n gv sz cd sp se ct aw le ne ins ba dd cr tt ss un fr rl qs (xs ((nI i) + 1).toNatClampNeg) hR.2.2.2.2.2.1) (cwV 1 hts gL_law_X4_octet rfl rfl rfl (by decide +kernel) ⟨Nat.le_of_ble_eq_true rfl, Nat.le_of_ble_eq_true rfl⟩) (up_preV (q0 := 0) (ci := 5) hPm hKm (up_leftD (up_3 hD)) rfl rfl) rfl rfl hl.1 rfl (lv_room (Nat.le_of_ble_eq_true rfl)) dL_law_754 ⟨by show _ + 0 ≤ 670060; omega, by show _ + 0 ≤ 7085891; omega⟩) hPx hPo (up_3 hD) hS ((md_fst ..).trans (md_fst ..).symm) (fun H locs hPm hPx hPo hD hS => ?_)
    have hD := up_3 hD
    have hPx : va_P (dC, dI) vwCl (dkW cK cB cI o ks fa oa fb ob dr ds L n sp fa fb cr rl qs kA oA kB oB tt ss st K) H := hPx
    have hPm : va_P (dC, dI) vwCl (mdW cI cJ cZ q aS aC aW aL aN aI aB aD aU aF n gv sz ((md_octet sz fr (xs ((nI i) + 1).toNatClampNeg)).2) sp se ct aw le ne ins ba dd cr tt ss un fr rl qs) H := hPm
    have hD : va_D (lw_A s) ((dkW cK cB cI o ks fa oa fb ob dr ds L n sp fa fb cr rl qs kA oA kB oB tt ss st K) ++ ((mdW cI cJ cZ q aS aC aW aL aN aI aB aD aU aF n gv sz ((md_octet sz fr (xs ((nI i) + 1).toNatClampNeg)).2) sp se ct aw le ne ins ba dd cr tt ss un fr rl qs) ++ [(ou, .inl (cJ, 1, .inr (.inl (vp_updL ov (0 : Int32).toNatClampNeg (dk_oct oB (xs ((nI i) + 1).toNatClampNeg)).toInt64))))])) := hD
    refine lv_istore (lv' := [(6, .int ((md_octet sz fr (xs ((nI i) + 1).toNatClampNeg)).1)), (5, .int 0), (4, .int (nI i)), (0, .ref b), (1, .ref o), (2, .ref q), (3, .ref ou)]) hx hb dL_law_757 hl (by decide) rfl (fun ls hl => ?_)
    refine lv_aload_n hx hb dL_law_759 rfl (lv_at hl 5 rfl) ?_
    refine up_read (W.runV (As := []) (rest := []) ⟨hx, hb, hml, hown, hts⟩ (c_X4_thrown l dC dI cI cJ cZ q aS aC aW aL aN aI aB aD aU aF n gv sz ((md_octet sz fr (xs ((nI i) + 1).toNatClampNeg)).2) sp se ct aw le ne ins ba dd cr tt ss un fr rl qs) (cwV 0 hts gL_law_X4_thrown rfl rfl rfl (by decide +kernel) ⟨Nat.le_of_ble_eq_true rfl, Nat.le_of_ble_eq_true rfl⟩) (up_preV (q0 := 0) (ci := 5) hPm hKm (up_leftD (up_3 hD)) rfl rfl) rfl rfl hl.1 rfl (lv_room (Nat.le_of_ble_eq_true rfl)) dL_law_760 ⟨by show _ + 0 ≤ 670060; omega, by show _ + 0 ≤ 7085891; omega⟩) ?_
    refine lv_iload hx hb dL_law_763 (lv_at hl 1 rfl) ?_
    have pr := pr_octY hR (xs ((nI i) + 1).toNatClampNeg) hf
    refine lv_icmp_eq (tgt := 770) hx hb dL_law_765 (by decide) (fun c_765 => ?_) (fun c_765 => (c_765 pr.1).elim)
    refine lv_iload hx hb dL_law_770 (lv_at hl 1 rfl) ?_
    refine lv_if_ne (tgt := 787) hx hb dL_law_772 (by decide) (fun c_772 => absurd c_772 (by decide)) (fun c_772 => ?_)
    refine lv_aload_n hx hb dL_law_775 rfl (lv_at hl 6 rfl) ?_
    refine lv_iconst (v := 0) hx hb dL_law_776 (by decide) ?_
    refine va_lald hx hb hK hPo 0 3 rfl rfl (show vp_in (nI 0) 1 from vp_in_nI (by decide) (by decide)) dL_law_777 ?_
    refine lv_iload hx hb dL_law_778 (lv_at hl 0 rfl) ?_
    refine lv_i2l (v := ((md_octet sz fr (xs ((nI i) + 1).toNatClampNeg)).1).toInt64) hx hb dL_law_780 rfl ?_
    refine W.lcmp hx hb dL_law_781 ?_
    refine lv_if_eq (tgt := 787) hx hb dL_law_782 (by decide) (fun c_782 => ?_) (fun c_782 => (c_782 (lw_cmp0 (by rw [pk_uLs]; exact pr.2))).elim)
    refine lv_goto (tgt := 815) hx hb dL_law_787 (by decide) ?_
    have hR9 := hR.up (Nat.le_succ N)
    refine W.widen (k := cells + 1) (n := slots + 7) (by omega) (by omega) ?_
    exact hcont _ _ ls ⟨_, _, _, _, _, _, _, _, _, _, _, _, _, _, _, _, _, _, _, _, _, _, _, _, _, _, _, _, _, _, _, _, _, _, _, _, _, _, _, _, _, _, _, _, _, hPx, hPm, hPo, hD, hR9⟩ hS (lv_sub hl [2, 3, 4, 5, 6] rfl)
