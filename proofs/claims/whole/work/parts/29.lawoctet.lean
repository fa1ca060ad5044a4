/-! The law's own two small methods: cell, and octet with its catch. -/
theorem up_left {D : va_G} {cl : List vw_C} {w1 w2 : va_W} {H : Heap} (h : va_P D cl (w1 ++ w2) H) : va_P D cl w1 H := fun k q hk => h k q (by rw [List.getElem?_append_left (List.getElem?_eq_some_iff.mp hk).1]; exact hk)
theorem up_right {D : va_G} {cl : List vw_C} {w1 w2 : va_W} {H : Heap} (h : va_P D cl (w1 ++ w2) H) : va_P D cl w2 H := fun k q hk => h (k + w1.length) q (by rw [List.getElem?_append_right (by omega), Nat.add_sub_cancel]; exact hk)
theorem up_leftD {A : Nat → Prop} {w1 w2 : va_W} (h : va_D A (w1 ++ w2)) : va_D A w1 := by
  have key : ∀ (k : Nat) (q : Nat × va_E), w1[k]? = some q → (w1 ++ w2)[k]? = some q := fun k q hk => by rw [List.getElem?_append_left (List.getElem?_eq_some_iff.mp hk).1]; exact hk
  exact ⟨fun i j x y hi hj hxy => h.1 i j x y (key i x hi) (key j y hj) hxy, fun k q hk => h.2 k q (key k q hk)⟩
theorem up_rightD {A : Nat → Prop} {w1 w2 : va_W} (h : va_D A (w1 ++ w2)) : va_D A w2 := by
  have key : ∀ (k : Nat) (q : Nat × va_E), w2[k]? = some q → (w1 ++ w2)[k + w1.length]? = some q := fun k q hk => by rw [List.getElem?_append_right (by omega), Nat.add_sub_cancel]; exact hk
  exact ⟨fun i j x y hi hj hxy => by have := h.1 _ _ x y (key i x hi) (key j y hj) hxy; omega, fun k q hk => h.2 _ q (key k q hk)⟩
def wsLO : List Cond := wsL_octet ++ (.classLink RL 13 RJx00060 :: tk_at.filter goodWord)
theorem wsLO_l : ∀ w ∈ wsL_octet, w ∈ wsLO := fun w h => by unfold wsLO; exact List.mem_append_left _ h
theorem wsLO_good {w : Cond} (h : w ∈ tk_at.filter goodWord) : w ∈ wsLO := by unfold wsLO; exact List.mem_append_right _ (List.mem_cons_of_mem _ h)
theorem tk_goodF {w : Cond} (h : w ∈ tk_at.filter goodWord) : (w.onTables && w.keeps) = true ∨ ∃ ty, w = .arrayClass ty := good_of_word (List.mem_filter.mp h).2
theorem gLO_Y : GoodIn wsLO (wsV RL 7 RX3 yX3_octet wsX3_octet) := fun w h => ⟨wsLO_l w (gL_octet_X3_octet w h).1, (gL_octet_X3_octet w h).2⟩
theorem gLO_N : GoodIn wsLO (wsV RL 7 RX3 yX3_octet wsOT) := by
  intro w h
  unfold wsV wsOT at h
  rw [← List.append_assoc] at h
  rcases List.mem_append.mp h with h | h
  · exact gLO_Y w h
  · exact ⟨wsLO_good h, tk_goodF h⟩
def rm_LOY : Room := { frames := 2, cells := 0, slots := 0, locals := 81 }
def rm_LON : Room := { frames := 8, cells := 1, slots := 6, locals := 121 }
set_option maxHeartbeats 4000000 in
set_option maxRecDepth 100000 in
theorem c_LOY (l : Launch) (dC : Nat → ClassId) (dI : Nat → Nat → Nat) (cK cB cI cJ : ClassId) (o ks fa oa fb ob dr ds ou : Nat) (L : Nat → Nat) (n : Nat) (sp : Int32) (co : Nat) (cr rl qs kA : Int32) (oA : Nat → Int8) (kB : Int32) (oB : Nat → Int8) (tt ss : Int64) (st : Nat → Int32) (K : Nat → KR) (ov : Nat → Int64) (x : Int32) (hy : ¬ dk_fhas kB x = 0) : Met l yL_octet wsLO rm_LOY (up_P (dC, dI) vwCl (dkT cK cB cI ++ [(cJ, .long)]) ((dkW cK cB cI o ks fa oa fb ob dr ds L n sp co fb cr rl qs kA oA kB oB tt ss st K) ++ [(ou, .inl (cJ, 1, .inr (.inl ov)))]) [.ref o, .int x, .ref ou]) (up_Q (dC, dI) vwCl (some (.int 0)) ((dkW cK cB cI o ks fa oa fb ob dr ds L n sp co fb cr rl qs kA oA kB oB tt ss st K) ++ [(ou, .inl (cJ, 1, .inr (.inl ov)))]) ((dkW cK cB cI o ks fa oa fb ob dr ds L n sp co fb cr rl qs kA oA kB oB tt ss st K) ++ [(ou, .inl (cJ, 1, .inr (.inl (vp_updL ov (0 : Int32).toNatClampNeg (dk_oct oB x).toInt64))))])) 0 0 (up_c ((dkW cK cB cI o ks fa oa fb ob dr ds L n sp co fb cr rl qs kA oA kB oB tt ss st K) ++ [(ou, .inl (cJ, 1, .inr (.inl ov)))])) := by
  refine va_MetW (cc := cL_octet) (maxL := 4) (ret := (some .int)) (hh := [(0, 9, 12, 13)]) (by decide) rfl ?_
  intro p e s m args below meth c s₁ B hml hv
  obtain ⟨rfl, hP, hK, hD0⟩ := hv
  have hx := B.exec
  have hb := B.bytes
  have hr := B.returns
  have hts := atoms_spec (ws := wsLO) B.pre
  have hown : s.vm.findClass RL = some m.cls := findClass_of_methodNamed B.named
  have hlocks := B.notSynchronized
  have hl := lv_entry ([.ref o, .int x, .ref ou]) (n := 4) (Nat.le_of_ble_eq_true rfl)
  rw [lg_entry_eq]
  generalize (lg_sl ([.ref o, .int x, .ref ou]) ++ List.replicate (4 - (lg_sl ([.ref o, .int x, .ref ou])).length) Slot.unset).toArray = ls at hl ⊢
  have hl : lv_has ls 4 [(0, .ref o), (1, .int x), (2, .ref ou)] := hl
  refine lv_aload_n hx hb dL_octet_0 rfl (lv_at hl 2 rfl) ?_
  refine lv_iconst (v := 0) hx hb dL_octet_1 (by decide) ?_
  refine lv_aload_n hx hb dL_octet_2 rfl (lv_at hl 0 rfl) ?_
  refine lv_iload_n hx hb dL_octet_3 rfl (lv_at hl 1 rfl) ?_
  have hD := up_self hD0
  have hS : va_S (up_c ((dkW cK cB cI o ks fa oa fb ob dr ds L n sp co fb cr rl qs kA oA kB oB tt ss st K) ++ [(ou, .inl (cJ, 1, .inr (.inl ov)))])) s.heap s.heap [] := va_S.rf
  have hKx : va_K (dC, dI) vwCl (dkT cK cB cI) s := hK.sub [0, 1, 2] rfl
  refine up_read (W.runV (As := [.int x]) (rest := [.int 0, .ref ou]) ⟨hx, hb, hml, hown, hts⟩ (c_X3_octY l dC dI cK cB cI o ks fa oa fb ob dr ds L n sp co cr rl qs kA oA kB oB tt ss st K x hy) (cwV 1 hts gLO_Y rfl rfl rfl (by decide +kernel) ⟨Nat.le_of_ble_eq_true rfl, Nat.le_of_ble_eq_true rfl⟩) (up_preV (q0 := 0) (ci := 4) (up_left hP) hKx (up_leftD hD) rfl rfl) rfl rfl hl.1 rfl (lv_room (Nat.le_of_ble_eq_true rfl)) dL_octet_4 ⟨Nat.le_of_ble_eq_true rfl, Nat.le_of_ble_eq_true rfl⟩) ?_
  refine lv_i2l (v := (dk_oct oB x).toInt64) hx hb dL_octet_7 rfl ?_
  refine va_last hx hb hK hP hD hS (n + 8) 3 dk_newat rfl (show vp_in (nI 0) 1 from vp_in_nI (by decide) (by decide)) dL_octet_8 (fun H locs hP hD hS => ?_)
  have e9 : List.set (α := Nat × va_E) ((dkW cK cB cI o ks fa oa fb ob dr ds L n sp co fb cr rl qs kA oA kB oB tt ss st K) ++ [(ou, .inl (cJ, 1, .inr (.inl ov)))]) (n + 8) (ou, .inl (cJ, 1, .inr (.inl (vp_updL ov (0 : Int32).toNatClampNeg (dk_oct oB x).toInt64)))) = ((dkW cK cB cI o ks fa oa fb ob dr ds L n sp co fb cr rl qs kA oA kB oB tt ss st K) ++ [(ou, .inl (cJ, 1, .inr (.inl (vp_updL ov (0 : Int32).toNatClampNeg (dk_oct oB x).toInt64))))]) := by
    have hlen : (dkW cK cB cI o ks fa oa fb ob dr ds L n sp co fb cr rl qs kA oA kB oB tt ss st K).length = n + 8 := by unfold dkW; simp [kpool]
    rw [List.set_append_right _ _ (by omega), hlen, Nat.sub_self]
    rfl
  have hP : va_P (dC, dI) vwCl ((dkW cK cB cI o ks fa oa fb ob dr ds L n sp co fb cr rl qs kA oA kB oB tt ss st K) ++ [(ou, .inl (cJ, 1, .inr (.inl (vp_updL ov (0 : Int32).toNatClampNeg (dk_oct oB x).toInt64))))]) H := up_cast e9 hP
  refine lv_goto (tgt := 15) hx hb dL_octet_9 (by decide) ?_
  refine lv_iconst (v := 0) hx hb dL_octet_15 (by decide) ?_
  exact W.iret (v := 0) hx hb hr (fun t ht hW => ⟨rfl, by rw [ht]; exact hP, hS.F ht⟩) hS.2.2 dL_octet_16
set_option maxHeartbeats 4000000 in
set_option maxRecDepth 100000 in
theorem c_LON (l : Launch) (hfl : l.flags = flags0) (dC : Nat → ClassId) (dI : Nat → Nat → Nat) (cK cB cI : ClassId) (o ks fa oa fb ob dr ds ou : Nat) (L : Nat → Nat) (n : Nat) (sp : Int32) (co : Nat) (cr rl qs kA : Int32) (oA : Nat → Int8) (kB : Int32) (oB : Nat → Int8) (tt ss : Int64) (st : Nat → Int32) (K : Nat → KR) (x : Int32) (hno : dk_fhas kB x = 0) : Met l yL_octet wsLO rm_LON (tk_P (dC, dI) vwCl (dkT cK cB cI) (dkW cK cB cI o ks fa oa fb ob dr ds L n sp co fb cr rl qs kA oA kB oB tt ss st K) [.ref o, .int x, .ref ou]) (fun _ st oc t => oc = .returned (some (.int 1)) ∧ va_F (fun _ => False) st t) 1 6 (fun _ => False) := by
  refine va_MetW (cc := cL_octet) (maxL := 4) (ret := (some .int)) (hh := [(0, 9, 12, 13)]) (by decide) rfl ?_
  intro p e s m args below meth c s₁ B hml hv
  obtain ⟨rfl, hP, hK, hD0, hN⟩ := hv
  have hx := B.exec
  have hb := B.bytes
  have hr := B.returns
  have hts := atoms_spec (ws := wsLO) B.pre
  have hown : s.vm.findClass RL = some m.cls := findClass_of_methodNamed B.named
  have hlocks := B.notSynchronized
  have hl := lv_entry ([.ref o, .int x, .ref ou]) (n := 4) (Nat.le_of_ble_eq_true rfl)
  rw [lg_entry_eq]
  generalize (lg_sl ([.ref o, .int x, .ref ou]) ++ List.replicate (4 - (lg_sl ([.ref o, .int x, .ref ou])).length) Slot.unset).toArray = ls at hl ⊢
  have hl : lv_has ls 4 [(0, .ref o), (1, .int x), (2, .ref ou)] := hl
  refine lv_aload_n hx hb dL_octet_0 rfl (lv_at hl 2 rfl) ?_
  refine lv_iconst (v := 0) hx hb dL_octet_1 (by decide) ?_
  refine lv_aload_n hx hb dL_octet_2 rfl (lv_at hl 0 rfl) ?_
  refine lv_iload_n hx hb dL_octet_3 rfl (lv_at hl 1 rfl) ?_
  obtain ⟨m', meth', c', g1, g2, g3, g4, g5, g6, g7, g8, g9⟩ := Cond.codeWith_spec (hts (.codeWith yL_octet cL_octet 4 (some .int) [(0, 9, 12, 13)]) (wsLO_l _ List.mem_cons_self))
  cases B.named.symm.trans g1
  cases B.method.symm.trans g2
  cases (Stand.of_body B).code.symm.trans g3
  obtain ⟨xe, hxe, hx1, hx2, hx3, hx4⟩ : ∃ xe : ExceptionTableEntry, c.exceptionTable.toList = [xe] ∧ xe.startPc = 0 ∧ xe.endPc = 9 ∧ xe.handlerPc = 12 ∧ xe.catchType = 13 := by
    generalize c.exceptionTable.toList = tl at g6
    match tl, g6 with
    | [], h => simp at h
    | [a], h => simp at h; exact ⟨a, rfl, h.1, h.2.1, h.2.2.1, h.2.2.2⟩
    | a :: b :: r, h => simp at h
  refine tk_call (C := RX3) (rm := rm_OT) (b := o) (As := [.int x]) (rest := [.int 0, .ref ou]) ⟨hx, hb, hml, hown, hts⟩ (c_X3_octN l hfl dC dI cK cB cI o ks fa oa fb ob dr ds L n sp co cr rl qs kA oA kB oB tt ss st K x hno) (cwV 1 hts gLO_N rfl rfl rfl (by decide +kernel) ⟨Nat.le_of_ble_eq_true rfl, Nat.le_of_ble_eq_true rfl⟩) (tk_preV (q0 := 0) (ci := 4) hP hK hD0 hN (fun _ _ => rfl) rfl rfl) rfl hl.1 rfl (Nat.le_of_ble_eq_true rfl) dL_octet_4 ⟨Nat.le_of_ble_eq_true rfl, Nat.le_of_ble_eq_true rfl⟩ hxe (by simp [covers, hx1, hx2]) (by rw [hx4]; decide) (by rw [hx4]; exact hts (.classLink RL 13 RJx00060) (by unfold wsLO; exact List.mem_append_right _ List.mem_cons_self)) (fun q H1 hz hk => ?_)
  rw [hx3]
  refine lv_astore_n (lv' := [(3, .ref q), (0, .ref o), (1, .int x), (2, .ref ou)]) hx hb dL_octet_12 rfl hl (by decide) rfl (fun ls hl => ?_)
  refine lv_iconst (v := 1) hx hb dL_octet_13 (by decide) ?_
  exact W.iret (v := 1) hx hb hr (fun t ht hW => ⟨rfl, by rw [ht]; exact hz, fun q hq _ => by rw [ht]; exact hk q hq⟩) (fun q h => by cases h) dL_octet_14
def lw_c0 (L : Nat) (xs : Nat → Int32) : Int32 := if Int32.ofNat L ≤ 0 then 0 else xs (0 : Int32).toNatClampNeg
def rm_cell : Room := { frames := 0, cells := 0, slots := 0, locals := 0 }
set_option maxHeartbeats 4000000 in
theorem c_cell (l : Launch) (b L : Nat) (xs : Nat → Int32) (hL : L ≤ 4097) : Met l yL_cell wsL_cell rm_cell (va_Pc [.ref b, .int 0] (fun U => va_X b L xs U U.heap)) (k2_QcV (.int (lw_c0 L xs))) 0 0 (fun _ => False) := by
  refine Met.ofW (cc := cL_cell) (maxL := 2) (ret := (some .int)) (by decide) rfl ?_
  intro p e s m args below meth c s₁ B hml hv
  obtain ⟨rfl, hX⟩ := hv
  have hx := B.exec
  have hb := B.bytes
  have hr := B.returns
  have hlocks := B.notSynchronized
  have hbl : b < s.heap.size := by
    obtain ⟨scr, h1, -⟩ := hX
    exact (Array.getElem?_eq_some_iff.mp h1).1
  have hS : va_S (fun _ => False) s.heap s.heap [] := va_S.rf
  have hl := lv_entry ([.ref b, .int 0]) (n := 2) (Nat.le_of_ble_eq_true rfl)
  rw [lg_entry_eq]
  generalize (lg_sl ([.ref b, .int 0]) ++ List.replicate (2 - (lg_sl ([.ref b, .int 0])).length) Slot.unset).toArray = ls at hl ⊢
  have hl : lv_has ls 2 [(0, .ref b), (1, .int 0)] := hl
  refine lv_iload_n hx hb dL_cell_0 rfl (lv_at hl 1 rfl) ?_
  refine lv_aload_n hx hb dL_cell_1 rfl (lv_at hl 0 rfl) ?_
  refine va_slen hx hb hX hbl (fun z => z) hS dL_cell_2 ?_
  refine lv_icmp_ge (tgt := 12) hx hb dL_cell_3 (by decide) (fun c_3 => ?_) (fun c_3 => ?_)
  · refine lv_iconst (v := 0) hx hb dL_cell_12 (by decide) ?_
    have e_ : lw_c0 L xs = 0 := by unfold lw_c0; exact if_pos c_3
    rw [e_]
    exact W.iret (v := 0) hx hb hr (fun t ht hW => ⟨rfl, ht⟩) (fun q h => absurd h List.not_mem_nil) dL_cell_13
  · have hpos : 0 < L := Nat.pos_of_ne_zero (fun z => c_3 (by rw [z]; decide))
    refine lv_aload_n hx hb dL_cell_6 rfl (lv_at hl 0 rfl) ?_
    refine lv_iload_n hx hb dL_cell_7 rfl (lv_at hl 1 rfl) ?_
    refine va_sld hx hb hX hbl (fun z => z) hS (show vp_in (nI 0) L from vp_in_nI hpos (by omega)) dL_cell_8 ?_
    refine lv_goto (tgt := 13) hx hb dL_cell_9 (by decide) ?_
    have e_ : lw_c0 L xs = xs (0 : Int32).toNatClampNeg := by unfold lw_c0; exact if_neg c_3
    rw [e_]
    exact W.iret (v := xs (0 : Int32).toNatClampNeg) hx hb hr (fun t ht hW => ⟨rfl, ht⟩) (fun q h => absurd h List.not_mem_nil) dL_cell_13
