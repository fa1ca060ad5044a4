/-! remote (laid by wip/gen.py) -/
set_option maxRecDepth 20000 in
theorem inn_X3_remote_X3 : ∀ w ∈ wsX30, w ∈ wsX3_remote := by decide +kernel
def dk_rem0 (kA : Int32) (oA : Nat → Int8) (b : Int8) : Int32 × Int32 × (Nat → Int8) :=
  ((0 : Int32), (dk_keep kA oA b).1, (dk_keep kA oA b).2)
def rm_X3_remote0 : Room := { frames := 5, cells := 0, slots := 0, locals := 110 }
set_option maxHeartbeats 4000000 in
set_option maxRecDepth 100000 in
theorem c_X3_remote0 (l : Launch) (dC : Nat → ClassId) (dI : Nat → Nat → Nat) (cK : ClassId) (cB : ClassId) (cI : ClassId) (o : Nat) (ks : Nat) (fa : Nat) (oa : Nat) (fb : Nat) (ob : Nat) (dr : Nat) (ds : Nat) (L : Nat → Nat) (n : Nat) (sp : Int32) (cr : Int32) (rl : Int32) (qs : Int32) (kA : Int32) (oA : Nat → Int8) (kB : Int32) (oB : Nat → Int8) (tt : Int64) (ss : Int64) (st : Nat → Int32) (K : Nat → KR) (b : Int8) (hn : n ≤ 8) : Met l yX3_remote wsX3_remote rm_X3_remote0 (up_P (dC, dI) vwCl (dkT cK cB cI) (dkW cK cB cI o ks fa oa fb ob dr ds L n sp fa fb cr rl qs kA oA kB oB tt ss st K) [.ref o, .int b.toInt32, .int 0]) (up_Q (dC, dI) vwCl (some (.int ((dk_rem0 kA oA b).1))) (dkW cK cB cI o ks fa oa fb ob dr ds L n sp fa fb cr rl qs kA oA kB oB tt ss st K) (dkW cK cB cI o ks fa oa fb ob dr ds L n sp fa fb cr rl qs ((dk_rem0 kA oA b).2.1) ((dk_rem0 kA oA b).2.2) kB oB tt ss st K)) 0 0 (up_c (dkW cK cB cI o ks fa oa fb ob dr ds L n sp fa fb cr rl qs kA oA kB oB tt ss st K)) := by
  refine Met.ofW (cc := cX3_remote) (maxL := 4) (ret := (some .int)) (by decide) rfl ?_
  intro p e s m args below meth c s₁ B hml hv
  obtain ⟨rfl, hP, hK, hD0⟩ := hv
  have hx := B.exec
  have hb := B.bytes
  have hr := B.returns
  have hts := atoms_spec (ws := wsX3_remote) B.pre
  have hown : s.vm.findClass RX3 = some m.cls := findClass_of_methodNamed B.named
  have hlocks := B.notSynchronized
  have hD := up_self hD0
  have hS : va_S (up_c (dkW cK cB cI o ks fa oa fb ob dr ds L n sp fa fb cr rl qs kA oA kB oB tt ss st K)) s.heap s.heap [] := va_S.rf
  have hl := lv_entry ([.ref o, .int b.toInt32, .int 0]) (n := 4) (Nat.le_of_ble_eq_true rfl)
  rw [lg_entry_eq]
  generalize (lg_sl ([.ref o, .int b.toInt32, .int 0]) ++ List.replicate (4 - (lg_sl ([.ref o, .int b.toInt32, .int 0])).length) Slot.unset).toArray = ls at hl ⊢
  have hl : lv_has ls 4 [(0, .ref o), (1, .int b.toInt32), (2, .int 0)] := hl
  refine lv_aload_n hx hb dX3_remote_0 rfl (lv_at hl 0 rfl) ?_
  refine va_get (D := (dC, dI)) (ci := 4) (v := .ref fa) (C := RX3) (T := TX3) (N := 9) hx hb hts inn_X3_remote_X3 hown hK hP 0 rfl rfl 3 (by decide) (hts (.fieldLink RX3 22 "DoorKeys" "coming" "LDoorKeys$Frame;") (by decide +kernel)) (fun _ h9 => h9) rfl dX3_remote_1 ?_
  refine lv_iload_n hx hb dX3_remote_4 rfl (lv_at hl 1 rfl) ?_
  refine up_call (W.runV (As := [.int b.toInt32]) (rest := []) ⟨hx, hb, hml, hown, hts⟩ (c_X1_keep l dC dI cK cB cI o ks fa oa fb ob dr ds L n sp fa fb cr rl qs kA oA kB oB tt ss st K b) (cwV 1 hts gX3_remote_X1_keep rfl rfl rfl (by decide +kernel) ⟨Nat.le_of_ble_eq_true rfl, Nat.le_of_ble_eq_true rfl⟩) (up_preV (q0 := 2) (ci := 2) hP hK hD rfl rfl) rfl rfl hl.1 rfl (lv_room (Nat.le_of_ble_eq_true rfl)) dX3_remote_5 ⟨Nat.le_of_ble_eq_true rfl, Nat.le_of_ble_eq_true rfl⟩) hD hS ((dk_fst ..).trans (dk_fst ..).symm) (fun H locs hP hD hS _ _ => ?_)
  have hP : va_P (dC, dI) vwCl (dkW cK cB cI o ks fa oa fb ob dr ds L n sp fa fb cr rl qs ((dk_keep kA oA b).1) ((dk_keep kA oA b).2) kB oB tt ss st K) H := hP
  have hD : va_D (up_c (dkW cK cB cI o ks fa oa fb ob dr ds L n sp fa fb cr rl qs kA oA kB oB tt ss st K)) (dkW cK cB cI o ks fa oa fb ob dr ds L n sp fa fb cr rl qs ((dk_keep kA oA b).1) ((dk_keep kA oA b).2) kB oB tt ss st K) := hD
  refine lv_iload_n hx hb dX3_remote_8 rfl (lv_at hl 2 rfl) ?_
  refine lv_if_ne (tgt := 14) hx hb dX3_remote_9 (by decide) (fun c_9 => absurd c_9 (by decide)) (fun c_9 => ?_)
  refine lv_iconst (v := 0) hx hb dX3_remote_12 (by decide) ?_
  have e_ : dk_rem0 kA oA b = ((0 : Int32), (dk_keep kA oA b).1, (dk_keep kA oA b).2) := by unfold dk_rem0; exact rfl
  rw [e_]
  exact W.iret (v := 0) hx hb hr (fun t ht hW => ⟨rfl, by rw [ht]; exact hP, hS.F ht⟩) hS.2.2 dX3_remote_13
def dk_rem1 (n : Nat) (sp : Int32) (cr : Int32) (kA : Int32) (oA : Nat → Int8) (tt : Int64) (ss : Int64) (st : Nat → Int32) (K : Nat → KR) (b : Int8) : Int32 × Int32 × (Nat → Int8) × Int32 × (Nat → KR) × (Nat → Int32) × Int64 :=
  ((dk_judge n sp cr ((dk_keep kA oA b).1) ((dk_keep kA oA b).2) tt ss st K).1, (dk_keep kA oA b).1, (dk_keep kA oA b).2, dk_clear, (dk_judge n sp cr ((dk_keep kA oA b).1) ((dk_keep kA oA b).2) tt ss st K).2.1, (dk_judge n sp cr ((dk_keep kA oA b).1) ((dk_keep kA oA b).2) tt ss st K).2.2.1, (dk_judge n sp cr ((dk_keep kA oA b).1) ((dk_keep kA oA b).2) tt ss st K).2.2.2)
def rm_X3_remote1 : Room := { frames := 5, cells := 0, slots := 0, locals := 110 }
set_option maxHeartbeats 4000000 in
set_option maxRecDepth 100000 in
theorem c_X3_remote1 (l : Launch) (dC : Nat → ClassId) (dI : Nat → Nat → Nat) (cK : ClassId) (cB : ClassId) (cI : ClassId) (o : Nat) (ks : Nat) (fa : Nat) (oa : Nat) (fb : Nat) (ob : Nat) (dr : Nat) (ds : Nat) (L : Nat → Nat) (n : Nat) (sp : Int32) (cr : Int32) (rl : Int32) (qs : Int32) (kA : Int32) (oA : Nat → Int8) (kB : Int32) (oB : Nat → Int8) (tt : Int64) (ss : Int64) (st : Nat → Int32) (K : Nat → KR) (b : Int8) (hn : n ≤ 8) : Met l yX3_remote wsX3_remote rm_X3_remote1 (up_P (dC, dI) vwCl (dkT cK cB cI) (dkW cK cB cI o ks fa oa fb ob dr ds L n sp fa fb cr rl qs kA oA kB oB tt ss st K) [.ref o, .int b.toInt32, .int 1]) (up_Q (dC, dI) vwCl (some (.int ((dk_rem1 n sp cr kA oA tt ss st K b).1))) (dkW cK cB cI o ks fa oa fb ob dr ds L n sp fa fb cr rl qs kA oA kB oB tt ss st K) (dkW cK cB cI o ks fa oa fb ob dr ds L n sp fb fa cr rl qs ((dk_rem1 n sp cr kA oA tt ss st K b).2.1) ((dk_rem1 n sp cr kA oA tt ss st K b).2.2.1) ((dk_rem1 n sp cr kA oA tt ss st K b).2.2.2.1) oB tt ((dk_rem1 n sp cr kA oA tt ss st K b).2.2.2.2.2.2) ((dk_rem1 n sp cr kA oA tt ss st K b).2.2.2.2.2.1) ((dk_rem1 n sp cr kA oA tt ss st K b).2.2.2.2.1))) 0 0 (up_c (dkW cK cB cI o ks fa oa fb ob dr ds L n sp fa fb cr rl qs kA oA kB oB tt ss st K)) := by
  refine Met.ofW (cc := cX3_remote) (maxL := 4) (ret := (some .int)) (by decide) rfl ?_
  intro p e s m args below meth c s₁ B hml hv
  obtain ⟨rfl, hP, hK, hD0⟩ := hv
  have hx := B.exec
  have hb := B.bytes
  have hr := B.returns
  have hts := atoms_spec (ws := wsX3_remote) B.pre
  have hown : s.vm.findClass RX3 = some m.cls := findClass_of_methodNamed B.named
  have hlocks := B.notSynchronized
  have hD := up_self hD0
  have hS : va_S (up_c (dkW cK cB cI o ks fa oa fb ob dr ds L n sp fa fb cr rl qs kA oA kB oB tt ss st K)) s.heap s.heap [] := va_S.rf
  have hl := lv_entry ([.ref o, .int b.toInt32, .int 1]) (n := 4) (Nat.le_of_ble_eq_true rfl)
  rw [lg_entry_eq]
  generalize (lg_sl ([.ref o, .int b.toInt32, .int 1]) ++ List.replicate (4 - (lg_sl ([.ref o, .int b.toInt32, .int 1])).length) Slot.unset).toArray = ls at hl ⊢
  have hl : lv_has ls 4 [(0, .ref o), (1, .int b.toInt32), (2, .int 1)] := hl
  refine lv_aload_n hx hb dX3_remote_0 rfl (lv_at hl 0 rfl) ?_
  refine va_get (D := (dC, dI)) (ci := 4) (v := .ref fa) (C := RX3) (T := TX3) (N := 9) hx hb hts inn_X3_remote_X3 hown hK hP 0 rfl rfl 3 (by decide) (hts (.fieldLink RX3 22 "DoorKeys" "coming" "LDoorKeys$Frame;") (by decide +kernel)) (fun _ h9 => h9) rfl dX3_remote_1 ?_
  refine lv_iload_n hx hb dX3_remote_4 rfl (lv_at hl 1 rfl) ?_
  refine up_call (W.runV (As := [.int b.toInt32]) (rest := []) ⟨hx, hb, hml, hown, hts⟩ (c_X1_keep l dC dI cK cB cI o ks fa oa fb ob dr ds L n sp fa fb cr rl qs kA oA kB oB tt ss st K b) (cwV 1 hts gX3_remote_X1_keep rfl rfl rfl (by decide +kernel) ⟨Nat.le_of_ble_eq_true rfl, Nat.le_of_ble_eq_true rfl⟩) (up_preV (q0 := 2) (ci := 2) hP hK hD rfl rfl) rfl rfl hl.1 rfl (lv_room (Nat.le_of_ble_eq_true rfl)) dX3_remote_5 ⟨Nat.le_of_ble_eq_true rfl, Nat.le_of_ble_eq_true rfl⟩) hD hS ((dk_fst ..).trans (dk_fst ..).symm) (fun H locs hP hD hS _ _ => ?_)
  have hP : va_P (dC, dI) vwCl (dkW cK cB cI o ks fa oa fb ob dr ds L n sp fa fb cr rl qs ((dk_keep kA oA b).1) ((dk_keep kA oA b).2) kB oB tt ss st K) H := hP
  have hD : va_D (up_c (dkW cK cB cI o ks fa oa fb ob dr ds L n sp fa fb cr rl qs kA oA kB oB tt ss st K)) (dkW cK cB cI o ks fa oa fb ob dr ds L n sp fa fb cr rl qs ((dk_keep kA oA b).1) ((dk_keep kA oA b).2) kB oB tt ss st K) := hD
  refine lv_iload_n hx hb dX3_remote_8 rfl (lv_at hl 2 rfl) ?_
  refine lv_if_ne (tgt := 14) hx hb dX3_remote_9 (by decide) (fun c_9 => ?_) (fun c_9 => absurd c_9 (by decide))
  refine lv_aload_n hx hb dX3_remote_14 rfl (lv_at hl 0 rfl) ?_
  refine va_get (D := (dC, dI)) (ci := 4) (v := .ref fa) (C := RX3) (T := TX3) (N := 9) hx hb hts inn_X3_remote_X3 hown hK hP 0 rfl rfl 3 (by decide) (hts (.fieldLink RX3 22 "DoorKeys" "coming" "LDoorKeys$Frame;") (by decide +kernel)) (fun _ h9 => h9) rfl dX3_remote_15 ?_
  refine lv_astore_n (lv' := [(3, .ref fa), (0, .ref o), (1, .int b.toInt32), (2, .int 1)]) hx hb dX3_remote_18 rfl hl (by decide) rfl (fun ls hl => ?_)
  refine lv_aload_n hx hb dX3_remote_19 rfl (lv_at hl 1 rfl) ?_
  refine lv_aload_n hx hb dX3_remote_20 rfl (lv_at hl 1 rfl) ?_
  refine va_get (D := (dC, dI)) (ci := 4) (v := .ref fb) (C := RX3) (T := TX3) (N := 9) hx hb hts inn_X3_remote_X3 hown hK hP 0 rfl rfl 4 (by decide) (hts (.fieldLink RX3 26 "DoorKeys" "ended" "LDoorKeys$Frame;") (by decide +kernel)) (fun _ h9 => h9) rfl dX3_remote_21 ?_
  refine va_put (D := (dC, dI)) (ci := 4) (v := .ref fb) (ty := .object "DoorKeys$Frame") (C := RX3) (T := TX3) (N := 9) hx hb hts inn_X3_remote_X3 tyX3 tyX3_ok nmX3 hown hK hP hD hS 0 rfl rfl 3 (by decide) (hts (.fieldLink RX3 22 "DoorKeys" "coming" "LDoorKeys$Frame;") (by decide +kernel)) (fun _ h9 => h9) rfl (by decide +kernel) rfl rfl (Nat.le_of_ble_eq_true rfl) dX3_remote_24 (fun H locs hP hD hS => ?_)
  have hP : va_P (dC, dI) vwCl (dkW cK cB cI o ks fa oa fb ob dr ds L n sp fb fb cr rl qs ((dk_keep kA oA b).1) ((dk_keep kA oA b).2) kB oB tt ss st K) H := hP
  have hD : va_D (up_c (dkW cK cB cI o ks fa oa fb ob dr ds L n sp fa fb cr rl qs kA oA kB oB tt ss st K)) (dkW cK cB cI o ks fa oa fb ob dr ds L n sp fb fb cr rl qs ((dk_keep kA oA b).1) ((dk_keep kA oA b).2) kB oB tt ss st K) := hD
  have hP := dk_swapP hP
  have hD := dk_swapD hD
  have hP : va_P (dC, dI) vwCl (dkW cK cB cI o ks fb ob fa oa dr ds L n sp fb fb cr rl qs kB oB ((dk_keep kA oA b).1) ((dk_keep kA oA b).2) tt ss st K) H := hP
  have hD : va_D (up_c (dkW cK cB cI o ks fa oa fb ob dr ds L n sp fa fb cr rl qs kA oA kB oB tt ss st K)) (dkW cK cB cI o ks fb ob fa oa dr ds L n sp fb fb cr rl qs kB oB ((dk_keep kA oA b).1) ((dk_keep kA oA b).2) tt ss st K) := hD
  refine lv_aload_n hx hb dX3_remote_27 rfl (lv_at hl 1 rfl) ?_
  refine va_get (D := (dC, dI)) (ci := 4) (v := .ref fb) (C := RX3) (T := TX3) (N := 9) hx hb hts inn_X3_remote_X3 hown hK hP 0 rfl rfl 3 (by decide) (hts (.fieldLink RX3 22 "DoorKeys" "coming" "LDoorKeys$Frame;") (by decide +kernel)) (fun _ h9 => h9) rfl dX3_remote_28 ?_
  refine up_call (W.runV (As := []) (rest := []) ⟨hx, hb, hml, hown, hts⟩ (c_X1_clear l dC dI cK cB cI o ks fb ob fa oa dr ds L n sp fb fb cr rl qs kB oB ((dk_keep kA oA b).1) ((dk_keep kA oA b).2) tt ss st K) (cwV 0 hts gX3_remote_X1_clear rfl rfl rfl (by decide +kernel) ⟨Nat.le_of_ble_eq_true rfl, Nat.le_of_ble_eq_true rfl⟩) (up_preV (q0 := 2) (ci := 2) hP hK hD rfl rfl) rfl rfl hl.1 rfl (lv_room (Nat.le_of_ble_eq_true rfl)) dX3_remote_31 ⟨Nat.le_of_ble_eq_true rfl, Nat.le_of_ble_eq_true rfl⟩) hD hS ((dk_fst ..).trans (dk_fst ..).symm) (fun H locs hP hD hS _ _ => ?_)
  have hP : va_P (dC, dI) vwCl (dkW cK cB cI o ks fb ob fa oa dr ds L n sp fb fb cr rl qs dk_clear oB ((dk_keep kA oA b).1) ((dk_keep kA oA b).2) tt ss st K) H := hP
  have hD : va_D (up_c (dkW cK cB cI o ks fa oa fb ob dr ds L n sp fa fb cr rl qs kA oA kB oB tt ss st K)) (dkW cK cB cI o ks fb ob fa oa dr ds L n sp fb fb cr rl qs dk_clear oB ((dk_keep kA oA b).1) ((dk_keep kA oA b).2) tt ss st K) := hD
  refine lv_aload_n hx hb dX3_remote_34 rfl (lv_at hl 1 rfl) ?_
  refine lv_aload_n hx hb dX3_remote_35 rfl (lv_at hl 0 rfl) ?_
  refine va_put (D := (dC, dI)) (ci := 4) (v := .ref fa) (ty := .object "DoorKeys$Frame") (C := RX3) (T := TX3) (N := 9) hx hb hts inn_X3_remote_X3 tyX3 tyX3_ok nmX3 hown hK hP hD hS 0 rfl rfl 4 (by decide) (hts (.fieldLink RX3 26 "DoorKeys" "ended" "LDoorKeys$Frame;") (by decide +kernel)) (fun _ h9 => h9) rfl (by decide +kernel) rfl rfl (Nat.le_of_ble_eq_true rfl) dX3_remote_36 (fun H locs hP hD hS => ?_)
  have hP : va_P (dC, dI) vwCl (dkW cK cB cI o ks fb ob fa oa dr ds L n sp fb fa cr rl qs dk_clear oB ((dk_keep kA oA b).1) ((dk_keep kA oA b).2) tt ss st K) H := hP
  have hD : va_D (up_c (dkW cK cB cI o ks fa oa fb ob dr ds L n sp fa fb cr rl qs kA oA kB oB tt ss st K)) (dkW cK cB cI o ks fb ob fa oa dr ds L n sp fb fa cr rl qs dk_clear oB ((dk_keep kA oA b).1) ((dk_keep kA oA b).2) tt ss st K) := hD
  refine lv_aload_n hx hb dX3_remote_39 rfl (lv_at hl 1 rfl) ?_
  refine lv_aload_n hx hb dX3_remote_40 rfl (lv_at hl 0 rfl) ?_
  refine up_call (W.runV (As := [.ref fa]) (rest := []) ⟨hx, hb, hml, hown, hts⟩ (c_X3_judge l dC dI cK cB cI o ks fb ob fa oa dr ds L n sp fb fa cr rl qs dk_clear oB ((dk_keep kA oA b).1) ((dk_keep kA oA b).2) tt ss st K hn) (cwV 1 hts gX3_remote_X3_judge rfl rfl rfl (by decide +kernel) ⟨Nat.le_of_ble_eq_true rfl, Nat.le_of_ble_eq_true rfl⟩) (up_preV (q0 := 0) (ci := 4) hP hK hD rfl rfl) rfl rfl hl.1 rfl (lv_room (Nat.le_of_ble_eq_true rfl)) dX3_remote_41 ⟨Nat.le_of_ble_eq_true rfl, Nat.le_of_ble_eq_true rfl⟩) hD hS ((dk_fst ..).trans (dk_fst ..).symm) (fun H locs hP hD hS _ _ => ?_)
  have hP : va_P (dC, dI) vwCl (dkW cK cB cI o ks fb ob fa oa dr ds L n sp fb fa cr rl qs dk_clear oB ((dk_keep kA oA b).1) ((dk_keep kA oA b).2) tt ((dk_judge n sp cr ((dk_keep kA oA b).1) ((dk_keep kA oA b).2) tt ss st K).2.2.2) ((dk_judge n sp cr ((dk_keep kA oA b).1) ((dk_keep kA oA b).2) tt ss st K).2.2.1) ((dk_judge n sp cr ((dk_keep kA oA b).1) ((dk_keep kA oA b).2) tt ss st K).2.1)) H := hP
  have hD : va_D (up_c (dkW cK cB cI o ks fa oa fb ob dr ds L n sp fa fb cr rl qs kA oA kB oB tt ss st K)) (dkW cK cB cI o ks fb ob fa oa dr ds L n sp fb fa cr rl qs dk_clear oB ((dk_keep kA oA b).1) ((dk_keep kA oA b).2) tt ((dk_judge n sp cr ((dk_keep kA oA b).1) ((dk_keep kA oA b).2) tt ss st K).2.2.2) ((dk_judge n sp cr ((dk_keep kA oA b).1) ((dk_keep kA oA b).2) tt ss st K).2.2.1) ((dk_judge n sp cr ((dk_keep kA oA b).1) ((dk_keep kA oA b).2) tt ss st K).2.1)) := hD
  have hP := dk_swapP hP
  have hD := dk_swapD hD
  have hP : va_P (dC, dI) vwCl (dkW cK cB cI o ks fa oa fb ob dr ds L n sp fb fa cr rl qs ((dk_keep kA oA b).1) ((dk_keep kA oA b).2) dk_clear oB tt ((dk_judge n sp cr ((dk_keep kA oA b).1) ((dk_keep kA oA b).2) tt ss st K).2.2.2) ((dk_judge n sp cr ((dk_keep kA oA b).1) ((dk_keep kA oA b).2) tt ss st K).2.2.1) ((dk_judge n sp cr ((dk_keep kA oA b).1) ((dk_keep kA oA b).2) tt ss st K).2.1)) H := hP
  have hD : va_D (up_c (dkW cK cB cI o ks fa oa fb ob dr ds L n sp fa fb cr rl qs kA oA kB oB tt ss st K)) (dkW cK cB cI o ks fa oa fb ob dr ds L n sp fb fa cr rl qs ((dk_keep kA oA b).1) ((dk_keep kA oA b).2) dk_clear oB tt ((dk_judge n sp cr ((dk_keep kA oA b).1) ((dk_keep kA oA b).2) tt ss st K).2.2.2) ((dk_judge n sp cr ((dk_keep kA oA b).1) ((dk_keep kA oA b).2) tt ss st K).2.2.1) ((dk_judge n sp cr ((dk_keep kA oA b).1) ((dk_keep kA oA b).2) tt ss st K).2.1)) := hD
  have e_ : dk_rem1 n sp cr kA oA tt ss st K b = ((dk_judge n sp cr ((dk_keep kA oA b).1) ((dk_keep kA oA b).2) tt ss st K).1, (dk_keep kA oA b).1, (dk_keep kA oA b).2, dk_clear, (dk_judge n sp cr ((dk_keep kA oA b).1) ((dk_keep kA oA b).2) tt ss st K).2.1, (dk_judge n sp cr ((dk_keep kA oA b).1) ((dk_keep kA oA b).2) tt ss st K).2.2.1, (dk_judge n sp cr ((dk_keep kA oA b).1) ((dk_keep kA oA b).2) tt ss st K).2.2.2) := by unfold dk_rem1; exact rfl
  rw [e_]
  exact W.iret (v := (dk_judge n sp cr ((dk_keep kA oA b).1) ((dk_keep kA oA b).2) tt ss st K).1) hx hb hr (fun t ht hW => ⟨rfl, by rw [ht]; exact hP, hS.F ht⟩) hS.2.2 dX3_remote_44
