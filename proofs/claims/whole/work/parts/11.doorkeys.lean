/-! DoorKeys: what makes nothing (laid by wip/gen.py) -/
set_option maxRecDepth 20000 in
theorem inn_X3_find_X3 : ∀ w ∈ wsX30, w ∈ wsX3_find := by decide +kernel
set_option maxRecDepth 20000 in
theorem inn_X3_isSecretOfAKey_X3 : ∀ w ∈ wsX30, w ∈ wsX3_isSecretOfAKey := by decide +kernel
set_option maxRecDepth 20000 in
theorem inn_X3_isSecretOfAKey_X2 : ∀ w ∈ wsX20, w ∈ wsX3_isSecretOfAKey := by decide +kernel
set_option maxRecDepth 20000 in
theorem inn_X3_learnedKeys_X3 : ∀ w ∈ wsX30, w ∈ wsX3_learnedKeys := by decide +kernel
set_option maxRecDepth 20000 in
theorem inn_X3_learnedKeys_X2 : ∀ w ∈ wsX20, w ∈ wsX3_learnedKeys := by decide +kernel
set_option maxRecDepth 20000 in
theorem inn_X3_obey_X3 : ∀ w ∈ wsX30, w ∈ wsX3_obey := by decide +kernel
set_option maxRecDepth 20000 in
theorem inn_X3_judge_X2 : ∀ w ∈ wsX20, w ∈ wsX3_judge := by decide +kernel
set_option maxRecDepth 20000 in
theorem inn_X3_judge_X3 : ∀ w ∈ wsX30, w ∈ wsX3_judge := by decide +kernel
set_option maxRecDepth 20000 in
theorem inn_X3_counter_X2 : ∀ w ∈ wsX20, w ∈ wsX3_counter := by decide +kernel
set_option maxRecDepth 20000 in
theorem inn_X3_battery_X2 : ∀ w ∈ wsX20, w ∈ wsX3_battery := by decide +kernel
set_option maxRecDepth 20000 in
theorem inn_X3_state_X3 : ∀ w ∈ wsX30, w ∈ wsX3_state := by decide +kernel
set_option maxRecDepth 20000 in
theorem inn_X3_state_X0 : ∀ w ∈ wsX00, w ∈ wsX3_state := by decide +kernel
set_option maxRecDepth 20000 in
theorem inn_X3_lock_X3 : ∀ w ∈ wsX30, w ∈ wsX3_lock := by decide +kernel
set_option maxRecDepth 20000 in
theorem inn_X3_learn_X2 : ∀ w ∈ wsX20, w ∈ wsX3_learn := by decide +kernel
set_option maxRecDepth 20000 in
theorem inn_X3_erase_X2 : ∀ w ∈ wsX20, w ∈ wsX3_erase := by decide +kernel
set_option maxRecDepth 20000 in
theorem inn_X3_start_X3 : ∀ w ∈ wsX30, w ∈ wsX3_start := by decide +kernel
set_option maxRecDepth 20000 in
theorem inn_X3_start_X2 : ∀ w ∈ wsX20, w ∈ wsX3_start := by decide +kernel
set_option maxRecDepth 20000 in
theorem inn_X3_crash_X3 : ∀ w ∈ wsX30, w ∈ wsX3_crash := by decide +kernel
set_option maxRecDepth 20000 in
theorem inn_X3_alarm_X3 : ∀ w ∈ wsX30, w ∈ wsX3_alarm := by decide +kernel
set_option maxRecDepth 20000 in
theorem inn_X3_alarm_X0 : ∀ w ∈ wsX00, w ∈ wsX3_alarm := by decide +kernel
def rm_X3_findS : Room := { frames := 0, cells := 0, slots := 0, locals := 0 }
set_option maxHeartbeats 4000000 in
set_option maxRecDepth 100000 in
theorem c_X3_findS (l : Launch) (dC : Nat → ClassId) (dI : Nat → Nat → Nat) (cK : ClassId) (cB : ClassId) (cI : ClassId) (o : Nat) (ks : Nat) (fa : Nat) (oa : Nat) (fb : Nat) (ob : Nat) (dr : Nat) (ds : Nat) (L : Nat → Nat) (n : Nat) (sp : Int32) (co : Nat) (en : Nat) (cr : Int32) (rl : Int32) (qs : Int32) (kA : Int32) (oA : Nat → Int8) (kB : Int32) (oB : Nat → Int8) (tt : Int64) (ss : Int64) (st : Nat → Int32) (K : Nat → KR) (x : Int32) (hn : n ≤ 8) (hk : dk_fkP n x) : Met l yX3_find wsX3_find rm_X3_findS (up_P (dC, dI) vwCl (dkT cK cB cI) (dkW cK cB cI o ks fa oa fb ob dr ds L n sp co en cr rl qs kA oA kB oB tt ss st K) [.ref o, .int x]) (k2_QcV (.ref (L (dk_fki x)))) 0 0 (fun _ => False) := by
  refine Met.ofW (cc := cX3_find) (maxL := 2) (ret := (some (.object "DoorKeys$Key"))) (by decide) rfl ?_
  intro p e s m args below meth c s₁ B hml hv
  obtain ⟨rfl, hP, hK, hD0⟩ := hv
  have hx := B.exec
  have hb := B.bytes
  have hr := B.returns
  have hts := atoms_spec (ws := wsX3_find) B.pre
  have hown : s.vm.findClass RX3 = some m.cls := findClass_of_methodNamed B.named
  have hlocks := B.notSynchronized
  have hD := up_self hD0
  have hS : va_S (up_c (dkW cK cB cI o ks fa oa fb ob dr ds L n sp co en cr rl qs kA oA kB oB tt ss st K)) s.heap s.heap [] := va_S.rf
  have hl := lv_entry ([.ref o, .int x]) (n := 2) (Nat.le_of_ble_eq_true rfl)
  rw [lg_entry_eq]
  generalize (lg_sl ([.ref o, .int x]) ++ List.replicate (2 - (lg_sl ([.ref o, .int x])).length) Slot.unset).toArray = ls at hl ⊢
  have hl : lv_has ls 2 [(0, .ref o), (1, .int x)] := hl
  refine lv_iload_n hx hb dX3_find_0 rfl (lv_at hl 1 rfl) ?_
  refine lv_iconst (v := 1) hx hb dX3_find_1 (by decide) ?_
  refine lv_icmp_lt (tgt := 33) hx hb dX3_find_2 (by decide) (fun c_2 => (hk.1 c_2).elim) (fun c_2 => ?_)
  refine lv_iload_n hx hb dX3_find_5 rfl (lv_at hl 1 rfl) ?_
  refine lv_aload_n hx hb dX3_find_6 rfl (lv_at hl 0 rfl) ?_
  refine va_get (D := (dC, dI)) (ci := 4) (v := .int (nI n)) (C := RX3) (T := TX3) (N := 9) hx hb hts inn_X3_find_X3 hown hK hP 0 rfl rfl 2 (by decide) (hts (.fieldLink RX3 42 "DoorKeys" "keyCount" "I") (by decide +kernel)) (fun _ h9 => h9) rfl dX3_find_7 ?_
  refine lv_icmp_gt (tgt := 33) hx hb dX3_find_10 (by decide) (fun c_10 => (hk.2 c_10).elim) (fun c_10 => ?_)
  refine lv_iload_n hx hb dX3_find_13 rfl (lv_at hl 1 rfl) ?_
  refine lv_aload_n hx hb dX3_find_14 rfl (lv_at hl 0 rfl) ?_
  refine va_get (D := (dC, dI)) (ci := 4) (v := .ref ks) (C := RX3) (T := TX3) (N := 9) hx hb hts inn_X3_find_X3 hown hK hP 0 rfl rfl 1 (by decide) (hts (.fieldLink RX3 15 "DoorKeys" "keys" "[LDoorKeys$Key;") (by decide +kernel)) (fun _ h9 => h9) rfl dX3_find_15 ?_
  refine va_alen (v := 8) hx hb hK hP 1 0 rfl rfl rfl dX3_find_18 ?_
  refine lv_icmp_gt (tgt := 33) hx hb dX3_find_19 (by decide) (fun c_19 => (dk_fk_8 hn hk c_19).elim) (fun c_19 => ?_)
  refine lv_aload_n hx hb dX3_find_22 rfl (lv_at hl 0 rfl) ?_
  refine va_get (D := (dC, dI)) (ci := 4) (v := .ref ks) (C := RX3) (T := TX3) (N := 9) hx hb hts inn_X3_find_X3 hown hK hP 0 rfl rfl 1 (by decide) (hts (.fieldLink RX3 15 "DoorKeys" "keys" "[LDoorKeys$Key;") (by decide +kernel)) (fun _ h9 => h9) rfl dX3_find_23 ?_
  refine lv_iload_n hx hb dX3_find_26 rfl (lv_at hl 1 rfl) ?_
  refine lv_iconst (v := 1) hx hb dX3_find_27 (by decide) ?_
  refine lv_isub hx hb dX3_find_28 ?_
  refine va_aldq hx hb hK hP 1 0 rfl rfl (dk_fk_in hn hk) dX3_find_29 ?_
  refine W.eq (g2 := F0 m 30 ls [.ref (L (dk_fki x))]) (congrArg (fun v => F0 m 30 ls [v]) (dk_fkv hn hk)) ?_
  refine lv_goto (tgt := 34) hx hb dX3_find_30 (by decide) ?_
  exact W.aret (v := .ref (L (dk_fki x))) hx hb hr (Or.inl ⟨_, rfl⟩) (Or.inr ⟨_, rfl⟩) (fun t ht hW => ⟨rfl, ht⟩) (fun q h => absurd h List.not_mem_nil) dX3_find_34
def rm_X3_findN : Room := { frames := 0, cells := 0, slots := 0, locals := 0 }
set_option maxHeartbeats 4000000 in
set_option maxRecDepth 100000 in
theorem c_X3_findN (l : Launch) (dC : Nat → ClassId) (dI : Nat → Nat → Nat) (cK : ClassId) (cB : ClassId) (cI : ClassId) (o : Nat) (ks : Nat) (fa : Nat) (oa : Nat) (fb : Nat) (ob : Nat) (dr : Nat) (ds : Nat) (L : Nat → Nat) (n : Nat) (sp : Int32) (co : Nat) (en : Nat) (cr : Int32) (rl : Int32) (qs : Int32) (kA : Int32) (oA : Nat → Int8) (kB : Int32) (oB : Nat → Int8) (tt : Int64) (ss : Int64) (st : Nat → Int32) (K : Nat → KR) (x : Int32) (hn : n ≤ 8) (hk : ¬ dk_fkP n x) : Met l yX3_find wsX3_find rm_X3_findN (up_P (dC, dI) vwCl (dkT cK cB cI) (dkW cK cB cI o ks fa oa fb ob dr ds L n sp co en cr rl qs kA oA kB oB tt ss st K) [.ref o, .int x]) (k2_QcV .null) 0 0 (fun _ => False) := by
  refine Met.ofW (cc := cX3_find) (maxL := 2) (ret := (some (.object "DoorKeys$Key"))) (by decide) rfl ?_
  intro p e s m args below meth c s₁ B hml hv
  obtain ⟨rfl, hP, hK, hD0⟩ := hv
  have hx := B.exec
  have hb := B.bytes
  have hr := B.returns
  have hts := atoms_spec (ws := wsX3_find) B.pre
  have hown : s.vm.findClass RX3 = some m.cls := findClass_of_methodNamed B.named
  have hlocks := B.notSynchronized
  have hD := up_self hD0
  have hS : va_S (up_c (dkW cK cB cI o ks fa oa fb ob dr ds L n sp co en cr rl qs kA oA kB oB tt ss st K)) s.heap s.heap [] := va_S.rf
  have hl := lv_entry ([.ref o, .int x]) (n := 2) (Nat.le_of_ble_eq_true rfl)
  rw [lg_entry_eq]
  generalize (lg_sl ([.ref o, .int x]) ++ List.replicate (2 - (lg_sl ([.ref o, .int x])).length) Slot.unset).toArray = ls at hl ⊢
  have hl : lv_has ls 2 [(0, .ref o), (1, .int x)] := hl
  refine lv_iload_n hx hb dX3_find_0 rfl (lv_at hl 1 rfl) ?_
  refine lv_iconst (v := 1) hx hb dX3_find_1 (by decide) ?_
  refine lv_icmp_lt (tgt := 33) hx hb dX3_find_2 (by decide) (fun c_2 => ?_) (fun c_2 => ?_)
  · refine lv_null hx hb dX3_find_33 ?_
    exact W.aret (v := .null) hx hb hr (Or.inl ⟨_, rfl⟩) (Or.inl rfl) (fun t ht hW => ⟨rfl, ht⟩) (fun q h => absurd h List.not_mem_nil) dX3_find_34
  · refine lv_iload_n hx hb dX3_find_5 rfl (lv_at hl 1 rfl) ?_
    refine lv_aload_n hx hb dX3_find_6 rfl (lv_at hl 0 rfl) ?_
    refine va_get (D := (dC, dI)) (ci := 4) (v := .int (nI n)) (C := RX3) (T := TX3) (N := 9) hx hb hts inn_X3_find_X3 hown hK hP 0 rfl rfl 2 (by decide) (hts (.fieldLink RX3 42 "DoorKeys" "keyCount" "I") (by decide +kernel)) (fun _ h9 => h9) rfl dX3_find_7 ?_
    refine lv_icmp_gt (tgt := 33) hx hb dX3_find_10 (by decide) (fun c_10 => ?_) (fun c_10 => (hk ⟨c_2, c_10⟩).elim)
    refine lv_null hx hb dX3_find_33 ?_
    exact W.aret (v := .null) hx hb hr (Or.inl ⟨_, rfl⟩) (Or.inl rfl) (fun t ht hW => ⟨rfl, ht⟩) (fun q h => absurd h List.not_mem_nil) dX3_find_34
def dk_within (x : Int64) (y : Int64) : Int32 :=
  if (lg_cmp x (-y)) < 0 then
    (0 : Int32)
  else
    if 0 < (lg_cmp x y) then
      (0 : Int32)
    else
      (1 : Int32)
def rm_X3_isWithin : Room := { frames := 0, cells := 0, slots := 0, locals := 0 }
set_option maxHeartbeats 4000000 in
set_option maxRecDepth 100000 in
theorem c_X3_isWithin (l : Launch) (dC : Nat → ClassId) (dI : Nat → Nat → Nat) (cK : ClassId) (cB : ClassId) (cI : ClassId) (o : Nat) (ks : Nat) (fa : Nat) (oa : Nat) (fb : Nat) (ob : Nat) (dr : Nat) (ds : Nat) (L : Nat → Nat) (n : Nat) (sp : Int32) (co : Nat) (en : Nat) (cr : Int32) (rl : Int32) (qs : Int32) (kA : Int32) (oA : Nat → Int8) (kB : Int32) (oB : Nat → Int8) (tt : Int64) (ss : Int64) (st : Nat → Int32) (K : Nat → KR) (x : Int64) (y : Int64) : Met l yX3_isWithin wsX3_isWithin rm_X3_isWithin (up_P (dC, dI) vwCl (dkT cK cB cI) (dkW cK cB cI o ks fa oa fb ob dr ds L n sp co en cr rl qs kA oA kB oB tt ss st K) [.long x, .long y]) (k2_QcV (.int (dk_within x y))) 0 0 (fun _ => False) := by
  refine Met.ofW (cc := cX3_isWithin) (maxL := 4) (ret := (some .boolean)) (by decide) rfl ?_
  intro p e s m args below meth c s₁ B hml hv
  obtain ⟨rfl, hP, hK, hD0⟩ := hv
  have hx := B.exec
  have hb := B.bytes
  have hr := B.returns
  have hts := atoms_spec (ws := wsX3_isWithin) B.pre
  have hown : s.vm.findClass RX3 = some m.cls := findClass_of_methodNamed B.named
  have hlocks := B.notSynchronized
  have hD := up_self hD0
  have hS : va_S (up_c (dkW cK cB cI o ks fa oa fb ob dr ds L n sp co en cr rl qs kA oA kB oB tt ss st K)) s.heap s.heap [] := va_S.rf
  have hl := lv_entry ([.long x, .long y]) (n := 4) (Nat.le_of_ble_eq_true rfl)
  rw [lg_entry_eq]
  generalize (lg_sl ([.long x, .long y]) ++ List.replicate (4 - (lg_sl ([.long x, .long y])).length) Slot.unset).toArray = ls at hl ⊢
  have hl : lv_has ls 4 [(0, .long x), (2, .long y)] := hl
  refine lv_lload_n hx hb dX3_isWithin_0 rfl (lv_at hl 0 rfl) ?_
  refine lv_lload_n hx hb dX3_isWithin_1 rfl (lv_at hl 1 rfl) ?_
  refine lv_lneg hx hb dX3_isWithin_2 ?_
  refine W.lcmp hx hb dX3_isWithin_3 ?_
  refine lv_if_lt (tgt := 17) hx hb dX3_isWithin_4 (by decide) (fun c_4 => ?_) (fun c_4 => ?_)
  · refine lv_iconst (v := 0) hx hb dX3_isWithin_17 (by decide) ?_
    have e_ : dk_within x y = (0 : Int32) := by unfold dk_within; exact (if_pos c_4).trans rfl
    rw [e_]
    exact W.zret (v := 0) hx hb hr (by decide) (fun t ht hW => ⟨rfl, ht⟩) (fun q h => absurd h List.not_mem_nil) dX3_isWithin_18
  · refine lv_lload_n hx hb dX3_isWithin_7 rfl (lv_at hl 0 rfl) ?_
    refine lv_lload_n hx hb dX3_isWithin_8 rfl (lv_at hl 1 rfl) ?_
    refine W.lcmp hx hb dX3_isWithin_9 ?_
    refine lv_if_gt (tgt := 17) hx hb dX3_isWithin_10 (by decide) (fun c_10 => ?_) (fun c_10 => ?_)
    · refine lv_iconst (v := 0) hx hb dX3_isWithin_17 (by decide) ?_
      have e_ : dk_within x y = (0 : Int32) := by unfold dk_within; exact (if_neg c_4).trans ((if_pos c_10).trans rfl)
      rw [e_]
      exact W.zret (v := 0) hx hb hr (by decide) (fun t ht hW => ⟨rfl, ht⟩) (fun q h => absurd h List.not_mem_nil) dX3_isWithin_18
    · refine lv_iconst (v := 1) hx hb dX3_isWithin_13 (by decide) ?_
      refine lv_goto (tgt := 18) hx hb dX3_isWithin_14 (by decide) ?_
      have e_ : dk_within x y = (1 : Int32) := by unfold dk_within; exact (if_neg c_4).trans ((if_neg c_10).trans rfl)
      rw [e_]
      exact W.zret (v := 1) hx hb hr (by decide) (fun t ht hW => ⟨rfl, ht⟩) (fun q h => absurd h List.not_mem_nil) dX3_isWithin_18
def dk_isSec_l (n : Nat) (K : Nat → KR) (x : Int64) : Nat → Nat → Int32
  | 0, _ =>
    (0 : Int32)
  | r + 1, j =>
    if (lg_cmp ((K (dk_fki (nI (j + 1)))).1) x) = 0 then
      (1 : Int32)
    else
      dk_isSec_l n K x r (j + 1)
def dk_isSec (n : Nat) (K : Nat → KR) (x : Int64) : Int32 :=
  dk_isSec_l n K x n 0
def rm_X3_isSecretOfAKey : Room := { frames := 1, cells := 0, slots := 0, locals := 21 }
set_option maxHeartbeats 4000000 in
set_option maxRecDepth 100000 in
theorem c_X3_isSecretOfAKey (l : Launch) (dC : Nat → ClassId) (dI : Nat → Nat → Nat) (cK : ClassId) (cB : ClassId) (cI : ClassId) (o : Nat) (ks : Nat) (fa : Nat) (oa : Nat) (fb : Nat) (ob : Nat) (dr : Nat) (ds : Nat) (L : Nat → Nat) (n : Nat) (sp : Int32) (co : Nat) (en : Nat) (cr : Int32) (rl : Int32) (qs : Int32) (kA : Int32) (oA : Nat → Int8) (kB : Int32) (oB : Nat → Int8) (tt : Int64) (ss : Int64) (st : Nat → Int32) (K : Nat → KR) (x : Int64) (hn : n ≤ 8) : Met l yX3_isSecretOfAKey wsX3_isSecretOfAKey rm_X3_isSecretOfAKey (up_P (dC, dI) vwCl (dkT cK cB cI) (dkW cK cB cI o ks fa oa fb ob dr ds L n sp co en cr rl qs kA oA kB oB tt ss st K) [.ref o, .long x]) (k2_QcV (.int (dk_isSec n K x))) 0 0 (fun _ => False) := by
  refine Met.ofW (cc := cX3_isSecretOfAKey) (maxL := 5) (ret := (some .boolean)) (by decide) rfl ?_
  intro p e s m args below meth c s₁ B hml hv
  obtain ⟨rfl, hP, hK, hD0⟩ := hv
  have hx := B.exec
  have hb := B.bytes
  have hr := B.returns
  have hts := atoms_spec (ws := wsX3_isSecretOfAKey) B.pre
  have hown : s.vm.findClass RX3 = some m.cls := findClass_of_methodNamed B.named
  have hlocks := B.notSynchronized
  have hD := up_self hD0
  have hS : va_S (up_c (dkW cK cB cI o ks fa oa fb ob dr ds L n sp co en cr rl qs kA oA kB oB tt ss st K)) s.heap s.heap [] := va_S.rf
  have hl := lv_entry ([.ref o, .long x]) (n := 5) (Nat.le_of_ble_eq_true rfl)
  rw [lg_entry_eq]
  generalize (lg_sl ([.ref o, .long x]) ++ List.replicate (5 - (lg_sl ([.ref o, .long x])).length) Slot.unset).toArray = ls at hl ⊢
  have hl : lv_has ls 5 [(0, .ref o), (1, .long x)] := hl
  refine lv_iconst (v := 1) hx hb dX3_isSecretOfAKey_0 (by decide) ?_
  refine lv_istore_n (lv' := [(3, .int 1), (0, .ref o), (1, .long x)]) hx hb dX3_isSecretOfAKey_1 rfl hl (by decide) rfl (fun ls hl => ?_)
  have lp : ∀ (r j : Nat)  , j + r = n → ∀ ls : Array Slot, lv_has ls 5 [(0, .ref o), (1, .long x), (3, .int (nI (j + 1)))] → W p l e (headSpec wsX3_isSecretOfAKey rm_X3_isSecretOfAKey).room s m ([.ref o, .long x] : List Value).toArray below meth c s.heap [] 0 0 (MQ below (k2_QcV (.int (dk_isSec_l n K x r j))) ([.ref o, .long x] : List Value).toArray s 0 0 (fun _ => False)) (F0 m 2 ls []) := by
    intro r
    induction r with
    | zero =>
      intro j hj ls hl
      refine lv_iload_n hx hb dX3_isSecretOfAKey_2 rfl (lv_at hl 2 rfl) ?_
      refine lv_aload_n hx hb dX3_isSecretOfAKey_3 rfl (lv_at hl 0 rfl) ?_
      refine va_get (D := (dC, dI)) (ci := 4) (v := .int (nI n)) (C := RX3) (T := TX3) (N := 9) hx hb hts inn_X3_isSecretOfAKey_X3 hown hK hP 0 rfl rfl 2 (by decide) (hts (.fieldLink RX3 42 "DoorKeys" "keyCount" "I") (by decide +kernel)) (fun _ h9 => h9) rfl dX3_isSecretOfAKey_4 ?_
      refine lv_icmp_gt (tgt := 40) hx hb dX3_isSecretOfAKey_7 (by decide) (fun c_7 => ?_) (fun c_7 => (c_7 (nI_lt (a := n) (b := (j + 1)) (by omega) (by omega))).elim)
      refine lv_iconst (v := 0) hx hb dX3_isSecretOfAKey_40 (by decide) ?_
      have e_ : dk_isSec_l n K x 0 j = (0 : Int32) := (dk_isSec_l.eq_1 ..).trans rfl
      rw [e_]
      exact W.zret (v := 0) hx hb hr (by decide) (fun t ht hW => ⟨rfl, ht⟩) (fun q h => absurd h List.not_mem_nil) dX3_isSecretOfAKey_41
    | succ r ih =>
      intro j hj ls hl
      refine lv_iload_n hx hb dX3_isSecretOfAKey_2 rfl (lv_at hl 2 rfl) ?_
      refine lv_aload_n hx hb dX3_isSecretOfAKey_3 rfl (lv_at hl 0 rfl) ?_
      refine va_get (D := (dC, dI)) (ci := 4) (v := .int (nI n)) (C := RX3) (T := TX3) (N := 9) hx hb hts inn_X3_isSecretOfAKey_X3 hown hK hP 0 rfl rfl 2 (by decide) (hts (.fieldLink RX3 42 "DoorKeys" "keyCount" "I") (by decide +kernel)) (fun _ h9 => h9) rfl dX3_isSecretOfAKey_4 ?_
      refine lv_icmp_gt (tgt := 40) hx hb dX3_isSecretOfAKey_7 (by decide) (fun c_7 => (nI_nlt (a := n) (b := (j + 1)) (by omega) (by omega) c_7).elim) (fun c_7 => ?_)
      refine lv_aload_n hx hb dX3_isSecretOfAKey_10 rfl (lv_at hl 0 rfl) ?_
      refine lv_iload_n hx hb dX3_isSecretOfAKey_11 rfl (lv_at hl 2 rfl) ?_
      have hk_12 : dk_fkP n (nI (j + 1)) := dk_fk_nI (by omega) hn
      have hi_12 : dk_fki (nI (j + 1)) < n := dk_fk_lt hn hk_12
      refine up_read (W.runV (As := [.int (nI (j + 1))]) (rest := []) ⟨hx, hb, hml, hown, hts⟩ (c_X3_findS l dC dI cK cB cI o ks fa oa fb ob dr ds L n sp co en cr rl qs kA oA kB oB tt ss st K (nI (j + 1)) hn hk_12) (cwV 1 hts gX3_isSecretOfAKey_X3_find rfl rfl rfl (by decide +kernel) ⟨Nat.le_of_ble_eq_true rfl, Nat.le_of_ble_eq_true rfl⟩) (up_preV (q0 := 0) (ci := 4) hP hK hD rfl rfl) rfl rfl hl.1 rfl (lv_room (Nat.le_of_ble_eq_true rfl)) dX3_isSecretOfAKey_12 ⟨Nat.le_of_ble_eq_true rfl, Nat.le_of_ble_eq_true rfl⟩) ?_
      refine lv_astore (lv' := [(4, .ref (L (dk_fki (nI (j + 1))))), (0, .ref o), (1, .long x), (3, .int (nI (j + 1)))]) hx hb dX3_isSecretOfAKey_15 hl (by decide) rfl (fun ls hl => ?_)
      refine lv_aload hx hb dX3_isSecretOfAKey_17 (lv_at hl 0 rfl) ?_
      refine lv_ifnull hx hb dX3_isSecretOfAKey_19 ?_
      refine lv_aload hx hb dX3_isSecretOfAKey_22 (lv_at hl 0 rfl) ?_
      refine va_get (D := (dC, dI)) (ci := 3) (v := .long ((K (dk_fki (nI (j + 1)))).1)) (C := RX2) (T := TX2) (N := 7) hx hb hts inn_X3_isSecretOfAKey_X2 hown hK hP ((dk_fki (nI (j + 1))) + 8) (dk_keyk hi_12 rfl) rfl 0 (by decide) (hts (.fieldLink RX3 165 "DoorKeys$Key" "secret" "J") (by decide +kernel)) (fun _ h9 => h9) rfl dX3_isSecretOfAKey_24 ?_
      refine lv_lload_n hx hb dX3_isSecretOfAKey_27 rfl (lv_at hl 2 rfl) ?_
      refine W.lcmp hx hb dX3_isSecretOfAKey_28 ?_
      refine lv_if_ne (tgt := 34) hx hb dX3_isSecretOfAKey_29 (by decide) (fun c_29 => ?_) (fun c_29 => ?_)
      · refine lv_iinc (v := (nI ((j + 1) + 1))) (lv' := [(3, .int (nI ((j + 1) + 1))), (4, .ref (L (dk_fki (nI (j + 1))))), (0, .ref o), (1, .long x)]) hx hb dX3_isSecretOfAKey_34 hl (k := 3) rfl (nI_1 _) (by decide) rfl (fun ls hl => ?_)
        refine lv_goto (tgt := 2) hx hb dX3_isSecretOfAKey_37 (by decide) ?_
        have e_ : dk_isSec_l n K x (r + 1) j = dk_isSec_l n K x r (j + 1) := (dk_isSec_l.eq_2 ..).trans ((if_neg c_29).trans rfl)
        rw [e_]
        exact ih (j + 1)  (by omega) ls (lv_sub hl [2, 3, 0] rfl)
      · refine lv_iconst (v := 1) hx hb dX3_isSecretOfAKey_32 (by decide) ?_
        have e_ : dk_isSec_l n K x (r + 1) j = (1 : Int32) := (dk_isSec_l.eq_2 ..).trans ((if_pos c_29).trans rfl)
        rw [e_]
        exact W.zret (v := 1) hx hb hr (by decide) (fun t ht hW => ⟨rfl, ht⟩) (fun q h => absurd h List.not_mem_nil) dX3_isSecretOfAKey_33
  have e_ : dk_isSec n K x = dk_isSec_l n K x n 0 := by unfold dk_isSec; exact rfl
  rw [e_]
  exact lp n 0 (by omega) ls (lv_sub hl [1, 2, 0] rfl)
def dk_lk_l (n : Nat) (K : Nat → KR) : Nat → Nat → Int32 → Int32
  | 0, _, ac =>
    ac
  | r + 1, j, ac =>
    if (K (dk_fki (nI (j + 1)))).2.2.2.1 = 0 then
      dk_lk_l n K r (j + 1) ac
    else
      dk_lk_l n K r (j + 1) (ac + 1)
def dk_lk (n : Nat) (K : Nat → KR) : Int32 :=
  dk_lk_l n K n 0 0
def rm_X3_learnedKeys : Room := { frames := 1, cells := 0, slots := 0, locals := 21 }
set_option maxHeartbeats 4000000 in
set_option maxRecDepth 100000 in
theorem c_X3_learnedKeys (l : Launch) (dC : Nat → ClassId) (dI : Nat → Nat → Nat) (cK : ClassId) (cB : ClassId) (cI : ClassId) (o : Nat) (ks : Nat) (fa : Nat) (oa : Nat) (fb : Nat) (ob : Nat) (dr : Nat) (ds : Nat) (L : Nat → Nat) (n : Nat) (sp : Int32) (co : Nat) (en : Nat) (cr : Int32) (rl : Int32) (qs : Int32) (kA : Int32) (oA : Nat → Int8) (kB : Int32) (oB : Nat → Int8) (tt : Int64) (ss : Int64) (st : Nat → Int32) (K : Nat → KR) (hn : n ≤ 8) : Met l yX3_learnedKeys wsX3_learnedKeys rm_X3_learnedKeys (up_P (dC, dI) vwCl (dkT cK cB cI) (dkW cK cB cI o ks fa oa fb ob dr ds L n sp co en cr rl qs kA oA kB oB tt ss st K) [.ref o]) (k2_QcV (.int (dk_lk n K))) 0 0 (fun _ => False) := by
  refine Met.ofW (cc := cX3_learnedKeys) (maxL := 4) (ret := (some .int)) (by decide) rfl ?_
  intro p e s m args below meth c s₁ B hml hv
  obtain ⟨rfl, hP, hK, hD0⟩ := hv
  have hx := B.exec
  have hb := B.bytes
  have hr := B.returns
  have hts := atoms_spec (ws := wsX3_learnedKeys) B.pre
  have hown : s.vm.findClass RX3 = some m.cls := findClass_of_methodNamed B.named
  have hlocks := B.notSynchronized
  have hD := up_self hD0
  have hS : va_S (up_c (dkW cK cB cI o ks fa oa fb ob dr ds L n sp co en cr rl qs kA oA kB oB tt ss st K)) s.heap s.heap [] := va_S.rf
  have hl := lv_entry ([.ref o]) (n := 4) (Nat.le_of_ble_eq_true rfl)
  rw [lg_entry_eq]
  generalize (lg_sl ([.ref o]) ++ List.replicate (4 - (lg_sl ([.ref o])).length) Slot.unset).toArray = ls at hl ⊢
  have hl : lv_has ls 4 [(0, .ref o)] := hl
  refine lv_iconst (v := 0) hx hb dX3_learnedKeys_0 (by decide) ?_
  refine lv_istore_n (lv' := [(1, .int 0), (0, .ref o)]) hx hb dX3_learnedKeys_1 rfl hl (by decide) rfl (fun ls hl => ?_)
  refine lv_iconst (v := 1) hx hb dX3_learnedKeys_2 (by decide) ?_
  refine lv_istore_n (lv' := [(2, .int 1), (1, .int 0), (0, .ref o)]) hx hb dX3_learnedKeys_3 rfl hl (by decide) rfl (fun ls hl => ?_)
  have lp : ∀ (r j : Nat) (ac : Int32) , j + r = n → ∀ ls : Array Slot, lv_has ls 4 [(0, .ref o), (2, .int (nI (j + 1))), (1, .int ac)] → W p l e (headSpec wsX3_learnedKeys rm_X3_learnedKeys).room s m ([.ref o] : List Value).toArray below meth c s.heap [] 0 0 (MQ below (k2_QcV (.int (dk_lk_l n K r j ac))) ([.ref o] : List Value).toArray s 0 0 (fun _ => False)) (F0 m 4 ls []) := by
    intro r
    induction r with
    | zero =>
      intro j ac hj ls hl
      refine lv_iload_n hx hb dX3_learnedKeys_4 rfl (lv_at hl 1 rfl) ?_
      refine lv_aload_n hx hb dX3_learnedKeys_5 rfl (lv_at hl 0 rfl) ?_
      refine va_get (D := (dC, dI)) (ci := 4) (v := .int (nI n)) (C := RX3) (T := TX3) (N := 9) hx hb hts inn_X3_learnedKeys_X3 hown hK hP 0 rfl rfl 2 (by decide) (hts (.fieldLink RX3 42 "DoorKeys" "keyCount" "I") (by decide +kernel)) (fun _ h9 => h9) rfl dX3_learnedKeys_6 ?_
      refine lv_icmp_gt (tgt := 38) hx hb dX3_learnedKeys_9 (by decide) (fun c_9 => ?_) (fun c_9 => (c_9 (nI_lt (a := n) (b := (j + 1)) (by omega) (by omega))).elim)
      refine lv_iload_n hx hb dX3_learnedKeys_38 rfl (lv_at hl 2 rfl) ?_
      have e_ : dk_lk_l n K 0 j ac = ac := (dk_lk_l.eq_1 ..).trans rfl
      rw [e_]
      exact W.iret (v := ac) hx hb hr (fun t ht hW => ⟨rfl, ht⟩) (fun q h => absurd h List.not_mem_nil) dX3_learnedKeys_39
    | succ r ih =>
      intro j ac hj ls hl
      refine lv_iload_n hx hb dX3_learnedKeys_4 rfl (lv_at hl 1 rfl) ?_
      refine lv_aload_n hx hb dX3_learnedKeys_5 rfl (lv_at hl 0 rfl) ?_
      refine va_get (D := (dC, dI)) (ci := 4) (v := .int (nI n)) (C := RX3) (T := TX3) (N := 9) hx hb hts inn_X3_learnedKeys_X3 hown hK hP 0 rfl rfl 2 (by decide) (hts (.fieldLink RX3 42 "DoorKeys" "keyCount" "I") (by decide +kernel)) (fun _ h9 => h9) rfl dX3_learnedKeys_6 ?_
      refine lv_icmp_gt (tgt := 38) hx hb dX3_learnedKeys_9 (by decide) (fun c_9 => (nI_nlt (a := n) (b := (j + 1)) (by omega) (by omega) c_9).elim) (fun c_9 => ?_)
      refine lv_aload_n hx hb dX3_learnedKeys_12 rfl (lv_at hl 0 rfl) ?_
      refine lv_iload_n hx hb dX3_learnedKeys_13 rfl (lv_at hl 1 rfl) ?_
      have hk_14 : dk_fkP n (nI (j + 1)) := dk_fk_nI (by omega) hn
      have hi_14 : dk_fki (nI (j + 1)) < n := dk_fk_lt hn hk_14
      refine up_read (W.runV (As := [.int (nI (j + 1))]) (rest := []) ⟨hx, hb, hml, hown, hts⟩ (c_X3_findS l dC dI cK cB cI o ks fa oa fb ob dr ds L n sp co en cr rl qs kA oA kB oB tt ss st K (nI (j + 1)) hn hk_14) (cwV 1 hts gX3_learnedKeys_X3_find rfl rfl rfl (by decide +kernel) ⟨Nat.le_of_ble_eq_true rfl, Nat.le_of_ble_eq_true rfl⟩) (up_preV (q0 := 0) (ci := 4) hP hK hD rfl rfl) rfl rfl hl.1 rfl (lv_room (Nat.le_of_ble_eq_true rfl)) dX3_learnedKeys_14 ⟨Nat.le_of_ble_eq_true rfl, Nat.le_of_ble_eq_true rfl⟩) ?_
      refine lv_astore_n (lv' := [(3, .ref (L (dk_fki (nI (j + 1))))), (0, .ref o), (2, .int (nI (j + 1))), (1, .int ac)]) hx hb dX3_learnedKeys_17 rfl hl (by decide) rfl (fun ls hl => ?_)
      refine lv_aload_n hx hb dX3_learnedKeys_18 rfl (lv_at hl 0 rfl) ?_
      refine lv_ifnull hx hb dX3_learnedKeys_19 ?_
      refine lv_aload_n hx hb dX3_learnedKeys_22 rfl (lv_at hl 0 rfl) ?_
      refine va_get (D := (dC, dI)) (ci := 3) (v := .int ((K (dk_fki (nI (j + 1)))).2.2.2.1)) (C := RX2) (T := TX2) (N := 7) hx hb hts inn_X3_learnedKeys_X2 hown hK hP ((dk_fki (nI (j + 1))) + 8) (dk_keyk hi_14 rfl) rfl 3 (by decide) (hts (.fieldLink RX3 89 "DoorKeys$Key" "learned" "Z") (by decide +kernel)) (fun _ h9 => h9) rfl dX3_learnedKeys_23 ?_
      refine lv_if_eq (tgt := 32) hx hb dX3_learnedKeys_26 (by decide) (fun c_26 => ?_) (fun c_26 => ?_)
      · refine lv_iinc (v := (nI ((j + 1) + 1))) (lv' := [(2, .int (nI ((j + 1) + 1))), (3, .ref (L (dk_fki (nI (j + 1))))), (0, .ref o), (1, .int ac)]) hx hb dX3_learnedKeys_32 hl (k := 2) rfl (nI_1 _) (by decide) rfl (fun ls hl => ?_)
        refine lv_goto (tgt := 4) hx hb dX3_learnedKeys_35 (by decide) ?_
        have e_ : dk_lk_l n K (r + 1) j ac = dk_lk_l n K r (j + 1) ac := (dk_lk_l.eq_2 ..).trans ((if_pos c_26).trans rfl)
        rw [e_]
        exact ih (j + 1) ac (by omega) ls (lv_sub hl [2, 0, 3] rfl)
      · refine lv_iinc (v := (ac + 1)) (lv' := [(1, .int (ac + 1)), (3, .ref (L (dk_fki (nI (j + 1))))), (0, .ref o), (2, .int (nI (j + 1)))]) hx hb dX3_learnedKeys_29 hl (k := 3) rfl (by rfl) (by decide) rfl (fun ls hl => ?_)
        refine lv_iinc (v := (nI ((j + 1) + 1))) (lv' := [(2, .int (nI ((j + 1) + 1))), (1, .int (ac + 1)), (3, .ref (L (dk_fki (nI (j + 1))))), (0, .ref o)]) hx hb dX3_learnedKeys_32 hl (k := 3) rfl (nI_1 _) (by decide) rfl (fun ls hl => ?_)
        refine lv_goto (tgt := 4) hx hb dX3_learnedKeys_35 (by decide) ?_
        have e_ : dk_lk_l n K (r + 1) j ac = dk_lk_l n K r (j + 1) (ac + 1) := (dk_lk_l.eq_2 ..).trans ((if_neg c_26).trans rfl)
        rw [e_]
        exact ih (j + 1) (ac + 1) (by omega) ls (lv_sub hl [3, 0, 1] rfl)
  have e_ : dk_lk n K = dk_lk_l n K n 0 0 := by unfold dk_lk; exact rfl
  rw [e_]
  exact lp n 0 0 (by omega) ls (lv_sub hl [2, 0, 1] rfl)
def dk_obey (cr : Int32) (st : Nat → Int32) (tt : Int64) (ss : Int64) (x : Int32) : (Nat → Int32) × Int64 :=
  if x = 0 then
    ((dk_openAll st).2, ss)
  else
    if x = 2 then
      ((dk_boot st), ss)
    else
      if cr = 0 then
        if x = 1 then
          ((dk_shutAll st tt ss).2.1, (dk_shutAll st tt ss).2.2)
        else
          if x = 3 then
            ((dk_deaden st).2, ss)
          else
            (st, ss)
      else
        (st, ss)
def rm_X3_obey : Room := { frames := 3, cells := 0, slots := 0, locals := 64 }
set_option maxHeartbeats 4000000 in
set_option maxRecDepth 100000 in
theorem c_X3_obey (l : Launch) (dC : Nat → ClassId) (dI : Nat → Nat → Nat) (cK : ClassId) (cB : ClassId) (cI : ClassId) (o : Nat) (ks : Nat) (fa : Nat) (oa : Nat) (fb : Nat) (ob : Nat) (dr : Nat) (ds : Nat) (L : Nat → Nat) (n : Nat) (sp : Int32) (co : Nat) (en : Nat) (cr : Int32) (rl : Int32) (qs : Int32) (kA : Int32) (oA : Nat → Int8) (kB : Int32) (oB : Nat → Int8) (tt : Int64) (ss : Int64) (st : Nat → Int32) (K : Nat → KR) (x : Int32) : Met l yX3_obey wsX3_obey rm_X3_obey (up_P (dC, dI) vwCl (dkT cK cB cI) (dkW cK cB cI o ks fa oa fb ob dr ds L n sp co en cr rl qs kA oA kB oB tt ss st K) [.ref o, .int x]) (up_Q (dC, dI) vwCl none (dkW cK cB cI o ks fa oa fb ob dr ds L n sp co en cr rl qs kA oA kB oB tt ss st K) (dkW cK cB cI o ks fa oa fb ob dr ds L n sp co en cr rl qs kA oA kB oB tt ((dk_obey cr st tt ss x).2) ((dk_obey cr st tt ss x).1) K)) 0 0 (up_c (dkW cK cB cI o ks fa oa fb ob dr ds L n sp co en cr rl qs kA oA kB oB tt ss st K)) := by
  refine Met.ofW (cc := cX3_obey) (maxL := 2) (ret := none) (by decide) rfl ?_
  intro p e s m args below meth c s₁ B hml hv
  obtain ⟨rfl, hP, hK, hD0⟩ := hv
  have hx := B.exec
  have hb := B.bytes
  have hr := B.returns
  have hts := atoms_spec (ws := wsX3_obey) B.pre
  have hown : s.vm.findClass RX3 = some m.cls := findClass_of_methodNamed B.named
  have hlocks := B.notSynchronized
  have hD := up_self hD0
  have hS : va_S (up_c (dkW cK cB cI o ks fa oa fb ob dr ds L n sp co en cr rl qs kA oA kB oB tt ss st K)) s.heap s.heap [] := va_S.rf
  have hl := lv_entry ([.ref o, .int x]) (n := 2) (Nat.le_of_ble_eq_true rfl)
  rw [lg_entry_eq]
  generalize (lg_sl ([.ref o, .int x]) ++ List.replicate (2 - (lg_sl ([.ref o, .int x])).length) Slot.unset).toArray = ls at hl ⊢
  have hl : lv_has ls 2 [(0, .ref o), (1, .int x)] := hl
  refine lv_iload_n hx hb dX3_obey_0 rfl (lv_at hl 1 rfl) ?_
  refine lv_if_ne (tgt := 15) hx hb dX3_obey_1 (by decide) (fun c_1 => ?_) (fun c_1 => ?_)
  · refine lv_iload_n hx hb dX3_obey_15 rfl (lv_at hl 1 rfl) ?_
    refine lv_iconst (v := 2) hx hb dX3_obey_16 (by decide) ?_
    refine lv_icmp_ne (tgt := 30) hx hb dX3_obey_17 (by decide) (fun c_17 => ?_) (fun c_17 => ?_)
    · refine lv_aload_n hx hb dX3_obey_30 rfl (lv_at hl 0 rfl) ?_
      refine va_get (D := (dC, dI)) (ci := 4) (v := .int cr) (C := RX3) (T := TX3) (N := 9) hx hb hts inn_X3_obey_X3 hown hK hP 0 rfl rfl 6 (by decide) (hts (.fieldLink RX3 76 "DoorKeys" "crashed" "Z") (by decide +kernel)) (fun _ h9 => h9) rfl dX3_obey_31 ?_
      refine lv_if_ne (tgt := 53) hx hb dX3_obey_34 (by decide) (fun c_34 => ?_) (fun c_34 => ?_)
      · refine lv_aload_n hx hb dX3_obey_53 rfl (lv_at hl 0 rfl) ?_
        refine va_get (D := (dC, dI)) (ci := 4) (v := .int cr) (C := RX3) (T := TX3) (N := 9) hx hb hts inn_X3_obey_X3 hown hK hP 0 rfl rfl 6 (by decide) (hts (.fieldLink RX3 76 "DoorKeys" "crashed" "Z") (by decide +kernel)) (fun _ h9 => h9) rfl dX3_obey_54 ?_
        refine lv_if_ne (tgt := 73) hx hb dX3_obey_57 (by decide) (fun c_57 => ?_) (fun c_57 => absurd c_57 c_34)
        have e_ : dk_obey cr st tt ss x = (st, ss) := by unfold dk_obey; exact (if_neg c_1).trans ((if_neg c_17).trans ((if_neg c_34).trans rfl))
        rw [e_]
        exact W.vret hx hb hr (fun t ht hW => ⟨rfl, by rw [ht]; exact hP, hS.F ht⟩) hS.2.2 dX3_obey_73
      · refine lv_iload_n hx hb dX3_obey_37 rfl (lv_at hl 1 rfl) ?_
        refine lv_iconst (v := 1) hx hb dX3_obey_38 (by decide) ?_
        refine lv_icmp_ne (tgt := 53) hx hb dX3_obey_39 (by decide) (fun c_39 => ?_) (fun c_39 => ?_)
        · refine lv_aload_n hx hb dX3_obey_53 rfl (lv_at hl 0 rfl) ?_
          refine va_get (D := (dC, dI)) (ci := 4) (v := .int cr) (C := RX3) (T := TX3) (N := 9) hx hb hts inn_X3_obey_X3 hown hK hP 0 rfl rfl 6 (by decide) (hts (.fieldLink RX3 76 "DoorKeys" "crashed" "Z") (by decide +kernel)) (fun _ h9 => h9) rfl dX3_obey_54 ?_
          refine lv_if_ne (tgt := 73) hx hb dX3_obey_57 (by decide) (fun c_57 => absurd c_34 c_57) (fun c_57 => ?_)
          refine lv_iload_n hx hb dX3_obey_60 rfl (lv_at hl 1 rfl) ?_
          refine lv_iconst (v := 3) hx hb dX3_obey_61 (by decide) ?_
          refine lv_icmp_ne (tgt := 73) hx hb dX3_obey_62 (by decide) (fun c_62 => ?_) (fun c_62 => ?_)
          · have e_ : dk_obey cr st tt ss x = (st, ss) := by unfold dk_obey; exact (if_neg c_1).trans ((if_neg c_17).trans ((if_pos c_34).trans ((if_neg c_39).trans ((if_neg c_62).trans rfl))))
            rw [e_]
            exact W.vret hx hb hr (fun t ht hW => ⟨rfl, by rw [ht]; exact hP, hS.F ht⟩) hS.2.2 dX3_obey_73
          · refine lv_aload_n hx hb dX3_obey_65 rfl (lv_at hl 0 rfl) ?_
            refine va_get (D := (dC, dI)) (ci := 4) (v := .ref dr) (C := RX3) (T := TX3) (N := 9) hx hb hts inn_X3_obey_X3 hown hK hP 0 rfl rfl 5 (by decide) (hts (.fieldLink RX3 32 "DoorKeys" "doors" "LDoorKeys$Doors;") (by decide +kernel)) (fun _ h9 => h9) rfl dX3_obey_66 ?_
            refine up_call (W.runV (As := []) (rest := []) ⟨hx, hb, hml, hown, hts⟩ (c_X0_deadenUnlessOpen l dC dI cK cB cI o ks fa oa fb ob dr ds L n sp co en cr rl qs kA oA kB oB tt ss st K) (cwV 0 hts gX3_obey_X0_deadenUnlessOpen rfl rfl rfl (by decide +kernel) ⟨Nat.le_of_ble_eq_true rfl, Nat.le_of_ble_eq_true rfl⟩) (up_preV (q0 := 6) (ci := 1) hP hK hD rfl rfl) rfl rfl hl.1 rfl (lv_room (Nat.le_of_ble_eq_true rfl)) dX3_obey_69 ⟨Nat.le_of_ble_eq_true rfl, Nat.le_of_ble_eq_true rfl⟩) hD hS ((dk_fst ..).trans (dk_fst ..).symm) (fun H locs hP hD hS _ _ => ?_)
            have hP : va_P (dC, dI) vwCl (dkW cK cB cI o ks fa oa fb ob dr ds L n sp co en cr rl qs kA oA kB oB tt ss ((dk_deaden st).2) K) H := hP
            have hD : va_D (up_c (dkW cK cB cI o ks fa oa fb ob dr ds L n sp co en cr rl qs kA oA kB oB tt ss st K)) (dkW cK cB cI o ks fa oa fb ob dr ds L n sp co en cr rl qs kA oA kB oB tt ss ((dk_deaden st).2) K) := hD
            refine lv_pop hx hb dX3_obey_72 rfl ?_
            have e_ : dk_obey cr st tt ss x = ((dk_deaden st).2, ss) := by unfold dk_obey; exact (if_neg c_1).trans ((if_neg c_17).trans ((if_pos c_34).trans ((if_neg c_39).trans ((if_pos c_62).trans rfl))))
            rw [e_]
            exact W.vret hx hb hr (fun t ht hW => ⟨rfl, by rw [ht]; exact hP, hS.F ht⟩) hS.2.2 dX3_obey_73
        · refine lv_aload_n hx hb dX3_obey_42 rfl (lv_at hl 0 rfl) ?_
          refine va_get (D := (dC, dI)) (ci := 4) (v := .ref dr) (C := RX3) (T := TX3) (N := 9) hx hb hts inn_X3_obey_X3 hown hK hP 0 rfl rfl 5 (by decide) (hts (.fieldLink RX3 32 "DoorKeys" "doors" "LDoorKeys$Doors;") (by decide +kernel)) (fun _ h9 => h9) rfl dX3_obey_43 ?_
          refine up_call (W.runV (As := []) (rest := []) ⟨hx, hb, hml, hown, hts⟩ (c_X0_shutAll l dC dI cK cB cI o ks fa oa fb ob dr ds L n sp co en cr rl qs kA oA kB oB tt ss st K) (cwV 0 hts gX3_obey_X0_shutAll rfl rfl rfl (by decide +kernel) ⟨Nat.le_of_ble_eq_true rfl, Nat.le_of_ble_eq_true rfl⟩) (up_preV (q0 := 6) (ci := 1) hP hK hD rfl rfl) rfl rfl hl.1 rfl (lv_room (Nat.le_of_ble_eq_true rfl)) dX3_obey_46 ⟨Nat.le_of_ble_eq_true rfl, Nat.le_of_ble_eq_true rfl⟩) hD hS ((dk_fst ..).trans (dk_fst ..).symm) (fun H locs hP hD hS _ _ => ?_)
          have hP : va_P (dC, dI) vwCl (dkW cK cB cI o ks fa oa fb ob dr ds L n sp co en cr rl qs kA oA kB oB tt ((dk_shutAll st tt ss).2.2) ((dk_shutAll st tt ss).2.1) K) H := hP
          have hD : va_D (up_c (dkW cK cB cI o ks fa oa fb ob dr ds L n sp co en cr rl qs kA oA kB oB tt ss st K)) (dkW cK cB cI o ks fa oa fb ob dr ds L n sp co en cr rl qs kA oA kB oB tt ((dk_shutAll st tt ss).2.2) ((dk_shutAll st tt ss).2.1) K) := hD
          refine lv_pop hx hb dX3_obey_49 rfl ?_
          refine lv_goto (tgt := 73) hx hb dX3_obey_50 (by decide) ?_
          have e_ : dk_obey cr st tt ss x = ((dk_shutAll st tt ss).2.1, (dk_shutAll st tt ss).2.2) := by unfold dk_obey; exact (if_neg c_1).trans ((if_neg c_17).trans ((if_pos c_34).trans ((if_pos c_39).trans rfl)))
          rw [e_]
          exact W.vret hx hb hr (fun t ht hW => ⟨rfl, by rw [ht]; exact hP, hS.F ht⟩) hS.2.2 dX3_obey_73
    · refine lv_aload_n hx hb dX3_obey_20 rfl (lv_at hl 0 rfl) ?_
      refine va_get (D := (dC, dI)) (ci := 4) (v := .ref dr) (C := RX3) (T := TX3) (N := 9) hx hb hts inn_X3_obey_X3 hown hK hP 0 rfl rfl 5 (by decide) (hts (.fieldLink RX3 32 "DoorKeys" "doors" "LDoorKeys$Doors;") (by decide +kernel)) (fun _ h9 => h9) rfl dX3_obey_21 ?_
      refine up_call (W.runV (As := []) (rest := []) ⟨hx, hb, hml, hown, hts⟩ (c_X0_openBootUnlessDead l dC dI cK cB cI o ks fa oa fb ob dr ds L n sp co en cr rl qs kA oA kB oB tt ss st K) (cwV 0 hts gX3_obey_X0_openBootUnlessDead rfl rfl rfl (by decide +kernel) ⟨Nat.le_of_ble_eq_true rfl, Nat.le_of_ble_eq_true rfl⟩) (up_preV (q0 := 6) (ci := 1) hP hK hD rfl rfl) rfl rfl hl.1 rfl (lv_room (Nat.le_of_ble_eq_true rfl)) dX3_obey_24 ⟨Nat.le_of_ble_eq_true rfl, Nat.le_of_ble_eq_true rfl⟩) hD hS ((dk_fst ..).trans (dk_fst ..).symm) (fun H locs hP hD hS _ _ => ?_)
      have hP : va_P (dC, dI) vwCl (dkW cK cB cI o ks fa oa fb ob dr ds L n sp co en cr rl qs kA oA kB oB tt ss (dk_boot st) K) H := hP
      have hD : va_D (up_c (dkW cK cB cI o ks fa oa fb ob dr ds L n sp co en cr rl qs kA oA kB oB tt ss st K)) (dkW cK cB cI o ks fa oa fb ob dr ds L n sp co en cr rl qs kA oA kB oB tt ss (dk_boot st) K) := hD
      refine lv_goto (tgt := 73) hx hb dX3_obey_27 (by decide) ?_
      have e_ : dk_obey cr st tt ss x = ((dk_boot st), ss) := by unfold dk_obey; exact (if_neg c_1).trans ((if_pos c_17).trans rfl)
      rw [e_]
      exact W.vret hx hb hr (fun t ht hW => ⟨rfl, by rw [ht]; exact hP, hS.F ht⟩) hS.2.2 dX3_obey_73
  · refine lv_aload_n hx hb dX3_obey_4 rfl (lv_at hl 0 rfl) ?_
    refine va_get (D := (dC, dI)) (ci := 4) (v := .ref dr) (C := RX3) (T := TX3) (N := 9) hx hb hts inn_X3_obey_X3 hown hK hP 0 rfl rfl 5 (by decide) (hts (.fieldLink RX3 32 "DoorKeys" "doors" "LDoorKeys$Doors;") (by decide +kernel)) (fun _ h9 => h9) rfl dX3_obey_5 ?_
    refine up_call (W.runV (As := []) (rest := []) ⟨hx, hb, hml, hown, hts⟩ (c_X0_openAll l dC dI cK cB cI o ks fa oa fb ob dr ds L n sp co en cr rl qs kA oA kB oB tt ss st K) (cwV 0 hts gX3_obey_X0_openAll rfl rfl rfl (by decide +kernel) ⟨Nat.le_of_ble_eq_true rfl, Nat.le_of_ble_eq_true rfl⟩) (up_preV (q0 := 6) (ci := 1) hP hK hD rfl rfl) rfl rfl hl.1 rfl (lv_room (Nat.le_of_ble_eq_true rfl)) dX3_obey_8 ⟨Nat.le_of_ble_eq_true rfl, Nat.le_of_ble_eq_true rfl⟩) hD hS ((dk_fst ..).trans (dk_fst ..).symm) (fun H locs hP hD hS _ _ => ?_)
    have hP : va_P (dC, dI) vwCl (dkW cK cB cI o ks fa oa fb ob dr ds L n sp co en cr rl qs kA oA kB oB tt ss ((dk_openAll st).2) K) H := hP
    have hD : va_D (up_c (dkW cK cB cI o ks fa oa fb ob dr ds L n sp co en cr rl qs kA oA kB oB tt ss st K)) (dkW cK cB cI o ks fa oa fb ob dr ds L n sp co en cr rl qs kA oA kB oB tt ss ((dk_openAll st).2) K) := hD
    refine lv_pop hx hb dX3_obey_11 rfl ?_
    refine lv_goto (tgt := 73) hx hb dX3_obey_12 (by decide) ?_
    have e_ : dk_obey cr st tt ss x = ((dk_openAll st).2, ss) := by unfold dk_obey; exact (if_pos c_1).trans rfl
    rw [e_]
    exact W.vret hx hb hr (fun t ht hW => ⟨rfl, by rw [ht]; exact hP, hS.F ht⟩) hS.2.2 dX3_obey_73
def dk_judge (n : Nat) (sp : Int32) (cr : Int32) (kB : Int32) (oB : Nat → Int8) (tt : Int64) (ss : Int64) (st : Nat → Int32) (K : Nat → KR) : Int32 × (Nat → KR) × (Nat → Int32) × Int64 :=
  if dk_sound kB oB = 0 then
    ((0 : Int32), K, st, ss)
  else
    if dk_command kB oB ≤ 3 then
      if dk_fkP n (dk_sender kB oB) then
        if (K (dk_fki (dk_sender kB oB))).2.2.2.1 = 0 then
          ((0 : Int32), K, st, ss)
        else
          if (lg_cmp (((dk_dec (K (dk_fki (dk_sender kB oB))) (dk_code kB oB)).toUInt64 >>> ((16 : Int32).toInt64.toUInt64 &&& Int64.toUInt64 63)).toInt64) ((dk_sign (K (dk_fki (dk_sender kB oB)))).toInt64)) = 0 then
            if (dk_roll (K (dk_fki (dk_sender kB oB))) ((dk_dec (K (dk_fki (dk_sender kB oB))) (dk_code kB oB)).toInt32 &&& 65535) sp).1 = 1 then
              ((dk_roll (K (dk_fki (dk_sender kB oB))) ((dk_dec (K (dk_fki (dk_sender kB oB))) (dk_code kB oB)).toInt32 &&& 65535) sp).1, (va_up K (dk_fki (dk_sender kB oB)) (((dk_roll (K (dk_fki (dk_sender kB oB))) ((dk_dec (K (dk_fki (dk_sender kB oB))) (dk_code kB oB)).toInt32 &&& 65535) sp).2).1, ((dk_roll (K (dk_fki (dk_sender kB oB))) ((dk_dec (K (dk_fki (dk_sender kB oB))) (dk_code kB oB)).toInt32 &&& 65535) sp).2).2.1, ((dk_roll (K (dk_fki (dk_sender kB oB))) ((dk_dec (K (dk_fki (dk_sender kB oB))) (dk_code kB oB)).toInt32 &&& 65535) sp).2).2.2.1, ((dk_roll (K (dk_fki (dk_sender kB oB))) ((dk_dec (K (dk_fki (dk_sender kB oB))) (dk_code kB oB)).toInt32 &&& 65535) sp).2).2.2.2.1, ((dk_roll (K (dk_fki (dk_sender kB oB))) ((dk_dec (K (dk_fki (dk_sender kB oB))) (dk_code kB oB)).toInt32 &&& 65535) sp).2).2.2.2.2.1, ((dk_roll (K (dk_fki (dk_sender kB oB))) ((dk_dec (K (dk_fki (dk_sender kB oB))) (dk_code kB oB)).toInt32 &&& 65535) sp).2).2.2.2.2.2.1, (dk_flags kB oB &&& 1))), (dk_obey cr st tt ss (dk_command kB oB)).1, (dk_obey cr st tt ss (dk_command kB oB)).2)
            else
              ((dk_roll (K (dk_fki (dk_sender kB oB))) ((dk_dec (K (dk_fki (dk_sender kB oB))) (dk_code kB oB)).toInt32 &&& 65535) sp).1, (va_up K (dk_fki (dk_sender kB oB)) ((dk_roll (K (dk_fki (dk_sender kB oB))) ((dk_dec (K (dk_fki (dk_sender kB oB))) (dk_code kB oB)).toInt32 &&& 65535) sp).2)), st, ss)
          else
            ((0 : Int32), K, st, ss)
      else
        ((0 : Int32), K, st, ss)
    else
      ((0 : Int32), K, st, ss)
def rm_X3_judge : Room := { frames := 4, cells := 0, slots := 0, locals := 85 }
set_option maxHeartbeats 4000000 in
set_option maxRecDepth 100000 in
theorem c_X3_judge (l : Launch) (dC : Nat → ClassId) (dI : Nat → Nat → Nat) (cK : ClassId) (cB : ClassId) (cI : ClassId) (o : Nat) (ks : Nat) (fa : Nat) (oa : Nat) (fb : Nat) (ob : Nat) (dr : Nat) (ds : Nat) (L : Nat → Nat) (n : Nat) (sp : Int32) (co : Nat) (en : Nat) (cr : Int32) (rl : Int32) (qs : Int32) (kA : Int32) (oA : Nat → Int8) (kB : Int32) (oB : Nat → Int8) (tt : Int64) (ss : Int64) (st : Nat → Int32) (K : Nat → KR) (hn : n ≤ 8) : Met l yX3_judge wsX3_judge rm_X3_judge (up_P (dC, dI) vwCl (dkT cK cB cI) (dkW cK cB cI o ks fa oa fb ob dr ds L n sp co en cr rl qs kA oA kB oB tt ss st K) [.ref o, .ref fb]) (up_Q (dC, dI) vwCl (some (.int ((dk_judge n sp cr kB oB tt ss st K).1))) (dkW cK cB cI o ks fa oa fb ob dr ds L n sp co en cr rl qs kA oA kB oB tt ss st K) (dkW cK cB cI o ks fa oa fb ob dr ds L n sp co en cr rl qs kA oA kB oB tt ((dk_judge n sp cr kB oB tt ss st K).2.2.2) ((dk_judge n sp cr kB oB tt ss st K).2.2.1) ((dk_judge n sp cr kB oB tt ss st K).2.1))) 0 0 (up_c (dkW cK cB cI o ks fa oa fb ob dr ds L n sp co en cr rl qs kA oA kB oB tt ss st K)) := by
  refine Met.ofW (cc := cX3_judge) (maxL := 6) (ret := (some .int)) (by decide) rfl ?_
  intro p e s m args below meth c s₁ B hml hv
  obtain ⟨rfl, hP, hK, hD0⟩ := hv
  have hx := B.exec
  have hb := B.bytes
  have hr := B.returns
  have hts := atoms_spec (ws := wsX3_judge) B.pre
  have hown : s.vm.findClass RX3 = some m.cls := findClass_of_methodNamed B.named
  have hlocks := B.notSynchronized
  have hD := up_self hD0
  have hS : va_S (up_c (dkW cK cB cI o ks fa oa fb ob dr ds L n sp co en cr rl qs kA oA kB oB tt ss st K)) s.heap s.heap [] := va_S.rf
  have hl := lv_entry ([.ref o, .ref fb]) (n := 6) (Nat.le_of_ble_eq_true rfl)
  rw [lg_entry_eq]
  generalize (lg_sl ([.ref o, .ref fb]) ++ List.replicate (6 - (lg_sl ([.ref o, .ref fb])).length) Slot.unset).toArray = ls at hl ⊢
  have hl : lv_has ls 6 [(0, .ref o), (1, .ref fb)] := hl
  refine lv_aload_n hx hb dX3_judge_0 rfl (lv_at hl 1 rfl) ?_
  refine up_read (W.runV (As := []) (rest := []) ⟨hx, hb, hml, hown, hts⟩ (c_X1_isSound l dC dI cK cB cI o ks fa oa fb ob dr ds L n sp co en cr rl qs kA oA kB oB tt ss st K) (cwV 0 hts gX3_judge_X1_isSound rfl rfl rfl (by decide +kernel) ⟨Nat.le_of_ble_eq_true rfl, Nat.le_of_ble_eq_true rfl⟩) (up_preV (q0 := 4) (ci := 2) hP hK hD rfl rfl) rfl rfl hl.1 rfl (lv_room (Nat.le_of_ble_eq_true rfl)) dX3_judge_1 ⟨Nat.le_of_ble_eq_true rfl, Nat.le_of_ble_eq_true rfl⟩) ?_
  refine lv_if_eq (tgt := 15) hx hb dX3_judge_4 (by decide) (fun c_4 => ?_) (fun c_4 => ?_)
  · refine lv_iconst (v := 0) hx hb dX3_judge_15 (by decide) ?_
    have e_ : dk_judge n sp cr kB oB tt ss st K = ((0 : Int32), K, st, ss) := by unfold dk_judge; exact (if_pos c_4).trans rfl
    rw [e_]
    exact W.iret (v := 0) hx hb hr (fun t ht hW => ⟨rfl, by rw [ht]; exact hP, hS.F ht⟩) hS.2.2 dX3_judge_16
  · refine lv_aload_n hx hb dX3_judge_7 rfl (lv_at hl 1 rfl) ?_
    refine up_read (W.runV (As := []) (rest := []) ⟨hx, hb, hml, hown, hts⟩ (c_X1_command l dC dI cK cB cI o ks fa oa fb ob dr ds L n sp co en cr rl qs kA oA kB oB tt ss st K) (cwV 0 hts gX3_judge_X1_command rfl rfl rfl (by decide +kernel) ⟨Nat.le_of_ble_eq_true rfl, Nat.le_of_ble_eq_true rfl⟩) (up_preV (q0 := 4) (ci := 2) hP hK hD rfl rfl) rfl rfl hl.1 rfl (lv_room (Nat.le_of_ble_eq_true rfl)) dX3_judge_8 ⟨Nat.le_of_ble_eq_true rfl, Nat.le_of_ble_eq_true rfl⟩) ?_
    refine lv_iconst (v := 3) hx hb dX3_judge_11 (by decide) ?_
    refine lv_icmp_le (tgt := 17) hx hb dX3_judge_12 (by decide) (fun c_12 => ?_) (fun c_12 => ?_)
    · refine lv_aload_n hx hb dX3_judge_17 rfl (lv_at hl 0 rfl) ?_
      refine lv_aload_n hx hb dX3_judge_18 rfl (lv_at hl 1 rfl) ?_
      refine up_read (W.runV (As := []) (rest := [.ref o]) ⟨hx, hb, hml, hown, hts⟩ (c_X1_sender l dC dI cK cB cI o ks fa oa fb ob dr ds L n sp co en cr rl qs kA oA kB oB tt ss st K) (cwV 0 hts gX3_judge_X1_sender rfl rfl rfl (by decide +kernel) ⟨Nat.le_of_ble_eq_true rfl, Nat.le_of_ble_eq_true rfl⟩) (up_preV (q0 := 4) (ci := 2) hP hK hD rfl rfl) rfl rfl hl.1 rfl (lv_room (Nat.le_of_ble_eq_true rfl)) dX3_judge_19 ⟨Nat.le_of_ble_eq_true rfl, Nat.le_of_ble_eq_true rfl⟩) ?_
      by_cases hk_22 : dk_fkP n (dk_sender kB oB)
      · have hi_22 : dk_fki (dk_sender kB oB) < n := dk_fk_lt hn hk_22
        refine up_read (W.runV (As := [.int (dk_sender kB oB)]) (rest := []) ⟨hx, hb, hml, hown, hts⟩ (c_X3_findS l dC dI cK cB cI o ks fa oa fb ob dr ds L n sp co en cr rl qs kA oA kB oB tt ss st K (dk_sender kB oB) hn hk_22) (cwV 1 hts gX3_judge_X3_find rfl rfl rfl (by decide +kernel) ⟨Nat.le_of_ble_eq_true rfl, Nat.le_of_ble_eq_true rfl⟩) (up_preV (q0 := 0) (ci := 4) hP hK hD rfl rfl) rfl rfl hl.1 rfl (lv_room (Nat.le_of_ble_eq_true rfl)) dX3_judge_22 ⟨Nat.le_of_ble_eq_true rfl, Nat.le_of_ble_eq_true rfl⟩) ?_
        refine lv_astore_n (lv' := [(2, .ref (L (dk_fki (dk_sender kB oB)))), (0, .ref o), (1, .ref fb)]) hx hb dX3_judge_25 rfl hl (by decide) rfl (fun ls hl => ?_)
        refine lv_aload_n hx hb dX3_judge_26 rfl (lv_at hl 0 rfl) ?_
        refine lv_ifnull hx hb dX3_judge_27 ?_
        refine lv_aload_n hx hb dX3_judge_30 rfl (lv_at hl 0 rfl) ?_
        refine va_get (D := (dC, dI)) (ci := 3) (v := .int ((K (dk_fki (dk_sender kB oB))).2.2.2.1)) (C := RX2) (T := TX2) (N := 7) hx hb hts inn_X3_judge_X2 hown hK hP ((dk_fki (dk_sender kB oB)) + 8) (dk_keyk hi_22 rfl) rfl 3 (by decide) (hts (.fieldLink RX3 89 "DoorKeys$Key" "learned" "Z") (by decide +kernel)) (fun _ h9 => h9) rfl dX3_judge_31 ?_
        refine lv_if_ne (tgt := 39) hx hb dX3_judge_34 (by decide) (fun c_34 => ?_) (fun c_34 => ?_)
        · refine lv_aload_n hx hb dX3_judge_39 rfl (lv_at hl 0 rfl) ?_
          refine lv_aload_n hx hb dX3_judge_40 rfl (lv_at hl 2 rfl) ?_
          refine up_read (W.runV (As := []) (rest := [.ref (L (dk_fki (dk_sender kB oB)))]) ⟨hx, hb, hml, hown, hts⟩ (c_X1_code l dC dI cK cB cI o ks fa oa fb ob dr ds L n sp co en cr rl qs kA oA kB oB tt ss st K) (cwV 0 hts gX3_judge_X1_code rfl rfl rfl (by decide +kernel) ⟨Nat.le_of_ble_eq_true rfl, Nat.le_of_ble_eq_true rfl⟩) (up_preV (q0 := 4) (ci := 2) hP hK hD rfl rfl) rfl rfl hl.1 rfl (lv_room (Nat.le_of_ble_eq_true rfl)) dX3_judge_41 ⟨Nat.le_of_ble_eq_true rfl, Nat.le_of_ble_eq_true rfl⟩) ?_
          refine up_read (W.runV (As := [.long (dk_code kB oB)]) (rest := []) ⟨hx, hb, hml, hown, hts⟩ (c_X2_decipher l dC dI cK cB cI o ks fa oa fb ob dr ds L n sp co en cr rl qs kA oA kB oB tt ss st K (dk_fki (dk_sender kB oB)) (K (dk_fki (dk_sender kB oB))) (dk_code kB oB) hi_22 rfl) (cwV 1 hts gX3_judge_X2_decipher rfl rfl rfl (by decide +kernel) ⟨Nat.le_of_ble_eq_true rfl, Nat.le_of_ble_eq_true rfl⟩) (up_preV (q0 := ((dk_fki (dk_sender kB oB)) + 8)) (ci := 3) hP hK hD rfl (dk_keyk hi_22 rfl)) rfl rfl hl.1 rfl (lv_room (Nat.le_of_ble_eq_true rfl)) dX3_judge_44 ⟨Nat.le_of_ble_eq_true rfl, Nat.le_of_ble_eq_true rfl⟩) ?_
          refine lv_lstore_n (lv' := [(3, .long (dk_dec (K (dk_fki (dk_sender kB oB))) (dk_code kB oB))), (2, .ref (L (dk_fki (dk_sender kB oB)))), (0, .ref o), (1, .ref fb)]) hx hb dX3_judge_47 rfl hl (by decide) rfl (fun ls hl => ?_)
          refine lv_lload_n hx hb dX3_judge_48 rfl (lv_at hl 0 rfl) ?_
          refine lv_bipush (v := 16) hx hb dX3_judge_49 (by decide) ?_
          refine lv_lushr (v := ((dk_dec (K (dk_fki (dk_sender kB oB))) (dk_code kB oB)).toUInt64 >>> ((16 : Int32).toInt64.toUInt64 &&& Int64.toUInt64 63)).toInt64) hx hb dX3_judge_51 rfl ?_
          refine lv_aload_n hx hb dX3_judge_52 rfl (lv_at hl 1 rfl) ?_
          refine up_read (W.runV (As := []) (rest := [.long (((dk_dec (K (dk_fki (dk_sender kB oB))) (dk_code kB oB)).toUInt64 >>> ((16 : Int32).toInt64.toUInt64 &&& Int64.toUInt64 63)).toInt64)]) ⟨hx, hb, hml, hown, hts⟩ (c_X2_sign l dC dI cK cB cI o ks fa oa fb ob dr ds L n sp co en cr rl qs kA oA kB oB tt ss st K (dk_fki (dk_sender kB oB)) (K (dk_fki (dk_sender kB oB))) hi_22 rfl) (cwV 0 hts gX3_judge_X2_sign rfl rfl rfl (by decide +kernel) ⟨Nat.le_of_ble_eq_true rfl, Nat.le_of_ble_eq_true rfl⟩) (up_preV (q0 := ((dk_fki (dk_sender kB oB)) + 8)) (ci := 3) hP hK hD rfl (dk_keyk hi_22 rfl)) rfl rfl hl.1 rfl (lv_room (Nat.le_of_ble_eq_true rfl)) dX3_judge_53 ⟨Nat.le_of_ble_eq_true rfl, Nat.le_of_ble_eq_true rfl⟩) ?_
          refine lv_i2l (v := (dk_sign (K (dk_fki (dk_sender kB oB)))).toInt64) hx hb dX3_judge_56 rfl ?_
          refine W.lcmp hx hb dX3_judge_57 ?_
          refine lv_if_eq (tgt := 63) hx hb dX3_judge_58 (by decide) (fun c_58 => ?_) (fun c_58 => ?_)
          · refine lv_aload_n hx hb dX3_judge_63 rfl (lv_at hl 1 rfl) ?_
            refine lv_lload_n hx hb dX3_judge_64 rfl (lv_at hl 0 rfl) ?_
            refine lv_l2i (v := (dk_dec (K (dk_fki (dk_sender kB oB))) (dk_code kB oB)).toInt32) hx hb dX3_judge_65 rfl ?_
            refine lv_ldc (v := 65535) hx hb hown (hts (.constant RX3 187 65535) (by decide +kernel)) dX3_judge_66 ?_
            refine lv_iand hx hb dX3_judge_68 ?_
            refine lv_aload_n hx hb dX3_judge_69 rfl (lv_at hl 2 rfl) ?_
            refine va_get (D := (dC, dI)) (ci := 4) (v := .int sp) (C := RX3) (T := TX3) (N := 9) hx hb hts inn_X3_judge_X3 hown hK hP 0 rfl rfl 0 (by decide) (hts (.fieldLink RX3 9 "DoorKeys" "span" "I") (by decide +kernel)) (fun _ h9 => h9) rfl dX3_judge_70 ?_
            refine up_call (W.runV (As := [.int ((dk_dec (K (dk_fki (dk_sender kB oB))) (dk_code kB oB)).toInt32 &&& 65535), .int sp]) (rest := []) ⟨hx, hb, hml, hown, hts⟩ (c_X2_roll l dC dI cK cB cI o ks fa oa fb ob dr ds L n sp co en cr rl qs kA oA kB oB tt ss st K (dk_fki (dk_sender kB oB)) (K (dk_fki (dk_sender kB oB))) ((dk_dec (K (dk_fki (dk_sender kB oB))) (dk_code kB oB)).toInt32 &&& 65535) sp hi_22 rfl) (cwV 2 hts gX3_judge_X2_roll rfl rfl rfl (by decide +kernel) ⟨Nat.le_of_ble_eq_true rfl, Nat.le_of_ble_eq_true rfl⟩) (up_preV (q0 := ((dk_fki (dk_sender kB oB)) + 8)) (ci := 3) hP hK hD rfl (dk_keyk hi_22 rfl)) rfl rfl hl.1 rfl (lv_room (Nat.le_of_ble_eq_true rfl)) dX3_judge_73 ⟨Nat.le_of_ble_eq_true rfl, Nat.le_of_ble_eq_true rfl⟩) hD hS ((dk_fst ..).trans (dk_fst ..).symm) (fun H locs hP hD hS _ _ => ?_)
            have hP : va_P (dC, dI) vwCl (dkW cK cB cI o ks fa oa fb ob dr ds L n sp co en cr rl qs kA oA kB oB tt ss st (va_up K (dk_fki (dk_sender kB oB)) ((dk_roll (K (dk_fki (dk_sender kB oB))) ((dk_dec (K (dk_fki (dk_sender kB oB))) (dk_code kB oB)).toInt32 &&& 65535) sp).2))) H := hP
            have hD : va_D (up_c (dkW cK cB cI o ks fa oa fb ob dr ds L n sp co en cr rl qs kA oA kB oB tt ss st K)) (dkW cK cB cI o ks fa oa fb ob dr ds L n sp co en cr rl qs kA oA kB oB tt ss st (va_up K (dk_fki (dk_sender kB oB)) ((dk_roll (K (dk_fki (dk_sender kB oB))) ((dk_dec (K (dk_fki (dk_sender kB oB))) (dk_code kB oB)).toInt32 &&& 65535) sp).2))) := hD
            refine lv_istore (lv' := [(5, .int ((dk_roll (K (dk_fki (dk_sender kB oB))) ((dk_dec (K (dk_fki (dk_sender kB oB))) (dk_code kB oB)).toInt32 &&& 65535) sp).1)), (3, .long (dk_dec (K (dk_fki (dk_sender kB oB))) (dk_code kB oB))), (2, .ref (L (dk_fki (dk_sender kB oB)))), (0, .ref o), (1, .ref fb)]) hx hb dX3_judge_76 hl (by decide) rfl (fun ls hl => ?_)
            refine lv_iload hx hb dX3_judge_78 (lv_at hl 0 rfl) ?_
            refine lv_iconst (v := 1) hx hb dX3_judge_80 (by decide) ?_
            refine lv_icmp_ne (tgt := 102) hx hb dX3_judge_81 (by decide) (fun c_81 => ?_) (fun c_81 => ?_)
            · refine lv_iload hx hb dX3_judge_102 (lv_at hl 0 rfl) ?_
              have e_ : dk_judge n sp cr kB oB tt ss st K = ((dk_roll (K (dk_fki (dk_sender kB oB))) ((dk_dec (K (dk_fki (dk_sender kB oB))) (dk_code kB oB)).toInt32 &&& 65535) sp).1, (va_up K (dk_fki (dk_sender kB oB)) ((dk_roll (K (dk_fki (dk_sender kB oB))) ((dk_dec (K (dk_fki (dk_sender kB oB))) (dk_code kB oB)).toInt32 &&& 65535) sp).2)), st, ss) := by unfold dk_judge; exact (if_neg c_4).trans ((if_pos c_12).trans ((if_pos hk_22).trans ((if_neg c_34).trans ((if_pos c_58).trans ((if_neg c_81).trans rfl)))))
              rw [e_]
              exact W.iret (v := (dk_roll (K (dk_fki (dk_sender kB oB))) ((dk_dec (K (dk_fki (dk_sender kB oB))) (dk_code kB oB)).toInt32 &&& 65535) sp).1) hx hb hr (fun t ht hW => ⟨rfl, by rw [ht]; exact hP, hS.F ht⟩) hS.2.2 dX3_judge_104
            · refine lv_aload_n hx hb dX3_judge_84 rfl (lv_at hl 2 rfl) ?_
              refine lv_aload_n hx hb dX3_judge_85 rfl (lv_at hl 4 rfl) ?_
              refine up_read (W.runV (As := []) (rest := [.ref (L (dk_fki (dk_sender kB oB)))]) ⟨hx, hb, hml, hown, hts⟩ (c_X1_flags l dC dI cK cB cI o ks fa oa fb ob dr ds L n sp co en cr rl qs kA oA kB oB tt ss st (va_up K (dk_fki (dk_sender kB oB)) ((dk_roll (K (dk_fki (dk_sender kB oB))) ((dk_dec (K (dk_fki (dk_sender kB oB))) (dk_code kB oB)).toInt32 &&& 65535) sp).2))) (cwV 0 hts gX3_judge_X1_flags rfl rfl rfl (by decide +kernel) ⟨Nat.le_of_ble_eq_true rfl, Nat.le_of_ble_eq_true rfl⟩) (up_preV (q0 := 4) (ci := 2) hP hK hD rfl rfl) rfl rfl hl.1 rfl (lv_room (Nat.le_of_ble_eq_true rfl)) dX3_judge_86 ⟨Nat.le_of_ble_eq_true rfl, Nat.le_of_ble_eq_true rfl⟩) ?_
              refine lv_iconst (v := 1) hx hb dX3_judge_89 (by decide) ?_
              refine lv_iand hx hb dX3_judge_90 ?_
              refine va_put (D := (dC, dI)) (ci := 3) (v := .int (dk_flags kB oB &&& 1)) (ty := .int) (C := RX2) (T := TX2) (N := 7) hx hb hts inn_X3_judge_X2 tyX2 tyX2_ok nmX2 hown hK hP hD hS ((dk_fki (dk_sender kB oB)) + 8) (dk_keyk hi_22 (va_up_self _ _ _)) rfl 6 (by decide) (hts (.fieldLink RX3 147 "DoorKeys$Key" "lowBattery" "I") (by decide +kernel)) (fun _ h9 => h9) rfl (by decide +kernel) rfl rfl (Nat.le_of_ble_eq_true rfl) dX3_judge_91 (fun H locs hP hD hS => ?_)
              have hP : va_P (dC, dI) vwCl (dkW cK cB cI o ks fa oa fb ob dr ds L n sp co en cr rl qs kA oA kB oB tt ss st (va_up K (dk_fki (dk_sender kB oB)) (((dk_roll (K (dk_fki (dk_sender kB oB))) ((dk_dec (K (dk_fki (dk_sender kB oB))) (dk_code kB oB)).toInt32 &&& 65535) sp).2).1, ((dk_roll (K (dk_fki (dk_sender kB oB))) ((dk_dec (K (dk_fki (dk_sender kB oB))) (dk_code kB oB)).toInt32 &&& 65535) sp).2).2.1, ((dk_roll (K (dk_fki (dk_sender kB oB))) ((dk_dec (K (dk_fki (dk_sender kB oB))) (dk_code kB oB)).toInt32 &&& 65535) sp).2).2.2.1, ((dk_roll (K (dk_fki (dk_sender kB oB))) ((dk_dec (K (dk_fki (dk_sender kB oB))) (dk_code kB oB)).toInt32 &&& 65535) sp).2).2.2.2.1, ((dk_roll (K (dk_fki (dk_sender kB oB))) ((dk_dec (K (dk_fki (dk_sender kB oB))) (dk_code kB oB)).toInt32 &&& 65535) sp).2).2.2.2.2.1, ((dk_roll (K (dk_fki (dk_sender kB oB))) ((dk_dec (K (dk_fki (dk_sender kB oB))) (dk_code kB oB)).toInt32 &&& 65535) sp).2).2.2.2.2.2.1, (dk_flags kB oB &&& 1)))) H := up_cast (dk_putU hi_22) hP
              have hD : va_D (up_c (dkW cK cB cI o ks fa oa fb ob dr ds L n sp co en cr rl qs kA oA kB oB tt ss st K)) (dkW cK cB cI o ks fa oa fb ob dr ds L n sp co en cr rl qs kA oA kB oB tt ss st (va_up K (dk_fki (dk_sender kB oB)) (((dk_roll (K (dk_fki (dk_sender kB oB))) ((dk_dec (K (dk_fki (dk_sender kB oB))) (dk_code kB oB)).toInt32 &&& 65535) sp).2).1, ((dk_roll (K (dk_fki (dk_sender kB oB))) ((dk_dec (K (dk_fki (dk_sender kB oB))) (dk_code kB oB)).toInt32 &&& 65535) sp).2).2.1, ((dk_roll (K (dk_fki (dk_sender kB oB))) ((dk_dec (K (dk_fki (dk_sender kB oB))) (dk_code kB oB)).toInt32 &&& 65535) sp).2).2.2.1, ((dk_roll (K (dk_fki (dk_sender kB oB))) ((dk_dec (K (dk_fki (dk_sender kB oB))) (dk_code kB oB)).toInt32 &&& 65535) sp).2).2.2.2.1, ((dk_roll (K (dk_fki (dk_sender kB oB))) ((dk_dec (K (dk_fki (dk_sender kB oB))) (dk_code kB oB)).toInt32 &&& 65535) sp).2).2.2.2.2.1, ((dk_roll (K (dk_fki (dk_sender kB oB))) ((dk_dec (K (dk_fki (dk_sender kB oB))) (dk_code kB oB)).toInt32 &&& 65535) sp).2).2.2.2.2.2.1, (dk_flags kB oB &&& 1)))) := up_castD (dk_putU hi_22) hD
              have hP : va_P (dC, dI) vwCl (dkW cK cB cI o ks fa oa fb ob dr ds L n sp co en cr rl qs kA oA kB oB tt ss st (va_up K (dk_fki (dk_sender kB oB)) (((dk_roll (K (dk_fki (dk_sender kB oB))) ((dk_dec (K (dk_fki (dk_sender kB oB))) (dk_code kB oB)).toInt32 &&& 65535) sp).2).1, ((dk_roll (K (dk_fki (dk_sender kB oB))) ((dk_dec (K (dk_fki (dk_sender kB oB))) (dk_code kB oB)).toInt32 &&& 65535) sp).2).2.1, ((dk_roll (K (dk_fki (dk_sender kB oB))) ((dk_dec (K (dk_fki (dk_sender kB oB))) (dk_code kB oB)).toInt32 &&& 65535) sp).2).2.2.1, ((dk_roll (K (dk_fki (dk_sender kB oB))) ((dk_dec (K (dk_fki (dk_sender kB oB))) (dk_code kB oB)).toInt32 &&& 65535) sp).2).2.2.2.1, ((dk_roll (K (dk_fki (dk_sender kB oB))) ((dk_dec (K (dk_fki (dk_sender kB oB))) (dk_code kB oB)).toInt32 &&& 65535) sp).2).2.2.2.2.1, ((dk_roll (K (dk_fki (dk_sender kB oB))) ((dk_dec (K (dk_fki (dk_sender kB oB))) (dk_code kB oB)).toInt32 &&& 65535) sp).2).2.2.2.2.2.1, (dk_flags kB oB &&& 1)))) H := hP
              have hD : va_D (up_c (dkW cK cB cI o ks fa oa fb ob dr ds L n sp co en cr rl qs kA oA kB oB tt ss st K)) (dkW cK cB cI o ks fa oa fb ob dr ds L n sp co en cr rl qs kA oA kB oB tt ss st (va_up K (dk_fki (dk_sender kB oB)) (((dk_roll (K (dk_fki (dk_sender kB oB))) ((dk_dec (K (dk_fki (dk_sender kB oB))) (dk_code kB oB)).toInt32 &&& 65535) sp).2).1, ((dk_roll (K (dk_fki (dk_sender kB oB))) ((dk_dec (K (dk_fki (dk_sender kB oB))) (dk_code kB oB)).toInt32 &&& 65535) sp).2).2.1, ((dk_roll (K (dk_fki (dk_sender kB oB))) ((dk_dec (K (dk_fki (dk_sender kB oB))) (dk_code kB oB)).toInt32 &&& 65535) sp).2).2.2.1, ((dk_roll (K (dk_fki (dk_sender kB oB))) ((dk_dec (K (dk_fki (dk_sender kB oB))) (dk_code kB oB)).toInt32 &&& 65535) sp).2).2.2.2.1, ((dk_roll (K (dk_fki (dk_sender kB oB))) ((dk_dec (K (dk_fki (dk_sender kB oB))) (dk_code kB oB)).toInt32 &&& 65535) sp).2).2.2.2.2.1, ((dk_roll (K (dk_fki (dk_sender kB oB))) ((dk_dec (K (dk_fki (dk_sender kB oB))) (dk_code kB oB)).toInt32 &&& 65535) sp).2).2.2.2.2.2.1, (dk_flags kB oB &&& 1)))) := hD
              refine lv_aload_n hx hb dX3_judge_94 rfl (lv_at hl 3 rfl) ?_
              refine lv_aload_n hx hb dX3_judge_95 rfl (lv_at hl 4 rfl) ?_
              refine up_read (W.runV (As := []) (rest := [.ref o]) ⟨hx, hb, hml, hown, hts⟩ (c_X1_command l dC dI cK cB cI o ks fa oa fb ob dr ds L n sp co en cr rl qs kA oA kB oB tt ss st (va_up K (dk_fki (dk_sender kB oB)) (((dk_roll (K (dk_fki (dk_sender kB oB))) ((dk_dec (K (dk_fki (dk_sender kB oB))) (dk_code kB oB)).toInt32 &&& 65535) sp).2).1, ((dk_roll (K (dk_fki (dk_sender kB oB))) ((dk_dec (K (dk_fki (dk_sender kB oB))) (dk_code kB oB)).toInt32 &&& 65535) sp).2).2.1, ((dk_roll (K (dk_fki (dk_sender kB oB))) ((dk_dec (K (dk_fki (dk_sender kB oB))) (dk_code kB oB)).toInt32 &&& 65535) sp).2).2.2.1, ((dk_roll (K (dk_fki (dk_sender kB oB))) ((dk_dec (K (dk_fki (dk_sender kB oB))) (dk_code kB oB)).toInt32 &&& 65535) sp).2).2.2.2.1, ((dk_roll (K (dk_fki (dk_sender kB oB))) ((dk_dec (K (dk_fki (dk_sender kB oB))) (dk_code kB oB)).toInt32 &&& 65535) sp).2).2.2.2.2.1, ((dk_roll (K (dk_fki (dk_sender kB oB))) ((dk_dec (K (dk_fki (dk_sender kB oB))) (dk_code kB oB)).toInt32 &&& 65535) sp).2).2.2.2.2.2.1, (dk_flags kB oB &&& 1)))) (cwV 0 hts gX3_judge_X1_command rfl rfl rfl (by decide +kernel) ⟨Nat.le_of_ble_eq_true rfl, Nat.le_of_ble_eq_true rfl⟩) (up_preV (q0 := 4) (ci := 2) hP hK hD rfl rfl) rfl rfl hl.1 rfl (lv_room (Nat.le_of_ble_eq_true rfl)) dX3_judge_96 ⟨Nat.le_of_ble_eq_true rfl, Nat.le_of_ble_eq_true rfl⟩) ?_
              refine up_call (W.runV (As := [.int (dk_command kB oB)]) (rest := []) ⟨hx, hb, hml, hown, hts⟩ (c_X3_obey l dC dI cK cB cI o ks fa oa fb ob dr ds L n sp co en cr rl qs kA oA kB oB tt ss st (va_up K (dk_fki (dk_sender kB oB)) (((dk_roll (K (dk_fki (dk_sender kB oB))) ((dk_dec (K (dk_fki (dk_sender kB oB))) (dk_code kB oB)).toInt32 &&& 65535) sp).2).1, ((dk_roll (K (dk_fki (dk_sender kB oB))) ((dk_dec (K (dk_fki (dk_sender kB oB))) (dk_code kB oB)).toInt32 &&& 65535) sp).2).2.1, ((dk_roll (K (dk_fki (dk_sender kB oB))) ((dk_dec (K (dk_fki (dk_sender kB oB))) (dk_code kB oB)).toInt32 &&& 65535) sp).2).2.2.1, ((dk_roll (K (dk_fki (dk_sender kB oB))) ((dk_dec (K (dk_fki (dk_sender kB oB))) (dk_code kB oB)).toInt32 &&& 65535) sp).2).2.2.2.1, ((dk_roll (K (dk_fki (dk_sender kB oB))) ((dk_dec (K (dk_fki (dk_sender kB oB))) (dk_code kB oB)).toInt32 &&& 65535) sp).2).2.2.2.2.1, ((dk_roll (K (dk_fki (dk_sender kB oB))) ((dk_dec (K (dk_fki (dk_sender kB oB))) (dk_code kB oB)).toInt32 &&& 65535) sp).2).2.2.2.2.2.1, (dk_flags kB oB &&& 1))) (dk_command kB oB)) (cwV 1 hts gX3_judge_X3_obey rfl rfl rfl (by decide +kernel) ⟨Nat.le_of_ble_eq_true rfl, Nat.le_of_ble_eq_true rfl⟩) (up_preV (q0 := 0) (ci := 4) hP hK hD rfl rfl) rfl rfl hl.1 rfl (lv_room (Nat.le_of_ble_eq_true rfl)) dX3_judge_99 ⟨Nat.le_of_ble_eq_true rfl, Nat.le_of_ble_eq_true rfl⟩) hD hS ((dk_fst ..).trans (dk_fst ..).symm) (fun H locs hP hD hS _ _ => ?_)
              have hP : va_P (dC, dI) vwCl (dkW cK cB cI o ks fa oa fb ob dr ds L n sp co en cr rl qs kA oA kB oB tt ((dk_obey cr st tt ss (dk_command kB oB)).2) ((dk_obey cr st tt ss (dk_command kB oB)).1) (va_up K (dk_fki (dk_sender kB oB)) (((dk_roll (K (dk_fki (dk_sender kB oB))) ((dk_dec (K (dk_fki (dk_sender kB oB))) (dk_code kB oB)).toInt32 &&& 65535) sp).2).1, ((dk_roll (K (dk_fki (dk_sender kB oB))) ((dk_dec (K (dk_fki (dk_sender kB oB))) (dk_code kB oB)).toInt32 &&& 65535) sp).2).2.1, ((dk_roll (K (dk_fki (dk_sender kB oB))) ((dk_dec (K (dk_fki (dk_sender kB oB))) (dk_code kB oB)).toInt32 &&& 65535) sp).2).2.2.1, ((dk_roll (K (dk_fki (dk_sender kB oB))) ((dk_dec (K (dk_fki (dk_sender kB oB))) (dk_code kB oB)).toInt32 &&& 65535) sp).2).2.2.2.1, ((dk_roll (K (dk_fki (dk_sender kB oB))) ((dk_dec (K (dk_fki (dk_sender kB oB))) (dk_code kB oB)).toInt32 &&& 65535) sp).2).2.2.2.2.1, ((dk_roll (K (dk_fki (dk_sender kB oB))) ((dk_dec (K (dk_fki (dk_sender kB oB))) (dk_code kB oB)).toInt32 &&& 65535) sp).2).2.2.2.2.2.1, (dk_flags kB oB &&& 1)))) H := hP
              have hD : va_D (up_c (dkW cK cB cI o ks fa oa fb ob dr ds L n sp co en cr rl qs kA oA kB oB tt ss st K)) (dkW cK cB cI o ks fa oa fb ob dr ds L n sp co en cr rl qs kA oA kB oB tt ((dk_obey cr st tt ss (dk_command kB oB)).2) ((dk_obey cr st tt ss (dk_command kB oB)).1) (va_up K (dk_fki (dk_sender kB oB)) (((dk_roll (K (dk_fki (dk_sender kB oB))) ((dk_dec (K (dk_fki (dk_sender kB oB))) (dk_code kB oB)).toInt32 &&& 65535) sp).2).1, ((dk_roll (K (dk_fki (dk_sender kB oB))) ((dk_dec (K (dk_fki (dk_sender kB oB))) (dk_code kB oB)).toInt32 &&& 65535) sp).2).2.1, ((dk_roll (K (dk_fki (dk_sender kB oB))) ((dk_dec (K (dk_fki (dk_sender kB oB))) (dk_code kB oB)).toInt32 &&& 65535) sp).2).2.2.1, ((dk_roll (K (dk_fki (dk_sender kB oB))) ((dk_dec (K (dk_fki (dk_sender kB oB))) (dk_code kB oB)).toInt32 &&& 65535) sp).2).2.2.2.1, ((dk_roll (K (dk_fki (dk_sender kB oB))) ((dk_dec (K (dk_fki (dk_sender kB oB))) (dk_code kB oB)).toInt32 &&& 65535) sp).2).2.2.2.2.1, ((dk_roll (K (dk_fki (dk_sender kB oB))) ((dk_dec (K (dk_fki (dk_sender kB oB))) (dk_code kB oB)).toInt32 &&& 65535) sp).2).2.2.2.2.2.1, (dk_flags kB oB &&& 1)))) := hD
              refine lv_iload hx hb dX3_judge_102 (lv_at hl 0 rfl) ?_
              have e_ : dk_judge n sp cr kB oB tt ss st K = ((dk_roll (K (dk_fki (dk_sender kB oB))) ((dk_dec (K (dk_fki (dk_sender kB oB))) (dk_code kB oB)).toInt32 &&& 65535) sp).1, (va_up K (dk_fki (dk_sender kB oB)) (((dk_roll (K (dk_fki (dk_sender kB oB))) ((dk_dec (K (dk_fki (dk_sender kB oB))) (dk_code kB oB)).toInt32 &&& 65535) sp).2).1, ((dk_roll (K (dk_fki (dk_sender kB oB))) ((dk_dec (K (dk_fki (dk_sender kB oB))) (dk_code kB oB)).toInt32 &&& 65535) sp).2).2.1, ((dk_roll (K (dk_fki (dk_sender kB oB))) ((dk_dec (K (dk_fki (dk_sender kB oB))) (dk_code kB oB)).toInt32 &&& 65535) sp).2).2.2.1, ((dk_roll (K (dk_fki (dk_sender kB oB))) ((dk_dec (K (dk_fki (dk_sender kB oB))) (dk_code kB oB)).toInt32 &&& 65535) sp).2).2.2.2.1, ((dk_roll (K (dk_fki (dk_sender kB oB))) ((dk_dec (K (dk_fki (dk_sender kB oB))) (dk_code kB oB)).toInt32 &&& 65535) sp).2).2.2.2.2.1, ((dk_roll (K (dk_fki (dk_sender kB oB))) ((dk_dec (K (dk_fki (dk_sender kB oB))) (dk_code kB oB)).toInt32 &&& 65535) sp).2).2.2.2.2.2.1, (dk_flags kB oB &&& 1))), (dk_obey cr st tt ss (dk_command kB oB)).1, (dk_obey cr st tt ss (dk_command kB oB)).2) := by unfold dk_judge; exact (if_neg c_4).trans ((if_pos c_12).trans ((if_pos hk_22).trans ((if_neg c_34).trans ((if_pos c_58).trans ((if_pos c_81).trans rfl)))))
              rw [e_]
              exact W.iret (v := (dk_roll (K (dk_fki (dk_sender kB oB))) ((dk_dec (K (dk_fki (dk_sender kB oB))) (dk_code kB oB)).toInt32 &&& 65535) sp).1) hx hb hr (fun t ht hW => ⟨rfl, by rw [ht]; exact hP, hS.F ht⟩) hS.2.2 dX3_judge_104
          · refine lv_iconst (v := 0) hx hb dX3_judge_61 (by decide) ?_
            have e_ : dk_judge n sp cr kB oB tt ss st K = ((0 : Int32), K, st, ss) := by unfold dk_judge; exact (if_neg c_4).trans ((if_pos c_12).trans ((if_pos hk_22).trans ((if_neg c_34).trans ((if_neg c_58).trans rfl))))
            rw [e_]
            exact W.iret (v := 0) hx hb hr (fun t ht hW => ⟨rfl, by rw [ht]; exact hP, hS.F ht⟩) hS.2.2 dX3_judge_62
        · refine lv_iconst (v := 0) hx hb dX3_judge_37 (by decide) ?_
          have e_ : dk_judge n sp cr kB oB tt ss st K = ((0 : Int32), K, st, ss) := by unfold dk_judge; exact (if_neg c_4).trans ((if_pos c_12).trans ((if_pos hk_22).trans ((if_pos c_34).trans rfl)))
          rw [e_]
          exact W.iret (v := 0) hx hb hr (fun t ht hW => ⟨rfl, by rw [ht]; exact hP, hS.F ht⟩) hS.2.2 dX3_judge_38
      · refine up_read (W.runV (As := [.int (dk_sender kB oB)]) (rest := []) ⟨hx, hb, hml, hown, hts⟩ (c_X3_findN l dC dI cK cB cI o ks fa oa fb ob dr ds L n sp co en cr rl qs kA oA kB oB tt ss st K (dk_sender kB oB) hn hk_22) (cwV 1 hts gX3_judge_X3_find rfl rfl rfl (by decide +kernel) ⟨Nat.le_of_ble_eq_true rfl, Nat.le_of_ble_eq_true rfl⟩) (up_preV (q0 := 0) (ci := 4) hP hK hD rfl rfl) rfl rfl hl.1 rfl (lv_room (Nat.le_of_ble_eq_true rfl)) dX3_judge_22 ⟨Nat.le_of_ble_eq_true rfl, Nat.le_of_ble_eq_true rfl⟩) ?_
        refine lv_astore_nN (lv' := [(2, .null), (0, .ref o), (1, .ref fb)]) hx hb dX3_judge_25 rfl hl (by decide) rfl (fun ls hl => ?_)
        refine lv_aload_nN hx hb dX3_judge_26 rfl (lv_at hl 0 rfl) ?_
        refine lv_ifnullN (tgt := 37) hx hb dX3_judge_27 (by decide) ?_
        refine lv_iconst (v := 0) hx hb dX3_judge_37 (by decide) ?_
        have e_ : dk_judge n sp cr kB oB tt ss st K = ((0 : Int32), K, st, ss) := by unfold dk_judge; exact (if_neg c_4).trans ((if_pos c_12).trans ((if_neg hk_22).trans rfl))
        rw [e_]
        exact W.iret (v := 0) hx hb hr (fun t ht hW => ⟨rfl, by rw [ht]; exact hP, hS.F ht⟩) hS.2.2 dX3_judge_38
    · refine lv_iconst (v := 0) hx hb dX3_judge_15 (by decide) ?_
      have e_ : dk_judge n sp cr kB oB tt ss st K = ((0 : Int32), K, st, ss) := by unfold dk_judge; exact (if_neg c_4).trans ((if_neg c_12).trans rfl)
      rw [e_]
      exact W.iret (v := 0) hx hb hr (fun t ht hW => ⟨rfl, by rw [ht]; exact hP, hS.F ht⟩) hS.2.2 dX3_judge_16
def dk_counter (n : Nat) (K : Nat → KR) (x : Int32) : Int64 :=
  if dk_fkP n x then
    ((K (dk_fki x)).2.1).toInt64
  else
    ((-1) : Int64)
def rm_X3_counter : Room := { frames := 1, cells := 0, slots := 0, locals := 21 }
set_option maxHeartbeats 4000000 in
set_option maxRecDepth 100000 in
theorem c_X3_counter (l : Launch) (dC : Nat → ClassId) (dI : Nat → Nat → Nat) (cK : ClassId) (cB : ClassId) (cI : ClassId) (o : Nat) (ks : Nat) (fa : Nat) (oa : Nat) (fb : Nat) (ob : Nat) (dr : Nat) (ds : Nat) (L : Nat → Nat) (n : Nat) (sp : Int32) (co : Nat) (en : Nat) (cr : Int32) (rl : Int32) (qs : Int32) (kA : Int32) (oA : Nat → Int8) (kB : Int32) (oB : Nat → Int8) (tt : Int64) (ss : Int64) (st : Nat → Int32) (K : Nat → KR) (x : Int32) (hn : n ≤ 8) : Met l yX3_counter wsX3_counter rm_X3_counter (up_P (dC, dI) vwCl (dkT cK cB cI) (dkW cK cB cI o ks fa oa fb ob dr ds L n sp co en cr rl qs kA oA kB oB tt ss st K) [.ref o, .int x]) (k2_QcV (.long (dk_counter n K x))) 0 0 (fun _ => False) := by
  refine Met.ofW (cc := cX3_counter) (maxL := 3) (ret := (some .long)) (by decide) rfl ?_
  intro p e s m args below meth c s₁ B hml hv
  obtain ⟨rfl, hP, hK, hD0⟩ := hv
  have hx := B.exec
  have hb := B.bytes
  have hr := B.returns
  have hts := atoms_spec (ws := wsX3_counter) B.pre
  have hown : s.vm.findClass RX3 = some m.cls := findClass_of_methodNamed B.named
  have hlocks := B.notSynchronized
  have hD := up_self hD0
  have hS : va_S (up_c (dkW cK cB cI o ks fa oa fb ob dr ds L n sp co en cr rl qs kA oA kB oB tt ss st K)) s.heap s.heap [] := va_S.rf
  have hl := lv_entry ([.ref o, .int x]) (n := 3) (Nat.le_of_ble_eq_true rfl)
  rw [lg_entry_eq]
  generalize (lg_sl ([.ref o, .int x]) ++ List.replicate (3 - (lg_sl ([.ref o, .int x])).length) Slot.unset).toArray = ls at hl ⊢
  have hl : lv_has ls 3 [(0, .ref o), (1, .int x)] := hl
  refine lv_aload_n hx hb dX3_counter_0 rfl (lv_at hl 0 rfl) ?_
  refine lv_iload_n hx hb dX3_counter_1 rfl (lv_at hl 1 rfl) ?_
  by_cases hk_2 : dk_fkP n x
  · have hi_2 : dk_fki x < n := dk_fk_lt hn hk_2
    refine up_read (W.runV (As := [.int x]) (rest := []) ⟨hx, hb, hml, hown, hts⟩ (c_X3_findS l dC dI cK cB cI o ks fa oa fb ob dr ds L n sp co en cr rl qs kA oA kB oB tt ss st K x hn hk_2) (cwV 1 hts gX3_counter_X3_find rfl rfl rfl (by decide +kernel) ⟨Nat.le_of_ble_eq_true rfl, Nat.le_of_ble_eq_true rfl⟩) (up_preV (q0 := 0) (ci := 4) hP hK hD rfl rfl) rfl rfl hl.1 rfl (lv_room (Nat.le_of_ble_eq_true rfl)) dX3_counter_2 ⟨Nat.le_of_ble_eq_true rfl, Nat.le_of_ble_eq_true rfl⟩) ?_
    refine lv_astore_n (lv' := [(2, .ref (L (dk_fki x))), (0, .ref o), (1, .int x)]) hx hb dX3_counter_5 rfl hl (by decide) rfl (fun ls hl => ?_)
    refine lv_aload_n hx hb dX3_counter_6 rfl (lv_at hl 0 rfl) ?_
    refine lv_ifnonnull (tgt := 16) hx hb dX3_counter_7 (by decide) ?_
    refine lv_aload_n hx hb dX3_counter_16 rfl (lv_at hl 0 rfl) ?_
    refine va_get (D := (dC, dI)) (ci := 3) (v := .int ((K (dk_fki x)).2.1)) (C := RX2) (T := TX2) (N := 7) hx hb hts inn_X3_counter_X2 hown hK hP ((dk_fki x) + 8) (dk_keyk hi_2 rfl) rfl 1 (by decide) (hts (.fieldLink RX3 65 "DoorKeys$Key" "counter" "I") (by decide +kernel)) (fun _ h9 => h9) rfl dX3_counter_17 ?_
    refine lv_i2l (v := ((K (dk_fki x)).2.1).toInt64) hx hb dX3_counter_20 rfl ?_
    have e_ : dk_counter n K x = ((K (dk_fki x)).2.1).toInt64 := by unfold dk_counter; exact (if_pos hk_2).trans rfl
    rw [e_]
    exact W.lret (v := ((K (dk_fki x)).2.1).toInt64) hx hb hr (fun t ht hW => ⟨rfl, ht⟩) (fun q h => absurd h List.not_mem_nil) dX3_counter_21
  · refine up_read (W.runV (As := [.int x]) (rest := []) ⟨hx, hb, hml, hown, hts⟩ (c_X3_findN l dC dI cK cB cI o ks fa oa fb ob dr ds L n sp co en cr rl qs kA oA kB oB tt ss st K x hn hk_2) (cwV 1 hts gX3_counter_X3_find rfl rfl rfl (by decide +kernel) ⟨Nat.le_of_ble_eq_true rfl, Nat.le_of_ble_eq_true rfl⟩) (up_preV (q0 := 0) (ci := 4) hP hK hD rfl rfl) rfl rfl hl.1 rfl (lv_room (Nat.le_of_ble_eq_true rfl)) dX3_counter_2 ⟨Nat.le_of_ble_eq_true rfl, Nat.le_of_ble_eq_true rfl⟩) ?_
    refine lv_astore_nN (lv' := [(2, .null), (0, .ref o), (1, .int x)]) hx hb dX3_counter_5 rfl hl (by decide) rfl (fun ls hl => ?_)
    refine lv_aload_nN hx hb dX3_counter_6 rfl (lv_at hl 0 rfl) ?_
    refine lv_ifnonnullN hx hb dX3_counter_7 ?_
    refine lv_ldc2 (v := (-1)) hx hb hown (hts (.constantLong RX3 63 (-1)) (by decide +kernel)) dX3_counter_10 ?_
    refine lv_goto (tgt := 21) hx hb dX3_counter_13 (by decide) ?_
    have e_ : dk_counter n K x = ((-1) : Int64) := by unfold dk_counter; exact (if_neg hk_2).trans rfl
    rw [e_]
    exact W.lret (v := (-1)) hx hb hr (fun t ht hW => ⟨rfl, ht⟩) (fun q h => absurd h List.not_mem_nil) dX3_counter_21
def dk_battery (n : Nat) (K : Nat → KR) (x : Int32) : Int32 :=
  if dk_fkP n x then
    (K (dk_fki x)).2.2.2.2.2.2
  else
    ((-1) : Int32)
def rm_X3_battery : Room := { frames := 1, cells := 0, slots := 0, locals := 21 }
set_option maxHeartbeats 4000000 in
set_option maxRecDepth 100000 in
theorem c_X3_battery (l : Launch) (dC : Nat → ClassId) (dI : Nat → Nat → Nat) (cK : ClassId) (cB : ClassId) (cI : ClassId) (o : Nat) (ks : Nat) (fa : Nat) (oa : Nat) (fb : Nat) (ob : Nat) (dr : Nat) (ds : Nat) (L : Nat → Nat) (n : Nat) (sp : Int32) (co : Nat) (en : Nat) (cr : Int32) (rl : Int32) (qs : Int32) (kA : Int32) (oA : Nat → Int8) (kB : Int32) (oB : Nat → Int8) (tt : Int64) (ss : Int64) (st : Nat → Int32) (K : Nat → KR) (x : Int32) (hn : n ≤ 8) : Met l yX3_battery wsX3_battery rm_X3_battery (up_P (dC, dI) vwCl (dkT cK cB cI) (dkW cK cB cI o ks fa oa fb ob dr ds L n sp co en cr rl qs kA oA kB oB tt ss st K) [.ref o, .int x]) (k2_QcV (.int (dk_battery n K x))) 0 0 (fun _ => False) := by
  refine Met.ofW (cc := cX3_battery) (maxL := 3) (ret := (some .int)) (by decide) rfl ?_
  intro p e s m args below meth c s₁ B hml hv
  obtain ⟨rfl, hP, hK, hD0⟩ := hv
  have hx := B.exec
  have hb := B.bytes
  have hr := B.returns
  have hts := atoms_spec (ws := wsX3_battery) B.pre
  have hown : s.vm.findClass RX3 = some m.cls := findClass_of_methodNamed B.named
  have hlocks := B.notSynchronized
  have hD := up_self hD0
  have hS : va_S (up_c (dkW cK cB cI o ks fa oa fb ob dr ds L n sp co en cr rl qs kA oA kB oB tt ss st K)) s.heap s.heap [] := va_S.rf
  have hl := lv_entry ([.ref o, .int x]) (n := 3) (Nat.le_of_ble_eq_true rfl)
  rw [lg_entry_eq]
  generalize (lg_sl ([.ref o, .int x]) ++ List.replicate (3 - (lg_sl ([.ref o, .int x])).length) Slot.unset).toArray = ls at hl ⊢
  have hl : lv_has ls 3 [(0, .ref o), (1, .int x)] := hl
  refine lv_aload_n hx hb dX3_battery_0 rfl (lv_at hl 0 rfl) ?_
  refine lv_iload_n hx hb dX3_battery_1 rfl (lv_at hl 1 rfl) ?_
  by_cases hk_2 : dk_fkP n x
  · have hi_2 : dk_fki x < n := dk_fk_lt hn hk_2
    refine up_read (W.runV (As := [.int x]) (rest := []) ⟨hx, hb, hml, hown, hts⟩ (c_X3_findS l dC dI cK cB cI o ks fa oa fb ob dr ds L n sp co en cr rl qs kA oA kB oB tt ss st K x hn hk_2) (cwV 1 hts gX3_battery_X3_find rfl rfl rfl (by decide +kernel) ⟨Nat.le_of_ble_eq_true rfl, Nat.le_of_ble_eq_true rfl⟩) (up_preV (q0 := 0) (ci := 4) hP hK hD rfl rfl) rfl rfl hl.1 rfl (lv_room (Nat.le_of_ble_eq_true rfl)) dX3_battery_2 ⟨Nat.le_of_ble_eq_true rfl, Nat.le_of_ble_eq_true rfl⟩) ?_
    refine lv_astore_n (lv' := [(2, .ref (L (dk_fki x))), (0, .ref o), (1, .int x)]) hx hb dX3_battery_5 rfl hl (by decide) rfl (fun ls hl => ?_)
    refine lv_aload_n hx hb dX3_battery_6 rfl (lv_at hl 0 rfl) ?_
    refine lv_ifnonnull (tgt := 14) hx hb dX3_battery_7 (by decide) ?_
    refine lv_aload_n hx hb dX3_battery_14 rfl (lv_at hl 0 rfl) ?_
    refine va_get (D := (dC, dI)) (ci := 3) (v := .int ((K (dk_fki x)).2.2.2.2.2.2)) (C := RX2) (T := TX2) (N := 7) hx hb hts inn_X3_battery_X2 hown hK hP ((dk_fki x) + 8) (dk_keyk hi_2 rfl) rfl 6 (by decide) (hts (.fieldLink RX3 147 "DoorKeys$Key" "lowBattery" "I") (by decide +kernel)) (fun _ h9 => h9) rfl dX3_battery_15 ?_
    have e_ : dk_battery n K x = (K (dk_fki x)).2.2.2.2.2.2 := by unfold dk_battery; exact (if_pos hk_2).trans rfl
    rw [e_]
    exact W.iret (v := (K (dk_fki x)).2.2.2.2.2.2) hx hb hr (fun t ht hW => ⟨rfl, ht⟩) (fun q h => absurd h List.not_mem_nil) dX3_battery_18
  · refine up_read (W.runV (As := [.int x]) (rest := []) ⟨hx, hb, hml, hown, hts⟩ (c_X3_findN l dC dI cK cB cI o ks fa oa fb ob dr ds L n sp co en cr rl qs kA oA kB oB tt ss st K x hn hk_2) (cwV 1 hts gX3_battery_X3_find rfl rfl rfl (by decide +kernel) ⟨Nat.le_of_ble_eq_true rfl, Nat.le_of_ble_eq_true rfl⟩) (up_preV (q0 := 0) (ci := 4) hP hK hD rfl rfl) rfl rfl hl.1 rfl (lv_room (Nat.le_of_ble_eq_true rfl)) dX3_battery_2 ⟨Nat.le_of_ble_eq_true rfl, Nat.le_of_ble_eq_true rfl⟩) ?_
    refine lv_astore_nN (lv' := [(2, .null), (0, .ref o), (1, .int x)]) hx hb dX3_battery_5 rfl hl (by decide) rfl (fun ls hl => ?_)
    refine lv_aload_nN hx hb dX3_battery_6 rfl (lv_at hl 0 rfl) ?_
    refine lv_ifnonnullN hx hb dX3_battery_7 ?_
    refine lv_iconst (v := (-1)) hx hb dX3_battery_10 (by decide) ?_
    refine lv_goto (tgt := 18) hx hb dX3_battery_11 (by decide) ?_
    have e_ : dk_battery n K x = ((-1) : Int32) := by unfold dk_battery; exact (if_neg hk_2).trans rfl
    rw [e_]
    exact W.iret (v := (-1)) hx hb hr (fun t ht hW => ⟨rfl, ht⟩) (fun q h => absurd h List.not_mem_nil) dX3_battery_18
def dk_state (rl : Int32) (qs : Int32) (st : Nat → Int32) (x : Int32) : Int32 :=
  if x = 5 then
    rl
  else
    if x = 6 then
      qs
    else
      if dk_dhas x = 0 then
        ((-1) : Int32)
      else
        (st x.toNatClampNeg)
def rm_X3_state : Room := { frames := 1, cells := 0, slots := 0, locals := 21 }
set_option maxHeartbeats 4000000 in
set_option maxRecDepth 100000 in
theorem c_X3_state (l : Launch) (dC : Nat → ClassId) (dI : Nat → Nat → Nat) (cK : ClassId) (cB : ClassId) (cI : ClassId) (o : Nat) (ks : Nat) (fa : Nat) (oa : Nat) (fb : Nat) (ob : Nat) (dr : Nat) (ds : Nat) (L : Nat → Nat) (n : Nat) (sp : Int32) (co : Nat) (en : Nat) (cr : Int32) (rl : Int32) (qs : Int32) (kA : Int32) (oA : Nat → Int8) (kB : Int32) (oB : Nat → Int8) (tt : Int64) (ss : Int64) (st : Nat → Int32) (K : Nat → KR) (x : Int32) : Met l yX3_state wsX3_state rm_X3_state (up_P (dC, dI) vwCl (dkT cK cB cI) (dkW cK cB cI o ks fa oa fb ob dr ds L n sp co en cr rl qs kA oA kB oB tt ss st K) [.ref o, .int x]) (k2_QcV (.int (dk_state rl qs st x))) 0 0 (fun _ => False) := by
  refine Met.ofW (cc := cX3_state) (maxL := 2) (ret := (some .int)) (by decide) rfl ?_
  intro p e s m args below meth c s₁ B hml hv
  obtain ⟨rfl, hP, hK, hD0⟩ := hv
  have hx := B.exec
  have hb := B.bytes
  have hr := B.returns
  have hts := atoms_spec (ws := wsX3_state) B.pre
  have hown : s.vm.findClass RX3 = some m.cls := findClass_of_methodNamed B.named
  have hlocks := B.notSynchronized
  have hD := up_self hD0
  have hS : va_S (up_c (dkW cK cB cI o ks fa oa fb ob dr ds L n sp co en cr rl qs kA oA kB oB tt ss st K)) s.heap s.heap [] := va_S.rf
  have hl := lv_entry ([.ref o, .int x]) (n := 2) (Nat.le_of_ble_eq_true rfl)
  rw [lg_entry_eq]
  generalize (lg_sl ([.ref o, .int x]) ++ List.replicate (2 - (lg_sl ([.ref o, .int x])).length) Slot.unset).toArray = ls at hl ⊢
  have hl : lv_has ls 2 [(0, .ref o), (1, .int x)] := hl
  refine lv_iload_n hx hb dX3_state_0 rfl (lv_at hl 1 rfl) ?_
  refine lv_iconst (v := 5) hx hb dX3_state_1 (by decide) ?_
  refine lv_icmp_ne (tgt := 10) hx hb dX3_state_2 (by decide) (fun c_2 => ?_) (fun c_2 => ?_)
  · refine lv_iload_n hx hb dX3_state_10 rfl (lv_at hl 1 rfl) ?_
    refine lv_bipush (v := 6) hx hb dX3_state_11 (by decide) ?_
    refine lv_icmp_ne (tgt := 21) hx hb dX3_state_13 (by decide) (fun c_13 => ?_) (fun c_13 => ?_)
    · refine lv_aload_n hx hb dX3_state_21 rfl (lv_at hl 0 rfl) ?_
      refine va_get (D := (dC, dI)) (ci := 4) (v := .ref dr) (C := RX3) (T := TX3) (N := 9) hx hb hts inn_X3_state_X3 hown hK hP 0 rfl rfl 5 (by decide) (hts (.fieldLink RX3 32 "DoorKeys" "doors" "LDoorKeys$Doors;") (by decide +kernel)) (fun _ h9 => h9) rfl dX3_state_22 ?_
      refine lv_iload_n hx hb dX3_state_25 rfl (lv_at hl 1 rfl) ?_
      refine up_read (W.runV (As := [.int x]) (rest := []) ⟨hx, hb, hml, hown, hts⟩ (c_X0_has l dC dI cK cB cI o ks fa oa fb ob dr ds L n sp co en cr rl qs kA oA kB oB tt ss st K x) (cwV 1 hts gX3_state_X0_has rfl rfl rfl (by decide +kernel) ⟨Nat.le_of_ble_eq_true rfl, Nat.le_of_ble_eq_true rfl⟩) (up_preV (q0 := 6) (ci := 1) hP hK hD rfl rfl) rfl rfl hl.1 rfl (lv_room (Nat.le_of_ble_eq_true rfl)) dX3_state_26 ⟨Nat.le_of_ble_eq_true rfl, Nat.le_of_ble_eq_true rfl⟩) ?_
      refine lv_if_eq (tgt := 44) hx hb dX3_state_29 (by decide) (fun c_29 => ?_) (fun c_29 => ?_)
      · refine lv_iconst (v := (-1)) hx hb dX3_state_44 (by decide) ?_
        have e_ : dk_state rl qs st x = ((-1) : Int32) := by unfold dk_state; exact (if_neg c_2).trans ((if_neg c_13).trans ((if_pos c_29).trans rfl))
        rw [e_]
        exact W.iret (v := (-1)) hx hb hr (fun t ht hW => ⟨rfl, ht⟩) (fun q h => absurd h List.not_mem_nil) dX3_state_45
      · refine lv_aload_n hx hb dX3_state_32 rfl (lv_at hl 0 rfl) ?_
        refine va_get (D := (dC, dI)) (ci := 4) (v := .ref dr) (C := RX3) (T := TX3) (N := 9) hx hb hts inn_X3_state_X3 hown hK hP 0 rfl rfl 5 (by decide) (hts (.fieldLink RX3 32 "DoorKeys" "doors" "LDoorKeys$Doors;") (by decide +kernel)) (fun _ h9 => h9) rfl dX3_state_33 ?_
        refine va_get (D := (dC, dI)) (ci := 1) (v := .ref ds) (C := RX0) (T := TX0) (N := 3) hx hb hts inn_X3_state_X0 hown hK hP 6 rfl rfl 0 (by decide) (hts (.fieldLink RX3 161 "DoorKeys$Doors" "states" "[I") (by decide +kernel)) (fun _ h9 => h9) rfl dX3_state_36 ?_
        refine lv_iload_n hx hb dX3_state_39 rfl (lv_at hl 1 rfl) ?_
        refine va_iald hx hb hK hP 7 2 rfl rfl (dk_dhas_in c_29) dX3_state_40 ?_
        refine lv_goto (tgt := 45) hx hb dX3_state_41 (by decide) ?_
        have e_ : dk_state rl qs st x = (st x.toNatClampNeg) := by unfold dk_state; exact (if_neg c_2).trans ((if_neg c_13).trans ((if_neg c_29).trans rfl))
        rw [e_]
        exact W.iret (v := (st x.toNatClampNeg)) hx hb hr (fun t ht hW => ⟨rfl, ht⟩) (fun q h => absurd h List.not_mem_nil) dX3_state_45
    · refine lv_aload_n hx hb dX3_state_16 rfl (lv_at hl 0 rfl) ?_
      refine va_get (D := (dC, dI)) (ci := 4) (v := .int qs) (C := RX3) (T := TX3) (N := 9) hx hb hts inn_X3_state_X3 hown hK hP 0 rfl rfl 8 (by decide) (hts (.fieldLink RX3 129 "DoorKeys" "questions" "I") (by decide +kernel)) (fun _ h9 => h9) rfl dX3_state_17 ?_
      have e_ : dk_state rl qs st x = qs := by unfold dk_state; exact (if_neg c_2).trans ((if_pos c_13).trans rfl)
      rw [e_]
      exact W.iret (v := qs) hx hb hr (fun t ht hW => ⟨rfl, ht⟩) (fun q h => absurd h List.not_mem_nil) dX3_state_20
  · refine lv_aload_n hx hb dX3_state_5 rfl (lv_at hl 0 rfl) ?_
    refine va_get (D := (dC, dI)) (ci := 4) (v := .int rl) (C := RX3) (T := TX3) (N := 9) hx hb hts inn_X3_state_X3 hown hK hP 0 rfl rfl 7 (by decide) (hts (.fieldLink RX3 113 "DoorKeys" "relays" "I") (by decide +kernel)) (fun _ h9 => h9) rfl dX3_state_6 ?_
    have e_ : dk_state rl qs st x = rl := by unfold dk_state; exact (if_pos c_2).trans rfl
    rw [e_]
    exact W.iret (v := rl) hx hb hr (fun t ht hW => ⟨rfl, ht⟩) (fun q h => absurd h List.not_mem_nil) dX3_state_9
def dk_lock (cr : Int32) (st : Nat → Int32) (tt : Int64) (ss : Int64) (x : Int32) : Int32 × (Nat → Int32) × Int64 :=
  if x < 0 then
    (((-2) : Int32), st, ss)
  else
    if x ≤ 3 then
      if x = 3 then
        if dk_any st 2 = 0 then
          ((dk_openAll st).1, (dk_openAll st).2, ss)
        else
          ((0 : Int32), st, ss)
      else
        if cr = 0 then
          if x = 1 then
            ((dk_deaden st).1, (dk_deaden st).2, ss)
          else
            if x = 2 then
              ((dk_shutBoot st tt ss).1, (dk_shutBoot st tt ss).2.1, (dk_shutBoot st tt ss).2.2)
            else
              ((dk_shutAll st tt ss).1, (dk_shutAll st tt ss).2.1, (dk_shutAll st tt ss).2.2)
        else
          (((-3) : Int32), st, ss)
    else
      (((-2) : Int32), st, ss)
def rm_X3_lock : Room := { frames := 3, cells := 0, slots := 0, locals := 64 }
set_option maxHeartbeats 4000000 in
set_option maxRecDepth 100000 in
theorem c_X3_lock (l : Launch) (dC : Nat → ClassId) (dI : Nat → Nat → Nat) (cK : ClassId) (cB : ClassId) (cI : ClassId) (o : Nat) (ks : Nat) (fa : Nat) (oa : Nat) (fb : Nat) (ob : Nat) (dr : Nat) (ds : Nat) (L : Nat → Nat) (n : Nat) (sp : Int32) (co : Nat) (en : Nat) (cr : Int32) (rl : Int32) (qs : Int32) (kA : Int32) (oA : Nat → Int8) (kB : Int32) (oB : Nat → Int8) (tt : Int64) (ss : Int64) (st : Nat → Int32) (K : Nat → KR) (x : Int32) : Met l yX3_lock wsX3_lock rm_X3_lock (up_P (dC, dI) vwCl (dkT cK cB cI) (dkW cK cB cI o ks fa oa fb ob dr ds L n sp co en cr rl qs kA oA kB oB tt ss st K) [.ref o, .int x]) (up_Q (dC, dI) vwCl (some (.int ((dk_lock cr st tt ss x).1))) (dkW cK cB cI o ks fa oa fb ob dr ds L n sp co en cr rl qs kA oA kB oB tt ss st K) (dkW cK cB cI o ks fa oa fb ob dr ds L n sp co en cr rl qs kA oA kB oB tt ((dk_lock cr st tt ss x).2.2) ((dk_lock cr st tt ss x).2.1) K)) 0 0 (up_c (dkW cK cB cI o ks fa oa fb ob dr ds L n sp co en cr rl qs kA oA kB oB tt ss st K)) := by
  refine Met.ofW (cc := cX3_lock) (maxL := 2) (ret := (some .int)) (by decide) rfl ?_
  intro p e s m args below meth c s₁ B hml hv
  obtain ⟨rfl, hP, hK, hD0⟩ := hv
  have hx := B.exec
  have hb := B.bytes
  have hr := B.returns
  have hts := atoms_spec (ws := wsX3_lock) B.pre
  have hown : s.vm.findClass RX3 = some m.cls := findClass_of_methodNamed B.named
  have hlocks := B.notSynchronized
  have hD := up_self hD0
  have hS : va_S (up_c (dkW cK cB cI o ks fa oa fb ob dr ds L n sp co en cr rl qs kA oA kB oB tt ss st K)) s.heap s.heap [] := va_S.rf
  have hl := lv_entry ([.ref o, .int x]) (n := 2) (Nat.le_of_ble_eq_true rfl)
  rw [lg_entry_eq]
  generalize (lg_sl ([.ref o, .int x]) ++ List.replicate (2 - (lg_sl ([.ref o, .int x])).length) Slot.unset).toArray = ls at hl ⊢
  have hl : lv_has ls 2 [(0, .ref o), (1, .int x)] := hl
  refine lv_iload_n hx hb dX3_lock_0 rfl (lv_at hl 1 rfl) ?_
  refine lv_if_lt (tgt := 9) hx hb dX3_lock_1 (by decide) (fun c_1 => ?_) (fun c_1 => ?_)
  · refine lv_bipush (v := (-2)) hx hb dX3_lock_9 (by decide) ?_
    have e_ : dk_lock cr st tt ss x = (((-2) : Int32), st, ss) := by unfold dk_lock; exact (if_pos c_1).trans rfl
    rw [e_]
    exact W.iret (v := (-2)) hx hb hr (fun t ht hW => ⟨rfl, by rw [ht]; exact hP, hS.F ht⟩) hS.2.2 dX3_lock_11
  · refine lv_iload_n hx hb dX3_lock_4 rfl (lv_at hl 1 rfl) ?_
    refine lv_iconst (v := 3) hx hb dX3_lock_5 (by decide) ?_
    refine lv_icmp_le (tgt := 12) hx hb dX3_lock_6 (by decide) (fun c_6 => ?_) (fun c_6 => ?_)
    · refine lv_iload_n hx hb dX3_lock_12 rfl (lv_at hl 1 rfl) ?_
      refine lv_iconst (v := 3) hx hb dX3_lock_13 (by decide) ?_
      refine lv_icmp_ne (tgt := 40) hx hb dX3_lock_14 (by decide) (fun c_14 => ?_) (fun c_14 => ?_)
      · refine lv_aload_n hx hb dX3_lock_40 rfl (lv_at hl 0 rfl) ?_
        refine va_get (D := (dC, dI)) (ci := 4) (v := .int cr) (C := RX3) (T := TX3) (N := 9) hx hb hts inn_X3_lock_X3 hown hK hP 0 rfl rfl 6 (by decide) (hts (.fieldLink RX3 76 "DoorKeys" "crashed" "Z") (by decide +kernel)) (fun _ h9 => h9) rfl dX3_lock_41 ?_
        refine lv_if_eq (tgt := 50) hx hb dX3_lock_44 (by decide) (fun c_44 => ?_) (fun c_44 => ?_)
        · refine lv_iload_n hx hb dX3_lock_50 rfl (lv_at hl 1 rfl) ?_
          refine lv_iconst (v := 1) hx hb dX3_lock_51 (by decide) ?_
          refine lv_icmp_ne (tgt := 63) hx hb dX3_lock_52 (by decide) (fun c_52 => ?_) (fun c_52 => ?_)
          · refine lv_iload_n hx hb dX3_lock_63 rfl (lv_at hl 1 rfl) ?_
            refine lv_iconst (v := 2) hx hb dX3_lock_64 (by decide) ?_
            refine lv_icmp_ne (tgt := 78) hx hb dX3_lock_65 (by decide) (fun c_65 => ?_) (fun c_65 => ?_)
            · refine lv_aload_n hx hb dX3_lock_78 rfl (lv_at hl 0 rfl) ?_
              refine va_get (D := (dC, dI)) (ci := 4) (v := .ref dr) (C := RX3) (T := TX3) (N := 9) hx hb hts inn_X3_lock_X3 hown hK hP 0 rfl rfl 5 (by decide) (hts (.fieldLink RX3 32 "DoorKeys" "doors" "LDoorKeys$Doors;") (by decide +kernel)) (fun _ h9 => h9) rfl dX3_lock_79 ?_
              refine up_call (W.runV (As := []) (rest := []) ⟨hx, hb, hml, hown, hts⟩ (c_X0_shutAll l dC dI cK cB cI o ks fa oa fb ob dr ds L n sp co en cr rl qs kA oA kB oB tt ss st K) (cwV 0 hts gX3_lock_X0_shutAll rfl rfl rfl (by decide +kernel) ⟨Nat.le_of_ble_eq_true rfl, Nat.le_of_ble_eq_true rfl⟩) (up_preV (q0 := 6) (ci := 1) hP hK hD rfl rfl) rfl rfl hl.1 rfl (lv_room (Nat.le_of_ble_eq_true rfl)) dX3_lock_82 ⟨Nat.le_of_ble_eq_true rfl, Nat.le_of_ble_eq_true rfl⟩) hD hS ((dk_fst ..).trans (dk_fst ..).symm) (fun H locs hP hD hS _ _ => ?_)
              have hP : va_P (dC, dI) vwCl (dkW cK cB cI o ks fa oa fb ob dr ds L n sp co en cr rl qs kA oA kB oB tt ((dk_shutAll st tt ss).2.2) ((dk_shutAll st tt ss).2.1) K) H := hP
              have hD : va_D (up_c (dkW cK cB cI o ks fa oa fb ob dr ds L n sp co en cr rl qs kA oA kB oB tt ss st K)) (dkW cK cB cI o ks fa oa fb ob dr ds L n sp co en cr rl qs kA oA kB oB tt ((dk_shutAll st tt ss).2.2) ((dk_shutAll st tt ss).2.1) K) := hD
              have e_ : dk_lock cr st tt ss x = ((dk_shutAll st tt ss).1, (dk_shutAll st tt ss).2.1, (dk_shutAll st tt ss).2.2) := by unfold dk_lock; exact (if_neg c_1).trans ((if_pos c_6).trans ((if_neg c_14).trans ((if_pos c_44).trans ((if_neg c_52).trans ((if_neg c_65).trans rfl)))))
              rw [e_]
              exact W.iret (v := (dk_shutAll st tt ss).1) hx hb hr (fun t ht hW => ⟨rfl, by rw [ht]; exact hP, hS.F ht⟩) hS.2.2 dX3_lock_85
            · refine lv_aload_n hx hb dX3_lock_68 rfl (lv_at hl 0 rfl) ?_
              refine va_get (D := (dC, dI)) (ci := 4) (v := .ref dr) (C := RX3) (T := TX3) (N := 9) hx hb hts inn_X3_lock_X3 hown hK hP 0 rfl rfl 5 (by decide) (hts (.fieldLink RX3 32 "DoorKeys" "doors" "LDoorKeys$Doors;") (by decide +kernel)) (fun _ h9 => h9) rfl dX3_lock_69 ?_
              refine up_call (W.runV (As := []) (rest := []) ⟨hx, hb, hml, hown, hts⟩ (c_X0_shutBoot l dC dI cK cB cI o ks fa oa fb ob dr ds L n sp co en cr rl qs kA oA kB oB tt ss st K) (cwV 0 hts gX3_lock_X0_shutBoot rfl rfl rfl (by decide +kernel) ⟨Nat.le_of_ble_eq_true rfl, Nat.le_of_ble_eq_true rfl⟩) (up_preV (q0 := 6) (ci := 1) hP hK hD rfl rfl) rfl rfl hl.1 rfl (lv_room (Nat.le_of_ble_eq_true rfl)) dX3_lock_72 ⟨Nat.le_of_ble_eq_true rfl, Nat.le_of_ble_eq_true rfl⟩) hD hS ((dk_fst ..).trans (dk_fst ..).symm) (fun H locs hP hD hS _ _ => ?_)
              have hP : va_P (dC, dI) vwCl (dkW cK cB cI o ks fa oa fb ob dr ds L n sp co en cr rl qs kA oA kB oB tt ((dk_shutBoot st tt ss).2.2) ((dk_shutBoot st tt ss).2.1) K) H := hP
              have hD : va_D (up_c (dkW cK cB cI o ks fa oa fb ob dr ds L n sp co en cr rl qs kA oA kB oB tt ss st K)) (dkW cK cB cI o ks fa oa fb ob dr ds L n sp co en cr rl qs kA oA kB oB tt ((dk_shutBoot st tt ss).2.2) ((dk_shutBoot st tt ss).2.1) K) := hD
              refine lv_goto (tgt := 85) hx hb dX3_lock_75 (by decide) ?_
              have e_ : dk_lock cr st tt ss x = ((dk_shutBoot st tt ss).1, (dk_shutBoot st tt ss).2.1, (dk_shutBoot st tt ss).2.2) := by unfold dk_lock; exact (if_neg c_1).trans ((if_pos c_6).trans ((if_neg c_14).trans ((if_pos c_44).trans ((if_neg c_52).trans ((if_pos c_65).trans rfl)))))
              rw [e_]
              exact W.iret (v := (dk_shutBoot st tt ss).1) hx hb hr (fun t ht hW => ⟨rfl, by rw [ht]; exact hP, hS.F ht⟩) hS.2.2 dX3_lock_85
          · refine lv_aload_n hx hb dX3_lock_55 rfl (lv_at hl 0 rfl) ?_
            refine va_get (D := (dC, dI)) (ci := 4) (v := .ref dr) (C := RX3) (T := TX3) (N := 9) hx hb hts inn_X3_lock_X3 hown hK hP 0 rfl rfl 5 (by decide) (hts (.fieldLink RX3 32 "DoorKeys" "doors" "LDoorKeys$Doors;") (by decide +kernel)) (fun _ h9 => h9) rfl dX3_lock_56 ?_
            refine up_call (W.runV (As := []) (rest := []) ⟨hx, hb, hml, hown, hts⟩ (c_X0_deadenUnlessOpen l dC dI cK cB cI o ks fa oa fb ob dr ds L n sp co en cr rl qs kA oA kB oB tt ss st K) (cwV 0 hts gX3_lock_X0_deadenUnlessOpen rfl rfl rfl (by decide +kernel) ⟨Nat.le_of_ble_eq_true rfl, Nat.le_of_ble_eq_true rfl⟩) (up_preV (q0 := 6) (ci := 1) hP hK hD rfl rfl) rfl rfl hl.1 rfl (lv_room (Nat.le_of_ble_eq_true rfl)) dX3_lock_59 ⟨Nat.le_of_ble_eq_true rfl, Nat.le_of_ble_eq_true rfl⟩) hD hS ((dk_fst ..).trans (dk_fst ..).symm) (fun H locs hP hD hS _ _ => ?_)
            have hP : va_P (dC, dI) vwCl (dkW cK cB cI o ks fa oa fb ob dr ds L n sp co en cr rl qs kA oA kB oB tt ss ((dk_deaden st).2) K) H := hP
            have hD : va_D (up_c (dkW cK cB cI o ks fa oa fb ob dr ds L n sp co en cr rl qs kA oA kB oB tt ss st K)) (dkW cK cB cI o ks fa oa fb ob dr ds L n sp co en cr rl qs kA oA kB oB tt ss ((dk_deaden st).2) K) := hD
            have e_ : dk_lock cr st tt ss x = ((dk_deaden st).1, (dk_deaden st).2, ss) := by unfold dk_lock; exact (if_neg c_1).trans ((if_pos c_6).trans ((if_neg c_14).trans ((if_pos c_44).trans ((if_pos c_52).trans rfl))))
            rw [e_]
            exact W.iret (v := (dk_deaden st).1) hx hb hr (fun t ht hW => ⟨rfl, by rw [ht]; exact hP, hS.F ht⟩) hS.2.2 dX3_lock_62
        · refine lv_bipush (v := (-3)) hx hb dX3_lock_47 (by decide) ?_
          have e_ : dk_lock cr st tt ss x = (((-3) : Int32), st, ss) := by unfold dk_lock; exact (if_neg c_1).trans ((if_pos c_6).trans ((if_neg c_14).trans ((if_neg c_44).trans rfl)))
          rw [e_]
          exact W.iret (v := (-3)) hx hb hr (fun t ht hW => ⟨rfl, by rw [ht]; exact hP, hS.F ht⟩) hS.2.2 dX3_lock_49
      · refine lv_aload_n hx hb dX3_lock_17 rfl (lv_at hl 0 rfl) ?_
        refine va_get (D := (dC, dI)) (ci := 4) (v := .ref dr) (C := RX3) (T := TX3) (N := 9) hx hb hts inn_X3_lock_X3 hown hK hP 0 rfl rfl 5 (by decide) (hts (.fieldLink RX3 32 "DoorKeys" "doors" "LDoorKeys$Doors;") (by decide +kernel)) (fun _ h9 => h9) rfl dX3_lock_18 ?_
        refine lv_iconst (v := 2) hx hb dX3_lock_21 (by decide) ?_
        refine up_read (W.runV (As := [.int 2]) (rest := []) ⟨hx, hb, hml, hown, hts⟩ (c_X0_hasAny l dC dI cK cB cI o ks fa oa fb ob dr ds L n sp co en cr rl qs kA oA kB oB tt ss st K 2) (cwV 1 hts gX3_lock_X0_hasAny rfl rfl rfl (by decide +kernel) ⟨Nat.le_of_ble_eq_true rfl, Nat.le_of_ble_eq_true rfl⟩) (up_preV (q0 := 6) (ci := 1) hP hK hD rfl rfl) rfl rfl hl.1 rfl (lv_room (Nat.le_of_ble_eq_true rfl)) dX3_lock_22 ⟨Nat.le_of_ble_eq_true rfl, Nat.le_of_ble_eq_true rfl⟩) ?_
        refine lv_if_eq (tgt := 32) hx hb dX3_lock_25 (by decide) (fun c_25 => ?_) (fun c_25 => ?_)
        · refine lv_aload_n hx hb dX3_lock_32 rfl (lv_at hl 0 rfl) ?_
          refine va_get (D := (dC, dI)) (ci := 4) (v := .ref dr) (C := RX3) (T := TX3) (N := 9) hx hb hts inn_X3_lock_X3 hown hK hP 0 rfl rfl 5 (by decide) (hts (.fieldLink RX3 32 "DoorKeys" "doors" "LDoorKeys$Doors;") (by decide +kernel)) (fun _ h9 => h9) rfl dX3_lock_33 ?_
          refine up_call (W.runV (As := []) (rest := []) ⟨hx, hb, hml, hown, hts⟩ (c_X0_openAll l dC dI cK cB cI o ks fa oa fb ob dr ds L n sp co en cr rl qs kA oA kB oB tt ss st K) (cwV 0 hts gX3_lock_X0_openAll rfl rfl rfl (by decide +kernel) ⟨Nat.le_of_ble_eq_true rfl, Nat.le_of_ble_eq_true rfl⟩) (up_preV (q0 := 6) (ci := 1) hP hK hD rfl rfl) rfl rfl hl.1 rfl (lv_room (Nat.le_of_ble_eq_true rfl)) dX3_lock_36 ⟨Nat.le_of_ble_eq_true rfl, Nat.le_of_ble_eq_true rfl⟩) hD hS ((dk_fst ..).trans (dk_fst ..).symm) (fun H locs hP hD hS _ _ => ?_)
          have hP : va_P (dC, dI) vwCl (dkW cK cB cI o ks fa oa fb ob dr ds L n sp co en cr rl qs kA oA kB oB tt ss ((dk_openAll st).2) K) H := hP
          have hD : va_D (up_c (dkW cK cB cI o ks fa oa fb ob dr ds L n sp co en cr rl qs kA oA kB oB tt ss st K)) (dkW cK cB cI o ks fa oa fb ob dr ds L n sp co en cr rl qs kA oA kB oB tt ss ((dk_openAll st).2) K) := hD
          have e_ : dk_lock cr st tt ss x = ((dk_openAll st).1, (dk_openAll st).2, ss) := by unfold dk_lock; exact (if_neg c_1).trans ((if_pos c_6).trans ((if_pos c_14).trans ((if_pos c_25).trans rfl)))
          rw [e_]
          exact W.iret (v := (dk_openAll st).1) hx hb hr (fun t ht hW => ⟨rfl, by rw [ht]; exact hP, hS.F ht⟩) hS.2.2 dX3_lock_39
        · refine lv_iconst (v := 0) hx hb dX3_lock_28 (by decide) ?_
          refine lv_goto (tgt := 39) hx hb dX3_lock_29 (by decide) ?_
          have e_ : dk_lock cr st tt ss x = ((0 : Int32), st, ss) := by unfold dk_lock; exact (if_neg c_1).trans ((if_pos c_6).trans ((if_pos c_14).trans ((if_neg c_25).trans rfl)))
          rw [e_]
          exact W.iret (v := 0) hx hb hr (fun t ht hW => ⟨rfl, by rw [ht]; exact hP, hS.F ht⟩) hS.2.2 dX3_lock_39
    · refine lv_bipush (v := (-2)) hx hb dX3_lock_9 (by decide) ?_
      have e_ : dk_lock cr st tt ss x = (((-2) : Int32), st, ss) := by unfold dk_lock; exact (if_neg c_1).trans ((if_neg c_6).trans rfl)
      rw [e_]
      exact W.iret (v := (-2)) hx hb hr (fun t ht hW => ⟨rfl, by rw [ht]; exact hP, hS.F ht⟩) hS.2.2 dX3_lock_11
def dk_learn (n : Nat) (K : Nat → KR) (x : Int32) (y : Int32) (z : Int32) : Int32 × (Nat → KR) :=
  if dk_fkP n x then
    if dk_fkP n y then
      if dk_fkP n z then
        if (K (dk_fki x)).2.2.2.1 = 0 then
          if y = z then
            ((0 : Int32), K)
          else
            if dk_teach (K (dk_fki y)) = 0 then
              ((0 : Int32), K)
            else
              if dk_teach (K (dk_fki z)) = 0 then
                ((0 : Int32), K)
              else
                ((1 : Int32), (va_up K (dk_fki x) ((K (dk_fki x)).1, (K (dk_fki x)).2.1, (K (dk_fki x)).2.2.1, 1, (K (dk_fki x)).2.2.2.2.1, (K (dk_fki x)).2.2.2.2.2.1, (K (dk_fki x)).2.2.2.2.2.2)))
        else
          ((0 : Int32), K)
      else
        (((-1) : Int32), K)
    else
      if dk_fkP n z then
        (((-1) : Int32), K)
      else
        (((-1) : Int32), K)
  else
    if dk_fkP n y then
      if dk_fkP n z then
        (((-1) : Int32), K)
      else
        (((-1) : Int32), K)
    else
      if dk_fkP n z then
        (((-1) : Int32), K)
      else
        (((-1) : Int32), K)
def rm_X3_learn : Room := { frames := 2, cells := 0, slots := 0, locals := 40 }
set_option maxHeartbeats 4000000 in
set_option maxRecDepth 100000 in
theorem c_X3_learn (l : Launch) (dC : Nat → ClassId) (dI : Nat → Nat → Nat) (cK : ClassId) (cB : ClassId) (cI : ClassId) (o : Nat) (ks : Nat) (fa : Nat) (oa : Nat) (fb : Nat) (ob : Nat) (dr : Nat) (ds : Nat) (L : Nat → Nat) (n : Nat) (sp : Int32) (co : Nat) (en : Nat) (cr : Int32) (rl : Int32) (qs : Int32) (kA : Int32) (oA : Nat → Int8) (kB : Int32) (oB : Nat → Int8) (tt : Int64) (ss : Int64) (st : Nat → Int32) (K : Nat → KR) (x : Int32) (y : Int32) (z : Int32) (hn : n ≤ 8) : Met l yX3_learn wsX3_learn rm_X3_learn (up_P (dC, dI) vwCl (dkT cK cB cI) (dkW cK cB cI o ks fa oa fb ob dr ds L n sp co en cr rl qs kA oA kB oB tt ss st K) [.ref o, .int x, .int y, .int z]) (up_Q (dC, dI) vwCl (some (.int ((dk_learn n K x y z).1))) (dkW cK cB cI o ks fa oa fb ob dr ds L n sp co en cr rl qs kA oA kB oB tt ss st K) (dkW cK cB cI o ks fa oa fb ob dr ds L n sp co en cr rl qs kA oA kB oB tt ss st ((dk_learn n K x y z).2))) 0 0 (up_c (dkW cK cB cI o ks fa oa fb ob dr ds L n sp co en cr rl qs kA oA kB oB tt ss st K)) := by
  refine Met.ofW (cc := cX3_learn) (maxL := 7) (ret := (some .int)) (by decide) rfl ?_
  intro p e s m args below meth c s₁ B hml hv
  obtain ⟨rfl, hP, hK, hD0⟩ := hv
  have hx := B.exec
  have hb := B.bytes
  have hr := B.returns
  have hts := atoms_spec (ws := wsX3_learn) B.pre
  have hown : s.vm.findClass RX3 = some m.cls := findClass_of_methodNamed B.named
  have hlocks := B.notSynchronized
  have hD := up_self hD0
  have hS : va_S (up_c (dkW cK cB cI o ks fa oa fb ob dr ds L n sp co en cr rl qs kA oA kB oB tt ss st K)) s.heap s.heap [] := va_S.rf
  have hl := lv_entry ([.ref o, .int x, .int y, .int z]) (n := 7) (Nat.le_of_ble_eq_true rfl)
  rw [lg_entry_eq]
  generalize (lg_sl ([.ref o, .int x, .int y, .int z]) ++ List.replicate (7 - (lg_sl ([.ref o, .int x, .int y, .int z])).length) Slot.unset).toArray = ls at hl ⊢
  have hl : lv_has ls 7 [(0, .ref o), (1, .int x), (2, .int y), (3, .int z)] := hl
  refine lv_aload_n hx hb dX3_learn_0 rfl (lv_at hl 0 rfl) ?_
  refine lv_iload_n hx hb dX3_learn_1 rfl (lv_at hl 1 rfl) ?_
  by_cases hk_2 : dk_fkP n x
  · have hi_2 : dk_fki x < n := dk_fk_lt hn hk_2
    refine up_read (W.runV (As := [.int x]) (rest := []) ⟨hx, hb, hml, hown, hts⟩ (c_X3_findS l dC dI cK cB cI o ks fa oa fb ob dr ds L n sp co en cr rl qs kA oA kB oB tt ss st K x hn hk_2) (cwV 1 hts gX3_learn_X3_find rfl rfl rfl (by decide +kernel) ⟨Nat.le_of_ble_eq_true rfl, Nat.le_of_ble_eq_true rfl⟩) (up_preV (q0 := 0) (ci := 4) hP hK hD rfl rfl) rfl rfl hl.1 rfl (lv_room (Nat.le_of_ble_eq_true rfl)) dX3_learn_2 ⟨Nat.le_of_ble_eq_true rfl, Nat.le_of_ble_eq_true rfl⟩) ?_
    refine lv_astore (lv' := [(4, .ref (L (dk_fki x))), (0, .ref o), (1, .int x), (2, .int y), (3, .int z)]) hx hb dX3_learn_5 hl (by decide) rfl (fun ls hl => ?_)
    refine lv_aload_n hx hb dX3_learn_7 rfl (lv_at hl 1 rfl) ?_
    refine lv_iload_n hx hb dX3_learn_8 rfl (lv_at hl 3 rfl) ?_
    by_cases hk_9 : dk_fkP n y
    · have hi_9 : dk_fki y < n := dk_fk_lt hn hk_9
      refine up_read (W.runV (As := [.int y]) (rest := []) ⟨hx, hb, hml, hown, hts⟩ (c_X3_findS l dC dI cK cB cI o ks fa oa fb ob dr ds L n sp co en cr rl qs kA oA kB oB tt ss st K y hn hk_9) (cwV 1 hts gX3_learn_X3_find rfl rfl rfl (by decide +kernel) ⟨Nat.le_of_ble_eq_true rfl, Nat.le_of_ble_eq_true rfl⟩) (up_preV (q0 := 0) (ci := 4) hP hK hD rfl rfl) rfl rfl hl.1 rfl (lv_room (Nat.le_of_ble_eq_true rfl)) dX3_learn_9 ⟨Nat.le_of_ble_eq_true rfl, Nat.le_of_ble_eq_true rfl⟩) ?_
      refine lv_astore (lv' := [(5, .ref (L (dk_fki y))), (4, .ref (L (dk_fki x))), (0, .ref o), (1, .int x), (2, .int y), (3, .int z)]) hx hb dX3_learn_12 hl (by decide) rfl (fun ls hl => ?_)
      refine lv_aload_n hx hb dX3_learn_14 rfl (lv_at hl 2 rfl) ?_
      refine lv_iload_n hx hb dX3_learn_15 rfl (lv_at hl 5 rfl) ?_
      by_cases hk_16 : dk_fkP n z
      · have hi_16 : dk_fki z < n := dk_fk_lt hn hk_16
        refine up_read (W.runV (As := [.int z]) (rest := []) ⟨hx, hb, hml, hown, hts⟩ (c_X3_findS l dC dI cK cB cI o ks fa oa fb ob dr ds L n sp co en cr rl qs kA oA kB oB tt ss st K z hn hk_16) (cwV 1 hts gX3_learn_X3_find rfl rfl rfl (by decide +kernel) ⟨Nat.le_of_ble_eq_true rfl, Nat.le_of_ble_eq_true rfl⟩) (up_preV (q0 := 0) (ci := 4) hP hK hD rfl rfl) rfl rfl hl.1 rfl (lv_room (Nat.le_of_ble_eq_true rfl)) dX3_learn_16 ⟨Nat.le_of_ble_eq_true rfl, Nat.le_of_ble_eq_true rfl⟩) ?_
        refine lv_astore (lv' := [(6, .ref (L (dk_fki z))), (5, .ref (L (dk_fki y))), (4, .ref (L (dk_fki x))), (0, .ref o), (1, .int x), (2, .int y), (3, .int z)]) hx hb dX3_learn_19 hl (by decide) rfl (fun ls hl => ?_)
        refine lv_aload hx hb dX3_learn_21 (lv_at hl 2 rfl) ?_
        refine lv_ifnull hx hb dX3_learn_23 ?_
        refine lv_aload hx hb dX3_learn_26 (lv_at hl 1 rfl) ?_
        refine lv_ifnull hx hb dX3_learn_28 ?_
        refine lv_aload hx hb dX3_learn_31 (lv_at hl 0 rfl) ?_
        refine lv_ifnonnull (tgt := 38) hx hb dX3_learn_33 (by decide) ?_
        refine lv_aload hx hb dX3_learn_38 (lv_at hl 2 rfl) ?_
        refine va_get (D := (dC, dI)) (ci := 3) (v := .int ((K (dk_fki x)).2.2.2.1)) (C := RX2) (T := TX2) (N := 7) hx hb hts inn_X3_learn_X2 hown hK hP ((dk_fki x) + 8) (dk_keyk hi_2 rfl) rfl 3 (by decide) (hts (.fieldLink RX3 89 "DoorKeys$Key" "learned" "Z") (by decide +kernel)) (fun _ h9 => h9) rfl dX3_learn_40 ?_
        refine lv_if_ne (tgt := 67) hx hb dX3_learn_43 (by decide) (fun c_43 => ?_) (fun c_43 => ?_)
        · refine lv_iconst (v := 0) hx hb dX3_learn_67 (by decide) ?_
          have e_ : dk_learn n K x y z = ((0 : Int32), K) := by unfold dk_learn; exact (if_pos hk_2).trans ((if_pos hk_9).trans ((if_pos hk_16).trans ((if_neg c_43).trans rfl)))
          rw [e_]
          exact W.iret (v := 0) hx hb hr (fun t ht hW => ⟨rfl, by rw [ht]; exact hP, hS.F ht⟩) hS.2.2 dX3_learn_68
        · refine lv_iload_n hx hb dX3_learn_46 rfl (lv_at hl 5 rfl) ?_
          refine lv_iload_n hx hb dX3_learn_47 rfl (lv_at hl 6 rfl) ?_
          refine lv_icmp_eq (tgt := 67) hx hb dX3_learn_48 (by decide) (fun c_48 => ?_) (fun c_48 => ?_)
          · refine lv_iconst (v := 0) hx hb dX3_learn_67 (by decide) ?_
            have e_ : dk_learn n K x y z = ((0 : Int32), K) := by unfold dk_learn; exact (if_pos hk_2).trans ((if_pos hk_9).trans ((if_pos hk_16).trans ((if_pos c_43).trans ((if_pos c_48).trans rfl))))
            rw [e_]
            exact W.iret (v := 0) hx hb hr (fun t ht hW => ⟨rfl, by rw [ht]; exact hP, hS.F ht⟩) hS.2.2 dX3_learn_68
          · refine lv_aload hx hb dX3_learn_51 (lv_at hl 1 rfl) ?_
            refine up_read (W.runV (As := []) (rest := []) ⟨hx, hb, hml, hown, hts⟩ (c_X2_mayTeach l dC dI cK cB cI o ks fa oa fb ob dr ds L n sp co en cr rl qs kA oA kB oB tt ss st K (dk_fki y) (K (dk_fki y)) hi_9 rfl) (cwV 0 hts gX3_learn_X2_mayTeach rfl rfl rfl (by decide +kernel) ⟨Nat.le_of_ble_eq_true rfl, Nat.le_of_ble_eq_true rfl⟩) (up_preV (q0 := ((dk_fki y) + 8)) (ci := 3) hP hK hD rfl (dk_keyk hi_9 rfl)) rfl rfl hl.1 rfl (lv_room (Nat.le_of_ble_eq_true rfl)) dX3_learn_53 ⟨Nat.le_of_ble_eq_true rfl, Nat.le_of_ble_eq_true rfl⟩) ?_
            refine lv_if_eq (tgt := 67) hx hb dX3_learn_56 (by decide) (fun c_56 => ?_) (fun c_56 => ?_)
            · refine lv_iconst (v := 0) hx hb dX3_learn_67 (by decide) ?_
              have e_ : dk_learn n K x y z = ((0 : Int32), K) := by unfold dk_learn; exact (if_pos hk_2).trans ((if_pos hk_9).trans ((if_pos hk_16).trans ((if_pos c_43).trans ((if_neg c_48).trans ((if_pos c_56).trans rfl)))))
              rw [e_]
              exact W.iret (v := 0) hx hb hr (fun t ht hW => ⟨rfl, by rw [ht]; exact hP, hS.F ht⟩) hS.2.2 dX3_learn_68
            · refine lv_aload hx hb dX3_learn_59 (lv_at hl 0 rfl) ?_
              refine up_read (W.runV (As := []) (rest := []) ⟨hx, hb, hml, hown, hts⟩ (c_X2_mayTeach l dC dI cK cB cI o ks fa oa fb ob dr ds L n sp co en cr rl qs kA oA kB oB tt ss st K (dk_fki z) (K (dk_fki z)) hi_16 rfl) (cwV 0 hts gX3_learn_X2_mayTeach rfl rfl rfl (by decide +kernel) ⟨Nat.le_of_ble_eq_true rfl, Nat.le_of_ble_eq_true rfl⟩) (up_preV (q0 := ((dk_fki z) + 8)) (ci := 3) hP hK hD rfl (dk_keyk hi_16 rfl)) rfl rfl hl.1 rfl (lv_room (Nat.le_of_ble_eq_true rfl)) dX3_learn_61 ⟨Nat.le_of_ble_eq_true rfl, Nat.le_of_ble_eq_true rfl⟩) ?_
              refine lv_if_ne (tgt := 69) hx hb dX3_learn_64 (by decide) (fun c_64 => ?_) (fun c_64 => ?_)
              · refine lv_aload hx hb dX3_learn_69 (lv_at hl 2 rfl) ?_
                refine lv_iconst (v := 1) hx hb dX3_learn_71 (by decide) ?_
                refine va_put (D := (dC, dI)) (ci := 3) (v := .int 1) (ty := .boolean) (C := RX2) (T := TX2) (N := 7) hx hb hts inn_X3_learn_X2 tyX2 tyX2_ok nmX2 hown hK hP hD hS ((dk_fki x) + 8) (dk_keyk hi_2 rfl) rfl 3 (by decide) (hts (.fieldLink RX3 89 "DoorKeys$Key" "learned" "Z") (by decide +kernel)) (fun _ h9 => h9) rfl (by decide +kernel) rfl rfl (Nat.le_of_ble_eq_true rfl) dX3_learn_72 (fun H locs hP hD hS => ?_)
                have hP : va_P (dC, dI) vwCl (dkW cK cB cI o ks fa oa fb ob dr ds L n sp co en cr rl qs kA oA kB oB tt ss st (va_up K (dk_fki x) ((K (dk_fki x)).1, (K (dk_fki x)).2.1, (K (dk_fki x)).2.2.1, 1, (K (dk_fki x)).2.2.2.2.1, (K (dk_fki x)).2.2.2.2.2.1, (K (dk_fki x)).2.2.2.2.2.2))) H := up_cast (dk_put hi_2) hP
                have hD : va_D (up_c (dkW cK cB cI o ks fa oa fb ob dr ds L n sp co en cr rl qs kA oA kB oB tt ss st K)) (dkW cK cB cI o ks fa oa fb ob dr ds L n sp co en cr rl qs kA oA kB oB tt ss st (va_up K (dk_fki x) ((K (dk_fki x)).1, (K (dk_fki x)).2.1, (K (dk_fki x)).2.2.1, 1, (K (dk_fki x)).2.2.2.2.1, (K (dk_fki x)).2.2.2.2.2.1, (K (dk_fki x)).2.2.2.2.2.2))) := up_castD (dk_put hi_2) hD
                have hP : va_P (dC, dI) vwCl (dkW cK cB cI o ks fa oa fb ob dr ds L n sp co en cr rl qs kA oA kB oB tt ss st (va_up K (dk_fki x) ((K (dk_fki x)).1, (K (dk_fki x)).2.1, (K (dk_fki x)).2.2.1, 1, (K (dk_fki x)).2.2.2.2.1, (K (dk_fki x)).2.2.2.2.2.1, (K (dk_fki x)).2.2.2.2.2.2))) H := hP
                have hD : va_D (up_c (dkW cK cB cI o ks fa oa fb ob dr ds L n sp co en cr rl qs kA oA kB oB tt ss st K)) (dkW cK cB cI o ks fa oa fb ob dr ds L n sp co en cr rl qs kA oA kB oB tt ss st (va_up K (dk_fki x) ((K (dk_fki x)).1, (K (dk_fki x)).2.1, (K (dk_fki x)).2.2.1, 1, (K (dk_fki x)).2.2.2.2.1, (K (dk_fki x)).2.2.2.2.2.1, (K (dk_fki x)).2.2.2.2.2.2))) := hD
                refine lv_iconst (v := 1) hx hb dX3_learn_75 (by decide) ?_
                have e_ : dk_learn n K x y z = ((1 : Int32), (va_up K (dk_fki x) ((K (dk_fki x)).1, (K (dk_fki x)).2.1, (K (dk_fki x)).2.2.1, 1, (K (dk_fki x)).2.2.2.2.1, (K (dk_fki x)).2.2.2.2.2.1, (K (dk_fki x)).2.2.2.2.2.2))) := by unfold dk_learn; exact (if_pos hk_2).trans ((if_pos hk_9).trans ((if_pos hk_16).trans ((if_pos c_43).trans ((if_neg c_48).trans ((if_neg c_56).trans ((if_neg c_64).trans rfl))))))
                rw [e_]
                exact W.iret (v := 1) hx hb hr (fun t ht hW => ⟨rfl, by rw [ht]; exact hP, hS.F ht⟩) hS.2.2 dX3_learn_76
              · refine lv_iconst (v := 0) hx hb dX3_learn_67 (by decide) ?_
                have e_ : dk_learn n K x y z = ((0 : Int32), K) := by unfold dk_learn; exact (if_pos hk_2).trans ((if_pos hk_9).trans ((if_pos hk_16).trans ((if_pos c_43).trans ((if_neg c_48).trans ((if_neg c_56).trans ((if_pos c_64).trans rfl))))))
                rw [e_]
                exact W.iret (v := 0) hx hb hr (fun t ht hW => ⟨rfl, by rw [ht]; exact hP, hS.F ht⟩) hS.2.2 dX3_learn_68
      · refine up_read (W.runV (As := [.int z]) (rest := []) ⟨hx, hb, hml, hown, hts⟩ (c_X3_findN l dC dI cK cB cI o ks fa oa fb ob dr ds L n sp co en cr rl qs kA oA kB oB tt ss st K z hn hk_16) (cwV 1 hts gX3_learn_X3_find rfl rfl rfl (by decide +kernel) ⟨Nat.le_of_ble_eq_true rfl, Nat.le_of_ble_eq_true rfl⟩) (up_preV (q0 := 0) (ci := 4) hP hK hD rfl rfl) rfl rfl hl.1 rfl (lv_room (Nat.le_of_ble_eq_true rfl)) dX3_learn_16 ⟨Nat.le_of_ble_eq_true rfl, Nat.le_of_ble_eq_true rfl⟩) ?_
        refine lv_astoreN (lv' := [(6, .null), (5, .ref (L (dk_fki y))), (4, .ref (L (dk_fki x))), (0, .ref o), (1, .int x), (2, .int y), (3, .int z)]) hx hb dX3_learn_19 hl (by decide) rfl (fun ls hl => ?_)
        refine lv_aload hx hb dX3_learn_21 (lv_at hl 2 rfl) ?_
        refine lv_ifnull hx hb dX3_learn_23 ?_
        refine lv_aload hx hb dX3_learn_26 (lv_at hl 1 rfl) ?_
        refine lv_ifnull hx hb dX3_learn_28 ?_
        refine lv_aloadN hx hb dX3_learn_31 (lv_at hl 0 rfl) ?_
        refine lv_ifnonnullN hx hb dX3_learn_33 ?_
        refine lv_iconst (v := (-1)) hx hb dX3_learn_36 (by decide) ?_
        have e_ : dk_learn n K x y z = (((-1) : Int32), K) := by unfold dk_learn; exact (if_pos hk_2).trans ((if_pos hk_9).trans ((if_neg hk_16).trans rfl))
        rw [e_]
        exact W.iret (v := (-1)) hx hb hr (fun t ht hW => ⟨rfl, by rw [ht]; exact hP, hS.F ht⟩) hS.2.2 dX3_learn_37
    · refine up_read (W.runV (As := [.int y]) (rest := []) ⟨hx, hb, hml, hown, hts⟩ (c_X3_findN l dC dI cK cB cI o ks fa oa fb ob dr ds L n sp co en cr rl qs kA oA kB oB tt ss st K y hn hk_9) (cwV 1 hts gX3_learn_X3_find rfl rfl rfl (by decide +kernel) ⟨Nat.le_of_ble_eq_true rfl, Nat.le_of_ble_eq_true rfl⟩) (up_preV (q0 := 0) (ci := 4) hP hK hD rfl rfl) rfl rfl hl.1 rfl (lv_room (Nat.le_of_ble_eq_true rfl)) dX3_learn_9 ⟨Nat.le_of_ble_eq_true rfl, Nat.le_of_ble_eq_true rfl⟩) ?_
      refine lv_astoreN (lv' := [(5, .null), (4, .ref (L (dk_fki x))), (0, .ref o), (1, .int x), (2, .int y), (3, .int z)]) hx hb dX3_learn_12 hl (by decide) rfl (fun ls hl => ?_)
      refine lv_aload_n hx hb dX3_learn_14 rfl (lv_at hl 2 rfl) ?_
      refine lv_iload_n hx hb dX3_learn_15 rfl (lv_at hl 5 rfl) ?_
      by_cases hk_16 : dk_fkP n z
      · have hi_16 : dk_fki z < n := dk_fk_lt hn hk_16
        refine up_read (W.runV (As := [.int z]) (rest := []) ⟨hx, hb, hml, hown, hts⟩ (c_X3_findS l dC dI cK cB cI o ks fa oa fb ob dr ds L n sp co en cr rl qs kA oA kB oB tt ss st K z hn hk_16) (cwV 1 hts gX3_learn_X3_find rfl rfl rfl (by decide +kernel) ⟨Nat.le_of_ble_eq_true rfl, Nat.le_of_ble_eq_true rfl⟩) (up_preV (q0 := 0) (ci := 4) hP hK hD rfl rfl) rfl rfl hl.1 rfl (lv_room (Nat.le_of_ble_eq_true rfl)) dX3_learn_16 ⟨Nat.le_of_ble_eq_true rfl, Nat.le_of_ble_eq_true rfl⟩) ?_
        refine lv_astore (lv' := [(6, .ref (L (dk_fki z))), (5, .null), (4, .ref (L (dk_fki x))), (0, .ref o), (1, .int x), (2, .int y), (3, .int z)]) hx hb dX3_learn_19 hl (by decide) rfl (fun ls hl => ?_)
        refine lv_aload hx hb dX3_learn_21 (lv_at hl 2 rfl) ?_
        refine lv_ifnull hx hb dX3_learn_23 ?_
        refine lv_aloadN hx hb dX3_learn_26 (lv_at hl 1 rfl) ?_
        refine lv_ifnullN (tgt := 36) hx hb dX3_learn_28 (by decide) ?_
        refine lv_iconst (v := (-1)) hx hb dX3_learn_36 (by decide) ?_
        have e_ : dk_learn n K x y z = (((-1) : Int32), K) := by unfold dk_learn; exact (if_pos hk_2).trans ((if_neg hk_9).trans ((if_pos hk_16).trans rfl))
        rw [e_]
        exact W.iret (v := (-1)) hx hb hr (fun t ht hW => ⟨rfl, by rw [ht]; exact hP, hS.F ht⟩) hS.2.2 dX3_learn_37
      · refine up_read (W.runV (As := [.int z]) (rest := []) ⟨hx, hb, hml, hown, hts⟩ (c_X3_findN l dC dI cK cB cI o ks fa oa fb ob dr ds L n sp co en cr rl qs kA oA kB oB tt ss st K z hn hk_16) (cwV 1 hts gX3_learn_X3_find rfl rfl rfl (by decide +kernel) ⟨Nat.le_of_ble_eq_true rfl, Nat.le_of_ble_eq_true rfl⟩) (up_preV (q0 := 0) (ci := 4) hP hK hD rfl rfl) rfl rfl hl.1 rfl (lv_room (Nat.le_of_ble_eq_true rfl)) dX3_learn_16 ⟨Nat.le_of_ble_eq_true rfl, Nat.le_of_ble_eq_true rfl⟩) ?_
        refine lv_astoreN (lv' := [(6, .null), (5, .null), (4, .ref (L (dk_fki x))), (0, .ref o), (1, .int x), (2, .int y), (3, .int z)]) hx hb dX3_learn_19 hl (by decide) rfl (fun ls hl => ?_)
        refine lv_aload hx hb dX3_learn_21 (lv_at hl 2 rfl) ?_
        refine lv_ifnull hx hb dX3_learn_23 ?_
        refine lv_aloadN hx hb dX3_learn_26 (lv_at hl 1 rfl) ?_
        refine lv_ifnullN (tgt := 36) hx hb dX3_learn_28 (by decide) ?_
        refine lv_iconst (v := (-1)) hx hb dX3_learn_36 (by decide) ?_
        have e_ : dk_learn n K x y z = (((-1) : Int32), K) := by unfold dk_learn; exact (if_pos hk_2).trans ((if_neg hk_9).trans ((if_neg hk_16).trans rfl))
        rw [e_]
        exact W.iret (v := (-1)) hx hb hr (fun t ht hW => ⟨rfl, by rw [ht]; exact hP, hS.F ht⟩) hS.2.2 dX3_learn_37
  · refine up_read (W.runV (As := [.int x]) (rest := []) ⟨hx, hb, hml, hown, hts⟩ (c_X3_findN l dC dI cK cB cI o ks fa oa fb ob dr ds L n sp co en cr rl qs kA oA kB oB tt ss st K x hn hk_2) (cwV 1 hts gX3_learn_X3_find rfl rfl rfl (by decide +kernel) ⟨Nat.le_of_ble_eq_true rfl, Nat.le_of_ble_eq_true rfl⟩) (up_preV (q0 := 0) (ci := 4) hP hK hD rfl rfl) rfl rfl hl.1 rfl (lv_room (Nat.le_of_ble_eq_true rfl)) dX3_learn_2 ⟨Nat.le_of_ble_eq_true rfl, Nat.le_of_ble_eq_true rfl⟩) ?_
    refine lv_astoreN (lv' := [(4, .null), (0, .ref o), (1, .int x), (2, .int y), (3, .int z)]) hx hb dX3_learn_5 hl (by decide) rfl (fun ls hl => ?_)
    refine lv_aload_n hx hb dX3_learn_7 rfl (lv_at hl 1 rfl) ?_
    refine lv_iload_n hx hb dX3_learn_8 rfl (lv_at hl 3 rfl) ?_
    by_cases hk_9 : dk_fkP n y
    · have hi_9 : dk_fki y < n := dk_fk_lt hn hk_9
      refine up_read (W.runV (As := [.int y]) (rest := []) ⟨hx, hb, hml, hown, hts⟩ (c_X3_findS l dC dI cK cB cI o ks fa oa fb ob dr ds L n sp co en cr rl qs kA oA kB oB tt ss st K y hn hk_9) (cwV 1 hts gX3_learn_X3_find rfl rfl rfl (by decide +kernel) ⟨Nat.le_of_ble_eq_true rfl, Nat.le_of_ble_eq_true rfl⟩) (up_preV (q0 := 0) (ci := 4) hP hK hD rfl rfl) rfl rfl hl.1 rfl (lv_room (Nat.le_of_ble_eq_true rfl)) dX3_learn_9 ⟨Nat.le_of_ble_eq_true rfl, Nat.le_of_ble_eq_true rfl⟩) ?_
      refine lv_astore (lv' := [(5, .ref (L (dk_fki y))), (4, .null), (0, .ref o), (1, .int x), (2, .int y), (3, .int z)]) hx hb dX3_learn_12 hl (by decide) rfl (fun ls hl => ?_)
      refine lv_aload_n hx hb dX3_learn_14 rfl (lv_at hl 2 rfl) ?_
      refine lv_iload_n hx hb dX3_learn_15 rfl (lv_at hl 5 rfl) ?_
      by_cases hk_16 : dk_fkP n z
      · have hi_16 : dk_fki z < n := dk_fk_lt hn hk_16
        refine up_read (W.runV (As := [.int z]) (rest := []) ⟨hx, hb, hml, hown, hts⟩ (c_X3_findS l dC dI cK cB cI o ks fa oa fb ob dr ds L n sp co en cr rl qs kA oA kB oB tt ss st K z hn hk_16) (cwV 1 hts gX3_learn_X3_find rfl rfl rfl (by decide +kernel) ⟨Nat.le_of_ble_eq_true rfl, Nat.le_of_ble_eq_true rfl⟩) (up_preV (q0 := 0) (ci := 4) hP hK hD rfl rfl) rfl rfl hl.1 rfl (lv_room (Nat.le_of_ble_eq_true rfl)) dX3_learn_16 ⟨Nat.le_of_ble_eq_true rfl, Nat.le_of_ble_eq_true rfl⟩) ?_
        refine lv_astore (lv' := [(6, .ref (L (dk_fki z))), (5, .ref (L (dk_fki y))), (4, .null), (0, .ref o), (1, .int x), (2, .int y), (3, .int z)]) hx hb dX3_learn_19 hl (by decide) rfl (fun ls hl => ?_)
        refine lv_aloadN hx hb dX3_learn_21 (lv_at hl 2 rfl) ?_
        refine lv_ifnullN (tgt := 36) hx hb dX3_learn_23 (by decide) ?_
        refine lv_iconst (v := (-1)) hx hb dX3_learn_36 (by decide) ?_
        have e_ : dk_learn n K x y z = (((-1) : Int32), K) := by unfold dk_learn; exact (if_neg hk_2).trans ((if_pos hk_9).trans ((if_pos hk_16).trans rfl))
        rw [e_]
        exact W.iret (v := (-1)) hx hb hr (fun t ht hW => ⟨rfl, by rw [ht]; exact hP, hS.F ht⟩) hS.2.2 dX3_learn_37
      · refine up_read (W.runV (As := [.int z]) (rest := []) ⟨hx, hb, hml, hown, hts⟩ (c_X3_findN l dC dI cK cB cI o ks fa oa fb ob dr ds L n sp co en cr rl qs kA oA kB oB tt ss st K z hn hk_16) (cwV 1 hts gX3_learn_X3_find rfl rfl rfl (by decide +kernel) ⟨Nat.le_of_ble_eq_true rfl, Nat.le_of_ble_eq_true rfl⟩) (up_preV (q0 := 0) (ci := 4) hP hK hD rfl rfl) rfl rfl hl.1 rfl (lv_room (Nat.le_of_ble_eq_true rfl)) dX3_learn_16 ⟨Nat.le_of_ble_eq_true rfl, Nat.le_of_ble_eq_true rfl⟩) ?_
        refine lv_astoreN (lv' := [(6, .null), (5, .ref (L (dk_fki y))), (4, .null), (0, .ref o), (1, .int x), (2, .int y), (3, .int z)]) hx hb dX3_learn_19 hl (by decide) rfl (fun ls hl => ?_)
        refine lv_aloadN hx hb dX3_learn_21 (lv_at hl 2 rfl) ?_
        refine lv_ifnullN (tgt := 36) hx hb dX3_learn_23 (by decide) ?_
        refine lv_iconst (v := (-1)) hx hb dX3_learn_36 (by decide) ?_
        have e_ : dk_learn n K x y z = (((-1) : Int32), K) := by unfold dk_learn; exact (if_neg hk_2).trans ((if_pos hk_9).trans ((if_neg hk_16).trans rfl))
        rw [e_]
        exact W.iret (v := (-1)) hx hb hr (fun t ht hW => ⟨rfl, by rw [ht]; exact hP, hS.F ht⟩) hS.2.2 dX3_learn_37
    · refine up_read (W.runV (As := [.int y]) (rest := []) ⟨hx, hb, hml, hown, hts⟩ (c_X3_findN l dC dI cK cB cI o ks fa oa fb ob dr ds L n sp co en cr rl qs kA oA kB oB tt ss st K y hn hk_9) (cwV 1 hts gX3_learn_X3_find rfl rfl rfl (by decide +kernel) ⟨Nat.le_of_ble_eq_true rfl, Nat.le_of_ble_eq_true rfl⟩) (up_preV (q0 := 0) (ci := 4) hP hK hD rfl rfl) rfl rfl hl.1 rfl (lv_room (Nat.le_of_ble_eq_true rfl)) dX3_learn_9 ⟨Nat.le_of_ble_eq_true rfl, Nat.le_of_ble_eq_true rfl⟩) ?_
      refine lv_astoreN (lv' := [(5, .null), (4, .null), (0, .ref o), (1, .int x), (2, .int y), (3, .int z)]) hx hb dX3_learn_12 hl (by decide) rfl (fun ls hl => ?_)
      refine lv_aload_n hx hb dX3_learn_14 rfl (lv_at hl 2 rfl) ?_
      refine lv_iload_n hx hb dX3_learn_15 rfl (lv_at hl 5 rfl) ?_
      by_cases hk_16 : dk_fkP n z
      · have hi_16 : dk_fki z < n := dk_fk_lt hn hk_16
        refine up_read (W.runV (As := [.int z]) (rest := []) ⟨hx, hb, hml, hown, hts⟩ (c_X3_findS l dC dI cK cB cI o ks fa oa fb ob dr ds L n sp co en cr rl qs kA oA kB oB tt ss st K z hn hk_16) (cwV 1 hts gX3_learn_X3_find rfl rfl rfl (by decide +kernel) ⟨Nat.le_of_ble_eq_true rfl, Nat.le_of_ble_eq_true rfl⟩) (up_preV (q0 := 0) (ci := 4) hP hK hD rfl rfl) rfl rfl hl.1 rfl (lv_room (Nat.le_of_ble_eq_true rfl)) dX3_learn_16 ⟨Nat.le_of_ble_eq_true rfl, Nat.le_of_ble_eq_true rfl⟩) ?_
        refine lv_astore (lv' := [(6, .ref (L (dk_fki z))), (5, .null), (4, .null), (0, .ref o), (1, .int x), (2, .int y), (3, .int z)]) hx hb dX3_learn_19 hl (by decide) rfl (fun ls hl => ?_)
        refine lv_aloadN hx hb dX3_learn_21 (lv_at hl 2 rfl) ?_
        refine lv_ifnullN (tgt := 36) hx hb dX3_learn_23 (by decide) ?_
        refine lv_iconst (v := (-1)) hx hb dX3_learn_36 (by decide) ?_
        have e_ : dk_learn n K x y z = (((-1) : Int32), K) := by unfold dk_learn; exact (if_neg hk_2).trans ((if_neg hk_9).trans ((if_pos hk_16).trans rfl))
        rw [e_]
        exact W.iret (v := (-1)) hx hb hr (fun t ht hW => ⟨rfl, by rw [ht]; exact hP, hS.F ht⟩) hS.2.2 dX3_learn_37
      · refine up_read (W.runV (As := [.int z]) (rest := []) ⟨hx, hb, hml, hown, hts⟩ (c_X3_findN l dC dI cK cB cI o ks fa oa fb ob dr ds L n sp co en cr rl qs kA oA kB oB tt ss st K z hn hk_16) (cwV 1 hts gX3_learn_X3_find rfl rfl rfl (by decide +kernel) ⟨Nat.le_of_ble_eq_true rfl, Nat.le_of_ble_eq_true rfl⟩) (up_preV (q0 := 0) (ci := 4) hP hK hD rfl rfl) rfl rfl hl.1 rfl (lv_room (Nat.le_of_ble_eq_true rfl)) dX3_learn_16 ⟨Nat.le_of_ble_eq_true rfl, Nat.le_of_ble_eq_true rfl⟩) ?_
        refine lv_astoreN (lv' := [(6, .null), (5, .null), (4, .null), (0, .ref o), (1, .int x), (2, .int y), (3, .int z)]) hx hb dX3_learn_19 hl (by decide) rfl (fun ls hl => ?_)
        refine lv_aloadN hx hb dX3_learn_21 (lv_at hl 2 rfl) ?_
        refine lv_ifnullN (tgt := 36) hx hb dX3_learn_23 (by decide) ?_
        refine lv_iconst (v := (-1)) hx hb dX3_learn_36 (by decide) ?_
        have e_ : dk_learn n K x y z = (((-1) : Int32), K) := by unfold dk_learn; exact (if_neg hk_2).trans ((if_neg hk_9).trans ((if_neg hk_16).trans rfl))
        rw [e_]
        exact W.iret (v := (-1)) hx hb hr (fun t ht hW => ⟨rfl, by rw [ht]; exact hP, hS.F ht⟩) hS.2.2 dX3_learn_37
def dk_erase (n : Nat) (K : Nat → KR) (x : Int32) : Int32 × (Nat → KR) :=
  if dk_fkP n x then
    if (K (dk_fki x)).2.2.2.1 = 0 then
      ((0 : Int32), K)
    else
      if dk_lk n K = 1 then
        ((0 : Int32), K)
      else
        ((1 : Int32), (va_up K (dk_fki x) ((K (dk_fki x)).1, (K (dk_fki x)).2.1, (K (dk_fki x)).2.2.1, 0, 0, 0, (K (dk_fki x)).2.2.2.2.2.2)))
  else
    (((-1) : Int32), K)
def rm_X3_erase : Room := { frames := 2, cells := 0, slots := 0, locals := 44 }
set_option maxHeartbeats 4000000 in
set_option maxRecDepth 100000 in
theorem c_X3_erase (l : Launch) (dC : Nat → ClassId) (dI : Nat → Nat → Nat) (cK : ClassId) (cB : ClassId) (cI : ClassId) (o : Nat) (ks : Nat) (fa : Nat) (oa : Nat) (fb : Nat) (ob : Nat) (dr : Nat) (ds : Nat) (L : Nat → Nat) (n : Nat) (sp : Int32) (co : Nat) (en : Nat) (cr : Int32) (rl : Int32) (qs : Int32) (kA : Int32) (oA : Nat → Int8) (kB : Int32) (oB : Nat → Int8) (tt : Int64) (ss : Int64) (st : Nat → Int32) (K : Nat → KR) (x : Int32) (hn : n ≤ 8) : Met l yX3_erase wsX3_erase rm_X3_erase (up_P (dC, dI) vwCl (dkT cK cB cI) (dkW cK cB cI o ks fa oa fb ob dr ds L n sp co en cr rl qs kA oA kB oB tt ss st K) [.ref o, .int x]) (up_Q (dC, dI) vwCl (some (.int ((dk_erase n K x).1))) (dkW cK cB cI o ks fa oa fb ob dr ds L n sp co en cr rl qs kA oA kB oB tt ss st K) (dkW cK cB cI o ks fa oa fb ob dr ds L n sp co en cr rl qs kA oA kB oB tt ss st ((dk_erase n K x).2))) 0 0 (up_c (dkW cK cB cI o ks fa oa fb ob dr ds L n sp co en cr rl qs kA oA kB oB tt ss st K)) := by
  refine Met.ofW (cc := cX3_erase) (maxL := 3) (ret := (some .int)) (by decide) rfl ?_
  intro p e s m args below meth c s₁ B hml hv
  obtain ⟨rfl, hP, hK, hD0⟩ := hv
  have hx := B.exec
  have hb := B.bytes
  have hr := B.returns
  have hts := atoms_spec (ws := wsX3_erase) B.pre
  have hown : s.vm.findClass RX3 = some m.cls := findClass_of_methodNamed B.named
  have hlocks := B.notSynchronized
  have hD := up_self hD0
  have hS : va_S (up_c (dkW cK cB cI o ks fa oa fb ob dr ds L n sp co en cr rl qs kA oA kB oB tt ss st K)) s.heap s.heap [] := va_S.rf
  have hl := lv_entry ([.ref o, .int x]) (n := 3) (Nat.le_of_ble_eq_true rfl)
  rw [lg_entry_eq]
  generalize (lg_sl ([.ref o, .int x]) ++ List.replicate (3 - (lg_sl ([.ref o, .int x])).length) Slot.unset).toArray = ls at hl ⊢
  have hl : lv_has ls 3 [(0, .ref o), (1, .int x)] := hl
  refine lv_aload_n hx hb dX3_erase_0 rfl (lv_at hl 0 rfl) ?_
  refine lv_iload_n hx hb dX3_erase_1 rfl (lv_at hl 1 rfl) ?_
  by_cases hk_2 : dk_fkP n x
  · have hi_2 : dk_fki x < n := dk_fk_lt hn hk_2
    refine up_read (W.runV (As := [.int x]) (rest := []) ⟨hx, hb, hml, hown, hts⟩ (c_X3_findS l dC dI cK cB cI o ks fa oa fb ob dr ds L n sp co en cr rl qs kA oA kB oB tt ss st K x hn hk_2) (cwV 1 hts gX3_erase_X3_find rfl rfl rfl (by decide +kernel) ⟨Nat.le_of_ble_eq_true rfl, Nat.le_of_ble_eq_true rfl⟩) (up_preV (q0 := 0) (ci := 4) hP hK hD rfl rfl) rfl rfl hl.1 rfl (lv_room (Nat.le_of_ble_eq_true rfl)) dX3_erase_2 ⟨Nat.le_of_ble_eq_true rfl, Nat.le_of_ble_eq_true rfl⟩) ?_
    refine lv_astore_n (lv' := [(2, .ref (L (dk_fki x))), (0, .ref o), (1, .int x)]) hx hb dX3_erase_5 rfl hl (by decide) rfl (fun ls hl => ?_)
    refine lv_aload_n hx hb dX3_erase_6 rfl (lv_at hl 0 rfl) ?_
    refine lv_ifnonnull (tgt := 12) hx hb dX3_erase_7 (by decide) ?_
    refine lv_aload_n hx hb dX3_erase_12 rfl (lv_at hl 0 rfl) ?_
    refine va_get (D := (dC, dI)) (ci := 3) (v := .int ((K (dk_fki x)).2.2.2.1)) (C := RX2) (T := TX2) (N := 7) hx hb hts inn_X3_erase_X2 hown hK hP ((dk_fki x) + 8) (dk_keyk hi_2 rfl) rfl 3 (by decide) (hts (.fieldLink RX3 89 "DoorKeys$Key" "learned" "Z") (by decide +kernel)) (fun _ h9 => h9) rfl dX3_erase_13 ?_
    refine lv_if_eq (tgt := 27) hx hb dX3_erase_16 (by decide) (fun c_16 => ?_) (fun c_16 => ?_)
    · refine lv_iconst (v := 0) hx hb dX3_erase_27 (by decide) ?_
      have e_ : dk_erase n K x = ((0 : Int32), K) := by unfold dk_erase; exact (if_pos hk_2).trans ((if_pos c_16).trans rfl)
      rw [e_]
      exact W.iret (v := 0) hx hb hr (fun t ht hW => ⟨rfl, by rw [ht]; exact hP, hS.F ht⟩) hS.2.2 dX3_erase_28
    · refine lv_aload_n hx hb dX3_erase_19 rfl (lv_at hl 1 rfl) ?_
      refine up_read (W.runV (As := []) (rest := []) ⟨hx, hb, hml, hown, hts⟩ (c_X3_learnedKeys l dC dI cK cB cI o ks fa oa fb ob dr ds L n sp co en cr rl qs kA oA kB oB tt ss st K hn) (cwV 0 hts gX3_erase_X3_learnedKeys rfl rfl rfl (by decide +kernel) ⟨Nat.le_of_ble_eq_true rfl, Nat.le_of_ble_eq_true rfl⟩) (up_preV (q0 := 0) (ci := 4) hP hK hD rfl rfl) rfl rfl hl.1 rfl (lv_room (Nat.le_of_ble_eq_true rfl)) dX3_erase_20 ⟨Nat.le_of_ble_eq_true rfl, Nat.le_of_ble_eq_true rfl⟩) ?_
      refine lv_iconst (v := 1) hx hb dX3_erase_23 (by decide) ?_
      refine lv_icmp_ne (tgt := 29) hx hb dX3_erase_24 (by decide) (fun c_24 => ?_) (fun c_24 => ?_)
      · refine lv_aload_n hx hb dX3_erase_29 rfl (lv_at hl 0 rfl) ?_
        refine lv_iconst (v := 0) hx hb dX3_erase_30 (by decide) ?_
        refine va_put (D := (dC, dI)) (ci := 3) (v := .int 0) (ty := .boolean) (C := RX2) (T := TX2) (N := 7) hx hb hts inn_X3_erase_X2 tyX2 tyX2_ok nmX2 hown hK hP hD hS ((dk_fki x) + 8) (dk_keyk hi_2 rfl) rfl 3 (by decide) (hts (.fieldLink RX3 89 "DoorKeys$Key" "learned" "Z") (by decide +kernel)) (fun _ h9 => h9) rfl (by decide +kernel) rfl rfl (Nat.le_of_ble_eq_true rfl) dX3_erase_31 (fun H locs hP hD hS => ?_)
        have hP : va_P (dC, dI) vwCl (dkW cK cB cI o ks fa oa fb ob dr ds L n sp co en cr rl qs kA oA kB oB tt ss st (va_up K (dk_fki x) ((K (dk_fki x)).1, (K (dk_fki x)).2.1, (K (dk_fki x)).2.2.1, 0, (K (dk_fki x)).2.2.2.2.1, (K (dk_fki x)).2.2.2.2.2.1, (K (dk_fki x)).2.2.2.2.2.2))) H := up_cast (dk_put hi_2) hP
        have hD : va_D (up_c (dkW cK cB cI o ks fa oa fb ob dr ds L n sp co en cr rl qs kA oA kB oB tt ss st K)) (dkW cK cB cI o ks fa oa fb ob dr ds L n sp co en cr rl qs kA oA kB oB tt ss st (va_up K (dk_fki x) ((K (dk_fki x)).1, (K (dk_fki x)).2.1, (K (dk_fki x)).2.2.1, 0, (K (dk_fki x)).2.2.2.2.1, (K (dk_fki x)).2.2.2.2.2.1, (K (dk_fki x)).2.2.2.2.2.2))) := up_castD (dk_put hi_2) hD
        have hP : va_P (dC, dI) vwCl (dkW cK cB cI o ks fa oa fb ob dr ds L n sp co en cr rl qs kA oA kB oB tt ss st (va_up K (dk_fki x) ((K (dk_fki x)).1, (K (dk_fki x)).2.1, (K (dk_fki x)).2.2.1, 0, (K (dk_fki x)).2.2.2.2.1, (K (dk_fki x)).2.2.2.2.2.1, (K (dk_fki x)).2.2.2.2.2.2))) H := hP
        have hD : va_D (up_c (dkW cK cB cI o ks fa oa fb ob dr ds L n sp co en cr rl qs kA oA kB oB tt ss st K)) (dkW cK cB cI o ks fa oa fb ob dr ds L n sp co en cr rl qs kA oA kB oB tt ss st (va_up K (dk_fki x) ((K (dk_fki x)).1, (K (dk_fki x)).2.1, (K (dk_fki x)).2.2.1, 0, (K (dk_fki x)).2.2.2.2.1, (K (dk_fki x)).2.2.2.2.2.1, (K (dk_fki x)).2.2.2.2.2.2))) := hD
        refine lv_aload_n hx hb dX3_erase_34 rfl (lv_at hl 0 rfl) ?_
        refine lv_iconst (v := 0) hx hb dX3_erase_35 (by decide) ?_
        refine va_put (D := (dC, dI)) (ci := 3) (v := .int 0) (ty := .boolean) (C := RX2) (T := TX2) (N := 7) hx hb hts inn_X3_erase_X2 tyX2 tyX2_ok nmX2 hown hK hP hD hS ((dk_fki x) + 8) (dk_keyk hi_2 (va_up_self _ _ _)) rfl 4 (by decide) (hts (.fieldLink RX3 99 "DoorKeys$Key" "near" "Z") (by decide +kernel)) (fun _ h9 => h9) rfl (by decide +kernel) rfl rfl (Nat.le_of_ble_eq_true rfl) dX3_erase_36 (fun H locs hP hD hS => ?_)
        have hP : va_P (dC, dI) vwCl (dkW cK cB cI o ks fa oa fb ob dr ds L n sp co en cr rl qs kA oA kB oB tt ss st (va_up K (dk_fki x) ((K (dk_fki x)).1, (K (dk_fki x)).2.1, (K (dk_fki x)).2.2.1, 0, 0, (K (dk_fki x)).2.2.2.2.2.1, (K (dk_fki x)).2.2.2.2.2.2))) H := up_cast (dk_putU hi_2) hP
        have hD : va_D (up_c (dkW cK cB cI o ks fa oa fb ob dr ds L n sp co en cr rl qs kA oA kB oB tt ss st K)) (dkW cK cB cI o ks fa oa fb ob dr ds L n sp co en cr rl qs kA oA kB oB tt ss st (va_up K (dk_fki x) ((K (dk_fki x)).1, (K (dk_fki x)).2.1, (K (dk_fki x)).2.2.1, 0, 0, (K (dk_fki x)).2.2.2.2.2.1, (K (dk_fki x)).2.2.2.2.2.2))) := up_castD (dk_putU hi_2) hD
        have hP : va_P (dC, dI) vwCl (dkW cK cB cI o ks fa oa fb ob dr ds L n sp co en cr rl qs kA oA kB oB tt ss st (va_up K (dk_fki x) ((K (dk_fki x)).1, (K (dk_fki x)).2.1, (K (dk_fki x)).2.2.1, 0, 0, (K (dk_fki x)).2.2.2.2.2.1, (K (dk_fki x)).2.2.2.2.2.2))) H := hP
        have hD : va_D (up_c (dkW cK cB cI o ks fa oa fb ob dr ds L n sp co en cr rl qs kA oA kB oB tt ss st K)) (dkW cK cB cI o ks fa oa fb ob dr ds L n sp co en cr rl qs kA oA kB oB tt ss st (va_up K (dk_fki x) ((K (dk_fki x)).1, (K (dk_fki x)).2.1, (K (dk_fki x)).2.2.1, 0, 0, (K (dk_fki x)).2.2.2.2.2.1, (K (dk_fki x)).2.2.2.2.2.2))) := hD
        refine lv_aload_n hx hb dX3_erase_39 rfl (lv_at hl 0 rfl) ?_
        refine lv_iconst (v := 0) hx hb dX3_erase_40 (by decide) ?_
        refine va_put (D := (dC, dI)) (ci := 3) (v := .int 0) (ty := .boolean) (C := RX2) (T := TX2) (N := 7) hx hb hts inn_X3_erase_X2 tyX2 tyX2_ok nmX2 hown hK hP hD hS ((dk_fki x) + 8) (dk_keyk hi_2 (va_up_self _ _ _)) rfl 5 (by decide) (hts (.fieldLink RX3 102 "DoorKeys$Key" "inside" "Z") (by decide +kernel)) (fun _ h9 => h9) rfl (by decide +kernel) rfl rfl (Nat.le_of_ble_eq_true rfl) dX3_erase_41 (fun H locs hP hD hS => ?_)
        have hP : va_P (dC, dI) vwCl (dkW cK cB cI o ks fa oa fb ob dr ds L n sp co en cr rl qs kA oA kB oB tt ss st (va_up K (dk_fki x) ((K (dk_fki x)).1, (K (dk_fki x)).2.1, (K (dk_fki x)).2.2.1, 0, 0, 0, (K (dk_fki x)).2.2.2.2.2.2))) H := up_cast (dk_putU hi_2) hP
        have hD : va_D (up_c (dkW cK cB cI o ks fa oa fb ob dr ds L n sp co en cr rl qs kA oA kB oB tt ss st K)) (dkW cK cB cI o ks fa oa fb ob dr ds L n sp co en cr rl qs kA oA kB oB tt ss st (va_up K (dk_fki x) ((K (dk_fki x)).1, (K (dk_fki x)).2.1, (K (dk_fki x)).2.2.1, 0, 0, 0, (K (dk_fki x)).2.2.2.2.2.2))) := up_castD (dk_putU hi_2) hD
        have hP : va_P (dC, dI) vwCl (dkW cK cB cI o ks fa oa fb ob dr ds L n sp co en cr rl qs kA oA kB oB tt ss st (va_up K (dk_fki x) ((K (dk_fki x)).1, (K (dk_fki x)).2.1, (K (dk_fki x)).2.2.1, 0, 0, 0, (K (dk_fki x)).2.2.2.2.2.2))) H := hP
        have hD : va_D (up_c (dkW cK cB cI o ks fa oa fb ob dr ds L n sp co en cr rl qs kA oA kB oB tt ss st K)) (dkW cK cB cI o ks fa oa fb ob dr ds L n sp co en cr rl qs kA oA kB oB tt ss st (va_up K (dk_fki x) ((K (dk_fki x)).1, (K (dk_fki x)).2.1, (K (dk_fki x)).2.2.1, 0, 0, 0, (K (dk_fki x)).2.2.2.2.2.2))) := hD
        refine lv_iconst (v := 1) hx hb dX3_erase_44 (by decide) ?_
        have e_ : dk_erase n K x = ((1 : Int32), (va_up K (dk_fki x) ((K (dk_fki x)).1, (K (dk_fki x)).2.1, (K (dk_fki x)).2.2.1, 0, 0, 0, (K (dk_fki x)).2.2.2.2.2.2))) := by unfold dk_erase; exact (if_pos hk_2).trans ((if_neg c_16).trans ((if_neg c_24).trans rfl))
        rw [e_]
        exact W.iret (v := 1) hx hb hr (fun t ht hW => ⟨rfl, by rw [ht]; exact hP, hS.F ht⟩) hS.2.2 dX3_erase_45
      · refine lv_iconst (v := 0) hx hb dX3_erase_27 (by decide) ?_
        have e_ : dk_erase n K x = ((0 : Int32), K) := by unfold dk_erase; exact (if_pos hk_2).trans ((if_neg c_16).trans ((if_pos c_24).trans rfl))
        rw [e_]
        exact W.iret (v := 0) hx hb hr (fun t ht hW => ⟨rfl, by rw [ht]; exact hP, hS.F ht⟩) hS.2.2 dX3_erase_28
  · refine up_read (W.runV (As := [.int x]) (rest := []) ⟨hx, hb, hml, hown, hts⟩ (c_X3_findN l dC dI cK cB cI o ks fa oa fb ob dr ds L n sp co en cr rl qs kA oA kB oB tt ss st K x hn hk_2) (cwV 1 hts gX3_erase_X3_find rfl rfl rfl (by decide +kernel) ⟨Nat.le_of_ble_eq_true rfl, Nat.le_of_ble_eq_true rfl⟩) (up_preV (q0 := 0) (ci := 4) hP hK hD rfl rfl) rfl rfl hl.1 rfl (lv_room (Nat.le_of_ble_eq_true rfl)) dX3_erase_2 ⟨Nat.le_of_ble_eq_true rfl, Nat.le_of_ble_eq_true rfl⟩) ?_
    refine lv_astore_nN (lv' := [(2, .null), (0, .ref o), (1, .int x)]) hx hb dX3_erase_5 rfl hl (by decide) rfl (fun ls hl => ?_)
    refine lv_aload_nN hx hb dX3_erase_6 rfl (lv_at hl 0 rfl) ?_
    refine lv_ifnonnullN hx hb dX3_erase_7 ?_
    refine lv_iconst (v := (-1)) hx hb dX3_erase_10 (by decide) ?_
    have e_ : dk_erase n K x = (((-1) : Int32), K) := by unfold dk_erase; exact (if_neg hk_2).trans rfl
    rw [e_]
    exact W.iret (v := (-1)) hx hb hr (fun t ht hW => ⟨rfl, by rw [ht]; exact hP, hS.F ht⟩) hS.2.2 dX3_erase_11
def dk_start (n : Nat) (K : Nat → KR) (qs : Int32) (cr : Int32) (x : Int32) (y : Int64) : Int32 × Int32 × Int32 :=
  if dk_fkP n x then
    if (K (dk_fki x)).2.2.2.1 = 0 then
      ((0 : Int32), (qs + 1), cr)
    else
      if (K (dk_fki x)).2.2.2.2.2.1 = 0 then
        ((0 : Int32), (qs + 1), cr)
      else
        if (lg_cmp y (dk_enc (K (dk_fki x)) ((2654435761 * (qs + 1).toInt64) &&& 4294967295))) = 0 then
          ((1 : Int32), (qs + 1), 0)
        else
          ((0 : Int32), (qs + 1), cr)
  else
    (((-1) : Int32), qs, cr)
def rm_X3_start : Room := { frames := 3, cells := 0, slots := 0, locals := 71 }
set_option maxHeartbeats 4000000 in
set_option maxRecDepth 100000 in
theorem c_X3_start (l : Launch) (dC : Nat → ClassId) (dI : Nat → Nat → Nat) (cK : ClassId) (cB : ClassId) (cI : ClassId) (o : Nat) (ks : Nat) (fa : Nat) (oa : Nat) (fb : Nat) (ob : Nat) (dr : Nat) (ds : Nat) (L : Nat → Nat) (n : Nat) (sp : Int32) (co : Nat) (en : Nat) (cr : Int32) (rl : Int32) (qs : Int32) (kA : Int32) (oA : Nat → Int8) (kB : Int32) (oB : Nat → Int8) (tt : Int64) (ss : Int64) (st : Nat → Int32) (K : Nat → KR) (x : Int32) (y : Int64) (hn : n ≤ 8) : Met l yX3_start wsX3_start rm_X3_start (up_P (dC, dI) vwCl (dkT cK cB cI) (dkW cK cB cI o ks fa oa fb ob dr ds L n sp co en cr rl qs kA oA kB oB tt ss st K) [.ref o, .int x, .long y]) (up_Q (dC, dI) vwCl (some (.int ((dk_start n K qs cr x y).1))) (dkW cK cB cI o ks fa oa fb ob dr ds L n sp co en cr rl qs kA oA kB oB tt ss st K) (dkW cK cB cI o ks fa oa fb ob dr ds L n sp co en ((dk_start n K qs cr x y).2.2) rl ((dk_start n K qs cr x y).2.1) kA oA kB oB tt ss st K)) 0 0 (up_c (dkW cK cB cI o ks fa oa fb ob dr ds L n sp co en cr rl qs kA oA kB oB tt ss st K)) := by
  refine Met.ofW (cc := cX3_start) (maxL := 7) (ret := (some .int)) (by decide) rfl ?_
  intro p e s m args below meth c s₁ B hml hv
  obtain ⟨rfl, hP, hK, hD0⟩ := hv
  have hx := B.exec
  have hb := B.bytes
  have hr := B.returns
  have hts := atoms_spec (ws := wsX3_start) B.pre
  have hown : s.vm.findClass RX3 = some m.cls := findClass_of_methodNamed B.named
  have hlocks := B.notSynchronized
  have hD := up_self hD0
  have hS : va_S (up_c (dkW cK cB cI o ks fa oa fb ob dr ds L n sp co en cr rl qs kA oA kB oB tt ss st K)) s.heap s.heap [] := va_S.rf
  have hl := lv_entry ([.ref o, .int x, .long y]) (n := 7) (Nat.le_of_ble_eq_true rfl)
  rw [lg_entry_eq]
  generalize (lg_sl ([.ref o, .int x, .long y]) ++ List.replicate (7 - (lg_sl ([.ref o, .int x, .long y])).length) Slot.unset).toArray = ls at hl ⊢
  have hl : lv_has ls 7 [(0, .ref o), (1, .int x), (2, .long y)] := hl
  refine lv_aload_n hx hb dX3_start_0 rfl (lv_at hl 0 rfl) ?_
  refine lv_iload_n hx hb dX3_start_1 rfl (lv_at hl 1 rfl) ?_
  by_cases hk_2 : dk_fkP n x
  · have hi_2 : dk_fki x < n := dk_fk_lt hn hk_2
    refine up_read (W.runV (As := [.int x]) (rest := []) ⟨hx, hb, hml, hown, hts⟩ (c_X3_findS l dC dI cK cB cI o ks fa oa fb ob dr ds L n sp co en cr rl qs kA oA kB oB tt ss st K x hn hk_2) (cwV 1 hts gX3_start_X3_find rfl rfl rfl (by decide +kernel) ⟨Nat.le_of_ble_eq_true rfl, Nat.le_of_ble_eq_true rfl⟩) (up_preV (q0 := 0) (ci := 4) hP hK hD rfl rfl) rfl rfl hl.1 rfl (lv_room (Nat.le_of_ble_eq_true rfl)) dX3_start_2 ⟨Nat.le_of_ble_eq_true rfl, Nat.le_of_ble_eq_true rfl⟩) ?_
    refine lv_astore (lv' := [(4, .ref (L (dk_fki x))), (0, .ref o), (1, .int x), (2, .long y)]) hx hb dX3_start_5 hl (by decide) rfl (fun ls hl => ?_)
    refine lv_aload hx hb dX3_start_7 (lv_at hl 0 rfl) ?_
    refine lv_ifnonnull (tgt := 14) hx hb dX3_start_9 (by decide) ?_
    refine lv_aload_n hx hb dX3_start_14 rfl (lv_at hl 1 rfl) ?_
    refine lv_dup hx hb dX3_start_15 rfl ?_
    refine va_get (D := (dC, dI)) (ci := 4) (v := .int qs) (C := RX3) (T := TX3) (N := 9) hx hb hts inn_X3_start_X3 hown hK hP 0 rfl rfl 8 (by decide) (hts (.fieldLink RX3 129 "DoorKeys" "questions" "I") (by decide +kernel)) (fun _ h9 => h9) rfl dX3_start_16 ?_
    refine lv_iconst (v := 1) hx hb dX3_start_19 (by decide) ?_
    refine lv_iadd hx hb dX3_start_20 ?_
    refine va_put (D := (dC, dI)) (ci := 4) (v := .int (qs + 1)) (ty := .int) (C := RX3) (T := TX3) (N := 9) hx hb hts inn_X3_start_X3 tyX3 tyX3_ok nmX3 hown hK hP hD hS 0 rfl rfl 8 (by decide) (hts (.fieldLink RX3 129 "DoorKeys" "questions" "I") (by decide +kernel)) (fun _ h9 => h9) rfl (by decide +kernel) rfl rfl (Nat.le_of_ble_eq_true rfl) dX3_start_21 (fun H locs hP hD hS => ?_)
    have hP : va_P (dC, dI) vwCl (dkW cK cB cI o ks fa oa fb ob dr ds L n sp co en cr rl (qs + 1) kA oA kB oB tt ss st K) H := hP
    have hD : va_D (up_c (dkW cK cB cI o ks fa oa fb ob dr ds L n sp co en cr rl qs kA oA kB oB tt ss st K)) (dkW cK cB cI o ks fa oa fb ob dr ds L n sp co en cr rl (qs + 1) kA oA kB oB tt ss st K) := hD
    refine lv_ldc2 (v := 2654435761) hx hb hown (hts (.constantLong RX3 132 2654435761) (by decide +kernel)) dX3_start_24 ?_
    refine lv_aload_n hx hb dX3_start_27 rfl (lv_at hl 1 rfl) ?_
    refine va_get (D := (dC, dI)) (ci := 4) (v := .int (qs + 1)) (C := RX3) (T := TX3) (N := 9) hx hb hts inn_X3_start_X3 hown hK hP 0 rfl rfl 8 (by decide) (hts (.fieldLink RX3 129 "DoorKeys" "questions" "I") (by decide +kernel)) (fun _ h9 => h9) rfl dX3_start_28 ?_
    refine lv_i2l (v := (qs + 1).toInt64) hx hb dX3_start_31 rfl ?_
    refine lv_lmul hx hb dX3_start_32 ?_
    refine lv_ldc2 (v := 4294967295) hx hb hown (hts (.constantLong RX3 134 4294967295) (by decide +kernel)) dX3_start_33 ?_
    refine lv_land hx hb dX3_start_36 ?_
    refine lv_lstore (lv' := [(5, .long ((2654435761 * (qs + 1).toInt64) &&& 4294967295)), (4, .ref (L (dk_fki x))), (0, .ref o), (1, .int x), (2, .long y)]) hx hb dX3_start_37 hl (by decide) rfl (fun ls hl => ?_)
    refine lv_aload hx hb dX3_start_39 (lv_at hl 1 rfl) ?_
    refine va_get (D := (dC, dI)) (ci := 3) (v := .int ((K (dk_fki x)).2.2.2.1)) (C := RX2) (T := TX2) (N := 7) hx hb hts inn_X3_start_X2 hown hK hP ((dk_fki x) + 8) (dk_keyk hi_2 rfl) rfl 3 (by decide) (hts (.fieldLink RX3 89 "DoorKeys$Key" "learned" "Z") (by decide +kernel)) (fun _ h9 => h9) rfl dX3_start_41 ?_
    refine lv_if_eq (tgt := 67) hx hb dX3_start_44 (by decide) (fun c_44 => ?_) (fun c_44 => ?_)
    · refine lv_iconst (v := 0) hx hb dX3_start_67 (by decide) ?_
      have e_ : dk_start n K qs cr x y = ((0 : Int32), (qs + 1), cr) := by unfold dk_start; exact (if_pos hk_2).trans ((if_pos c_44).trans rfl)
      rw [e_]
      exact W.iret (v := 0) hx hb hr (fun t ht hW => ⟨rfl, by rw [ht]; exact hP, hS.F ht⟩) hS.2.2 dX3_start_68
    · refine lv_aload hx hb dX3_start_47 (lv_at hl 1 rfl) ?_
      refine va_get (D := (dC, dI)) (ci := 3) (v := .int ((K (dk_fki x)).2.2.2.2.2.1)) (C := RX2) (T := TX2) (N := 7) hx hb hts inn_X3_start_X2 hown hK hP ((dk_fki x) + 8) (dk_keyk hi_2 rfl) rfl 5 (by decide) (hts (.fieldLink RX3 102 "DoorKeys$Key" "inside" "Z") (by decide +kernel)) (fun _ h9 => h9) rfl dX3_start_49 ?_
      refine lv_if_eq (tgt := 67) hx hb dX3_start_52 (by decide) (fun c_52 => ?_) (fun c_52 => ?_)
      · refine lv_iconst (v := 0) hx hb dX3_start_67 (by decide) ?_
        have e_ : dk_start n K qs cr x y = ((0 : Int32), (qs + 1), cr) := by unfold dk_start; exact (if_pos hk_2).trans ((if_neg c_44).trans ((if_pos c_52).trans rfl))
        rw [e_]
        exact W.iret (v := 0) hx hb hr (fun t ht hW => ⟨rfl, by rw [ht]; exact hP, hS.F ht⟩) hS.2.2 dX3_start_68
      · refine lv_lload_n hx hb dX3_start_55 rfl (lv_at hl 4 rfl) ?_
        refine lv_aload hx hb dX3_start_56 (lv_at hl 1 rfl) ?_
        refine lv_lload hx hb dX3_start_58 (lv_at hl 0 rfl) ?_
        refine up_read (W.runV (As := [.long ((2654435761 * (qs + 1).toInt64) &&& 4294967295)]) (rest := [.long y]) ⟨hx, hb, hml, hown, hts⟩ (c_X2_encipher l dC dI cK cB cI o ks fa oa fb ob dr ds L n sp co en cr rl (qs + 1) kA oA kB oB tt ss st K (dk_fki x) (K (dk_fki x)) ((2654435761 * (qs + 1).toInt64) &&& 4294967295) hi_2 rfl) (cwV 1 hts gX3_start_X2_encipher rfl rfl rfl (by decide +kernel) ⟨Nat.le_of_ble_eq_true rfl, Nat.le_of_ble_eq_true rfl⟩) (up_preV (q0 := ((dk_fki x) + 8)) (ci := 3) hP hK hD rfl (dk_keyk hi_2 rfl)) rfl rfl hl.1 rfl (lv_room (Nat.le_of_ble_eq_true rfl)) dX3_start_60 ⟨Nat.le_of_ble_eq_true rfl, Nat.le_of_ble_eq_true rfl⟩) ?_
        refine W.lcmp hx hb dX3_start_63 ?_
        refine lv_if_eq (tgt := 69) hx hb dX3_start_64 (by decide) (fun c_64 => ?_) (fun c_64 => ?_)
        · refine lv_aload_n hx hb dX3_start_69 rfl (lv_at hl 2 rfl) ?_
          refine lv_iconst (v := 0) hx hb dX3_start_70 (by decide) ?_
          refine va_put (D := (dC, dI)) (ci := 4) (v := .int 0) (ty := .boolean) (C := RX3) (T := TX3) (N := 9) hx hb hts inn_X3_start_X3 tyX3 tyX3_ok nmX3 hown hK hP hD hS 0 rfl rfl 6 (by decide) (hts (.fieldLink RX3 76 "DoorKeys" "crashed" "Z") (by decide +kernel)) (fun _ h9 => h9) rfl (by decide +kernel) rfl rfl (Nat.le_of_ble_eq_true rfl) dX3_start_71 (fun H locs hP hD hS => ?_)
          have hP : va_P (dC, dI) vwCl (dkW cK cB cI o ks fa oa fb ob dr ds L n sp co en 0 rl (qs + 1) kA oA kB oB tt ss st K) H := hP
          have hD : va_D (up_c (dkW cK cB cI o ks fa oa fb ob dr ds L n sp co en cr rl qs kA oA kB oB tt ss st K)) (dkW cK cB cI o ks fa oa fb ob dr ds L n sp co en 0 rl (qs + 1) kA oA kB oB tt ss st K) := hD
          refine lv_iconst (v := 1) hx hb dX3_start_74 (by decide) ?_
          have e_ : dk_start n K qs cr x y = ((1 : Int32), (qs + 1), 0) := by unfold dk_start; exact (if_pos hk_2).trans ((if_neg c_44).trans ((if_neg c_52).trans ((if_pos c_64).trans rfl)))
          rw [e_]
          exact W.iret (v := 1) hx hb hr (fun t ht hW => ⟨rfl, by rw [ht]; exact hP, hS.F ht⟩) hS.2.2 dX3_start_75
        · refine lv_iconst (v := 0) hx hb dX3_start_67 (by decide) ?_
          have e_ : dk_start n K qs cr x y = ((0 : Int32), (qs + 1), cr) := by unfold dk_start; exact (if_pos hk_2).trans ((if_neg c_44).trans ((if_neg c_52).trans ((if_neg c_64).trans rfl)))
          rw [e_]
          exact W.iret (v := 0) hx hb hr (fun t ht hW => ⟨rfl, by rw [ht]; exact hP, hS.F ht⟩) hS.2.2 dX3_start_68
  · refine up_read (W.runV (As := [.int x]) (rest := []) ⟨hx, hb, hml, hown, hts⟩ (c_X3_findN l dC dI cK cB cI o ks fa oa fb ob dr ds L n sp co en cr rl qs kA oA kB oB tt ss st K x hn hk_2) (cwV 1 hts gX3_start_X3_find rfl rfl rfl (by decide +kernel) ⟨Nat.le_of_ble_eq_true rfl, Nat.le_of_ble_eq_true rfl⟩) (up_preV (q0 := 0) (ci := 4) hP hK hD rfl rfl) rfl rfl hl.1 rfl (lv_room (Nat.le_of_ble_eq_true rfl)) dX3_start_2 ⟨Nat.le_of_ble_eq_true rfl, Nat.le_of_ble_eq_true rfl⟩) ?_
    refine lv_astoreN (lv' := [(4, .null), (0, .ref o), (1, .int x), (2, .long y)]) hx hb dX3_start_5 hl (by decide) rfl (fun ls hl => ?_)
    refine lv_aloadN hx hb dX3_start_7 (lv_at hl 0 rfl) ?_
    refine lv_ifnonnullN hx hb dX3_start_9 ?_
    refine lv_iconst (v := (-1)) hx hb dX3_start_12 (by decide) ?_
    have e_ : dk_start n K qs cr x y = (((-1) : Int32), qs, cr) := by unfold dk_start; exact (if_neg hk_2).trans rfl
    rw [e_]
    exact W.iret (v := (-1)) hx hb hr (fun t ht hW => ⟨rfl, by rw [ht]; exact hP, hS.F ht⟩) hS.2.2 dX3_start_13
def dk_crash (st : Nat → Int32) : Int32 × Int32 × (Nat → Int32) :=
  ((dk_openAll st).1, 1, (dk_openAll st).2)
def rm_X3_crash : Room := { frames := 2, cells := 0, slots := 0, locals := 44 }
set_option maxHeartbeats 4000000 in
set_option maxRecDepth 100000 in
theorem c_X3_crash (l : Launch) (dC : Nat → ClassId) (dI : Nat → Nat → Nat) (cK : ClassId) (cB : ClassId) (cI : ClassId) (o : Nat) (ks : Nat) (fa : Nat) (oa : Nat) (fb : Nat) (ob : Nat) (dr : Nat) (ds : Nat) (L : Nat → Nat) (n : Nat) (sp : Int32) (co : Nat) (en : Nat) (cr : Int32) (rl : Int32) (qs : Int32) (kA : Int32) (oA : Nat → Int8) (kB : Int32) (oB : Nat → Int8) (tt : Int64) (ss : Int64) (st : Nat → Int32) (K : Nat → KR) : Met l yX3_crash wsX3_crash rm_X3_crash (up_P (dC, dI) vwCl (dkT cK cB cI) (dkW cK cB cI o ks fa oa fb ob dr ds L n sp co en cr rl qs kA oA kB oB tt ss st K) [.ref o]) (up_Q (dC, dI) vwCl (some (.int ((dk_crash st).1))) (dkW cK cB cI o ks fa oa fb ob dr ds L n sp co en cr rl qs kA oA kB oB tt ss st K) (dkW cK cB cI o ks fa oa fb ob dr ds L n sp co en ((dk_crash st).2.1) rl qs kA oA kB oB tt ss ((dk_crash st).2.2) K)) 0 0 (up_c (dkW cK cB cI o ks fa oa fb ob dr ds L n sp co en cr rl qs kA oA kB oB tt ss st K)) := by
  refine Met.ofW (cc := cX3_crash) (maxL := 1) (ret := (some .int)) (by decide) rfl ?_
  intro p e s m args below meth c s₁ B hml hv
  obtain ⟨rfl, hP, hK, hD0⟩ := hv
  have hx := B.exec
  have hb := B.bytes
  have hr := B.returns
  have hts := atoms_spec (ws := wsX3_crash) B.pre
  have hown : s.vm.findClass RX3 = some m.cls := findClass_of_methodNamed B.named
  have hlocks := B.notSynchronized
  have hD := up_self hD0
  have hS : va_S (up_c (dkW cK cB cI o ks fa oa fb ob dr ds L n sp co en cr rl qs kA oA kB oB tt ss st K)) s.heap s.heap [] := va_S.rf
  have hl := lv_entry ([.ref o]) (n := 1) (Nat.le_of_ble_eq_true rfl)
  rw [lg_entry_eq]
  generalize (lg_sl ([.ref o]) ++ List.replicate (1 - (lg_sl ([.ref o])).length) Slot.unset).toArray = ls at hl ⊢
  have hl : lv_has ls 1 [(0, .ref o)] := hl
  refine lv_aload_n hx hb dX3_crash_0 rfl (lv_at hl 0 rfl) ?_
  refine lv_iconst (v := 1) hx hb dX3_crash_1 (by decide) ?_
  refine va_put (D := (dC, dI)) (ci := 4) (v := .int 1) (ty := .boolean) (C := RX3) (T := TX3) (N := 9) hx hb hts inn_X3_crash_X3 tyX3 tyX3_ok nmX3 hown hK hP hD hS 0 rfl rfl 6 (by decide) (hts (.fieldLink RX3 76 "DoorKeys" "crashed" "Z") (by decide +kernel)) (fun _ h9 => h9) rfl (by decide +kernel) rfl rfl (Nat.le_of_ble_eq_true rfl) dX3_crash_2 (fun H locs hP hD hS => ?_)
  have hP : va_P (dC, dI) vwCl (dkW cK cB cI o ks fa oa fb ob dr ds L n sp co en 1 rl qs kA oA kB oB tt ss st K) H := hP
  have hD : va_D (up_c (dkW cK cB cI o ks fa oa fb ob dr ds L n sp co en cr rl qs kA oA kB oB tt ss st K)) (dkW cK cB cI o ks fa oa fb ob dr ds L n sp co en 1 rl qs kA oA kB oB tt ss st K) := hD
  refine lv_aload_n hx hb dX3_crash_5 rfl (lv_at hl 0 rfl) ?_
  refine va_get (D := (dC, dI)) (ci := 4) (v := .ref dr) (C := RX3) (T := TX3) (N := 9) hx hb hts inn_X3_crash_X3 hown hK hP 0 rfl rfl 5 (by decide) (hts (.fieldLink RX3 32 "DoorKeys" "doors" "LDoorKeys$Doors;") (by decide +kernel)) (fun _ h9 => h9) rfl dX3_crash_6 ?_
  refine up_call (W.runV (As := []) (rest := []) ⟨hx, hb, hml, hown, hts⟩ (c_X0_openAll l dC dI cK cB cI o ks fa oa fb ob dr ds L n sp co en 1 rl qs kA oA kB oB tt ss st K) (cwV 0 hts gX3_crash_X0_openAll rfl rfl rfl (by decide +kernel) ⟨Nat.le_of_ble_eq_true rfl, Nat.le_of_ble_eq_true rfl⟩) (up_preV (q0 := 6) (ci := 1) hP hK hD rfl rfl) rfl rfl hl.1 rfl (lv_room (Nat.le_of_ble_eq_true rfl)) dX3_crash_9 ⟨Nat.le_of_ble_eq_true rfl, Nat.le_of_ble_eq_true rfl⟩) hD hS ((dk_fst ..).trans (dk_fst ..).symm) (fun H locs hP hD hS _ _ => ?_)
  have hP : va_P (dC, dI) vwCl (dkW cK cB cI o ks fa oa fb ob dr ds L n sp co en 1 rl qs kA oA kB oB tt ss ((dk_openAll st).2) K) H := hP
  have hD : va_D (up_c (dkW cK cB cI o ks fa oa fb ob dr ds L n sp co en cr rl qs kA oA kB oB tt ss st K)) (dkW cK cB cI o ks fa oa fb ob dr ds L n sp co en 1 rl qs kA oA kB oB tt ss ((dk_openAll st).2) K) := hD
  have e_ : dk_crash st = ((dk_openAll st).1, 1, (dk_openAll st).2) := by unfold dk_crash; exact rfl
  rw [e_]
  exact W.iret (v := (dk_openAll st).1) hx hb hr (fun t ht hW => ⟨rfl, by rw [ht]; exact hP, hS.F ht⟩) hS.2.2 dX3_crash_12
def dk_alarm (st : Nat → Int32) (tt : Int64) (ss : Int64) (x : Int32) (y : Int64) : Int32 × Int64 :=
  if x < 0 then
    (((-1) : Int32), tt)
  else
    if x ≤ 7 then
      if 0 ≤ (lg_cmp y tt) then
        if dk_guard st y ss = 0 then
          ((0 : Int32), y)
        else
          ((1 : Int32), y)
      else
        (((-2) : Int32), tt)
    else
      (((-1) : Int32), tt)
def rm_X3_alarm : Room := { frames := 2, cells := 0, slots := 0, locals := 42 }
set_option maxHeartbeats 4000000 in
set_option maxRecDepth 100000 in
theorem c_X3_alarm (l : Launch) (dC : Nat → ClassId) (dI : Nat → Nat → Nat) (cK : ClassId) (cB : ClassId) (cI : ClassId) (o : Nat) (ks : Nat) (fa : Nat) (oa : Nat) (fb : Nat) (ob : Nat) (dr : Nat) (ds : Nat) (L : Nat → Nat) (n : Nat) (sp : Int32) (co : Nat) (en : Nat) (cr : Int32) (rl : Int32) (qs : Int32) (kA : Int32) (oA : Nat → Int8) (kB : Int32) (oB : Nat → Int8) (tt : Int64) (ss : Int64) (st : Nat → Int32) (K : Nat → KR) (x : Int32) (y : Int64) : Met l yX3_alarm wsX3_alarm rm_X3_alarm (up_P (dC, dI) vwCl (dkT cK cB cI) (dkW cK cB cI o ks fa oa fb ob dr ds L n sp co en cr rl qs kA oA kB oB tt ss st K) [.ref o, .int x, .long y]) (up_Q (dC, dI) vwCl (some (.int ((dk_alarm st tt ss x y).1))) (dkW cK cB cI o ks fa oa fb ob dr ds L n sp co en cr rl qs kA oA kB oB tt ss st K) (dkW cK cB cI o ks fa oa fb ob dr ds L n sp co en cr rl qs kA oA kB oB ((dk_alarm st tt ss x y).2) ss st K)) 0 0 (up_c (dkW cK cB cI o ks fa oa fb ob dr ds L n sp co en cr rl qs kA oA kB oB tt ss st K)) := by
  refine Met.ofW (cc := cX3_alarm) (maxL := 4) (ret := (some .int)) (by decide) rfl ?_
  intro p e s m args below meth c s₁ B hml hv
  obtain ⟨rfl, hP, hK, hD0⟩ := hv
  have hx := B.exec
  have hb := B.bytes
  have hr := B.returns
  have hts := atoms_spec (ws := wsX3_alarm) B.pre
  have hown : s.vm.findClass RX3 = some m.cls := findClass_of_methodNamed B.named
  have hlocks := B.notSynchronized
  have hD := up_self hD0
  have hS : va_S (up_c (dkW cK cB cI o ks fa oa fb ob dr ds L n sp co en cr rl qs kA oA kB oB tt ss st K)) s.heap s.heap [] := va_S.rf
  have hl := lv_entry ([.ref o, .int x, .long y]) (n := 4) (Nat.le_of_ble_eq_true rfl)
  rw [lg_entry_eq]
  generalize (lg_sl ([.ref o, .int x, .long y]) ++ List.replicate (4 - (lg_sl ([.ref o, .int x, .long y])).length) Slot.unset).toArray = ls at hl ⊢
  have hl : lv_has ls 4 [(0, .ref o), (1, .int x), (2, .long y)] := hl
  refine lv_iload_n hx hb dX3_alarm_0 rfl (lv_at hl 1 rfl) ?_
  refine lv_if_lt (tgt := 10) hx hb dX3_alarm_1 (by decide) (fun c_1 => ?_) (fun c_1 => ?_)
  · refine lv_iconst (v := (-1)) hx hb dX3_alarm_10 (by decide) ?_
    have e_ : dk_alarm st tt ss x y = (((-1) : Int32), tt) := by unfold dk_alarm; exact (if_pos c_1).trans rfl
    rw [e_]
    exact W.iret (v := (-1)) hx hb hr (fun t ht hW => ⟨rfl, by rw [ht]; exact hP, hS.F ht⟩) hS.2.2 dX3_alarm_11
  · refine lv_iload_n hx hb dX3_alarm_4 rfl (lv_at hl 1 rfl) ?_
    refine lv_bipush (v := 7) hx hb dX3_alarm_5 (by decide) ?_
    refine lv_icmp_le (tgt := 12) hx hb dX3_alarm_7 (by decide) (fun c_7 => ?_) (fun c_7 => ?_)
    · refine lv_lload_n hx hb dX3_alarm_12 rfl (lv_at hl 2 rfl) ?_
      refine lv_aload_n hx hb dX3_alarm_13 rfl (lv_at hl 0 rfl) ?_
      refine va_get (D := (dC, dI)) (ci := 4) (v := .ref dr) (C := RX3) (T := TX3) (N := 9) hx hb hts inn_X3_alarm_X3 hown hK hP 0 rfl rfl 5 (by decide) (hts (.fieldLink RX3 32 "DoorKeys" "doors" "LDoorKeys$Doors;") (by decide +kernel)) (fun _ h9 => h9) rfl dX3_alarm_14 ?_
      refine va_get (D := (dC, dI)) (ci := 1) (v := .long tt) (C := RX0) (T := TX0) (N := 3) hx hb hts inn_X3_alarm_X0 hown hK hP 6 rfl rfl 1 (by decide) (hts (.fieldLink RX3 140 "DoorKeys$Doors" "timeTold" "J") (by decide +kernel)) (fun _ h9 => h9) rfl dX3_alarm_17 ?_
      refine W.lcmp hx hb dX3_alarm_20 ?_
      refine lv_if_ge (tgt := 27) hx hb dX3_alarm_21 (by decide) (fun c_21 => ?_) (fun c_21 => ?_)
      · refine lv_aload_n hx hb dX3_alarm_27 rfl (lv_at hl 0 rfl) ?_
        refine va_get (D := (dC, dI)) (ci := 4) (v := .ref dr) (C := RX3) (T := TX3) (N := 9) hx hb hts inn_X3_alarm_X3 hown hK hP 0 rfl rfl 5 (by decide) (hts (.fieldLink RX3 32 "DoorKeys" "doors" "LDoorKeys$Doors;") (by decide +kernel)) (fun _ h9 => h9) rfl dX3_alarm_28 ?_
        refine lv_lload_n hx hb dX3_alarm_31 rfl (lv_at hl 2 rfl) ?_
        refine va_put (D := (dC, dI)) (ci := 1) (v := .long y) (ty := .long) (C := RX0) (T := TX0) (N := 3) hx hb hts inn_X3_alarm_X0 tyX0 tyX0_ok nmX0 hown hK hP hD hS 6 rfl rfl 1 (by decide) (hts (.fieldLink RX3 140 "DoorKeys$Doors" "timeTold" "J") (by decide +kernel)) (fun _ h9 => h9) rfl (by decide +kernel) rfl rfl (Nat.le_of_ble_eq_true rfl) dX3_alarm_32 (fun H locs hP hD hS => ?_)
        have hP : va_P (dC, dI) vwCl (dkW cK cB cI o ks fa oa fb ob dr ds L n sp co en cr rl qs kA oA kB oB y ss st K) H := hP
        have hD : va_D (up_c (dkW cK cB cI o ks fa oa fb ob dr ds L n sp co en cr rl qs kA oA kB oB tt ss st K)) (dkW cK cB cI o ks fa oa fb ob dr ds L n sp co en cr rl qs kA oA kB oB y ss st K) := hD
        refine lv_aload_n hx hb dX3_alarm_35 rfl (lv_at hl 0 rfl) ?_
        refine va_get (D := (dC, dI)) (ci := 4) (v := .ref dr) (C := RX3) (T := TX3) (N := 9) hx hb hts inn_X3_alarm_X3 hown hK hP 0 rfl rfl 5 (by decide) (hts (.fieldLink RX3 32 "DoorKeys" "doors" "LDoorKeys$Doors;") (by decide +kernel)) (fun _ h9 => h9) rfl dX3_alarm_36 ?_
        refine up_read (W.runV (As := []) (rest := []) ⟨hx, hb, hml, hown, hts⟩ (c_X0_isGuarded l dC dI cK cB cI o ks fa oa fb ob dr ds L n sp co en cr rl qs kA oA kB oB y ss st K) (cwV 0 hts gX3_alarm_X0_isGuarded rfl rfl rfl (by decide +kernel) ⟨Nat.le_of_ble_eq_true rfl, Nat.le_of_ble_eq_true rfl⟩) (up_preV (q0 := 6) (ci := 1) hP hK hD rfl rfl) rfl rfl hl.1 rfl (lv_room (Nat.le_of_ble_eq_true rfl)) dX3_alarm_39 ⟨Nat.le_of_ble_eq_true rfl, Nat.le_of_ble_eq_true rfl⟩) ?_
        refine lv_if_eq (tgt := 49) hx hb dX3_alarm_42 (by decide) (fun c_42 => ?_) (fun c_42 => ?_)
        · refine lv_iconst (v := 0) hx hb dX3_alarm_49 (by decide) ?_
          have e_ : dk_alarm st tt ss x y = ((0 : Int32), y) := by unfold dk_alarm; exact (if_neg c_1).trans ((if_pos c_7).trans ((if_pos c_21).trans ((if_pos c_42).trans rfl)))
          rw [e_]
          exact W.iret (v := 0) hx hb hr (fun t ht hW => ⟨rfl, by rw [ht]; exact hP, hS.F ht⟩) hS.2.2 dX3_alarm_50
        · refine lv_iconst (v := 1) hx hb dX3_alarm_45 (by decide) ?_
          refine lv_goto (tgt := 50) hx hb dX3_alarm_46 (by decide) ?_
          have e_ : dk_alarm st tt ss x y = ((1 : Int32), y) := by unfold dk_alarm; exact (if_neg c_1).trans ((if_pos c_7).trans ((if_pos c_21).trans ((if_neg c_42).trans rfl)))
          rw [e_]
          exact W.iret (v := 1) hx hb hr (fun t ht hW => ⟨rfl, by rw [ht]; exact hP, hS.F ht⟩) hS.2.2 dX3_alarm_50
      · refine lv_bipush (v := (-2)) hx hb dX3_alarm_24 (by decide) ?_
        have e_ : dk_alarm st tt ss x y = (((-2) : Int32), tt) := by unfold dk_alarm; exact (if_neg c_1).trans ((if_pos c_7).trans ((if_neg c_21).trans rfl))
        rw [e_]
        exact W.iret (v := (-2)) hx hb hr (fun t ht hW => ⟨rfl, by rw [ht]; exact hP, hS.F ht⟩) hS.2.2 dX3_alarm_26
    · refine lv_iconst (v := (-1)) hx hb dX3_alarm_10 (by decide) ?_
      have e_ : dk_alarm st tt ss x y = (((-1) : Int32), tt) := by unfold dk_alarm; exact (if_neg c_1).trans ((if_neg c_7).trans rfl)
      rw [e_]
      exact W.iret (v := (-1)) hx hb hr (fun t ht hW => ⟨rfl, by rw [ht]; exact hP, hS.F ht⟩) hS.2.2 dX3_alarm_11
