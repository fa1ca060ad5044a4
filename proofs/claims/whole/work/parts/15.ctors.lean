/-! The constructors of the class (laid by wip/ctor.py) -/
set_option maxRecDepth 20000 in
theorem inn_X1_init_X1 : ∀ w ∈ wsX10, w ∈ wsX1_init := by decide +kernel
set_option maxRecDepth 20000 in
theorem inn_X0_init_X0 : ∀ w ∈ wsX00, w ∈ wsX0_init := by decide +kernel
set_option maxRecDepth 20000 in
theorem inn_X3_init_X3 : ∀ w ∈ wsX30, w ∈ wsX3_init := by decide +kernel
set_option maxRecDepth 20000 in
theorem inn_X3_init_X1 : ∀ w ∈ wsX10, w ∈ wsX3_init := by decide +kernel
set_option maxRecDepth 20000 in
theorem inn_X3_init_X0 : ∀ w ∈ wsX00, w ∈ wsX3_init := by decide +kernel
set_option maxRecDepth 20000 in
theorem inn_X2_init_X2 : ∀ w ∈ wsX20, w ∈ wsX2_init := by decide +kernel
abbrev at_Frame (dC : Nat → ClassId) (dI : Nat → Nat → Nat) (A : Nat → Prop) (h0 : Nat) (u : Nat × ClassId) (t : State) : Prop := va_P (dC, dI) vwCl [(h0, .inr (2, [.ref u.1, .int 0])), (u.1, .inl (u.2, 16, .inl (fun _ => 0)))] t.heap ∧ va_K (dC, dI) vwCl [(u.2, .byte)] t ∧ va_D A [(h0, .inr (2, [.ref u.1, .int 0])), (u.1, .inl (u.2, 16, .inl (fun _ => 0)))]
def rm_X1_init : Room := { frames := 1, cells := 1, slots := 16, locals := 12 }
set_option maxHeartbeats 4000000 in
set_option maxRecDepth 100000 in
theorem c_X1_init (l : Launch) (dC : Nat → ClassId) (dI : Nat → Nat → Nat) (h0 sz : Nat) : Met l yX1_init wsX1_init rm_X1_init (va_Pc [.ref h0] (fun U => U.heap.size = sz ∧ va_P (dC, dI) vwCl [(h0, .inr (2, [.null, .int 0]))] U.heap ∧ va_K (dC, dI) vwCl [] U ∧ va_D (fun _ => True) [(h0, .inr (2, [.null, .int 0]))])) (va_Qv (fun _ : Nat × ClassId => True) (at_Frame dC dI (va_A [(h0, .inr (2, [.null, .int 0]))] sz) h0) (va_A [(h0, .inr (2, [.null, .int 0]))] sz)) 1 16 (va_A [(h0, .inr (2, [.null, .int 0]))] sz) := by
  refine Met.ofW (cc := cX1_init) (maxL := 1) (ret := none) (by decide) rfl ?_
  intro p e s m args below meth c s₁ B hml hv
  have hx := B.exec
  have hb := B.bytes
  have hr := B.returns
  have hin : meth.name = "<init>" := (name_of_methodNamed B.named B.method).1
  obtain ⟨rfl, hsz, hP, hK, hD0⟩ := hv
  subst hsz
  have hD := hD0.self (sz := s.heap.size)
  generalize hAe : va_A [(h0, .inr (2, [.null, .int 0]))] s.heap.size = A at hD ⊢
  have hA : ∀ q : Nat, s.heap.size ≤ q → A q := fun q h => by rw [← hAe]; exact Or.inr h
  have hS : va_S A s.heap s.heap [] := va_S.rf
  have hP : va_P (dC, dI) vwCl [(h0, .inr (2, [.null, .int 0]))] s.heap := hP
  have hts := atoms_spec (ws := wsX1_init) B.pre
  have hown : s.vm.findClass RX1 = some m.cls := findClass_of_methodNamed B.named
  have hlocks := B.notSynchronized
  have hl := lv_entry ([.ref h0]) (n := 1) (Nat.le_of_ble_eq_true rfl)
  rw [lg_entry_eq]
  generalize (lg_sl ([.ref h0]) ++ List.replicate (1 - (lg_sl ([.ref h0])).length) Slot.unset).toArray = ls at hl ⊢
  have hl : lv_has ls 1 [(0, .ref h0)] := hl
  refine lv_aload_n hx hb dX1_init_0 rfl (lv_at hl 0 rfl) ?_
  refine W.objInit hx hb hown (hts (.methodLink RX1 1 objectInit) (by decide +kernel)) (hts (.instanceMethod objectInit) (by decide +kernel)) (hts (.code objectInit ⟨#[0xb1]⟩ 1 none) (List.mem_of_getElem? (i := 3) rfl)) rfl (by rw [hml]; exact hl.1) rfl dX1_init_1 (Nat.le_of_ble_eq_true rfl) (Nat.le_of_ble_eq_true rfl) ?_
  refine W.eq (g2 := F0 m 4 ls []) rfl ?_
  refine lv_aload_n hx hb dX1_init_4 rfl (lv_at hl 0 rfl) ?_
  refine lv_bipush (v := 16) hx hb dX1_init_5 (by decide) ?_
  refine va_newa (atype := .byte) (N' := 16) (a0 := (16, .inl (fun _ => 0))) (ty := .byte) (n := 16) hx hb (hts (.arrayClass .byte) (by decide +kernel)) rfl hK hP hD hS hA (fun _ => rfl) (by decide) (by decide) (by decide) (Nat.le_of_ble_eq_true rfl) (Nat.le_of_ble_eq_true rfl) dX1_init_7 (fun q1 c1 H hK hP hD hS => ?_)
  have hP : va_P (dC, dI) vwCl [(h0, .inr (2, [.null, .int 0])), (q1, .inl (c1, 16, .inl (fun _ => 0)))] H := hP
  have hD : va_D A [(h0, .inr (2, [.null, .int 0])), (q1, .inl (c1, 16, .inl (fun _ => 0)))] := hD
  have hK : va_K (dC, dI) vwCl [(c1, .byte)] s := hK
  refine W.widen (k := 1) (n := 16) (by omega) (by omega) ?_
  refine va_putF (D := (dC, dI)) (ci := 2) (v := .ref q1) (ty := .array .byte) (C := RX1) (T := TX1) (N := 2) hx hb hts inn_X1_init_X1 tyX1 tyX1_ok nmX1 hown hK hP hD hS 0 rfl rfl 0 (by decide) (hts (.fieldLink RX1 9 "DoorKeys$Frame" "octets" "[B") (by decide +kernel)) (fun _ h9 => h9) rfl hin rfl (by decide +kernel) rfl rfl (Nat.le_of_ble_eq_true rfl) dX1_init_9 (fun H locs hP hD hS => ?_)
  have hP : va_P (dC, dI) vwCl [(h0, .inr (2, [.ref q1, .int 0])), (q1, .inl (c1, 16, .inl (fun _ => 0)))] H := hP
  have hD : va_D A [(h0, .inr (2, [.ref q1, .int 0])), (q1, .inl (c1, 16, .inl (fun _ => 0)))] := hD
  exact W.vret hx hb hr (fun t ht hW => ⟨⟨(q1, c1), rfl, trivial, by rw [ht]; exact hP, va_K.moved hW.alike hK, hD⟩, hS.F ht⟩) hS.2.2 dX1_init_12
abbrev at_Doors (dC : Nat → ClassId) (dI : Nat → Nat → Nat) (A : Nat → Prop) (h0 : Nat) (u : Nat × ClassId × (Nat → Int32)) (t : State) : Prop := va_P (dC, dI) vwCl [(h0, .inr (1, [.ref u.1, .long 0, .long 0])), (u.1, .inl (u.2.1, 5, .inl u.2.2))] t.heap ∧ va_K (dC, dI) vwCl [(u.2.1, .int)] t ∧ va_D A [(h0, .inr (1, [.ref u.1, .long 0, .long 0])), (u.1, .inl (u.2.1, 5, .inl u.2.2))]
def rm_X0_init : Room := { frames := 1, cells := 1, slots := 5, locals := 12 }
set_option maxHeartbeats 4000000 in
set_option maxRecDepth 100000 in
theorem c_X0_init (l : Launch) (dC : Nat → ClassId) (dI : Nat → Nat → Nat) (h0 sz : Nat) : Met l yX0_init wsX0_init rm_X0_init (va_Pc [.ref h0] (fun U => U.heap.size = sz ∧ va_P (dC, dI) vwCl [(h0, .inr (1, [.null, .long 0, .long 0]))] U.heap ∧ va_K (dC, dI) vwCl [] U ∧ va_D (fun _ => True) [(h0, .inr (1, [.null, .long 0, .long 0]))])) (va_Qv (fun u : Nat × ClassId × (Nat → Int32) => ∀ j, j < 5 → u.2.2 j = 1) (at_Doors dC dI (va_A [(h0, .inr (1, [.null, .long 0, .long 0]))] sz) h0) (va_A [(h0, .inr (1, [.null, .long 0, .long 0]))] sz)) 1 5 (va_A [(h0, .inr (1, [.null, .long 0, .long 0]))] sz) := by
  refine Met.ofW (cc := cX0_init) (maxL := 2) (ret := none) (by decide) rfl ?_
  intro p e s m args below meth c s₁ B hml hv
  have hx := B.exec
  have hb := B.bytes
  have hr := B.returns
  have hin : meth.name = "<init>" := (name_of_methodNamed B.named B.method).1
  obtain ⟨rfl, hsz, hP, hK, hD0⟩ := hv
  subst hsz
  have hD := hD0.self (sz := s.heap.size)
  generalize hAe : va_A [(h0, .inr (1, [.null, .long 0, .long 0]))] s.heap.size = A at hD ⊢
  have hA : ∀ q : Nat, s.heap.size ≤ q → A q := fun q h => by rw [← hAe]; exact Or.inr h
  have hS : va_S A s.heap s.heap [] := va_S.rf
  have hP : va_P (dC, dI) vwCl [(h0, .inr (1, [.null, .long 0, .long 0]))] s.heap := hP
  have hts := atoms_spec (ws := wsX0_init) B.pre
  have hown : s.vm.findClass RX0 = some m.cls := findClass_of_methodNamed B.named
  have hlocks := B.notSynchronized
  have hl := lv_entry ([.ref h0]) (n := 2) (Nat.le_of_ble_eq_true rfl)
  rw [lg_entry_eq]
  generalize (lg_sl ([.ref h0]) ++ List.replicate (2 - (lg_sl ([.ref h0])).length) Slot.unset).toArray = ls at hl ⊢
  have hl : lv_has ls 2 [(0, .ref h0)] := hl
  refine lv_aload_n hx hb dX0_init_0 rfl (lv_at hl 0 rfl) ?_
  refine W.objInit hx hb hown (hts (.methodLink RX0 3 objectInit) (by decide +kernel)) (hts (.instanceMethod objectInit) (by decide +kernel)) (hts (.code objectInit ⟨#[0xb1]⟩ 1 none) (List.mem_of_getElem? (i := 3) rfl)) rfl (by rw [hml]; exact hl.1) rfl dX0_init_1 (Nat.le_of_ble_eq_true rfl) (Nat.le_of_ble_eq_true rfl) ?_
  refine W.eq (g2 := F0 m 4 ls []) rfl ?_
  refine lv_aload_n hx hb dX0_init_4 rfl (lv_at hl 0 rfl) ?_
  refine lv_iconst (v := 5) hx hb dX0_init_5 (by decide) ?_
  refine va_newa (atype := .int) (N' := 5) (a0 := (5, .inl (fun _ => 0))) (ty := .int) (n := 5) hx hb (hts (.arrayClass .int) (by decide +kernel)) rfl hK hP hD hS hA (fun _ => rfl) (by decide) (by decide) (by decide) (Nat.le_of_ble_eq_true rfl) (Nat.le_of_ble_eq_true rfl) dX0_init_6 (fun q1 c1 H hK hP hD hS => ?_)
  have hP : va_P (dC, dI) vwCl [(h0, .inr (1, [.null, .long 0, .long 0])), (q1, .inl (c1, 5, .inl (fun _ => 0)))] H := hP
  have hD : va_D A [(h0, .inr (1, [.null, .long 0, .long 0])), (q1, .inl (c1, 5, .inl (fun _ => 0)))] := hD
  have hK : va_K (dC, dI) vwCl [(c1, .int)] s := hK
  refine W.widen (k := 1) (n := 5) (by omega) (by omega) ?_
  refine va_putF (D := (dC, dI)) (ci := 1) (v := .ref q1) (ty := .array .int) (C := RX0) (T := TX0) (N := 3) hx hb hts inn_X0_init_X0 tyX0 tyX0_ok nmX0 hown hK hP hD hS 0 rfl rfl 0 (by decide) (hts (.fieldLink RX0 11 "DoorKeys$Doors" "states" "[I") (by decide +kernel)) (fun _ h9 => h9) rfl hin rfl (by decide +kernel) rfl rfl (Nat.le_of_ble_eq_true rfl) dX0_init_8 (fun H locs hP hD hS => ?_)
  have hP : va_P (dC, dI) vwCl [(h0, .inr (1, [.ref q1, .long 0, .long 0])), (q1, .inl (c1, 5, .inl (fun _ => 0)))] H := hP
  have hD : va_D A [(h0, .inr (1, [.ref q1, .long 0, .long 0])), (q1, .inl (c1, 5, .inl (fun _ => 0)))] := hD
  refine lv_iconst (v := 0) hx hb dX0_init_11 (by decide) ?_
  refine lv_istore_n (lv' := [(1, .int 0), (0, .ref h0)]) hx hb dX0_init_12 rfl hl (by decide) rfl (fun ls hl => ?_)
  have lp : ∀ (r j : Nat) (f : Nat → Int32), j + r = 5 → (∀ i, i < j → f i = 1) → ∀ (H : Heap) (locs : List Loc), va_P (dC, dI) vwCl [(h0, .inr (1, [.ref q1, .long 0, .long 0])), (q1, .inl (c1, 5, .inl f))] H → va_D A [(h0, .inr (1, [.ref q1, .long 0, .long 0])), (q1, .inl (c1, 5, .inl f))] → va_S A s.heap H locs → ∀ ls : Array Slot, lv_has ls 2 [(1, .int (nI j)), (0, .ref h0)] → W p l e (headSpec wsX0_init rm_X0_init).room s m ([.ref h0] : List Value).toArray below meth c H locs 1 5 (MQ below (va_Qv (fun u : Nat × ClassId × (Nat → Int32) => ∀ j, j < 5 → u.2.2 j = 1) (at_Doors dC dI A h0) A) ([.ref h0] : List Value).toArray s 1 5 A) (F0 m 13 ls []) := by
    intro r
    induction r with
    | zero =>
      intro j f hj hf H locs hP hD hS ls hl
      refine lv_iload_n hx hb dX0_init_13 rfl (lv_at hl 0 rfl) ?_
      refine lv_aload_n hx hb dX0_init_14 rfl (lv_at hl 1 rfl) ?_
      refine va_get (D := (dC, dI)) (ci := 1) (v := .ref q1) (C := RX0) (T := TX0) (N := 3) hx hb hts inn_X0_init_X0 hown hK hP 0 rfl rfl 0 (by decide) (hts (.fieldLink RX0 11 "DoorKeys$Doors" "states" "[I") (by decide +kernel)) (fun _ h9 => h9) rfl dX0_init_15 ?_
      refine va_alen (v := 5) hx hb hK hP 1 0 rfl rfl rfl dX0_init_18 ?_
      refine lv_icmp_ge (tgt := 35) hx hb dX0_init_19 (by decide) (fun c_19 => ?_) (fun c_19 => (c_19 (nI_le (a := 5) (b := j) (by omega) (by omega))).elim)
      exact W.vret hx hb hr (fun t ht hW => ⟨⟨(q1, c1, f), rfl, fun i hi => hf i (by omega), by rw [ht]; exact hP, va_K.moved hW.alike hK, hD⟩, hS.F ht⟩) hS.2.2 dX0_init_35
    | succ r ih =>
      intro j f hj hf H locs hP hD hS ls hl
      refine lv_iload_n hx hb dX0_init_13 rfl (lv_at hl 0 rfl) ?_
      refine lv_aload_n hx hb dX0_init_14 rfl (lv_at hl 1 rfl) ?_
      refine va_get (D := (dC, dI)) (ci := 1) (v := .ref q1) (C := RX0) (T := TX0) (N := 3) hx hb hts inn_X0_init_X0 hown hK hP 0 rfl rfl 0 (by decide) (hts (.fieldLink RX0 11 "DoorKeys$Doors" "states" "[I") (by decide +kernel)) (fun _ h9 => h9) rfl dX0_init_15 ?_
      refine va_alen (v := 5) hx hb hK hP 1 0 rfl rfl rfl dX0_init_18 ?_
      refine lv_icmp_ge (tgt := 35) hx hb dX0_init_19 (by decide) (fun c_19 => (nI_ge (a := j) (b := 5) (by omega) (by omega) c_19).elim) (fun c_19 => ?_)
      refine lv_aload_n hx hb dX0_init_22 rfl (lv_at hl 1 rfl) ?_
      refine va_get (D := (dC, dI)) (ci := 1) (v := .ref q1) (C := RX0) (T := TX0) (N := 3) hx hb hts inn_X0_init_X0 hown hK hP 0 rfl rfl 0 (by decide) (hts (.fieldLink RX0 11 "DoorKeys$Doors" "states" "[I") (by decide +kernel)) (fun _ h9 => h9) rfl dX0_init_23 ?_
      refine lv_iload_n hx hb dX0_init_26 rfl (lv_at hl 0 rfl) ?_
      refine lv_iconst (v := 1) hx hb dX0_init_27 (by decide) ?_
      refine va_iast hx hb hK hP hD hS 1 0 rfl rfl (vp_in_nI (n := j) (N := 5) (by omega) (by decide)) dX0_init_28 (fun H locs hP hD hS => ?_)
      have hP : va_P (dC, dI) vwCl [(h0, .inr (1, [.ref q1, .long 0, .long 0])), (q1, .inl (c1, 5, .inl (upd f (nI j).toNatClampNeg 1)))] H := hP
      have hD : va_D A [(h0, .inr (1, [.ref q1, .long 0, .long 0])), (q1, .inl (c1, 5, .inl (upd f (nI j).toNatClampNeg 1)))] := hD
      refine lv_iinc (v := (nI (j + 1))) (lv' := [(1, .int (nI (j + 1))), (0, .ref h0)]) hx hb dX0_init_29 hl (k := 0) rfl (nI_1 _) (by decide) rfl (fun ls hl => ?_)
      refine lv_goto (tgt := 13) hx hb dX0_init_32 (by decide) ?_
      refine ih (j + 1) _ (by omega) (fun i hi => ?_) _ _ hP hD hS ls hl
      rw [nI_clamp (show j < 2 ^ 31 by omega)]
      by_cases h : i = j
      · rw [h]; exact pk_us
      · rw [pk_un h]; exact hf i (by omega)
  exact lp 5 0 _ (by omega) (fun i hi => absurd hi (by omega)) _ _ hP hD hS ls hl
def rm_X2_init : Room := { frames := 1, cells := 0, slots := 0, locals := 12 }
set_option maxHeartbeats 4000000 in
set_option maxRecDepth 100000 in
theorem c_X2_init (l : Launch) (dC : Nat → ClassId) (dI : Nat → Nat → Nat) (h0 : Nat) (x : Int64) (y z : Int32) (hz1 : narrow .boolean (.int z) = .int z) (hz2 : fits .boolean (.int z) = true) : Met l yX2_init wsX2_init rm_X2_init (up_P (dC, dI) vwCl [] [(h0, kcell (0, 0, 0, 0, 0, 0, 0))] [.ref h0, .long x, .int y, .int z]) (up_Q (dC, dI) vwCl none [(h0, kcell (0, 0, 0, 0, 0, 0, 0))] [(h0, kcell (x, y, -1, z, 0, 0, 0))]) 0 0 (up_c [(h0, kcell (0, 0, 0, 0, 0, 0, 0))]) := by
  refine Met.ofW (cc := cX2_init) (maxL := 5) (ret := none) (by decide) rfl ?_
  intro p e s m args below meth c s₁ B hml hv
  have hx := B.exec
  have hb := B.bytes
  have hr := B.returns
  have hin : meth.name = "<init>" := (name_of_methodNamed B.named B.method).1
  obtain ⟨rfl, hP, hK, hD0⟩ := hv
  have hD := up_self hD0
  have hS : va_S (up_c [(h0, kcell (0, 0, 0, 0, 0, 0, 0))]) s.heap s.heap [] := va_S.rf
  have hts := atoms_spec (ws := wsX2_init) B.pre
  have hown : s.vm.findClass RX2 = some m.cls := findClass_of_methodNamed B.named
  have hlocks := B.notSynchronized
  have hl := lv_entry ([.ref h0, .long x, .int y, .int z]) (n := 5) (Nat.le_of_ble_eq_true rfl)
  rw [lg_entry_eq]
  generalize (lg_sl ([.ref h0, .long x, .int y, .int z]) ++ List.replicate (5 - (lg_sl ([.ref h0, .long x, .int y, .int z])).length) Slot.unset).toArray = ls at hl ⊢
  have hl : lv_has ls 5 [(0, .ref h0), (1, .long x), (3, .int y), (4, .int z)] := hl
  refine lv_aload_n hx hb dX2_init_0 rfl (lv_at hl 0 rfl) ?_
  refine W.objInit hx hb hown (hts (.methodLink RX2 3 objectInit) (by decide +kernel)) (hts (.instanceMethod objectInit) (by decide +kernel)) (hts (.code objectInit ⟨#[0xb1]⟩ 1 none) (List.mem_of_getElem? (i := 3) rfl)) rfl (by rw [hml]; exact hl.1) rfl dX2_init_1 (Nat.le_of_ble_eq_true rfl) (Nat.le_of_ble_eq_true rfl) ?_
  refine W.eq (g2 := F0 m 4 ls []) rfl ?_
  refine lv_aload_n hx hb dX2_init_4 rfl (lv_at hl 0 rfl) ?_
  refine lv_lload_n hx hb dX2_init_5 rfl (lv_at hl 1 rfl) ?_
  refine va_putF (D := (dC, dI)) (ci := 3) (v := .long x) (ty := .long) (C := RX2) (T := TX2) (N := 7) hx hb hts inn_X2_init_X2 tyX2 tyX2_ok nmX2 hown hK hP hD hS 0 rfl rfl 0 (by decide) (hts (.fieldLink RX2 9 "DoorKeys$Key" "secret" "J") (by decide +kernel)) (fun _ h9 => h9) rfl hin rfl (by decide +kernel) rfl rfl (Nat.le_of_ble_eq_true rfl) dX2_init_6 (fun H locs hP hD hS => ?_)
  have hP : va_P (dC, dI) vwCl [(h0, .inr (3, [.long x, .int 0, .int 0, .int 0, .int 0, .int 0, .int 0]))] H := hP
  have hD : va_D (up_c [(h0, kcell (0, 0, 0, 0, 0, 0, 0))]) [(h0, .inr (3, [.long x, .int 0, .int 0, .int 0, .int 0, .int 0, .int 0]))] := hD
  refine lv_aload_n hx hb dX2_init_9 rfl (lv_at hl 0 rfl) ?_
  refine lv_iload_n hx hb dX2_init_10 rfl (lv_at hl 2 rfl) ?_
  refine va_put (D := (dC, dI)) (ci := 3) (v := .int y) (ty := .int) (C := RX2) (T := TX2) (N := 7) hx hb hts inn_X2_init_X2 tyX2 tyX2_ok nmX2 hown hK hP hD hS 0 rfl rfl 1 (by decide) (hts (.fieldLink RX2 15 "DoorKeys$Key" "counter" "I") (by decide +kernel)) (fun _ h9 => h9) rfl (by decide +kernel) rfl rfl (Nat.le_of_ble_eq_true rfl) dX2_init_11 (fun H locs hP hD hS => ?_)
  have hP : va_P (dC, dI) vwCl [(h0, .inr (3, [.long x, .int y, .int 0, .int 0, .int 0, .int 0, .int 0]))] H := hP
  have hD : va_D (up_c [(h0, kcell (0, 0, 0, 0, 0, 0, 0))]) [(h0, .inr (3, [.long x, .int y, .int 0, .int 0, .int 0, .int 0, .int 0]))] := hD
  refine lv_aload_n hx hb dX2_init_14 rfl (lv_at hl 0 rfl) ?_
  refine lv_iconst (v := (-1)) hx hb dX2_init_15 (by decide) ?_
  refine va_put (D := (dC, dI)) (ci := 3) (v := .int (-1)) (ty := .int) (C := RX2) (T := TX2) (N := 7) hx hb hts inn_X2_init_X2 tyX2 tyX2_ok nmX2 hown hK hP hD hS 0 rfl rfl 2 (by decide) (hts (.fieldLink RX2 19 "DoorKeys$Key" "awaited" "I") (by decide +kernel)) (fun _ h9 => h9) rfl (by decide +kernel) rfl rfl (Nat.le_of_ble_eq_true rfl) dX2_init_16 (fun H locs hP hD hS => ?_)
  have hP : va_P (dC, dI) vwCl [(h0, .inr (3, [.long x, .int y, .int (-1), .int 0, .int 0, .int 0, .int 0]))] H := hP
  have hD : va_D (up_c [(h0, kcell (0, 0, 0, 0, 0, 0, 0))]) [(h0, .inr (3, [.long x, .int y, .int (-1), .int 0, .int 0, .int 0, .int 0]))] := hD
  refine lv_aload_n hx hb dX2_init_19 rfl (lv_at hl 0 rfl) ?_
  refine lv_iload hx hb dX2_init_20 (lv_at hl 3 rfl) ?_
  refine va_put (D := (dC, dI)) (ci := 3) (v := .int z) (ty := .boolean) (C := RX2) (T := TX2) (N := 7) hx hb hts inn_X2_init_X2 tyX2 tyX2_ok nmX2 hown hK hP hD hS 0 rfl rfl 3 (by decide) (hts (.fieldLink RX2 22 "DoorKeys$Key" "learned" "Z") (by decide +kernel)) (fun _ h9 => h9) rfl (by decide +kernel) hz1 hz2 (Nat.le_of_ble_eq_true rfl) dX2_init_22 (fun H locs hP hD hS => ?_)
  have hP : va_P (dC, dI) vwCl [(h0, .inr (3, [.long x, .int y, .int (-1), .int z, .int 0, .int 0, .int 0]))] H := hP
  have hD : va_D (up_c [(h0, kcell (0, 0, 0, 0, 0, 0, 0))]) [(h0, .inr (3, [.long x, .int y, .int (-1), .int z, .int 0, .int 0, .int 0]))] := hD
  exact W.vret hx hb hr (fun t ht hW => ⟨rfl, by rw [ht]; exact hP, hS.F ht⟩) hS.2.2 dX2_init_25
def dk_span (x : Int32) : Int32 := if x < 1 then 16 else if 32767 < x then 16 else x
theorem dk_k0 (L : Nat → Nat) : (fun i => if i < 0 then some (L i) else none) = fun _ => none := by
  funext i
  simp
abbrev dkW0 (cK cB cI : ClassId) (o ks fa oa fb ob dr ds : Nat) (sp : Int32) (st : Nat → Int32) : va_W := dkW cK cB cI o ks fa oa fb ob dr ds (fun _ => 0) 0 sp fa fb 0 0 0 0 (fun _ => 0) 0 (fun _ => 0) 0 0 st (fun _ => (0, 0, 0, 0, 0, 0, 0))
abbrev DKA : Type := ClassId × ClassId × ClassId × Nat × Nat × Nat × Nat × Nat × Nat × Nat × (Nat → Int32)
abbrev at_DK (dC : Nat → ClassId) (dI : Nat → Nat → Nat) (A : Nat → Prop) (h0 : Nat) (x : Int32) (u : DKA) (t : State) : Prop := match u with
  | (cK, cB, cI, ks, fa, oa, fb, ob, dr, ds, st) => va_P (dC, dI) vwCl (dkW0 cK cB cI h0 ks fa oa fb ob dr ds (dk_span x) st) t.heap ∧ va_K (dC, dI) vwCl (dkT cK cB cI) t ∧ va_D A (dkW0 cK cB cI h0 ks fa oa fb ob dr ds (dk_span x) st)
def rm_X3_init : Room := { frames := 2, cells := 7, slots := 52, locals := 33 }
set_option maxHeartbeats 4000000 in
set_option maxRecDepth 100000 in
theorem c_X3_init (l : Launch) (dC : Nat → ClassId) (dI : Nat → Nat → Nat) (h0 sz : Nat) (x : Int32) : Met l yX3_init wsX3_init rm_X3_init (va_Pc [.ref h0, .int x] (fun U => U.heap.size = sz ∧ va_P (dC, dI) vwCl [(h0, .inr (4, [.int 0, .null, .int 0, .null, .null, .null, .int 0, .int 0, .int 0]))] U.heap ∧ va_K (dC, dI) vwCl [] U ∧ va_D (fun _ => True) [(h0, .inr (4, [.int 0, .null, .int 0, .null, .null, .null, .int 0, .int 0, .int 0]))] ∧ va_AO RX2 U)) (va_Qv (fun u : DKA => ∀ j, j < 5 → u.2.2.2.2.2.2.2.2.2.2 j = 1) (at_DK dC dI (va_A [(h0, .inr (4, [.int 0, .null, .int 0, .null, .null, .null, .int 0, .int 0, .int 0]))] sz) h0 x) (va_A [(h0, .inr (4, [.int 0, .null, .int 0, .null, .null, .null, .int 0, .int 0, .int 0]))] sz)) 7 52 (va_A [(h0, .inr (4, [.int 0, .null, .int 0, .null, .null, .null, .int 0, .int 0, .int 0]))] sz) := by
  refine Met.ofW (cc := cX3_init) (maxL := 2) (ret := none) (by decide) rfl ?_
  intro p e s m args below meth c s₁ B hml hv
  have hx := B.exec
  have hb := B.bytes
  have hr := B.returns
  have hin : meth.name = "<init>" := (name_of_methodNamed B.named B.method).1
  obtain ⟨rfl, hsz, hP, hK, hD0, hO⟩ := hv
  subst hsz
  have hD := hD0.self (sz := s.heap.size)
  generalize hAe : va_A [(h0, .inr (4, [.int 0, .null, .int 0, .null, .null, .null, .int 0, .int 0, .int 0]))] s.heap.size = A at hD ⊢
  have hA : ∀ q : Nat, s.heap.size ≤ q → A q := fun q h => by rw [← hAe]; exact Or.inr h
  have hS : va_S A s.heap s.heap [] := va_S.rf
  have hP : va_P (dC, dI) vwCl [(h0, .inr (4, [.int 0, .null, .int 0, .null, .null, .null, .int 0, .int 0, .int 0]))] s.heap := hP
  have hts := atoms_spec (ws := wsX3_init) B.pre
  have hown : s.vm.findClass RX3 = some m.cls := findClass_of_methodNamed B.named
  have hlocks := B.notSynchronized
  have hl := lv_entry ([.ref h0, .int x]) (n := 2) (Nat.le_of_ble_eq_true rfl)
  rw [lg_entry_eq]
  generalize (lg_sl ([.ref h0, .int x]) ++ List.replicate (2 - (lg_sl ([.ref h0, .int x])).length) Slot.unset).toArray = ls at hl ⊢
  have hl : lv_has ls 2 [(0, .ref h0), (1, .int x)] := hl
  refine lv_aload_n hx hb dX3_init_0 rfl (lv_at hl 0 rfl) ?_
  refine W.objInit hx hb hown (hts (.methodLink RX3 1 objectInit) (by decide +kernel)) (hts (.instanceMethod objectInit) (by decide +kernel)) (hts (.code objectInit ⟨#[0xb1]⟩ 1 none) (List.mem_of_getElem? (i := 3) rfl)) rfl (by rw [hml]; exact hl.1) rfl dX3_init_1 (Nat.le_of_ble_eq_true rfl) (Nat.le_of_ble_eq_true rfl) ?_
  refine W.eq (g2 := F0 m 4 ls []) rfl ?_
  refine lv_aload_n hx hb dX3_init_4 rfl (lv_at hl 0 rfl) ?_
  refine lv_iload_n hx hb dX3_init_5 rfl (lv_at hl 1 rfl) ?_
  refine lv_iconst (v := 1) hx hb dX3_init_6 (by decide) ?_
  refine lv_icmp_lt (tgt := 21) hx hb dX3_init_7 (by decide) (fun c_7 => ?_) (fun c_7 => ?_)
  · have e1 : dk_span x = 16 := by unfold dk_span; exact if_pos c_7
    refine lv_bipush (v := 16) hx hb dX3_init_21 (by decide) ?_
    refine va_putF (D := (dC, dI)) (ci := 4) (v := .int 16) (ty := .int) (C := RX3) (T := TX3) (N := 9) hx hb hts inn_X3_init_X3 tyX3 tyX3_ok nmX3 hown hK hP hD hS 0 rfl rfl 0 (by decide) (hts (.fieldLink RX3 9 "DoorKeys" "span" "I") (by decide +kernel)) (fun _ h9 => h9) rfl hin rfl (by decide +kernel) rfl rfl (Nat.le_of_ble_eq_true rfl) dX3_init_23 (fun H locs hP hD hS => ?_)
    have hP : va_P (dC, dI) vwCl [(h0, .inr (4, [.int 16, .null, .int 0, .null, .null, .null, .int 0, .int 0, .int 0]))] H := hP
    have hD : va_D A [(h0, .inr (4, [.int 16, .null, .int 0, .null, .null, .null, .int 0, .int 0, .int 0]))] := hD
    refine lv_aload_n hx hb dX3_init_26 rfl (lv_at hl 0 rfl) ?_
    refine lv_bipush (v := 8) hx hb dX3_init_27 (by decide) ?_
    refine va_newq (C := RX2) (N' := 8) (n := 8) hx hb hown (hts (.classLink RX3 13 RX2) (by decide +kernel)) hO hK hP hD hS hA (by decide) (by decide) (by decide) (Nat.le_of_ble_eq_true rfl) (Nat.le_of_ble_eq_true rfl) dX3_init_29 (fun ks cK H hK hP hD hS => ?_)
    have hP : va_P (dC, dI) vwCl [(h0, .inr (4, [.int 16, .null, .int 0, .null, .null, .null, .int 0, .int 0, .int 0])), (ks, .inl (cK, 8, .inr (.inr (.inr (.inr (fun _ => none))))))] H := hP
    have hD : va_D A [(h0, .inr (4, [.int 16, .null, .int 0, .null, .null, .null, .int 0, .int 0, .int 0])), (ks, .inl (cK, 8, .inr (.inr (.inr (.inr (fun _ => none))))))] := hD
    have hK : va_K (dC, dI) vwCl [(cK, .object RX2)] s := hK
    refine W.widen (k := 1) (n := 8) (by omega) (by omega) ?_
    refine va_putF (D := (dC, dI)) (ci := 4) (v := .ref ks) (ty := .array (.object "DoorKeys$Key")) (C := RX3) (T := TX3) (N := 9) hx hb hts inn_X3_init_X3 tyX3 tyX3_ok nmX3 hown hK hP hD hS 0 rfl rfl 1 (by decide) (hts (.fieldLink RX3 15 "DoorKeys" "keys" "[LDoorKeys$Key;") (by decide +kernel)) (fun _ h9 => h9) rfl hin rfl (by decide +kernel) rfl rfl (Nat.le_of_ble_eq_true rfl) dX3_init_32 (fun H locs hP hD hS => ?_)
    have hP : va_P (dC, dI) vwCl [(h0, .inr (4, [.int 16, .ref ks, .int 0, .null, .null, .null, .int 0, .int 0, .int 0])), (ks, .inl (cK, 8, .inr (.inr (.inr (.inr (fun _ => none))))))] H := hP
    have hD : va_D A [(h0, .inr (4, [.int 16, .ref ks, .int 0, .null, .null, .null, .int 0, .int 0, .int 0])), (ks, .inl (cK, 8, .inr (.inr (.inr (.inr (fun _ => none))))))] := hD
    refine lv_aload_n hx hb dX3_init_35 rfl (lv_at hl 0 rfl) ?_
    refine va_new (ci := 2) (fs := [.null, .int 0]) (C := RX1) (T := TX1) (N := 2) hx hb hts inn_X3_init_X1 tyX1 tyX1_ok hown (hts (.classLink RX3 19 RX1) (by decide +kernel)) (hts (.instantiable RX1 2) (by decide +kernel)) (hts (.initialized RX1) (by decide +kernel)) hK hP hD hS hA rfl (fun j hj => by rcases (show j = 0 ∨ j = 1 by omega) with rfl | rfl <;> rfl) (Nat.le_of_ble_eq_true rfl) (Nat.le_of_ble_eq_true rfl) dX3_init_36 (fun fa H hP hD hS => ?_)
    have hP : va_P (dC, dI) vwCl [(h0, .inr (4, [.int 16, .ref ks, .int 0, .null, .null, .null, .int 0, .int 0, .int 0])), (ks, .inl (cK, 8, .inr (.inr (.inr (.inr (fun _ => none)))))), (fa, .inr (2, [.null, .int 0]))] H := hP
    have hD : va_D A [(h0, .inr (4, [.int 16, .ref ks, .int 0, .null, .null, .null, .int 0, .int 0, .int 0])), (ks, .inl (cK, 8, .inr (.inr (.inr (.inr (fun _ => none)))))), (fa, .inr (2, [.null, .int 0]))] := hD
    refine W.widen (k := 2) (n := 10) (by omega) (by omega) ?_
    refine lv_dup hx hb dX3_init_39 rfl ?_
    have hPc := hP.sub (ws' := [(fa, .inr (2, [.null, .int 0]))]) [2] rfl
    have hDc := hD.sub (ws' := [(fa, .inr (2, [.null, .int 0]))]) [2] (by decide) rfl
    have hKc := hK.sub (tys' := []) [] rfl
    have hFc := va_free (wc := [(fa, .inr (2, [.null, .int 0]))]) hD hS hA [2] rfl
    refine va_callv (va_runI (As := []) (rest := [.ref fa, .ref h0]) ⟨hx, hb, hml, hown, hts⟩ (c_X1_init l dC dI fa H.size) (cwI 0 hts gX3_init_X1_init rfl rfl rfl (hts (.initialized RX1) (by decide +kernel)) (hts (.methodLink RX3 21 yX1_init) (by decide +kernel)) (hts (.instanceMethod yX1_init) (by decide +kernel)) rfl (by decide +kernel) ⟨Nat.le_of_ble_eq_true rfl, Nat.le_of_ble_eq_true rfl⟩) ⟨fun a U g mk q => by obtain ⟨q0, q1, qP, qK, qD⟩ := q; exact ⟨q0, q1, qP, va_K.moved (u := U) (U := U.calling g mk a) (Vm.Alike.refl U.vm) qK, qD⟩, fun U hU hW => ⟨rfl, by rw [hU], by rw [hU]; exact hPc, va_K.moved hW.alike hKc, hDc.weaken (fun _ _ _ _ => trivial)⟩⟩ rfl rfl hl.1 rfl (lv_room (Nat.le_of_ble_eq_true rfl)) dX3_init_40 ⟨Nat.le_of_ble_eq_true rfl, Nat.le_of_ble_eq_true rfl⟩) hS (fun q _ h => hFc q h) hFc (fun u t H1 locs ht hvm hw hB hz1 hk1 hS => ?_)
    obtain ⟨oa, cB⟩ := u
    obtain ⟨hP1, hK1, hD1⟩ := hB
    rw [ht] at hP1
    have hK1 := va_K.moved hvm.symm hK1
    try dsimp only at hw hP1 hK1 hD1
    obtain ⟨hP, hD⟩ := va_join (wr := [(h0, .inr (4, [.int 16, .ref ks, .int 0, .null, .null, .null, .int 0, .int 0, .int 0])), (ks, .inl (cK, 8, .inr (.inr (.inr (.inr (fun _ => none))))))]) (w1 := [(fa, .inr (2, [.ref oa, .int 0])), (oa, .inl (cB, 16, .inl (fun _ => 0)))]) hP hD [2] [0, 1] rfl rfl (by decide) (by decide) hk1 hFc hP1 hD1
    have hK := hK.app hK1
    generalize H1 = H at hP hS ⊢
    have hP : va_P (dC, dI) vwCl [(h0, .inr (4, [.int 16, .ref ks, .int 0, .null, .null, .null, .int 0, .int 0, .int 0])), (ks, .inl (cK, 8, .inr (.inr (.inr (.inr (fun _ => none)))))), (fa, .inr (2, [.ref oa, .int 0])), (oa, .inl (cB, 16, .inl (fun _ => 0)))] H := hP
    have hD : va_D A [(h0, .inr (4, [.int 16, .ref ks, .int 0, .null, .null, .null, .int 0, .int 0, .int 0])), (ks, .inl (cK, 8, .inr (.inr (.inr (.inr (fun _ => none)))))), (fa, .inr (2, [.ref oa, .int 0])), (oa, .inl (cB, 16, .inl (fun _ => 0)))] := hD
    have hK : va_K (dC, dI) vwCl [(cK, .object RX2), (cB, .byte)] s := hK
    refine W.widen (k := 3) (n := 26) (by omega) (by omega) ?_
    refine va_put (D := (dC, dI)) (ci := 4) (v := .ref fa) (ty := .object "DoorKeys$Frame") (C := RX3) (T := TX3) (N := 9) hx hb hts inn_X3_init_X3 tyX3 tyX3_ok nmX3 hown hK hP hD hS 0 rfl rfl 3 (by decide) (hts (.fieldLink RX3 22 "DoorKeys" "coming" "LDoorKeys$Frame;") (by decide +kernel)) (fun _ h9 => h9) rfl (by decide +kernel) rfl rfl (Nat.le_of_ble_eq_true rfl) dX3_init_43 (fun H locs hP hD hS => ?_)
    have hP : va_P (dC, dI) vwCl [(h0, .inr (4, [.int 16, .ref ks, .int 0, .ref fa, .null, .null, .int 0, .int 0, .int 0])), (ks, .inl (cK, 8, .inr (.inr (.inr (.inr (fun _ => none)))))), (fa, .inr (2, [.ref oa, .int 0])), (oa, .inl (cB, 16, .inl (fun _ => 0)))] H := hP
    have hD : va_D A [(h0, .inr (4, [.int 16, .ref ks, .int 0, .ref fa, .null, .null, .int 0, .int 0, .int 0])), (ks, .inl (cK, 8, .inr (.inr (.inr (.inr (fun _ => none)))))), (fa, .inr (2, [.ref oa, .int 0])), (oa, .inl (cB, 16, .inl (fun _ => 0)))] := hD
    refine lv_aload_n hx hb dX3_init_46 rfl (lv_at hl 0 rfl) ?_
    refine va_new (ci := 2) (fs := [.null, .int 0]) (C := RX1) (T := TX1) (N := 2) hx hb hts inn_X3_init_X1 tyX1 tyX1_ok hown (hts (.classLink RX3 19 RX1) (by decide +kernel)) (hts (.instantiable RX1 2) (by decide +kernel)) (hts (.initialized RX1) (by decide +kernel)) hK hP hD hS hA rfl (fun j hj => by rcases (show j = 0 ∨ j = 1 by omega) with rfl | rfl <;> rfl) (Nat.le_of_ble_eq_true rfl) (Nat.le_of_ble_eq_true rfl) dX3_init_47 (fun fb H hP hD hS => ?_)
    have hP : va_P (dC, dI) vwCl [(h0, .inr (4, [.int 16, .ref ks, .int 0, .ref fa, .null, .null, .int 0, .int 0, .int 0])), (ks, .inl (cK, 8, .inr (.inr (.inr (.inr (fun _ => none)))))), (fa, .inr (2, [.ref oa, .int 0])), (oa, .inl (cB, 16, .inl (fun _ => 0))), (fb, .inr (2, [.null, .int 0]))] H := hP
    have hD : va_D A [(h0, .inr (4, [.int 16, .ref ks, .int 0, .ref fa, .null, .null, .int 0, .int 0, .int 0])), (ks, .inl (cK, 8, .inr (.inr (.inr (.inr (fun _ => none)))))), (fa, .inr (2, [.ref oa, .int 0])), (oa, .inl (cB, 16, .inl (fun _ => 0))), (fb, .inr (2, [.null, .int 0]))] := hD
    refine W.widen (k := 4) (n := 28) (by omega) (by omega) ?_
    refine lv_dup hx hb dX3_init_50 rfl ?_
    have hPc := hP.sub (ws' := [(fb, .inr (2, [.null, .int 0]))]) [4] rfl
    have hDc := hD.sub (ws' := [(fb, .inr (2, [.null, .int 0]))]) [4] (by decide) rfl
    have hKc := hK.sub (tys' := []) [] rfl
    have hFc := va_free (wc := [(fb, .inr (2, [.null, .int 0]))]) hD hS hA [4] rfl
    refine va_callv (va_runI (As := []) (rest := [.ref fb, .ref h0]) ⟨hx, hb, hml, hown, hts⟩ (c_X1_init l dC dI fb H.size) (cwI 0 hts gX3_init_X1_init rfl rfl rfl (hts (.initialized RX1) (by decide +kernel)) (hts (.methodLink RX3 21 yX1_init) (by decide +kernel)) (hts (.instanceMethod yX1_init) (by decide +kernel)) rfl (by decide +kernel) ⟨Nat.le_of_ble_eq_true rfl, Nat.le_of_ble_eq_true rfl⟩) ⟨fun a U g mk q => by obtain ⟨q0, q1, qP, qK, qD⟩ := q; exact ⟨q0, q1, qP, va_K.moved (u := U) (U := U.calling g mk a) (Vm.Alike.refl U.vm) qK, qD⟩, fun U hU hW => ⟨rfl, by rw [hU], by rw [hU]; exact hPc, va_K.moved hW.alike hKc, hDc.weaken (fun _ _ _ _ => trivial)⟩⟩ rfl rfl hl.1 rfl (lv_room (Nat.le_of_ble_eq_true rfl)) dX3_init_51 ⟨Nat.le_of_ble_eq_true rfl, Nat.le_of_ble_eq_true rfl⟩) hS (fun q _ h => hFc q h) hFc (fun u t H1 locs ht hvm hw hB hz1 hk1 hS => ?_)
    obtain ⟨ob, cB2⟩ := u
    obtain ⟨hP1, hK1, hD1⟩ := hB
    rw [ht] at hP1
    have hK1 := va_K.moved hvm.symm hK1
    try dsimp only at hw hP1 hK1 hD1
    obtain ⟨hP, hD⟩ := va_join (wr := [(h0, .inr (4, [.int 16, .ref ks, .int 0, .ref fa, .null, .null, .int 0, .int 0, .int 0])), (ks, .inl (cK, 8, .inr (.inr (.inr (.inr (fun _ => none)))))), (fa, .inr (2, [.ref oa, .int 0])), (oa, .inl (cB, 16, .inl (fun _ => 0)))]) (w1 := [(fb, .inr (2, [.ref ob, .int 0])), (ob, .inl (cB2, 16, .inl (fun _ => 0)))]) hP hD [4] [0, 1, 2, 3] rfl rfl (by decide) (by decide) hk1 hFc hP1 hD1
    have hK := hK.app hK1
    generalize H1 = H at hP hS ⊢
    have hP : va_P (dC, dI) vwCl [(h0, .inr (4, [.int 16, .ref ks, .int 0, .ref fa, .null, .null, .int 0, .int 0, .int 0])), (ks, .inl (cK, 8, .inr (.inr (.inr (.inr (fun _ => none)))))), (fa, .inr (2, [.ref oa, .int 0])), (oa, .inl (cB, 16, .inl (fun _ => 0))), (fb, .inr (2, [.ref ob, .int 0])), (ob, .inl (cB2, 16, .inl (fun _ => 0)))] H := hP
    have hD : va_D A [(h0, .inr (4, [.int 16, .ref ks, .int 0, .ref fa, .null, .null, .int 0, .int 0, .int 0])), (ks, .inl (cK, 8, .inr (.inr (.inr (.inr (fun _ => none)))))), (fa, .inr (2, [.ref oa, .int 0])), (oa, .inl (cB, 16, .inl (fun _ => 0))), (fb, .inr (2, [.ref ob, .int 0])), (ob, .inl (cB2, 16, .inl (fun _ => 0)))] := hD
    have hK : va_K (dC, dI) vwCl [(cK, .object RX2), (cB, .byte), (cB2, .byte)] s := hK
    refine W.widen (k := 5) (n := 44) (by omega) (by omega) ?_
    refine va_put (D := (dC, dI)) (ci := 4) (v := .ref fb) (ty := .object "DoorKeys$Frame") (C := RX3) (T := TX3) (N := 9) hx hb hts inn_X3_init_X3 tyX3 tyX3_ok nmX3 hown hK hP hD hS 0 rfl rfl 4 (by decide) (hts (.fieldLink RX3 26 "DoorKeys" "ended" "LDoorKeys$Frame;") (by decide +kernel)) (fun _ h9 => h9) rfl (by decide +kernel) rfl rfl (Nat.le_of_ble_eq_true rfl) dX3_init_54 (fun H locs hP hD hS => ?_)
    have hP : va_P (dC, dI) vwCl [(h0, .inr (4, [.int 16, .ref ks, .int 0, .ref fa, .ref fb, .null, .int 0, .int 0, .int 0])), (ks, .inl (cK, 8, .inr (.inr (.inr (.inr (fun _ => none)))))), (fa, .inr (2, [.ref oa, .int 0])), (oa, .inl (cB, 16, .inl (fun _ => 0))), (fb, .inr (2, [.ref ob, .int 0])), (ob, .inl (cB2, 16, .inl (fun _ => 0)))] H := hP
    have hD : va_D A [(h0, .inr (4, [.int 16, .ref ks, .int 0, .ref fa, .ref fb, .null, .int 0, .int 0, .int 0])), (ks, .inl (cK, 8, .inr (.inr (.inr (.inr (fun _ => none)))))), (fa, .inr (2, [.ref oa, .int 0])), (oa, .inl (cB, 16, .inl (fun _ => 0))), (fb, .inr (2, [.ref ob, .int 0])), (ob, .inl (cB2, 16, .inl (fun _ => 0)))] := hD
    refine lv_aload_n hx hb dX3_init_57 rfl (lv_at hl 0 rfl) ?_
    refine va_new (ci := 1) (fs := [.null, .long 0, .long 0]) (C := RX0) (T := TX0) (N := 3) hx hb hts inn_X3_init_X0 tyX0 tyX0_ok hown (hts (.classLink RX3 29 RX0) (by decide +kernel)) (hts (.instantiable RX0 3) (by decide +kernel)) (hts (.initialized RX0) (by decide +kernel)) hK hP hD hS hA rfl (fun j hj => by rcases (show j = 0 ∨ j = 1 ∨ j = 2 by omega) with rfl | rfl | rfl <;> rfl) (Nat.le_of_ble_eq_true rfl) (Nat.le_of_ble_eq_true rfl) dX3_init_58 (fun dr H hP hD hS => ?_)
    have hP : va_P (dC, dI) vwCl [(h0, .inr (4, [.int 16, .ref ks, .int 0, .ref fa, .ref fb, .null, .int 0, .int 0, .int 0])), (ks, .inl (cK, 8, .inr (.inr (.inr (.inr (fun _ => none)))))), (fa, .inr (2, [.ref oa, .int 0])), (oa, .inl (cB, 16, .inl (fun _ => 0))), (fb, .inr (2, [.ref ob, .int 0])), (ob, .inl (cB2, 16, .inl (fun _ => 0))), (dr, .inr (1, [.null, .long 0, .long 0]))] H := hP
    have hD : va_D A [(h0, .inr (4, [.int 16, .ref ks, .int 0, .ref fa, .ref fb, .null, .int 0, .int 0, .int 0])), (ks, .inl (cK, 8, .inr (.inr (.inr (.inr (fun _ => none)))))), (fa, .inr (2, [.ref oa, .int 0])), (oa, .inl (cB, 16, .inl (fun _ => 0))), (fb, .inr (2, [.ref ob, .int 0])), (ob, .inl (cB2, 16, .inl (fun _ => 0))), (dr, .inr (1, [.null, .long 0, .long 0]))] := hD
    refine W.widen (k := 6) (n := 47) (by omega) (by omega) ?_
    refine lv_dup hx hb dX3_init_61 rfl ?_
    have hPc := hP.sub (ws' := [(dr, .inr (1, [.null, .long 0, .long 0]))]) [6] rfl
    have hDc := hD.sub (ws' := [(dr, .inr (1, [.null, .long 0, .long 0]))]) [6] (by decide) rfl
    have hKc := hK.sub (tys' := []) [] rfl
    have hFc := va_free (wc := [(dr, .inr (1, [.null, .long 0, .long 0]))]) hD hS hA [6] rfl
    refine va_callv (va_runI (As := []) (rest := [.ref dr, .ref h0]) ⟨hx, hb, hml, hown, hts⟩ (c_X0_init l dC dI dr H.size) (cwI 0 hts gX3_init_X0_init rfl rfl rfl (hts (.initialized RX0) (by decide +kernel)) (hts (.methodLink RX3 31 yX0_init) (by decide +kernel)) (hts (.instanceMethod yX0_init) (by decide +kernel)) rfl (by decide +kernel) ⟨Nat.le_of_ble_eq_true rfl, Nat.le_of_ble_eq_true rfl⟩) ⟨fun a U g mk q => by obtain ⟨q0, q1, qP, qK, qD⟩ := q; exact ⟨q0, q1, qP, va_K.moved (u := U) (U := U.calling g mk a) (Vm.Alike.refl U.vm) qK, qD⟩, fun U hU hW => ⟨rfl, by rw [hU], by rw [hU]; exact hPc, va_K.moved hW.alike hKc, hDc.weaken (fun _ _ _ _ => trivial)⟩⟩ rfl rfl hl.1 rfl (lv_room (Nat.le_of_ble_eq_true rfl)) dX3_init_62 ⟨Nat.le_of_ble_eq_true rfl, Nat.le_of_ble_eq_true rfl⟩) hS (fun q _ h => hFc q h) hFc (fun u t H1 locs ht hvm hw hB hz1 hk1 hS => ?_)
    obtain ⟨ds, cI, st⟩ := u
    obtain ⟨hP1, hK1, hD1⟩ := hB
    rw [ht] at hP1
    have hK1 := va_K.moved hvm.symm hK1
    try dsimp only at hw hP1 hK1 hD1
    obtain ⟨hP, hD⟩ := va_join (wr := [(h0, .inr (4, [.int 16, .ref ks, .int 0, .ref fa, .ref fb, .null, .int 0, .int 0, .int 0])), (ks, .inl (cK, 8, .inr (.inr (.inr (.inr (fun _ => none)))))), (fa, .inr (2, [.ref oa, .int 0])), (oa, .inl (cB, 16, .inl (fun _ => 0))), (fb, .inr (2, [.ref ob, .int 0])), (ob, .inl (cB2, 16, .inl (fun _ => 0)))]) (w1 := [(dr, .inr (1, [.ref ds, .long 0, .long 0])), (ds, .inl (cI, 5, .inl st))]) hP hD [6] [0, 1, 2, 3, 4, 5] rfl rfl (by decide) (by decide) hk1 hFc hP1 hD1
    have hK := hK.app hK1
    generalize H1 = H at hP hS ⊢
    have hP : va_P (dC, dI) vwCl [(h0, .inr (4, [.int 16, .ref ks, .int 0, .ref fa, .ref fb, .null, .int 0, .int 0, .int 0])), (ks, .inl (cK, 8, .inr (.inr (.inr (.inr (fun _ => none)))))), (fa, .inr (2, [.ref oa, .int 0])), (oa, .inl (cB, 16, .inl (fun _ => 0))), (fb, .inr (2, [.ref ob, .int 0])), (ob, .inl (cB2, 16, .inl (fun _ => 0))), (dr, .inr (1, [.ref ds, .long 0, .long 0])), (ds, .inl (cI, 5, .inl st))] H := hP
    have hD : va_D A [(h0, .inr (4, [.int 16, .ref ks, .int 0, .ref fa, .ref fb, .null, .int 0, .int 0, .int 0])), (ks, .inl (cK, 8, .inr (.inr (.inr (.inr (fun _ => none)))))), (fa, .inr (2, [.ref oa, .int 0])), (oa, .inl (cB, 16, .inl (fun _ => 0))), (fb, .inr (2, [.ref ob, .int 0])), (ob, .inl (cB2, 16, .inl (fun _ => 0))), (dr, .inr (1, [.ref ds, .long 0, .long 0])), (ds, .inl (cI, 5, .inl st))] := hD
    have hK : va_K (dC, dI) vwCl [(cK, .object RX2), (cB, .byte), (cB2, .byte), (cI, .int)] s := hK
    refine W.widen (k := 7) (n := 52) (by omega) (by omega) ?_
    refine va_putF (D := (dC, dI)) (ci := 4) (v := .ref dr) (ty := .object "DoorKeys$Doors") (C := RX3) (T := TX3) (N := 9) hx hb hts inn_X3_init_X3 tyX3 tyX3_ok nmX3 hown hK hP hD hS 0 rfl rfl 5 (by decide) (hts (.fieldLink RX3 32 "DoorKeys" "doors" "LDoorKeys$Doors;") (by decide +kernel)) (fun _ h9 => h9) rfl hin rfl (by decide +kernel) rfl rfl (Nat.le_of_ble_eq_true rfl) dX3_init_65 (fun H locs hP hD hS => ?_)
    have hP : va_P (dC, dI) vwCl [(h0, .inr (4, [.int 16, .ref ks, .int 0, .ref fa, .ref fb, .ref dr, .int 0, .int 0, .int 0])), (ks, .inl (cK, 8, .inr (.inr (.inr (.inr (fun _ => none)))))), (fa, .inr (2, [.ref oa, .int 0])), (oa, .inl (cB, 16, .inl (fun _ => 0))), (fb, .inr (2, [.ref ob, .int 0])), (ob, .inl (cB2, 16, .inl (fun _ => 0))), (dr, .inr (1, [.ref ds, .long 0, .long 0])), (ds, .inl (cI, 5, .inl st))] H := hP
    have hD : va_D A [(h0, .inr (4, [.int 16, .ref ks, .int 0, .ref fa, .ref fb, .ref dr, .int 0, .int 0, .int 0])), (ks, .inl (cK, 8, .inr (.inr (.inr (.inr (fun _ => none)))))), (fa, .inr (2, [.ref oa, .int 0])), (oa, .inl (cB, 16, .inl (fun _ => 0))), (fb, .inr (2, [.ref ob, .int 0])), (ob, .inl (cB2, 16, .inl (fun _ => 0))), (dr, .inr (1, [.ref ds, .long 0, .long 0])), (ds, .inl (cI, 5, .inl st))] := hD
    have e2 : cB2 = cB := Option.some.inj ((hK.2 2 _ rfl).2.symm.trans (hK.2 1 _ rfl).2)
    subst e2
    have hw9 : dkW0 cK cB2 cI h0 ks fa oa fb ob dr ds (dk_span x) st = [(h0, .inr (4, [.int 16, .ref ks, .int 0, .ref fa, .ref fb, .ref dr, .int 0, .int 0, .int 0])), (ks, .inl (cK, 8, .inr (.inr (.inr (.inr (fun _ => none)))))), (fa, .inr (2, [.ref oa, .int 0])), (oa, .inl (cB2, 16, .inl (fun _ => 0))), (fb, .inr (2, [.ref ob, .int 0])), (ob, .inl (cB2, 16, .inl (fun _ => 0))), (dr, .inr (1, [.ref ds, .long 0, .long 0])), (ds, .inl (cI, 5, .inl st))] := by
      unfold dkW0 dkW
      rw [dk_k0, e1]
      rfl
    have hK9 : va_K (dC, dI) vwCl (dkT cK cB2 cI) s := hK.sub [0, 1, 3] rfl
    exact W.vret hx hb hr (fun t ht hW => ⟨⟨(cK, cB2, cI, ks, fa, oa, fb, ob, dr, ds, st), rfl, hw, by rw [ht, hw9]; exact hP, va_K.moved hW.alike hK9, by rw [hw9]; exact hD⟩, hS.F ht⟩) hS.2.2 dX3_init_68
  · refine lv_iload_n hx hb dX3_init_10 rfl (lv_at hl 1 rfl) ?_
    refine lv_sipush (v := 32767) hx hb dX3_init_11 (by decide) ?_
    refine lv_icmp_gt (tgt := 21) hx hb dX3_init_14 (by decide) (fun c_14 => ?_) (fun c_14 => ?_)
    · have e1 : dk_span x = 16 := by unfold dk_span; exact (if_neg c_7).trans (if_pos c_14)
      refine lv_bipush (v := 16) hx hb dX3_init_21 (by decide) ?_
      refine va_putF (D := (dC, dI)) (ci := 4) (v := .int 16) (ty := .int) (C := RX3) (T := TX3) (N := 9) hx hb hts inn_X3_init_X3 tyX3 tyX3_ok nmX3 hown hK hP hD hS 0 rfl rfl 0 (by decide) (hts (.fieldLink RX3 9 "DoorKeys" "span" "I") (by decide +kernel)) (fun _ h9 => h9) rfl hin rfl (by decide +kernel) rfl rfl (Nat.le_of_ble_eq_true rfl) dX3_init_23 (fun H locs hP hD hS => ?_)
      have hP : va_P (dC, dI) vwCl [(h0, .inr (4, [.int 16, .null, .int 0, .null, .null, .null, .int 0, .int 0, .int 0]))] H := hP
      have hD : va_D A [(h0, .inr (4, [.int 16, .null, .int 0, .null, .null, .null, .int 0, .int 0, .int 0]))] := hD
      refine lv_aload_n hx hb dX3_init_26 rfl (lv_at hl 0 rfl) ?_
      refine lv_bipush (v := 8) hx hb dX3_init_27 (by decide) ?_
      refine va_newq (C := RX2) (N' := 8) (n := 8) hx hb hown (hts (.classLink RX3 13 RX2) (by decide +kernel)) hO hK hP hD hS hA (by decide) (by decide) (by decide) (Nat.le_of_ble_eq_true rfl) (Nat.le_of_ble_eq_true rfl) dX3_init_29 (fun ks cK H hK hP hD hS => ?_)
      have hP : va_P (dC, dI) vwCl [(h0, .inr (4, [.int 16, .null, .int 0, .null, .null, .null, .int 0, .int 0, .int 0])), (ks, .inl (cK, 8, .inr (.inr (.inr (.inr (fun _ => none))))))] H := hP
      have hD : va_D A [(h0, .inr (4, [.int 16, .null, .int 0, .null, .null, .null, .int 0, .int 0, .int 0])), (ks, .inl (cK, 8, .inr (.inr (.inr (.inr (fun _ => none))))))] := hD
      have hK : va_K (dC, dI) vwCl [(cK, .object RX2)] s := hK
      refine W.widen (k := 1) (n := 8) (by omega) (by omega) ?_
      refine va_putF (D := (dC, dI)) (ci := 4) (v := .ref ks) (ty := .array (.object "DoorKeys$Key")) (C := RX3) (T := TX3) (N := 9) hx hb hts inn_X3_init_X3 tyX3 tyX3_ok nmX3 hown hK hP hD hS 0 rfl rfl 1 (by decide) (hts (.fieldLink RX3 15 "DoorKeys" "keys" "[LDoorKeys$Key;") (by decide +kernel)) (fun _ h9 => h9) rfl hin rfl (by decide +kernel) rfl rfl (Nat.le_of_ble_eq_true rfl) dX3_init_32 (fun H locs hP hD hS => ?_)
      have hP : va_P (dC, dI) vwCl [(h0, .inr (4, [.int 16, .ref ks, .int 0, .null, .null, .null, .int 0, .int 0, .int 0])), (ks, .inl (cK, 8, .inr (.inr (.inr (.inr (fun _ => none))))))] H := hP
      have hD : va_D A [(h0, .inr (4, [.int 16, .ref ks, .int 0, .null, .null, .null, .int 0, .int 0, .int 0])), (ks, .inl (cK, 8, .inr (.inr (.inr (.inr (fun _ => none))))))] := hD
      refine lv_aload_n hx hb dX3_init_35 rfl (lv_at hl 0 rfl) ?_
      refine va_new (ci := 2) (fs := [.null, .int 0]) (C := RX1) (T := TX1) (N := 2) hx hb hts inn_X3_init_X1 tyX1 tyX1_ok hown (hts (.classLink RX3 19 RX1) (by decide +kernel)) (hts (.instantiable RX1 2) (by decide +kernel)) (hts (.initialized RX1) (by decide +kernel)) hK hP hD hS hA rfl (fun j hj => by rcases (show j = 0 ∨ j = 1 by omega) with rfl | rfl <;> rfl) (Nat.le_of_ble_eq_true rfl) (Nat.le_of_ble_eq_true rfl) dX3_init_36 (fun fa H hP hD hS => ?_)
      have hP : va_P (dC, dI) vwCl [(h0, .inr (4, [.int 16, .ref ks, .int 0, .null, .null, .null, .int 0, .int 0, .int 0])), (ks, .inl (cK, 8, .inr (.inr (.inr (.inr (fun _ => none)))))), (fa, .inr (2, [.null, .int 0]))] H := hP
      have hD : va_D A [(h0, .inr (4, [.int 16, .ref ks, .int 0, .null, .null, .null, .int 0, .int 0, .int 0])), (ks, .inl (cK, 8, .inr (.inr (.inr (.inr (fun _ => none)))))), (fa, .inr (2, [.null, .int 0]))] := hD
      refine W.widen (k := 2) (n := 10) (by omega) (by omega) ?_
      refine lv_dup hx hb dX3_init_39 rfl ?_
      have hPc := hP.sub (ws' := [(fa, .inr (2, [.null, .int 0]))]) [2] rfl
      have hDc := hD.sub (ws' := [(fa, .inr (2, [.null, .int 0]))]) [2] (by decide) rfl
      have hKc := hK.sub (tys' := []) [] rfl
      have hFc := va_free (wc := [(fa, .inr (2, [.null, .int 0]))]) hD hS hA [2] rfl
      refine va_callv (va_runI (As := []) (rest := [.ref fa, .ref h0]) ⟨hx, hb, hml, hown, hts⟩ (c_X1_init l dC dI fa H.size) (cwI 0 hts gX3_init_X1_init rfl rfl rfl (hts (.initialized RX1) (by decide +kernel)) (hts (.methodLink RX3 21 yX1_init) (by decide +kernel)) (hts (.instanceMethod yX1_init) (by decide +kernel)) rfl (by decide +kernel) ⟨Nat.le_of_ble_eq_true rfl, Nat.le_of_ble_eq_true rfl⟩) ⟨fun a U g mk q => by obtain ⟨q0, q1, qP, qK, qD⟩ := q; exact ⟨q0, q1, qP, va_K.moved (u := U) (U := U.calling g mk a) (Vm.Alike.refl U.vm) qK, qD⟩, fun U hU hW => ⟨rfl, by rw [hU], by rw [hU]; exact hPc, va_K.moved hW.alike hKc, hDc.weaken (fun _ _ _ _ => trivial)⟩⟩ rfl rfl hl.1 rfl (lv_room (Nat.le_of_ble_eq_true rfl)) dX3_init_40 ⟨Nat.le_of_ble_eq_true rfl, Nat.le_of_ble_eq_true rfl⟩) hS (fun q _ h => hFc q h) hFc (fun u t H1 locs ht hvm hw hB hz1 hk1 hS => ?_)
      obtain ⟨oa, cB⟩ := u
      obtain ⟨hP1, hK1, hD1⟩ := hB
      rw [ht] at hP1
      have hK1 := va_K.moved hvm.symm hK1
      try dsimp only at hw hP1 hK1 hD1
      obtain ⟨hP, hD⟩ := va_join (wr := [(h0, .inr (4, [.int 16, .ref ks, .int 0, .null, .null, .null, .int 0, .int 0, .int 0])), (ks, .inl (cK, 8, .inr (.inr (.inr (.inr (fun _ => none))))))]) (w1 := [(fa, .inr (2, [.ref oa, .int 0])), (oa, .inl (cB, 16, .inl (fun _ => 0)))]) hP hD [2] [0, 1] rfl rfl (by decide) (by decide) hk1 hFc hP1 hD1
      have hK := hK.app hK1
      generalize H1 = H at hP hS ⊢
      have hP : va_P (dC, dI) vwCl [(h0, .inr (4, [.int 16, .ref ks, .int 0, .null, .null, .null, .int 0, .int 0, .int 0])), (ks, .inl (cK, 8, .inr (.inr (.inr (.inr (fun _ => none)))))), (fa, .inr (2, [.ref oa, .int 0])), (oa, .inl (cB, 16, .inl (fun _ => 0)))] H := hP
      have hD : va_D A [(h0, .inr (4, [.int 16, .ref ks, .int 0, .null, .null, .null, .int 0, .int 0, .int 0])), (ks, .inl (cK, 8, .inr (.inr (.inr (.inr (fun _ => none)))))), (fa, .inr (2, [.ref oa, .int 0])), (oa, .inl (cB, 16, .inl (fun _ => 0)))] := hD
      have hK : va_K (dC, dI) vwCl [(cK, .object RX2), (cB, .byte)] s := hK
      refine W.widen (k := 3) (n := 26) (by omega) (by omega) ?_
      refine va_put (D := (dC, dI)) (ci := 4) (v := .ref fa) (ty := .object "DoorKeys$Frame") (C := RX3) (T := TX3) (N := 9) hx hb hts inn_X3_init_X3 tyX3 tyX3_ok nmX3 hown hK hP hD hS 0 rfl rfl 3 (by decide) (hts (.fieldLink RX3 22 "DoorKeys" "coming" "LDoorKeys$Frame;") (by decide +kernel)) (fun _ h9 => h9) rfl (by decide +kernel) rfl rfl (Nat.le_of_ble_eq_true rfl) dX3_init_43 (fun H locs hP hD hS => ?_)
      have hP : va_P (dC, dI) vwCl [(h0, .inr (4, [.int 16, .ref ks, .int 0, .ref fa, .null, .null, .int 0, .int 0, .int 0])), (ks, .inl (cK, 8, .inr (.inr (.inr (.inr (fun _ => none)))))), (fa, .inr (2, [.ref oa, .int 0])), (oa, .inl (cB, 16, .inl (fun _ => 0)))] H := hP
      have hD : va_D A [(h0, .inr (4, [.int 16, .ref ks, .int 0, .ref fa, .null, .null, .int 0, .int 0, .int 0])), (ks, .inl (cK, 8, .inr (.inr (.inr (.inr (fun _ => none)))))), (fa, .inr (2, [.ref oa, .int 0])), (oa, .inl (cB, 16, .inl (fun _ => 0)))] := hD
      refine lv_aload_n hx hb dX3_init_46 rfl (lv_at hl 0 rfl) ?_
      refine va_new (ci := 2) (fs := [.null, .int 0]) (C := RX1) (T := TX1) (N := 2) hx hb hts inn_X3_init_X1 tyX1 tyX1_ok hown (hts (.classLink RX3 19 RX1) (by decide +kernel)) (hts (.instantiable RX1 2) (by decide +kernel)) (hts (.initialized RX1) (by decide +kernel)) hK hP hD hS hA rfl (fun j hj => by rcases (show j = 0 ∨ j = 1 by omega) with rfl | rfl <;> rfl) (Nat.le_of_ble_eq_true rfl) (Nat.le_of_ble_eq_true rfl) dX3_init_47 (fun fb H hP hD hS => ?_)
      have hP : va_P (dC, dI) vwCl [(h0, .inr (4, [.int 16, .ref ks, .int 0, .ref fa, .null, .null, .int 0, .int 0, .int 0])), (ks, .inl (cK, 8, .inr (.inr (.inr (.inr (fun _ => none)))))), (fa, .inr (2, [.ref oa, .int 0])), (oa, .inl (cB, 16, .inl (fun _ => 0))), (fb, .inr (2, [.null, .int 0]))] H := hP
      have hD : va_D A [(h0, .inr (4, [.int 16, .ref ks, .int 0, .ref fa, .null, .null, .int 0, .int 0, .int 0])), (ks, .inl (cK, 8, .inr (.inr (.inr (.inr (fun _ => none)))))), (fa, .inr (2, [.ref oa, .int 0])), (oa, .inl (cB, 16, .inl (fun _ => 0))), (fb, .inr (2, [.null, .int 0]))] := hD
      refine W.widen (k := 4) (n := 28) (by omega) (by omega) ?_
      refine lv_dup hx hb dX3_init_50 rfl ?_
      have hPc := hP.sub (ws' := [(fb, .inr (2, [.null, .int 0]))]) [4] rfl
      have hDc := hD.sub (ws' := [(fb, .inr (2, [.null, .int 0]))]) [4] (by decide) rfl
      have hKc := hK.sub (tys' := []) [] rfl
      have hFc := va_free (wc := [(fb, .inr (2, [.null, .int 0]))]) hD hS hA [4] rfl
      refine va_callv (va_runI (As := []) (rest := [.ref fb, .ref h0]) ⟨hx, hb, hml, hown, hts⟩ (c_X1_init l dC dI fb H.size) (cwI 0 hts gX3_init_X1_init rfl rfl rfl (hts (.initialized RX1) (by decide +kernel)) (hts (.methodLink RX3 21 yX1_init) (by decide +kernel)) (hts (.instanceMethod yX1_init) (by decide +kernel)) rfl (by decide +kernel) ⟨Nat.le_of_ble_eq_true rfl, Nat.le_of_ble_eq_true rfl⟩) ⟨fun a U g mk q => by obtain ⟨q0, q1, qP, qK, qD⟩ := q; exact ⟨q0, q1, qP, va_K.moved (u := U) (U := U.calling g mk a) (Vm.Alike.refl U.vm) qK, qD⟩, fun U hU hW => ⟨rfl, by rw [hU], by rw [hU]; exact hPc, va_K.moved hW.alike hKc, hDc.weaken (fun _ _ _ _ => trivial)⟩⟩ rfl rfl hl.1 rfl (lv_room (Nat.le_of_ble_eq_true rfl)) dX3_init_51 ⟨Nat.le_of_ble_eq_true rfl, Nat.le_of_ble_eq_true rfl⟩) hS (fun q _ h => hFc q h) hFc (fun u t H1 locs ht hvm hw hB hz1 hk1 hS => ?_)
      obtain ⟨ob, cB2⟩ := u
      obtain ⟨hP1, hK1, hD1⟩ := hB
      rw [ht] at hP1
      have hK1 := va_K.moved hvm.symm hK1
      try dsimp only at hw hP1 hK1 hD1
      obtain ⟨hP, hD⟩ := va_join (wr := [(h0, .inr (4, [.int 16, .ref ks, .int 0, .ref fa, .null, .null, .int 0, .int 0, .int 0])), (ks, .inl (cK, 8, .inr (.inr (.inr (.inr (fun _ => none)))))), (fa, .inr (2, [.ref oa, .int 0])), (oa, .inl (cB, 16, .inl (fun _ => 0)))]) (w1 := [(fb, .inr (2, [.ref ob, .int 0])), (ob, .inl (cB2, 16, .inl (fun _ => 0)))]) hP hD [4] [0, 1, 2, 3] rfl rfl (by decide) (by decide) hk1 hFc hP1 hD1
      have hK := hK.app hK1
      generalize H1 = H at hP hS ⊢
      have hP : va_P (dC, dI) vwCl [(h0, .inr (4, [.int 16, .ref ks, .int 0, .ref fa, .null, .null, .int 0, .int 0, .int 0])), (ks, .inl (cK, 8, .inr (.inr (.inr (.inr (fun _ => none)))))), (fa, .inr (2, [.ref oa, .int 0])), (oa, .inl (cB, 16, .inl (fun _ => 0))), (fb, .inr (2, [.ref ob, .int 0])), (ob, .inl (cB2, 16, .inl (fun _ => 0)))] H := hP
      have hD : va_D A [(h0, .inr (4, [.int 16, .ref ks, .int 0, .ref fa, .null, .null, .int 0, .int 0, .int 0])), (ks, .inl (cK, 8, .inr (.inr (.inr (.inr (fun _ => none)))))), (fa, .inr (2, [.ref oa, .int 0])), (oa, .inl (cB, 16, .inl (fun _ => 0))), (fb, .inr (2, [.ref ob, .int 0])), (ob, .inl (cB2, 16, .inl (fun _ => 0)))] := hD
      have hK : va_K (dC, dI) vwCl [(cK, .object RX2), (cB, .byte), (cB2, .byte)] s := hK
      refine W.widen (k := 5) (n := 44) (by omega) (by omega) ?_
      refine va_put (D := (dC, dI)) (ci := 4) (v := .ref fb) (ty := .object "DoorKeys$Frame") (C := RX3) (T := TX3) (N := 9) hx hb hts inn_X3_init_X3 tyX3 tyX3_ok nmX3 hown hK hP hD hS 0 rfl rfl 4 (by decide) (hts (.fieldLink RX3 26 "DoorKeys" "ended" "LDoorKeys$Frame;") (by decide +kernel)) (fun _ h9 => h9) rfl (by decide +kernel) rfl rfl (Nat.le_of_ble_eq_true rfl) dX3_init_54 (fun H locs hP hD hS => ?_)
      have hP : va_P (dC, dI) vwCl [(h0, .inr (4, [.int 16, .ref ks, .int 0, .ref fa, .ref fb, .null, .int 0, .int 0, .int 0])), (ks, .inl (cK, 8, .inr (.inr (.inr (.inr (fun _ => none)))))), (fa, .inr (2, [.ref oa, .int 0])), (oa, .inl (cB, 16, .inl (fun _ => 0))), (fb, .inr (2, [.ref ob, .int 0])), (ob, .inl (cB2, 16, .inl (fun _ => 0)))] H := hP
      have hD : va_D A [(h0, .inr (4, [.int 16, .ref ks, .int 0, .ref fa, .ref fb, .null, .int 0, .int 0, .int 0])), (ks, .inl (cK, 8, .inr (.inr (.inr (.inr (fun _ => none)))))), (fa, .inr (2, [.ref oa, .int 0])), (oa, .inl (cB, 16, .inl (fun _ => 0))), (fb, .inr (2, [.ref ob, .int 0])), (ob, .inl (cB2, 16, .inl (fun _ => 0)))] := hD
      refine lv_aload_n hx hb dX3_init_57 rfl (lv_at hl 0 rfl) ?_
      refine va_new (ci := 1) (fs := [.null, .long 0, .long 0]) (C := RX0) (T := TX0) (N := 3) hx hb hts inn_X3_init_X0 tyX0 tyX0_ok hown (hts (.classLink RX3 29 RX0) (by decide +kernel)) (hts (.instantiable RX0 3) (by decide +kernel)) (hts (.initialized RX0) (by decide +kernel)) hK hP hD hS hA rfl (fun j hj => by rcases (show j = 0 ∨ j = 1 ∨ j = 2 by omega) with rfl | rfl | rfl <;> rfl) (Nat.le_of_ble_eq_true rfl) (Nat.le_of_ble_eq_true rfl) dX3_init_58 (fun dr H hP hD hS => ?_)
      have hP : va_P (dC, dI) vwCl [(h0, .inr (4, [.int 16, .ref ks, .int 0, .ref fa, .ref fb, .null, .int 0, .int 0, .int 0])), (ks, .inl (cK, 8, .inr (.inr (.inr (.inr (fun _ => none)))))), (fa, .inr (2, [.ref oa, .int 0])), (oa, .inl (cB, 16, .inl (fun _ => 0))), (fb, .inr (2, [.ref ob, .int 0])), (ob, .inl (cB2, 16, .inl (fun _ => 0))), (dr, .inr (1, [.null, .long 0, .long 0]))] H := hP
      have hD : va_D A [(h0, .inr (4, [.int 16, .ref ks, .int 0, .ref fa, .ref fb, .null, .int 0, .int 0, .int 0])), (ks, .inl (cK, 8, .inr (.inr (.inr (.inr (fun _ => none)))))), (fa, .inr (2, [.ref oa, .int 0])), (oa, .inl (cB, 16, .inl (fun _ => 0))), (fb, .inr (2, [.ref ob, .int 0])), (ob, .inl (cB2, 16, .inl (fun _ => 0))), (dr, .inr (1, [.null, .long 0, .long 0]))] := hD
      refine W.widen (k := 6) (n := 47) (by omega) (by omega) ?_
      refine lv_dup hx hb dX3_init_61 rfl ?_
      have hPc := hP.sub (ws' := [(dr, .inr (1, [.null, .long 0, .long 0]))]) [6] rfl
      have hDc := hD.sub (ws' := [(dr, .inr (1, [.null, .long 0, .long 0]))]) [6] (by decide) rfl
      have hKc := hK.sub (tys' := []) [] rfl
      have hFc := va_free (wc := [(dr, .inr (1, [.null, .long 0, .long 0]))]) hD hS hA [6] rfl
      refine va_callv (va_runI (As := []) (rest := [.ref dr, .ref h0]) ⟨hx, hb, hml, hown, hts⟩ (c_X0_init l dC dI dr H.size) (cwI 0 hts gX3_init_X0_init rfl rfl rfl (hts (.initialized RX0) (by decide +kernel)) (hts (.methodLink RX3 31 yX0_init) (by decide +kernel)) (hts (.instanceMethod yX0_init) (by decide +kernel)) rfl (by decide +kernel) ⟨Nat.le_of_ble_eq_true rfl, Nat.le_of_ble_eq_true rfl⟩) ⟨fun a U g mk q => by obtain ⟨q0, q1, qP, qK, qD⟩ := q; exact ⟨q0, q1, qP, va_K.moved (u := U) (U := U.calling g mk a) (Vm.Alike.refl U.vm) qK, qD⟩, fun U hU hW => ⟨rfl, by rw [hU], by rw [hU]; exact hPc, va_K.moved hW.alike hKc, hDc.weaken (fun _ _ _ _ => trivial)⟩⟩ rfl rfl hl.1 rfl (lv_room (Nat.le_of_ble_eq_true rfl)) dX3_init_62 ⟨Nat.le_of_ble_eq_true rfl, Nat.le_of_ble_eq_true rfl⟩) hS (fun q _ h => hFc q h) hFc (fun u t H1 locs ht hvm hw hB hz1 hk1 hS => ?_)
      obtain ⟨ds, cI, st⟩ := u
      obtain ⟨hP1, hK1, hD1⟩ := hB
      rw [ht] at hP1
      have hK1 := va_K.moved hvm.symm hK1
      try dsimp only at hw hP1 hK1 hD1
      obtain ⟨hP, hD⟩ := va_join (wr := [(h0, .inr (4, [.int 16, .ref ks, .int 0, .ref fa, .ref fb, .null, .int 0, .int 0, .int 0])), (ks, .inl (cK, 8, .inr (.inr (.inr (.inr (fun _ => none)))))), (fa, .inr (2, [.ref oa, .int 0])), (oa, .inl (cB, 16, .inl (fun _ => 0))), (fb, .inr (2, [.ref ob, .int 0])), (ob, .inl (cB2, 16, .inl (fun _ => 0)))]) (w1 := [(dr, .inr (1, [.ref ds, .long 0, .long 0])), (ds, .inl (cI, 5, .inl st))]) hP hD [6] [0, 1, 2, 3, 4, 5] rfl rfl (by decide) (by decide) hk1 hFc hP1 hD1
      have hK := hK.app hK1
      generalize H1 = H at hP hS ⊢
      have hP : va_P (dC, dI) vwCl [(h0, .inr (4, [.int 16, .ref ks, .int 0, .ref fa, .ref fb, .null, .int 0, .int 0, .int 0])), (ks, .inl (cK, 8, .inr (.inr (.inr (.inr (fun _ => none)))))), (fa, .inr (2, [.ref oa, .int 0])), (oa, .inl (cB, 16, .inl (fun _ => 0))), (fb, .inr (2, [.ref ob, .int 0])), (ob, .inl (cB2, 16, .inl (fun _ => 0))), (dr, .inr (1, [.ref ds, .long 0, .long 0])), (ds, .inl (cI, 5, .inl st))] H := hP
      have hD : va_D A [(h0, .inr (4, [.int 16, .ref ks, .int 0, .ref fa, .ref fb, .null, .int 0, .int 0, .int 0])), (ks, .inl (cK, 8, .inr (.inr (.inr (.inr (fun _ => none)))))), (fa, .inr (2, [.ref oa, .int 0])), (oa, .inl (cB, 16, .inl (fun _ => 0))), (fb, .inr (2, [.ref ob, .int 0])), (ob, .inl (cB2, 16, .inl (fun _ => 0))), (dr, .inr (1, [.ref ds, .long 0, .long 0])), (ds, .inl (cI, 5, .inl st))] := hD
      have hK : va_K (dC, dI) vwCl [(cK, .object RX2), (cB, .byte), (cB2, .byte), (cI, .int)] s := hK
      refine W.widen (k := 7) (n := 52) (by omega) (by omega) ?_
      refine va_putF (D := (dC, dI)) (ci := 4) (v := .ref dr) (ty := .object "DoorKeys$Doors") (C := RX3) (T := TX3) (N := 9) hx hb hts inn_X3_init_X3 tyX3 tyX3_ok nmX3 hown hK hP hD hS 0 rfl rfl 5 (by decide) (hts (.fieldLink RX3 32 "DoorKeys" "doors" "LDoorKeys$Doors;") (by decide +kernel)) (fun _ h9 => h9) rfl hin rfl (by decide +kernel) rfl rfl (Nat.le_of_ble_eq_true rfl) dX3_init_65 (fun H locs hP hD hS => ?_)
      have hP : va_P (dC, dI) vwCl [(h0, .inr (4, [.int 16, .ref ks, .int 0, .ref fa, .ref fb, .ref dr, .int 0, .int 0, .int 0])), (ks, .inl (cK, 8, .inr (.inr (.inr (.inr (fun _ => none)))))), (fa, .inr (2, [.ref oa, .int 0])), (oa, .inl (cB, 16, .inl (fun _ => 0))), (fb, .inr (2, [.ref ob, .int 0])), (ob, .inl (cB2, 16, .inl (fun _ => 0))), (dr, .inr (1, [.ref ds, .long 0, .long 0])), (ds, .inl (cI, 5, .inl st))] H := hP
      have hD : va_D A [(h0, .inr (4, [.int 16, .ref ks, .int 0, .ref fa, .ref fb, .ref dr, .int 0, .int 0, .int 0])), (ks, .inl (cK, 8, .inr (.inr (.inr (.inr (fun _ => none)))))), (fa, .inr (2, [.ref oa, .int 0])), (oa, .inl (cB, 16, .inl (fun _ => 0))), (fb, .inr (2, [.ref ob, .int 0])), (ob, .inl (cB2, 16, .inl (fun _ => 0))), (dr, .inr (1, [.ref ds, .long 0, .long 0])), (ds, .inl (cI, 5, .inl st))] := hD
      have e2 : cB2 = cB := Option.some.inj ((hK.2 2 _ rfl).2.symm.trans (hK.2 1 _ rfl).2)
      subst e2
      have hw9 : dkW0 cK cB2 cI h0 ks fa oa fb ob dr ds (dk_span x) st = [(h0, .inr (4, [.int 16, .ref ks, .int 0, .ref fa, .ref fb, .ref dr, .int 0, .int 0, .int 0])), (ks, .inl (cK, 8, .inr (.inr (.inr (.inr (fun _ => none)))))), (fa, .inr (2, [.ref oa, .int 0])), (oa, .inl (cB2, 16, .inl (fun _ => 0))), (fb, .inr (2, [.ref ob, .int 0])), (ob, .inl (cB2, 16, .inl (fun _ => 0))), (dr, .inr (1, [.ref ds, .long 0, .long 0])), (ds, .inl (cI, 5, .inl st))] := by
        unfold dkW0 dkW
        rw [dk_k0, e1]
        rfl
      have hK9 : va_K (dC, dI) vwCl (dkT cK cB2 cI) s := hK.sub [0, 1, 3] rfl
      exact W.vret hx hb hr (fun t ht hW => ⟨⟨(cK, cB2, cI, ks, fa, oa, fb, ob, dr, ds, st), rfl, hw, by rw [ht, hw9]; exact hP, va_K.moved hW.alike hK9, by rw [hw9]; exact hD⟩, hS.F ht⟩) hS.2.2 dX3_init_68
    · have e1 : dk_span x = x := by unfold dk_span; exact (if_neg c_7).trans (if_neg c_14)
      refine lv_iload_n hx hb dX3_init_17 rfl (lv_at hl 1 rfl) ?_
      refine lv_goto (tgt := 23) hx hb dX3_init_18 (by decide) ?_
      refine va_putF (D := (dC, dI)) (ci := 4) (v := .int x) (ty := .int) (C := RX3) (T := TX3) (N := 9) hx hb hts inn_X3_init_X3 tyX3 tyX3_ok nmX3 hown hK hP hD hS 0 rfl rfl 0 (by decide) (hts (.fieldLink RX3 9 "DoorKeys" "span" "I") (by decide +kernel)) (fun _ h9 => h9) rfl hin rfl (by decide +kernel) rfl rfl (Nat.le_of_ble_eq_true rfl) dX3_init_23 (fun H locs hP hD hS => ?_)
      have hP : va_P (dC, dI) vwCl [(h0, .inr (4, [.int x, .null, .int 0, .null, .null, .null, .int 0, .int 0, .int 0]))] H := hP
      have hD : va_D A [(h0, .inr (4, [.int x, .null, .int 0, .null, .null, .null, .int 0, .int 0, .int 0]))] := hD
      refine lv_aload_n hx hb dX3_init_26 rfl (lv_at hl 0 rfl) ?_
      refine lv_bipush (v := 8) hx hb dX3_init_27 (by decide) ?_
      refine va_newq (C := RX2) (N' := 8) (n := 8) hx hb hown (hts (.classLink RX3 13 RX2) (by decide +kernel)) hO hK hP hD hS hA (by decide) (by decide) (by decide) (Nat.le_of_ble_eq_true rfl) (Nat.le_of_ble_eq_true rfl) dX3_init_29 (fun ks cK H hK hP hD hS => ?_)
      have hP : va_P (dC, dI) vwCl [(h0, .inr (4, [.int x, .null, .int 0, .null, .null, .null, .int 0, .int 0, .int 0])), (ks, .inl (cK, 8, .inr (.inr (.inr (.inr (fun _ => none))))))] H := hP
      have hD : va_D A [(h0, .inr (4, [.int x, .null, .int 0, .null, .null, .null, .int 0, .int 0, .int 0])), (ks, .inl (cK, 8, .inr (.inr (.inr (.inr (fun _ => none))))))] := hD
      have hK : va_K (dC, dI) vwCl [(cK, .object RX2)] s := hK
      refine W.widen (k := 1) (n := 8) (by omega) (by omega) ?_
      refine va_putF (D := (dC, dI)) (ci := 4) (v := .ref ks) (ty := .array (.object "DoorKeys$Key")) (C := RX3) (T := TX3) (N := 9) hx hb hts inn_X3_init_X3 tyX3 tyX3_ok nmX3 hown hK hP hD hS 0 rfl rfl 1 (by decide) (hts (.fieldLink RX3 15 "DoorKeys" "keys" "[LDoorKeys$Key;") (by decide +kernel)) (fun _ h9 => h9) rfl hin rfl (by decide +kernel) rfl rfl (Nat.le_of_ble_eq_true rfl) dX3_init_32 (fun H locs hP hD hS => ?_)
      have hP : va_P (dC, dI) vwCl [(h0, .inr (4, [.int x, .ref ks, .int 0, .null, .null, .null, .int 0, .int 0, .int 0])), (ks, .inl (cK, 8, .inr (.inr (.inr (.inr (fun _ => none))))))] H := hP
      have hD : va_D A [(h0, .inr (4, [.int x, .ref ks, .int 0, .null, .null, .null, .int 0, .int 0, .int 0])), (ks, .inl (cK, 8, .inr (.inr (.inr (.inr (fun _ => none))))))] := hD
      refine lv_aload_n hx hb dX3_init_35 rfl (lv_at hl 0 rfl) ?_
      refine va_new (ci := 2) (fs := [.null, .int 0]) (C := RX1) (T := TX1) (N := 2) hx hb hts inn_X3_init_X1 tyX1 tyX1_ok hown (hts (.classLink RX3 19 RX1) (by decide +kernel)) (hts (.instantiable RX1 2) (by decide +kernel)) (hts (.initialized RX1) (by decide +kernel)) hK hP hD hS hA rfl (fun j hj => by rcases (show j = 0 ∨ j = 1 by omega) with rfl | rfl <;> rfl) (Nat.le_of_ble_eq_true rfl) (Nat.le_of_ble_eq_true rfl) dX3_init_36 (fun fa H hP hD hS => ?_)
      have hP : va_P (dC, dI) vwCl [(h0, .inr (4, [.int x, .ref ks, .int 0, .null, .null, .null, .int 0, .int 0, .int 0])), (ks, .inl (cK, 8, .inr (.inr (.inr (.inr (fun _ => none)))))), (fa, .inr (2, [.null, .int 0]))] H := hP
      have hD : va_D A [(h0, .inr (4, [.int x, .ref ks, .int 0, .null, .null, .null, .int 0, .int 0, .int 0])), (ks, .inl (cK, 8, .inr (.inr (.inr (.inr (fun _ => none)))))), (fa, .inr (2, [.null, .int 0]))] := hD
      refine W.widen (k := 2) (n := 10) (by omega) (by omega) ?_
      refine lv_dup hx hb dX3_init_39 rfl ?_
      have hPc := hP.sub (ws' := [(fa, .inr (2, [.null, .int 0]))]) [2] rfl
      have hDc := hD.sub (ws' := [(fa, .inr (2, [.null, .int 0]))]) [2] (by decide) rfl
      have hKc := hK.sub (tys' := []) [] rfl
      have hFc := va_free (wc := [(fa, .inr (2, [.null, .int 0]))]) hD hS hA [2] rfl
      refine va_callv (va_runI (As := []) (rest := [.ref fa, .ref h0]) ⟨hx, hb, hml, hown, hts⟩ (c_X1_init l dC dI fa H.size) (cwI 0 hts gX3_init_X1_init rfl rfl rfl (hts (.initialized RX1) (by decide +kernel)) (hts (.methodLink RX3 21 yX1_init) (by decide +kernel)) (hts (.instanceMethod yX1_init) (by decide +kernel)) rfl (by decide +kernel) ⟨Nat.le_of_ble_eq_true rfl, Nat.le_of_ble_eq_true rfl⟩) ⟨fun a U g mk q => by obtain ⟨q0, q1, qP, qK, qD⟩ := q; exact ⟨q0, q1, qP, va_K.moved (u := U) (U := U.calling g mk a) (Vm.Alike.refl U.vm) qK, qD⟩, fun U hU hW => ⟨rfl, by rw [hU], by rw [hU]; exact hPc, va_K.moved hW.alike hKc, hDc.weaken (fun _ _ _ _ => trivial)⟩⟩ rfl rfl hl.1 rfl (lv_room (Nat.le_of_ble_eq_true rfl)) dX3_init_40 ⟨Nat.le_of_ble_eq_true rfl, Nat.le_of_ble_eq_true rfl⟩) hS (fun q _ h => hFc q h) hFc (fun u t H1 locs ht hvm hw hB hz1 hk1 hS => ?_)
      obtain ⟨oa, cB⟩ := u
      obtain ⟨hP1, hK1, hD1⟩ := hB
      rw [ht] at hP1
      have hK1 := va_K.moved hvm.symm hK1
      try dsimp only at hw hP1 hK1 hD1
      obtain ⟨hP, hD⟩ := va_join (wr := [(h0, .inr (4, [.int x, .ref ks, .int 0, .null, .null, .null, .int 0, .int 0, .int 0])), (ks, .inl (cK, 8, .inr (.inr (.inr (.inr (fun _ => none))))))]) (w1 := [(fa, .inr (2, [.ref oa, .int 0])), (oa, .inl (cB, 16, .inl (fun _ => 0)))]) hP hD [2] [0, 1] rfl rfl (by decide) (by decide) hk1 hFc hP1 hD1
      have hK := hK.app hK1
      generalize H1 = H at hP hS ⊢
      have hP : va_P (dC, dI) vwCl [(h0, .inr (4, [.int x, .ref ks, .int 0, .null, .null, .null, .int 0, .int 0, .int 0])), (ks, .inl (cK, 8, .inr (.inr (.inr (.inr (fun _ => none)))))), (fa, .inr (2, [.ref oa, .int 0])), (oa, .inl (cB, 16, .inl (fun _ => 0)))] H := hP
      have hD : va_D A [(h0, .inr (4, [.int x, .ref ks, .int 0, .null, .null, .null, .int 0, .int 0, .int 0])), (ks, .inl (cK, 8, .inr (.inr (.inr (.inr (fun _ => none)))))), (fa, .inr (2, [.ref oa, .int 0])), (oa, .inl (cB, 16, .inl (fun _ => 0)))] := hD
      have hK : va_K (dC, dI) vwCl [(cK, .object RX2), (cB, .byte)] s := hK
      refine W.widen (k := 3) (n := 26) (by omega) (by omega) ?_
      refine va_put (D := (dC, dI)) (ci := 4) (v := .ref fa) (ty := .object "DoorKeys$Frame") (C := RX3) (T := TX3) (N := 9) hx hb hts inn_X3_init_X3 tyX3 tyX3_ok nmX3 hown hK hP hD hS 0 rfl rfl 3 (by decide) (hts (.fieldLink RX3 22 "DoorKeys" "coming" "LDoorKeys$Frame;") (by decide +kernel)) (fun _ h9 => h9) rfl (by decide +kernel) rfl rfl (Nat.le_of_ble_eq_true rfl) dX3_init_43 (fun H locs hP hD hS => ?_)
      have hP : va_P (dC, dI) vwCl [(h0, .inr (4, [.int x, .ref ks, .int 0, .ref fa, .null, .null, .int 0, .int 0, .int 0])), (ks, .inl (cK, 8, .inr (.inr (.inr (.inr (fun _ => none)))))), (fa, .inr (2, [.ref oa, .int 0])), (oa, .inl (cB, 16, .inl (fun _ => 0)))] H := hP
      have hD : va_D A [(h0, .inr (4, [.int x, .ref ks, .int 0, .ref fa, .null, .null, .int 0, .int 0, .int 0])), (ks, .inl (cK, 8, .inr (.inr (.inr (.inr (fun _ => none)))))), (fa, .inr (2, [.ref oa, .int 0])), (oa, .inl (cB, 16, .inl (fun _ => 0)))] := hD
      refine lv_aload_n hx hb dX3_init_46 rfl (lv_at hl 0 rfl) ?_
      refine va_new (ci := 2) (fs := [.null, .int 0]) (C := RX1) (T := TX1) (N := 2) hx hb hts inn_X3_init_X1 tyX1 tyX1_ok hown (hts (.classLink RX3 19 RX1) (by decide +kernel)) (hts (.instantiable RX1 2) (by decide +kernel)) (hts (.initialized RX1) (by decide +kernel)) hK hP hD hS hA rfl (fun j hj => by rcases (show j = 0 ∨ j = 1 by omega) with rfl | rfl <;> rfl) (Nat.le_of_ble_eq_true rfl) (Nat.le_of_ble_eq_true rfl) dX3_init_47 (fun fb H hP hD hS => ?_)
      have hP : va_P (dC, dI) vwCl [(h0, .inr (4, [.int x, .ref ks, .int 0, .ref fa, .null, .null, .int 0, .int 0, .int 0])), (ks, .inl (cK, 8, .inr (.inr (.inr (.inr (fun _ => none)))))), (fa, .inr (2, [.ref oa, .int 0])), (oa, .inl (cB, 16, .inl (fun _ => 0))), (fb, .inr (2, [.null, .int 0]))] H := hP
      have hD : va_D A [(h0, .inr (4, [.int x, .ref ks, .int 0, .ref fa, .null, .null, .int 0, .int 0, .int 0])), (ks, .inl (cK, 8, .inr (.inr (.inr (.inr (fun _ => none)))))), (fa, .inr (2, [.ref oa, .int 0])), (oa, .inl (cB, 16, .inl (fun _ => 0))), (fb, .inr (2, [.null, .int 0]))] := hD
      refine W.widen (k := 4) (n := 28) (by omega) (by omega) ?_
      refine lv_dup hx hb dX3_init_50 rfl ?_
      have hPc := hP.sub (ws' := [(fb, .inr (2, [.null, .int 0]))]) [4] rfl
      have hDc := hD.sub (ws' := [(fb, .inr (2, [.null, .int 0]))]) [4] (by decide) rfl
      have hKc := hK.sub (tys' := []) [] rfl
      have hFc := va_free (wc := [(fb, .inr (2, [.null, .int 0]))]) hD hS hA [4] rfl
      refine va_callv (va_runI (As := []) (rest := [.ref fb, .ref h0]) ⟨hx, hb, hml, hown, hts⟩ (c_X1_init l dC dI fb H.size) (cwI 0 hts gX3_init_X1_init rfl rfl rfl (hts (.initialized RX1) (by decide +kernel)) (hts (.methodLink RX3 21 yX1_init) (by decide +kernel)) (hts (.instanceMethod yX1_init) (by decide +kernel)) rfl (by decide +kernel) ⟨Nat.le_of_ble_eq_true rfl, Nat.le_of_ble_eq_true rfl⟩) ⟨fun a U g mk q => by obtain ⟨q0, q1, qP, qK, qD⟩ := q; exact ⟨q0, q1, qP, va_K.moved (u := U) (U := U.calling g mk a) (Vm.Alike.refl U.vm) qK, qD⟩, fun U hU hW => ⟨rfl, by rw [hU], by rw [hU]; exact hPc, va_K.moved hW.alike hKc, hDc.weaken (fun _ _ _ _ => trivial)⟩⟩ rfl rfl hl.1 rfl (lv_room (Nat.le_of_ble_eq_true rfl)) dX3_init_51 ⟨Nat.le_of_ble_eq_true rfl, Nat.le_of_ble_eq_true rfl⟩) hS (fun q _ h => hFc q h) hFc (fun u t H1 locs ht hvm hw hB hz1 hk1 hS => ?_)
      obtain ⟨ob, cB2⟩ := u
      obtain ⟨hP1, hK1, hD1⟩ := hB
      rw [ht] at hP1
      have hK1 := va_K.moved hvm.symm hK1
      try dsimp only at hw hP1 hK1 hD1
      obtain ⟨hP, hD⟩ := va_join (wr := [(h0, .inr (4, [.int x, .ref ks, .int 0, .ref fa, .null, .null, .int 0, .int 0, .int 0])), (ks, .inl (cK, 8, .inr (.inr (.inr (.inr (fun _ => none)))))), (fa, .inr (2, [.ref oa, .int 0])), (oa, .inl (cB, 16, .inl (fun _ => 0)))]) (w1 := [(fb, .inr (2, [.ref ob, .int 0])), (ob, .inl (cB2, 16, .inl (fun _ => 0)))]) hP hD [4] [0, 1, 2, 3] rfl rfl (by decide) (by decide) hk1 hFc hP1 hD1
      have hK := hK.app hK1
      generalize H1 = H at hP hS ⊢
      have hP : va_P (dC, dI) vwCl [(h0, .inr (4, [.int x, .ref ks, .int 0, .ref fa, .null, .null, .int 0, .int 0, .int 0])), (ks, .inl (cK, 8, .inr (.inr (.inr (.inr (fun _ => none)))))), (fa, .inr (2, [.ref oa, .int 0])), (oa, .inl (cB, 16, .inl (fun _ => 0))), (fb, .inr (2, [.ref ob, .int 0])), (ob, .inl (cB2, 16, .inl (fun _ => 0)))] H := hP
      have hD : va_D A [(h0, .inr (4, [.int x, .ref ks, .int 0, .ref fa, .null, .null, .int 0, .int 0, .int 0])), (ks, .inl (cK, 8, .inr (.inr (.inr (.inr (fun _ => none)))))), (fa, .inr (2, [.ref oa, .int 0])), (oa, .inl (cB, 16, .inl (fun _ => 0))), (fb, .inr (2, [.ref ob, .int 0])), (ob, .inl (cB2, 16, .inl (fun _ => 0)))] := hD
      have hK : va_K (dC, dI) vwCl [(cK, .object RX2), (cB, .byte), (cB2, .byte)] s := hK
      refine W.widen (k := 5) (n := 44) (by omega) (by omega) ?_
      refine va_put (D := (dC, dI)) (ci := 4) (v := .ref fb) (ty := .object "DoorKeys$Frame") (C := RX3) (T := TX3) (N := 9) hx hb hts inn_X3_init_X3 tyX3 tyX3_ok nmX3 hown hK hP hD hS 0 rfl rfl 4 (by decide) (hts (.fieldLink RX3 26 "DoorKeys" "ended" "LDoorKeys$Frame;") (by decide +kernel)) (fun _ h9 => h9) rfl (by decide +kernel) rfl rfl (Nat.le_of_ble_eq_true rfl) dX3_init_54 (fun H locs hP hD hS => ?_)
      have hP : va_P (dC, dI) vwCl [(h0, .inr (4, [.int x, .ref ks, .int 0, .ref fa, .ref fb, .null, .int 0, .int 0, .int 0])), (ks, .inl (cK, 8, .inr (.inr (.inr (.inr (fun _ => none)))))), (fa, .inr (2, [.ref oa, .int 0])), (oa, .inl (cB, 16, .inl (fun _ => 0))), (fb, .inr (2, [.ref ob, .int 0])), (ob, .inl (cB2, 16, .inl (fun _ => 0)))] H := hP
      have hD : va_D A [(h0, .inr (4, [.int x, .ref ks, .int 0, .ref fa, .ref fb, .null, .int 0, .int 0, .int 0])), (ks, .inl (cK, 8, .inr (.inr (.inr (.inr (fun _ => none)))))), (fa, .inr (2, [.ref oa, .int 0])), (oa, .inl (cB, 16, .inl (fun _ => 0))), (fb, .inr (2, [.ref ob, .int 0])), (ob, .inl (cB2, 16, .inl (fun _ => 0)))] := hD
      refine lv_aload_n hx hb dX3_init_57 rfl (lv_at hl 0 rfl) ?_
      refine va_new (ci := 1) (fs := [.null, .long 0, .long 0]) (C := RX0) (T := TX0) (N := 3) hx hb hts inn_X3_init_X0 tyX0 tyX0_ok hown (hts (.classLink RX3 29 RX0) (by decide +kernel)) (hts (.instantiable RX0 3) (by decide +kernel)) (hts (.initialized RX0) (by decide +kernel)) hK hP hD hS hA rfl (fun j hj => by rcases (show j = 0 ∨ j = 1 ∨ j = 2 by omega) with rfl | rfl | rfl <;> rfl) (Nat.le_of_ble_eq_true rfl) (Nat.le_of_ble_eq_true rfl) dX3_init_58 (fun dr H hP hD hS => ?_)
      have hP : va_P (dC, dI) vwCl [(h0, .inr (4, [.int x, .ref ks, .int 0, .ref fa, .ref fb, .null, .int 0, .int 0, .int 0])), (ks, .inl (cK, 8, .inr (.inr (.inr (.inr (fun _ => none)))))), (fa, .inr (2, [.ref oa, .int 0])), (oa, .inl (cB, 16, .inl (fun _ => 0))), (fb, .inr (2, [.ref ob, .int 0])), (ob, .inl (cB2, 16, .inl (fun _ => 0))), (dr, .inr (1, [.null, .long 0, .long 0]))] H := hP
      have hD : va_D A [(h0, .inr (4, [.int x, .ref ks, .int 0, .ref fa, .ref fb, .null, .int 0, .int 0, .int 0])), (ks, .inl (cK, 8, .inr (.inr (.inr (.inr (fun _ => none)))))), (fa, .inr (2, [.ref oa, .int 0])), (oa, .inl (cB, 16, .inl (fun _ => 0))), (fb, .inr (2, [.ref ob, .int 0])), (ob, .inl (cB2, 16, .inl (fun _ => 0))), (dr, .inr (1, [.null, .long 0, .long 0]))] := hD
      refine W.widen (k := 6) (n := 47) (by omega) (by omega) ?_
      refine lv_dup hx hb dX3_init_61 rfl ?_
      have hPc := hP.sub (ws' := [(dr, .inr (1, [.null, .long 0, .long 0]))]) [6] rfl
      have hDc := hD.sub (ws' := [(dr, .inr (1, [.null, .long 0, .long 0]))]) [6] (by decide) rfl
      have hKc := hK.sub (tys' := []) [] rfl
      have hFc := va_free (wc := [(dr, .inr (1, [.null, .long 0, .long 0]))]) hD hS hA [6] rfl
      refine va_callv (va_runI (As := []) (rest := [.ref dr, .ref h0]) ⟨hx, hb, hml, hown, hts⟩ (c_X0_init l dC dI dr H.size) (cwI 0 hts gX3_init_X0_init rfl rfl rfl (hts (.initialized RX0) (by decide +kernel)) (hts (.methodLink RX3 31 yX0_init) (by decide +kernel)) (hts (.instanceMethod yX0_init) (by decide +kernel)) rfl (by decide +kernel) ⟨Nat.le_of_ble_eq_true rfl, Nat.le_of_ble_eq_true rfl⟩) ⟨fun a U g mk q => by obtain ⟨q0, q1, qP, qK, qD⟩ := q; exact ⟨q0, q1, qP, va_K.moved (u := U) (U := U.calling g mk a) (Vm.Alike.refl U.vm) qK, qD⟩, fun U hU hW => ⟨rfl, by rw [hU], by rw [hU]; exact hPc, va_K.moved hW.alike hKc, hDc.weaken (fun _ _ _ _ => trivial)⟩⟩ rfl rfl hl.1 rfl (lv_room (Nat.le_of_ble_eq_true rfl)) dX3_init_62 ⟨Nat.le_of_ble_eq_true rfl, Nat.le_of_ble_eq_true rfl⟩) hS (fun q _ h => hFc q h) hFc (fun u t H1 locs ht hvm hw hB hz1 hk1 hS => ?_)
      obtain ⟨ds, cI, st⟩ := u
      obtain ⟨hP1, hK1, hD1⟩ := hB
      rw [ht] at hP1
      have hK1 := va_K.moved hvm.symm hK1
      try dsimp only at hw hP1 hK1 hD1
      obtain ⟨hP, hD⟩ := va_join (wr := [(h0, .inr (4, [.int x, .ref ks, .int 0, .ref fa, .ref fb, .null, .int 0, .int 0, .int 0])), (ks, .inl (cK, 8, .inr (.inr (.inr (.inr (fun _ => none)))))), (fa, .inr (2, [.ref oa, .int 0])), (oa, .inl (cB, 16, .inl (fun _ => 0))), (fb, .inr (2, [.ref ob, .int 0])), (ob, .inl (cB2, 16, .inl (fun _ => 0)))]) (w1 := [(dr, .inr (1, [.ref ds, .long 0, .long 0])), (ds, .inl (cI, 5, .inl st))]) hP hD [6] [0, 1, 2, 3, 4, 5] rfl rfl (by decide) (by decide) hk1 hFc hP1 hD1
      have hK := hK.app hK1
      generalize H1 = H at hP hS ⊢
      have hP : va_P (dC, dI) vwCl [(h0, .inr (4, [.int x, .ref ks, .int 0, .ref fa, .ref fb, .null, .int 0, .int 0, .int 0])), (ks, .inl (cK, 8, .inr (.inr (.inr (.inr (fun _ => none)))))), (fa, .inr (2, [.ref oa, .int 0])), (oa, .inl (cB, 16, .inl (fun _ => 0))), (fb, .inr (2, [.ref ob, .int 0])), (ob, .inl (cB2, 16, .inl (fun _ => 0))), (dr, .inr (1, [.ref ds, .long 0, .long 0])), (ds, .inl (cI, 5, .inl st))] H := hP
      have hD : va_D A [(h0, .inr (4, [.int x, .ref ks, .int 0, .ref fa, .ref fb, .null, .int 0, .int 0, .int 0])), (ks, .inl (cK, 8, .inr (.inr (.inr (.inr (fun _ => none)))))), (fa, .inr (2, [.ref oa, .int 0])), (oa, .inl (cB, 16, .inl (fun _ => 0))), (fb, .inr (2, [.ref ob, .int 0])), (ob, .inl (cB2, 16, .inl (fun _ => 0))), (dr, .inr (1, [.ref ds, .long 0, .long 0])), (ds, .inl (cI, 5, .inl st))] := hD
      have hK : va_K (dC, dI) vwCl [(cK, .object RX2), (cB, .byte), (cB2, .byte), (cI, .int)] s := hK
      refine W.widen (k := 7) (n := 52) (by omega) (by omega) ?_
      refine va_putF (D := (dC, dI)) (ci := 4) (v := .ref dr) (ty := .object "DoorKeys$Doors") (C := RX3) (T := TX3) (N := 9) hx hb hts inn_X3_init_X3 tyX3 tyX3_ok nmX3 hown hK hP hD hS 0 rfl rfl 5 (by decide) (hts (.fieldLink RX3 32 "DoorKeys" "doors" "LDoorKeys$Doors;") (by decide +kernel)) (fun _ h9 => h9) rfl hin rfl (by decide +kernel) rfl rfl (Nat.le_of_ble_eq_true rfl) dX3_init_65 (fun H locs hP hD hS => ?_)
      have hP : va_P (dC, dI) vwCl [(h0, .inr (4, [.int x, .ref ks, .int 0, .ref fa, .ref fb, .ref dr, .int 0, .int 0, .int 0])), (ks, .inl (cK, 8, .inr (.inr (.inr (.inr (fun _ => none)))))), (fa, .inr (2, [.ref oa, .int 0])), (oa, .inl (cB, 16, .inl (fun _ => 0))), (fb, .inr (2, [.ref ob, .int 0])), (ob, .inl (cB2, 16, .inl (fun _ => 0))), (dr, .inr (1, [.ref ds, .long 0, .long 0])), (ds, .inl (cI, 5, .inl st))] H := hP
      have hD : va_D A [(h0, .inr (4, [.int x, .ref ks, .int 0, .ref fa, .ref fb, .ref dr, .int 0, .int 0, .int 0])), (ks, .inl (cK, 8, .inr (.inr (.inr (.inr (fun _ => none)))))), (fa, .inr (2, [.ref oa, .int 0])), (oa, .inl (cB, 16, .inl (fun _ => 0))), (fb, .inr (2, [.ref ob, .int 0])), (ob, .inl (cB2, 16, .inl (fun _ => 0))), (dr, .inr (1, [.ref ds, .long 0, .long 0])), (ds, .inl (cI, 5, .inl st))] := hD
      have e2 : cB2 = cB := Option.some.inj ((hK.2 2 _ rfl).2.symm.trans (hK.2 1 _ rfl).2)
      subst e2
      have hw9 : dkW0 cK cB2 cI h0 ks fa oa fb ob dr ds (dk_span x) st = [(h0, .inr (4, [.int x, .ref ks, .int 0, .ref fa, .ref fb, .ref dr, .int 0, .int 0, .int 0])), (ks, .inl (cK, 8, .inr (.inr (.inr (.inr (fun _ => none)))))), (fa, .inr (2, [.ref oa, .int 0])), (oa, .inl (cB2, 16, .inl (fun _ => 0))), (fb, .inr (2, [.ref ob, .int 0])), (ob, .inl (cB2, 16, .inl (fun _ => 0))), (dr, .inr (1, [.ref ds, .long 0, .long 0])), (ds, .inl (cI, 5, .inl st))] := by
        unfold dkW0 dkW
        rw [dk_k0, e1]
        rfl
      have hK9 : va_K (dC, dI) vwCl (dkT cK cB2 cI) s := hK.sub [0, 1, 3] rfl
      exact W.vret hx hb hr (fun t ht hW => ⟨⟨(cK, cB2, cI, ks, fa, oa, fb, ob, dr, ds, st), rfl, hw, by rw [ht, hw9]; exact hP, va_K.moved hW.alike hK9, by rw [hw9]; exact hD⟩, hS.F ht⟩) hS.2.2 dX3_init_68
