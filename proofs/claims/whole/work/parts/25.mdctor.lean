/-! The constructor of the reference (laid by wip/mdctor.py) -/
set_option maxRecDepth 20000 in
theorem inn_X4_init_X4 : ∀ w ∈ wsX40, w ∈ wsX4_init := by decide +kernel
abbrev mdW0 (cI cJ cZ : ClassId) (q aS aC aW aL aN aI aB aD aU aF : Nat) (sp : Int32) (dd : Nat → Int32) : va_W := mdW cI cJ cZ q aS aC aW aL aN aI aB aD aU aF 0 0 0 0 sp (fun _ => 0) (fun _ => 0) (fun _ => 0) (fun _ => 0) (fun _ => 0) (fun _ => 0) (fun _ => 0) dd 0 0 0 (fun _ => 0) (fun _ => 0) 0 0
abbrev MDA : Type := ClassId × ClassId × ClassId × Nat × Nat × Nat × Nat × Nat × Nat × Nat × Nat × Nat × Nat × (Nat → Int32)
abbrev at_MD (dC : Nat → ClassId) (dI : Nat → Nat → Nat) (A : Nat → Prop) (h0 : Nat) (x : Int32) (u : MDA) (t : State) : Prop := match u with
  | (cI, cJ, cZ, aS, aC, aW, aL, aN, aI, aB, aD, aU, aF, dd) => va_P (dC, dI) vwCl (mdW0 cI cJ cZ h0 aS aC aW aL aN aI aB aD aU aF (dk_span x) dd) t.heap ∧ va_K (dC, dI) vwCl (mdT cI cJ cZ) t ∧ va_D A (mdW0 cI cJ cZ h0 aS aC aW aL aN aI aB aD aU aF (dk_span x) dd)
def rm_X4_init : Room := { frames := 1, cells := 10, slots := 100, locals := 12 }
set_option maxHeartbeats 4000000 in
set_option maxRecDepth 100000 in
theorem c_X4_init (l : Launch) (dC : Nat → ClassId) (dI : Nat → Nat → Nat) (h0 sz : Nat) (x : Int32) : Met l yX4_init wsX4_init rm_X4_init (va_Pc [.ref h0, .int x] (fun U => U.heap.size = sz ∧ va_P (dC, dI) vwCl [(h0, .inr (5, [.int 0, .int 0, .int 0, .null, .null, .null, .null, .null, .null, .null, .null, .int 0, .long 0, .long 0, .int 0, .null, .int 0, .null, .int 0, .int 0]))] U.heap ∧ va_K (dC, dI) vwCl [] U ∧ va_D (fun _ => True) [(h0, .inr (5, [.int 0, .int 0, .int 0, .null, .null, .null, .null, .null, .null, .null, .null, .int 0, .long 0, .long 0, .int 0, .null, .int 0, .null, .int 0, .int 0]))])) (va_Qv (fun u : MDA => ∀ j, j < 5 → u.2.2.2.2.2.2.2.2.2.2.2.2.2 j = 1) (at_MD dC dI (va_A [(h0, .inr (5, [.int 0, .int 0, .int 0, .null, .null, .null, .null, .null, .null, .null, .null, .int 0, .long 0, .long 0, .int 0, .null, .int 0, .null, .int 0, .int 0]))] sz) h0 x) (va_A [(h0, .inr (5, [.int 0, .int 0, .int 0, .null, .null, .null, .null, .null, .null, .null, .null, .int 0, .long 0, .long 0, .int 0, .null, .int 0, .null, .int 0, .int 0]))] sz)) 10 100 (va_A [(h0, .inr (5, [.int 0, .int 0, .int 0, .null, .null, .null, .null, .null, .null, .null, .null, .int 0, .long 0, .long 0, .int 0, .null, .int 0, .null, .int 0, .int 0]))] sz) := by
  refine Met.ofW (cc := cX4_init) (maxL := 3) (ret := none) (by decide) rfl ?_
  intro p e s m args below meth c s₁ B hml hv
  have hx := B.exec
  have hb := B.bytes
  have hr := B.returns
  have hin : meth.name = "<init>" := (name_of_methodNamed B.named B.method).1
  obtain ⟨rfl, hsz, hP, hK, hD0⟩ := hv
  subst hsz
  have hD := hD0.self (sz := s.heap.size)
  generalize hAe : va_A [(h0, .inr (5, [.int 0, .int 0, .int 0, .null, .null, .null, .null, .null, .null, .null, .null, .int 0, .long 0, .long 0, .int 0, .null, .int 0, .null, .int 0, .int 0]))] s.heap.size = A at hD ⊢
  have hA : ∀ q : Nat, s.heap.size ≤ q → A q := fun q h => by rw [← hAe]; exact Or.inr h
  have hS : va_S A s.heap s.heap [] := va_S.rf
  have hP : va_P (dC, dI) vwCl [(h0, .inr (5, [.int 0, .int 0, .int 0, .null, .null, .null, .null, .null, .null, .null, .null, .int 0, .long 0, .long 0, .int 0, .null, .int 0, .null, .int 0, .int 0]))] s.heap := hP
  have hts := atoms_spec (ws := wsX4_init) B.pre
  have hown : s.vm.findClass RX4 = some m.cls := findClass_of_methodNamed B.named
  have hlocks := B.notSynchronized
  have hl := lv_entry ([.ref h0, .int x]) (n := 3) (Nat.le_of_ble_eq_true rfl)
  rw [lg_entry_eq]
  generalize (lg_sl ([.ref h0, .int x]) ++ List.replicate (3 - (lg_sl ([.ref h0, .int x])).length) Slot.unset).toArray = ls at hl ⊢
  have hl : lv_has ls 3 [(0, .ref h0), (1, .int x)] := hl
  refine lv_aload_n hx hb dX4_init_0 rfl (lv_at hl 0 rfl) ?_
  refine W.objInit hx hb hown (hts (.methodLink RX4 1 objectInit) (by decide +kernel)) (hts (.instanceMethod objectInit) (by decide +kernel)) (hts (.code objectInit ⟨#[0xb1]⟩ 1 none) (List.mem_of_getElem? (i := 3) rfl)) rfl (by rw [hml]; exact hl.1) rfl dX4_init_1 (Nat.le_of_ble_eq_true rfl) (Nat.le_of_ble_eq_true rfl) ?_
  refine W.eq (g2 := F0 m 4 ls []) rfl ?_
  refine lv_aload_n hx hb dX4_init_4 rfl (lv_at hl 0 rfl) ?_
  refine lv_bipush (v := 9) hx hb dX4_init_5 (by decide) ?_
  refine va_newa (atype := .long) (N' := 9) (a0 := (9, .inr (.inl (fun _ => 0)))) (ty := .long) (n := 9) hx hb (hts (.arrayClass .long) (by decide +kernel)) rfl hK hP hD hS hA (fun _ => rfl) (by decide) (by decide) (by decide) (Nat.le_of_ble_eq_true rfl) (Nat.le_of_ble_eq_true rfl) dX4_init_7 (fun aS cJ H hK hP hD hS => ?_)
  have hP : va_P (dC, dI) vwCl [(h0, .inr (5, [.int 0, .int 0, .int 0, .null, .null, .null, .null, .null, .null, .null, .null, .int 0, .long 0, .long 0, .int 0, .null, .int 0, .null, .int 0, .int 0])), (aS, .inl (cJ, 9, .inr (.inl (fun _ => 0))))] H := hP
  have hD : va_D A [(h0, .inr (5, [.int 0, .int 0, .int 0, .null, .null, .null, .null, .null, .null, .null, .null, .int 0, .long 0, .long 0, .int 0, .null, .int 0, .null, .int 0, .int 0])), (aS, .inl (cJ, 9, .inr (.inl (fun _ => 0))))] := hD
  have hK : va_K (dC, dI) vwCl [(cJ, .long)] s := hK
  refine W.widen (k := 1) (n := 9) (by omega) (by omega) ?_
  refine va_putF (D := (dC, dI)) (ci := 5) (v := .ref aS) (ty := .array .long) (C := RX4) (T := TX4) (N := 20) hx hb hts inn_X4_init_X4 tyX4 tyX4_ok nmX4 hown hK hP hD hS 0 rfl rfl 3 (by decide) (hts (.fieldLink RX4 7 "DoorKeysModel" "secret" "[J") (by decide +kernel)) (fun _ h9 => h9) rfl hin rfl (by decide +kernel) rfl rfl (Nat.le_of_ble_eq_true rfl) dX4_init_9 (fun H locs hP hD hS => ?_)
  have hP : va_P (dC, dI) vwCl [(h0, .inr (5, [.int 0, .int 0, .int 0, .ref aS, .null, .null, .null, .null, .null, .null, .null, .int 0, .long 0, .long 0, .int 0, .null, .int 0, .null, .int 0, .int 0])), (aS, .inl (cJ, 9, .inr (.inl (fun _ => 0))))] H := hP
  have hD : va_D A [(h0, .inr (5, [.int 0, .int 0, .int 0, .ref aS, .null, .null, .null, .null, .null, .null, .null, .int 0, .long 0, .long 0, .int 0, .null, .int 0, .null, .int 0, .int 0])), (aS, .inl (cJ, 9, .inr (.inl (fun _ => 0))))] := hD
  refine lv_aload_n hx hb dX4_init_12 rfl (lv_at hl 0 rfl) ?_
  refine lv_bipush (v := 9) hx hb dX4_init_13 (by decide) ?_
  refine va_newa (atype := .int) (N' := 9) (a0 := (9, .inl (fun _ => 0))) (ty := .int) (n := 9) hx hb (hts (.arrayClass .int) (by decide +kernel)) rfl hK hP hD hS hA (fun _ => rfl) (by decide) (by decide) (by decide) (Nat.le_of_ble_eq_true rfl) (Nat.le_of_ble_eq_true rfl) dX4_init_15 (fun aC cI H hK hP hD hS => ?_)
  have hP : va_P (dC, dI) vwCl [(h0, .inr (5, [.int 0, .int 0, .int 0, .ref aS, .null, .null, .null, .null, .null, .null, .null, .int 0, .long 0, .long 0, .int 0, .null, .int 0, .null, .int 0, .int 0])), (aS, .inl (cJ, 9, .inr (.inl (fun _ => 0)))), (aC, .inl (cI, 9, .inl (fun _ => 0)))] H := hP
  have hD : va_D A [(h0, .inr (5, [.int 0, .int 0, .int 0, .ref aS, .null, .null, .null, .null, .null, .null, .null, .int 0, .long 0, .long 0, .int 0, .null, .int 0, .null, .int 0, .int 0])), (aS, .inl (cJ, 9, .inr (.inl (fun _ => 0)))), (aC, .inl (cI, 9, .inl (fun _ => 0)))] := hD
  have hK : va_K (dC, dI) vwCl [(cJ, .long), (cI, .int)] s := hK
  refine W.widen (k := 2) (n := 18) (by omega) (by omega) ?_
  refine va_putF (D := (dC, dI)) (ci := 5) (v := .ref aC) (ty := .array .int) (C := RX4) (T := TX4) (N := 20) hx hb hts inn_X4_init_X4 tyX4 tyX4_ok nmX4 hown hK hP hD hS 0 rfl rfl 4 (by decide) (hts (.fieldLink RX4 13 "DoorKeysModel" "counter" "[I") (by decide +kernel)) (fun _ h9 => h9) rfl hin rfl (by decide +kernel) rfl rfl (Nat.le_of_ble_eq_true rfl) dX4_init_17 (fun H locs hP hD hS => ?_)
  have hP : va_P (dC, dI) vwCl [(h0, .inr (5, [.int 0, .int 0, .int 0, .ref aS, .ref aC, .null, .null, .null, .null, .null, .null, .int 0, .long 0, .long 0, .int 0, .null, .int 0, .null, .int 0, .int 0])), (aS, .inl (cJ, 9, .inr (.inl (fun _ => 0)))), (aC, .inl (cI, 9, .inl (fun _ => 0)))] H := hP
  have hD : va_D A [(h0, .inr (5, [.int 0, .int 0, .int 0, .ref aS, .ref aC, .null, .null, .null, .null, .null, .null, .int 0, .long 0, .long 0, .int 0, .null, .int 0, .null, .int 0, .int 0])), (aS, .inl (cJ, 9, .inr (.inl (fun _ => 0)))), (aC, .inl (cI, 9, .inl (fun _ => 0)))] := hD
  refine lv_aload_n hx hb dX4_init_20 rfl (lv_at hl 0 rfl) ?_
  refine lv_bipush (v := 9) hx hb dX4_init_21 (by decide) ?_
  refine va_newa (atype := .int) (N' := 9) (a0 := (9, .inl (fun _ => 0))) (ty := .int) (n := 9) hx hb (hts (.arrayClass .int) (by decide +kernel)) rfl hK hP hD hS hA (fun _ => rfl) (by decide) (by decide) (by decide) (Nat.le_of_ble_eq_true rfl) (Nat.le_of_ble_eq_true rfl) dX4_init_23 (fun aW c3 H hK hP hD hS => ?_)
  have hP : va_P (dC, dI) vwCl [(h0, .inr (5, [.int 0, .int 0, .int 0, .ref aS, .ref aC, .null, .null, .null, .null, .null, .null, .int 0, .long 0, .long 0, .int 0, .null, .int 0, .null, .int 0, .int 0])), (aS, .inl (cJ, 9, .inr (.inl (fun _ => 0)))), (aC, .inl (cI, 9, .inl (fun _ => 0))), (aW, .inl (c3, 9, .inl (fun _ => 0)))] H := hP
  have hD : va_D A [(h0, .inr (5, [.int 0, .int 0, .int 0, .ref aS, .ref aC, .null, .null, .null, .null, .null, .null, .int 0, .long 0, .long 0, .int 0, .null, .int 0, .null, .int 0, .int 0])), (aS, .inl (cJ, 9, .inr (.inl (fun _ => 0)))), (aC, .inl (cI, 9, .inl (fun _ => 0))), (aW, .inl (c3, 9, .inl (fun _ => 0)))] := hD
  have hK : va_K (dC, dI) vwCl [(cJ, .long), (cI, .int), (c3, .int)] s := hK
  refine W.widen (k := 3) (n := 27) (by omega) (by omega) ?_
  refine va_putF (D := (dC, dI)) (ci := 5) (v := .ref aW) (ty := .array .int) (C := RX4) (T := TX4) (N := 20) hx hb hts inn_X4_init_X4 tyX4 tyX4_ok nmX4 hown hK hP hD hS 0 rfl rfl 5 (by decide) (hts (.fieldLink RX4 17 "DoorKeysModel" "awaited" "[I") (by decide +kernel)) (fun _ h9 => h9) rfl hin rfl (by decide +kernel) rfl rfl (Nat.le_of_ble_eq_true rfl) dX4_init_25 (fun H locs hP hD hS => ?_)
  have hP : va_P (dC, dI) vwCl [(h0, .inr (5, [.int 0, .int 0, .int 0, .ref aS, .ref aC, .ref aW, .null, .null, .null, .null, .null, .int 0, .long 0, .long 0, .int 0, .null, .int 0, .null, .int 0, .int 0])), (aS, .inl (cJ, 9, .inr (.inl (fun _ => 0)))), (aC, .inl (cI, 9, .inl (fun _ => 0))), (aW, .inl (c3, 9, .inl (fun _ => 0)))] H := hP
  have hD : va_D A [(h0, .inr (5, [.int 0, .int 0, .int 0, .ref aS, .ref aC, .ref aW, .null, .null, .null, .null, .null, .int 0, .long 0, .long 0, .int 0, .null, .int 0, .null, .int 0, .int 0])), (aS, .inl (cJ, 9, .inr (.inl (fun _ => 0)))), (aC, .inl (cI, 9, .inl (fun _ => 0))), (aW, .inl (c3, 9, .inl (fun _ => 0)))] := hD
  refine lv_aload_n hx hb dX4_init_28 rfl (lv_at hl 0 rfl) ?_
  refine lv_bipush (v := 9) hx hb dX4_init_29 (by decide) ?_
  refine va_newa (atype := .boolean) (N' := 9) (a0 := (9, .inl (fun _ => 0))) (ty := .boolean) (n := 9) hx hb (hts (.arrayClass .boolean) (by decide +kernel)) rfl hK hP hD hS hA (fun _ => rfl) (by decide) (by decide) (by decide) (Nat.le_of_ble_eq_true rfl) (Nat.le_of_ble_eq_true rfl) dX4_init_31 (fun aL cZ H hK hP hD hS => ?_)
  have hP : va_P (dC, dI) vwCl [(h0, .inr (5, [.int 0, .int 0, .int 0, .ref aS, .ref aC, .ref aW, .null, .null, .null, .null, .null, .int 0, .long 0, .long 0, .int 0, .null, .int 0, .null, .int 0, .int 0])), (aS, .inl (cJ, 9, .inr (.inl (fun _ => 0)))), (aC, .inl (cI, 9, .inl (fun _ => 0))), (aW, .inl (c3, 9, .inl (fun _ => 0))), (aL, .inl (cZ, 9, .inl (fun _ => 0)))] H := hP
  have hD : va_D A [(h0, .inr (5, [.int 0, .int 0, .int 0, .ref aS, .ref aC, .ref aW, .null, .null, .null, .null, .null, .int 0, .long 0, .long 0, .int 0, .null, .int 0, .null, .int 0, .int 0])), (aS, .inl (cJ, 9, .inr (.inl (fun _ => 0)))), (aC, .inl (cI, 9, .inl (fun _ => 0))), (aW, .inl (c3, 9, .inl (fun _ => 0))), (aL, .inl (cZ, 9, .inl (fun _ => 0)))] := hD
  have hK : va_K (dC, dI) vwCl [(cJ, .long), (cI, .int), (c3, .int), (cZ, .boolean)] s := hK
  refine W.widen (k := 4) (n := 36) (by omega) (by omega) ?_
  refine va_putF (D := (dC, dI)) (ci := 5) (v := .ref aL) (ty := .array .boolean) (C := RX4) (T := TX4) (N := 20) hx hb hts inn_X4_init_X4 tyX4 tyX4_ok nmX4 hown hK hP hD hS 0 rfl rfl 6 (by decide) (hts (.fieldLink RX4 20 "DoorKeysModel" "learned" "[Z") (by decide +kernel)) (fun _ h9 => h9) rfl hin rfl (by decide +kernel) rfl rfl (Nat.le_of_ble_eq_true rfl) dX4_init_33 (fun H locs hP hD hS => ?_)
  have hP : va_P (dC, dI) vwCl [(h0, .inr (5, [.int 0, .int 0, .int 0, .ref aS, .ref aC, .ref aW, .ref aL, .null, .null, .null, .null, .int 0, .long 0, .long 0, .int 0, .null, .int 0, .null, .int 0, .int 0])), (aS, .inl (cJ, 9, .inr (.inl (fun _ => 0)))), (aC, .inl (cI, 9, .inl (fun _ => 0))), (aW, .inl (c3, 9, .inl (fun _ => 0))), (aL, .inl (cZ, 9, .inl (fun _ => 0)))] H := hP
  have hD : va_D A [(h0, .inr (5, [.int 0, .int 0, .int 0, .ref aS, .ref aC, .ref aW, .ref aL, .null, .null, .null, .null, .int 0, .long 0, .long 0, .int 0, .null, .int 0, .null, .int 0, .int 0])), (aS, .inl (cJ, 9, .inr (.inl (fun _ => 0)))), (aC, .inl (cI, 9, .inl (fun _ => 0))), (aW, .inl (c3, 9, .inl (fun _ => 0))), (aL, .inl (cZ, 9, .inl (fun _ => 0)))] := hD
  refine lv_aload_n hx hb dX4_init_36 rfl (lv_at hl 0 rfl) ?_
  refine lv_bipush (v := 9) hx hb dX4_init_37 (by decide) ?_
  refine va_newa (atype := .boolean) (N' := 9) (a0 := (9, .inl (fun _ => 0))) (ty := .boolean) (n := 9) hx hb (hts (.arrayClass .boolean) (by decide +kernel)) rfl hK hP hD hS hA (fun _ => rfl) (by decide) (by decide) (by decide) (Nat.le_of_ble_eq_true rfl) (Nat.le_of_ble_eq_true rfl) dX4_init_39 (fun aN c5 H hK hP hD hS => ?_)
  have hP : va_P (dC, dI) vwCl [(h0, .inr (5, [.int 0, .int 0, .int 0, .ref aS, .ref aC, .ref aW, .ref aL, .null, .null, .null, .null, .int 0, .long 0, .long 0, .int 0, .null, .int 0, .null, .int 0, .int 0])), (aS, .inl (cJ, 9, .inr (.inl (fun _ => 0)))), (aC, .inl (cI, 9, .inl (fun _ => 0))), (aW, .inl (c3, 9, .inl (fun _ => 0))), (aL, .inl (cZ, 9, .inl (fun _ => 0))), (aN, .inl (c5, 9, .inl (fun _ => 0)))] H := hP
  have hD : va_D A [(h0, .inr (5, [.int 0, .int 0, .int 0, .ref aS, .ref aC, .ref aW, .ref aL, .null, .null, .null, .null, .int 0, .long 0, .long 0, .int 0, .null, .int 0, .null, .int 0, .int 0])), (aS, .inl (cJ, 9, .inr (.inl (fun _ => 0)))), (aC, .inl (cI, 9, .inl (fun _ => 0))), (aW, .inl (c3, 9, .inl (fun _ => 0))), (aL, .inl (cZ, 9, .inl (fun _ => 0))), (aN, .inl (c5, 9, .inl (fun _ => 0)))] := hD
  have hK : va_K (dC, dI) vwCl [(cJ, .long), (cI, .int), (c3, .int), (cZ, .boolean), (c5, .boolean)] s := hK
  refine W.widen (k := 5) (n := 45) (by omega) (by omega) ?_
  refine va_putF (D := (dC, dI)) (ci := 5) (v := .ref aN) (ty := .array .boolean) (C := RX4) (T := TX4) (N := 20) hx hb hts inn_X4_init_X4 tyX4 tyX4_ok nmX4 hown hK hP hD hS 0 rfl rfl 7 (by decide) (hts (.fieldLink RX4 24 "DoorKeysModel" "near" "[Z") (by decide +kernel)) (fun _ h9 => h9) rfl hin rfl (by decide +kernel) rfl rfl (Nat.le_of_ble_eq_true rfl) dX4_init_41 (fun H locs hP hD hS => ?_)
  have hP : va_P (dC, dI) vwCl [(h0, .inr (5, [.int 0, .int 0, .int 0, .ref aS, .ref aC, .ref aW, .ref aL, .ref aN, .null, .null, .null, .int 0, .long 0, .long 0, .int 0, .null, .int 0, .null, .int 0, .int 0])), (aS, .inl (cJ, 9, .inr (.inl (fun _ => 0)))), (aC, .inl (cI, 9, .inl (fun _ => 0))), (aW, .inl (c3, 9, .inl (fun _ => 0))), (aL, .inl (cZ, 9, .inl (fun _ => 0))), (aN, .inl (c5, 9, .inl (fun _ => 0)))] H := hP
  have hD : va_D A [(h0, .inr (5, [.int 0, .int 0, .int 0, .ref aS, .ref aC, .ref aW, .ref aL, .ref aN, .null, .null, .null, .int 0, .long 0, .long 0, .int 0, .null, .int 0, .null, .int 0, .int 0])), (aS, .inl (cJ, 9, .inr (.inl (fun _ => 0)))), (aC, .inl (cI, 9, .inl (fun _ => 0))), (aW, .inl (c3, 9, .inl (fun _ => 0))), (aL, .inl (cZ, 9, .inl (fun _ => 0))), (aN, .inl (c5, 9, .inl (fun _ => 0)))] := hD
  refine lv_aload_n hx hb dX4_init_44 rfl (lv_at hl 0 rfl) ?_
  refine lv_bipush (v := 9) hx hb dX4_init_45 (by decide) ?_
  refine va_newa (atype := .boolean) (N' := 9) (a0 := (9, .inl (fun _ => 0))) (ty := .boolean) (n := 9) hx hb (hts (.arrayClass .boolean) (by decide +kernel)) rfl hK hP hD hS hA (fun _ => rfl) (by decide) (by decide) (by decide) (Nat.le_of_ble_eq_true rfl) (Nat.le_of_ble_eq_true rfl) dX4_init_47 (fun aI c6 H hK hP hD hS => ?_)
  have hP : va_P (dC, dI) vwCl [(h0, .inr (5, [.int 0, .int 0, .int 0, .ref aS, .ref aC, .ref aW, .ref aL, .ref aN, .null, .null, .null, .int 0, .long 0, .long 0, .int 0, .null, .int 0, .null, .int 0, .int 0])), (aS, .inl (cJ, 9, .inr (.inl (fun _ => 0)))), (aC, .inl (cI, 9, .inl (fun _ => 0))), (aW, .inl (c3, 9, .inl (fun _ => 0))), (aL, .inl (cZ, 9, .inl (fun _ => 0))), (aN, .inl (c5, 9, .inl (fun _ => 0))), (aI, .inl (c6, 9, .inl (fun _ => 0)))] H := hP
  have hD : va_D A [(h0, .inr (5, [.int 0, .int 0, .int 0, .ref aS, .ref aC, .ref aW, .ref aL, .ref aN, .null, .null, .null, .int 0, .long 0, .long 0, .int 0, .null, .int 0, .null, .int 0, .int 0])), (aS, .inl (cJ, 9, .inr (.inl (fun _ => 0)))), (aC, .inl (cI, 9, .inl (fun _ => 0))), (aW, .inl (c3, 9, .inl (fun _ => 0))), (aL, .inl (cZ, 9, .inl (fun _ => 0))), (aN, .inl (c5, 9, .inl (fun _ => 0))), (aI, .inl (c6, 9, .inl (fun _ => 0)))] := hD
  have hK : va_K (dC, dI) vwCl [(cJ, .long), (cI, .int), (c3, .int), (cZ, .boolean), (c5, .boolean), (c6, .boolean)] s := hK
  refine W.widen (k := 6) (n := 54) (by omega) (by omega) ?_
  refine va_putF (D := (dC, dI)) (ci := 5) (v := .ref aI) (ty := .array .boolean) (C := RX4) (T := TX4) (N := 20) hx hb hts inn_X4_init_X4 tyX4 tyX4_ok nmX4 hown hK hP hD hS 0 rfl rfl 8 (by decide) (hts (.fieldLink RX4 27 "DoorKeysModel" "inside" "[Z") (by decide +kernel)) (fun _ h9 => h9) rfl hin rfl (by decide +kernel) rfl rfl (Nat.le_of_ble_eq_true rfl) dX4_init_49 (fun H locs hP hD hS => ?_)
  have hP : va_P (dC, dI) vwCl [(h0, .inr (5, [.int 0, .int 0, .int 0, .ref aS, .ref aC, .ref aW, .ref aL, .ref aN, .ref aI, .null, .null, .int 0, .long 0, .long 0, .int 0, .null, .int 0, .null, .int 0, .int 0])), (aS, .inl (cJ, 9, .inr (.inl (fun _ => 0)))), (aC, .inl (cI, 9, .inl (fun _ => 0))), (aW, .inl (c3, 9, .inl (fun _ => 0))), (aL, .inl (cZ, 9, .inl (fun _ => 0))), (aN, .inl (c5, 9, .inl (fun _ => 0))), (aI, .inl (c6, 9, .inl (fun _ => 0)))] H := hP
  have hD : va_D A [(h0, .inr (5, [.int 0, .int 0, .int 0, .ref aS, .ref aC, .ref aW, .ref aL, .ref aN, .ref aI, .null, .null, .int 0, .long 0, .long 0, .int 0, .null, .int 0, .null, .int 0, .int 0])), (aS, .inl (cJ, 9, .inr (.inl (fun _ => 0)))), (aC, .inl (cI, 9, .inl (fun _ => 0))), (aW, .inl (c3, 9, .inl (fun _ => 0))), (aL, .inl (cZ, 9, .inl (fun _ => 0))), (aN, .inl (c5, 9, .inl (fun _ => 0))), (aI, .inl (c6, 9, .inl (fun _ => 0)))] := hD
  refine lv_aload_n hx hb dX4_init_52 rfl (lv_at hl 0 rfl) ?_
  refine lv_bipush (v := 9) hx hb dX4_init_53 (by decide) ?_
  refine va_newa (atype := .int) (N' := 9) (a0 := (9, .inl (fun _ => 0))) (ty := .int) (n := 9) hx hb (hts (.arrayClass .int) (by decide +kernel)) rfl hK hP hD hS hA (fun _ => rfl) (by decide) (by decide) (by decide) (Nat.le_of_ble_eq_true rfl) (Nat.le_of_ble_eq_true rfl) dX4_init_55 (fun aB c7 H hK hP hD hS => ?_)
  have hP : va_P (dC, dI) vwCl [(h0, .inr (5, [.int 0, .int 0, .int 0, .ref aS, .ref aC, .ref aW, .ref aL, .ref aN, .ref aI, .null, .null, .int 0, .long 0, .long 0, .int 0, .null, .int 0, .null, .int 0, .int 0])), (aS, .inl (cJ, 9, .inr (.inl (fun _ => 0)))), (aC, .inl (cI, 9, .inl (fun _ => 0))), (aW, .inl (c3, 9, .inl (fun _ => 0))), (aL, .inl (cZ, 9, .inl (fun _ => 0))), (aN, .inl (c5, 9, .inl (fun _ => 0))), (aI, .inl (c6, 9, .inl (fun _ => 0))), (aB, .inl (c7, 9, .inl (fun _ => 0)))] H := hP
  have hD : va_D A [(h0, .inr (5, [.int 0, .int 0, .int 0, .ref aS, .ref aC, .ref aW, .ref aL, .ref aN, .ref aI, .null, .null, .int 0, .long 0, .long 0, .int 0, .null, .int 0, .null, .int 0, .int 0])), (aS, .inl (cJ, 9, .inr (.inl (fun _ => 0)))), (aC, .inl (cI, 9, .inl (fun _ => 0))), (aW, .inl (c3, 9, .inl (fun _ => 0))), (aL, .inl (cZ, 9, .inl (fun _ => 0))), (aN, .inl (c5, 9, .inl (fun _ => 0))), (aI, .inl (c6, 9, .inl (fun _ => 0))), (aB, .inl (c7, 9, .inl (fun _ => 0)))] := hD
  have hK : va_K (dC, dI) vwCl [(cJ, .long), (cI, .int), (c3, .int), (cZ, .boolean), (c5, .boolean), (c6, .boolean), (c7, .int)] s := hK
  refine W.widen (k := 7) (n := 63) (by omega) (by omega) ?_
  refine va_putF (D := (dC, dI)) (ci := 5) (v := .ref aB) (ty := .array .int) (C := RX4) (T := TX4) (N := 20) hx hb hts inn_X4_init_X4 tyX4 tyX4_ok nmX4 hown hK hP hD hS 0 rfl rfl 9 (by decide) (hts (.fieldLink RX4 30 "DoorKeysModel" "battery" "[I") (by decide +kernel)) (fun _ h9 => h9) rfl hin rfl (by decide +kernel) rfl rfl (Nat.le_of_ble_eq_true rfl) dX4_init_57 (fun H locs hP hD hS => ?_)
  have hP : va_P (dC, dI) vwCl [(h0, .inr (5, [.int 0, .int 0, .int 0, .ref aS, .ref aC, .ref aW, .ref aL, .ref aN, .ref aI, .ref aB, .null, .int 0, .long 0, .long 0, .int 0, .null, .int 0, .null, .int 0, .int 0])), (aS, .inl (cJ, 9, .inr (.inl (fun _ => 0)))), (aC, .inl (cI, 9, .inl (fun _ => 0))), (aW, .inl (c3, 9, .inl (fun _ => 0))), (aL, .inl (cZ, 9, .inl (fun _ => 0))), (aN, .inl (c5, 9, .inl (fun _ => 0))), (aI, .inl (c6, 9, .inl (fun _ => 0))), (aB, .inl (c7, 9, .inl (fun _ => 0)))] H := hP
  have hD : va_D A [(h0, .inr (5, [.int 0, .int 0, .int 0, .ref aS, .ref aC, .ref aW, .ref aL, .ref aN, .ref aI, .ref aB, .null, .int 0, .long 0, .long 0, .int 0, .null, .int 0, .null, .int 0, .int 0])), (aS, .inl (cJ, 9, .inr (.inl (fun _ => 0)))), (aC, .inl (cI, 9, .inl (fun _ => 0))), (aW, .inl (c3, 9, .inl (fun _ => 0))), (aL, .inl (cZ, 9, .inl (fun _ => 0))), (aN, .inl (c5, 9, .inl (fun _ => 0))), (aI, .inl (c6, 9, .inl (fun _ => 0))), (aB, .inl (c7, 9, .inl (fun _ => 0)))] := hD
  refine lv_aload_n hx hb dX4_init_60 rfl (lv_at hl 0 rfl) ?_
  refine lv_iconst (v := 5) hx hb dX4_init_61 (by decide) ?_
  refine va_newa (atype := .int) (N' := 5) (a0 := (5, .inl (fun _ => 0))) (ty := .int) (n := 5) hx hb (hts (.arrayClass .int) (by decide +kernel)) rfl hK hP hD hS hA (fun _ => rfl) (by decide) (by decide) (by decide) (Nat.le_of_ble_eq_true rfl) (Nat.le_of_ble_eq_true rfl) dX4_init_62 (fun aD c8 H hK hP hD hS => ?_)
  have hP : va_P (dC, dI) vwCl [(h0, .inr (5, [.int 0, .int 0, .int 0, .ref aS, .ref aC, .ref aW, .ref aL, .ref aN, .ref aI, .ref aB, .null, .int 0, .long 0, .long 0, .int 0, .null, .int 0, .null, .int 0, .int 0])), (aS, .inl (cJ, 9, .inr (.inl (fun _ => 0)))), (aC, .inl (cI, 9, .inl (fun _ => 0))), (aW, .inl (c3, 9, .inl (fun _ => 0))), (aL, .inl (cZ, 9, .inl (fun _ => 0))), (aN, .inl (c5, 9, .inl (fun _ => 0))), (aI, .inl (c6, 9, .inl (fun _ => 0))), (aB, .inl (c7, 9, .inl (fun _ => 0))), (aD, .inl (c8, 5, .inl (fun _ => 0)))] H := hP
  have hD : va_D A [(h0, .inr (5, [.int 0, .int 0, .int 0, .ref aS, .ref aC, .ref aW, .ref aL, .ref aN, .ref aI, .ref aB, .null, .int 0, .long 0, .long 0, .int 0, .null, .int 0, .null, .int 0, .int 0])), (aS, .inl (cJ, 9, .inr (.inl (fun _ => 0)))), (aC, .inl (cI, 9, .inl (fun _ => 0))), (aW, .inl (c3, 9, .inl (fun _ => 0))), (aL, .inl (cZ, 9, .inl (fun _ => 0))), (aN, .inl (c5, 9, .inl (fun _ => 0))), (aI, .inl (c6, 9, .inl (fun _ => 0))), (aB, .inl (c7, 9, .inl (fun _ => 0))), (aD, .inl (c8, 5, .inl (fun _ => 0)))] := hD
  have hK : va_K (dC, dI) vwCl [(cJ, .long), (cI, .int), (c3, .int), (cZ, .boolean), (c5, .boolean), (c6, .boolean), (c7, .int), (c8, .int)] s := hK
  refine W.widen (k := 8) (n := 68) (by omega) (by omega) ?_
  refine va_putF (D := (dC, dI)) (ci := 5) (v := .ref aD) (ty := .array .int) (C := RX4) (T := TX4) (N := 20) hx hb hts inn_X4_init_X4 tyX4 tyX4_ok nmX4 hown hK hP hD hS 0 rfl rfl 10 (by decide) (hts (.fieldLink RX4 33 "DoorKeysModel" "door" "[I") (by decide +kernel)) (fun _ h9 => h9) rfl hin rfl (by decide +kernel) rfl rfl (Nat.le_of_ble_eq_true rfl) dX4_init_64 (fun H locs hP hD hS => ?_)
  have hP : va_P (dC, dI) vwCl [(h0, .inr (5, [.int 0, .int 0, .int 0, .ref aS, .ref aC, .ref aW, .ref aL, .ref aN, .ref aI, .ref aB, .ref aD, .int 0, .long 0, .long 0, .int 0, .null, .int 0, .null, .int 0, .int 0])), (aS, .inl (cJ, 9, .inr (.inl (fun _ => 0)))), (aC, .inl (cI, 9, .inl (fun _ => 0))), (aW, .inl (c3, 9, .inl (fun _ => 0))), (aL, .inl (cZ, 9, .inl (fun _ => 0))), (aN, .inl (c5, 9, .inl (fun _ => 0))), (aI, .inl (c6, 9, .inl (fun _ => 0))), (aB, .inl (c7, 9, .inl (fun _ => 0))), (aD, .inl (c8, 5, .inl (fun _ => 0)))] H := hP
  have hD : va_D A [(h0, .inr (5, [.int 0, .int 0, .int 0, .ref aS, .ref aC, .ref aW, .ref aL, .ref aN, .ref aI, .ref aB, .ref aD, .int 0, .long 0, .long 0, .int 0, .null, .int 0, .null, .int 0, .int 0])), (aS, .inl (cJ, 9, .inr (.inl (fun _ => 0)))), (aC, .inl (cI, 9, .inl (fun _ => 0))), (aW, .inl (c3, 9, .inl (fun _ => 0))), (aL, .inl (cZ, 9, .inl (fun _ => 0))), (aN, .inl (c5, 9, .inl (fun _ => 0))), (aI, .inl (c6, 9, .inl (fun _ => 0))), (aB, .inl (c7, 9, .inl (fun _ => 0))), (aD, .inl (c8, 5, .inl (fun _ => 0)))] := hD
  refine lv_aload_n hx hb dX4_init_67 rfl (lv_at hl 0 rfl) ?_
  refine lv_bipush (v := 16) hx hb dX4_init_68 (by decide) ?_
  refine va_newa (atype := .int) (N' := 16) (a0 := (16, .inl (fun _ => 0))) (ty := .int) (n := 16) hx hb (hts (.arrayClass .int) (by decide +kernel)) rfl hK hP hD hS hA (fun _ => rfl) (by decide) (by decide) (by decide) (Nat.le_of_ble_eq_true rfl) (Nat.le_of_ble_eq_true rfl) dX4_init_70 (fun aU c9 H hK hP hD hS => ?_)
  have hP : va_P (dC, dI) vwCl [(h0, .inr (5, [.int 0, .int 0, .int 0, .ref aS, .ref aC, .ref aW, .ref aL, .ref aN, .ref aI, .ref aB, .ref aD, .int 0, .long 0, .long 0, .int 0, .null, .int 0, .null, .int 0, .int 0])), (aS, .inl (cJ, 9, .inr (.inl (fun _ => 0)))), (aC, .inl (cI, 9, .inl (fun _ => 0))), (aW, .inl (c3, 9, .inl (fun _ => 0))), (aL, .inl (cZ, 9, .inl (fun _ => 0))), (aN, .inl (c5, 9, .inl (fun _ => 0))), (aI, .inl (c6, 9, .inl (fun _ => 0))), (aB, .inl (c7, 9, .inl (fun _ => 0))), (aD, .inl (c8, 5, .inl (fun _ => 0))), (aU, .inl (c9, 16, .inl (fun _ => 0)))] H := hP
  have hD : va_D A [(h0, .inr (5, [.int 0, .int 0, .int 0, .ref aS, .ref aC, .ref aW, .ref aL, .ref aN, .ref aI, .ref aB, .ref aD, .int 0, .long 0, .long 0, .int 0, .null, .int 0, .null, .int 0, .int 0])), (aS, .inl (cJ, 9, .inr (.inl (fun _ => 0)))), (aC, .inl (cI, 9, .inl (fun _ => 0))), (aW, .inl (c3, 9, .inl (fun _ => 0))), (aL, .inl (cZ, 9, .inl (fun _ => 0))), (aN, .inl (c5, 9, .inl (fun _ => 0))), (aI, .inl (c6, 9, .inl (fun _ => 0))), (aB, .inl (c7, 9, .inl (fun _ => 0))), (aD, .inl (c8, 5, .inl (fun _ => 0))), (aU, .inl (c9, 16, .inl (fun _ => 0)))] := hD
  have hK : va_K (dC, dI) vwCl [(cJ, .long), (cI, .int), (c3, .int), (cZ, .boolean), (c5, .boolean), (c6, .boolean), (c7, .int), (c8, .int), (c9, .int)] s := hK
  refine W.widen (k := 9) (n := 84) (by omega) (by omega) ?_
  refine va_putF (D := (dC, dI)) (ci := 5) (v := .ref aU) (ty := .array .int) (C := RX4) (T := TX4) (N := 20) hx hb hts inn_X4_init_X4 tyX4 tyX4_ok nmX4 hown hK hP hD hS 0 rfl rfl 15 (by decide) (hts (.fieldLink RX4 36 "DoorKeysModel" "under" "[I") (by decide +kernel)) (fun _ h9 => h9) rfl hin rfl (by decide +kernel) rfl rfl (Nat.le_of_ble_eq_true rfl) dX4_init_72 (fun H locs hP hD hS => ?_)
  have hP : va_P (dC, dI) vwCl [(h0, .inr (5, [.int 0, .int 0, .int 0, .ref aS, .ref aC, .ref aW, .ref aL, .ref aN, .ref aI, .ref aB, .ref aD, .int 0, .long 0, .long 0, .int 0, .ref aU, .int 0, .null, .int 0, .int 0])), (aS, .inl (cJ, 9, .inr (.inl (fun _ => 0)))), (aC, .inl (cI, 9, .inl (fun _ => 0))), (aW, .inl (c3, 9, .inl (fun _ => 0))), (aL, .inl (cZ, 9, .inl (fun _ => 0))), (aN, .inl (c5, 9, .inl (fun _ => 0))), (aI, .inl (c6, 9, .inl (fun _ => 0))), (aB, .inl (c7, 9, .inl (fun _ => 0))), (aD, .inl (c8, 5, .inl (fun _ => 0))), (aU, .inl (c9, 16, .inl (fun _ => 0)))] H := hP
  have hD : va_D A [(h0, .inr (5, [.int 0, .int 0, .int 0, .ref aS, .ref aC, .ref aW, .ref aL, .ref aN, .ref aI, .ref aB, .ref aD, .int 0, .long 0, .long 0, .int 0, .ref aU, .int 0, .null, .int 0, .int 0])), (aS, .inl (cJ, 9, .inr (.inl (fun _ => 0)))), (aC, .inl (cI, 9, .inl (fun _ => 0))), (aW, .inl (c3, 9, .inl (fun _ => 0))), (aL, .inl (cZ, 9, .inl (fun _ => 0))), (aN, .inl (c5, 9, .inl (fun _ => 0))), (aI, .inl (c6, 9, .inl (fun _ => 0))), (aB, .inl (c7, 9, .inl (fun _ => 0))), (aD, .inl (c8, 5, .inl (fun _ => 0))), (aU, .inl (c9, 16, .inl (fun _ => 0)))] := hD
  refine lv_aload_n hx hb dX4_init_75 rfl (lv_at hl 0 rfl) ?_
  refine lv_bipush (v := 16) hx hb dX4_init_76 (by decide) ?_
  refine va_newa (atype := .int) (N' := 16) (a0 := (16, .inl (fun _ => 0))) (ty := .int) (n := 16) hx hb (hts (.arrayClass .int) (by decide +kernel)) rfl hK hP hD hS hA (fun _ => rfl) (by decide) (by decide) (by decide) (Nat.le_of_ble_eq_true rfl) (Nat.le_of_ble_eq_true rfl) dX4_init_78 (fun aF c10 H hK hP hD hS => ?_)
  have hP : va_P (dC, dI) vwCl [(h0, .inr (5, [.int 0, .int 0, .int 0, .ref aS, .ref aC, .ref aW, .ref aL, .ref aN, .ref aI, .ref aB, .ref aD, .int 0, .long 0, .long 0, .int 0, .ref aU, .int 0, .null, .int 0, .int 0])), (aS, .inl (cJ, 9, .inr (.inl (fun _ => 0)))), (aC, .inl (cI, 9, .inl (fun _ => 0))), (aW, .inl (c3, 9, .inl (fun _ => 0))), (aL, .inl (cZ, 9, .inl (fun _ => 0))), (aN, .inl (c5, 9, .inl (fun _ => 0))), (aI, .inl (c6, 9, .inl (fun _ => 0))), (aB, .inl (c7, 9, .inl (fun _ => 0))), (aD, .inl (c8, 5, .inl (fun _ => 0))), (aU, .inl (c9, 16, .inl (fun _ => 0))), (aF, .inl (c10, 16, .inl (fun _ => 0)))] H := hP
  have hD : va_D A [(h0, .inr (5, [.int 0, .int 0, .int 0, .ref aS, .ref aC, .ref aW, .ref aL, .ref aN, .ref aI, .ref aB, .ref aD, .int 0, .long 0, .long 0, .int 0, .ref aU, .int 0, .null, .int 0, .int 0])), (aS, .inl (cJ, 9, .inr (.inl (fun _ => 0)))), (aC, .inl (cI, 9, .inl (fun _ => 0))), (aW, .inl (c3, 9, .inl (fun _ => 0))), (aL, .inl (cZ, 9, .inl (fun _ => 0))), (aN, .inl (c5, 9, .inl (fun _ => 0))), (aI, .inl (c6, 9, .inl (fun _ => 0))), (aB, .inl (c7, 9, .inl (fun _ => 0))), (aD, .inl (c8, 5, .inl (fun _ => 0))), (aU, .inl (c9, 16, .inl (fun _ => 0))), (aF, .inl (c10, 16, .inl (fun _ => 0)))] := hD
  have hK : va_K (dC, dI) vwCl [(cJ, .long), (cI, .int), (c3, .int), (cZ, .boolean), (c5, .boolean), (c6, .boolean), (c7, .int), (c8, .int), (c9, .int), (c10, .int)] s := hK
  refine W.widen (k := 10) (n := 100) (by omega) (by omega) ?_
  refine va_putF (D := (dC, dI)) (ci := 5) (v := .ref aF) (ty := .array .int) (C := RX4) (T := TX4) (N := 20) hx hb hts inn_X4_init_X4 tyX4 tyX4_ok nmX4 hown hK hP hD hS 0 rfl rfl 17 (by decide) (hts (.fieldLink RX4 39 "DoorKeysModel" "frame" "[I") (by decide +kernel)) (fun _ h9 => h9) rfl hin rfl (by decide +kernel) rfl rfl (Nat.le_of_ble_eq_true rfl) dX4_init_80 (fun H locs hP hD hS => ?_)
  have hP : va_P (dC, dI) vwCl [(h0, .inr (5, [.int 0, .int 0, .int 0, .ref aS, .ref aC, .ref aW, .ref aL, .ref aN, .ref aI, .ref aB, .ref aD, .int 0, .long 0, .long 0, .int 0, .ref aU, .int 0, .ref aF, .int 0, .int 0])), (aS, .inl (cJ, 9, .inr (.inl (fun _ => 0)))), (aC, .inl (cI, 9, .inl (fun _ => 0))), (aW, .inl (c3, 9, .inl (fun _ => 0))), (aL, .inl (cZ, 9, .inl (fun _ => 0))), (aN, .inl (c5, 9, .inl (fun _ => 0))), (aI, .inl (c6, 9, .inl (fun _ => 0))), (aB, .inl (c7, 9, .inl (fun _ => 0))), (aD, .inl (c8, 5, .inl (fun _ => 0))), (aU, .inl (c9, 16, .inl (fun _ => 0))), (aF, .inl (c10, 16, .inl (fun _ => 0)))] H := hP
  have hD : va_D A [(h0, .inr (5, [.int 0, .int 0, .int 0, .ref aS, .ref aC, .ref aW, .ref aL, .ref aN, .ref aI, .ref aB, .ref aD, .int 0, .long 0, .long 0, .int 0, .ref aU, .int 0, .ref aF, .int 0, .int 0])), (aS, .inl (cJ, 9, .inr (.inl (fun _ => 0)))), (aC, .inl (cI, 9, .inl (fun _ => 0))), (aW, .inl (c3, 9, .inl (fun _ => 0))), (aL, .inl (cZ, 9, .inl (fun _ => 0))), (aN, .inl (c5, 9, .inl (fun _ => 0))), (aI, .inl (c6, 9, .inl (fun _ => 0))), (aB, .inl (c7, 9, .inl (fun _ => 0))), (aD, .inl (c8, 5, .inl (fun _ => 0))), (aU, .inl (c9, 16, .inl (fun _ => 0))), (aF, .inl (c10, 16, .inl (fun _ => 0)))] := hD
  have e2 : c3 = cI := Option.some.inj ((hK.2 2 _ rfl).2.symm.trans (hK.2 1 _ rfl).2)
  have e4 : c5 = cZ := Option.some.inj ((hK.2 4 _ rfl).2.symm.trans (hK.2 3 _ rfl).2)
  have e5 : c6 = cZ := Option.some.inj ((hK.2 5 _ rfl).2.symm.trans (hK.2 3 _ rfl).2)
  have e6 : c7 = cI := Option.some.inj ((hK.2 6 _ rfl).2.symm.trans (hK.2 1 _ rfl).2)
  have e7 : c8 = cI := Option.some.inj ((hK.2 7 _ rfl).2.symm.trans (hK.2 1 _ rfl).2)
  have e8 : c9 = cI := Option.some.inj ((hK.2 8 _ rfl).2.symm.trans (hK.2 1 _ rfl).2)
  have e9 : c10 = cI := Option.some.inj ((hK.2 9 _ rfl).2.symm.trans (hK.2 1 _ rfl).2)
  rw [e2] at hP hD
  rw [e4] at hP hD
  rw [e5] at hP hD
  rw [e6] at hP hD
  rw [e7] at hP hD
  rw [e8] at hP hD
  rw [e9] at hP hD
  have hP : va_P (dC, dI) vwCl (mdW0 cI cJ cZ h0 aS aC aW aL aN aI aB aD aU aF 0 (fun _ => 0)) H := hP
  have hD : va_D A (mdW0 cI cJ cZ h0 aS aC aW aL aN aI aB aD aU aF 0 (fun _ => 0)) := hD
  have hK : va_K (dC, dI) vwCl (mdT cI cJ cZ) s := hK.sub [1, 0, 3] rfl
  have lp : ∀ (r j : Nat) (dd : Nat → Int32), j + r = 5 → (∀ i, i < j → dd i = 1) → ∀ (H : Heap) (locs : List Loc), va_P (dC, dI) vwCl (mdW0 cI cJ cZ h0 aS aC aW aL aN aI aB aD aU aF (dk_span x) dd) H → va_D A (mdW0 cI cJ cZ h0 aS aC aW aL aN aI aB aD aU aF (dk_span x) dd) → va_S A s.heap H locs → ∀ ls : Array Slot, lv_has ls 3 [(2, .int (nI j)), (0, .ref h0)] → W p l e (headSpec wsX4_init rm_X4_init).room s m ([.ref h0, .int x] : List Value).toArray below meth c H locs 10 100 (MQ below (va_Qv (fun u : MDA => ∀ j, j < 5 → u.2.2.2.2.2.2.2.2.2.2.2.2.2 j = 1) (at_MD dC dI A h0 x) A) ([.ref h0, .int x] : List Value).toArray s 10 100 A) (F0 m 107 ls []) := by
    intro r
    induction r with
    | zero =>
      intro j dd hj hf H locs hP hD hS ls hl
      refine lv_iload_n hx hb dX4_init_107 rfl (lv_at hl 0 rfl) ?_
      refine lv_iconst (v := 5) hx hb dX4_init_108 (by decide) ?_
      refine lv_icmp_ge (tgt := 125) hx hb dX4_init_109 (by decide) (fun c_15 => ?_) (fun c_15 => (c_15 (nI_le (a := 5) (b := j) (by omega) (by omega))).elim)
      exact W.vret hx hb hr (fun t ht hW => ⟨⟨(cI, cJ, cZ, aS, aC, aW, aL, aN, aI, aB, aD, aU, aF, dd), rfl, fun i hi => hf i (by omega), by rw [ht]; exact hP, va_K.moved hW.alike hK, hD⟩, hS.F ht⟩) hS.2.2 dX4_init_125
    | succ r ih =>
      intro j dd hj hf H locs hP hD hS ls hl
      refine lv_iload_n hx hb dX4_init_107 rfl (lv_at hl 0 rfl) ?_
      refine lv_iconst (v := 5) hx hb dX4_init_108 (by decide) ?_
      refine lv_icmp_ge (tgt := 125) hx hb dX4_init_109 (by decide) (fun c_15 => (nI_ge (a := j) (b := 5) (by omega) (by omega) c_15).elim) (fun c_15 => ?_)
      refine lv_aload_n hx hb dX4_init_112 rfl (lv_at hl 1 rfl) ?_
      refine va_get (D := (dC, dI)) (ci := 5) (v := .ref aD) (C := RX4) (T := TX4) (N := 20) hx hb hts inn_X4_init_X4 hown hK hP 0 rfl rfl 10 (by decide) (hts (.fieldLink RX4 33 "DoorKeysModel" "door" "[I") (by decide +kernel)) (fun _ h9 => h9) rfl dX4_init_113 ?_
      refine lv_iload_n hx hb dX4_init_116 rfl (lv_at hl 0 rfl) ?_
      refine lv_iconst (v := 1) hx hb dX4_init_117 (by decide) ?_
      refine va_iast hx hb hK hP hD hS 8 0 rfl rfl (vp_in_nI (n := j) (N := 5) (by omega) (by decide)) dX4_init_118 (fun H locs hP hD hS => ?_)
      have hP : va_P (dC, dI) vwCl (mdW0 cI cJ cZ h0 aS aC aW aL aN aI aB aD aU aF (dk_span x) (upd dd (nI j).toNatClampNeg 1)) H := hP
      have hD : va_D A (mdW0 cI cJ cZ h0 aS aC aW aL aN aI aB aD aU aF (dk_span x) (upd dd (nI j).toNatClampNeg 1)) := hD
      refine lv_iinc (v := (nI (j + 1))) (lv' := [(2, .int (nI (j + 1))), (0, .ref h0)]) hx hb dX4_init_119 hl (k := 0) rfl (nI_1 _) (by decide) rfl (fun ls hl => ?_)
      refine lv_goto (tgt := 107) hx hb dX4_init_122 (by decide) ?_
      refine ih (j + 1) _ (by omega) (fun i hi => ?_) _ _ hP hD hS ls hl
      rw [nI_clamp (show j < 2 ^ 31 by omega)]
      by_cases h : i = j
      · rw [h]; exact pk_us
      · rw [pk_un h]; exact hf i (by omega)
  refine lv_aload_n hx hb dX4_init_83 rfl (lv_at hl 0 rfl) ?_
  refine lv_iload_n hx hb dX4_init_84 rfl (lv_at hl 1 rfl) ?_
  refine lv_iconst (v := 1) hx hb dX4_init_85 (by decide) ?_
  refine lv_icmp_lt (tgt := 100) hx hb dX4_init_86 (by decide) (fun c_7 => ?_) (fun c_7 => ?_)
  · have e1 : dk_span x = 16 := by unfold dk_span; exact if_pos c_7
    refine lv_bipush (v := 16) hx hb dX4_init_100 (by decide) ?_
    refine va_putF (D := (dC, dI)) (ci := 5) (v := .int 16) (ty := .int) (C := RX4) (T := TX4) (N := 20) hx hb hts inn_X4_init_X4 tyX4 tyX4_ok nmX4 hown hK hP hD hS 0 rfl rfl 1 (by decide) (hts (.fieldLink RX4 42 "DoorKeysModel" "span" "I") (by decide +kernel)) (fun _ h9 => h9) rfl hin rfl (by decide +kernel) rfl rfl (Nat.le_of_ble_eq_true rfl) dX4_init_102 (fun H locs hP hD hS => ?_)
    have hP : va_P (dC, dI) vwCl (mdW0 cI cJ cZ h0 aS aC aW aL aN aI aB aD aU aF (dk_span x) (fun _ => 0)) H := by rw [e1]; exact hP
    have hD : va_D A (mdW0 cI cJ cZ h0 aS aC aW aL aN aI aB aD aU aF (dk_span x) (fun _ => 0)) := by rw [e1]; exact hD
    refine lv_iconst (v := 0) hx hb dX4_init_105 (by decide) ?_
    refine lv_istore_n (lv' := [(2, .int 0), (0, .ref h0), (1, .int x)]) hx hb dX4_init_106 rfl hl (by decide) rfl (fun ls hl => ?_)
    exact lp 5 0 _ (by omega) (fun i hi => absurd hi (by omega)) _ _ hP hD hS ls (lv_sub hl [0, 1] rfl)
  · refine lv_iload_n hx hb dX4_init_89 rfl (lv_at hl 1 rfl) ?_
    refine lv_sipush (v := 32767) hx hb dX4_init_90 (by decide) ?_
    refine lv_icmp_gt (tgt := 100) hx hb dX4_init_93 (by decide) (fun c_14 => ?_) (fun c_14 => ?_)
    · have e1 : dk_span x = 16 := by unfold dk_span; exact (if_neg c_7).trans (if_pos c_14)
      refine lv_bipush (v := 16) hx hb dX4_init_100 (by decide) ?_
      refine va_putF (D := (dC, dI)) (ci := 5) (v := .int 16) (ty := .int) (C := RX4) (T := TX4) (N := 20) hx hb hts inn_X4_init_X4 tyX4 tyX4_ok nmX4 hown hK hP hD hS 0 rfl rfl 1 (by decide) (hts (.fieldLink RX4 42 "DoorKeysModel" "span" "I") (by decide +kernel)) (fun _ h9 => h9) rfl hin rfl (by decide +kernel) rfl rfl (Nat.le_of_ble_eq_true rfl) dX4_init_102 (fun H locs hP hD hS => ?_)
      have hP : va_P (dC, dI) vwCl (mdW0 cI cJ cZ h0 aS aC aW aL aN aI aB aD aU aF (dk_span x) (fun _ => 0)) H := by rw [e1]; exact hP
      have hD : va_D A (mdW0 cI cJ cZ h0 aS aC aW aL aN aI aB aD aU aF (dk_span x) (fun _ => 0)) := by rw [e1]; exact hD
      refine lv_iconst (v := 0) hx hb dX4_init_105 (by decide) ?_
      refine lv_istore_n (lv' := [(2, .int 0), (0, .ref h0), (1, .int x)]) hx hb dX4_init_106 rfl hl (by decide) rfl (fun ls hl => ?_)
      exact lp 5 0 _ (by omega) (fun i hi => absurd hi (by omega)) _ _ hP hD hS ls (lv_sub hl [0, 1] rfl)
    · have e1 : dk_span x = x := by unfold dk_span; exact (if_neg c_7).trans (if_neg c_14)
      refine lv_iload_n hx hb dX4_init_96 rfl (lv_at hl 1 rfl) ?_
      refine lv_goto (tgt := 102) hx hb dX4_init_97 (by decide) ?_
      refine va_putF (D := (dC, dI)) (ci := 5) (v := .int x) (ty := .int) (C := RX4) (T := TX4) (N := 20) hx hb hts inn_X4_init_X4 tyX4 tyX4_ok nmX4 hown hK hP hD hS 0 rfl rfl 1 (by decide) (hts (.fieldLink RX4 42 "DoorKeysModel" "span" "I") (by decide +kernel)) (fun _ h9 => h9) rfl hin rfl (by decide +kernel) rfl rfl (Nat.le_of_ble_eq_true rfl) dX4_init_102 (fun H locs hP hD hS => ?_)
      have hP : va_P (dC, dI) vwCl (mdW0 cI cJ cZ h0 aS aC aW aL aN aI aB aD aU aF (dk_span x) (fun _ => 0)) H := by rw [e1]; exact hP
      have hD : va_D A (mdW0 cI cJ cZ h0 aS aC aW aL aN aI aB aD aU aF (dk_span x) (fun _ => 0)) := by rw [e1]; exact hD
      refine lv_iconst (v := 0) hx hb dX4_init_105 (by decide) ?_
      refine lv_istore_n (lv' := [(2, .int 0), (0, .ref h0), (1, .int x)]) hx hb dX4_init_106 rfl hl (by decide) rfl (fun ls hl => ?_)
      exact lp 5 0 _ (by omega) (fun i hi => absurd hi (by omega)) _ _ hP hD hS ls (lv_sub hl [0, 1] rfl)
