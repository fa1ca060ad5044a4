/-! octet, answered (laid by wip/gen.py) -/
set_option maxRecDepth 20000 in
theorem inn_X3_octet_X3 : ∀ w ∈ wsX30, w ∈ wsX3_octet := by decide +kernel
set_option maxRecDepth 20000 in
theorem inn_X3_octet_X1 : ∀ w ∈ wsX10, w ∈ wsX3_octet := by decide +kernel
theorem oc_nar (b : Int8) : narrow .byte (.int b.toInt32) = .int b.toInt32 := by
  have h := pk_nb b.toInt32
  rwa [Int8.toInt8_toInt32] at h
def dk_oct (oB : Nat → Int8) (x : Int32) : Int32 :=
  (oB x.toNatClampNeg).toInt32
def rm_X3_octY : Room := { frames := 1, cells := 0, slots := 0, locals := 60 }
set_option maxHeartbeats 4000000 in
set_option maxRecDepth 100000 in
theorem c_X3_octY (l : Launch) (dC : Nat → ClassId) (dI : Nat → Nat → Nat) (cK : ClassId) (cB : ClassId) (cI : ClassId) (o : Nat) (ks : Nat) (fa : Nat) (oa : Nat) (fb : Nat) (ob : Nat) (dr : Nat) (ds : Nat) (L : Nat → Nat) (n : Nat) (sp : Int32) (co : Nat) (cr : Int32) (rl : Int32) (qs : Int32) (kA : Int32) (oA : Nat → Int8) (kB : Int32) (oB : Nat → Int8) (tt : Int64) (ss : Int64) (st : Nat → Int32) (K : Nat → KR) (x : Int32) (hy : ¬ dk_fhas kB x = 0) : Met l yX3_octet wsX3_octet rm_X3_octY (up_P (dC, dI) vwCl (dkT cK cB cI) (dkW cK cB cI o ks fa oa fb ob dr ds L n sp co fb cr rl qs kA oA kB oB tt ss st K) [.ref o, .int x]) (k2_QcV (.int (dk_oct oB x))) 0 0 (fun _ => False) := by
  refine Met.ofW (cc := cX3_octet) (maxL := 2) (ret := (some .byte)) (by decide) rfl ?_
  intro p e s m args below meth c s₁ B hml hv
  obtain ⟨rfl, hP, hK, hD0⟩ := hv
  have hx := B.exec
  have hb := B.bytes
  have hr := B.returns
  have hts := atoms_spec (ws := wsX3_octet) B.pre
  have hown : s.vm.findClass RX3 = some m.cls := findClass_of_methodNamed B.named
  have hlocks := B.notSynchronized
  have hD := up_self hD0
  have hS : va_S (up_c (dkW cK cB cI o ks fa oa fb ob dr ds L n sp co fb cr rl qs kA oA kB oB tt ss st K)) s.heap s.heap [] := va_S.rf
  have hl := lv_entry ([.ref o, .int x]) (n := 2) (Nat.le_of_ble_eq_true rfl)
  rw [lg_entry_eq]
  generalize (lg_sl ([.ref o, .int x]) ++ List.replicate (2 - (lg_sl ([.ref o, .int x])).length) Slot.unset).toArray = ls at hl ⊢
  have hl : lv_has ls 2 [(0, .ref o), (1, .int x)] := hl
  refine lv_aload_n hx hb dX3_octet_0 rfl (lv_at hl 0 rfl) ?_
  refine va_get (D := (dC, dI)) (ci := 4) (v := .ref fb) (C := RX3) (T := TX3) (N := 9) hx hb hts inn_X3_octet_X3 hown hK hP 0 rfl rfl 4 (by decide) (hts (.fieldLink RX3 26 "DoorKeys" "ended" "LDoorKeys$Frame;") (by decide +kernel)) (fun _ h9 => h9) rfl dX3_octet_1 ?_
  refine lv_iload_n hx hb dX3_octet_4 rfl (lv_at hl 1 rfl) ?_
  refine up_read (W.runV (As := [.int x]) (rest := []) ⟨hx, hb, hml, hown, hts⟩ (c_X1_has l dC dI cK cB cI o ks fa oa fb ob dr ds L n sp co fb cr rl qs kA oA kB oB tt ss st K x) (cwV 1 hts gX3_octet_X1_has rfl rfl rfl (by decide +kernel) ⟨Nat.le_of_ble_eq_true rfl, Nat.le_of_ble_eq_true rfl⟩) (up_preV (q0 := 4) (ci := 2) hP hK hD rfl rfl) rfl rfl hl.1 rfl (lv_room (Nat.le_of_ble_eq_true rfl)) dX3_octet_5 ⟨Nat.le_of_ble_eq_true rfl, Nat.le_of_ble_eq_true rfl⟩) ?_
  refine lv_if_ne (tgt := 19) hx hb dX3_octet_8 (by decide) (fun c_8 => ?_) (fun c_8 => (hy c_8).elim)
  refine lv_aload_n hx hb dX3_octet_19 rfl (lv_at hl 0 rfl) ?_
  refine va_get (D := (dC, dI)) (ci := 4) (v := .ref fb) (C := RX3) (T := TX3) (N := 9) hx hb hts inn_X3_octet_X3 hown hK hP 0 rfl rfl 4 (by decide) (hts (.fieldLink RX3 26 "DoorKeys" "ended" "LDoorKeys$Frame;") (by decide +kernel)) (fun _ h9 => h9) rfl dX3_octet_20 ?_
  refine va_get (D := (dC, dI)) (ci := 2) (v := .ref ob) (C := RX1) (T := TX1) (N := 2) hx hb hts inn_X3_octet_X1 hown hK hP 4 rfl rfl 0 (by decide) (hts (.fieldLink RX3 156 "DoorKeys$Frame" "octets" "[B") (by decide +kernel)) (fun _ h9 => h9) rfl dX3_octet_23 ?_
  refine lv_iload_n hx hb dX3_octet_26 rfl (lv_at hl 1 rfl) ?_
  refine va_bald hx hb hK hP 5 1 rfl rfl (dk_fhas_in hy) dX3_octet_27 ?_
  have e_ : dk_oct oB x = (oB x.toNatClampNeg).toInt32 := by unfold dk_oct; exact rfl
  rw [e_]
  exact W.zret (v := (oB x.toNatClampNeg).toInt32) hx hb hr (oc_nar _) (fun t ht hW => ⟨rfl, ht⟩) (fun q h => absurd h List.not_mem_nil) dX3_octet_28
/-! octet, refused -/
def wsOT : List Cond := wsX3_octet ++ tk_at.filter goodWord
def rm_OT : Room := { frames := 7, cells := 1, slots := 6, locals := 100 }
def tk_P (D : va_G) (cl : List vw_C) (tys : List (ClassId × FieldType)) (ws : va_W) (av : List Value) : Array Value → State → Prop := va_Pc av (fun U => va_P D cl ws U.heap ∧ va_K D cl tys U ∧ va_D (fun _ => True) ws ∧ tk_N U)
theorem tk_blind {D : va_G} {cl : List vw_C} {tys : List (ClassId × FieldType)} {ws : va_W} {av : List Value} : FrameBlind (tk_P D cl tys ws av) := fun a U g mk q => by
  obtain ⟨q0, qP, qK, qD, qN⟩ := q
  exact ⟨q0, qP, va_K.moved (u := U) (U := U.calling g mk a) (Vm.Alike.refl U.vm) qK, qD, tk_N.moved (s := U) (U := U.calling g mk a) (State.WarmedH.refl U) (fun _ _ => rfl) qN⟩
theorem tk_preV {D : va_G} {cl : List vw_C} {tys : List (ClassId × FieldType)} {ws : va_W} {As : List Value} {s : State} {H : Heap} {A : Nat → Prop} {C : String} {T : u_T} {N ci q0 b : Nat} {fs : List Value} (hP : va_P D cl ws H) (hK : va_K D cl tys s) (hD : va_D A ws) (hN : tk_N s) (hkeep : ∀ q : Nat, q < s.heap.size → H[q]? = s.heap[q]?) (hc : cl[ci]? = some (C, T, N)) (he : ws[q0]? = some (b, .inr (ci, fs))) : PreV s H C b (tk_P D cl tys ws (.ref b :: As)) As :=
  ⟨tk_blind, va_recv hK hP hc he, fun U hU hW => ⟨rfl, by rw [hU]; exact hP, va_K.moved hW.alike hK, hD.weaken (fun _ _ _ _ => trivial), tk_N.moved hW (fun q hq => by rw [hU]; exact hkeep q hq) hN⟩⟩
set_option maxHeartbeats 4000000 in
set_option maxRecDepth 100000 in
theorem c_X3_octN (l : Launch) (hfl : l.flags = flags0) (dC : Nat → ClassId) (dI : Nat → Nat → Nat) (cK cB cI : ClassId) (o ks fa oa fb ob dr ds : Nat) (L : Nat → Nat) (n : Nat) (sp : Int32) (co : Nat) (cr rl qs kA : Int32) (oA : Nat → Int8) (kB : Int32) (oB : Nat → Int8) (tt ss : Int64) (st : Nat → Int32) (K : Nat → KR) (x : Int32) (hno : dk_fhas kB x = 0) : MetFree l yX3_octet (headSpec wsOT rm_OT) (tk_P (dC, dI) vwCl (dkT cK cB cI) (dkW cK cB cI o ks fa oa fb ob dr ds L n sp co fb cr rl qs kA oA kB oB tt ss st K) [.ref o, .int x]) (fun _ _ _ _ _ => True) tk_Q := by
  refine MetFree.of_bodyS (code := cX3_octet) (maxLocals := 2) (ret := some .byte) (by decide) ?_ ?_
  · intro args s m h hn
    obtain ⟨meth, c, h1, h2, h3, h4, h5, h6, -, -⟩ := Cond.code_spec hn (atoms_spec (ws := wsOT) h _ (by unfold wsOT; exact List.mem_append_left _ List.mem_cons_self))
    exact ⟨meth, c, h1, h2, h3, h4, h5, h6⟩
  · intro p e s m args below meth c s₁ B hml hP _
    obtain ⟨rfl, hP, hK, hD0, hN⟩ := hP
    have hh0 : s₁.heap = s.heap := by rw [B.state]; rfl
    have hx := B.exec
    have hb := B.bytes
    have hr := B.returns
    have hts9 := atoms_spec (ws := wsOT) B.pre
    have hts : ∀ w ∈ wsX3_octet, w.before ([.ref o, .int x] : List Value).toArray s = true := fun w h => hts9 w (by unfold wsOT; exact List.mem_append_left _ h)
    have hown : s.vm.findClass RX3 = some m.cls := findClass_of_methodNamed B.named
    have hlocks := B.notSynchronized
    have hemp : c.exceptionTable.isEmpty = true := B.noHandlers (hts9 (.code yX3_octet cX3_octet 2 (some .byte)) (by unfold wsOT; exact List.mem_append_left _ List.mem_cons_self))
    have hD := up_self hD0
    have key : W p l e (headSpec wsOT rm_OT).room s m ([.ref o, .int x] : List Value).toArray below meth c s.heap [] 0 0 (fun t => ∃ oc, t.status = .running ∧ Ended t below oc ∧ tk_Q ([.ref o, .int x] : List Value).toArray s oc t) (entryFrame m ([.ref o, .int x] : List Value).toArray 2) := by
      have hl := lv_entry ([.ref o, .int x]) (n := 2) (Nat.le_of_ble_eq_true rfl)
      rw [lg_entry_eq]
      generalize (lg_sl ([.ref o, .int x]) ++ List.replicate (2 - (lg_sl ([.ref o, .int x])).length) Slot.unset).toArray = ls at hl ⊢
      have hl : lv_has ls 2 [(0, .ref o), (1, .int x)] := hl
      refine lv_aload_n hx hb dX3_octet_0 rfl (lv_at hl 0 rfl) ?_
      refine va_get (D := (dC, dI)) (ci := 4) (v := .ref fb) (C := RX3) (T := TX3) (N := 9) hx hb hts inn_X3_octet_X3 hown hK hP 0 rfl rfl 4 (by decide) (hts (.fieldLink RX3 26 "DoorKeys" "ended" "LDoorKeys$Frame;") (by decide +kernel)) (fun _ h9 => h9) rfl dX3_octet_1 ?_
      refine lv_iload_n hx hb dX3_octet_4 rfl (lv_at hl 1 rfl) ?_
      refine up_read (W.runV (As := [.int x]) (rest := []) ⟨hx, hb, hml, hown, hts⟩ (c_X1_has l dC dI cK cB cI o ks fa oa fb ob dr ds L n sp co fb cr rl qs kA oA kB oB tt ss st K x) (cwV 1 hts gX3_octet_X1_has rfl rfl rfl (by decide +kernel) ⟨Nat.le_of_ble_eq_true rfl, Nat.le_of_ble_eq_true rfl⟩) (up_preV (q0 := 4) (ci := 2) hP hK hD rfl rfl) rfl rfl hl.1 rfl (lv_room (Nat.le_of_ble_eq_true rfl)) dX3_octet_5 ⟨Nat.le_of_ble_eq_true rfl, Nat.le_of_ble_eq_true rfl⟩) ?_
      refine lv_if_ne (tgt := 19) hx hb dX3_octet_8 (by decide) (fun c_8 => (c_8 hno).elim) (fun c_8 => ?_)
      refine W.newc hx hb hown (hts (.classLink RX3 153 RJx00060) (by decide +kernel)) (hts (.instantiable RJx00060 6) (by decide +kernel)) (hts (.initialized RJx00060) (by decide +kernel)) rfl dX3_octet_11 (Nat.le_of_ble_eq_true rfl) (Nat.le_of_ble_eq_true rfl) (fun cC kC h1 h2 h3 h4 => ?_)
      refine W.eq (g2 := F0 m 14 ls [.ref s.heap.size]) rfl ?_
      refine lv_dup hx hb dX3_octet_14 rfl ?_
      intro T hT X
      have htr : e.platform.stackTraces = false := Launch.traces_off hfl X.admits
      obtain ⟨U, a1, a2, a3, a4, a5, ce, a6, a7⟩ := X.ctorThrow0 hx htr (own := RX3) (cls := RJx00060) (names := tk_nm) (ic := 155) hown (by decide) (by decide) (fun w hw => by
          by_cases hg : goodWord w = true
          · exact hts9 w (by unfold wsOT; exact List.mem_append_right _ (List.mem_filter.mpr ⟨hw, hg⟩))
          · exact hN w (List.mem_filter.mpr ⟨hw, by simp [hg]⟩) _) (fun z hz => by cases hz) (a := s.heap.size) (cX := cC) (kX := kC) h1 h2 (by rw [hT]; simp [freshCell]) (Nat.le_refl _)
          (g := F0 m 15 ls [.ref s.heap.size, .ref s.heap.size]) rfl (hl.1.trans hml.symm) rfl rfl (rest := []) rfl (by rw [hb]; exact dX3_octet_15) (by rw [hb]; exact dX3_octet_18) (fun z hz => by
            rw [Array.isEmpty_iff] at hemp
            rw [hemp] at hz
            cases hz) (by show 3 + 3 < 7; decide) (by show 2 * 0 + 1 + (13 * (3 + 1) + 41) ≤ 100; decide) hlocks
      exact ⟨U, a1, _, a2, a3, s.heap.size, ce, rfl, a4, a5, a6, a7.vm, a7.cls, a7.self⟩
    obtain ⟨t, a1, oc, b1, b2, b3⟩ := key s₁ hh0 (Stand.of_body B)
    exact ⟨t, oc, a1, b1, b2, b3⟩
