/-! octet, refused: the exception is made and thrown; the words that its making needs. -/
def tk_nm : List String := ["java/lang/IndexOutOfBoundsException", "java/lang/RuntimeException", "java/lang/Exception"]
def tk_at : List Cond := Bundle.ownAtoms0 RX3 155 RJx00060 tk_nm
def tk_ng : List Cond := tk_at.filter (fun w => !goodWord w)
theorem tk_ng_eq : tk_ng = [.laysStatic Bundle.tN "UNASSIGNED_STACK" Bundle.steD, .laysStatic Bundle.tN "SUPPRESSED_SENTINEL" Bundle.listD, .declares (Bundle.init0 "java/lang/IndexOutOfBoundsException"), .declares (Bundle.init0 "java/lang/RuntimeException"), .declares (Bundle.init0 "java/lang/Exception"), .declares (Bundle.init0 Bundle.tN), .castable RJx00060 RJx00060, .isRef (.static Bundle.tN "UNASSIGNED_STACK" Bundle.steD), .isRef (.static Bundle.tN "SUPPRESSED_SENTINEL" Bundle.listD)] := by decide +kernel
/-- those of them that are no words of the tables alone -/
def tk_N (U : State) : Prop := ∀ w ∈ tk_ng, ∀ a : Array Value, w.before a U = true
theorem tk_tab {A A' : Array Value} {s U : State} {w : Cond} (hW : s.WarmedH U.vm) (ht : w.onTables = true) (hf : w.keepsFace = true) (h : w.before A s = true) : w.before A' U = true := by
  have h1 : w.before A (s.setVm U.vm) = true := Cond.before_shiftedFace (State.Shifted.of_warmed hW) _ hf h
  have h2 := Cond.onTables_vm (A := A) (A' := A') (U := s) (U' := U) U.vm w ht
  rw [State.setVm_self] at h2
  rw [← h2]
  exact h1
theorem tk_cast {A A' : Array Value} {s U : State} {a b : String} (hW : s.WarmedH U.vm) (h : (Cond.castable a b).before A s = true) : (Cond.castable a b).before A' U = true := by
  obtain ⟨c, d, h1, h2, h3⟩ := Cond.castable_spec h
  have hal := hW.alike
  simp [Cond.before, Cond.holds, Cond.value, hal.findClass, hal.assignable, h1, h2, h3]
theorem tk_ls {A A' : Array Value} {s U : State} {o n d : String} (hW : s.WarmedH U.vm) (hk : ∀ q : Nat, q < s.heap.size → U.heap[q]? = s.heap[q]?) (h : (Cond.laysStatic o n d).before A s = true) : (Cond.laysStatic o n d).before A' U = true := by
  have h1 : (Cond.laysStatic o n d).before A (s.setVm U.vm) = true := Cond.holds_shifted (State.Shifted.of_warmed hW) _ [] rfl h
  obtain ⟨c, k, i, f, a, cell, g1, g2, g3, g4, g5, g6, g7, g8, g9⟩ := Cond.laysStatic_spec h1
  have e1 : U.vm.findClass o = some c := g1
  have e2 : U.fieldFound? o n d = some (c, k, i, f) := g2
  have e5 : U.heap[a]? = some cell := by rw [hk a (Array.getElem?_eq_some_iff.mp g5).1]; exact g5
  simp [Cond.before, Cond.holds, Cond.value, e1, e2, g3, g4, e5, g6, g7, g8, g9]
theorem tk_rs {A A' A2 : Array Value} {s U : State} {o n d : String} (hW : s.WarmedH U.vm) (hk : ∀ q : Nat, q < s.heap.size → U.heap[q]? = s.heap[q]?) (hl : (Cond.laysStatic o n d).before A2 s = true) (h : (Cond.isRef (.static o n d)).before A s = true) : (Cond.isRef (.static o n d)).before A' U = true := by
  have h1 : (Cond.isRef (.static o n d)).before A (s.setVm U.vm) = true := Cond.holds_shifted (State.Shifted.of_warmed hW) _ [] rfl h
  have h2 : (Cond.laysStatic o n d).before A2 (s.setVm U.vm) = true := Cond.holds_shifted (State.Shifted.of_warmed hW) _ [] rfl hl
  obtain ⟨c, k, i, f, a, cell, g1, g2, g3, g4, g5, g6, g7, g8, g9⟩ := Cond.laysStatic_spec h2
  cases hv : (Term.static o n d).eval A (s.setVm U.vm) none [] (s.setVm U.vm) with
  | none => simp [Cond.before, Cond.holds, Cond.value, hv] at h1
  | some v =>
    obtain ⟨hst', a', cell', ha', hcell', -, hslot⟩ := Term.static_spec g2 hv
    cases g4.symm.trans ha'
    cases g5.symm.trans hcell'
    have e2 : U.fieldFound? o n d = some (c, k, i, f) := g2
    have e5 : U.heap[a]? = some cell := by rw [hk a (Array.getElem?_eq_some_iff.mp g5).1]; exact g5
    have ev : (Term.static o n d).eval A' U none [] U = some v := by
      simp [Term.eval, State.fieldNamed?, e2, g3, g4, e5, g6, hslot]
    simp only [Cond.before, Cond.holds, Cond.value, hv] at h1
    simp only [Cond.before, Cond.holds, Cond.value, ev]
    exact h1
theorem tk_N.moved {s U : State} (hW : s.WarmedH U.vm) (hk : ∀ q : Nat, q < s.heap.size → U.heap[q]? = s.heap[q]?) (h : tk_N s) : tk_N U := by
  intro w hw a
  have h0 := h
  unfold tk_N at h0
  rw [tk_ng_eq] at hw h0
  simp only [List.mem_cons, List.not_mem_nil, or_false] at hw
  rcases hw with rfl | rfl | rfl | rfl | rfl | rfl | rfl | rfl | rfl
  · exact tk_ls hW hk (h0 _ (by simp) a)
  · exact tk_ls hW hk (h0 _ (by simp) a)
  · exact tk_tab hW rfl rfl (h0 _ (by simp) a)
  · exact tk_tab hW rfl rfl (h0 _ (by simp) a)
  · exact tk_tab hW rfl rfl (h0 _ (by simp) a)
  · exact tk_tab hW rfl rfl (h0 _ (by simp) a)
  · exact tk_cast hW (h0 _ (by simp) a)
  · exact tk_rs hW hk (h0 (.laysStatic Bundle.tN "UNASSIGNED_STACK" Bundle.steD) (by simp) a) (h0 _ (by simp) a)
  · exact tk_rs hW hk (h0 (.laysStatic Bundle.tN "SUPPRESSED_SENTINEL" Bundle.listD) (by simp) a) (h0 _ (by simp) a)
section TC
variable {p : Program} {l : Launch} {e : Env} {R : Room} {s : State} {m : MethodId} {args : Array Value} {below : List Frame} {meth : Method} {c : Code} {H : Heap} {locs : List Loc} {cells slots : Nat} {Q : State → Prop}
  {Ts ws : List Cond} {cc bytes : ByteArray} {nL maxL index n pc : Nat} {own C : String} {y : MethodName} {ret : Option FieldType} {rm : Room} {Pc : Array Value → State → Prop} {b : Addr} {As rest st0 : List Value} {ls : Array Slot}
/-- a call that throws, caught by the one row of this method's table -/
theorem tk_call (S : CallFix p m c cc nL s args Ts own) (hM : MetFree l y (headSpec ws rm) Pc (fun _ _ _ _ _ => True) tk_Q) (cw : CallW R s args own C index y bytes maxL ret ws rm 1 6 n) (hp : PreV s H C b Pc As)
    (hn : As.length = n) (hsize : ls.size = nL) (hstack : st0 = As.reverse ++ .ref b :: rest) (hW : (rest.map fun v => v.category).sum ≤ 8) (hdg : decode cc pc = .ok (.invokevirtual index, 3)) (hf : cells + 1 ≤ R.cells ∧ slots + 6 ≤ R.slots)
    {x : ExceptionTableEntry} (ht : c.exceptionTable.toList = [x]) (hx : covers x pc = true) (h0 : x.catchType ≠ 0) (hlink : (Cond.classLink own x.catchType RJx00060).before args s = true)
    (kk : ∀ (q : Nat) (H1 : Heap), H.size ≤ H1.size → (∀ z : Nat, z < H.size → H1[z]? = H[z]?) → W p l e R s m args below meth c H1 locs (cells + 1) (slots + 6) Q (F0 m x.handlerPc ls [.ref q])) :
    W p l e R s m args below meth c H locs cells slots Q (F0 m pc ls st0) := by
  intro T hT X
  obtain ⟨⟨hrc, hrs, hfr, hlo, hws, hcw, hcode, hini, hy, hlen, hl⟩, hin, hse⟩ := cw
  obtain ⟨hx0, hb, hml, ho, -⟩ := S
  obtain ⟨hbl, ⟨cellB, hcB, hoB, hclB⟩, hPc⟩ := hp
  obtain ⟨mk, methM, hnamed, hmethM, hstM, habM⟩ := Cond.instanceMethod_spec hin
  obtain ⟨methM', cM, hmethM', -, -, -, -, -, -, hsigM⟩ := Cond.code_spec hnamed hcode
  cases hmethM.symm.trans hmethM'
  obtain ⟨c2, r2, m2, q1, q2, q3, q4, kP, hkP, hkPi⟩ := Cond.selects_spec hse
  cases hclB.symm.trans q1
  cases (State.methodFound?_of_named hnamed hy).symm.trans q2
  cases hnamed.symm.trans q3
  have hselP : selectMethod e.platform s.vm cellB.cls mk = .method mk := by rw [Launch.admits_selectMethod X.admits]; exact q4
  obtain ⟨vm₁, X₁, hstep₁⟩ := X.invokevirtual hx0 ho hl hnamed hmethM hstM hkP hkPi hy (a := b) (cell := cellB) (by rw [hT]; exact hcB) (fun z h => by rw [h] at hoB; cases hoB) hselP hmethM habM hkP hkPi (g := F0 m pc ls st0) rfl (argsL := As) (rest := rest) (hn.trans (hlen _ hsigM)) hstack (by rw [hb]; exact hdg)
  have hU : (T.setVm vm₁).heap = H := hT
  have hnamed₁ := X₁.named hnamed
  obtain ⟨methY, cY, hmY, hcY, -, hlY, -, -, -, -⟩ := Cond.code_spec hnamed₁ (hws _ hcw (Value.ref b :: As).toArray _ X₁.warmed)
  obtain ⟨kY, hkY, -⟩ := className_of_methodNamed hnamed₁
  have hiniU : (Cond.initialized y.cls).before (Value.ref b :: As).toArray (T.setVm vm₁) = true := word_at X₁.warmed (Or.inl rfl) hini
  have hinitY : kY.init = .initialized := Cond.initialized_spec (findClass_of_methodNamed hnamed₁) hkY hiniU
  have hAt : At (T.setVm vm₁) (F0 m pc ls rest).method c below := X₁.here
  have happ : (headSpec ws rm).appliesLoose y e.platform ((T.setVm vm₁).calling (F0 m pc ls rest) mk (Value.ref b :: As).toArray) = true :=
    Spec.appliesLoose_calling (g := F0 m pc ls rest) hAt (by rw [hb]; exact hdg) hnamed₁ hkY hinitY
      (X₁.room_calling (g := F0 m pc ls rest) (R' := (headSpec ws rm).room) (hsize.trans hml.symm) hmY hcY hfr (by
        rw [hlY]
        show 2 * 0 + (rest.map fun v => v.category).sum + (maxL + 11) + rm.locals ≤ R.locals
        omega) (by rw [show (headSpec ws rm).room.cells = 1 from hrc]; exact hf.1) (by rw [show (headSpec ws rm).room.slots = 6 from hrs]; exact hf.2)) (atoms_intro fun w hw => hws w hw _ _ X₁.warmed)
  obtain ⟨mid, hmid⟩ := hAt.above
  have hfr' : ((T.setVm vm₁).setTop (F0 m pc ls rest)).frames = (.java (F0 m pc ls rest) :: mid) ++ below := by rw [State.frames_setTop' _ hAt.top, hmid]; rfl
  obtain ⟨o, s₂, hsteps, -, hend, hq⟩ := Steps.callFree hM p X₁.admits X₁.cas X₁.clock (acts := []) hfr' happ (hbl _ _ (F0 m pc ls rest) mk (hPc _ hU X₁.warmed)) trivial
  obtain ⟨q, ce, rfl, hW2, hsm, hce, hv, hcl, hself⟩ := hq
  rw [State.frames_setTop' _ hAt.top, X₁.tail] at hend
  obtain ⟨T', X', hWT, hsmT, ht'⟩ := X₁.outOfThrown (g := F0 m pc ls rest) rfl (mk := mk) (a := (Value.ref b :: As).toArray) (t := s₂) (x := q) (L := []) (k := 1) (n := 6) hend hW2 hsm
  have hal := X₁.warmed.alike
  have hce' : T'.heap[q]? = some ce := by rw [ht', Stand.throwing_heap] at hce; exact hce
  have hcl' : s.vm.findClass RJx00060 = some ce.cls := by rw [← hal.findClass]; exact hcl
  have hself' : s.vm.assignable ce.cls ce.cls = true := by rw [← hal.assignable]; exact hself
  obtain ⟨vm', X'', hst⟩ := tk_caught X' (g := F0 m pc ls rest) rfl ht hx h0 ho hlink hce' hv hcl' hself'
  obtain ⟨hz, hkeep⟩ := tk_same hsmT
  rw [List.append_nil] at X''
  obtain ⟨t, a1, b1⟩ := kk q T'.heap (by rw [← hU]; exact hz) (fun z hz2 => by rw [← hU] at hz2 ⊢; exact hkeep z hz2) (T'.setVm vm') rfl X''
  refine ⟨t, hstep₁ _ fun acts => ?_, b1⟩
  rw [doInvoke_state]
  refine hsteps.trans ?_
  rw [ht']
  exact hst t a1
end TC
