/-! What the law's cases stand on. -/
abbrev lw_A (s : State) : Nat → Prop := fun z => s.heap.size ≤ z
/-- what the whole walk of the law has at hand -/
def lw_E (p : Program) (l : Launch) (s : State) (m : MethodId) (c : Code) (dC : Nat → ClassId) (dI : Nat → Nat → Nat) (b L : Nat) (xs : Nat → Int32) (cK cB cI cJ cZ : ClassId) (tX tY : Nat) : Prop :=
  p.tables.exec = Jvm.exec ∧ c.code = code ∧ c.maxLocals = 7 ∧ s.vm.findClass RL = some m.cls ∧ (∀ w ∈ lw_tbl, w.before #[Value.ref b] s = true) ∧ va_X b L xs s s.heap ∧ b < s.heap.size ∧ ¬ lw_A s b ∧ va_K (dC, dI) vwCl (lw_T cK cB cI cJ cZ) s ∧ tk_N s ∧ dk_S tX tY (lw_A s) s s.heap ∧ l.flags = flags0 ∧ L ≤ 4097
theorem lw_ix {i L : Nat} (k : Nat) (hk : k < 8) (h : i + 8 ≤ L) (hL : L ≤ 4097) : vp_in (nI i + nI k) L := by
  rw [nI_add]
  exact vp_in_nI (by omega) (by omega)
theorem lw_S {tX tY : Nat} {A : Nat → Prop} {s : State} {H : Heap} {locs : List Loc} {w1 w2 : va_W} (hZ : dk_S tX tY A s s.heap) (hS : va_S A s.heap H locs) (hD : va_D A (w1 ++ w2)) : dk_S tX tY (up_c w1) s H := (hZ.kept hS.2.1).narrow (fun z hz => by
  obtain ⟨k, e9, h9⟩ := hz
  exact (up_leftD hD).2 k (z, e9) h9)
theorem up_s {A : Nat → Prop} {w1 w2 w3 : va_W} (h : va_D A (w1 ++ (w2 ++ w3))) : va_D A (w1 ++ (w3 ++ w2)) := by
  have h1 : va_D A ((w1 ++ w2) ++ (w3 ++ [])) := by rw [List.append_nil, List.append_assoc]; exact h
  have h2 := up_3 h1
  rw [List.append_nil] at h2
  exact up_3 h2
theorem up_4 {A : Nat → Prop} {w1 w2 w3 : va_W} (h : va_D A (w1 ++ (w2 ++ w3))) : va_D A ((w1 ++ w3) ++ w2) := by
  rw [List.append_assoc]
  exact up_s h
theorem up_5 {A : Nat → Prop} {w1 w2 w3 : va_W} (h : va_D A ((w1 ++ w3) ++ w2)) : va_D A (w1 ++ (w2 ++ w3)) := by
  rw [List.append_assoc] at h
  exact up_s h
theorem up_2 {D : va_G} {cl : List vw_C} {w1 w2 : va_W} {H : Heap} (h1 : va_P D cl w1 H) (h2 : va_P D cl w2 H) : va_P D cl (w1 ++ w2) H := h1.app h2
theorem lw_swapD {A : Nat → Prop} {cK cB cI : ClassId} {o ks fa oa fb ob dr ds : Nat} {L : Nat → Nat} {n : Nat} {sp : Int32} {co en : Nat} {cr rl qs kA : Int32} {oA : Nat → Int8} {kB : Int32} {oB : Nat → Int8} {tt ss : Int64} {st : Nat → Int32} {K : Nat → KR} {wr : va_W} (h : va_D A (dkW cK cB cI o ks fa oa fb ob dr ds L n sp co en cr rl qs kA oA kB oB tt ss st K ++ wr)) : va_D A (dkW cK cB cI o ks fb ob fa oa dr ds L n sp co en cr rl qs kB oB kA oA tt ss st K ++ wr) := by
  refine va_D.by h (fun k => match k with | 2 => 4 | 3 => 5 | 4 => 2 | 5 => 3 | k => k) ?_ ?_
  · intro k q hk
    match k, hk with
    | 0, hk => exact hk
    | 1, hk => exact hk
    | 2, hk => exact hk
    | 3, hk => exact hk
    | 4, hk => exact hk
    | 5, hk => exact hk
    | 6, hk => exact hk
    | 7, hk => exact hk
    | k + 8, hk => exact hk
  · intro i j _ _ hij
    match i, j, hij with
    | 0, 0, _ | 1, 1, _ | 2, 2, _ | 3, 3, _ | 4, 4, _ | 5, 5, _ | 6, 6, _ | 7, 7, _ => rfl
    | i + 6, j + 6, hij => exact hij
    | 0, j + 6, hij | 1, j + 6, hij | 2, j + 6, hij | 3, j + 6, hij | 4, j + 6, hij | 5, j + 6, hij => simp at hij; try omega
    | i + 6, 0, hij | i + 6, 1, hij | i + 6, 2, hij | i + 6, 3, hij | i + 6, 4, hij | i + 6, 5, hij => simp at hij; try omega
    | 0, 1, hij | 0, 2, hij | 0, 3, hij | 0, 4, hij | 0, 5, hij | 1, 0, hij | 1, 2, hij | 1, 3, hij | 1, 4, hij | 1, 5, hij | 2, 0, hij | 2, 1, hij | 2, 3, hij | 2, 4, hij | 2, 5, hij | 3, 0, hij | 3, 1, hij | 3, 2, hij | 3, 4, hij | 3, 5, hij | 4, 0, hij | 4, 1, hij | 4, 2, hij | 4, 3, hij | 4, 5, hij | 5, 0, hij | 5, 1, hij | 5, 2, hij | 5, 3, hij | 5, 4, hij => simp at hij
theorem lw_free {s : State} {H : Heap} {locs : List Loc} {w1 w2 : va_W} (hD : va_D (lw_A s) (w1 ++ w2)) (hS : va_S (lw_A s) s.heap H locs) : ∀ z, va_A w1 H.size z → lw_A s z := by
  intro z hz
  rcases hz with ⟨k, e9, h9⟩ | h
  · exact (up_leftD hD).2 k (z, e9) h9
  · exact Nat.le_trans hS.1 h
theorem lw_joinN {D : va_G} {cl : List vw_C} {A : Nat → Prop} {w1 w1' w2 w3 : va_W} {H H1 : Heap} (hP2 : va_P D cl w2 H) (hP3 : va_P D cl w3 H) (hD : va_D A (w1 ++ (w2 ++ w3))) (hk : ∀ q : Nat, q < H.size → ¬ va_A w1 H.size q → H1[q]? = H[q]?) (hF : ∀ z, va_A w1 H.size z → A z) (hD1 : va_D (va_A w1 H.size) w1') : va_P D cl (w2 ++ w3) H1 ∧ va_D A (w1' ++ (w2 ++ w3)) := by
  have hP := hP2.app hP3
  have key : ∀ (k : Nat) (q : Nat × va_E), (w2 ++ w3)[k]? = some q → q.1 < H.size ∧ ¬ va_A w1 H.size q.1 := by
    intro k q hq
    have hl := (hP k q hq).lt
    refine ⟨hl, fun h => ?_⟩
    rcases h with h | h
    · exact lw_apart hD k q hq h
    · omega
  refine ⟨hP.kept (fun k q hq => hk q.1 (key k q hq).1 (key k q hq).2), va_D.app (hD1.weaken (fun k q _ h => hF q.1 h)) (up_rightD hD) (fun i j x y hx hy hxy => ?_)⟩
  exact (key j y hy).2 (by rw [← hxy]; exact hD1.2 i x hx)
theorem lw_keep3 {D : va_G} {cl : List vw_C} {s : State} {w1 w2 w3 : va_W} {H H1 : Heap} {locs : List Loc} (h1 : va_P D cl w1 H) (h2 : va_P D cl w2 H) (h3 : va_P D cl w3 H) (hS : va_S (lw_A s) s.heap H locs) (hz : H.size ≤ H1.size) (hk : ∀ z : Nat, z < H.size → H1[z]? = H[z]?) : va_P D cl w1 H1 ∧ va_P D cl w2 H1 ∧ va_P D cl w3 H1 ∧ va_S (lw_A s) s.heap H1 locs :=
  ⟨h1.kept (fun k q hq => hk q.1 (h1 k q hq).lt), h2.kept (fun k q hq => hk q.1 (h2 k q hq).lt), h3.kept (fun k q hq => hk q.1 (h3 k q hq).lt), Nat.le_trans hS.1 hz, fun q hq hn => (hk q (Nat.lt_of_lt_of_le hq hS.1)).trans (hS.2.1 q hq hn), hS.2.2⟩
theorem lw_preN {D : va_G} {cl : List vw_C} {tys : List (ClassId × FieldType)} {ws : va_W} {av : List Value} {s : State} {H : Heap} {A : Nat → Prop} {locs : List Loc} (hP : va_P D cl ws H) (hK : va_K D cl tys s) (hD : va_D A ws) (hN : tk_N s) (hS : va_S (lw_A s) s.heap H locs) : PreS s H (tk_P D cl tys ws av) av :=
  ⟨tk_blind, fun U hU hW => ⟨rfl, by rw [hU]; exact hP, va_K.moved hW.alike hK, hD.weaken (fun _ _ _ _ => trivial), tk_N.moved hW (fun q hq => by rw [hU]; exact hS.2.1 q hq (Nat.not_le.mpr hq)) hN⟩⟩
set_option maxRecDepth 20000 in
theorem tk_at_in : ∀ w ∈ tk_at.filter goodWord, w ∈ lw_tbl := by decide +kernel
set_option maxRecDepth 20000 in
theorem lw_c13 : Cond.classLink RL 13 RJx00060 ∈ lw_tbl := by decide +kernel
theorem gLaw_LO : GoodIn lw_tbl (va_wsS RL 81 yL_octet wsLO) := by
  intro w h
  unfold va_wsS wsLO at h
  rw [← List.append_assoc] at h
  rcases List.mem_append.mp h with h | h
  · exact ⟨wsL_law_in w (gL_law_L_octet w h).1, (gL_law_L_octet w h).2⟩
  · rcases List.mem_cons.mp h with h | h
    · subst h
      exact ⟨lw_c13, Or.inl rfl⟩
    · exact ⟨tk_at_in w h, tk_goodF h⟩
section LO
variable {p : Program} {l : Launch} {e : Env} {R : Room} {s : State} {m : MethodId} {args : Array Value} {below : List Frame} {meth : Method} {c : Code} {H : Heap} {locs : List Loc} {cells slots : Nat} {Q : State → Prop}
  {Ts ws ws' : List Cond} {cc bytes : ByteArray} {nL maxL index n mc ms pc : Nat} {own : String} {y : MethodName} {ret : Option FieldType} {hh : List (Nat × Nat × Nat × Nat)} {rm : Room} {Pc : Array Value → State → Prop} {Qc : Array Value → State → Outcome → State → Prop} {free : Addr → Prop} {As rest st0 : List Value} {ls : Array Slot}
/-- a static call of a method with a table of handlers -/
theorem lw_runW (S : CallFix p m c cc nL s args Ts own) (hM : Met l y ws rm Pc Qc mc ms free) (hG : GoodIn Ts (va_wsS own index y ws)) (hw : ws = Cond.codeWith y bytes maxL ret hh :: ws') (hrc : rm.cells = mc) (hrs : rm.slots = ms) (hd : y.cls ≠ "java/lang/invoke/MethodHandle" ∧ y.cls ≠ "java/lang/invoke/VarHandle" ∧ (parseMethodDescriptor y.desc).map (fun d => d.parameters.length) = some n) (hRm : rm.frames + 1 ≤ R.frames ∧ 8 + (maxL + 11) + rm.locals ≤ R.locals) (hp : PreS s H Pc As)
    (hn : As.length = n) (hsize : ls.size = nL) (hstack : st0 = As.reverse ++ rest) (hW : (rest.map fun v => v.category).sum ≤ 8) (hdg : decode cc pc = .ok (.invokestatic index, 3)) (hf : cells + mc ≤ R.cells ∧ slots + ms ≤ R.slots) :
    CallRun p l e R s m args below meth c H locs cells slots mc ms (F0 m pc ls st0) rest (Qc As.toArray) free := by
  obtain ⟨hx, hb, hml, ho, hts⟩ := S
  have ok : ∀ w ∈ va_wsS own index y ws, w.before args s = true := fun w h => hts w (hG w h).1
  have hlink : (Cond.methodLink own index y).before args s = true := ok _ (by simp [va_wsS])
  have hstat : (Cond.static y).before args s = true := ok _ (by simp [va_wsS])
  have hini : (Cond.initialized y.cls).before args s = true := ok _ (by simp [va_wsS])
  have hcw : Cond.codeWith y bytes maxL ret hh ∈ ws := by rw [hw]; exact List.mem_cons_self
  have hcode : (Cond.codeWith y bytes maxL ret hh).before args s = true := ok _ (by unfold va_wsS; exact List.mem_append_right _ hcw)
  have hws : ∀ w ∈ ws, ∀ (a' : Array Value) (U : State), s.WarmedH U.vm → w.before a' U = true := fun w h a' U hW => word_at hW (hG w (by unfold va_wsS; exact List.mem_append_right _ h)).2 (ok w (by unfold va_wsS; exact List.mem_append_right _ h))
  have hK : Back l R p e below s args y 3 8 (PreOf R mc ms Pc) (PostOf Qc mc ms free) := va_backW (hh := hh) hM hp.1 hrc hrs hRm.1 hRm.2 hws hcw (fun a' U hW => word_at hW (Or.inl rfl) hini)
  intro T hT X
  obtain ⟨mk, methM, cM, hnamed, hmethM, -, -, -, -, -, -, hsigM⟩ := Cond.codeWith_spec hcode
  have hstatic : methM.isStatic = true := Cond.static_spec hnamed hmethM hstat
  obtain ⟨kP, hkP, -⟩ := className_of_methodNamed hnamed
  have hinitP : kP.init = .initialized := Cond.initialized_spec (findClass_of_methodNamed hnamed) hkP hini
  have hlen : As.length = methM.sig.parameters.length := by
    have h2 := hd.2.2
    rw [hsigM] at h2
    exact hn.trans (Option.some.inj h2).symm
  obtain ⟨vm₁, X₁, hstep₁⟩ := X.invokestatic hx ho hlink hnamed hmethM hstatic hkP hinitP ⟨hd.1, hd.2.1⟩ (g := F0 m pc ls st0) rfl (argsL := As) (rest := rest) hlen hstack (by rw [hb]; exact hdg)
  obtain ⟨v, ⟨U', l2, c2, s2⟩, X', ⟨g', mk', t, L, e1, e2, hq, h1, hL, h2, h3⟩, hsteps⟩ := hK m meth c ⟨T.setVm vm₁, locs, cells, slots⟩ (F0 m pc ls rest) (.invokestatic index) mk As.toArray X₁ rfl (hsize.trans hml.symm) (by rw [hb]; exact hdg) (by show 2 * 0 + (rest.map fun v => v.category).sum ≤ 8; omega) (X₁.named hnamed) ⟨hf.1, hf.2, hp.2 (T.setVm vm₁) hT X₁.warmed⟩
  dsimp only [Pt.U, Pt.locs, Pt.cells, Pt.slots] at X' e1 e2 h1 h2 h3 hsteps
  subst h1; subst h2; subst h3
  exact ⟨v, (T.setVm vm₁).calling g' mk' As.toArray, t, U', L, hT, X', hL, e1, hq, fun target h => hstep₁ _ fun acts => by rw [doInvoke_state]; exact hsteps.trans h⟩
variable {b : Nat}
theorem lw_octN (hx : p.tables.exec = Jvm.exec) (hb : c.code = code) (hml : c.maxLocals = 7) (hown : s.vm.findClass RL = some m.cls) (hts0 : ∀ w ∈ lw_tbl, w.before #[Value.ref b] s = true) (hM : Met l yL_octet wsLO rm_LON Pc (fun _ st oc t => oc = .returned (some (.int 1)) ∧ va_F (fun _ => False) st t) 1 6 (fun _ => False)) (hp : PreS s H Pc As)
    (hn : As.length = 3) (hsize : ls.size = 7) (hstack : st0 = As.reverse ++ rest) (hW : (rest.map fun v => v.category).sum ≤ 8) (hdg : decode code pc = .ok (.invokestatic 81, 3)) (hf : cells + 1 ≤ 670060 ∧ slots + 6 ≤ 7085891)
    (kk : ∀ H1 : Heap, H.size ≤ H1.size → (∀ z : Nat, z < H.size → H1[z]? = H[z]?) → W p l e room_1 s m #[Value.ref b] below meth c H1 locs (cells + 1) (slots + 6) Q (F0 m (pc + 3) ls (.int 1 :: rest))) : W p l e room_1 s m #[Value.ref b] below meth c H locs cells slots Q (F0 m pc ls st0) := by
  have hr := lw_runW (R := room_1) (e := e) (below := below) (meth := meth) (locs := locs) (cells := cells) (slots := slots) (As := As) (rest := rest) (st0 := st0) (n := 3) (nL := 7) (maxL := 4) ⟨hx, hb, hml, hown, hts0⟩ hM gLaw_LO rfl rfl rfl (by decide +kernel) ⟨Nat.le_of_ble_eq_true rfl, Nat.le_of_ble_eq_true rfl⟩ hp hn hsize hstack hW hdg hf
  intro T hT X
  obtain ⟨v, st₀, t, T', L, h0, X', hL, e1, ⟨hv, hF⟩, st⟩ := hr T hT X
  cases hv
  subst h0
  have X2 : Stand p l e room_1 s m #[Value.ref b] below meth c T' locs (cells + 1) (slots + 6) := Stand.forget X' (fun q h => (hL q h).elim)
  obtain ⟨t2, a1, b1⟩ := kk t.heap hF.1 (fun z hz => hF.2 z hz (fun z => z)) T' e1 X2
  exact ⟨t2, st t2 a1, b1⟩
theorem lw_octY {D : va_G} {cl : List vw_C} {A : Nat → Prop} {w1 w1' w2 : va_W} {H0 : Heap} (hx : p.tables.exec = Jvm.exec) (hb : c.code = code) (hml : c.maxLocals = 7) (hown : s.vm.findClass RL = some m.cls) (hts0 : ∀ w ∈ lw_tbl, w.before #[Value.ref b] s = true) (hM : Met l yL_octet wsLO rm_LOY Pc (up_Q D cl (some (.int 0)) w1 w1') 0 0 (up_c w1)) (hp : PreS s H Pc As)
    (hn : As.length = 3) (hsize : ls.size = 7) (hstack : st0 = As.reverse ++ rest) (hW : (rest.map fun v => v.category).sum ≤ 8) (hdg : decode code pc = .ok (.invokestatic 81, 3)) (hf : cells + 0 ≤ 670060 ∧ slots + 0 ≤ 7085891) (hP2 : va_P D cl w2 H) (hD : va_D A (w1 ++ w2)) (hS : va_S A H0 H locs) (hfst : w1'.map Prod.fst = w1.map Prod.fst)
    (kk : ∀ (H1 : Heap) (locs1 : List Loc), va_P D cl w1' H1 → va_P D cl w2 H1 → va_D A (w1' ++ w2) → va_S A H0 H1 locs1 → W p l e room_1 s m #[Value.ref b] below meth c H1 locs1 cells slots Q (F0 m (pc + 3) ls (.int 0 :: rest))) : W p l e room_1 s m #[Value.ref b] below meth c H locs cells slots Q (F0 m pc ls st0) := by
  have hr := lw_runW (R := room_1) (e := e) (below := below) (meth := meth) (locs := locs) (cells := cells) (slots := slots) (As := As) (rest := rest) (st0 := st0) (n := 3) (nL := 7) (maxL := 4) ⟨hx, hb, hml, hown, hts0⟩ hM gLaw_LO rfl rfl rfl (by decide +kernel) ⟨Nat.le_of_ble_eq_true rfl, Nat.le_of_ble_eq_true rfl⟩ hp hn hsize hstack hW hdg hf
  refine up_call hr (up_leftD hD) hS hfst (fun H1 locs1 hP1 _ hS1 hz hk => ?_)
  exact kk H1 locs1 hP1 (hP2.kept (fun k q hq => hk q.1 (hP2 k q hq).lt (lw_apart hD k q hq))) (lw_fst hfst hD) hS1
end LO
