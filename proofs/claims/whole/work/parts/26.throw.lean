/-! A call that ends by an exception, and the one row of a table that catches it. -/
/-- what a call that throws leaves: one new cell of six slots, the exception; nothing old is changed -/
def tk_Q : Array Value → State → Outcome → State → Prop := fun _ st o t => ∃ (q : Nat) (ce : Cell), o = .threw q ∧ st.WarmedH t.vm ∧ st.sameButNew ({ t with vm := st.vm } : State) [] 1 6 ∧ t.heap[q]? = some ce ∧ ce.vm = .none ∧ st.vm.findClass RJx00060 = some ce.cls ∧ st.vm.assignable ce.cls ce.cls = true
theorem tk_same {s t : State} {k n : Nat} (h : s.sameButNew t [] k n) : s.heap.size ≤ t.heap.size ∧ ∀ q : Nat, q < s.heap.size → t.heap[q]? = s.heap[q]? := by
  obtain ⟨-, h1, -, -, -, h6⟩ := h
  refine ⟨h1, fun q hq => ?_⟩
  have hc : s.heap[q]? = some s.heap[q] := Array.getElem?_eq_getElem hq
  obtain ⟨c', e1, e2, e3, e4⟩ := h6 q _ hc
  rw [e1, hc]
  have e5 : c'.slots = (s.heap[q]).slots := Array.ext_getElem? (fun i => e4 i (by simp))
  rw [e2, e5]
section TK
variable {p : Program} {l : Launch} {e : Env} {R : Room} {s : State} {m : MethodId} {args : Array Value} {below : List Frame} {meth : Method} {c : Code} {T : State} {locs : List Loc} {cells slots : Nat}
/-- the search through a table of one row whose class may yet be open -/
theorem tk_find {u : State} {f : JFrame} {a : Addr} {x : ExceptionTableEntry} {d : ClassId} {ce : Cell} (hm : u.vm.method? f.method = some meth) (hc : meth.code = some c) (ht : c.exceptionTable.toList = [x]) (hx : covers x f.pc = true) (h0 : x.catchType ≠ 0)
    (hl : u.vm.ClassLinks e.platform f.method.cls x.catchType d) (hce : u.heap[a]? = some ce) (hv : ∀ k, ce.vm ≠ .statics k) (h1 : ∃ k, u.vm.classes[ce.cls]? = some k) (h2 : ∃ k, u.vm.classes[d]? = some k) (hfit : u.vm.assignable ce.cls d = true) (Q : Handler → Pre) (E : CtlPost) (b : Bool) (acts : List Action) :
    wp (findHandler f a) Q E e b acts u ↔ Q (.found x.handlerPc) b acts (u.setVm (u.vm.noted f.method.cls x.catchType (.cls d))) := by
  rw [W.findHandler_eq hm hc, ht]
  have hal : u.vm.Alike (u.vm.noted f.method.cls x.catchType (.cls d)) := (Vm.Alike.refl u.vm).noted _ _ _
  obtain ⟨k1, g1⟩ := h1
  obtain ⟨k2, g2⟩ := h2
  obtain ⟨k3, g3, -⟩ := hal.2.2 _ _ g1
  obtain ⟨k4, g4, -⟩ := hal.2.2 _ _ g2
  have g5 : (u.vm.noted f.method.cls x.catchType (.cls d)).assignable ce.cls d = true := by rw [hal.assignable]; exact hfit
  obtain ⟨r1, r2⟩ := (resolveClass_links e.toSetting hl).op (op := VmOp.resolveClass f.method.cls x.catchType) rfl
  have hx' : (decide (x.startPc ≤ f.pc) && decide (f.pc < x.endPc)) = true := hx
  simp [findHandler.go, hx', h0, r1, r2, hce, hv, g3, g4, g5, VmOp.dirties, VmOp.acts]
/-- the walk goes on at the handler of that row -/
theorem tk_caught (X : Stand p l e R s m args below meth c T locs cells slots) {g : JFrame} (hg : g.method = m) {q : Nat} {ce : Cell} {x : ExceptionTableEntry} (ht : c.exceptionTable.toList = [x]) (hx : covers x g.pc = true) (h0 : x.catchType ≠ 0) {own E : String} (hown : s.vm.findClass own = some m.cls)
    (hlink : (Cond.classLink own x.catchType E).before args s = true) (hce : T.heap[q]? = some ce) (hv : ce.vm = .none) (hcl : s.vm.findClass E = some ce.cls) (hself : s.vm.assignable ce.cls ce.cls = true) :
    ∃ vm', Stand p l e R s m args below meth c (T.setVm vm') locs cells slots ∧ ∀ target, Steps p.tables e below ((T.setVm vm').setTop { g with pc := x.handlerPc, stack := [.ref q] }) target → Steps p.tables e below ((T.setTop g).pushFrame (.throwing q)) target := by
  have hpl : e.platform.magicAccessors = ({} : Platform).magicAccessors := by rw [X.admits.platform]
  obtain ⟨d, hd1, hd2⟩ := Cond.classLink_spec hown hlink e.platform hpl
  cases hcl.symm.trans hd1
  obtain ⟨dk, _, _, kt, hd, _, _, _, _, hkt, _, hopen⟩ := hd2.here
  have hl := X.warmed.classLinks hd2
  have hW : s.WarmedH (T.vm.noted m.cls x.catchType (.cls ce.cls)) := X.warmed.noted hd hopen (State.rightAt_cls hd2)
  have hal := X.warmed.alike
  obtain ⟨k1, hk1, -⟩ := hal.2.2 _ _ hkt
  have hfit : T.vm.assignable ce.cls ce.cls = true := by rw [hal.assignable]; exact hself
  refine ⟨_, X.noted hW, fun target hr => ?_⟩
  subst hg
  have hF := fun Q E b acts => tk_find (e := e) (u := (T.setTop g).pushFrame (.throwing q)) (f := g) (a := q) (meth := meth) (c := c) (x := x) (d := ce.cls) (ce := ce) X.method' X.code ht hx h0 hl hce (by rw [hv]; intro k hk; cases hk) ⟨k1, hk1⟩ ⟨k1, hk1⟩ hfit Q E b acts
  obtain ⟨hgo, hw⟩ := X.here.throwing q
  refine Steps.head hgo hw ?_
  obtain ⟨g₀, hg0⟩ := Option.isSome_iff_exists.mp X.here.top
  obtain ⟨r, hr0⟩ := State.topJava?_eq_some.mp hg0
  have hst : ∀ r' : List Frame, (stepThrowing e ((T.setTop g).pushFrame (.throwing q)) q (.java g :: r')).Is ((((T.setTop g).pushFrame (.throwing q)).setVm (T.vm.noted g.method.cls x.catchType (.cls ce.cls))).setFrames (.java { g with pc := x.handlerPc, stack := [.ref q] } :: r')) [] := by
    intro r'
    simp only [stepThrowing, searchFrame, vmDo]
    generalize hres : Sem.go _ e false [] ((T.setTop g).pushFrame (.throwing q)) = res
    obtain ⟨as, rfl, ha⟩ := Sem.eq_ok_of hres (a := Handler.found x.handlerPc) (s' := ((T.setTop g).pushFrame (.throwing q)).setVm (T.vm.noted g.method.cls x.catchType (.cls ce.cls))) (acts' := []) (by
      simp only [Sem.wp_bind', hF]
      simp [State.pushFrame])
    exact ⟨rfl, ha⟩
  rw [stepThread_throwing (frames_entered X.here.top _), (hst _).1]
  have hr' : (T.setVm (T.vm.noted g.method.cls x.catchType (.cls ce.cls))).frames = .java g₀ :: r := hr0
  rw [State.setTop_of_frames _ hr'] at hr
  have h3 : ∀ (u : State) (v : Vm) (F G : List Frame), ((u.setFrames F).setVm v).setFrames G = (u.setVm v).setFrames G := fun u v F G => by
    have : (u.setFrames F).setVm v = (u.setVm v).setFrames F := rfl
    rw [this, State.setFrames_setFrames]
  rw [hr0, List.tail_cons, State.pushFrame, h3, State.setTop_of_frames _ hr0, h3]
  exact hr
end TK
