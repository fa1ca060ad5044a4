/-! The two static rows of the doors' places: given at the start, never written. -/
def dk_px (j : Nat) : Int32 := if j < 2 then 1000 else if j < 4 then -500 else -2200
def dk_py (j : Nat) : Int32 := if j = 0 then 900 else if j = 1 then -900 else if j = 2 then 900 else if j = 3 then -900 else 0
def dk_S (tX tY : Nat) (A : Nat → Prop) (U : State) (H : Heap) : Prop := va_Z "DoorKeys$Doors" "PLACE_X" "[I" (.ref tX) A U H ∧ va_Z "DoorKeys$Doors" "PLACE_Y" "[I" (.ref tY) A U H ∧ va_T .int tX 5 (fun j => .int (dk_px j)) A U H ∧ va_T .int tY 5 (fun j => .int (dk_py j)) A U H
theorem dk_S.moved {tX tY : Nat} {A : Nat → Prop} {u U : State} {H : Heap} (hvm : u.vm.Alike U.vm) (h : dk_S tX tY A u H) : dk_S tX tY A U H := ⟨h.1.moved hvm, h.2.1.moved hvm, h.2.2.1.moved hvm, h.2.2.2.moved hvm⟩
theorem dk_S.kept {tX tY : Nat} {A : Nat → Prop} {U : State} {H H1 : Heap} (h : dk_S tX tY A U H) (hq : ∀ a : Nat, a < H.size → ¬ A a → H1[a]? = H[a]?) : dk_S tX tY A U H1 := ⟨h.1.kept hq, h.2.1.kept hq, h.2.2.1.kept hq, h.2.2.2.kept hq⟩
theorem dk_S.narrow {tX tY : Nat} {A B : Nat → Prop} {U : State} {H : Heap} (h : dk_S tX tY A U H) (hAB : ∀ q, B q → A q) : dk_S tX tY B U H := ⟨h.1.narrow hAB, h.2.1.narrow hAB, h.2.2.1.narrow hAB, h.2.2.2.narrow hAB⟩
theorem dk_S_at {tX tY : Nat} {A : Nat → Prop} {s : State} {H : Heap} {locs : List Loc} (h : dk_S tX tY A s s.heap) (hS : va_S A s.heap H locs) : dk_S tX tY (fun _ => False) s H := (h.kept hS.2.1).narrow (fun _ z => z.elim)
/-- a start that knows the static rows too -/
def up_PS (tX tY : Nat) (A : Nat → Prop) (D : va_G) (cl : List vw_C) (tys : List (ClassId × FieldType)) (ws : va_W) (av : List Value) : Array Value → State → Prop := va_Pc av (fun U => va_P D cl ws U.heap ∧ va_K D cl tys U ∧ va_D (fun _ => True) ws ∧ dk_S tX tY A U U.heap)
theorem up_blindS {tX tY : Nat} {A : Nat → Prop} {D : va_G} {cl : List vw_C} {tys : List (ClassId × FieldType)} {ws : va_W} {av : List Value} : FrameBlind (up_PS tX tY A D cl tys ws av) := fun a U g mk q => by
  obtain ⟨q0, qP, qK, qD, qS⟩ := q
  exact ⟨q0, qP, va_K.moved (u := U) (U := U.calling g mk a) (Vm.Alike.refl U.vm) qK, qD, dk_S.moved (u := U) (U := U.calling g mk a) (Vm.Alike.refl U.vm) qS⟩
theorem up_preVS {tX tY : Nat} {B : Nat → Prop} {D : va_G} {cl : List vw_C} {tys : List (ClassId × FieldType)} {ws : va_W} {As : List Value} {s : State} {H : Heap} {A : Nat → Prop} {C : String} {T : u_T} {N ci q0 b : Nat} {fs : List Value} (hP : va_P D cl ws H) (hK : va_K D cl tys s) (hD : va_D A ws) (hZ : dk_S tX tY B s H) (hc : cl[ci]? = some (C, T, N)) (he : ws[q0]? = some (b, .inr (ci, fs))) : PreV s H C b (up_PS tX tY B D cl tys ws (.ref b :: As)) As :=
  ⟨up_blindS, va_recv hK hP hc he, fun U hU hW => ⟨rfl, by rw [hU]; exact hP, va_K.moved hW.alike hK, hD.weaken (fun _ _ _ _ => trivial), by rw [hU]; exact hZ.moved hW.alike⟩⟩
