/-! What is the same for every class: a contract of a method that makes nothing and writes at most the cells of its world; a call of it. -/
/-- the addresses of a world -/
def up_c (ws : va_W) : Nat → Prop := fun q => ∃ (k : Nat) (e : va_E), ws[k]? = some (q, e)
/-- the end of a method that returns v and leaves the world ws' where ws was -/
def up_Q (D : va_G) (cl : List vw_C) (v : Option Value) (ws ws' : va_W) : Array Value → State → Outcome → State → Prop := fun _ st o t => o = .returned v ∧ va_P D cl ws' t.heap ∧ va_F (up_c ws) st t
/-- the start of a method over the world ws -/
def up_P (D : va_G) (cl : List vw_C) (tys : List (ClassId × FieldType)) (ws : va_W) (av : List Value) : Array Value → State → Prop := va_Pc av (fun U => va_P D cl ws U.heap ∧ va_K D cl tys U ∧ va_D (fun _ => True) ws)
theorem up_cast {D : va_G} {cl : List vw_C} {ws ws' : va_W} {H : Heap} (h : ws = ws') (x : va_P D cl ws H) : va_P D cl ws' H := h ▸ x
theorem up_castD {A : Nat → Prop} {ws ws' : va_W} (h : ws = ws') (x : va_D A ws) : va_D A ws' := h ▸ x
theorem up_self {B : Nat → Prop} {ws : va_W} (h : va_D B ws) : va_D (up_c ws) ws := ⟨h.1, fun k q hq => ⟨k, q.2, hq⟩⟩
theorem up_Dfst {A : Nat → Prop} {ws ws' : va_W} (h : ws'.map Prod.fst = ws.map Prod.fst) (hD : va_D A ws) : va_D A ws' := by
  have key : ∀ (k : Nat) (q : Nat × va_E), ws'[k]? = some q → ∃ q0, ws[k]? = some q0 ∧ q0.1 = q.1 := by
    intro k q hk
    have h1 : (ws'.map Prod.fst)[k]? = some q.1 := by rw [List.getElem?_map, hk]; rfl
    rw [h, List.getElem?_map] at h1
    cases h2 : ws[k]? with
    | none => rw [h2] at h1; cases h1
    | some q0 => rw [h2] at h1; exact ⟨q0, rfl, Option.some.inj h1⟩
  refine ⟨fun i j x y hi hj hxy => ?_, fun k q hk => ?_⟩
  · obtain ⟨x0, h1, h2⟩ := key i x hi
    obtain ⟨y0, h3, h4⟩ := key j y hj
    exact hD.1 i j x0 y0 h1 h3 (h2.trans (hxy.trans h4.symm))
  · obtain ⟨q0, h1, h2⟩ := key k q hk
    rw [← h2]
    exact hD.2 k q0 h1
theorem up_blind {D : va_G} {cl : List vw_C} {tys : List (ClassId × FieldType)} {ws : va_W} {av : List Value} : FrameBlind (up_P D cl tys ws av) := fun a U g mk q => by
  obtain ⟨q0, qP, qK, qD⟩ := q
  exact ⟨q0, qP, va_K.moved (u := U) (U := U.calling g mk a) (Vm.Alike.refl U.vm) qK, qD⟩
theorem up_preS {D : va_G} {cl : List vw_C} {tys : List (ClassId × FieldType)} {ws : va_W} {av : List Value} {s : State} {H : Heap} {A : Nat → Prop} (hP : va_P D cl ws H) (hK : va_K D cl tys s) (hD : va_D A ws) : PreS s H (up_P D cl tys ws av) av :=
  ⟨up_blind, fun U hU hW => ⟨rfl, by rw [hU]; exact hP, va_K.moved hW.alike hK, hD.weaken (fun _ _ _ _ => trivial)⟩⟩
theorem up_preV {D : va_G} {cl : List vw_C} {tys : List (ClassId × FieldType)} {ws : va_W} {As : List Value} {s : State} {H : Heap} {A : Nat → Prop} {C : String} {T : u_T} {N ci q0 b : Nat} {fs : List Value} (hP : va_P D cl ws H) (hK : va_K D cl tys s) (hD : va_D A ws) (hc : cl[ci]? = some (C, T, N)) (he : ws[q0]? = some (b, .inr (ci, fs))) : PreV s H C b (up_P D cl tys ws (.ref b :: As)) As :=
  ⟨up_blind, va_recv hK hP hc he, (up_preS hP hK hD).2⟩
theorem up_dec (x : Int32) : x + Int32.ofInt (-1) = x - 1 := by
  rw [Int32.sub_eq_add_neg]; rfl
theorem up_b8 (f : Nat → Int8) (k : Nat) (b : Int8) : upd (fun j => (f j).toInt32) k (vp_nar .byte b.toInt32) = fun j => (va_up f k b j).toInt32 := by
  funext j
  rw [vp_nar_byte]
  by_cases h : j = k <;> simp [upd, va_up, h]
theorem up_in {x : Int32} {N : Nat} (hN : N < 2 ^ 31) (h0 : ¬ x < 0) (h1 : ¬ nI N ≤ x) : vp_in x N := by
  rw [vp_in_iff]
  have e := nI_toInt hN
  simp only [Int32.lt_iff_toInt_lt, Int32.le_iff_toInt_le] at h0 h1
  rw [e] at h1
  have z : (0 : Int32).toInt = 0 := rfl
  rw [z] at h0
  omega
section UP
variable {p : Program} {l : Launch} {e : Env} {R : Room} {s : State} {m : MethodId} {args : Array Value} {below : List Frame} {meth : Method} {c : Code} {H : Heap} {locs : List Loc} {cells slots : Nat} {Q : State → Prop} {pc : Nat} {ls : Array Slot} {st0 rest : List Value} {D : va_G} {cl : List vw_C} {A : Nat → Prop} {ws ws' : va_W} {H0 : Heap} {a : Array Value}
theorem up_read {r : Value} (hr : CallRun p l e R s m args below meth c H locs cells slots 0 0 (F0 m pc ls st0) rest (k2_QcV r a) (fun _ => False)) (kk : W p l e R s m args below meth c H locs cells slots Q (F0 m (pc + 3) ls (r :: rest))) : W p l e R s m args below meth c H locs cells slots Q (F0 m pc ls st0) := W.callV hr kk
theorem up_call {v : Option Value} (hr : CallRun p l e R s m args below meth c H locs cells slots 0 0 (F0 m pc ls st0) rest (up_Q D cl v ws ws' a) (up_c ws)) (hD : va_D A ws) (hS : va_S A H0 H locs) (hf : ws'.map Prod.fst = ws.map Prod.fst)
    (kk : ∀ (H1 : Heap) (locs1 : List Loc), va_P D cl ws' H1 → va_D A ws' → va_S A H0 H1 locs1 → H.size ≤ H1.size → (∀ q : Nat, q < H.size → ¬ up_c ws q → H1[q]? = H[q]?) → W p l e R s m args below meth c H1 locs1 cells slots Q (F0 m (pc + 3) ls (v.toList ++ rest))) : W p l e R s m args below meth c H locs cells slots Q (F0 m pc ls st0) := by
  intro T hT X
  obtain ⟨v', st₀, t, T', L, h0, X', hL, e1, ⟨hv, hP1, hF⟩, st⟩ := hr T hT X
  cases hv
  subst h0
  have hc : ∀ q, up_c ws q → A q := fun q h => by
    obtain ⟨k, e9, h9⟩ := h
    exact hD.2 k (q, e9) h9
  have hS1 : va_S A H0 t.heap (locs ++ L) := by
    refine ⟨Nat.le_trans hS.1 hF.1, fun q hq hn => ?_, fun q hq => ?_⟩
    · rw [hF.2 q (Nat.lt_of_lt_of_le hq hS.1) (fun h => hn (hc q h))]
      exact hS.2.1 q hq hn
    · rcases List.mem_append.mp hq with h1 | h1
      · exact hS.2.2 q h1
      · exact hc _ (hL q h1)
  obtain ⟨t2, a1, b1⟩ := kk t.heap (locs ++ L) hP1 (up_Dfst hf hD) hS1 hF.1 hF.2 T' e1 X'
  exact ⟨t2, st t2 a1, b1⟩
end UP
