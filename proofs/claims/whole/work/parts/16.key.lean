/-! key, refused (laid by wip/gen.py) -/
set_option maxRecDepth 20000 in
theorem inn_X3_key_X3 : ∀ w ∈ wsX30, w ∈ wsX3_key := by decide +kernel
/-- a key is taken -/
abbrev dk_keyOK (n : Nat) (K : Nat → KR) (x y : Int64) : Prop := ¬ (lg_cmp y 0) < 0 ∧ (lg_cmp y 65535) ≤ 0 ∧ (dk_isSec n K x) = 0 ∧ nI n < 8
def dk_keyN (n : Nat) (K : Nat → KR) (x : Int64) (y : Int64) : Int32 :=
  if (lg_cmp y 0) < 0 then
    ((-2) : Int32)
  else
    if (lg_cmp y 65535) ≤ 0 then
      if dk_isSec n K x = 0 then
        ((-4) : Int32)
      else
        ((-3) : Int32)
    else
      ((-2) : Int32)
def rm_X3_keyN : Room := { frames := 2, cells := 0, slots := 0, locals := 100 }
set_option maxHeartbeats 4000000 in
set_option maxRecDepth 100000 in
theorem c_X3_keyN (l : Launch) (dC : Nat → ClassId) (dI : Nat → Nat → Nat) (cK : ClassId) (cB : ClassId) (cI : ClassId) (o : Nat) (ks : Nat) (fa : Nat) (oa : Nat) (fb : Nat) (ob : Nat) (dr : Nat) (ds : Nat) (L : Nat → Nat) (n : Nat) (sp : Int32) (co : Nat) (en : Nat) (cr : Int32) (rl : Int32) (qs : Int32) (kA : Int32) (oA : Nat → Int8) (kB : Int32) (oB : Nat → Int8) (tt : Int64) (ss : Int64) (st : Nat → Int32) (K : Nat → KR) (x : Int64) (y : Int64) (hn : n ≤ 8) (hno : ¬ dk_keyOK n K x y) : Met l yX3_key wsX3_key rm_X3_keyN (up_P (dC, dI) vwCl (dkT cK cB cI) (dkW cK cB cI o ks fa oa fb ob dr ds L n sp co en cr rl qs kA oA kB oB tt ss st K) [.ref o, .long x, .long y]) (k2_QcV (.int (dk_keyN n K x y))) 0 0 (fun _ => False) := by
  refine Met.ofW (cc := cX3_key) (maxL := 5) (ret := (some .int)) (by decide) rfl ?_
  intro p e s m args below meth c s₁ B hml hv
  obtain ⟨rfl, hP, hK, hD0⟩ := hv
  have hx := B.exec
  have hb := B.bytes
  have hr := B.returns
  have hts := atoms_spec (ws := wsX3_key) B.pre
  have hown : s.vm.findClass RX3 = some m.cls := findClass_of_methodNamed B.named
  have hlocks := B.notSynchronized
  have hD := up_self hD0
  have hS : va_S (up_c (dkW cK cB cI o ks fa oa fb ob dr ds L n sp co en cr rl qs kA oA kB oB tt ss st K)) s.heap s.heap [] := va_S.rf
  have hl := lv_entry ([.ref o, .long x, .long y]) (n := 5) (Nat.le_of_ble_eq_true rfl)
  rw [lg_entry_eq]
  generalize (lg_sl ([.ref o, .long x, .long y]) ++ List.replicate (5 - (lg_sl ([.ref o, .long x, .long y])).length) Slot.unset).toArray = ls at hl ⊢
  have hl : lv_has ls 5 [(0, .ref o), (1, .long x), (3, .long y)] := hl
  refine lv_lload_n hx hb dX3_key_0 rfl (lv_at hl 2 rfl) ?_
  refine lv_lconst (v := 0) hx hb dX3_key_1 (by decide) ?_
  refine W.lcmp hx hb dX3_key_2 ?_
  refine lv_if_lt (tgt := 14) hx hb dX3_key_3 (by decide) (fun c_3 => ?_) (fun c_3 => ?_)
  · refine lv_bipush (v := (-2)) hx hb dX3_key_14 (by decide) ?_
    have e_ : dk_keyN n K x y = ((-2) : Int32) := by unfold dk_keyN; exact (if_pos c_3).trans rfl
    rw [e_]
    exact W.iret (v := (-2)) hx hb hr (fun t ht hW => ⟨rfl, ht⟩) (fun q h => absurd h List.not_mem_nil) dX3_key_16
  · refine lv_lload_n hx hb dX3_key_6 rfl (lv_at hl 2 rfl) ?_
    refine lv_ldc2 (v := 65535) hx hb hown (hts (.constantLong RX3 36 65535) (by decide +kernel)) dX3_key_7 ?_
    refine W.lcmp hx hb dX3_key_10 ?_
    refine lv_if_le (tgt := 17) hx hb dX3_key_11 (by decide) (fun c_11 => ?_) (fun c_11 => ?_)
    · refine lv_aload_n hx hb dX3_key_17 rfl (lv_at hl 0 rfl) ?_
      refine lv_lload_n hx hb dX3_key_18 rfl (lv_at hl 1 rfl) ?_
      refine up_read (W.runV (As := [.long x]) (rest := []) ⟨hx, hb, hml, hown, hts⟩ (c_X3_isSecretOfAKey l dC dI cK cB cI o ks fa oa fb ob dr ds L n sp co en cr rl qs kA oA kB oB tt ss st K x hn) (cwV 1 hts gX3_key_X3_isSecretOfAKey rfl rfl rfl (by decide +kernel) ⟨Nat.le_of_ble_eq_true rfl, Nat.le_of_ble_eq_true rfl⟩) (up_preV (q0 := 0) (ci := 4) hP hK hD rfl rfl) rfl rfl hl.1 rfl (lv_room (Nat.le_of_ble_eq_true rfl)) dX3_key_19 ⟨Nat.le_of_ble_eq_true rfl, Nat.le_of_ble_eq_true rfl⟩) ?_
      refine lv_if_eq (tgt := 28) hx hb dX3_key_22 (by decide) (fun c_22 => ?_) (fun c_22 => ?_)
      · refine lv_aload_n hx hb dX3_key_28 rfl (lv_at hl 0 rfl) ?_
        refine va_get (D := (dC, dI)) (ci := 4) (v := .int (nI n)) (C := RX3) (T := TX3) (N := 9) hx hb hts inn_X3_key_X3 hown hK hP 0 rfl rfl 2 (by decide) (hts (.fieldLink RX3 42 "DoorKeys" "keyCount" "I") (by decide +kernel)) (fun _ h9 => h9) rfl dX3_key_29 ?_
        refine lv_aload_n hx hb dX3_key_32 rfl (lv_at hl 0 rfl) ?_
        refine va_get (D := (dC, dI)) (ci := 4) (v := .ref ks) (C := RX3) (T := TX3) (N := 9) hx hb hts inn_X3_key_X3 hown hK hP 0 rfl rfl 1 (by decide) (hts (.fieldLink RX3 15 "DoorKeys" "keys" "[LDoorKeys$Key;") (by decide +kernel)) (fun _ h9 => h9) rfl dX3_key_33 ?_
        refine va_alen (v := 8) hx hb hK hP 1 0 rfl rfl rfl dX3_key_36 ?_
        refine lv_icmp_lt (tgt := 43) hx hb dX3_key_37 (by decide) (fun c_37 => (hno ⟨c_3, c_11, c_22, c_37⟩).elim) (fun c_37 => ?_)
        refine lv_bipush (v := (-4)) hx hb dX3_key_40 (by decide) ?_
        have e_ : dk_keyN n K x y = ((-4) : Int32) := by unfold dk_keyN; exact (if_neg c_3).trans ((if_pos c_11).trans ((if_pos c_22).trans rfl))
        rw [e_]
        exact W.iret (v := (-4)) hx hb hr (fun t ht hW => ⟨rfl, ht⟩) (fun q h => absurd h List.not_mem_nil) dX3_key_42
      · refine lv_bipush (v := (-3)) hx hb dX3_key_25 (by decide) ?_
        have e_ : dk_keyN n K x y = ((-3) : Int32) := by unfold dk_keyN; exact (if_neg c_3).trans ((if_pos c_11).trans ((if_neg c_22).trans rfl))
        rw [e_]
        exact W.iret (v := (-3)) hx hb hr (fun t ht hW => ⟨rfl, ht⟩) (fun q h => absurd h List.not_mem_nil) dX3_key_27
    · refine lv_bipush (v := (-2)) hx hb dX3_key_14 (by decide) ?_
      have e_ : dk_keyN n K x y = ((-2) : Int32) := by unfold dk_keyN; exact (if_neg c_3).trans ((if_neg c_11).trans rfl)
      rw [e_]
      exact W.iret (v := (-2)) hx hb hr (fun t ht hW => ⟨rfl, ht⟩) (fun q h => absurd h List.not_mem_nil) dX3_key_16
set_option maxRecDepth 20000 in
theorem inn_X3_key_X2 : ∀ w ∈ wsX20, w ∈ wsX3_key := by decide +kernel
def dk_l2 (n : Nat) : Int32 := if 2 ≤ nI n then 0 else 1
theorem kpool_push (L : Nat → Nat) (K : Nat → KR) (n q : Nat) (r : KR) : kpool (va_up L n q) (va_up K n r) (n + 1) = kpool L K n ++ [(q, kcell r)] := by
  unfold kpool
  rw [List.range_succ, List.map_append]
  congr 1
  · apply List.map_congr_left
    intro i hi
    have h : i ≠ n := Nat.ne_of_lt (List.mem_range.mp hi)
    rw [va_up_ne L q h, va_up_ne K r h]
  · simp [va_up_self]
theorem dk_fpush (L : Nat → Nat) (n q : Nat) : va_up (fun i => if i < n then some (L i) else none) n (some q) = fun i => if i < n + 1 then some (va_up L n q i) else none := by
  funext i
  by_cases h : i = n
  · subst h
    simp [va_up]
  · have h2 : i < n + 1 ↔ i < n := by omega
    simp [va_up, h, h2]
theorem dk_push {cK cB cI : ClassId} {o ks fa oa fb ob dr ds : Nat} {L : Nat → Nat} {n : Nat} {sp : Int32} {co en : Nat} {cr rl qs kA : Int32} {oA : Nat → Int8} {kB : Int32} {oB : Nat → Int8} {tt ss : Int64} {st : Nat → Int32} {K : Nat → KR} {q : Nat} {r : KR} (hn : n < 8) : (((dkW cK cB cI o ks fa oa fb ob dr ds L n sp co en cr rl qs kA oA kB oB tt ss st K) ++ [(q, kcell r)]).set 1 (ks, .inl (cK, 8, .inr (.inr (.inr (.inr (va_up (fun i => if i < n then some (L i) else none) (nI n).toNatClampNeg (some q)))))))).set 0 (o, .inr (4, [.int sp, .ref ks, .int (nI (n + 1)), .ref co, .ref en, .ref dr, .int cr, .int rl, .int qs])) = (dkW cK cB cI o ks fa oa fb ob dr ds (va_up L n q) (n + 1) sp co en cr rl qs kA oA kB oB tt ss st (va_up K n r)) := by
  rw [nI_clamp (show n < 2 ^ 31 by omega), dk_fpush]
  unfold dkW
  rw [kpool_push]
  rfl
theorem dk_newat {cK cB cI : ClassId} {o ks fa oa fb ob dr ds : Nat} {L : Nat → Nat} {n : Nat} {sp : Int32} {co en : Nat} {cr rl qs kA : Int32} {oA : Nat → Int8} {kB : Int32} {oB : Nat → Int8} {tt ss : Int64} {st : Nat → Int32} {K : Nat → KR} {q : Nat} {e : va_E} : ((dkW cK cB cI o ks fa oa fb ob dr ds L n sp co en cr rl qs kA oA kB oB tt ss st K) ++ [(q, e)])[n + 8]? = some (q, e) := by
  unfold dkW
  show (kpool L K n ++ [(q, e)])[n]? = _
  have hl : (kpool L K n).length = n := by simp [kpool]
  rw [List.getElem?_append_right (by omega), hl, Nat.sub_self]
  rfl
section UL
variable {p : Program} {l : Launch} {e : Env} {R : Room} {s : State} {m : MethodId} {args : Array Value} {below : List Frame} {meth : Method} {c : Code} {H : Heap} {locs : List Loc} {cells slots : Nat} {Q : State → Prop} {pc : Nat} {ls : Array Slot} {st0 rest : List Value} {D : va_G} {cl : List vw_C} {A : Nat → Prop} {w0 : va_W} {H0 : Heap} {a : Array Value}
/-- a call that is given the last cell of the world alone -/
theorem up_calllast {v : Option Value} {q : Nat} {e1 e2 : va_E} (hr : CallRun p l e R s m args below meth c H locs cells slots 0 0 (F0 m pc ls st0) rest (up_Q D cl v [(q, e1)] [(q, e2)] a) (up_c [(q, e1)])) (hP : va_P D cl (w0 ++ [(q, e1)]) H) (hD : va_D A (w0 ++ [(q, e1)])) (hS : va_S A H0 H locs)
    (kk : ∀ (H1 : Heap) (locs1 : List Loc), va_P D cl (w0 ++ [(q, e2)]) H1 → va_D A (w0 ++ [(q, e2)]) → va_S A H0 H1 locs1 → W p l e R s m args below meth c H1 locs1 cells slots Q (F0 m (pc + 3) ls (v.toList ++ rest))) : W p l e R s m args below meth c H locs cells slots Q (F0 m pc ls st0) := by
  have hlast : (w0 ++ [(q, e1)])[w0.length]? = some (q, e1) := by simp
  have hD1 : va_D A [(q, e1)] := by
    refine ⟨fun i j x y hi hj _ => ?_, fun k z hk => ?_⟩
    · have h1 := (List.getElem?_eq_some_iff.mp hi).1
      have h2 := (List.getElem?_eq_some_iff.mp hj).1
      simp at h1 h2
      omega
    · have h1 := (List.getElem?_eq_some_iff.mp hk).1
      simp at h1
      subst h1
      cases hk
      exact hD.2 _ _ hlast
  refine up_call hr hD1 hS rfl (fun H1 locs1 hP1 _ hS1 hz hk => ?_)
  have hmem : ∀ z, up_c [(q, e1)] z → z = q := by
    intro z hz
    obtain ⟨k, e9, h9⟩ := hz
    have := List.mem_of_getElem? h9
    simp at this
    exact this.1
  refine kk H1 locs1 ?_ (up_Dfst (by simp) hD) hS1
  refine va_P.app (fun k z hk2 => ?_) hP1
  have hk3 : (w0 ++ [(q, e1)])[k]? = some z := by rw [List.getElem?_append_left (List.getElem?_eq_some_iff.mp hk2).1]; exact hk2
  have hlt := (hP k z hk3).lt
  refine (hP k z hk3).kept (hk z.1 hlt (fun hz => ?_))
  have := hD.1 k w0.length z (q, e1) hk3 hlast (hmem _ hz)
  have := (List.getElem?_eq_some_iff.mp hk2).1
  omega
end UL
def rm_X3_keyY : Room := { frames := 2, cells := 1, slots := 7, locals := 100 }
set_option maxHeartbeats 4000000 in
set_option maxRecDepth 100000 in
theorem c_X3_keyY (l : Launch) (dC : Nat → ClassId) (dI : Nat → Nat → Nat) (cK cB cI : ClassId) (o ks fa oa fb ob dr ds : Nat) (L : Nat → Nat) (n : Nat) (sp : Int32) (co en : Nat) (cr rl qs kA : Int32) (oA : Nat → Int8) (kB : Int32) (oB : Nat → Int8) (tt ss : Int64) (st : Nat → Int32) (K : Nat → KR) (sz : Nat) (x y : Int64) (hn : n ≤ 8) (hok : dk_keyOK n K x y) : Met l yX3_key wsX3_key rm_X3_keyY (va_Pc [.ref o, .long x, .long y] (fun U => U.heap.size = sz ∧ va_P (dC, dI) vwCl (dkW cK cB cI o ks fa oa fb ob dr ds L n sp co en cr rl qs kA oA kB oB tt ss st K) U.heap ∧ va_K (dC, dI) vwCl (dkT cK cB cI) U ∧ va_D (fun _ => True) (dkW cK cB cI o ks fa oa fb ob dr ds L n sp co en cr rl qs kA oA kB oB tt ss st K))) (va_Qi (fun (r : Int32) (_ : Nat) => r = nI (n + 1)) (fun (u : Nat) (t : State) => va_P (dC, dI) vwCl (dkW cK cB cI o ks fa oa fb ob dr ds (va_up L n u) (n + 1) sp co en cr rl qs kA oA kB oB tt ss st (va_up K n (x, y.toInt32, -1, dk_l2 n, 0, 0, 0))) t.heap ∧ va_D (va_A (dkW cK cB cI o ks fa oa fb ob dr ds L n sp co en cr rl qs kA oA kB oB tt ss st K) sz) (dkW cK cB cI o ks fa oa fb ob dr ds (va_up L n u) (n + 1) sp co en cr rl qs kA oA kB oB tt ss st (va_up K n (x, y.toInt32, -1, dk_l2 n, 0, 0, 0)))) (va_A (dkW cK cB cI o ks fa oa fb ob dr ds L n sp co en cr rl qs kA oA kB oB tt ss st K) sz)) 1 7 (va_A (dkW cK cB cI o ks fa oa fb ob dr ds L n sp co en cr rl qs kA oA kB oB tt ss st K) sz) := by
  refine Met.ofW (cc := cX3_key) (maxL := 5) (ret := (some .int)) (by decide) rfl ?_
  intro p e s m args below meth c s₁ B hml hv
  obtain ⟨rfl, hsz, hP, hK, hD0⟩ := hv
  have hx := B.exec
  have hb := B.bytes
  have hr := B.returns
  have hts := atoms_spec (ws := wsX3_key) B.pre
  have hown : s.vm.findClass RX3 = some m.cls := findClass_of_methodNamed B.named
  have hlocks := B.notSynchronized
  subst hsz
  have hD := hD0.self (sz := s.heap.size)
  generalize hAe : va_A (dkW cK cB cI o ks fa oa fb ob dr ds L n sp co en cr rl qs kA oA kB oB tt ss st K) s.heap.size = A at hD ⊢
  have hA : ∀ q : Nat, s.heap.size ≤ q → A q := fun q h => by rw [← hAe]; exact Or.inr h
  have hS : va_S A s.heap s.heap [] := va_S.rf
  have hn8 : n < 8 := (nI_ltI (a := n) (b := 8) (by omega) (by decide)).mp hok.2.2.2
  have hl := lv_entry ([.ref o, .long x, .long y]) (n := 5) (Nat.le_of_ble_eq_true rfl)
  rw [lg_entry_eq]
  generalize (lg_sl ([.ref o, .long x, .long y]) ++ List.replicate (5 - (lg_sl ([.ref o, .long x, .long y])).length) Slot.unset).toArray = ls at hl ⊢
  have hl : lv_has ls 5 [(0, .ref o), (1, .long x), (3, .long y)] := hl
  refine lv_lload_n hx hb dX3_key_0 rfl (lv_at hl 2 rfl) ?_
  refine lv_lconst (v := 0) hx hb dX3_key_1 (by decide) ?_
  refine W.lcmp hx hb dX3_key_2 ?_
  refine lv_if_lt (tgt := 14) hx hb dX3_key_3 (by decide) (fun c_3 => (hok.1 c_3).elim) (fun c_3 => ?_)
  refine lv_lload_n hx hb dX3_key_6 rfl (lv_at hl 2 rfl) ?_
  refine lv_ldc2 (v := 65535) hx hb hown (hts (.constantLong RX3 36 65535) (by decide +kernel)) dX3_key_7 ?_
  refine W.lcmp hx hb dX3_key_10 ?_
  refine lv_if_le (tgt := 17) hx hb dX3_key_11 (by decide) (fun c_11 => ?_) (fun c_11 => (c_11 hok.2.1).elim)
  refine lv_aload_n hx hb dX3_key_17 rfl (lv_at hl 0 rfl) ?_
  refine lv_lload_n hx hb dX3_key_18 rfl (lv_at hl 1 rfl) ?_
  refine up_read (W.runV (As := [.long x]) (rest := []) ⟨hx, hb, hml, hown, hts⟩ (c_X3_isSecretOfAKey l dC dI cK cB cI o ks fa oa fb ob dr ds L n sp co en cr rl qs kA oA kB oB tt ss st K x hn) (cwV 1 hts gX3_key_X3_isSecretOfAKey rfl rfl rfl (by decide +kernel) ⟨Nat.le_of_ble_eq_true rfl, Nat.le_of_ble_eq_true rfl⟩) (up_preV (q0 := 0) (ci := 4) hP hK hD rfl rfl) rfl rfl hl.1 rfl (lv_room (Nat.le_of_ble_eq_true rfl)) dX3_key_19 ⟨Nat.le_of_ble_eq_true rfl, Nat.le_of_ble_eq_true rfl⟩) ?_
  refine lv_if_eq (tgt := 28) hx hb dX3_key_22 (by decide) (fun c_22 => ?_) (fun c_22 => (c_22 hok.2.2.1).elim)
  refine lv_aload_n hx hb dX3_key_28 rfl (lv_at hl 0 rfl) ?_
  refine va_get (D := (dC, dI)) (ci := 4) (v := .int (nI n)) (C := RX3) (T := TX3) (N := 9) hx hb hts inn_X3_key_X3 hown hK hP 0 rfl rfl 2 (by decide) (hts (.fieldLink RX3 42 "DoorKeys" "keyCount" "I") (by decide +kernel)) (fun _ h9 => h9) rfl dX3_key_29 ?_
  refine lv_aload_n hx hb dX3_key_32 rfl (lv_at hl 0 rfl) ?_
  refine va_get (D := (dC, dI)) (ci := 4) (v := .ref ks) (C := RX3) (T := TX3) (N := 9) hx hb hts inn_X3_key_X3 hown hK hP 0 rfl rfl 1 (by decide) (hts (.fieldLink RX3 15 "DoorKeys" "keys" "[LDoorKeys$Key;") (by decide +kernel)) (fun _ h9 => h9) rfl dX3_key_33 ?_
  refine va_alen (v := 8) hx hb hK hP 1 0 rfl rfl rfl dX3_key_36 ?_
  refine lv_icmp_lt (tgt := 43) hx hb dX3_key_37 (by decide) (fun c_37 => ?_) (fun c_37 => (c_37 hok.2.2.2).elim)
  refine lv_aload_n hx hb dX3_key_43 rfl (lv_at hl 0 rfl) ?_
  refine va_get (D := (dC, dI)) (ci := 4) (v := .ref ks) (C := RX3) (T := TX3) (N := 9) hx hb hts inn_X3_key_X3 hown hK hP 0 rfl rfl 1 (by decide) (hts (.fieldLink RX3 15 "DoorKeys" "keys" "[LDoorKeys$Key;") (by decide +kernel)) (fun _ h9 => h9) rfl dX3_key_44 ?_
  refine lv_aload_n hx hb dX3_key_47 rfl (lv_at hl 0 rfl) ?_
  refine va_get (D := (dC, dI)) (ci := 4) (v := .int (nI n)) (C := RX3) (T := TX3) (N := 9) hx hb hts inn_X3_key_X3 hown hK hP 0 rfl rfl 2 (by decide) (hts (.fieldLink RX3 42 "DoorKeys" "keyCount" "I") (by decide +kernel)) (fun _ h9 => h9) rfl dX3_key_48 ?_
  refine va_new (ci := 3) (fs := [.long 0, .int 0, .int 0, .int 0, .int 0, .int 0, .int 0]) (C := RX2) (T := TX2) (N := 7) hx hb hts inn_X3_key_X2 tyX2 tyX2_ok hown (hts (.classLink RX3 13 RX2) (by decide +kernel)) (hts (.instantiable RX2 7) (by decide +kernel)) (hts (.initialized RX2) (by decide +kernel)) hK hP hD hS hA rfl (fun j hj => by rcases (show j = 0 ∨ j = 1 ∨ j = 2 ∨ j = 3 ∨ j = 4 ∨ j = 5 ∨ j = 6 by omega) with rfl | rfl | rfl | rfl | rfl | rfl | rfl <;> rfl) (Nat.le_of_ble_eq_true rfl) (Nat.le_of_ble_eq_true rfl) dX3_key_51 (fun q H hP hD hS => ?_)
  refine W.widen (k := 1) (n := 7) (by omega) (by omega) ?_
  have hPq : va_P (dC, dI) vwCl [(q, kcell (0, 0, 0, 0, 0, 0, 0))] H := fun k z hk => by
    have h1 := (List.getElem?_eq_some_iff.mp hk).1
    simp at h1
    subst h1
    cases hk
    exact hP (n + 8) _ dk_newat
  have hDq : va_D (fun _ => True) [(q, kcell (0, 0, 0, 0, 0, 0, 0))] := by
    refine ⟨fun i j a b hi hj _ => ?_, fun _ _ _ => trivial⟩
    have h1 := (List.getElem?_eq_some_iff.mp hi).1
    have h2 := (List.getElem?_eq_some_iff.mp hj).1
    simp at h1 h2
    omega
  refine lv_dup hx hb dX3_key_54 rfl ?_
  refine lv_lload_n hx hb dX3_key_55 rfl (lv_at hl 1 rfl) ?_
  refine lv_lload_n hx hb dX3_key_56 rfl (lv_at hl 2 rfl) ?_
  refine lv_l2i (v := y.toInt32) hx hb dX3_key_57 rfl ?_
  refine lv_aload_n hx hb dX3_key_58 rfl (lv_at hl 0 rfl) ?_
  refine va_get (D := (dC, dI)) (ci := 4) (v := .int (nI n)) (C := RX3) (T := TX3) (N := 9) hx hb hts inn_X3_key_X3 hown hK hP 0 rfl rfl 2 (by decide) (hts (.fieldLink RX3 42 "DoorKeys" "keyCount" "I") (by decide +kernel)) (fun _ h9 => h9) rfl dX3_key_59 ?_
  refine lv_iconst (v := 2) hx hb dX3_key_62 (by decide) ?_
  refine lv_icmp_ge (tgt := 70) hx hb dX3_key_63 (by decide) (fun c_63 => ?_) (fun c_63 => ?_)
  · have e9 : dk_l2 n = 0 := by unfold dk_l2; exact if_pos c_63
    refine lv_iconst (v := 0) hx hb dX3_key_70 (by decide) ?_
    refine up_calllast (w0 := (dkW cK cB cI o ks fa oa fb ob dr ds L n sp co en cr rl qs kA oA kB oB tt ss st K)) (e1 := kcell (0, 0, 0, 0, 0, 0, 0)) (e2 := kcell (x, y.toInt32, -1, 0, 0, 0, 0)) (W.runI (As := [.long x, .int y.toInt32, .int 0]) (rest := [.ref q, .int (nI n), .ref ks]) ⟨hx, hb, hml, hown, hts⟩ (c_X2_init l dC dI q x y.toInt32 0 (by decide) (by decide)) (cwI 3 hts gX3_key_X2_init rfl rfl rfl (hts (.initialized RX2) (by decide +kernel)) (hts (.methodLink RX3 45 yX2_init) (by decide +kernel)) (hts (.instanceMethod yX2_init) (by decide +kernel)) rfl (by decide +kernel) ⟨Nat.le_of_ble_eq_true rfl, Nat.le_of_ble_eq_true rfl⟩) (up_preS hPq (hK.sub (tys' := []) [] rfl) hDq) rfl rfl hl.1 rfl (lv_room (Nat.le_of_ble_eq_true rfl)) dX3_key_71 ⟨Nat.le_of_ble_eq_true rfl, Nat.le_of_ble_eq_true rfl⟩) hP hD hS (fun H locs hP hD hS => ?_)
    refine W.eq (g2 := F0 m 74 ls [.ref q, .int (nI n), .ref ks]) rfl ?_
    refine va_astq (ci := 3) (r := (RX2, TX2, 7)) hx hb hK hP hD hS 1 0 (n + 8) rfl rfl dk_newat rfl (vp_in_nI (n := n) (N := 8) hn8 (by decide)) dX3_key_74 (fun H locs hP hD hS => ?_)
    refine lv_aload_n hx hb dX3_key_75 rfl (lv_at hl 0 rfl) ?_
    refine lv_dup hx hb dX3_key_76 rfl ?_
    refine va_get (D := (dC, dI)) (ci := 4) (v := .int (nI n)) (C := RX3) (T := TX3) (N := 9) hx hb hts inn_X3_key_X3 hown hK hP 0 rfl rfl 2 (by decide) (hts (.fieldLink RX3 42 "DoorKeys" "keyCount" "I") (by decide +kernel)) (fun _ h9 => h9) rfl dX3_key_77 ?_
    refine lv_iconst (v := 1) hx hb dX3_key_80 (by decide) ?_
    refine lv_iadd hx hb dX3_key_81 ?_
    rw [nI_1]
    refine va_put (D := (dC, dI)) (ci := 4) (v := .int (nI (n + 1))) (ty := .int) (C := RX3) (T := TX3) (N := 9) hx hb hts inn_X3_key_X3 tyX3 tyX3_ok nmX3 hown hK hP hD hS 0 rfl rfl 2 (by decide) (hts (.fieldLink RX3 42 "DoorKeys" "keyCount" "I") (by decide +kernel)) (fun _ h9 => h9) rfl (by decide +kernel) rfl rfl (Nat.le_of_ble_eq_true rfl) dX3_key_82 (fun H locs hP hD hS => ?_)
    have hP : va_P (dC, dI) vwCl (dkW cK cB cI o ks fa oa fb ob dr ds (va_up L n q) (n + 1) sp co en cr rl qs kA oA kB oB tt ss st (va_up K n (x, y.toInt32, -1, dk_l2 n, 0, 0, 0))) H := by rw [e9, ← dk_push hn8]; exact hP
    have hD : va_D A (dkW cK cB cI o ks fa oa fb ob dr ds (va_up L n q) (n + 1) sp co en cr rl qs kA oA kB oB tt ss st (va_up K n (x, y.toInt32, -1, dk_l2 n, 0, 0, 0))) := by rw [e9, ← dk_push hn8]; exact hD
    refine lv_aload_n hx hb dX3_key_85 rfl (lv_at hl 0 rfl) ?_
    refine va_get (D := (dC, dI)) (ci := 4) (v := .int (nI (n + 1))) (C := RX3) (T := TX3) (N := 9) hx hb hts inn_X3_key_X3 hown hK hP 0 rfl rfl 2 (by decide) (hts (.fieldLink RX3 42 "DoorKeys" "keyCount" "I") (by decide +kernel)) (fun _ h9 => h9) rfl dX3_key_86 ?_
    exact W.iret (v := nI (n + 1)) hx hb hr (fun t ht hW => ⟨⟨_, q, rfl, rfl, by rw [ht]; exact hP, hD⟩, hS.F ht⟩) hS.2.2 dX3_key_89
  · have e9 : dk_l2 n = 1 := by unfold dk_l2; exact if_neg c_63
    refine lv_iconst (v := 1) hx hb dX3_key_66 (by decide) ?_
    refine lv_goto (tgt := 71) hx hb dX3_key_67 (by decide) ?_
    refine up_calllast (w0 := (dkW cK cB cI o ks fa oa fb ob dr ds L n sp co en cr rl qs kA oA kB oB tt ss st K)) (e1 := kcell (0, 0, 0, 0, 0, 0, 0)) (e2 := kcell (x, y.toInt32, -1, 1, 0, 0, 0)) (W.runI (As := [.long x, .int y.toInt32, .int 1]) (rest := [.ref q, .int (nI n), .ref ks]) ⟨hx, hb, hml, hown, hts⟩ (c_X2_init l dC dI q x y.toInt32 1 (by decide) (by decide)) (cwI 3 hts gX3_key_X2_init rfl rfl rfl (hts (.initialized RX2) (by decide +kernel)) (hts (.methodLink RX3 45 yX2_init) (by decide +kernel)) (hts (.instanceMethod yX2_init) (by decide +kernel)) rfl (by decide +kernel) ⟨Nat.le_of_ble_eq_true rfl, Nat.le_of_ble_eq_true rfl⟩) (up_preS hPq (hK.sub (tys' := []) [] rfl) hDq) rfl rfl hl.1 rfl (lv_room (Nat.le_of_ble_eq_true rfl)) dX3_key_71 ⟨Nat.le_of_ble_eq_true rfl, Nat.le_of_ble_eq_true rfl⟩) hP hD hS (fun H locs hP hD hS => ?_)
    refine W.eq (g2 := F0 m 74 ls [.ref q, .int (nI n), .ref ks]) rfl ?_
    refine va_astq (ci := 3) (r := (RX2, TX2, 7)) hx hb hK hP hD hS 1 0 (n + 8) rfl rfl dk_newat rfl (vp_in_nI (n := n) (N := 8) hn8 (by decide)) dX3_key_74 (fun H locs hP hD hS => ?_)
    refine lv_aload_n hx hb dX3_key_75 rfl (lv_at hl 0 rfl) ?_
    refine lv_dup hx hb dX3_key_76 rfl ?_
    refine va_get (D := (dC, dI)) (ci := 4) (v := .int (nI n)) (C := RX3) (T := TX3) (N := 9) hx hb hts inn_X3_key_X3 hown hK hP 0 rfl rfl 2 (by decide) (hts (.fieldLink RX3 42 "DoorKeys" "keyCount" "I") (by decide +kernel)) (fun _ h9 => h9) rfl dX3_key_77 ?_
    refine lv_iconst (v := 1) hx hb dX3_key_80 (by decide) ?_
    refine lv_iadd hx hb dX3_key_81 ?_
    rw [nI_1]
    refine va_put (D := (dC, dI)) (ci := 4) (v := .int (nI (n + 1))) (ty := .int) (C := RX3) (T := TX3) (N := 9) hx hb hts inn_X3_key_X3 tyX3 tyX3_ok nmX3 hown hK hP hD hS 0 rfl rfl 2 (by decide) (hts (.fieldLink RX3 42 "DoorKeys" "keyCount" "I") (by decide +kernel)) (fun _ h9 => h9) rfl (by decide +kernel) rfl rfl (Nat.le_of_ble_eq_true rfl) dX3_key_82 (fun H locs hP hD hS => ?_)
    have hP : va_P (dC, dI) vwCl (dkW cK cB cI o ks fa oa fb ob dr ds (va_up L n q) (n + 1) sp co en cr rl qs kA oA kB oB tt ss st (va_up K n (x, y.toInt32, -1, dk_l2 n, 0, 0, 0))) H := by rw [e9, ← dk_push hn8]; exact hP
    have hD : va_D A (dkW cK cB cI o ks fa oa fb ob dr ds (va_up L n q) (n + 1) sp co en cr rl qs kA oA kB oB tt ss st (va_up K n (x, y.toInt32, -1, dk_l2 n, 0, 0, 0))) := by rw [e9, ← dk_push hn8]; exact hD
    refine lv_aload_n hx hb dX3_key_85 rfl (lv_at hl 0 rfl) ?_
    refine va_get (D := (dC, dI)) (ci := 4) (v := .int (nI (n + 1))) (C := RX3) (T := TX3) (N := 9) hx hb hts inn_X3_key_X3 hown hK hP 0 rfl rfl 2 (by decide) (hts (.fieldLink RX3 42 "DoorKeys" "keyCount" "I") (by decide +kernel)) (fun _ h9 => h9) rfl dX3_key_86 ?_
    exact W.iret (v := nI (n + 1)) hx hb hr (fun t ht hW => ⟨⟨_, q, rfl, rfl, by rw [ht]; exact hP, hD⟩, hS.F ht⟩) hS.2.2 dX3_key_89
