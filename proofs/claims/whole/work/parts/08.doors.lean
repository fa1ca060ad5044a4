/-! the doors (laid by wip/gen.py) -/
set_option maxRecDepth 20000 in
theorem inn_X0_has_X0 : ∀ w ∈ wsX00, w ∈ wsX0_has := by decide +kernel
set_option maxRecDepth 20000 in
theorem inn_X0_hasAny_X0 : ∀ w ∈ wsX00, w ∈ wsX0_hasAny := by decide +kernel
set_option maxRecDepth 20000 in
theorem inn_X0_turn_X0 : ∀ w ∈ wsX00, w ∈ wsX0_turn := by decide +kernel
set_option maxRecDepth 20000 in
theorem inn_X0_isGuarded_X0 : ∀ w ∈ wsX00, w ∈ wsX0_isGuarded := by decide +kernel
set_option maxRecDepth 20000 in
theorem inn_X0_is_X0 : ∀ w ∈ wsX00, w ∈ wsX0_is := by decide +kernel
set_option maxRecDepth 20000 in
theorem inn_X0_put_X0 : ∀ w ∈ wsX00, w ∈ wsX0_put := by decide +kernel
set_option maxRecDepth 20000 in
theorem inn_X0_noteShut_X0 : ∀ w ∈ wsX00, w ∈ wsX0_noteShut := by decide +kernel
def dk_dhas (x : Int32) : Int32 :=
  if x < 0 then
    (0 : Int32)
  else
    if 5 ≤ x then
      (0 : Int32)
    else
      (1 : Int32)
theorem dk_dhas_in {x : Int32} (h : ¬ dk_dhas x = 0) : vp_in x 5 := by
  unfold dk_dhas at h
  by_cases h0 : x < 0
  · rw [if_pos h0] at h; exact absurd rfl h
  · rw [if_neg h0] at h
    by_cases h1 : 5 ≤ x
    · rw [if_pos h1] at h; exact absurd rfl h
    · exact up_in (N := 5) (by decide) h0 h1
def rm_X0_has : Room := { frames := 0, cells := 0, slots := 0, locals := 0 }
set_option maxHeartbeats 4000000 in
set_option maxRecDepth 100000 in
theorem c_X0_has (l : Launch) (dC : Nat → ClassId) (dI : Nat → Nat → Nat) (cK : ClassId) (cB : ClassId) (cI : ClassId) (o : Nat) (ks : Nat) (fa : Nat) (oa : Nat) (fb : Nat) (ob : Nat) (dr : Nat) (ds : Nat) (L : Nat → Nat) (n : Nat) (sp : Int32) (co : Nat) (en : Nat) (cr : Int32) (rl : Int32) (qs : Int32) (kA : Int32) (oA : Nat → Int8) (kB : Int32) (oB : Nat → Int8) (tt : Int64) (ss : Int64) (st : Nat → Int32) (K : Nat → KR) (x : Int32) : Met l yX0_has wsX0_has rm_X0_has (up_P (dC, dI) vwCl (dkT cK cB cI) (dkW cK cB cI o ks fa oa fb ob dr ds L n sp co en cr rl qs kA oA kB oB tt ss st K) [.ref dr, .int x]) (k2_QcV (.int (dk_dhas x))) 0 0 (fun _ => False) := by
  refine Met.ofW (cc := cX0_has) (maxL := 2) (ret := (some .boolean)) (by decide) rfl ?_
  intro p e s m args below meth c s₁ B hml hv
  obtain ⟨rfl, hP, hK, hD0⟩ := hv
  have hx := B.exec
  have hb := B.bytes
  have hr := B.returns
  have hts := atoms_spec (ws := wsX0_has) B.pre
  have hown : s.vm.findClass RX0 = some m.cls := findClass_of_methodNamed B.named
  have hlocks := B.notSynchronized
  have hD := up_self hD0
  have hS : va_S (up_c (dkW cK cB cI o ks fa oa fb ob dr ds L n sp co en cr rl qs kA oA kB oB tt ss st K)) s.heap s.heap [] := va_S.rf
  have hl := lv_entry ([.ref dr, .int x]) (n := 2) (Nat.le_of_ble_eq_true rfl)
  rw [lg_entry_eq]
  generalize (lg_sl ([.ref dr, .int x]) ++ List.replicate (2 - (lg_sl ([.ref dr, .int x])).length) Slot.unset).toArray = ls at hl ⊢
  have hl : lv_has ls 2 [(0, .ref dr), (1, .int x)] := hl
  refine lv_iload_n hx hb dX0_has_0 rfl (lv_at hl 1 rfl) ?_
  refine lv_if_lt (tgt := 17) hx hb dX0_has_1 (by decide) (fun c_1 => ?_) (fun c_1 => ?_)
  · refine lv_iconst (v := 0) hx hb dX0_has_17 (by decide) ?_
    have e_ : dk_dhas x = (0 : Int32) := by unfold dk_dhas; exact (if_pos c_1).trans rfl
    rw [e_]
    exact W.zret (v := 0) hx hb hr (by decide) (fun t ht hW => ⟨rfl, ht⟩) (fun q h => absurd h List.not_mem_nil) dX0_has_18
  · refine lv_iload_n hx hb dX0_has_4 rfl (lv_at hl 1 rfl) ?_
    refine lv_aload_n hx hb dX0_has_5 rfl (lv_at hl 0 rfl) ?_
    refine va_get (D := (dC, dI)) (ci := 1) (v := .ref ds) (C := RX0) (T := TX0) (N := 3) hx hb hts inn_X0_has_X0 hown hK hP 6 rfl rfl 0 (by decide) (hts (.fieldLink RX0 11 "DoorKeys$Doors" "states" "[I") (by decide +kernel)) (fun _ h9 => h9) rfl dX0_has_6 ?_
    refine va_alen (v := 5) hx hb hK hP 7 2 rfl rfl rfl dX0_has_9 ?_
    refine lv_icmp_ge (tgt := 17) hx hb dX0_has_10 (by decide) (fun c_10 => ?_) (fun c_10 => ?_)
    · refine lv_iconst (v := 0) hx hb dX0_has_17 (by decide) ?_
      have e_ : dk_dhas x = (0 : Int32) := by unfold dk_dhas; exact (if_neg c_1).trans ((if_pos c_10).trans rfl)
      rw [e_]
      exact W.zret (v := 0) hx hb hr (by decide) (fun t ht hW => ⟨rfl, ht⟩) (fun q h => absurd h List.not_mem_nil) dX0_has_18
    · refine lv_iconst (v := 1) hx hb dX0_has_13 (by decide) ?_
      refine lv_goto (tgt := 18) hx hb dX0_has_14 (by decide) ?_
      have e_ : dk_dhas x = (1 : Int32) := by unfold dk_dhas; exact (if_neg c_1).trans ((if_neg c_10).trans rfl)
      rw [e_]
      exact W.zret (v := 1) hx hb hr (by decide) (fun t ht hW => ⟨rfl, ht⟩) (fun q h => absurd h List.not_mem_nil) dX0_has_18
def dk_any_l (st : Nat → Int32) (x : Int32) : Nat → Nat → Int32
  | 0, _ =>
    (0 : Int32)
  | r + 1, j =>
    if (st ((nI j).toNatClampNeg)) = x then
      (1 : Int32)
    else
      dk_any_l st x r (j + 1)
def dk_any (st : Nat → Int32) (x : Int32) : Int32 :=
  dk_any_l st x 5 0
def rm_X0_hasAny : Room := { frames := 0, cells := 0, slots := 0, locals := 0 }
set_option maxHeartbeats 4000000 in
set_option maxRecDepth 100000 in
theorem c_X0_hasAny (l : Launch) (dC : Nat → ClassId) (dI : Nat → Nat → Nat) (cK : ClassId) (cB : ClassId) (cI : ClassId) (o : Nat) (ks : Nat) (fa : Nat) (oa : Nat) (fb : Nat) (ob : Nat) (dr : Nat) (ds : Nat) (L : Nat → Nat) (n : Nat) (sp : Int32) (co : Nat) (en : Nat) (cr : Int32) (rl : Int32) (qs : Int32) (kA : Int32) (oA : Nat → Int8) (kB : Int32) (oB : Nat → Int8) (tt : Int64) (ss : Int64) (st : Nat → Int32) (K : Nat → KR) (x : Int32) : Met l yX0_hasAny wsX0_hasAny rm_X0_hasAny (up_P (dC, dI) vwCl (dkT cK cB cI) (dkW cK cB cI o ks fa oa fb ob dr ds L n sp co en cr rl qs kA oA kB oB tt ss st K) [.ref dr, .int x]) (k2_QcV (.int (dk_any st x))) 0 0 (fun _ => False) := by
  refine Met.ofW (cc := cX0_hasAny) (maxL := 3) (ret := (some .boolean)) (by decide) rfl ?_
  intro p e s m args below meth c s₁ B hml hv
  obtain ⟨rfl, hP, hK, hD0⟩ := hv
  have hx := B.exec
  have hb := B.bytes
  have hr := B.returns
  have hts := atoms_spec (ws := wsX0_hasAny) B.pre
  have hown : s.vm.findClass RX0 = some m.cls := findClass_of_methodNamed B.named
  have hlocks := B.notSynchronized
  have hD := up_self hD0
  have hS : va_S (up_c (dkW cK cB cI o ks fa oa fb ob dr ds L n sp co en cr rl qs kA oA kB oB tt ss st K)) s.heap s.heap [] := va_S.rf
  have hl := lv_entry ([.ref dr, .int x]) (n := 3) (Nat.le_of_ble_eq_true rfl)
  rw [lg_entry_eq]
  generalize (lg_sl ([.ref dr, .int x]) ++ List.replicate (3 - (lg_sl ([.ref dr, .int x])).length) Slot.unset).toArray = ls at hl ⊢
  have hl : lv_has ls 3 [(0, .ref dr), (1, .int x)] := hl
  refine lv_iconst (v := 0) hx hb dX0_hasAny_0 (by decide) ?_
  refine lv_istore_n (lv' := [(2, .int 0), (0, .ref dr), (1, .int x)]) hx hb dX0_hasAny_1 rfl hl (by decide) rfl (fun ls hl => ?_)
  have lp : ∀ (r j : Nat)  , j + r = 5 → ∀ ls : Array Slot, lv_has ls 3 [(0, .ref dr), (1, .int x), (2, .int (nI j))] → W p l e (headSpec wsX0_hasAny rm_X0_hasAny).room s m ([.ref dr, .int x] : List Value).toArray below meth c s.heap [] 0 0 (MQ below (k2_QcV (.int (dk_any_l st x r j))) ([.ref dr, .int x] : List Value).toArray s 0 0 (fun _ => False)) (F0 m 2 ls []) := by
    intro r
    induction r with
    | zero =>
      intro j hj ls hl
      refine lv_iload_n hx hb dX0_hasAny_2 rfl (lv_at hl 2 rfl) ?_
      refine lv_aload_n hx hb dX0_hasAny_3 rfl (lv_at hl 0 rfl) ?_
      refine va_get (D := (dC, dI)) (ci := 1) (v := .ref ds) (C := RX0) (T := TX0) (N := 3) hx hb hts inn_X0_hasAny_X0 hown hK hP 6 rfl rfl 0 (by decide) (hts (.fieldLink RX0 11 "DoorKeys$Doors" "states" "[I") (by decide +kernel)) (fun _ h9 => h9) rfl dX0_hasAny_4 ?_
      refine va_alen (v := 5) hx hb hK hP 7 2 rfl rfl rfl dX0_hasAny_7 ?_
      refine lv_icmp_ge (tgt := 29) hx hb dX0_hasAny_8 (by decide) (fun c_8 => ?_) (fun c_8 => (c_8 (nI_le (a := 5) (b := j) (by omega) (by omega))).elim)
      refine lv_iconst (v := 0) hx hb dX0_hasAny_29 (by decide) ?_
      have e_ : dk_any_l st x 0 j = (0 : Int32) := (dk_any_l.eq_1 ..).trans rfl
      rw [e_]
      exact W.zret (v := 0) hx hb hr (by decide) (fun t ht hW => ⟨rfl, ht⟩) (fun q h => absurd h List.not_mem_nil) dX0_hasAny_30
    | succ r ih =>
      intro j hj ls hl
      refine lv_iload_n hx hb dX0_hasAny_2 rfl (lv_at hl 2 rfl) ?_
      refine lv_aload_n hx hb dX0_hasAny_3 rfl (lv_at hl 0 rfl) ?_
      refine va_get (D := (dC, dI)) (ci := 1) (v := .ref ds) (C := RX0) (T := TX0) (N := 3) hx hb hts inn_X0_hasAny_X0 hown hK hP 6 rfl rfl 0 (by decide) (hts (.fieldLink RX0 11 "DoorKeys$Doors" "states" "[I") (by decide +kernel)) (fun _ h9 => h9) rfl dX0_hasAny_4 ?_
      refine va_alen (v := 5) hx hb hK hP 7 2 rfl rfl rfl dX0_hasAny_7 ?_
      refine lv_icmp_ge (tgt := 29) hx hb dX0_hasAny_8 (by decide) (fun c_8 => (nI_ge (a := j) (b := 5) (by omega) (by omega) c_8).elim) (fun c_8 => ?_)
      refine lv_aload_n hx hb dX0_hasAny_11 rfl (lv_at hl 0 rfl) ?_
      refine va_get (D := (dC, dI)) (ci := 1) (v := .ref ds) (C := RX0) (T := TX0) (N := 3) hx hb hts inn_X0_hasAny_X0 hown hK hP 6 rfl rfl 0 (by decide) (hts (.fieldLink RX0 11 "DoorKeys$Doors" "states" "[I") (by decide +kernel)) (fun _ h9 => h9) rfl dX0_hasAny_12 ?_
      refine lv_iload_n hx hb dX0_hasAny_15 rfl (lv_at hl 2 rfl) ?_
      refine va_iald hx hb hK hP 7 2 rfl rfl (vp_in_nI (n := j) (N := 5) (by omega) (by decide)) dX0_hasAny_16 ?_
      refine lv_iload_n hx hb dX0_hasAny_17 rfl (lv_at hl 1 rfl) ?_
      refine lv_icmp_ne (tgt := 23) hx hb dX0_hasAny_18 (by decide) (fun c_18 => ?_) (fun c_18 => ?_)
      · refine lv_iinc (v := (nI (j + 1))) (lv' := [(2, .int (nI (j + 1))), (0, .ref dr), (1, .int x)]) hx hb dX0_hasAny_23 hl (k := 2) rfl (nI_1 _) (by decide) rfl (fun ls hl => ?_)
        refine lv_goto (tgt := 2) hx hb dX0_hasAny_26 (by decide) ?_
        have e_ : dk_any_l st x (r + 1) j = dk_any_l st x r (j + 1) := (dk_any_l.eq_2 ..).trans ((if_neg c_18).trans rfl)
        rw [e_]
        exact ih (j + 1)  (by omega) ls (lv_sub hl [1, 2, 0] rfl)
      · refine lv_iconst (v := 1) hx hb dX0_hasAny_21 (by decide) ?_
        have e_ : dk_any_l st x (r + 1) j = (1 : Int32) := (dk_any_l.eq_2 ..).trans ((if_pos c_18).trans rfl)
        rw [e_]
        exact W.zret (v := 1) hx hb hr (by decide) (fun t ht hW => ⟨rfl, ht⟩) (fun q h => absurd h List.not_mem_nil) dX0_hasAny_22
  have e_ : dk_any st x = dk_any_l st x 5 0 := by unfold dk_any; exact rfl
  rw [e_]
  exact lp 5 0 (by omega) ls (lv_sub hl [1, 2, 0] rfl)
def dk_turn_l (x : Int32) (y : Int32) : Nat → Nat → Int32 → (Nat → Int32) → Int32 × (Nat → Int32)
  | 0, _, ac, st_ =>
    (ac, st_)
  | r + 1, j, ac, st_ =>
    if (st_ ((nI j).toNatClampNeg)) = x then
      dk_turn_l x y r (j + 1) (ac + 1) (upd st_ ((nI j).toNatClampNeg) y)
    else
      dk_turn_l x y r (j + 1) ac st_
def dk_turn (st : Nat → Int32) (x : Int32) (y : Int32) : Int32 × (Nat → Int32) :=
  dk_turn_l x y 5 0 0 st
def rm_X0_turn : Room := { frames := 0, cells := 0, slots := 0, locals := 0 }
set_option maxHeartbeats 4000000 in
set_option maxRecDepth 100000 in
theorem c_X0_turn (l : Launch) (dC : Nat → ClassId) (dI : Nat → Nat → Nat) (cK : ClassId) (cB : ClassId) (cI : ClassId) (o : Nat) (ks : Nat) (fa : Nat) (oa : Nat) (fb : Nat) (ob : Nat) (dr : Nat) (ds : Nat) (L : Nat → Nat) (n : Nat) (sp : Int32) (co : Nat) (en : Nat) (cr : Int32) (rl : Int32) (qs : Int32) (kA : Int32) (oA : Nat → Int8) (kB : Int32) (oB : Nat → Int8) (tt : Int64) (ss : Int64) (st : Nat → Int32) (K : Nat → KR) (x : Int32) (y : Int32) : Met l yX0_turn wsX0_turn rm_X0_turn (up_P (dC, dI) vwCl (dkT cK cB cI) (dkW cK cB cI o ks fa oa fb ob dr ds L n sp co en cr rl qs kA oA kB oB tt ss st K) [.ref dr, .int x, .int y]) (up_Q (dC, dI) vwCl (some (.int ((dk_turn st x y).1))) (dkW cK cB cI o ks fa oa fb ob dr ds L n sp co en cr rl qs kA oA kB oB tt ss st K) (dkW cK cB cI o ks fa oa fb ob dr ds L n sp co en cr rl qs kA oA kB oB tt ss ((dk_turn st x y).2) K)) 0 0 (up_c (dkW cK cB cI o ks fa oa fb ob dr ds L n sp co en cr rl qs kA oA kB oB tt ss st K)) := by
  refine Met.ofW (cc := cX0_turn) (maxL := 5) (ret := (some .int)) (by decide) rfl ?_
  intro p e s m args below meth c s₁ B hml hv
  obtain ⟨rfl, hP, hK, hD0⟩ := hv
  have hx := B.exec
  have hb := B.bytes
  have hr := B.returns
  have hts := atoms_spec (ws := wsX0_turn) B.pre
  have hown : s.vm.findClass RX0 = some m.cls := findClass_of_methodNamed B.named
  have hlocks := B.notSynchronized
  have hD := up_self hD0
  have hS : va_S (up_c (dkW cK cB cI o ks fa oa fb ob dr ds L n sp co en cr rl qs kA oA kB oB tt ss st K)) s.heap s.heap [] := va_S.rf
  have hl := lv_entry ([.ref dr, .int x, .int y]) (n := 5) (Nat.le_of_ble_eq_true rfl)
  rw [lg_entry_eq]
  generalize (lg_sl ([.ref dr, .int x, .int y]) ++ List.replicate (5 - (lg_sl ([.ref dr, .int x, .int y])).length) Slot.unset).toArray = ls at hl ⊢
  have hl : lv_has ls 5 [(0, .ref dr), (1, .int x), (2, .int y)] := hl
  refine lv_iconst (v := 0) hx hb dX0_turn_0 (by decide) ?_
  refine lv_istore_n (lv' := [(3, .int 0), (0, .ref dr), (1, .int x), (2, .int y)]) hx hb dX0_turn_1 rfl hl (by decide) rfl (fun ls hl => ?_)
  refine lv_iconst (v := 0) hx hb dX0_turn_2 (by decide) ?_
  refine lv_istore (lv' := [(4, .int 0), (3, .int 0), (0, .ref dr), (1, .int x), (2, .int y)]) hx hb dX0_turn_3 hl (by decide) rfl (fun ls hl => ?_)
  have lp : ∀ (r j : Nat) (ac : Int32) (st_ : Nat → Int32), j + r = 5 → ∀ (H : Heap) (locs : List Loc), va_P (dC, dI) vwCl (dkW cK cB cI o ks fa oa fb ob dr ds L n sp co en cr rl qs kA oA kB oB tt ss st_ K) H → va_D (up_c (dkW cK cB cI o ks fa oa fb ob dr ds L n sp co en cr rl qs kA oA kB oB tt ss st K)) (dkW cK cB cI o ks fa oa fb ob dr ds L n sp co en cr rl qs kA oA kB oB tt ss st_ K) → va_S (up_c (dkW cK cB cI o ks fa oa fb ob dr ds L n sp co en cr rl qs kA oA kB oB tt ss st K)) s.heap H locs → ∀ ls : Array Slot, lv_has ls 5 [(0, .ref dr), (1, .int x), (2, .int y), (4, .int (nI j)), (3, .int ac)] → W p l e (headSpec wsX0_turn rm_X0_turn).room s m ([.ref dr, .int x, .int y] : List Value).toArray below meth c H locs 0 0 (MQ below (up_Q (dC, dI) vwCl (some (.int ((dk_turn_l x y r j ac st_).1))) (dkW cK cB cI o ks fa oa fb ob dr ds L n sp co en cr rl qs kA oA kB oB tt ss st K) (dkW cK cB cI o ks fa oa fb ob dr ds L n sp co en cr rl qs kA oA kB oB tt ss ((dk_turn_l x y r j ac st_).2) K)) ([.ref dr, .int x, .int y] : List Value).toArray s 0 0 (up_c (dkW cK cB cI o ks fa oa fb ob dr ds L n sp co en cr rl qs kA oA kB oB tt ss st K))) (F0 m 5 ls []) := by
    intro r
    induction r with
    | zero =>
      intro j ac st_ hj H locs hP hD hS ls hl
      refine lv_iload hx hb dX0_turn_5 (lv_at hl 3 rfl) ?_
      refine lv_aload_n hx hb dX0_turn_7 rfl (lv_at hl 0 rfl) ?_
      refine va_get (D := (dC, dI)) (ci := 1) (v := .ref ds) (C := RX0) (T := TX0) (N := 3) hx hb hts inn_X0_turn_X0 hown hK hP 6 rfl rfl 0 (by decide) (hts (.fieldLink RX0 11 "DoorKeys$Doors" "states" "[I") (by decide +kernel)) (fun _ h9 => h9) rfl dX0_turn_8 ?_
      refine va_alen (v := 5) hx hb hK hP 7 2 rfl rfl rfl dX0_turn_11 ?_
      refine lv_icmp_ge (tgt := 43) hx hb dX0_turn_12 (by decide) (fun c_12 => ?_) (fun c_12 => (c_12 (nI_le (a := 5) (b := j) (by omega) (by omega))).elim)
      refine lv_iload_n hx hb dX0_turn_43 rfl (lv_at hl 4 rfl) ?_
      have e_ : dk_turn_l x y 0 j ac st_ = (ac, st_) := (dk_turn_l.eq_1 ..).trans rfl
      rw [e_]
      exact W.iret (v := ac) hx hb hr (fun t ht hW => ⟨rfl, by rw [ht]; exact hP, hS.F ht⟩) hS.2.2 dX0_turn_44
    | succ r ih =>
      intro j ac st_ hj H locs hP hD hS ls hl
      refine lv_iload hx hb dX0_turn_5 (lv_at hl 3 rfl) ?_
      refine lv_aload_n hx hb dX0_turn_7 rfl (lv_at hl 0 rfl) ?_
      refine va_get (D := (dC, dI)) (ci := 1) (v := .ref ds) (C := RX0) (T := TX0) (N := 3) hx hb hts inn_X0_turn_X0 hown hK hP 6 rfl rfl 0 (by decide) (hts (.fieldLink RX0 11 "DoorKeys$Doors" "states" "[I") (by decide +kernel)) (fun _ h9 => h9) rfl dX0_turn_8 ?_
      refine va_alen (v := 5) hx hb hK hP 7 2 rfl rfl rfl dX0_turn_11 ?_
      refine lv_icmp_ge (tgt := 43) hx hb dX0_turn_12 (by decide) (fun c_12 => (nI_ge (a := j) (b := 5) (by omega) (by omega) c_12).elim) (fun c_12 => ?_)
      refine lv_aload_n hx hb dX0_turn_15 rfl (lv_at hl 0 rfl) ?_
      refine va_get (D := (dC, dI)) (ci := 1) (v := .ref ds) (C := RX0) (T := TX0) (N := 3) hx hb hts inn_X0_turn_X0 hown hK hP 6 rfl rfl 0 (by decide) (hts (.fieldLink RX0 11 "DoorKeys$Doors" "states" "[I") (by decide +kernel)) (fun _ h9 => h9) rfl dX0_turn_16 ?_
      refine lv_iload hx hb dX0_turn_19 (lv_at hl 3 rfl) ?_
      refine va_iald hx hb hK hP 7 2 rfl rfl (vp_in_nI (n := j) (N := 5) (by omega) (by decide)) dX0_turn_21 ?_
      refine lv_iload_n hx hb dX0_turn_22 rfl (lv_at hl 1 rfl) ?_
      refine lv_icmp_ne (tgt := 37) hx hb dX0_turn_23 (by decide) (fun c_23 => ?_) (fun c_23 => ?_)
      · refine lv_iinc (v := (nI (j + 1))) (lv' := [(4, .int (nI (j + 1))), (0, .ref dr), (1, .int x), (2, .int y), (3, .int ac)]) hx hb dX0_turn_37 hl (k := 3) rfl (nI_1 _) (by decide) rfl (fun ls hl => ?_)
        refine lv_goto (tgt := 5) hx hb dX0_turn_40 (by decide) ?_
        have e_ : dk_turn_l x y (r + 1) j ac st_ = dk_turn_l x y r (j + 1) ac st_ := (dk_turn_l.eq_2 ..).trans ((if_neg c_23).trans rfl)
        rw [e_]
        exact ih (j + 1) ac st_ (by omega) _ _ hP hD hS ls (lv_sub hl [1, 2, 3, 0, 4] rfl)
      · refine lv_aload_n hx hb dX0_turn_26 rfl (lv_at hl 0 rfl) ?_
        refine va_get (D := (dC, dI)) (ci := 1) (v := .ref ds) (C := RX0) (T := TX0) (N := 3) hx hb hts inn_X0_turn_X0 hown hK hP 6 rfl rfl 0 (by decide) (hts (.fieldLink RX0 11 "DoorKeys$Doors" "states" "[I") (by decide +kernel)) (fun _ h9 => h9) rfl dX0_turn_27 ?_
        refine lv_iload hx hb dX0_turn_30 (lv_at hl 3 rfl) ?_
        refine lv_iload_n hx hb dX0_turn_32 rfl (lv_at hl 2 rfl) ?_
        refine va_iast hx hb hK hP hD hS 7 2 rfl rfl (vp_in_nI (n := j) (N := 5) (by omega) (by decide)) dX0_turn_33 (fun H locs hP hD hS => ?_)
        have hP : va_P (dC, dI) vwCl (dkW cK cB cI o ks fa oa fb ob dr ds L n sp co en cr rl qs kA oA kB oB tt ss (upd st_ ((nI j).toNatClampNeg) y) K) H := hP
        have hD : va_D (up_c (dkW cK cB cI o ks fa oa fb ob dr ds L n sp co en cr rl qs kA oA kB oB tt ss st K)) (dkW cK cB cI o ks fa oa fb ob dr ds L n sp co en cr rl qs kA oA kB oB tt ss (upd st_ ((nI j).toNatClampNeg) y) K) := hD
        refine lv_iinc (v := (ac + 1)) (lv' := [(3, .int (ac + 1)), (0, .ref dr), (1, .int x), (2, .int y), (4, .int (nI j))]) hx hb dX0_turn_34 hl (k := 4) rfl (by rfl) (by decide) rfl (fun ls hl => ?_)
        refine lv_iinc (v := (nI (j + 1))) (lv' := [(4, .int (nI (j + 1))), (3, .int (ac + 1)), (0, .ref dr), (1, .int x), (2, .int y)]) hx hb dX0_turn_37 hl (k := 4) rfl (nI_1 _) (by decide) rfl (fun ls hl => ?_)
        refine lv_goto (tgt := 5) hx hb dX0_turn_40 (by decide) ?_
        have e_ : dk_turn_l x y (r + 1) j ac st_ = dk_turn_l x y r (j + 1) (ac + 1) (upd st_ ((nI j).toNatClampNeg) y) := (dk_turn_l.eq_2 ..).trans ((if_pos c_23).trans rfl)
        rw [e_]
        exact ih (j + 1) (ac + 1) (upd st_ ((nI j).toNatClampNeg) y) (by omega) _ _ hP hD hS ls (lv_sub hl [2, 3, 4, 0, 1] rfl)
  have e_ : dk_turn st x y = dk_turn_l x y 5 0 0 st := by unfold dk_turn; exact rfl
  rw [e_]
  exact lp 5 0 0 st (by omega) _ _ hP hD hS ls (lv_sub hl [2, 3, 4, 0, 1] rfl)
def dk_guard (st : Nat → Int32) (tt : Int64) (ss : Int64) : Int32 :=
  if dk_any st 0 = 0 then
    if (lg_cmp (tt - ss) 30) < 0 then
      (0 : Int32)
    else
      (1 : Int32)
  else
    (0 : Int32)
def rm_X0_isGuarded : Room := { frames := 1, cells := 0, slots := 0, locals := 22 }
set_option maxHeartbeats 4000000 in
set_option maxRecDepth 100000 in
theorem c_X0_isGuarded (l : Launch) (dC : Nat → ClassId) (dI : Nat → Nat → Nat) (cK : ClassId) (cB : ClassId) (cI : ClassId) (o : Nat) (ks : Nat) (fa : Nat) (oa : Nat) (fb : Nat) (ob : Nat) (dr : Nat) (ds : Nat) (L : Nat → Nat) (n : Nat) (sp : Int32) (co : Nat) (en : Nat) (cr : Int32) (rl : Int32) (qs : Int32) (kA : Int32) (oA : Nat → Int8) (kB : Int32) (oB : Nat → Int8) (tt : Int64) (ss : Int64) (st : Nat → Int32) (K : Nat → KR) : Met l yX0_isGuarded wsX0_isGuarded rm_X0_isGuarded (up_P (dC, dI) vwCl (dkT cK cB cI) (dkW cK cB cI o ks fa oa fb ob dr ds L n sp co en cr rl qs kA oA kB oB tt ss st K) [.ref dr]) (k2_QcV (.int (dk_guard st tt ss))) 0 0 (fun _ => False) := by
  refine Met.ofW (cc := cX0_isGuarded) (maxL := 1) (ret := (some .boolean)) (by decide) rfl ?_
  intro p e s m args below meth c s₁ B hml hv
  obtain ⟨rfl, hP, hK, hD0⟩ := hv
  have hx := B.exec
  have hb := B.bytes
  have hr := B.returns
  have hts := atoms_spec (ws := wsX0_isGuarded) B.pre
  have hown : s.vm.findClass RX0 = some m.cls := findClass_of_methodNamed B.named
  have hlocks := B.notSynchronized
  have hD := up_self hD0
  have hS : va_S (up_c (dkW cK cB cI o ks fa oa fb ob dr ds L n sp co en cr rl qs kA oA kB oB tt ss st K)) s.heap s.heap [] := va_S.rf
  have hl := lv_entry ([.ref dr]) (n := 1) (Nat.le_of_ble_eq_true rfl)
  rw [lg_entry_eq]
  generalize (lg_sl ([.ref dr]) ++ List.replicate (1 - (lg_sl ([.ref dr])).length) Slot.unset).toArray = ls at hl ⊢
  have hl : lv_has ls 1 [(0, .ref dr)] := hl
  refine lv_aload_n hx hb dX0_isGuarded_0 rfl (lv_at hl 0 rfl) ?_
  refine lv_iconst (v := 0) hx hb dX0_isGuarded_1 (by decide) ?_
  refine up_read (W.runV (As := [.int 0]) (rest := []) ⟨hx, hb, hml, hown, hts⟩ (c_X0_hasAny l dC dI cK cB cI o ks fa oa fb ob dr ds L n sp co en cr rl qs kA oA kB oB tt ss st K 0) (cwV 1 hts gX0_isGuarded_X0_hasAny rfl rfl rfl (by decide +kernel) ⟨Nat.le_of_ble_eq_true rfl, Nat.le_of_ble_eq_true rfl⟩) (up_preV (q0 := 6) (ci := 1) hP hK hD rfl rfl) rfl rfl hl.1 rfl (lv_room (Nat.le_of_ble_eq_true rfl)) dX0_isGuarded_2 ⟨Nat.le_of_ble_eq_true rfl, Nat.le_of_ble_eq_true rfl⟩) ?_
  refine lv_if_ne (tgt := 28) hx hb dX0_isGuarded_5 (by decide) (fun c_5 => ?_) (fun c_5 => ?_)
  · refine lv_iconst (v := 0) hx hb dX0_isGuarded_28 (by decide) ?_
    have e_ : dk_guard st tt ss = (0 : Int32) := by unfold dk_guard; exact (if_neg c_5).trans rfl
    rw [e_]
    exact W.zret (v := 0) hx hb hr (by decide) (fun t ht hW => ⟨rfl, ht⟩) (fun q h => absurd h List.not_mem_nil) dX0_isGuarded_29
  · refine lv_aload_n hx hb dX0_isGuarded_8 rfl (lv_at hl 0 rfl) ?_
    refine va_get (D := (dC, dI)) (ci := 1) (v := .long tt) (C := RX0) (T := TX0) (N := 3) hx hb hts inn_X0_isGuarded_X0 hown hK hP 6 rfl rfl 1 (by decide) (hts (.fieldLink RX0 19 "DoorKeys$Doors" "timeTold" "J") (by decide +kernel)) (fun _ h9 => h9) rfl dX0_isGuarded_9 ?_
    refine lv_aload_n hx hb dX0_isGuarded_12 rfl (lv_at hl 0 rfl) ?_
    refine va_get (D := (dC, dI)) (ci := 1) (v := .long ss) (C := RX0) (T := TX0) (N := 3) hx hb hts inn_X0_isGuarded_X0 hown hK hP 6 rfl rfl 2 (by decide) (hts (.fieldLink RX0 23 "DoorKeys$Doors" "shutSince" "J") (by decide +kernel)) (fun _ h9 => h9) rfl dX0_isGuarded_13 ?_
    refine lv_lsub hx hb dX0_isGuarded_16 ?_
    refine lv_ldc2 (v := 30) hx hb hown (hts (.constantLong RX0 26 30) (by decide +kernel)) dX0_isGuarded_17 ?_
    refine W.lcmp hx hb dX0_isGuarded_20 ?_
    refine lv_if_lt (tgt := 28) hx hb dX0_isGuarded_21 (by decide) (fun c_21 => ?_) (fun c_21 => ?_)
    · refine lv_iconst (v := 0) hx hb dX0_isGuarded_28 (by decide) ?_
      have e_ : dk_guard st tt ss = (0 : Int32) := by unfold dk_guard; exact (if_pos c_5).trans ((if_pos c_21).trans rfl)
      rw [e_]
      exact W.zret (v := 0) hx hb hr (by decide) (fun t ht hW => ⟨rfl, ht⟩) (fun q h => absurd h List.not_mem_nil) dX0_isGuarded_29
    · refine lv_iconst (v := 1) hx hb dX0_isGuarded_24 (by decide) ?_
      refine lv_goto (tgt := 29) hx hb dX0_isGuarded_25 (by decide) ?_
      have e_ : dk_guard st tt ss = (1 : Int32) := by unfold dk_guard; exact (if_pos c_5).trans ((if_neg c_21).trans rfl)
      rw [e_]
      exact W.zret (v := 1) hx hb hr (by decide) (fun t ht hW => ⟨rfl, ht⟩) (fun q h => absurd h List.not_mem_nil) dX0_isGuarded_29
def dk_openAll (st : Nat → Int32) : Int32 × (Nat → Int32) :=
  (((dk_turn st 1 0).1 + (dk_turn ((dk_turn st 1 0).2) 2 0).1), (dk_turn ((dk_turn st 1 0).2) 2 0).2)
def rm_X0_openAll : Room := { frames := 1, cells := 0, slots := 0, locals := 24 }
set_option maxHeartbeats 4000000 in
set_option maxRecDepth 100000 in
theorem c_X0_openAll (l : Launch) (dC : Nat → ClassId) (dI : Nat → Nat → Nat) (cK : ClassId) (cB : ClassId) (cI : ClassId) (o : Nat) (ks : Nat) (fa : Nat) (oa : Nat) (fb : Nat) (ob : Nat) (dr : Nat) (ds : Nat) (L : Nat → Nat) (n : Nat) (sp : Int32) (co : Nat) (en : Nat) (cr : Int32) (rl : Int32) (qs : Int32) (kA : Int32) (oA : Nat → Int8) (kB : Int32) (oB : Nat → Int8) (tt : Int64) (ss : Int64) (st : Nat → Int32) (K : Nat → KR) : Met l yX0_openAll wsX0_openAll rm_X0_openAll (up_P (dC, dI) vwCl (dkT cK cB cI) (dkW cK cB cI o ks fa oa fb ob dr ds L n sp co en cr rl qs kA oA kB oB tt ss st K) [.ref dr]) (up_Q (dC, dI) vwCl (some (.int ((dk_openAll st).1))) (dkW cK cB cI o ks fa oa fb ob dr ds L n sp co en cr rl qs kA oA kB oB tt ss st K) (dkW cK cB cI o ks fa oa fb ob dr ds L n sp co en cr rl qs kA oA kB oB tt ss ((dk_openAll st).2) K)) 0 0 (up_c (dkW cK cB cI o ks fa oa fb ob dr ds L n sp co en cr rl qs kA oA kB oB tt ss st K)) := by
  refine Met.ofW (cc := cX0_openAll) (maxL := 1) (ret := (some .int)) (by decide) rfl ?_
  intro p e s m args below meth c s₁ B hml hv
  obtain ⟨rfl, hP, hK, hD0⟩ := hv
  have hx := B.exec
  have hb := B.bytes
  have hr := B.returns
  have hts := atoms_spec (ws := wsX0_openAll) B.pre
  have hown : s.vm.findClass RX0 = some m.cls := findClass_of_methodNamed B.named
  have hlocks := B.notSynchronized
  have hD := up_self hD0
  have hS : va_S (up_c (dkW cK cB cI o ks fa oa fb ob dr ds L n sp co en cr rl qs kA oA kB oB tt ss st K)) s.heap s.heap [] := va_S.rf
  have hl := lv_entry ([.ref dr]) (n := 1) (Nat.le_of_ble_eq_true rfl)
  rw [lg_entry_eq]
  generalize (lg_sl ([.ref dr]) ++ List.replicate (1 - (lg_sl ([.ref dr])).length) Slot.unset).toArray = ls at hl ⊢
  have hl : lv_has ls 1 [(0, .ref dr)] := hl
  refine lv_aload_n hx hb dX0_openAll_0 rfl (lv_at hl 0 rfl) ?_
  refine lv_iconst (v := 1) hx hb dX0_openAll_1 (by decide) ?_
  refine lv_iconst (v := 0) hx hb dX0_openAll_2 (by decide) ?_
  refine up_call (W.runV (As := [.int 1, .int 0]) (rest := []) ⟨hx, hb, hml, hown, hts⟩ (c_X0_turn l dC dI cK cB cI o ks fa oa fb ob dr ds L n sp co en cr rl qs kA oA kB oB tt ss st K 1 0) (cwV 2 hts gX0_openAll_X0_turn rfl rfl rfl (by decide +kernel) ⟨Nat.le_of_ble_eq_true rfl, Nat.le_of_ble_eq_true rfl⟩) (up_preV (q0 := 6) (ci := 1) hP hK hD rfl rfl) rfl rfl hl.1 rfl (lv_room (Nat.le_of_ble_eq_true rfl)) dX0_openAll_3 ⟨Nat.le_of_ble_eq_true rfl, Nat.le_of_ble_eq_true rfl⟩) hD hS ((dk_fst ..).trans (dk_fst ..).symm) (fun H locs hP hD hS _ _ => ?_)
  have hP : va_P (dC, dI) vwCl (dkW cK cB cI o ks fa oa fb ob dr ds L n sp co en cr rl qs kA oA kB oB tt ss ((dk_turn st 1 0).2) K) H := hP
  have hD : va_D (up_c (dkW cK cB cI o ks fa oa fb ob dr ds L n sp co en cr rl qs kA oA kB oB tt ss st K)) (dkW cK cB cI o ks fa oa fb ob dr ds L n sp co en cr rl qs kA oA kB oB tt ss ((dk_turn st 1 0).2) K) := hD
  refine lv_aload_n hx hb dX0_openAll_6 rfl (lv_at hl 0 rfl) ?_
  refine lv_iconst (v := 2) hx hb dX0_openAll_7 (by decide) ?_
  refine lv_iconst (v := 0) hx hb dX0_openAll_8 (by decide) ?_
  refine up_call (W.runV (As := [.int 2, .int 0]) (rest := [.int ((dk_turn st 1 0).1)]) ⟨hx, hb, hml, hown, hts⟩ (c_X0_turn l dC dI cK cB cI o ks fa oa fb ob dr ds L n sp co en cr rl qs kA oA kB oB tt ss ((dk_turn st 1 0).2) K 2 0) (cwV 2 hts gX0_openAll_X0_turn rfl rfl rfl (by decide +kernel) ⟨Nat.le_of_ble_eq_true rfl, Nat.le_of_ble_eq_true rfl⟩) (up_preV (q0 := 6) (ci := 1) hP hK hD rfl rfl) rfl rfl hl.1 rfl (lv_room (Nat.le_of_ble_eq_true rfl)) dX0_openAll_9 ⟨Nat.le_of_ble_eq_true rfl, Nat.le_of_ble_eq_true rfl⟩) hD hS ((dk_fst ..).trans (dk_fst ..).symm) (fun H locs hP hD hS _ _ => ?_)
  have hP : va_P (dC, dI) vwCl (dkW cK cB cI o ks fa oa fb ob dr ds L n sp co en cr rl qs kA oA kB oB tt ss ((dk_turn ((dk_turn st 1 0).2) 2 0).2) K) H := hP
  have hD : va_D (up_c (dkW cK cB cI o ks fa oa fb ob dr ds L n sp co en cr rl qs kA oA kB oB tt ss st K)) (dkW cK cB cI o ks fa oa fb ob dr ds L n sp co en cr rl qs kA oA kB oB tt ss ((dk_turn ((dk_turn st 1 0).2) 2 0).2) K) := hD
  refine lv_iadd hx hb dX0_openAll_12 ?_
  have e_ : dk_openAll st = (((dk_turn st 1 0).1 + (dk_turn ((dk_turn st 1 0).2) 2 0).1), (dk_turn ((dk_turn st 1 0).2) 2 0).2) := by unfold dk_openAll; exact rfl
  rw [e_]
  exact W.iret (v := ((dk_turn st 1 0).1 + (dk_turn ((dk_turn st 1 0).2) 2 0).1)) hx hb hr (fun t ht hW => ⟨rfl, by rw [ht]; exact hP, hS.F ht⟩) hS.2.2 dX0_openAll_13
def dk_dis (st : Nat → Int32) (x : Int32) (y : Int32) : Int32 :=
  if dk_dhas x = 0 then
    (0 : Int32)
  else
    if (st x.toNatClampNeg) = y then
      (1 : Int32)
    else
      (0 : Int32)
def rm_X0_is : Room := { frames := 1, cells := 0, slots := 0, locals := 21 }
set_option maxHeartbeats 4000000 in
set_option maxRecDepth 100000 in
theorem c_X0_is (l : Launch) (dC : Nat → ClassId) (dI : Nat → Nat → Nat) (cK : ClassId) (cB : ClassId) (cI : ClassId) (o : Nat) (ks : Nat) (fa : Nat) (oa : Nat) (fb : Nat) (ob : Nat) (dr : Nat) (ds : Nat) (L : Nat → Nat) (n : Nat) (sp : Int32) (co : Nat) (en : Nat) (cr : Int32) (rl : Int32) (qs : Int32) (kA : Int32) (oA : Nat → Int8) (kB : Int32) (oB : Nat → Int8) (tt : Int64) (ss : Int64) (st : Nat → Int32) (K : Nat → KR) (x : Int32) (y : Int32) : Met l yX0_is wsX0_is rm_X0_is (up_P (dC, dI) vwCl (dkT cK cB cI) (dkW cK cB cI o ks fa oa fb ob dr ds L n sp co en cr rl qs kA oA kB oB tt ss st K) [.ref dr, .int x, .int y]) (k2_QcV (.int (dk_dis st x y))) 0 0 (fun _ => False) := by
  refine Met.ofW (cc := cX0_is) (maxL := 3) (ret := (some .boolean)) (by decide) rfl ?_
  intro p e s m args below meth c s₁ B hml hv
  obtain ⟨rfl, hP, hK, hD0⟩ := hv
  have hx := B.exec
  have hb := B.bytes
  have hr := B.returns
  have hts := atoms_spec (ws := wsX0_is) B.pre
  have hown : s.vm.findClass RX0 = some m.cls := findClass_of_methodNamed B.named
  have hlocks := B.notSynchronized
  have hD := up_self hD0
  have hS : va_S (up_c (dkW cK cB cI o ks fa oa fb ob dr ds L n sp co en cr rl qs kA oA kB oB tt ss st K)) s.heap s.heap [] := va_S.rf
  have hl := lv_entry ([.ref dr, .int x, .int y]) (n := 3) (Nat.le_of_ble_eq_true rfl)
  rw [lg_entry_eq]
  generalize (lg_sl ([.ref dr, .int x, .int y]) ++ List.replicate (3 - (lg_sl ([.ref dr, .int x, .int y])).length) Slot.unset).toArray = ls at hl ⊢
  have hl : lv_has ls 3 [(0, .ref dr), (1, .int x), (2, .int y)] := hl
  refine lv_aload_n hx hb dX0_is_0 rfl (lv_at hl 0 rfl) ?_
  refine lv_iload_n hx hb dX0_is_1 rfl (lv_at hl 1 rfl) ?_
  refine up_read (W.runV (As := [.int x]) (rest := []) ⟨hx, hb, hml, hown, hts⟩ (c_X0_has l dC dI cK cB cI o ks fa oa fb ob dr ds L n sp co en cr rl qs kA oA kB oB tt ss st K x) (cwV 1 hts gX0_is_X0_has rfl rfl rfl (by decide +kernel) ⟨Nat.le_of_ble_eq_true rfl, Nat.le_of_ble_eq_true rfl⟩) (up_preV (q0 := 6) (ci := 1) hP hK hD rfl rfl) rfl rfl hl.1 rfl (lv_room (Nat.le_of_ble_eq_true rfl)) dX0_is_2 ⟨Nat.le_of_ble_eq_true rfl, Nat.le_of_ble_eq_true rfl⟩) ?_
  refine lv_if_eq (tgt := 22) hx hb dX0_is_5 (by decide) (fun c_5 => ?_) (fun c_5 => ?_)
  · refine lv_iconst (v := 0) hx hb dX0_is_22 (by decide) ?_
    have e_ : dk_dis st x y = (0 : Int32) := by unfold dk_dis; exact (if_pos c_5).trans rfl
    rw [e_]
    exact W.zret (v := 0) hx hb hr (by decide) (fun t ht hW => ⟨rfl, ht⟩) (fun q h => absurd h List.not_mem_nil) dX0_is_23
  · refine lv_aload_n hx hb dX0_is_8 rfl (lv_at hl 0 rfl) ?_
    refine va_get (D := (dC, dI)) (ci := 1) (v := .ref ds) (C := RX0) (T := TX0) (N := 3) hx hb hts inn_X0_is_X0 hown hK hP 6 rfl rfl 0 (by decide) (hts (.fieldLink RX0 11 "DoorKeys$Doors" "states" "[I") (by decide +kernel)) (fun _ h9 => h9) rfl dX0_is_9 ?_
    refine lv_iload_n hx hb dX0_is_12 rfl (lv_at hl 1 rfl) ?_
    refine va_iald hx hb hK hP 7 2 rfl rfl (dk_dhas_in c_5) dX0_is_13 ?_
    refine lv_iload_n hx hb dX0_is_14 rfl (lv_at hl 2 rfl) ?_
    refine lv_icmp_ne (tgt := 22) hx hb dX0_is_15 (by decide) (fun c_15 => ?_) (fun c_15 => ?_)
    · refine lv_iconst (v := 0) hx hb dX0_is_22 (by decide) ?_
      have e_ : dk_dis st x y = (0 : Int32) := by unfold dk_dis; exact (if_neg c_5).trans ((if_neg c_15).trans rfl)
      rw [e_]
      exact W.zret (v := 0) hx hb hr (by decide) (fun t ht hW => ⟨rfl, ht⟩) (fun q h => absurd h List.not_mem_nil) dX0_is_23
    · refine lv_iconst (v := 1) hx hb dX0_is_18 (by decide) ?_
      refine lv_goto (tgt := 23) hx hb dX0_is_19 (by decide) ?_
      have e_ : dk_dis st x y = (1 : Int32) := by unfold dk_dis; exact (if_neg c_5).trans ((if_pos c_15).trans rfl)
      rw [e_]
      exact W.zret (v := 1) hx hb hr (by decide) (fun t ht hW => ⟨rfl, ht⟩) (fun q h => absurd h List.not_mem_nil) dX0_is_23
def dk_dput (st : Nat → Int32) (x : Int32) (y : Int32) : (Nat → Int32) :=
  if dk_dhas x = 0 then
    st
  else
    (upd st x.toNatClampNeg y)
def rm_X0_put : Room := { frames := 1, cells := 0, slots := 0, locals := 21 }
set_option maxHeartbeats 4000000 in
set_option maxRecDepth 100000 in
theorem c_X0_put (l : Launch) (dC : Nat → ClassId) (dI : Nat → Nat → Nat) (cK : ClassId) (cB : ClassId) (cI : ClassId) (o : Nat) (ks : Nat) (fa : Nat) (oa : Nat) (fb : Nat) (ob : Nat) (dr : Nat) (ds : Nat) (L : Nat → Nat) (n : Nat) (sp : Int32) (co : Nat) (en : Nat) (cr : Int32) (rl : Int32) (qs : Int32) (kA : Int32) (oA : Nat → Int8) (kB : Int32) (oB : Nat → Int8) (tt : Int64) (ss : Int64) (st : Nat → Int32) (K : Nat → KR) (x : Int32) (y : Int32) : Met l yX0_put wsX0_put rm_X0_put (up_P (dC, dI) vwCl (dkT cK cB cI) (dkW cK cB cI o ks fa oa fb ob dr ds L n sp co en cr rl qs kA oA kB oB tt ss st K) [.ref dr, .int x, .int y]) (up_Q (dC, dI) vwCl none (dkW cK cB cI o ks fa oa fb ob dr ds L n sp co en cr rl qs kA oA kB oB tt ss st K) (dkW cK cB cI o ks fa oa fb ob dr ds L n sp co en cr rl qs kA oA kB oB tt ss (dk_dput st x y) K)) 0 0 (up_c (dkW cK cB cI o ks fa oa fb ob dr ds L n sp co en cr rl qs kA oA kB oB tt ss st K)) := by
  refine Met.ofW (cc := cX0_put) (maxL := 3) (ret := none) (by decide) rfl ?_
  intro p e s m args below meth c s₁ B hml hv
  obtain ⟨rfl, hP, hK, hD0⟩ := hv
  have hx := B.exec
  have hb := B.bytes
  have hr := B.returns
  have hts := atoms_spec (ws := wsX0_put) B.pre
  have hown : s.vm.findClass RX0 = some m.cls := findClass_of_methodNamed B.named
  have hlocks := B.notSynchronized
  have hD := up_self hD0
  have hS : va_S (up_c (dkW cK cB cI o ks fa oa fb ob dr ds L n sp co en cr rl qs kA oA kB oB tt ss st K)) s.heap s.heap [] := va_S.rf
  have hl := lv_entry ([.ref dr, .int x, .int y]) (n := 3) (Nat.le_of_ble_eq_true rfl)
  rw [lg_entry_eq]
  generalize (lg_sl ([.ref dr, .int x, .int y]) ++ List.replicate (3 - (lg_sl ([.ref dr, .int x, .int y])).length) Slot.unset).toArray = ls at hl ⊢
  have hl : lv_has ls 3 [(0, .ref dr), (1, .int x), (2, .int y)] := hl
  refine lv_aload_n hx hb dX0_put_0 rfl (lv_at hl 0 rfl) ?_
  refine lv_iload_n hx hb dX0_put_1 rfl (lv_at hl 1 rfl) ?_
  refine up_read (W.runV (As := [.int x]) (rest := []) ⟨hx, hb, hml, hown, hts⟩ (c_X0_has l dC dI cK cB cI o ks fa oa fb ob dr ds L n sp co en cr rl qs kA oA kB oB tt ss st K x) (cwV 1 hts gX0_put_X0_has rfl rfl rfl (by decide +kernel) ⟨Nat.le_of_ble_eq_true rfl, Nat.le_of_ble_eq_true rfl⟩) (up_preV (q0 := 6) (ci := 1) hP hK hD rfl rfl) rfl rfl hl.1 rfl (lv_room (Nat.le_of_ble_eq_true rfl)) dX0_put_2 ⟨Nat.le_of_ble_eq_true rfl, Nat.le_of_ble_eq_true rfl⟩) ?_
  refine lv_if_eq (tgt := 15) hx hb dX0_put_5 (by decide) (fun c_5 => ?_) (fun c_5 => ?_)
  · have e_ : dk_dput st x y = st := by unfold dk_dput; exact (if_pos c_5).trans rfl
    rw [e_]
    exact W.vret hx hb hr (fun t ht hW => ⟨rfl, by rw [ht]; exact hP, hS.F ht⟩) hS.2.2 dX0_put_15
  · refine lv_aload_n hx hb dX0_put_8 rfl (lv_at hl 0 rfl) ?_
    refine va_get (D := (dC, dI)) (ci := 1) (v := .ref ds) (C := RX0) (T := TX0) (N := 3) hx hb hts inn_X0_put_X0 hown hK hP 6 rfl rfl 0 (by decide) (hts (.fieldLink RX0 11 "DoorKeys$Doors" "states" "[I") (by decide +kernel)) (fun _ h9 => h9) rfl dX0_put_9 ?_
    refine lv_iload_n hx hb dX0_put_12 rfl (lv_at hl 1 rfl) ?_
    refine lv_iload_n hx hb dX0_put_13 rfl (lv_at hl 2 rfl) ?_
    refine va_iast hx hb hK hP hD hS 7 2 rfl rfl (dk_dhas_in c_5) dX0_put_14 (fun H locs hP hD hS => ?_)
    have hP : va_P (dC, dI) vwCl (dkW cK cB cI o ks fa oa fb ob dr ds L n sp co en cr rl qs kA oA kB oB tt ss (upd st x.toNatClampNeg y) K) H := hP
    have hD : va_D (up_c (dkW cK cB cI o ks fa oa fb ob dr ds L n sp co en cr rl qs kA oA kB oB tt ss st K)) (dkW cK cB cI o ks fa oa fb ob dr ds L n sp co en cr rl qs kA oA kB oB tt ss (upd st x.toNatClampNeg y) K) := hD
    have e_ : dk_dput st x y = (upd st x.toNatClampNeg y) := by unfold dk_dput; exact (if_neg c_5).trans rfl
    rw [e_]
    exact W.vret hx hb hr (fun t ht hW => ⟨rfl, by rw [ht]; exact hP, hS.F ht⟩) hS.2.2 dX0_put_15
def dk_openOne (st : Nat → Int32) (x : Int32) : (Nat → Int32) :=
  (dk_dput st x 0)
def rm_X0_openOne : Room := { frames := 2, cells := 0, slots := 0, locals := 43 }
set_option maxHeartbeats 4000000 in
set_option maxRecDepth 100000 in
theorem c_X0_openOne (l : Launch) (dC : Nat → ClassId) (dI : Nat → Nat → Nat) (cK : ClassId) (cB : ClassId) (cI : ClassId) (o : Nat) (ks : Nat) (fa : Nat) (oa : Nat) (fb : Nat) (ob : Nat) (dr : Nat) (ds : Nat) (L : Nat → Nat) (n : Nat) (sp : Int32) (co : Nat) (en : Nat) (cr : Int32) (rl : Int32) (qs : Int32) (kA : Int32) (oA : Nat → Int8) (kB : Int32) (oB : Nat → Int8) (tt : Int64) (ss : Int64) (st : Nat → Int32) (K : Nat → KR) (x : Int32) : Met l yX0_openOne wsX0_openOne rm_X0_openOne (up_P (dC, dI) vwCl (dkT cK cB cI) (dkW cK cB cI o ks fa oa fb ob dr ds L n sp co en cr rl qs kA oA kB oB tt ss st K) [.ref dr, .int x]) (up_Q (dC, dI) vwCl none (dkW cK cB cI o ks fa oa fb ob dr ds L n sp co en cr rl qs kA oA kB oB tt ss st K) (dkW cK cB cI o ks fa oa fb ob dr ds L n sp co en cr rl qs kA oA kB oB tt ss (dk_openOne st x) K)) 0 0 (up_c (dkW cK cB cI o ks fa oa fb ob dr ds L n sp co en cr rl qs kA oA kB oB tt ss st K)) := by
  refine Met.ofW (cc := cX0_openOne) (maxL := 2) (ret := none) (by decide) rfl ?_
  intro p e s m args below meth c s₁ B hml hv
  obtain ⟨rfl, hP, hK, hD0⟩ := hv
  have hx := B.exec
  have hb := B.bytes
  have hr := B.returns
  have hts := atoms_spec (ws := wsX0_openOne) B.pre
  have hown : s.vm.findClass RX0 = some m.cls := findClass_of_methodNamed B.named
  have hlocks := B.notSynchronized
  have hD := up_self hD0
  have hS : va_S (up_c (dkW cK cB cI o ks fa oa fb ob dr ds L n sp co en cr rl qs kA oA kB oB tt ss st K)) s.heap s.heap [] := va_S.rf
  have hl := lv_entry ([.ref dr, .int x]) (n := 2) (Nat.le_of_ble_eq_true rfl)
  rw [lg_entry_eq]
  generalize (lg_sl ([.ref dr, .int x]) ++ List.replicate (2 - (lg_sl ([.ref dr, .int x])).length) Slot.unset).toArray = ls at hl ⊢
  have hl : lv_has ls 2 [(0, .ref dr), (1, .int x)] := hl
  refine lv_aload_n hx hb dX0_openOne_0 rfl (lv_at hl 0 rfl) ?_
  refine lv_iload_n hx hb dX0_openOne_1 rfl (lv_at hl 1 rfl) ?_
  refine lv_iconst (v := 0) hx hb dX0_openOne_2 (by decide) ?_
  refine up_call (W.runV (As := [.int x, .int 0]) (rest := []) ⟨hx, hb, hml, hown, hts⟩ (c_X0_put l dC dI cK cB cI o ks fa oa fb ob dr ds L n sp co en cr rl qs kA oA kB oB tt ss st K x 0) (cwV 2 hts gX0_openOne_X0_put rfl rfl rfl (by decide +kernel) ⟨Nat.le_of_ble_eq_true rfl, Nat.le_of_ble_eq_true rfl⟩) (up_preV (q0 := 6) (ci := 1) hP hK hD rfl rfl) rfl rfl hl.1 rfl (lv_room (Nat.le_of_ble_eq_true rfl)) dX0_openOne_3 ⟨Nat.le_of_ble_eq_true rfl, Nat.le_of_ble_eq_true rfl⟩) hD hS ((dk_fst ..).trans (dk_fst ..).symm) (fun H locs hP hD hS _ _ => ?_)
  have hP : va_P (dC, dI) vwCl (dkW cK cB cI o ks fa oa fb ob dr ds L n sp co en cr rl qs kA oA kB oB tt ss (dk_dput st x 0) K) H := hP
  have hD : va_D (up_c (dkW cK cB cI o ks fa oa fb ob dr ds L n sp co en cr rl qs kA oA kB oB tt ss st K)) (dkW cK cB cI o ks fa oa fb ob dr ds L n sp co en cr rl qs kA oA kB oB tt ss (dk_dput st x 0) K) := hD
  have e_ : dk_openOne st x = (dk_dput st x 0) := by unfold dk_openOne; exact rfl
  rw [e_]
  exact W.vret hx hb hr (fun t ht hW => ⟨rfl, by rw [ht]; exact hP, hS.F ht⟩) hS.2.2 dX0_openOne_6
def dk_boot (st : Nat → Int32) : (Nat → Int32) :=
  if dk_dis st 4 2 = 0 then
    (dk_dput st 4 0)
  else
    st
def rm_X0_openBootUnlessDead : Room := { frames := 2, cells := 0, slots := 0, locals := 43 }
set_option maxHeartbeats 4000000 in
set_option maxRecDepth 100000 in
theorem c_X0_openBootUnlessDead (l : Launch) (dC : Nat → ClassId) (dI : Nat → Nat → Nat) (cK : ClassId) (cB : ClassId) (cI : ClassId) (o : Nat) (ks : Nat) (fa : Nat) (oa : Nat) (fb : Nat) (ob : Nat) (dr : Nat) (ds : Nat) (L : Nat → Nat) (n : Nat) (sp : Int32) (co : Nat) (en : Nat) (cr : Int32) (rl : Int32) (qs : Int32) (kA : Int32) (oA : Nat → Int8) (kB : Int32) (oB : Nat → Int8) (tt : Int64) (ss : Int64) (st : Nat → Int32) (K : Nat → KR) : Met l yX0_openBootUnlessDead wsX0_openBootUnlessDead rm_X0_openBootUnlessDead (up_P (dC, dI) vwCl (dkT cK cB cI) (dkW cK cB cI o ks fa oa fb ob dr ds L n sp co en cr rl qs kA oA kB oB tt ss st K) [.ref dr]) (up_Q (dC, dI) vwCl none (dkW cK cB cI o ks fa oa fb ob dr ds L n sp co en cr rl qs kA oA kB oB tt ss st K) (dkW cK cB cI o ks fa oa fb ob dr ds L n sp co en cr rl qs kA oA kB oB tt ss (dk_boot st) K)) 0 0 (up_c (dkW cK cB cI o ks fa oa fb ob dr ds L n sp co en cr rl qs kA oA kB oB tt ss st K)) := by
  refine Met.ofW (cc := cX0_openBootUnlessDead) (maxL := 1) (ret := none) (by decide) rfl ?_
  intro p e s m args below meth c s₁ B hml hv
  obtain ⟨rfl, hP, hK, hD0⟩ := hv
  have hx := B.exec
  have hb := B.bytes
  have hr := B.returns
  have hts := atoms_spec (ws := wsX0_openBootUnlessDead) B.pre
  have hown : s.vm.findClass RX0 = some m.cls := findClass_of_methodNamed B.named
  have hlocks := B.notSynchronized
  have hD := up_self hD0
  have hS : va_S (up_c (dkW cK cB cI o ks fa oa fb ob dr ds L n sp co en cr rl qs kA oA kB oB tt ss st K)) s.heap s.heap [] := va_S.rf
  have hl := lv_entry ([.ref dr]) (n := 1) (Nat.le_of_ble_eq_true rfl)
  rw [lg_entry_eq]
  generalize (lg_sl ([.ref dr]) ++ List.replicate (1 - (lg_sl ([.ref dr])).length) Slot.unset).toArray = ls at hl ⊢
  have hl : lv_has ls 1 [(0, .ref dr)] := hl
  refine lv_aload_n hx hb dX0_openBootUnlessDead_0 rfl (lv_at hl 0 rfl) ?_
  refine lv_iconst (v := 4) hx hb dX0_openBootUnlessDead_1 (by decide) ?_
  refine lv_iconst (v := 2) hx hb dX0_openBootUnlessDead_2 (by decide) ?_
  refine up_read (W.runV (As := [.int 4, .int 2]) (rest := []) ⟨hx, hb, hml, hown, hts⟩ (c_X0_is l dC dI cK cB cI o ks fa oa fb ob dr ds L n sp co en cr rl qs kA oA kB oB tt ss st K 4 2) (cwV 2 hts gX0_openBootUnlessDead_X0_is rfl rfl rfl (by decide +kernel) ⟨Nat.le_of_ble_eq_true rfl, Nat.le_of_ble_eq_true rfl⟩) (up_preV (q0 := 6) (ci := 1) hP hK hD rfl rfl) rfl rfl hl.1 rfl (lv_room (Nat.le_of_ble_eq_true rfl)) dX0_openBootUnlessDead_3 ⟨Nat.le_of_ble_eq_true rfl, Nat.le_of_ble_eq_true rfl⟩) ?_
  refine lv_if_ne (tgt := 15) hx hb dX0_openBootUnlessDead_6 (by decide) (fun c_6 => ?_) (fun c_6 => ?_)
  · have e_ : dk_boot st = st := by unfold dk_boot; exact (if_neg c_6).trans rfl
    rw [e_]
    exact W.vret hx hb hr (fun t ht hW => ⟨rfl, by rw [ht]; exact hP, hS.F ht⟩) hS.2.2 dX0_openBootUnlessDead_15
  · refine lv_aload_n hx hb dX0_openBootUnlessDead_9 rfl (lv_at hl 0 rfl) ?_
    refine lv_iconst (v := 4) hx hb dX0_openBootUnlessDead_10 (by decide) ?_
    refine lv_iconst (v := 0) hx hb dX0_openBootUnlessDead_11 (by decide) ?_
    refine up_call (W.runV (As := [.int 4, .int 0]) (rest := []) ⟨hx, hb, hml, hown, hts⟩ (c_X0_put l dC dI cK cB cI o ks fa oa fb ob dr ds L n sp co en cr rl qs kA oA kB oB tt ss st K 4 0) (cwV 2 hts gX0_openBootUnlessDead_X0_put rfl rfl rfl (by decide +kernel) ⟨Nat.le_of_ble_eq_true rfl, Nat.le_of_ble_eq_true rfl⟩) (up_preV (q0 := 6) (ci := 1) hP hK hD rfl rfl) rfl rfl hl.1 rfl (lv_room (Nat.le_of_ble_eq_true rfl)) dX0_openBootUnlessDead_12 ⟨Nat.le_of_ble_eq_true rfl, Nat.le_of_ble_eq_true rfl⟩) hD hS ((dk_fst ..).trans (dk_fst ..).symm) (fun H locs hP hD hS _ _ => ?_)
    have hP : va_P (dC, dI) vwCl (dkW cK cB cI o ks fa oa fb ob dr ds L n sp co en cr rl qs kA oA kB oB tt ss (dk_dput st 4 0) K) H := hP
    have hD : va_D (up_c (dkW cK cB cI o ks fa oa fb ob dr ds L n sp co en cr rl qs kA oA kB oB tt ss st K)) (dkW cK cB cI o ks fa oa fb ob dr ds L n sp co en cr rl qs kA oA kB oB tt ss (dk_dput st 4 0) K) := hD
    have e_ : dk_boot st = (dk_dput st 4 0) := by unfold dk_boot; exact (if_pos c_6).trans rfl
    rw [e_]
    exact W.vret hx hb hr (fun t ht hW => ⟨rfl, by rw [ht]; exact hP, hS.F ht⟩) hS.2.2 dX0_openBootUnlessDead_15
def dk_note (st : Nat → Int32) (tt : Int64) (ss : Int64) (x : Int32) : Int64 :=
  if x ≤ 0 then
    ss
  else
    if dk_any st 0 = 0 then
      tt
    else
      ss
def rm_X0_noteShut : Room := { frames := 1, cells := 0, slots := 0, locals := 22 }
set_option maxHeartbeats 4000000 in
set_option maxRecDepth 100000 in
theorem c_X0_noteShut (l : Launch) (dC : Nat → ClassId) (dI : Nat → Nat → Nat) (cK : ClassId) (cB : ClassId) (cI : ClassId) (o : Nat) (ks : Nat) (fa : Nat) (oa : Nat) (fb : Nat) (ob : Nat) (dr : Nat) (ds : Nat) (L : Nat → Nat) (n : Nat) (sp : Int32) (co : Nat) (en : Nat) (cr : Int32) (rl : Int32) (qs : Int32) (kA : Int32) (oA : Nat → Int8) (kB : Int32) (oB : Nat → Int8) (tt : Int64) (ss : Int64) (st : Nat → Int32) (K : Nat → KR) (x : Int32) : Met l yX0_noteShut wsX0_noteShut rm_X0_noteShut (up_P (dC, dI) vwCl (dkT cK cB cI) (dkW cK cB cI o ks fa oa fb ob dr ds L n sp co en cr rl qs kA oA kB oB tt ss st K) [.ref dr, .int x]) (up_Q (dC, dI) vwCl none (dkW cK cB cI o ks fa oa fb ob dr ds L n sp co en cr rl qs kA oA kB oB tt ss st K) (dkW cK cB cI o ks fa oa fb ob dr ds L n sp co en cr rl qs kA oA kB oB tt (dk_note st tt ss x) st K)) 0 0 (up_c (dkW cK cB cI o ks fa oa fb ob dr ds L n sp co en cr rl qs kA oA kB oB tt ss st K)) := by
  refine Met.ofW (cc := cX0_noteShut) (maxL := 2) (ret := none) (by decide) rfl ?_
  intro p e s m args below meth c s₁ B hml hv
  obtain ⟨rfl, hP, hK, hD0⟩ := hv
  have hx := B.exec
  have hb := B.bytes
  have hr := B.returns
  have hts := atoms_spec (ws := wsX0_noteShut) B.pre
  have hown : s.vm.findClass RX0 = some m.cls := findClass_of_methodNamed B.named
  have hlocks := B.notSynchronized
  have hD := up_self hD0
  have hS : va_S (up_c (dkW cK cB cI o ks fa oa fb ob dr ds L n sp co en cr rl qs kA oA kB oB tt ss st K)) s.heap s.heap [] := va_S.rf
  have hl := lv_entry ([.ref dr, .int x]) (n := 2) (Nat.le_of_ble_eq_true rfl)
  rw [lg_entry_eq]
  generalize (lg_sl ([.ref dr, .int x]) ++ List.replicate (2 - (lg_sl ([.ref dr, .int x])).length) Slot.unset).toArray = ls at hl ⊢
  have hl : lv_has ls 2 [(0, .ref dr), (1, .int x)] := hl
  refine lv_iload_n hx hb dX0_noteShut_0 rfl (lv_at hl 1 rfl) ?_
  refine lv_if_le (tgt := 20) hx hb dX0_noteShut_1 (by decide) (fun c_1 => ?_) (fun c_1 => ?_)
  · have e_ : dk_note st tt ss x = ss := by unfold dk_note; exact (if_pos c_1).trans rfl
    rw [e_]
    exact W.vret hx hb hr (fun t ht hW => ⟨rfl, by rw [ht]; exact hP, hS.F ht⟩) hS.2.2 dX0_noteShut_20
  · refine lv_aload_n hx hb dX0_noteShut_4 rfl (lv_at hl 0 rfl) ?_
    refine lv_iconst (v := 0) hx hb dX0_noteShut_5 (by decide) ?_
    refine up_read (W.runV (As := [.int 0]) (rest := []) ⟨hx, hb, hml, hown, hts⟩ (c_X0_hasAny l dC dI cK cB cI o ks fa oa fb ob dr ds L n sp co en cr rl qs kA oA kB oB tt ss st K 0) (cwV 1 hts gX0_noteShut_X0_hasAny rfl rfl rfl (by decide +kernel) ⟨Nat.le_of_ble_eq_true rfl, Nat.le_of_ble_eq_true rfl⟩) (up_preV (q0 := 6) (ci := 1) hP hK hD rfl rfl) rfl rfl hl.1 rfl (lv_room (Nat.le_of_ble_eq_true rfl)) dX0_noteShut_6 ⟨Nat.le_of_ble_eq_true rfl, Nat.le_of_ble_eq_true rfl⟩) ?_
    refine lv_if_ne (tgt := 20) hx hb dX0_noteShut_9 (by decide) (fun c_9 => ?_) (fun c_9 => ?_)
    · have e_ : dk_note st tt ss x = ss := by unfold dk_note; exact (if_neg c_1).trans ((if_neg c_9).trans rfl)
      rw [e_]
      exact W.vret hx hb hr (fun t ht hW => ⟨rfl, by rw [ht]; exact hP, hS.F ht⟩) hS.2.2 dX0_noteShut_20
    · refine lv_aload_n hx hb dX0_noteShut_12 rfl (lv_at hl 0 rfl) ?_
      refine lv_aload_n hx hb dX0_noteShut_13 rfl (lv_at hl 0 rfl) ?_
      refine va_get (D := (dC, dI)) (ci := 1) (v := .long tt) (C := RX0) (T := TX0) (N := 3) hx hb hts inn_X0_noteShut_X0 hown hK hP 6 rfl rfl 1 (by decide) (hts (.fieldLink RX0 19 "DoorKeys$Doors" "timeTold" "J") (by decide +kernel)) (fun _ h9 => h9) rfl dX0_noteShut_14 ?_
      refine va_put (D := (dC, dI)) (ci := 1) (v := .long tt) (ty := .long) (C := RX0) (T := TX0) (N := 3) hx hb hts inn_X0_noteShut_X0 tyX0 tyX0_ok nmX0 hown hK hP hD hS 6 rfl rfl 2 (by decide) (hts (.fieldLink RX0 23 "DoorKeys$Doors" "shutSince" "J") (by decide +kernel)) (fun _ h9 => h9) rfl (by decide +kernel) rfl rfl (Nat.le_of_ble_eq_true rfl) dX0_noteShut_17 (fun H locs hP hD hS => ?_)
      have hP : va_P (dC, dI) vwCl (dkW cK cB cI o ks fa oa fb ob dr ds L n sp co en cr rl qs kA oA kB oB tt tt st K) H := hP
      have hD : va_D (up_c (dkW cK cB cI o ks fa oa fb ob dr ds L n sp co en cr rl qs kA oA kB oB tt ss st K)) (dkW cK cB cI o ks fa oa fb ob dr ds L n sp co en cr rl qs kA oA kB oB tt tt st K) := hD
      have e_ : dk_note st tt ss x = tt := by unfold dk_note; exact (if_neg c_1).trans ((if_pos c_9).trans rfl)
      rw [e_]
      exact W.vret hx hb hr (fun t ht hW => ⟨rfl, by rw [ht]; exact hP, hS.F ht⟩) hS.2.2 dX0_noteShut_20
def dk_shutAll (st : Nat → Int32) (tt : Int64) (ss : Int64) : Int32 × (Nat → Int32) × Int64 :=
  ((dk_turn st 0 1).1, (dk_turn st 0 1).2, (dk_note ((dk_turn st 0 1).2) tt ss ((dk_turn st 0 1).1)))
def rm_X0_shutAll : Room := { frames := 2, cells := 0, slots := 0, locals := 43 }
set_option maxHeartbeats 4000000 in
set_option maxRecDepth 100000 in
theorem c_X0_shutAll (l : Launch) (dC : Nat → ClassId) (dI : Nat → Nat → Nat) (cK : ClassId) (cB : ClassId) (cI : ClassId) (o : Nat) (ks : Nat) (fa : Nat) (oa : Nat) (fb : Nat) (ob : Nat) (dr : Nat) (ds : Nat) (L : Nat → Nat) (n : Nat) (sp : Int32) (co : Nat) (en : Nat) (cr : Int32) (rl : Int32) (qs : Int32) (kA : Int32) (oA : Nat → Int8) (kB : Int32) (oB : Nat → Int8) (tt : Int64) (ss : Int64) (st : Nat → Int32) (K : Nat → KR) : Met l yX0_shutAll wsX0_shutAll rm_X0_shutAll (up_P (dC, dI) vwCl (dkT cK cB cI) (dkW cK cB cI o ks fa oa fb ob dr ds L n sp co en cr rl qs kA oA kB oB tt ss st K) [.ref dr]) (up_Q (dC, dI) vwCl (some (.int ((dk_shutAll st tt ss).1))) (dkW cK cB cI o ks fa oa fb ob dr ds L n sp co en cr rl qs kA oA kB oB tt ss st K) (dkW cK cB cI o ks fa oa fb ob dr ds L n sp co en cr rl qs kA oA kB oB tt ((dk_shutAll st tt ss).2.2) ((dk_shutAll st tt ss).2.1) K)) 0 0 (up_c (dkW cK cB cI o ks fa oa fb ob dr ds L n sp co en cr rl qs kA oA kB oB tt ss st K)) := by
  refine Met.ofW (cc := cX0_shutAll) (maxL := 2) (ret := (some .int)) (by decide) rfl ?_
  intro p e s m args below meth c s₁ B hml hv
  obtain ⟨rfl, hP, hK, hD0⟩ := hv
  have hx := B.exec
  have hb := B.bytes
  have hr := B.returns
  have hts := atoms_spec (ws := wsX0_shutAll) B.pre
  have hown : s.vm.findClass RX0 = some m.cls := findClass_of_methodNamed B.named
  have hlocks := B.notSynchronized
  have hD := up_self hD0
  have hS : va_S (up_c (dkW cK cB cI o ks fa oa fb ob dr ds L n sp co en cr rl qs kA oA kB oB tt ss st K)) s.heap s.heap [] := va_S.rf
  have hl := lv_entry ([.ref dr]) (n := 2) (Nat.le_of_ble_eq_true rfl)
  rw [lg_entry_eq]
  generalize (lg_sl ([.ref dr]) ++ List.replicate (2 - (lg_sl ([.ref dr])).length) Slot.unset).toArray = ls at hl ⊢
  have hl : lv_has ls 2 [(0, .ref dr)] := hl
  refine lv_aload_n hx hb dX0_shutAll_0 rfl (lv_at hl 0 rfl) ?_
  refine lv_iconst (v := 0) hx hb dX0_shutAll_1 (by decide) ?_
  refine lv_iconst (v := 1) hx hb dX0_shutAll_2 (by decide) ?_
  refine up_call (W.runV (As := [.int 0, .int 1]) (rest := []) ⟨hx, hb, hml, hown, hts⟩ (c_X0_turn l dC dI cK cB cI o ks fa oa fb ob dr ds L n sp co en cr rl qs kA oA kB oB tt ss st K 0 1) (cwV 2 hts gX0_shutAll_X0_turn rfl rfl rfl (by decide +kernel) ⟨Nat.le_of_ble_eq_true rfl, Nat.le_of_ble_eq_true rfl⟩) (up_preV (q0 := 6) (ci := 1) hP hK hD rfl rfl) rfl rfl hl.1 rfl (lv_room (Nat.le_of_ble_eq_true rfl)) dX0_shutAll_3 ⟨Nat.le_of_ble_eq_true rfl, Nat.le_of_ble_eq_true rfl⟩) hD hS ((dk_fst ..).trans (dk_fst ..).symm) (fun H locs hP hD hS _ _ => ?_)
  have hP : va_P (dC, dI) vwCl (dkW cK cB cI o ks fa oa fb ob dr ds L n sp co en cr rl qs kA oA kB oB tt ss ((dk_turn st 0 1).2) K) H := hP
  have hD : va_D (up_c (dkW cK cB cI o ks fa oa fb ob dr ds L n sp co en cr rl qs kA oA kB oB tt ss st K)) (dkW cK cB cI o ks fa oa fb ob dr ds L n sp co en cr rl qs kA oA kB oB tt ss ((dk_turn st 0 1).2) K) := hD
  refine lv_istore_n (lv' := [(1, .int ((dk_turn st 0 1).1)), (0, .ref dr)]) hx hb dX0_shutAll_6 rfl hl (by decide) rfl (fun ls hl => ?_)
  refine lv_aload_n hx hb dX0_shutAll_7 rfl (lv_at hl 1 rfl) ?_
  refine lv_iload_n hx hb dX0_shutAll_8 rfl (lv_at hl 0 rfl) ?_
  refine up_call (W.runV (As := [.int ((dk_turn st 0 1).1)]) (rest := []) ⟨hx, hb, hml, hown, hts⟩ (c_X0_noteShut l dC dI cK cB cI o ks fa oa fb ob dr ds L n sp co en cr rl qs kA oA kB oB tt ss ((dk_turn st 0 1).2) K ((dk_turn st 0 1).1)) (cwV 1 hts gX0_shutAll_X0_noteShut rfl rfl rfl (by decide +kernel) ⟨Nat.le_of_ble_eq_true rfl, Nat.le_of_ble_eq_true rfl⟩) (up_preV (q0 := 6) (ci := 1) hP hK hD rfl rfl) rfl rfl hl.1 rfl (lv_room (Nat.le_of_ble_eq_true rfl)) dX0_shutAll_9 ⟨Nat.le_of_ble_eq_true rfl, Nat.le_of_ble_eq_true rfl⟩) hD hS ((dk_fst ..).trans (dk_fst ..).symm) (fun H locs hP hD hS _ _ => ?_)
  have hP : va_P (dC, dI) vwCl (dkW cK cB cI o ks fa oa fb ob dr ds L n sp co en cr rl qs kA oA kB oB tt (dk_note ((dk_turn st 0 1).2) tt ss ((dk_turn st 0 1).1)) ((dk_turn st 0 1).2) K) H := hP
  have hD : va_D (up_c (dkW cK cB cI o ks fa oa fb ob dr ds L n sp co en cr rl qs kA oA kB oB tt ss st K)) (dkW cK cB cI o ks fa oa fb ob dr ds L n sp co en cr rl qs kA oA kB oB tt (dk_note ((dk_turn st 0 1).2) tt ss ((dk_turn st 0 1).1)) ((dk_turn st 0 1).2) K) := hD
  refine lv_iload_n hx hb dX0_shutAll_12 rfl (lv_at hl 0 rfl) ?_
  have e_ : dk_shutAll st tt ss = ((dk_turn st 0 1).1, (dk_turn st 0 1).2, (dk_note ((dk_turn st 0 1).2) tt ss ((dk_turn st 0 1).1))) := by unfold dk_shutAll; exact rfl
  rw [e_]
  exact W.iret (v := (dk_turn st 0 1).1) hx hb hr (fun t ht hW => ⟨rfl, by rw [ht]; exact hP, hS.F ht⟩) hS.2.2 dX0_shutAll_13
def dk_shutBoot (st : Nat → Int32) (tt : Int64) (ss : Int64) : Int32 × (Nat → Int32) × Int64 :=
  if dk_dis st 4 0 = 0 then
    ((0 : Int32), st, ss)
  else
    ((1 : Int32), (dk_dput st 4 1), (dk_note (dk_dput st 4 1) tt ss 1))
def rm_X0_shutBoot : Room := { frames := 2, cells := 0, slots := 0, locals := 43 }
set_option maxHeartbeats 4000000 in
set_option maxRecDepth 100000 in
theorem c_X0_shutBoot (l : Launch) (dC : Nat → ClassId) (dI : Nat → Nat → Nat) (cK : ClassId) (cB : ClassId) (cI : ClassId) (o : Nat) (ks : Nat) (fa : Nat) (oa : Nat) (fb : Nat) (ob : Nat) (dr : Nat) (ds : Nat) (L : Nat → Nat) (n : Nat) (sp : Int32) (co : Nat) (en : Nat) (cr : Int32) (rl : Int32) (qs : Int32) (kA : Int32) (oA : Nat → Int8) (kB : Int32) (oB : Nat → Int8) (tt : Int64) (ss : Int64) (st : Nat → Int32) (K : Nat → KR) : Met l yX0_shutBoot wsX0_shutBoot rm_X0_shutBoot (up_P (dC, dI) vwCl (dkT cK cB cI) (dkW cK cB cI o ks fa oa fb ob dr ds L n sp co en cr rl qs kA oA kB oB tt ss st K) [.ref dr]) (up_Q (dC, dI) vwCl (some (.int ((dk_shutBoot st tt ss).1))) (dkW cK cB cI o ks fa oa fb ob dr ds L n sp co en cr rl qs kA oA kB oB tt ss st K) (dkW cK cB cI o ks fa oa fb ob dr ds L n sp co en cr rl qs kA oA kB oB tt ((dk_shutBoot st tt ss).2.2) ((dk_shutBoot st tt ss).2.1) K)) 0 0 (up_c (dkW cK cB cI o ks fa oa fb ob dr ds L n sp co en cr rl qs kA oA kB oB tt ss st K)) := by
  refine Met.ofW (cc := cX0_shutBoot) (maxL := 1) (ret := (some .int)) (by decide) rfl ?_
  intro p e s m args below meth c s₁ B hml hv
  obtain ⟨rfl, hP, hK, hD0⟩ := hv
  have hx := B.exec
  have hb := B.bytes
  have hr := B.returns
  have hts := atoms_spec (ws := wsX0_shutBoot) B.pre
  have hown : s.vm.findClass RX0 = some m.cls := findClass_of_methodNamed B.named
  have hlocks := B.notSynchronized
  have hD := up_self hD0
  have hS : va_S (up_c (dkW cK cB cI o ks fa oa fb ob dr ds L n sp co en cr rl qs kA oA kB oB tt ss st K)) s.heap s.heap [] := va_S.rf
  have hl := lv_entry ([.ref dr]) (n := 1) (Nat.le_of_ble_eq_true rfl)
  rw [lg_entry_eq]
  generalize (lg_sl ([.ref dr]) ++ List.replicate (1 - (lg_sl ([.ref dr])).length) Slot.unset).toArray = ls at hl ⊢
  have hl : lv_has ls 1 [(0, .ref dr)] := hl
  refine lv_aload_n hx hb dX0_shutBoot_0 rfl (lv_at hl 0 rfl) ?_
  refine lv_iconst (v := 4) hx hb dX0_shutBoot_1 (by decide) ?_
  refine lv_iconst (v := 0) hx hb dX0_shutBoot_2 (by decide) ?_
  refine up_read (W.runV (As := [.int 4, .int 0]) (rest := []) ⟨hx, hb, hml, hown, hts⟩ (c_X0_is l dC dI cK cB cI o ks fa oa fb ob dr ds L n sp co en cr rl qs kA oA kB oB tt ss st K 4 0) (cwV 2 hts gX0_shutBoot_X0_is rfl rfl rfl (by decide +kernel) ⟨Nat.le_of_ble_eq_true rfl, Nat.le_of_ble_eq_true rfl⟩) (up_preV (q0 := 6) (ci := 1) hP hK hD rfl rfl) rfl rfl hl.1 rfl (lv_room (Nat.le_of_ble_eq_true rfl)) dX0_shutBoot_3 ⟨Nat.le_of_ble_eq_true rfl, Nat.le_of_ble_eq_true rfl⟩) ?_
  refine lv_if_ne (tgt := 11) hx hb dX0_shutBoot_6 (by decide) (fun c_6 => ?_) (fun c_6 => ?_)
  · refine lv_aload_n hx hb dX0_shutBoot_11 rfl (lv_at hl 0 rfl) ?_
    refine lv_iconst (v := 4) hx hb dX0_shutBoot_12 (by decide) ?_
    refine lv_iconst (v := 1) hx hb dX0_shutBoot_13 (by decide) ?_
    refine up_call (W.runV (As := [.int 4, .int 1]) (rest := []) ⟨hx, hb, hml, hown, hts⟩ (c_X0_put l dC dI cK cB cI o ks fa oa fb ob dr ds L n sp co en cr rl qs kA oA kB oB tt ss st K 4 1) (cwV 2 hts gX0_shutBoot_X0_put rfl rfl rfl (by decide +kernel) ⟨Nat.le_of_ble_eq_true rfl, Nat.le_of_ble_eq_true rfl⟩) (up_preV (q0 := 6) (ci := 1) hP hK hD rfl rfl) rfl rfl hl.1 rfl (lv_room (Nat.le_of_ble_eq_true rfl)) dX0_shutBoot_14 ⟨Nat.le_of_ble_eq_true rfl, Nat.le_of_ble_eq_true rfl⟩) hD hS ((dk_fst ..).trans (dk_fst ..).symm) (fun H locs hP hD hS _ _ => ?_)
    have hP : va_P (dC, dI) vwCl (dkW cK cB cI o ks fa oa fb ob dr ds L n sp co en cr rl qs kA oA kB oB tt ss (dk_dput st 4 1) K) H := hP
    have hD : va_D (up_c (dkW cK cB cI o ks fa oa fb ob dr ds L n sp co en cr rl qs kA oA kB oB tt ss st K)) (dkW cK cB cI o ks fa oa fb ob dr ds L n sp co en cr rl qs kA oA kB oB tt ss (dk_dput st 4 1) K) := hD
    refine lv_aload_n hx hb dX0_shutBoot_17 rfl (lv_at hl 0 rfl) ?_
    refine lv_iconst (v := 1) hx hb dX0_shutBoot_18 (by decide) ?_
    refine up_call (W.runV (As := [.int 1]) (rest := []) ⟨hx, hb, hml, hown, hts⟩ (c_X0_noteShut l dC dI cK cB cI o ks fa oa fb ob dr ds L n sp co en cr rl qs kA oA kB oB tt ss (dk_dput st 4 1) K 1) (cwV 1 hts gX0_shutBoot_X0_noteShut rfl rfl rfl (by decide +kernel) ⟨Nat.le_of_ble_eq_true rfl, Nat.le_of_ble_eq_true rfl⟩) (up_preV (q0 := 6) (ci := 1) hP hK hD rfl rfl) rfl rfl hl.1 rfl (lv_room (Nat.le_of_ble_eq_true rfl)) dX0_shutBoot_19 ⟨Nat.le_of_ble_eq_true rfl, Nat.le_of_ble_eq_true rfl⟩) hD hS ((dk_fst ..).trans (dk_fst ..).symm) (fun H locs hP hD hS _ _ => ?_)
    have hP : va_P (dC, dI) vwCl (dkW cK cB cI o ks fa oa fb ob dr ds L n sp co en cr rl qs kA oA kB oB tt (dk_note (dk_dput st 4 1) tt ss 1) (dk_dput st 4 1) K) H := hP
    have hD : va_D (up_c (dkW cK cB cI o ks fa oa fb ob dr ds L n sp co en cr rl qs kA oA kB oB tt ss st K)) (dkW cK cB cI o ks fa oa fb ob dr ds L n sp co en cr rl qs kA oA kB oB tt (dk_note (dk_dput st 4 1) tt ss 1) (dk_dput st 4 1) K) := hD
    refine lv_iconst (v := 1) hx hb dX0_shutBoot_22 (by decide) ?_
    have e_ : dk_shutBoot st tt ss = ((1 : Int32), (dk_dput st 4 1), (dk_note (dk_dput st 4 1) tt ss 1)) := by unfold dk_shutBoot; exact (if_neg c_6).trans rfl
    rw [e_]
    exact W.iret (v := 1) hx hb hr (fun t ht hW => ⟨rfl, by rw [ht]; exact hP, hS.F ht⟩) hS.2.2 dX0_shutBoot_23
  · refine lv_iconst (v := 0) hx hb dX0_shutBoot_9 (by decide) ?_
    have e_ : dk_shutBoot st tt ss = ((0 : Int32), st, ss) := by unfold dk_shutBoot; exact (if_pos c_6).trans rfl
    rw [e_]
    exact W.iret (v := 0) hx hb hr (fun t ht hW => ⟨rfl, by rw [ht]; exact hP, hS.F ht⟩) hS.2.2 dX0_shutBoot_10
def dk_deaden (st : Nat → Int32) : Int32 × (Nat → Int32) :=
  if dk_any st 0 = 0 then
    ((dk_turn st 1 2).1, (dk_turn st 1 2).2)
  else
    ((0 : Int32), st)
def rm_X0_deadenUnlessOpen : Room := { frames := 1, cells := 0, slots := 0, locals := 24 }
set_option maxHeartbeats 4000000 in
set_option maxRecDepth 100000 in
theorem c_X0_deadenUnlessOpen (l : Launch) (dC : Nat → ClassId) (dI : Nat → Nat → Nat) (cK : ClassId) (cB : ClassId) (cI : ClassId) (o : Nat) (ks : Nat) (fa : Nat) (oa : Nat) (fb : Nat) (ob : Nat) (dr : Nat) (ds : Nat) (L : Nat → Nat) (n : Nat) (sp : Int32) (co : Nat) (en : Nat) (cr : Int32) (rl : Int32) (qs : Int32) (kA : Int32) (oA : Nat → Int8) (kB : Int32) (oB : Nat → Int8) (tt : Int64) (ss : Int64) (st : Nat → Int32) (K : Nat → KR) : Met l yX0_deadenUnlessOpen wsX0_deadenUnlessOpen rm_X0_deadenUnlessOpen (up_P (dC, dI) vwCl (dkT cK cB cI) (dkW cK cB cI o ks fa oa fb ob dr ds L n sp co en cr rl qs kA oA kB oB tt ss st K) [.ref dr]) (up_Q (dC, dI) vwCl (some (.int ((dk_deaden st).1))) (dkW cK cB cI o ks fa oa fb ob dr ds L n sp co en cr rl qs kA oA kB oB tt ss st K) (dkW cK cB cI o ks fa oa fb ob dr ds L n sp co en cr rl qs kA oA kB oB tt ss ((dk_deaden st).2) K)) 0 0 (up_c (dkW cK cB cI o ks fa oa fb ob dr ds L n sp co en cr rl qs kA oA kB oB tt ss st K)) := by
  refine Met.ofW (cc := cX0_deadenUnlessOpen) (maxL := 1) (ret := (some .int)) (by decide) rfl ?_
  intro p e s m args below meth c s₁ B hml hv
  obtain ⟨rfl, hP, hK, hD0⟩ := hv
  have hx := B.exec
  have hb := B.bytes
  have hr := B.returns
  have hts := atoms_spec (ws := wsX0_deadenUnlessOpen) B.pre
  have hown : s.vm.findClass RX0 = some m.cls := findClass_of_methodNamed B.named
  have hlocks := B.notSynchronized
  have hD := up_self hD0
  have hS : va_S (up_c (dkW cK cB cI o ks fa oa fb ob dr ds L n sp co en cr rl qs kA oA kB oB tt ss st K)) s.heap s.heap [] := va_S.rf
  have hl := lv_entry ([.ref dr]) (n := 1) (Nat.le_of_ble_eq_true rfl)
  rw [lg_entry_eq]
  generalize (lg_sl ([.ref dr]) ++ List.replicate (1 - (lg_sl ([.ref dr])).length) Slot.unset).toArray = ls at hl ⊢
  have hl : lv_has ls 1 [(0, .ref dr)] := hl
  refine lv_aload_n hx hb dX0_deadenUnlessOpen_0 rfl (lv_at hl 0 rfl) ?_
  refine lv_iconst (v := 0) hx hb dX0_deadenUnlessOpen_1 (by decide) ?_
  refine up_read (W.runV (As := [.int 0]) (rest := []) ⟨hx, hb, hml, hown, hts⟩ (c_X0_hasAny l dC dI cK cB cI o ks fa oa fb ob dr ds L n sp co en cr rl qs kA oA kB oB tt ss st K 0) (cwV 1 hts gX0_deadenUnlessOpen_X0_hasAny rfl rfl rfl (by decide +kernel) ⟨Nat.le_of_ble_eq_true rfl, Nat.le_of_ble_eq_true rfl⟩) (up_preV (q0 := 6) (ci := 1) hP hK hD rfl rfl) rfl rfl hl.1 rfl (lv_room (Nat.le_of_ble_eq_true rfl)) dX0_deadenUnlessOpen_2 ⟨Nat.le_of_ble_eq_true rfl, Nat.le_of_ble_eq_true rfl⟩) ?_
  refine lv_if_eq (tgt := 12) hx hb dX0_deadenUnlessOpen_5 (by decide) (fun c_5 => ?_) (fun c_5 => ?_)
  · refine lv_aload_n hx hb dX0_deadenUnlessOpen_12 rfl (lv_at hl 0 rfl) ?_
    refine lv_iconst (v := 1) hx hb dX0_deadenUnlessOpen_13 (by decide) ?_
    refine lv_iconst (v := 2) hx hb dX0_deadenUnlessOpen_14 (by decide) ?_
    refine up_call (W.runV (As := [.int 1, .int 2]) (rest := []) ⟨hx, hb, hml, hown, hts⟩ (c_X0_turn l dC dI cK cB cI o ks fa oa fb ob dr ds L n sp co en cr rl qs kA oA kB oB tt ss st K 1 2) (cwV 2 hts gX0_deadenUnlessOpen_X0_turn rfl rfl rfl (by decide +kernel) ⟨Nat.le_of_ble_eq_true rfl, Nat.le_of_ble_eq_true rfl⟩) (up_preV (q0 := 6) (ci := 1) hP hK hD rfl rfl) rfl rfl hl.1 rfl (lv_room (Nat.le_of_ble_eq_true rfl)) dX0_deadenUnlessOpen_15 ⟨Nat.le_of_ble_eq_true rfl, Nat.le_of_ble_eq_true rfl⟩) hD hS ((dk_fst ..).trans (dk_fst ..).symm) (fun H locs hP hD hS _ _ => ?_)
    have hP : va_P (dC, dI) vwCl (dkW cK cB cI o ks fa oa fb ob dr ds L n sp co en cr rl qs kA oA kB oB tt ss ((dk_turn st 1 2).2) K) H := hP
    have hD : va_D (up_c (dkW cK cB cI o ks fa oa fb ob dr ds L n sp co en cr rl qs kA oA kB oB tt ss st K)) (dkW cK cB cI o ks fa oa fb ob dr ds L n sp co en cr rl qs kA oA kB oB tt ss ((dk_turn st 1 2).2) K) := hD
    have e_ : dk_deaden st = ((dk_turn st 1 2).1, (dk_turn st 1 2).2) := by unfold dk_deaden; exact (if_pos c_5).trans rfl
    rw [e_]
    exact W.iret (v := (dk_turn st 1 2).1) hx hb hr (fun t ht hW => ⟨rfl, by rw [ht]; exact hP, hS.F ht⟩) hS.2.2 dX0_deadenUnlessOpen_18
  · refine lv_iconst (v := 0) hx hb dX0_deadenUnlessOpen_8 (by decide) ?_
    refine lv_goto (tgt := 18) hx hb dX0_deadenUnlessOpen_9 (by decide) ?_
    have e_ : dk_deaden st = ((0 : Int32), st) := by unfold dk_deaden; exact (if_neg c_5).trans rfl
    rw [e_]
    exact W.iret (v := 0) hx hb hr (fun t ht hW => ⟨rfl, by rw [ht]; exact hP, hS.F ht⟩) hS.2.2 dX0_deadenUnlessOpen_18
