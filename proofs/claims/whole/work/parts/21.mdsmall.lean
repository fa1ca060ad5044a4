/-! the reference, small methods (laid by wip/md.py) -/
set_option maxRecDepth 20000 in
theorem inn_X4_thrown_X4 : ∀ w ∈ wsX40, w ∈ wsX4_thrown := by decide +kernel
set_option maxRecDepth 20000 in
theorem inn_X4_none_X4 : ∀ w ∈ wsX40, w ∈ wsX4_none := by decide +kernel
set_option maxRecDepth 20000 in
theorem inn_X4_some_X4 : ∀ w ∈ wsX40, w ∈ wsX4_some := by decide +kernel
set_option maxRecDepth 20000 in
theorem inn_X4_turn_X4 : ∀ w ∈ wsX40, w ∈ wsX4_turn := by decide +kernel
set_option maxRecDepth 20000 in
theorem inn_X4_command_X4 : ∀ w ∈ wsX40, w ∈ wsX4_command := by decide +kernel
set_option maxRecDepth 20000 in
theorem inn_X4_here_X4 : ∀ w ∈ wsX40, w ∈ wsX4_here := by decide +kernel
def md_thrown (cd : Int32) : Int32 :=
  cd
def rm_X4_thrown : Room := { frames := 0, cells := 0, slots := 0, locals := 0 }
set_option maxHeartbeats 4000000 in
set_option maxRecDepth 100000 in
theorem c_X4_thrown (l : Launch) (dC : Nat → ClassId) (dI : Nat → Nat → Nat) (cI : ClassId) (cJ : ClassId) (cZ : ClassId) (q : Nat) (aS : Nat) (aC : Nat) (aW : Nat) (aL : Nat) (aN : Nat) (aI : Nat) (aB : Nat) (aD : Nat) (aU : Nat) (aF : Nat) (n : Nat) (gv : Nat) (sz : Nat) (cd : Int32) (sp : Int32) (se : Nat → Int64) (ct : Nat → Int32) (aw : Nat → Int32) (le : Nat → Int32) (ne : Nat → Int32) (ins : Nat → Int32) (ba : Nat → Int32) (dd : Nat → Int32) (cr : Int32) (nw : Int64) (cs : Int64) (un : Nat → Int32) (fr : Nat → Int32) (rl : Int32) (qs : Int32) : Met l yX4_thrown wsX4_thrown rm_X4_thrown (up_P (dC, dI) vwCl (mdT cI cJ cZ) (mdW cI cJ cZ q aS aC aW aL aN aI aB aD aU aF n gv sz cd sp se ct aw le ne ins ba dd cr nw cs un fr rl qs) [.ref q]) (k2_QcV (.int (md_thrown cd))) 0 0 (fun _ => False) := by
  refine Met.ofW (cc := cX4_thrown) (maxL := 1) (ret := (some .int)) (by decide) rfl ?_
  intro p e s m args below meth c s₁ B hml hv
  obtain ⟨rfl, hP, hK, hD0⟩ := hv
  have hx := B.exec
  have hb := B.bytes
  have hr := B.returns
  have hts := atoms_spec (ws := wsX4_thrown) B.pre
  have hown : s.vm.findClass RX4 = some m.cls := findClass_of_methodNamed B.named
  have hlocks := B.notSynchronized
  have hD := up_self hD0
  have hS : va_S (up_c (mdW cI cJ cZ q aS aC aW aL aN aI aB aD aU aF n gv sz cd sp se ct aw le ne ins ba dd cr nw cs un fr rl qs)) s.heap s.heap [] := va_S.rf
  have hl := lv_entry ([.ref q]) (n := 1) (Nat.le_of_ble_eq_true rfl)
  rw [lg_entry_eq]
  generalize (lg_sl ([.ref q]) ++ List.replicate (1 - (lg_sl ([.ref q])).length) Slot.unset).toArray = ls at hl ⊢
  have hl : lv_has ls 1 [(0, .ref q)] := hl
  refine lv_aload_n hx hb dX4_thrown_0 rfl (lv_at hl 0 rfl) ?_
  refine va_get (D := (dC, dI)) (ci := 5) (v := .int cd) (C := RX4) (T := TX4) (N := 20) hx hb hts inn_X4_thrown_X4 hown hK hP 0 rfl rfl 0 (by decide) (hts (.fieldLink RX4 46 "DoorKeysModel" "code" "I") (by decide +kernel)) (fun _ h9 => h9) rfl dX4_thrown_1 ?_
  have e_ : md_thrown cd = cd := by unfold md_thrown; exact rfl
  rw [e_]
  exact W.iret (v := cd) hx hb hr (fun t ht hW => ⟨rfl, ht⟩) (fun q h => absurd h List.not_mem_nil) dX4_thrown_4
def md_none (n : Nat) (x : Int32) : Int32 :=
  if x < 1 then
    (1 : Int32)
  else
    if x ≤ (nI n) then
      (0 : Int32)
    else
      (1 : Int32)
theorem md_none_in {n : Nat} (hn : n ≤ 8) {x : Int32} (h : md_none n x = 0) : vp_in x 9 := by
  unfold md_none at h
  by_cases h0 : x < 1
  · rw [if_pos h0] at h; exact absurd h (by decide)
  · rw [if_neg h0] at h
    by_cases h1 : x ≤ nI n
    · exact md_in9 hn h0 (by simp only [Int32.lt_iff_toInt_lt, Int32.le_iff_toInt_le] at h1 ⊢; omega)
    · rw [if_neg h1] at h; exact absurd h (by decide)
def rm_X4_none : Room := { frames := 0, cells := 0, slots := 0, locals := 0 }
set_option maxHeartbeats 4000000 in
set_option maxRecDepth 100000 in
theorem c_X4_none (l : Launch) (dC : Nat → ClassId) (dI : Nat → Nat → Nat) (cI : ClassId) (cJ : ClassId) (cZ : ClassId) (q : Nat) (aS : Nat) (aC : Nat) (aW : Nat) (aL : Nat) (aN : Nat) (aI : Nat) (aB : Nat) (aD : Nat) (aU : Nat) (aF : Nat) (n : Nat) (gv : Nat) (sz : Nat) (cd : Int32) (sp : Int32) (se : Nat → Int64) (ct : Nat → Int32) (aw : Nat → Int32) (le : Nat → Int32) (ne : Nat → Int32) (ins : Nat → Int32) (ba : Nat → Int32) (dd : Nat → Int32) (cr : Int32) (nw : Int64) (cs : Int64) (un : Nat → Int32) (fr : Nat → Int32) (rl : Int32) (qs : Int32) (x : Int32) : Met l yX4_none wsX4_none rm_X4_none (up_P (dC, dI) vwCl (mdT cI cJ cZ) (mdW cI cJ cZ q aS aC aW aL aN aI aB aD aU aF n gv sz cd sp se ct aw le ne ins ba dd cr nw cs un fr rl qs) [.ref q, .int x]) (up_Q (dC, dI) vwCl (some (.int (md_none n x))) (mdW cI cJ cZ q aS aC aW aL aN aI aB aD aU aF n gv sz cd sp se ct aw le ne ins ba dd cr nw cs un fr rl qs) (mdW cI cJ cZ q aS aC aW aL aN aI aB aD aU aF n gv sz 0 sp se ct aw le ne ins ba dd cr nw cs un fr rl qs)) 0 0 (up_c (mdW cI cJ cZ q aS aC aW aL aN aI aB aD aU aF n gv sz cd sp se ct aw le ne ins ba dd cr nw cs un fr rl qs)) := by
  refine Met.ofW (cc := cX4_none) (maxL := 2) (ret := (some .boolean)) (by decide) rfl ?_
  intro p e s m args below meth c s₁ B hml hv
  obtain ⟨rfl, hP, hK, hD0⟩ := hv
  have hx := B.exec
  have hb := B.bytes
  have hr := B.returns
  have hts := atoms_spec (ws := wsX4_none) B.pre
  have hown : s.vm.findClass RX4 = some m.cls := findClass_of_methodNamed B.named
  have hlocks := B.notSynchronized
  have hD := up_self hD0
  have hS : va_S (up_c (mdW cI cJ cZ q aS aC aW aL aN aI aB aD aU aF n gv sz cd sp se ct aw le ne ins ba dd cr nw cs un fr rl qs)) s.heap s.heap [] := va_S.rf
  have hl := lv_entry ([.ref q, .int x]) (n := 2) (Nat.le_of_ble_eq_true rfl)
  rw [lg_entry_eq]
  generalize (lg_sl ([.ref q, .int x]) ++ List.replicate (2 - (lg_sl ([.ref q, .int x])).length) Slot.unset).toArray = ls at hl ⊢
  have hl : lv_has ls 2 [(0, .ref q), (1, .int x)] := hl
  refine lv_aload_n hx hb dX4_none_0 rfl (lv_at hl 0 rfl) ?_
  refine lv_iconst (v := 0) hx hb dX4_none_1 (by decide) ?_
  refine va_put (D := (dC, dI)) (ci := 5) (v := .int 0) (ty := .int) (C := RX4) (T := TX4) (N := 20) hx hb hts inn_X4_none_X4 tyX4 tyX4_ok nmX4 hown hK hP hD hS 0 rfl rfl 0 (by decide) (hts (.fieldLink RX4 46 "DoorKeysModel" "code" "I") (by decide +kernel)) (fun _ h9 => h9) rfl (by decide +kernel) rfl rfl (Nat.le_of_ble_eq_true rfl) dX4_none_2 (fun H locs hP hD hS => ?_)
  have hP : va_P (dC, dI) vwCl (mdW cI cJ cZ q aS aC aW aL aN aI aB aD aU aF n gv sz 0 sp se ct aw le ne ins ba dd cr nw cs un fr rl qs) H := hP
  have hD : va_D (up_c (mdW cI cJ cZ q aS aC aW aL aN aI aB aD aU aF n gv sz cd sp se ct aw le ne ins ba dd cr nw cs un fr rl qs)) (mdW cI cJ cZ q aS aC aW aL aN aI aB aD aU aF n gv sz 0 sp se ct aw le ne ins ba dd cr nw cs un fr rl qs) := hD
  refine lv_iload_n hx hb dX4_none_5 rfl (lv_at hl 1 rfl) ?_
  refine lv_iconst (v := 1) hx hb dX4_none_6 (by decide) ?_
  refine lv_icmp_lt (tgt := 18) hx hb dX4_none_7 (by decide) (fun c_7 => ?_) (fun c_7 => ?_)
  · refine lv_iconst (v := 1) hx hb dX4_none_18 (by decide) ?_
    refine lv_goto (tgt := 23) hx hb dX4_none_19 (by decide) ?_
    have e_ : md_none n x = (1 : Int32) := by unfold md_none; exact (if_pos c_7).trans rfl
    rw [e_]
    exact W.zret (v := 1) hx hb hr (by decide) (fun t ht hW => ⟨rfl, by rw [ht]; exact hP, hS.F ht⟩) hS.2.2 dX4_none_23
  · refine lv_iload_n hx hb dX4_none_10 rfl (lv_at hl 1 rfl) ?_
    refine lv_aload_n hx hb dX4_none_11 rfl (lv_at hl 0 rfl) ?_
    refine va_get (D := (dC, dI)) (ci := 5) (v := .int (nI n)) (C := RX4) (T := TX4) (N := 20) hx hb hts inn_X4_none_X4 hown hK hP 0 rfl rfl 2 (by decide) (hts (.fieldLink RX4 49 "DoorKeysModel" "keys" "I") (by decide +kernel)) (fun _ h9 => h9) rfl dX4_none_12 ?_
    refine lv_icmp_le (tgt := 22) hx hb dX4_none_15 (by decide) (fun c_15 => ?_) (fun c_15 => ?_)
    · refine lv_iconst (v := 0) hx hb dX4_none_22 (by decide) ?_
      have e_ : md_none n x = (0 : Int32) := by unfold md_none; exact (if_neg c_7).trans ((if_pos c_15).trans rfl)
      rw [e_]
      exact W.zret (v := 0) hx hb hr (by decide) (fun t ht hW => ⟨rfl, by rw [ht]; exact hP, hS.F ht⟩) hS.2.2 dX4_none_23
    · refine lv_iconst (v := 1) hx hb dX4_none_18 (by decide) ?_
      refine lv_goto (tgt := 23) hx hb dX4_none_19 (by decide) ?_
      have e_ : md_none n x = (1 : Int32) := by unfold md_none; exact (if_neg c_7).trans ((if_neg c_15).trans rfl)
      rw [e_]
      exact W.zret (v := 1) hx hb hr (by decide) (fun t ht hW => ⟨rfl, by rw [ht]; exact hP, hS.F ht⟩) hS.2.2 dX4_none_23
def md_rounds_l (x : Int64) (w : Int32) : Nat → Nat → Int32 → Int32 → Int32
  | 0, _, a, b =>
    ((a <<< (16 &&& 31)) ||| b)
  | r + 1, j, a, b =>
    if w = 0 then
      md_rounds_l x w r (j + 1) b (a ^^^ (((((b * 40503) + (((x >>> (((16 * ((nI j) - (nI j) / 4 * 4)) : Int32).toInt64 &&& 63)) &&& 65535).toInt32 * ((2 * (nI j)) + 1))) ^^^ (b / 32)) ^^^ (((x >>> (((16 * ((nI j) - (nI j) / 4 * 4)) : Int32).toInt64 &&& 63)) &&& 65535).toInt32 * 8)) &&& 65535))
    else
      md_rounds_l x w r (j + 1) b (a ^^^ (((((b * 40503) + (((x >>> (((16 * ((15 - (nI j)) - (15 - (nI j)) / 4 * 4)) : Int32).toInt64 &&& 63)) &&& 65535).toInt32 * ((2 * (15 - (nI j))) + 1))) ^^^ (b / 32)) ^^^ (((x >>> (((16 * ((15 - (nI j)) - (15 - (nI j)) / 4 * 4)) : Int32).toInt64 &&& 63)) &&& 65535).toInt32 * 8)) &&& 65535))
def md_rounds (x : Int64) (y : Int32) (u : Int32) (w : Int32) : Int32 :=
  md_rounds_l x w 16 0 y u
def rm_X4_rounds : Room := { frames := 0, cells := 0, slots := 0, locals := 0 }
set_option maxHeartbeats 4000000 in
set_option maxRecDepth 100000 in
theorem c_X4_rounds (l : Launch) (dC : Nat → ClassId) (dI : Nat → Nat → Nat) (cI : ClassId) (cJ : ClassId) (cZ : ClassId) (q : Nat) (aS : Nat) (aC : Nat) (aW : Nat) (aL : Nat) (aN : Nat) (aI : Nat) (aB : Nat) (aD : Nat) (aU : Nat) (aF : Nat) (n : Nat) (gv : Nat) (sz : Nat) (cd : Int32) (sp : Int32) (se : Nat → Int64) (ct : Nat → Int32) (aw : Nat → Int32) (le : Nat → Int32) (ne : Nat → Int32) (ins : Nat → Int32) (ba : Nat → Int32) (dd : Nat → Int32) (cr : Int32) (nw : Int64) (cs : Int64) (un : Nat → Int32) (fr : Nat → Int32) (rl : Int32) (qs : Int32) (x : Int64) (y : Int32) (u : Int32) (w : Int32) : Met l yX4_rounds wsX4_rounds rm_X4_rounds (up_P (dC, dI) vwCl (mdT cI cJ cZ) (mdW cI cJ cZ q aS aC aW aL aN aI aB aD aU aF n gv sz cd sp se ct aw le ne ins ba dd cr nw cs un fr rl qs) [.long x, .int y, .int u, .int w]) (k2_QcV (.int (md_rounds x y u w))) 0 0 (fun _ => False) := by
  refine Met.ofW (cc := cX4_rounds) (maxL := 12) (ret := (some .int)) (by decide) rfl ?_
  intro p e s m args below meth c s₁ B hml hv
  obtain ⟨rfl, hP, hK, hD0⟩ := hv
  have hx := B.exec
  have hb := B.bytes
  have hr := B.returns
  have hts := atoms_spec (ws := wsX4_rounds) B.pre
  have hown : s.vm.findClass RX4 = some m.cls := findClass_of_methodNamed B.named
  have hlocks := B.notSynchronized
  have hD := up_self hD0
  have hS : va_S (up_c (mdW cI cJ cZ q aS aC aW aL aN aI aB aD aU aF n gv sz cd sp se ct aw le ne ins ba dd cr nw cs un fr rl qs)) s.heap s.heap [] := va_S.rf
  have hl := lv_entry ([.long x, .int y, .int u, .int w]) (n := 12) (Nat.le_of_ble_eq_true rfl)
  rw [lg_entry_eq]
  generalize (lg_sl ([.long x, .int y, .int u, .int w]) ++ List.replicate (12 - (lg_sl ([.long x, .int y, .int u, .int w])).length) Slot.unset).toArray = ls at hl ⊢
  have hl : lv_has ls 12 [(0, .long x), (2, .int y), (3, .int u), (4, .int w)] := hl
  refine lv_iload_n hx hb dX4_rounds_0 rfl (lv_at hl 1 rfl) ?_
  refine lv_istore (lv' := [(5, .int y), (0, .long x), (2, .int y), (3, .int u), (4, .int w)]) hx hb dX4_rounds_1 hl (by decide) rfl (fun ls hl => ?_)
  refine lv_iload_n hx hb dX4_rounds_3 rfl (lv_at hl 3 rfl) ?_
  refine lv_istore (lv' := [(6, .int u), (5, .int y), (0, .long x), (2, .int y), (3, .int u), (4, .int w)]) hx hb dX4_rounds_4 hl (by decide) rfl (fun ls hl => ?_)
  refine lv_iconst (v := 0) hx hb dX4_rounds_6 (by decide) ?_
  refine lv_istore (lv' := [(7, .int 0), (6, .int u), (5, .int y), (0, .long x), (2, .int y), (3, .int u), (4, .int w)]) hx hb dX4_rounds_7 hl (by decide) rfl (fun ls hl => ?_)
  have lp : ∀ (r j : Nat) (a : Int32) (b : Int32) , j + r = 16 → ∀ ls : Array Slot, lv_has ls 12 [(0, .long x), (4, .int w), (7, .int (nI j)), (5, .int a), (6, .int b)] → W p l e (headSpec wsX4_rounds rm_X4_rounds).room s m ([.long x, .int y, .int u, .int w] : List Value).toArray below meth c s.heap [] 0 0 (MQ below (k2_QcV (.int (md_rounds_l x w r j a b))) ([.long x, .int y, .int u, .int w] : List Value).toArray s 0 0 (fun _ => False)) (F0 m 9 ls []) := by
    intro r
    induction r with
    | zero =>
      intro j a b hj ls hl
      refine lv_iload hx hb dX4_rounds_9 (lv_at hl 2 rfl) ?_
      refine lv_bipush (v := 16) hx hb dX4_rounds_11 (by decide) ?_
      refine lv_icmp_ge (tgt := 102) hx hb dX4_rounds_13 (by decide) (fun c_13 => ?_) (fun c_13 => (c_13 (nI_le (a := 16) (b := j) (by omega) (by omega))).elim)
      refine lv_iload hx hb dX4_rounds_102 (lv_at hl 3 rfl) ?_
      refine lv_bipush (v := 16) hx hb dX4_rounds_104 (by decide) ?_
      refine lv_ishl hx hb dX4_rounds_106 ?_
      refine lv_iload hx hb dX4_rounds_107 (lv_at hl 4 rfl) ?_
      refine lv_ior hx hb dX4_rounds_109 ?_
      have e_ : md_rounds_l x w 0 j a b = ((a <<< (16 &&& 31)) ||| b) := (md_rounds_l.eq_1 ..).trans rfl
      rw [e_]
      exact W.iret (v := ((a <<< (16 &&& 31)) ||| b)) hx hb hr (fun t ht hW => ⟨rfl, ht⟩) (fun q h => absurd h List.not_mem_nil) dX4_rounds_110
    | succ r ih =>
      intro j a b hj ls hl
      refine lv_iload hx hb dX4_rounds_9 (lv_at hl 2 rfl) ?_
      refine lv_bipush (v := 16) hx hb dX4_rounds_11 (by decide) ?_
      refine lv_icmp_ge (tgt := 102) hx hb dX4_rounds_13 (by decide) (fun c_13 => (nI_ge (a := j) (b := 16) (by omega) (by omega) c_13).elim) (fun c_13 => ?_)
      refine lv_iload hx hb dX4_rounds_16 (lv_at hl 1 rfl) ?_
      refine lv_if_eq (tgt := 29) hx hb dX4_rounds_18 (by decide) (fun c_18 => ?_) (fun c_18 => ?_)
      · refine lv_iload hx hb dX4_rounds_29 (lv_at hl 2 rfl) ?_
        refine lv_istore (lv' := [(8, .int (nI j)), (0, .long x), (4, .int w), (7, .int (nI j)), (5, .int a), (6, .int b)]) hx hb dX4_rounds_31 hl (by decide) rfl (fun ls hl => ?_)
        refine lv_lload_n hx hb dX4_rounds_33 rfl (lv_at hl 1 rfl) ?_
        refine lv_bipush (v := 16) hx hb dX4_rounds_34 (by decide) ?_
        refine lv_iload hx hb dX4_rounds_36 (lv_at hl 0 rfl) ?_
        refine lv_iconst (v := 4) hx hb dX4_rounds_38 (by decide) ?_
        refine lv_irem hx hb dX4_rounds_39 (by decide) ?_
        refine lv_imul hx hb dX4_rounds_40 ?_
        refine lv_lshr (v := x >>> (((16 * ((nI j) - (nI j) / 4 * 4)) : Int32).toInt64 &&& 63)) hx hb dX4_rounds_41 rfl ?_
        refine lv_ldc2 (v := 65535) hx hb hown (hts (.constantLong RX4 52 65535) (by decide +kernel)) dX4_rounds_42 ?_
        refine lv_land hx hb dX4_rounds_45 ?_
        refine lv_l2i (v := ((x >>> (((16 * ((nI j) - (nI j) / 4 * 4)) : Int32).toInt64 &&& 63)) &&& 65535).toInt32) hx hb dX4_rounds_46 rfl ?_
        refine lv_istore (lv' := [(9, .int (((x >>> (((16 * ((nI j) - (nI j) / 4 * 4)) : Int32).toInt64 &&& 63)) &&& 65535).toInt32)), (8, .int (nI j)), (0, .long x), (4, .int w), (7, .int (nI j)), (5, .int a), (6, .int b)]) hx hb dX4_rounds_47 hl (by decide) rfl (fun ls hl => ?_)
        refine lv_iload hx hb dX4_rounds_49 (lv_at hl 6 rfl) ?_
        refine lv_ldc (v := 40503) hx hb hown (hts (.constant RX4 54 40503) (by decide +kernel)) dX4_rounds_51 ?_
        refine lv_imul hx hb dX4_rounds_53 ?_
        refine lv_iload hx hb dX4_rounds_54 (lv_at hl 0 rfl) ?_
        refine lv_iconst (v := 2) hx hb dX4_rounds_56 (by decide) ?_
        refine lv_iload hx hb dX4_rounds_57 (lv_at hl 1 rfl) ?_
        refine lv_imul hx hb dX4_rounds_59 ?_
        refine lv_iconst (v := 1) hx hb dX4_rounds_60 (by decide) ?_
        refine lv_iadd hx hb dX4_rounds_61 ?_
        refine lv_imul hx hb dX4_rounds_62 ?_
        refine lv_iadd hx hb dX4_rounds_63 ?_
        refine lv_iload hx hb dX4_rounds_64 (lv_at hl 6 rfl) ?_
        refine lv_bipush (v := 32) hx hb dX4_rounds_66 (by decide) ?_
        refine lv_idiv hx hb dX4_rounds_68 (by decide) ?_
        refine lv_ixor hx hb dX4_rounds_69 ?_
        refine lv_iload hx hb dX4_rounds_70 (lv_at hl 0 rfl) ?_
        refine lv_bipush (v := 8) hx hb dX4_rounds_72 (by decide) ?_
        refine lv_imul hx hb dX4_rounds_74 ?_
        refine lv_ixor hx hb dX4_rounds_75 ?_
        refine lv_ldc (v := 65535) hx hb hown (hts (.constant RX4 55 65535) (by decide +kernel)) dX4_rounds_76 ?_
        refine lv_iand hx hb dX4_rounds_78 ?_
        refine lv_istore (lv' := [(10, .int (((((b * 40503) + (((x >>> (((16 * ((nI j) - (nI j) / 4 * 4)) : Int32).toInt64 &&& 63)) &&& 65535).toInt32 * ((2 * (nI j)) + 1))) ^^^ (b / 32)) ^^^ (((x >>> (((16 * ((nI j) - (nI j) / 4 * 4)) : Int32).toInt64 &&& 63)) &&& 65535).toInt32 * 8)) &&& 65535)), (9, .int (((x >>> (((16 * ((nI j) - (nI j) / 4 * 4)) : Int32).toInt64 &&& 63)) &&& 65535).toInt32)), (8, .int (nI j)), (0, .long x), (4, .int w), (7, .int (nI j)), (5, .int a), (6, .int b)]) hx hb dX4_rounds_79 hl (by decide) rfl (fun ls hl => ?_)
        refine lv_iload hx hb dX4_rounds_81 (lv_at hl 6 rfl) ?_
        refine lv_iload hx hb dX4_rounds_83 (lv_at hl 0 rfl) ?_
        refine lv_ixor hx hb dX4_rounds_85 ?_
        refine lv_istore (lv' := [(11, .int (a ^^^ (((((b * 40503) + (((x >>> (((16 * ((nI j) - (nI j) / 4 * 4)) : Int32).toInt64 &&& 63)) &&& 65535).toInt32 * ((2 * (nI j)) + 1))) ^^^ (b / 32)) ^^^ (((x >>> (((16 * ((nI j) - (nI j) / 4 * 4)) : Int32).toInt64 &&& 63)) &&& 65535).toInt32 * 8)) &&& 65535))), (10, .int (((((b * 40503) + (((x >>> (((16 * ((nI j) - (nI j) / 4 * 4)) : Int32).toInt64 &&& 63)) &&& 65535).toInt32 * ((2 * (nI j)) + 1))) ^^^ (b / 32)) ^^^ (((x >>> (((16 * ((nI j) - (nI j) / 4 * 4)) : Int32).toInt64 &&& 63)) &&& 65535).toInt32 * 8)) &&& 65535)), (9, .int (((x >>> (((16 * ((nI j) - (nI j) / 4 * 4)) : Int32).toInt64 &&& 63)) &&& 65535).toInt32)), (8, .int (nI j)), (0, .long x), (4, .int w), (7, .int (nI j)), (5, .int a), (6, .int b)]) hx hb dX4_rounds_86 hl (by decide) rfl (fun ls hl => ?_)
        refine lv_iload hx hb dX4_rounds_88 (lv_at hl 8 rfl) ?_
        refine lv_istore (lv' := [(5, .int b), (11, .int (a ^^^ (((((b * 40503) + (((x >>> (((16 * ((nI j) - (nI j) / 4 * 4)) : Int32).toInt64 &&& 63)) &&& 65535).toInt32 * ((2 * (nI j)) + 1))) ^^^ (b / 32)) ^^^ (((x >>> (((16 * ((nI j) - (nI j) / 4 * 4)) : Int32).toInt64 &&& 63)) &&& 65535).toInt32 * 8)) &&& 65535))), (10, .int (((((b * 40503) + (((x >>> (((16 * ((nI j) - (nI j) / 4 * 4)) : Int32).toInt64 &&& 63)) &&& 65535).toInt32 * ((2 * (nI j)) + 1))) ^^^ (b / 32)) ^^^ (((x >>> (((16 * ((nI j) - (nI j) / 4 * 4)) : Int32).toInt64 &&& 63)) &&& 65535).toInt32 * 8)) &&& 65535)), (9, .int (((x >>> (((16 * ((nI j) - (nI j) / 4 * 4)) : Int32).toInt64 &&& 63)) &&& 65535).toInt32)), (8, .int (nI j)), (0, .long x), (4, .int w), (7, .int (nI j)), (6, .int b)]) hx hb dX4_rounds_90 hl (by decide) rfl (fun ls hl => ?_)
        refine lv_iload hx hb dX4_rounds_92 (lv_at hl 1 rfl) ?_
        refine lv_istore (lv' := [(6, .int (a ^^^ (((((b * 40503) + (((x >>> (((16 * ((nI j) - (nI j) / 4 * 4)) : Int32).toInt64 &&& 63)) &&& 65535).toInt32 * ((2 * (nI j)) + 1))) ^^^ (b / 32)) ^^^ (((x >>> (((16 * ((nI j) - (nI j) / 4 * 4)) : Int32).toInt64 &&& 63)) &&& 65535).toInt32 * 8)) &&& 65535))), (5, .int b), (11, .int (a ^^^ (((((b * 40503) + (((x >>> (((16 * ((nI j) - (nI j) / 4 * 4)) : Int32).toInt64 &&& 63)) &&& 65535).toInt32 * ((2 * (nI j)) + 1))) ^^^ (b / 32)) ^^^ (((x >>> (((16 * ((nI j) - (nI j) / 4 * 4)) : Int32).toInt64 &&& 63)) &&& 65535).toInt32 * 8)) &&& 65535))), (10, .int (((((b * 40503) + (((x >>> (((16 * ((nI j) - (nI j) / 4 * 4)) : Int32).toInt64 &&& 63)) &&& 65535).toInt32 * ((2 * (nI j)) + 1))) ^^^ (b / 32)) ^^^ (((x >>> (((16 * ((nI j) - (nI j) / 4 * 4)) : Int32).toInt64 &&& 63)) &&& 65535).toInt32 * 8)) &&& 65535)), (9, .int (((x >>> (((16 * ((nI j) - (nI j) / 4 * 4)) : Int32).toInt64 &&& 63)) &&& 65535).toInt32)), (8, .int (nI j)), (0, .long x), (4, .int w), (7, .int (nI j))]) hx hb dX4_rounds_94 hl (by decide) rfl (fun ls hl => ?_)
        refine lv_iinc (v := (nI (j + 1))) (lv' := [(7, .int (nI (j + 1))), (6, .int (a ^^^ (((((b * 40503) + (((x >>> (((16 * ((nI j) - (nI j) / 4 * 4)) : Int32).toInt64 &&& 63)) &&& 65535).toInt32 * ((2 * (nI j)) + 1))) ^^^ (b / 32)) ^^^ (((x >>> (((16 * ((nI j) - (nI j) / 4 * 4)) : Int32).toInt64 &&& 63)) &&& 65535).toInt32 * 8)) &&& 65535))), (5, .int b), (11, .int (a ^^^ (((((b * 40503) + (((x >>> (((16 * ((nI j) - (nI j) / 4 * 4)) : Int32).toInt64 &&& 63)) &&& 65535).toInt32 * ((2 * (nI j)) + 1))) ^^^ (b / 32)) ^^^ (((x >>> (((16 * ((nI j) - (nI j) / 4 * 4)) : Int32).toInt64 &&& 63)) &&& 65535).toInt32 * 8)) &&& 65535))), (10, .int (((((b * 40503) + (((x >>> (((16 * ((nI j) - (nI j) / 4 * 4)) : Int32).toInt64 &&& 63)) &&& 65535).toInt32 * ((2 * (nI j)) + 1))) ^^^ (b / 32)) ^^^ (((x >>> (((16 * ((nI j) - (nI j) / 4 * 4)) : Int32).toInt64 &&& 63)) &&& 65535).toInt32 * 8)) &&& 65535)), (9, .int (((x >>> (((16 * ((nI j) - (nI j) / 4 * 4)) : Int32).toInt64 &&& 63)) &&& 65535).toInt32)), (8, .int (nI j)), (0, .long x), (4, .int w)]) hx hb dX4_rounds_96 hl (k := 8) rfl (nI_1 _) (by decide) rfl (fun ls hl => ?_)
        refine lv_goto (tgt := 9) hx hb dX4_rounds_99 (by decide) ?_
        have e_ : md_rounds_l x w (r + 1) j a b = md_rounds_l x w r (j + 1) b (a ^^^ (((((b * 40503) + (((x >>> (((16 * ((nI j) - (nI j) / 4 * 4)) : Int32).toInt64 &&& 63)) &&& 65535).toInt32 * ((2 * (nI j)) + 1))) ^^^ (b / 32)) ^^^ (((x >>> (((16 * ((nI j) - (nI j) / 4 * 4)) : Int32).toInt64 &&& 63)) &&& 65535).toInt32 * 8)) &&& 65535)) := (md_rounds_l.eq_2 ..).trans ((if_pos c_18).trans rfl)
        rw [e_]
        exact ih (j + 1) b (a ^^^ (((((b * 40503) + (((x >>> (((16 * ((nI j) - (nI j) / 4 * 4)) : Int32).toInt64 &&& 63)) &&& 65535).toInt32 * ((2 * (nI j)) + 1))) ^^^ (b / 32)) ^^^ (((x >>> (((16 * ((nI j) - (nI j) / 4 * 4)) : Int32).toInt64 &&& 63)) &&& 65535).toInt32 * 8)) &&& 65535)) (by omega) ls (lv_sub hl [7, 8, 0, 2, 1] rfl)
      · refine lv_bipush (v := 15) hx hb dX4_rounds_21 (by decide) ?_
        refine lv_iload hx hb dX4_rounds_23 (lv_at hl 2 rfl) ?_
        refine lv_isub hx hb dX4_rounds_25 ?_
        refine lv_goto (tgt := 31) hx hb dX4_rounds_26 (by decide) ?_
        refine lv_istore (lv' := [(8, .int (15 - (nI j))), (0, .long x), (4, .int w), (7, .int (nI j)), (5, .int a), (6, .int b)]) hx hb dX4_rounds_31 hl (by decide) rfl (fun ls hl => ?_)
        refine lv_lload_n hx hb dX4_rounds_33 rfl (lv_at hl 1 rfl) ?_
        refine lv_bipush (v := 16) hx hb dX4_rounds_34 (by decide) ?_
        refine lv_iload hx hb dX4_rounds_36 (lv_at hl 0 rfl) ?_
        refine lv_iconst (v := 4) hx hb dX4_rounds_38 (by decide) ?_
        refine lv_irem hx hb dX4_rounds_39 (by decide) ?_
        refine lv_imul hx hb dX4_rounds_40 ?_
        refine lv_lshr (v := x >>> (((16 * ((15 - (nI j)) - (15 - (nI j)) / 4 * 4)) : Int32).toInt64 &&& 63)) hx hb dX4_rounds_41 rfl ?_
        refine lv_ldc2 (v := 65535) hx hb hown (hts (.constantLong RX4 52 65535) (by decide +kernel)) dX4_rounds_42 ?_
        refine lv_land hx hb dX4_rounds_45 ?_
        refine lv_l2i (v := ((x >>> (((16 * ((15 - (nI j)) - (15 - (nI j)) / 4 * 4)) : Int32).toInt64 &&& 63)) &&& 65535).toInt32) hx hb dX4_rounds_46 rfl ?_
        refine lv_istore (lv' := [(9, .int (((x >>> (((16 * ((15 - (nI j)) - (15 - (nI j)) / 4 * 4)) : Int32).toInt64 &&& 63)) &&& 65535).toInt32)), (8, .int (15 - (nI j))), (0, .long x), (4, .int w), (7, .int (nI j)), (5, .int a), (6, .int b)]) hx hb dX4_rounds_47 hl (by decide) rfl (fun ls hl => ?_)
        refine lv_iload hx hb dX4_rounds_49 (lv_at hl 6 rfl) ?_
        refine lv_ldc (v := 40503) hx hb hown (hts (.constant RX4 54 40503) (by decide +kernel)) dX4_rounds_51 ?_
        refine lv_imul hx hb dX4_rounds_53 ?_
        refine lv_iload hx hb dX4_rounds_54 (lv_at hl 0 rfl) ?_
        refine lv_iconst (v := 2) hx hb dX4_rounds_56 (by decide) ?_
        refine lv_iload hx hb dX4_rounds_57 (lv_at hl 1 rfl) ?_
        refine lv_imul hx hb dX4_rounds_59 ?_
        refine lv_iconst (v := 1) hx hb dX4_rounds_60 (by decide) ?_
        refine lv_iadd hx hb dX4_rounds_61 ?_
        refine lv_imul hx hb dX4_rounds_62 ?_
        refine lv_iadd hx hb dX4_rounds_63 ?_
        refine lv_iload hx hb dX4_rounds_64 (lv_at hl 6 rfl) ?_
        refine lv_bipush (v := 32) hx hb dX4_rounds_66 (by decide) ?_
        refine lv_idiv hx hb dX4_rounds_68 (by decide) ?_
        refine lv_ixor hx hb dX4_rounds_69 ?_
        refine lv_iload hx hb dX4_rounds_70 (lv_at hl 0 rfl) ?_
        refine lv_bipush (v := 8) hx hb dX4_rounds_72 (by decide) ?_
        refine lv_imul hx hb dX4_rounds_74 ?_
        refine lv_ixor hx hb dX4_rounds_75 ?_
        refine lv_ldc (v := 65535) hx hb hown (hts (.constant RX4 55 65535) (by decide +kernel)) dX4_rounds_76 ?_
        refine lv_iand hx hb dX4_rounds_78 ?_
        refine lv_istore (lv' := [(10, .int (((((b * 40503) + (((x >>> (((16 * ((15 - (nI j)) - (15 - (nI j)) / 4 * 4)) : Int32).toInt64 &&& 63)) &&& 65535).toInt32 * ((2 * (15 - (nI j))) + 1))) ^^^ (b / 32)) ^^^ (((x >>> (((16 * ((15 - (nI j)) - (15 - (nI j)) / 4 * 4)) : Int32).toInt64 &&& 63)) &&& 65535).toInt32 * 8)) &&& 65535)), (9, .int (((x >>> (((16 * ((15 - (nI j)) - (15 - (nI j)) / 4 * 4)) : Int32).toInt64 &&& 63)) &&& 65535).toInt32)), (8, .int (15 - (nI j))), (0, .long x), (4, .int w), (7, .int (nI j)), (5, .int a), (6, .int b)]) hx hb dX4_rounds_79 hl (by decide) rfl (fun ls hl => ?_)
        refine lv_iload hx hb dX4_rounds_81 (lv_at hl 6 rfl) ?_
        refine lv_iload hx hb dX4_rounds_83 (lv_at hl 0 rfl) ?_
        refine lv_ixor hx hb dX4_rounds_85 ?_
        refine lv_istore (lv' := [(11, .int (a ^^^ (((((b * 40503) + (((x >>> (((16 * ((15 - (nI j)) - (15 - (nI j)) / 4 * 4)) : Int32).toInt64 &&& 63)) &&& 65535).toInt32 * ((2 * (15 - (nI j))) + 1))) ^^^ (b / 32)) ^^^ (((x >>> (((16 * ((15 - (nI j)) - (15 - (nI j)) / 4 * 4)) : Int32).toInt64 &&& 63)) &&& 65535).toInt32 * 8)) &&& 65535))), (10, .int (((((b * 40503) + (((x >>> (((16 * ((15 - (nI j)) - (15 - (nI j)) / 4 * 4)) : Int32).toInt64 &&& 63)) &&& 65535).toInt32 * ((2 * (15 - (nI j))) + 1))) ^^^ (b / 32)) ^^^ (((x >>> (((16 * ((15 - (nI j)) - (15 - (nI j)) / 4 * 4)) : Int32).toInt64 &&& 63)) &&& 65535).toInt32 * 8)) &&& 65535)), (9, .int (((x >>> (((16 * ((15 - (nI j)) - (15 - (nI j)) / 4 * 4)) : Int32).toInt64 &&& 63)) &&& 65535).toInt32)), (8, .int (15 - (nI j))), (0, .long x), (4, .int w), (7, .int (nI j)), (5, .int a), (6, .int b)]) hx hb dX4_rounds_86 hl (by decide) rfl (fun ls hl => ?_)
        refine lv_iload hx hb dX4_rounds_88 (lv_at hl 8 rfl) ?_
        refine lv_istore (lv' := [(5, .int b), (11, .int (a ^^^ (((((b * 40503) + (((x >>> (((16 * ((15 - (nI j)) - (15 - (nI j)) / 4 * 4)) : Int32).toInt64 &&& 63)) &&& 65535).toInt32 * ((2 * (15 - (nI j))) + 1))) ^^^ (b / 32)) ^^^ (((x >>> (((16 * ((15 - (nI j)) - (15 - (nI j)) / 4 * 4)) : Int32).toInt64 &&& 63)) &&& 65535).toInt32 * 8)) &&& 65535))), (10, .int (((((b * 40503) + (((x >>> (((16 * ((15 - (nI j)) - (15 - (nI j)) / 4 * 4)) : Int32).toInt64 &&& 63)) &&& 65535).toInt32 * ((2 * (15 - (nI j))) + 1))) ^^^ (b / 32)) ^^^ (((x >>> (((16 * ((15 - (nI j)) - (15 - (nI j)) / 4 * 4)) : Int32).toInt64 &&& 63)) &&& 65535).toInt32 * 8)) &&& 65535)), (9, .int (((x >>> (((16 * ((15 - (nI j)) - (15 - (nI j)) / 4 * 4)) : Int32).toInt64 &&& 63)) &&& 65535).toInt32)), (8, .int (15 - (nI j))), (0, .long x), (4, .int w), (7, .int (nI j)), (6, .int b)]) hx hb dX4_rounds_90 hl (by decide) rfl (fun ls hl => ?_)
        refine lv_iload hx hb dX4_rounds_92 (lv_at hl 1 rfl) ?_
        refine lv_istore (lv' := [(6, .int (a ^^^ (((((b * 40503) + (((x >>> (((16 * ((15 - (nI j)) - (15 - (nI j)) / 4 * 4)) : Int32).toInt64 &&& 63)) &&& 65535).toInt32 * ((2 * (15 - (nI j))) + 1))) ^^^ (b / 32)) ^^^ (((x >>> (((16 * ((15 - (nI j)) - (15 - (nI j)) / 4 * 4)) : Int32).toInt64 &&& 63)) &&& 65535).toInt32 * 8)) &&& 65535))), (5, .int b), (11, .int (a ^^^ (((((b * 40503) + (((x >>> (((16 * ((15 - (nI j)) - (15 - (nI j)) / 4 * 4)) : Int32).toInt64 &&& 63)) &&& 65535).toInt32 * ((2 * (15 - (nI j))) + 1))) ^^^ (b / 32)) ^^^ (((x >>> (((16 * ((15 - (nI j)) - (15 - (nI j)) / 4 * 4)) : Int32).toInt64 &&& 63)) &&& 65535).toInt32 * 8)) &&& 65535))), (10, .int (((((b * 40503) + (((x >>> (((16 * ((15 - (nI j)) - (15 - (nI j)) / 4 * 4)) : Int32).toInt64 &&& 63)) &&& 65535).toInt32 * ((2 * (15 - (nI j))) + 1))) ^^^ (b / 32)) ^^^ (((x >>> (((16 * ((15 - (nI j)) - (15 - (nI j)) / 4 * 4)) : Int32).toInt64 &&& 63)) &&& 65535).toInt32 * 8)) &&& 65535)), (9, .int (((x >>> (((16 * ((15 - (nI j)) - (15 - (nI j)) / 4 * 4)) : Int32).toInt64 &&& 63)) &&& 65535).toInt32)), (8, .int (15 - (nI j))), (0, .long x), (4, .int w), (7, .int (nI j))]) hx hb dX4_rounds_94 hl (by decide) rfl (fun ls hl => ?_)
        refine lv_iinc (v := (nI (j + 1))) (lv' := [(7, .int (nI (j + 1))), (6, .int (a ^^^ (((((b * 40503) + (((x >>> (((16 * ((15 - (nI j)) - (15 - (nI j)) / 4 * 4)) : Int32).toInt64 &&& 63)) &&& 65535).toInt32 * ((2 * (15 - (nI j))) + 1))) ^^^ (b / 32)) ^^^ (((x >>> (((16 * ((15 - (nI j)) - (15 - (nI j)) / 4 * 4)) : Int32).toInt64 &&& 63)) &&& 65535).toInt32 * 8)) &&& 65535))), (5, .int b), (11, .int (a ^^^ (((((b * 40503) + (((x >>> (((16 * ((15 - (nI j)) - (15 - (nI j)) / 4 * 4)) : Int32).toInt64 &&& 63)) &&& 65535).toInt32 * ((2 * (15 - (nI j))) + 1))) ^^^ (b / 32)) ^^^ (((x >>> (((16 * ((15 - (nI j)) - (15 - (nI j)) / 4 * 4)) : Int32).toInt64 &&& 63)) &&& 65535).toInt32 * 8)) &&& 65535))), (10, .int (((((b * 40503) + (((x >>> (((16 * ((15 - (nI j)) - (15 - (nI j)) / 4 * 4)) : Int32).toInt64 &&& 63)) &&& 65535).toInt32 * ((2 * (15 - (nI j))) + 1))) ^^^ (b / 32)) ^^^ (((x >>> (((16 * ((15 - (nI j)) - (15 - (nI j)) / 4 * 4)) : Int32).toInt64 &&& 63)) &&& 65535).toInt32 * 8)) &&& 65535)), (9, .int (((x >>> (((16 * ((15 - (nI j)) - (15 - (nI j)) / 4 * 4)) : Int32).toInt64 &&& 63)) &&& 65535).toInt32)), (8, .int (15 - (nI j))), (0, .long x), (4, .int w)]) hx hb dX4_rounds_96 hl (k := 8) rfl (nI_1 _) (by decide) rfl (fun ls hl => ?_)
        refine lv_goto (tgt := 9) hx hb dX4_rounds_99 (by decide) ?_
        have e_ : md_rounds_l x w (r + 1) j a b = md_rounds_l x w r (j + 1) b (a ^^^ (((((b * 40503) + (((x >>> (((16 * ((15 - (nI j)) - (15 - (nI j)) / 4 * 4)) : Int32).toInt64 &&& 63)) &&& 65535).toInt32 * ((2 * (15 - (nI j))) + 1))) ^^^ (b / 32)) ^^^ (((x >>> (((16 * ((15 - (nI j)) - (15 - (nI j)) / 4 * 4)) : Int32).toInt64 &&& 63)) &&& 65535).toInt32 * 8)) &&& 65535)) := (md_rounds_l.eq_2 ..).trans ((if_neg c_18).trans rfl)
        rw [e_]
        exact ih (j + 1) b (a ^^^ (((((b * 40503) + (((x >>> (((16 * ((15 - (nI j)) - (15 - (nI j)) / 4 * 4)) : Int32).toInt64 &&& 63)) &&& 65535).toInt32 * ((2 * (15 - (nI j))) + 1))) ^^^ (b / 32)) ^^^ (((x >>> (((16 * ((15 - (nI j)) - (15 - (nI j)) / 4 * 4)) : Int32).toInt64 &&& 63)) &&& 65535).toInt32 * 8)) &&& 65535)) (by omega) ls (lv_sub hl [7, 8, 0, 2, 1] rfl)
  have e_ : md_rounds x y u w = md_rounds_l x w 16 0 y u := by unfold md_rounds; exact rfl
  rw [e_]
  exact lp 16 0 y u (by omega) ls (lv_sub hl [3, 6, 0, 2, 1] rfl)
def md_sign (x : Int64) : Int32 :=
  ((((x ^^^ (x >>> ((16 : Int32).toInt64 &&& 63))) ^^^ (x >>> ((32 : Int32).toInt64 &&& 63))) ^^^ (x >>> ((48 : Int32).toInt64 &&& 63))) &&& 65535).toInt32
def rm_X4_sign : Room := { frames := 0, cells := 0, slots := 0, locals := 0 }
set_option maxHeartbeats 4000000 in
set_option maxRecDepth 100000 in
theorem c_X4_sign (l : Launch) (dC : Nat → ClassId) (dI : Nat → Nat → Nat) (cI : ClassId) (cJ : ClassId) (cZ : ClassId) (q : Nat) (aS : Nat) (aC : Nat) (aW : Nat) (aL : Nat) (aN : Nat) (aI : Nat) (aB : Nat) (aD : Nat) (aU : Nat) (aF : Nat) (n : Nat) (gv : Nat) (sz : Nat) (cd : Int32) (sp : Int32) (se : Nat → Int64) (ct : Nat → Int32) (aw : Nat → Int32) (le : Nat → Int32) (ne : Nat → Int32) (ins : Nat → Int32) (ba : Nat → Int32) (dd : Nat → Int32) (cr : Int32) (nw : Int64) (cs : Int64) (un : Nat → Int32) (fr : Nat → Int32) (rl : Int32) (qs : Int32) (x : Int64) : Met l yX4_sign wsX4_sign rm_X4_sign (up_P (dC, dI) vwCl (mdT cI cJ cZ) (mdW cI cJ cZ q aS aC aW aL aN aI aB aD aU aF n gv sz cd sp se ct aw le ne ins ba dd cr nw cs un fr rl qs) [.long x]) (k2_QcV (.int (md_sign x))) 0 0 (fun _ => False) := by
  refine Met.ofW (cc := cX4_sign) (maxL := 2) (ret := (some .int)) (by decide) rfl ?_
  intro p e s m args below meth c s₁ B hml hv
  obtain ⟨rfl, hP, hK, hD0⟩ := hv
  have hx := B.exec
  have hb := B.bytes
  have hr := B.returns
  have hts := atoms_spec (ws := wsX4_sign) B.pre
  have hown : s.vm.findClass RX4 = some m.cls := findClass_of_methodNamed B.named
  have hlocks := B.notSynchronized
  have hD := up_self hD0
  have hS : va_S (up_c (mdW cI cJ cZ q aS aC aW aL aN aI aB aD aU aF n gv sz cd sp se ct aw le ne ins ba dd cr nw cs un fr rl qs)) s.heap s.heap [] := va_S.rf
  have hl := lv_entry ([.long x]) (n := 2) (Nat.le_of_ble_eq_true rfl)
  rw [lg_entry_eq]
  generalize (lg_sl ([.long x]) ++ List.replicate (2 - (lg_sl ([.long x])).length) Slot.unset).toArray = ls at hl ⊢
  have hl : lv_has ls 2 [(0, .long x)] := hl
  refine lv_lload_n hx hb dX4_sign_0 rfl (lv_at hl 0 rfl) ?_
  refine lv_lload_n hx hb dX4_sign_1 rfl (lv_at hl 0 rfl) ?_
  refine lv_bipush (v := 16) hx hb dX4_sign_2 (by decide) ?_
  refine lv_lshr (v := x >>> ((16 : Int32).toInt64 &&& 63)) hx hb dX4_sign_4 rfl ?_
  refine lv_lxor hx hb dX4_sign_5 ?_
  refine lv_lload_n hx hb dX4_sign_6 rfl (lv_at hl 0 rfl) ?_
  refine lv_bipush (v := 32) hx hb dX4_sign_7 (by decide) ?_
  refine lv_lshr (v := x >>> ((32 : Int32).toInt64 &&& 63)) hx hb dX4_sign_9 rfl ?_
  refine lv_lxor hx hb dX4_sign_10 ?_
  refine lv_lload_n hx hb dX4_sign_11 rfl (lv_at hl 0 rfl) ?_
  refine lv_bipush (v := 48) hx hb dX4_sign_12 (by decide) ?_
  refine lv_lshr (v := x >>> ((48 : Int32).toInt64 &&& 63)) hx hb dX4_sign_14 rfl ?_
  refine lv_lxor hx hb dX4_sign_15 ?_
  refine lv_ldc2 (v := 65535) hx hb hown (hts (.constantLong RX4 52 65535) (by decide +kernel)) dX4_sign_16 ?_
  refine lv_land hx hb dX4_sign_19 ?_
  refine lv_l2i (v := ((((x ^^^ (x >>> ((16 : Int32).toInt64 &&& 63))) ^^^ (x >>> ((32 : Int32).toInt64 &&& 63))) ^^^ (x >>> ((48 : Int32).toInt64 &&& 63))) &&& 65535).toInt32) hx hb dX4_sign_20 rfl ?_
  have e_ : md_sign x = ((((x ^^^ (x >>> ((16 : Int32).toInt64 &&& 63))) ^^^ (x >>> ((32 : Int32).toInt64 &&& 63))) ^^^ (x >>> ((48 : Int32).toInt64 &&& 63))) &&& 65535).toInt32 := by unfold md_sign; exact rfl
  rw [e_]
  exact W.iret (v := ((((x ^^^ (x >>> ((16 : Int32).toInt64 &&& 63))) ^^^ (x >>> ((32 : Int32).toInt64 &&& 63))) ^^^ (x >>> ((48 : Int32).toInt64 &&& 63))) &&& 65535).toInt32) hx hb hr (fun t ht hW => ⟨rfl, ht⟩) (fun q h => absurd h List.not_mem_nil) dX4_sign_21
def md_back (x : Int64) (y : Int32) : Int32 :=
  ((md_rounds x (y &&& 65535) ((y >>> (16 &&& 31)) &&& 65535) 1 <<< (16 &&& 31)) ||| ((md_rounds x (y &&& 65535) ((y >>> (16 &&& 31)) &&& 65535) 1 >>> (16 &&& 31)) &&& 65535))
def rm_X4_back : Room := { frames := 1, cells := 0, slots := 0, locals := 31 }
set_option maxHeartbeats 4000000 in
set_option maxRecDepth 100000 in
theorem c_X4_back (l : Launch) (dC : Nat → ClassId) (dI : Nat → Nat → Nat) (cI : ClassId) (cJ : ClassId) (cZ : ClassId) (q : Nat) (aS : Nat) (aC : Nat) (aW : Nat) (aL : Nat) (aN : Nat) (aI : Nat) (aB : Nat) (aD : Nat) (aU : Nat) (aF : Nat) (n : Nat) (gv : Nat) (sz : Nat) (cd : Int32) (sp : Int32) (se : Nat → Int64) (ct : Nat → Int32) (aw : Nat → Int32) (le : Nat → Int32) (ne : Nat → Int32) (ins : Nat → Int32) (ba : Nat → Int32) (dd : Nat → Int32) (cr : Int32) (nw : Int64) (cs : Int64) (un : Nat → Int32) (fr : Nat → Int32) (rl : Int32) (qs : Int32) (x : Int64) (y : Int32) : Met l yX4_back wsX4_back rm_X4_back (up_P (dC, dI) vwCl (mdT cI cJ cZ) (mdW cI cJ cZ q aS aC aW aL aN aI aB aD aU aF n gv sz cd sp se ct aw le ne ins ba dd cr nw cs un fr rl qs) [.long x, .int y]) (k2_QcV (.int (md_back x y))) 0 0 (fun _ => False) := by
  refine Met.ofW (cc := cX4_back) (maxL := 4) (ret := (some .int)) (by decide) rfl ?_
  intro p e s m args below meth c s₁ B hml hv
  obtain ⟨rfl, hP, hK, hD0⟩ := hv
  have hx := B.exec
  have hb := B.bytes
  have hr := B.returns
  have hts := atoms_spec (ws := wsX4_back) B.pre
  have hown : s.vm.findClass RX4 = some m.cls := findClass_of_methodNamed B.named
  have hlocks := B.notSynchronized
  have hD := up_self hD0
  have hS : va_S (up_c (mdW cI cJ cZ q aS aC aW aL aN aI aB aD aU aF n gv sz cd sp se ct aw le ne ins ba dd cr nw cs un fr rl qs)) s.heap s.heap [] := va_S.rf
  have hl := lv_entry ([.long x, .int y]) (n := 4) (Nat.le_of_ble_eq_true rfl)
  rw [lg_entry_eq]
  generalize (lg_sl ([.long x, .int y]) ++ List.replicate (4 - (lg_sl ([.long x, .int y])).length) Slot.unset).toArray = ls at hl ⊢
  have hl : lv_has ls 4 [(0, .long x), (2, .int y)] := hl
  refine lv_lload_n hx hb dX4_back_0 rfl (lv_at hl 0 rfl) ?_
  refine lv_iload_n hx hb dX4_back_1 rfl (lv_at hl 1 rfl) ?_
  refine lv_ldc (v := 65535) hx hb hown (hts (.constant RX4 55 65535) (by decide +kernel)) dX4_back_2 ?_
  refine lv_iand hx hb dX4_back_4 ?_
  refine lv_iload_n hx hb dX4_back_5 rfl (lv_at hl 1 rfl) ?_
  refine lv_bipush (v := 16) hx hb dX4_back_6 (by decide) ?_
  refine lv_ishr hx hb dX4_back_8 ?_
  refine lv_ldc (v := 65535) hx hb hown (hts (.constant RX4 55 65535) (by decide +kernel)) dX4_back_9 ?_
  refine lv_iand hx hb dX4_back_11 ?_
  refine lv_iconst (v := 1) hx hb dX4_back_12 (by decide) ?_
  refine up_read (W.runS (As := [.long x, .int (y &&& 65535), .int ((y >>> (16 &&& 31)) &&& 65535), .int 1]) (rest := []) ⟨hx, hb, hml, hown, hts⟩ (c_X4_rounds l dC dI cI cJ cZ q aS aC aW aL aN aI aB aD aU aF n gv sz cd sp se ct aw le ne ins ba dd cr nw cs un fr rl qs x (y &&& 65535) ((y >>> (16 &&& 31)) &&& 65535) 1) (va_cwS 4 hts gX4_back_X4_rounds rfl rfl rfl (by decide +kernel) ⟨Nat.le_of_ble_eq_true rfl, Nat.le_of_ble_eq_true rfl⟩) (up_preS hP hK hD) rfl rfl hl.1 rfl (lv_room (Nat.le_of_ble_eq_true rfl)) dX4_back_13 ⟨Nat.le_of_ble_eq_true rfl, Nat.le_of_ble_eq_true rfl⟩) ?_
  refine lv_istore_n (lv' := [(3, .int (md_rounds x (y &&& 65535) ((y >>> (16 &&& 31)) &&& 65535) 1)), (0, .long x), (2, .int y)]) hx hb dX4_back_16 rfl hl (by decide) rfl (fun ls hl => ?_)
  refine lv_iload_n hx hb dX4_back_17 rfl (lv_at hl 0 rfl) ?_
  refine lv_bipush (v := 16) hx hb dX4_back_18 (by decide) ?_
  refine lv_ishl hx hb dX4_back_20 ?_
  refine lv_iload_n hx hb dX4_back_21 rfl (lv_at hl 0 rfl) ?_
  refine lv_bipush (v := 16) hx hb dX4_back_22 (by decide) ?_
  refine lv_ishr hx hb dX4_back_24 ?_
  refine lv_ldc (v := 65535) hx hb hown (hts (.constant RX4 55 65535) (by decide +kernel)) dX4_back_25 ?_
  refine lv_iand hx hb dX4_back_27 ?_
  refine lv_ior hx hb dX4_back_28 ?_
  have e_ : md_back x y = ((md_rounds x (y &&& 65535) ((y >>> (16 &&& 31)) &&& 65535) 1 <<< (16 &&& 31)) ||| ((md_rounds x (y &&& 65535) ((y >>> (16 &&& 31)) &&& 65535) 1 >>> (16 &&& 31)) &&& 65535)) := by unfold md_back; exact rfl
  rw [e_]
  exact W.iret (v := ((md_rounds x (y &&& 65535) ((y >>> (16 &&& 31)) &&& 65535) 1 <<< (16 &&& 31)) ||| ((md_rounds x (y &&& 65535) ((y >>> (16 &&& 31)) &&& 65535) 1 >>> (16 &&& 31)) &&& 65535))) hx hb hr (fun t ht hW => ⟨rfl, ht⟩) (fun q h => absurd h List.not_mem_nil) dX4_back_29
def md_some_l (dd : Nat → Int32) (x : Int32) : Nat → Nat → Nat → Int32
  | 0, _, a =>
    (nI a)
  | r + 1, j, a =>
    if (nI a) = 0 then
      if (dd ((nI j).toNatClampNeg)) = x then
        md_some_l dd x r (j + 1) 1
      else
        md_some_l dd x r (j + 1) 0
    else
      md_some_l dd x r (j + 1) 1
def md_some (dd : Nat → Int32) (x : Int32) : Int32 :=
  md_some_l dd x 5 0 0
def rm_X4_some : Room := { frames := 0, cells := 0, slots := 0, locals := 0 }
set_option maxHeartbeats 4000000 in
set_option maxRecDepth 100000 in
theorem c_X4_some (l : Launch) (dC : Nat → ClassId) (dI : Nat → Nat → Nat) (cI : ClassId) (cJ : ClassId) (cZ : ClassId) (q : Nat) (aS : Nat) (aC : Nat) (aW : Nat) (aL : Nat) (aN : Nat) (aI : Nat) (aB : Nat) (aD : Nat) (aU : Nat) (aF : Nat) (n : Nat) (gv : Nat) (sz : Nat) (cd : Int32) (sp : Int32) (se : Nat → Int64) (ct : Nat → Int32) (aw : Nat → Int32) (le : Nat → Int32) (ne : Nat → Int32) (ins : Nat → Int32) (ba : Nat → Int32) (dd : Nat → Int32) (cr : Int32) (nw : Int64) (cs : Int64) (un : Nat → Int32) (fr : Nat → Int32) (rl : Int32) (qs : Int32) (x : Int32) : Met l yX4_some wsX4_some rm_X4_some (up_P (dC, dI) vwCl (mdT cI cJ cZ) (mdW cI cJ cZ q aS aC aW aL aN aI aB aD aU aF n gv sz cd sp se ct aw le ne ins ba dd cr nw cs un fr rl qs) [.ref q, .int x]) (k2_QcV (.int (md_some dd x))) 0 0 (fun _ => False) := by
  refine Met.ofW (cc := cX4_some) (maxL := 4) (ret := (some .boolean)) (by decide) rfl ?_
  intro p e s m args below meth c s₁ B hml hv
  obtain ⟨rfl, hP, hK, hD0⟩ := hv
  have hx := B.exec
  have hb := B.bytes
  have hr := B.returns
  have hts := atoms_spec (ws := wsX4_some) B.pre
  have hown : s.vm.findClass RX4 = some m.cls := findClass_of_methodNamed B.named
  have hlocks := B.notSynchronized
  have hD := up_self hD0
  have hS : va_S (up_c (mdW cI cJ cZ q aS aC aW aL aN aI aB aD aU aF n gv sz cd sp se ct aw le ne ins ba dd cr nw cs un fr rl qs)) s.heap s.heap [] := va_S.rf
  have hl := lv_entry ([.ref q, .int x]) (n := 4) (Nat.le_of_ble_eq_true rfl)
  rw [lg_entry_eq]
  generalize (lg_sl ([.ref q, .int x]) ++ List.replicate (4 - (lg_sl ([.ref q, .int x])).length) Slot.unset).toArray = ls at hl ⊢
  have hl : lv_has ls 4 [(0, .ref q), (1, .int x)] := hl
  refine lv_iconst (v := 0) hx hb dX4_some_0 (by decide) ?_
  refine lv_istore_n (lv' := [(2, .int 0), (0, .ref q), (1, .int x)]) hx hb dX4_some_1 rfl hl (by decide) rfl (fun ls hl => ?_)
  refine lv_iconst (v := 0) hx hb dX4_some_2 (by decide) ?_
  refine lv_istore_n (lv' := [(3, .int 0), (2, .int 0), (0, .ref q), (1, .int x)]) hx hb dX4_some_3 rfl hl (by decide) rfl (fun ls hl => ?_)
  have lp : ∀ (r j : Nat) (a : Nat) , j + r = 5 → a ≤ 1 → ∀ ls : Array Slot, lv_has ls 4 [(0, .ref q), (1, .int x), (3, .int (nI j)), (2, .int (nI a))] → W p l e (headSpec wsX4_some rm_X4_some).room s m ([.ref q, .int x] : List Value).toArray below meth c s.heap [] 0 0 (MQ below (k2_QcV (.int (md_some_l dd x r j a))) ([.ref q, .int x] : List Value).toArray s 0 0 (fun _ => False)) (F0 m 4 ls []) := by
    intro r
    induction r with
    | zero =>
      intro j a hj hy ls hl
      refine lv_iload_n hx hb dX4_some_4 rfl (lv_at hl 2 rfl) ?_
      refine lv_iconst (v := 5) hx hb dX4_some_5 (by decide) ?_
      refine lv_icmp_ge (tgt := 35) hx hb dX4_some_6 (by decide) (fun c_6 => ?_) (fun c_6 => (c_6 (nI_le (a := 5) (b := j) (by omega) (by omega))).elim)
      refine lv_iload_n hx hb dX4_some_35 rfl (lv_at hl 3 rfl) ?_
      have e_ : md_some_l dd x 0 j a = (nI a) := (md_some_l.eq_1 ..).trans rfl
      rw [e_]
      exact W.zret (v := (nI a)) hx hb hr (md_nar1 hy) (fun t ht hW => ⟨rfl, ht⟩) (fun q h => absurd h List.not_mem_nil) dX4_some_36
    | succ r ih =>
      intro j a hj hy ls hl
      refine lv_iload_n hx hb dX4_some_4 rfl (lv_at hl 2 rfl) ?_
      refine lv_iconst (v := 5) hx hb dX4_some_5 (by decide) ?_
      refine lv_icmp_ge (tgt := 35) hx hb dX4_some_6 (by decide) (fun c_6 => (nI_ge (a := j) (b := 5) (by omega) (by omega) c_6).elim) (fun c_6 => ?_)
      refine lv_iload_n hx hb dX4_some_9 rfl (lv_at hl 3 rfl) ?_
      refine lv_if_ne (tgt := 23) hx hb dX4_some_10 (by decide) (fun c_10 => ?_) (fun c_10 => ?_)
      · refine lv_iconst (v := 1) hx hb dX4_some_23 (by decide) ?_
        refine lv_goto (tgt := 28) hx hb dX4_some_24 (by decide) ?_
        refine lv_istore_n (lv' := [(2, .int 1), (0, .ref q), (1, .int x), (3, .int (nI j))]) hx hb dX4_some_28 rfl hl (by decide) rfl (fun ls hl => ?_)
        refine lv_iinc (v := (nI (j + 1))) (lv' := [(3, .int (nI (j + 1))), (2, .int 1), (0, .ref q), (1, .int x)]) hx hb dX4_some_29 hl (k := 3) rfl (nI_1 _) (by decide) rfl (fun ls hl => ?_)
        refine lv_goto (tgt := 4) hx hb dX4_some_32 (by decide) ?_
        have e_ : md_some_l dd x (r + 1) j a = md_some_l dd x r (j + 1) 1 := (md_some_l.eq_2 ..).trans ((if_neg c_10).trans rfl)
        rw [e_]
        exact ih (j + 1) 1 (by omega) (by omega) ls (lv_sub hl [2, 3, 0, 1] rfl)
      · refine lv_aload_n hx hb dX4_some_13 rfl (lv_at hl 0 rfl) ?_
        refine va_get (D := (dC, dI)) (ci := 5) (v := .ref aD) (C := RX4) (T := TX4) (N := 20) hx hb hts inn_X4_some_X4 hown hK hP 0 rfl rfl 10 (by decide) (hts (.fieldLink RX4 33 "DoorKeysModel" "door" "[I") (by decide +kernel)) (fun _ h9 => h9) rfl dX4_some_14 ?_
        refine lv_iload_n hx hb dX4_some_17 rfl (lv_at hl 2 rfl) ?_
        refine va_iald hx hb hK hP 8 0 rfl rfl (vp_in_nI (n := j) (N := 5) (by omega) (by decide)) dX4_some_18 ?_
        refine lv_iload_n hx hb dX4_some_19 rfl (lv_at hl 1 rfl) ?_
        refine lv_icmp_ne (tgt := 27) hx hb dX4_some_20 (by decide) (fun c_20 => ?_) (fun c_20 => ?_)
        · refine lv_iconst (v := 0) hx hb dX4_some_27 (by decide) ?_
          refine lv_istore_n (lv' := [(2, .int 0), (0, .ref q), (1, .int x), (3, .int (nI j))]) hx hb dX4_some_28 rfl hl (by decide) rfl (fun ls hl => ?_)
          refine lv_iinc (v := (nI (j + 1))) (lv' := [(3, .int (nI (j + 1))), (2, .int 0), (0, .ref q), (1, .int x)]) hx hb dX4_some_29 hl (k := 3) rfl (nI_1 _) (by decide) rfl (fun ls hl => ?_)
          refine lv_goto (tgt := 4) hx hb dX4_some_32 (by decide) ?_
          have e_ : md_some_l dd x (r + 1) j a = md_some_l dd x r (j + 1) 0 := (md_some_l.eq_2 ..).trans ((if_pos c_10).trans ((if_neg c_20).trans rfl))
          rw [e_]
          exact ih (j + 1) 0 (by omega) (by omega) ls (lv_sub hl [2, 3, 0, 1] rfl)
        · refine lv_iconst (v := 1) hx hb dX4_some_23 (by decide) ?_
          refine lv_goto (tgt := 28) hx hb dX4_some_24 (by decide) ?_
          refine lv_istore_n (lv' := [(2, .int 1), (0, .ref q), (1, .int x), (3, .int (nI j))]) hx hb dX4_some_28 rfl hl (by decide) rfl (fun ls hl => ?_)
          refine lv_iinc (v := (nI (j + 1))) (lv' := [(3, .int (nI (j + 1))), (2, .int 1), (0, .ref q), (1, .int x)]) hx hb dX4_some_29 hl (k := 3) rfl (nI_1 _) (by decide) rfl (fun ls hl => ?_)
          refine lv_goto (tgt := 4) hx hb dX4_some_32 (by decide) ?_
          have e_ : md_some_l dd x (r + 1) j a = md_some_l dd x r (j + 1) 1 := (md_some_l.eq_2 ..).trans ((if_pos c_10).trans ((if_pos c_20).trans rfl))
          rw [e_]
          exact ih (j + 1) 1 (by omega) (by omega) ls (lv_sub hl [2, 3, 0, 1] rfl)
  have e_ : md_some dd x = md_some_l dd x 5 0 0 := by unfold md_some; exact rfl
  rw [e_]
  exact lp 5 0 0 (by omega) (by omega) ls (lv_sub hl [2, 3, 0, 1] rfl)
def md_turn_l (dd : Nat → Int32) (nw : Int64) (cs : Int64) (f : Nat) (u : Int32) (w : Int32) : Nat → Nat → Int32 → (Nat → Int32) → Int32 × (Nat → Int32) × Int64
  | 0, _, ac, dd_ =>
    if md_some dd 0 = 0 then
      (ac, dd_, cs)
    else
      if md_some dd_ 0 = 0 then
        (ac, dd_, nw)
      else
        (ac, dd_, cs)
  | r + 1, j, ac, dd_ =>
    if (dd_ ((nI (f + j)).toNatClampNeg)) = w then
      md_turn_l dd nw cs f u w r (j + 1) ac dd_
    else
      if u = 3 then
        md_turn_l dd nw cs f u w r (j + 1) (ac + 1) (upd dd_ ((nI (f + j)).toNatClampNeg) w)
      else
        if (dd_ ((nI (f + j)).toNatClampNeg)) = u then
          md_turn_l dd nw cs f u w r (j + 1) (ac + 1) (upd dd_ ((nI (f + j)).toNatClampNeg) w)
        else
          md_turn_l dd nw cs f u w r (j + 1) ac dd_
def md_turn (dd : Nat → Int32) (nw : Int64) (cs : Int64) (f : Nat) (t : Nat) (u : Int32) (w : Int32) : Int32 × (Nat → Int32) × Int64 :=
  md_turn_l dd nw cs f u w (t - f) 0 0 dd
def rm_X4_turn : Room := { frames := 1, cells := 0, slots := 0, locals := 23 }
set_option maxHeartbeats 4000000 in
set_option maxRecDepth 100000 in
theorem c_X4_turn (l : Launch) (dC : Nat → ClassId) (dI : Nat → Nat → Nat) (cI : ClassId) (cJ : ClassId) (cZ : ClassId) (q : Nat) (aS : Nat) (aC : Nat) (aW : Nat) (aL : Nat) (aN : Nat) (aI : Nat) (aB : Nat) (aD : Nat) (aU : Nat) (aF : Nat) (n : Nat) (gv : Nat) (sz : Nat) (cd : Int32) (sp : Int32) (se : Nat → Int64) (ct : Nat → Int32) (aw : Nat → Int32) (le : Nat → Int32) (ne : Nat → Int32) (ins : Nat → Int32) (ba : Nat → Int32) (dd : Nat → Int32) (cr : Int32) (nw : Int64) (cs : Int64) (un : Nat → Int32) (fr : Nat → Int32) (rl : Int32) (qs : Int32) (f : Nat) (t : Nat) (u : Int32) (w : Int32) (hft : f ≤ t) (ht5 : t ≤ 5) : Met l yX4_turn wsX4_turn rm_X4_turn (up_P (dC, dI) vwCl (mdT cI cJ cZ) (mdW cI cJ cZ q aS aC aW aL aN aI aB aD aU aF n gv sz cd sp se ct aw le ne ins ba dd cr nw cs un fr rl qs) [.ref q, .int (nI f), .int (nI t), .int u, .int w]) (up_Q (dC, dI) vwCl (some (.int ((md_turn dd nw cs f t u w).1))) (mdW cI cJ cZ q aS aC aW aL aN aI aB aD aU aF n gv sz cd sp se ct aw le ne ins ba dd cr nw cs un fr rl qs) (mdW cI cJ cZ q aS aC aW aL aN aI aB aD aU aF n gv sz cd sp se ct aw le ne ins ba ((md_turn dd nw cs f t u w).2.1) cr nw ((md_turn dd nw cs f t u w).2.2) un fr rl qs)) 0 0 (up_c (mdW cI cJ cZ q aS aC aW aL aN aI aB aD aU aF n gv sz cd sp se ct aw le ne ins ba dd cr nw cs un fr rl qs)) := by
  refine Met.ofW (cc := cX4_turn) (maxL := 8) (ret := (some .int)) (by decide) rfl ?_
  intro p e s m args below meth c s₁ B hml hv
  obtain ⟨rfl, hP, hK, hD0⟩ := hv
  have hx := B.exec
  have hb := B.bytes
  have hr := B.returns
  have hts := atoms_spec (ws := wsX4_turn) B.pre
  have hown : s.vm.findClass RX4 = some m.cls := findClass_of_methodNamed B.named
  have hlocks := B.notSynchronized
  have hD := up_self hD0
  have hS : va_S (up_c (mdW cI cJ cZ q aS aC aW aL aN aI aB aD aU aF n gv sz cd sp se ct aw le ne ins ba dd cr nw cs un fr rl qs)) s.heap s.heap [] := va_S.rf
  have hl := lv_entry ([.ref q, .int (nI f), .int (nI t), .int u, .int w]) (n := 8) (Nat.le_of_ble_eq_true rfl)
  rw [lg_entry_eq]
  generalize (lg_sl ([.ref q, .int (nI f), .int (nI t), .int u, .int w]) ++ List.replicate (8 - (lg_sl ([.ref q, .int (nI f), .int (nI t), .int u, .int w])).length) Slot.unset).toArray = ls at hl ⊢
  have hl : lv_has ls 8 [(0, .ref q), (1, .int (nI f)), (2, .int (nI t)), (3, .int u), (4, .int w)] := hl
  refine lv_aload_n hx hb dX4_turn_0 rfl (lv_at hl 0 rfl) ?_
  refine lv_iconst (v := 0) hx hb dX4_turn_1 (by decide) ?_
  refine up_read (W.runV (As := [.int 0]) (rest := []) ⟨hx, hb, hml, hown, hts⟩ (c_X4_some l dC dI cI cJ cZ q aS aC aW aL aN aI aB aD aU aF n gv sz cd sp se ct aw le ne ins ba dd cr nw cs un fr rl qs 0) (cwV 1 hts gX4_turn_X4_some rfl rfl rfl (by decide +kernel) ⟨Nat.le_of_ble_eq_true rfl, Nat.le_of_ble_eq_true rfl⟩) (up_preV (q0 := 0) (ci := 5) hP hK hD rfl rfl) rfl rfl hl.1 rfl (lv_room (Nat.le_of_ble_eq_true rfl)) dX4_turn_2 ⟨Nat.le_of_ble_eq_true rfl, Nat.le_of_ble_eq_true rfl⟩) ?_
  refine lv_istore (lv' := [(5, .int (md_some dd 0)), (0, .ref q), (1, .int (nI f)), (2, .int (nI t)), (3, .int u), (4, .int w)]) hx hb dX4_turn_5 hl (by decide) rfl (fun ls hl => ?_)
  refine lv_iconst (v := 0) hx hb dX4_turn_7 (by decide) ?_
  refine lv_istore (lv' := [(6, .int 0), (5, .int (md_some dd 0)), (0, .ref q), (1, .int (nI f)), (2, .int (nI t)), (3, .int u), (4, .int w)]) hx hb dX4_turn_8 hl (by decide) rfl (fun ls hl => ?_)
  refine lv_iload_n hx hb dX4_turn_10 rfl (lv_at hl 3 rfl) ?_
  refine lv_istore (lv' := [(7, .int (nI f)), (6, .int 0), (5, .int (md_some dd 0)), (0, .ref q), (1, .int (nI f)), (2, .int (nI t)), (3, .int u), (4, .int w)]) hx hb dX4_turn_11 hl (by decide) rfl (fun ls hl => ?_)
  have lp : ∀ (r j : Nat) (ac : Int32) (dd_ : Nat → Int32), j + r = t - f → ∀ (H : Heap) (locs : List Loc), va_P (dC, dI) vwCl (mdW cI cJ cZ q aS aC aW aL aN aI aB aD aU aF n gv sz cd sp se ct aw le ne ins ba dd_ cr nw cs un fr rl qs) H → va_D (up_c (mdW cI cJ cZ q aS aC aW aL aN aI aB aD aU aF n gv sz cd sp se ct aw le ne ins ba dd cr nw cs un fr rl qs)) (mdW cI cJ cZ q aS aC aW aL aN aI aB aD aU aF n gv sz cd sp se ct aw le ne ins ba dd_ cr nw cs un fr rl qs) → va_S (up_c (mdW cI cJ cZ q aS aC aW aL aN aI aB aD aU aF n gv sz cd sp se ct aw le ne ins ba dd cr nw cs un fr rl qs)) s.heap H locs → ∀ ls : Array Slot, lv_has ls 8 [(5, .int (md_some dd 0)), (0, .ref q), (2, .int (nI t)), (3, .int u), (4, .int w), (7, .int (nI (f + j))), (6, .int ac)] → W p l e (headSpec wsX4_turn rm_X4_turn).room s m ([.ref q, .int (nI f), .int (nI t), .int u, .int w] : List Value).toArray below meth c H locs 0 0 (MQ below (up_Q (dC, dI) vwCl (some (.int ((md_turn_l dd nw cs f u w r j ac dd_).1))) (mdW cI cJ cZ q aS aC aW aL aN aI aB aD aU aF n gv sz cd sp se ct aw le ne ins ba dd cr nw cs un fr rl qs) (mdW cI cJ cZ q aS aC aW aL aN aI aB aD aU aF n gv sz cd sp se ct aw le ne ins ba ((md_turn_l dd nw cs f u w r j ac dd_).2.1) cr nw ((md_turn_l dd nw cs f u w r j ac dd_).2.2) un fr rl qs)) ([.ref q, .int (nI f), .int (nI t), .int u, .int w] : List Value).toArray s 0 0 (up_c (mdW cI cJ cZ q aS aC aW aL aN aI aB aD aU aF n gv sz cd sp se ct aw le ne ins ba dd cr nw cs un fr rl qs))) (F0 m 13 ls []) := by
    intro r
    induction r with
    | zero =>
      intro j ac dd_ hj H locs hP hD hS ls hl
      refine lv_iload hx hb dX4_turn_13 (lv_at hl 5 rfl) ?_
      refine lv_iload_n hx hb dX4_turn_15 rfl (lv_at hl 2 rfl) ?_
      refine lv_icmp_ge (tgt := 65) hx hb dX4_turn_16 (by decide) (fun c_16 => ?_) (fun c_16 => (c_16 (nI_le (a := t) (b := (f + j)) (by omega) (by omega))).elim)
      refine lv_aload_n hx hb dX4_turn_65 rfl (lv_at hl 1 rfl) ?_
      refine lv_iload hx hb dX4_turn_66 (lv_at hl 0 rfl) ?_
      refine lv_if_eq (tgt := 86) hx hb dX4_turn_68 (by decide) (fun c_68 => ?_) (fun c_68 => ?_)
      · refine lv_aload_n hx hb dX4_turn_86 rfl (lv_at hl 1 rfl) ?_
        refine va_get (D := (dC, dI)) (ci := 5) (v := .long cs) (C := RX4) (T := TX4) (N := 20) hx hb hts inn_X4_turn_X4 hown hK hP 0 rfl rfl 13 (by decide) (hts (.fieldLink RX4 68 "DoorKeysModel" "closed" "J") (by decide +kernel)) (fun _ h9 => h9) rfl dX4_turn_87 ?_
        refine va_put (D := (dC, dI)) (ci := 5) (v := .long cs) (ty := .long) (C := RX4) (T := TX4) (N := 20) hx hb hts inn_X4_turn_X4 tyX4 tyX4_ok nmX4 hown hK hP hD hS 0 rfl rfl 13 (by decide) (hts (.fieldLink RX4 68 "DoorKeysModel" "closed" "J") (by decide +kernel)) (fun _ h9 => h9) rfl (by decide +kernel) rfl rfl (Nat.le_of_ble_eq_true rfl) dX4_turn_90 (fun H locs hP hD hS => ?_)
        have hP : va_P (dC, dI) vwCl (mdW cI cJ cZ q aS aC aW aL aN aI aB aD aU aF n gv sz cd sp se ct aw le ne ins ba dd_ cr nw cs un fr rl qs) H := hP
        have hD : va_D (up_c (mdW cI cJ cZ q aS aC aW aL aN aI aB aD aU aF n gv sz cd sp se ct aw le ne ins ba dd cr nw cs un fr rl qs)) (mdW cI cJ cZ q aS aC aW aL aN aI aB aD aU aF n gv sz cd sp se ct aw le ne ins ba dd_ cr nw cs un fr rl qs) := hD
        refine lv_iload hx hb dX4_turn_93 (lv_at hl 6 rfl) ?_
        have e_ : md_turn_l dd nw cs f u w 0 j ac dd_ = (ac, dd_, cs) := (md_turn_l.eq_1 ..).trans ((if_pos c_68).trans rfl)
        rw [e_]
        exact W.iret (v := ac) hx hb hr (fun t ht hW => ⟨rfl, by rw [ht]; exact hP, hS.F ht⟩) hS.2.2 dX4_turn_95
      · refine lv_aload_n hx hb dX4_turn_71 rfl (lv_at hl 1 rfl) ?_
        refine lv_iconst (v := 0) hx hb dX4_turn_72 (by decide) ?_
        refine up_read (W.runV (As := [.int 0]) (rest := [.ref q]) ⟨hx, hb, hml, hown, hts⟩ (c_X4_some l dC dI cI cJ cZ q aS aC aW aL aN aI aB aD aU aF n gv sz cd sp se ct aw le ne ins ba dd_ cr nw cs un fr rl qs 0) (cwV 1 hts gX4_turn_X4_some rfl rfl rfl (by decide +kernel) ⟨Nat.le_of_ble_eq_true rfl, Nat.le_of_ble_eq_true rfl⟩) (up_preV (q0 := 0) (ci := 5) hP hK hD rfl rfl) rfl rfl hl.1 rfl (lv_room (Nat.le_of_ble_eq_true rfl)) dX4_turn_73 ⟨Nat.le_of_ble_eq_true rfl, Nat.le_of_ble_eq_true rfl⟩) ?_
        refine lv_if_ne (tgt := 86) hx hb dX4_turn_76 (by decide) (fun c_76 => ?_) (fun c_76 => ?_)
        · refine lv_aload_n hx hb dX4_turn_86 rfl (lv_at hl 1 rfl) ?_
          refine va_get (D := (dC, dI)) (ci := 5) (v := .long cs) (C := RX4) (T := TX4) (N := 20) hx hb hts inn_X4_turn_X4 hown hK hP 0 rfl rfl 13 (by decide) (hts (.fieldLink RX4 68 "DoorKeysModel" "closed" "J") (by decide +kernel)) (fun _ h9 => h9) rfl dX4_turn_87 ?_
          refine va_put (D := (dC, dI)) (ci := 5) (v := .long cs) (ty := .long) (C := RX4) (T := TX4) (N := 20) hx hb hts inn_X4_turn_X4 tyX4 tyX4_ok nmX4 hown hK hP hD hS 0 rfl rfl 13 (by decide) (hts (.fieldLink RX4 68 "DoorKeysModel" "closed" "J") (by decide +kernel)) (fun _ h9 => h9) rfl (by decide +kernel) rfl rfl (Nat.le_of_ble_eq_true rfl) dX4_turn_90 (fun H locs hP hD hS => ?_)
          have hP : va_P (dC, dI) vwCl (mdW cI cJ cZ q aS aC aW aL aN aI aB aD aU aF n gv sz cd sp se ct aw le ne ins ba dd_ cr nw cs un fr rl qs) H := hP
          have hD : va_D (up_c (mdW cI cJ cZ q aS aC aW aL aN aI aB aD aU aF n gv sz cd sp se ct aw le ne ins ba dd cr nw cs un fr rl qs)) (mdW cI cJ cZ q aS aC aW aL aN aI aB aD aU aF n gv sz cd sp se ct aw le ne ins ba dd_ cr nw cs un fr rl qs) := hD
          refine lv_iload hx hb dX4_turn_93 (lv_at hl 6 rfl) ?_
          have e_ : md_turn_l dd nw cs f u w 0 j ac dd_ = (ac, dd_, cs) := (md_turn_l.eq_1 ..).trans ((if_neg c_68).trans ((if_neg c_76).trans rfl))
          rw [e_]
          exact W.iret (v := ac) hx hb hr (fun t ht hW => ⟨rfl, by rw [ht]; exact hP, hS.F ht⟩) hS.2.2 dX4_turn_95
        · refine lv_aload_n hx hb dX4_turn_79 rfl (lv_at hl 1 rfl) ?_
          refine va_get (D := (dC, dI)) (ci := 5) (v := .long nw) (C := RX4) (T := TX4) (N := 20) hx hb hts inn_X4_turn_X4 hown hK hP 0 rfl rfl 12 (by decide) (hts (.fieldLink RX4 64 "DoorKeysModel" "now" "J") (by decide +kernel)) (fun _ h9 => h9) rfl dX4_turn_80 ?_
          refine lv_goto (tgt := 90) hx hb dX4_turn_83 (by decide) ?_
          refine va_put (D := (dC, dI)) (ci := 5) (v := .long nw) (ty := .long) (C := RX4) (T := TX4) (N := 20) hx hb hts inn_X4_turn_X4 tyX4 tyX4_ok nmX4 hown hK hP hD hS 0 rfl rfl 13 (by decide) (hts (.fieldLink RX4 68 "DoorKeysModel" "closed" "J") (by decide +kernel)) (fun _ h9 => h9) rfl (by decide +kernel) rfl rfl (Nat.le_of_ble_eq_true rfl) dX4_turn_90 (fun H locs hP hD hS => ?_)
          have hP : va_P (dC, dI) vwCl (mdW cI cJ cZ q aS aC aW aL aN aI aB aD aU aF n gv sz cd sp se ct aw le ne ins ba dd_ cr nw nw un fr rl qs) H := hP
          have hD : va_D (up_c (mdW cI cJ cZ q aS aC aW aL aN aI aB aD aU aF n gv sz cd sp se ct aw le ne ins ba dd cr nw cs un fr rl qs)) (mdW cI cJ cZ q aS aC aW aL aN aI aB aD aU aF n gv sz cd sp se ct aw le ne ins ba dd_ cr nw nw un fr rl qs) := hD
          refine lv_iload hx hb dX4_turn_93 (lv_at hl 6 rfl) ?_
          have e_ : md_turn_l dd nw cs f u w 0 j ac dd_ = (ac, dd_, nw) := (md_turn_l.eq_1 ..).trans ((if_neg c_68).trans ((if_pos c_76).trans rfl))
          rw [e_]
          exact W.iret (v := ac) hx hb hr (fun t ht hW => ⟨rfl, by rw [ht]; exact hP, hS.F ht⟩) hS.2.2 dX4_turn_95
    | succ r ih =>
      intro j ac dd_ hj H locs hP hD hS ls hl
      refine lv_iload hx hb dX4_turn_13 (lv_at hl 5 rfl) ?_
      refine lv_iload_n hx hb dX4_turn_15 rfl (lv_at hl 2 rfl) ?_
      refine lv_icmp_ge (tgt := 65) hx hb dX4_turn_16 (by decide) (fun c_16 => (nI_ge (a := (f + j)) (b := t) (by omega) (by omega) c_16).elim) (fun c_16 => ?_)
      refine lv_aload_n hx hb dX4_turn_19 rfl (lv_at hl 1 rfl) ?_
      refine va_get (D := (dC, dI)) (ci := 5) (v := .ref aD) (C := RX4) (T := TX4) (N := 20) hx hb hts inn_X4_turn_X4 hown hK hP 0 rfl rfl 10 (by decide) (hts (.fieldLink RX4 33 "DoorKeysModel" "door" "[I") (by decide +kernel)) (fun _ h9 => h9) rfl dX4_turn_20 ?_
      refine lv_iload hx hb dX4_turn_23 (lv_at hl 5 rfl) ?_
      refine va_iald hx hb hK hP 8 0 rfl rfl (vp_in_nI (n := f + j) (N := 5) (by omega) (by decide)) dX4_turn_25 ?_
      refine lv_iload hx hb dX4_turn_26 (lv_at hl 4 rfl) ?_
      refine lv_icmp_eq (tgt := 59) hx hb dX4_turn_28 (by decide) (fun c_28 => ?_) (fun c_28 => ?_)
      · refine lv_iinc (v := (nI ((f + j) + 1))) (lv' := [(7, .int (nI ((f + j) + 1))), (5, .int (md_some dd 0)), (0, .ref q), (2, .int (nI t)), (3, .int u), (4, .int w), (6, .int ac)]) hx hb dX4_turn_59 hl (k := 5) rfl (nI_1 _) (by decide) rfl (fun ls hl => ?_)
        refine lv_goto (tgt := 13) hx hb dX4_turn_62 (by decide) ?_
        have e_ : md_turn_l dd nw cs f u w (r + 1) j ac dd_ = md_turn_l dd nw cs f u w r (j + 1) ac dd_ := (md_turn_l.eq_2 ..).trans ((if_pos c_28).trans rfl)
        rw [e_]
        exact ih (j + 1) ac dd_ (by omega) _ _ hP hD hS ls (lv_sub hl [1, 2, 3, 4, 5, 0, 6] rfl)
      · refine lv_iload_n hx hb dX4_turn_31 rfl (lv_at hl 3 rfl) ?_
        refine lv_iconst (v := 3) hx hb dX4_turn_32 (by decide) ?_
        refine lv_icmp_eq (tgt := 47) hx hb dX4_turn_33 (by decide) (fun c_33 => ?_) (fun c_33 => ?_)
        · refine lv_aload_n hx hb dX4_turn_47 rfl (lv_at hl 1 rfl) ?_
          refine va_get (D := (dC, dI)) (ci := 5) (v := .ref aD) (C := RX4) (T := TX4) (N := 20) hx hb hts inn_X4_turn_X4 hown hK hP 0 rfl rfl 10 (by decide) (hts (.fieldLink RX4 33 "DoorKeysModel" "door" "[I") (by decide +kernel)) (fun _ h9 => h9) rfl dX4_turn_48 ?_
          refine lv_iload hx hb dX4_turn_51 (lv_at hl 5 rfl) ?_
          refine lv_iload hx hb dX4_turn_53 (lv_at hl 4 rfl) ?_
          refine va_iast hx hb hK hP hD hS 8 0 rfl rfl (vp_in_nI (n := f + j) (N := 5) (by omega) (by decide)) dX4_turn_55 (fun H locs hP hD hS => ?_)
          have hP : va_P (dC, dI) vwCl (mdW cI cJ cZ q aS aC aW aL aN aI aB aD aU aF n gv sz cd sp se ct aw le ne ins ba (upd dd_ ((nI (f + j)).toNatClampNeg) w) cr nw cs un fr rl qs) H := hP
          have hD : va_D (up_c (mdW cI cJ cZ q aS aC aW aL aN aI aB aD aU aF n gv sz cd sp se ct aw le ne ins ba dd cr nw cs un fr rl qs)) (mdW cI cJ cZ q aS aC aW aL aN aI aB aD aU aF n gv sz cd sp se ct aw le ne ins ba (upd dd_ ((nI (f + j)).toNatClampNeg) w) cr nw cs un fr rl qs) := hD
          refine lv_iinc (v := (ac + 1)) (lv' := [(6, .int (ac + 1)), (5, .int (md_some dd 0)), (0, .ref q), (2, .int (nI t)), (3, .int u), (4, .int w), (7, .int (nI (f + j)))]) hx hb dX4_turn_56 hl (k := 6) rfl (by rfl) (by decide) rfl (fun ls hl => ?_)
          refine lv_iinc (v := (nI ((f + j) + 1))) (lv' := [(7, .int (nI ((f + j) + 1))), (6, .int (ac + 1)), (5, .int (md_some dd 0)), (0, .ref q), (2, .int (nI t)), (3, .int u), (4, .int w)]) hx hb dX4_turn_59 hl (k := 6) rfl (nI_1 _) (by decide) rfl (fun ls hl => ?_)
          refine lv_goto (tgt := 13) hx hb dX4_turn_62 (by decide) ?_
          have e_ : md_turn_l dd nw cs f u w (r + 1) j ac dd_ = md_turn_l dd nw cs f u w r (j + 1) (ac + 1) (upd dd_ ((nI (f + j)).toNatClampNeg) w) := (md_turn_l.eq_2 ..).trans ((if_neg c_28).trans ((if_pos c_33).trans rfl))
          rw [e_]
          exact ih (j + 1) (ac + 1) (upd dd_ ((nI (f + j)).toNatClampNeg) w) (by omega) _ _ hP hD hS ls (lv_sub hl [2, 3, 4, 5, 6, 0, 1] rfl)
        · refine lv_aload_n hx hb dX4_turn_36 rfl (lv_at hl 1 rfl) ?_
          refine va_get (D := (dC, dI)) (ci := 5) (v := .ref aD) (C := RX4) (T := TX4) (N := 20) hx hb hts inn_X4_turn_X4 hown hK hP 0 rfl rfl 10 (by decide) (hts (.fieldLink RX4 33 "DoorKeysModel" "door" "[I") (by decide +kernel)) (fun _ h9 => h9) rfl dX4_turn_37 ?_
          refine lv_iload hx hb dX4_turn_40 (lv_at hl 5 rfl) ?_
          refine va_iald hx hb hK hP 8 0 rfl rfl (vp_in_nI (n := f + j) (N := 5) (by omega) (by decide)) dX4_turn_42 ?_
          refine lv_iload_n hx hb dX4_turn_43 rfl (lv_at hl 3 rfl) ?_
          refine lv_icmp_ne (tgt := 59) hx hb dX4_turn_44 (by decide) (fun c_44 => ?_) (fun c_44 => ?_)
          · refine lv_iinc (v := (nI ((f + j) + 1))) (lv' := [(7, .int (nI ((f + j) + 1))), (5, .int (md_some dd 0)), (0, .ref q), (2, .int (nI t)), (3, .int u), (4, .int w), (6, .int ac)]) hx hb dX4_turn_59 hl (k := 5) rfl (nI_1 _) (by decide) rfl (fun ls hl => ?_)
            refine lv_goto (tgt := 13) hx hb dX4_turn_62 (by decide) ?_
            have e_ : md_turn_l dd nw cs f u w (r + 1) j ac dd_ = md_turn_l dd nw cs f u w r (j + 1) ac dd_ := (md_turn_l.eq_2 ..).trans ((if_neg c_28).trans ((if_neg c_33).trans ((if_neg c_44).trans rfl)))
            rw [e_]
            exact ih (j + 1) ac dd_ (by omega) _ _ hP hD hS ls (lv_sub hl [1, 2, 3, 4, 5, 0, 6] rfl)
          · refine lv_aload_n hx hb dX4_turn_47 rfl (lv_at hl 1 rfl) ?_
            refine va_get (D := (dC, dI)) (ci := 5) (v := .ref aD) (C := RX4) (T := TX4) (N := 20) hx hb hts inn_X4_turn_X4 hown hK hP 0 rfl rfl 10 (by decide) (hts (.fieldLink RX4 33 "DoorKeysModel" "door" "[I") (by decide +kernel)) (fun _ h9 => h9) rfl dX4_turn_48 ?_
            refine lv_iload hx hb dX4_turn_51 (lv_at hl 5 rfl) ?_
            refine lv_iload hx hb dX4_turn_53 (lv_at hl 4 rfl) ?_
            refine va_iast hx hb hK hP hD hS 8 0 rfl rfl (vp_in_nI (n := f + j) (N := 5) (by omega) (by decide)) dX4_turn_55 (fun H locs hP hD hS => ?_)
            have hP : va_P (dC, dI) vwCl (mdW cI cJ cZ q aS aC aW aL aN aI aB aD aU aF n gv sz cd sp se ct aw le ne ins ba (upd dd_ ((nI (f + j)).toNatClampNeg) w) cr nw cs un fr rl qs) H := hP
            have hD : va_D (up_c (mdW cI cJ cZ q aS aC aW aL aN aI aB aD aU aF n gv sz cd sp se ct aw le ne ins ba dd cr nw cs un fr rl qs)) (mdW cI cJ cZ q aS aC aW aL aN aI aB aD aU aF n gv sz cd sp se ct aw le ne ins ba (upd dd_ ((nI (f + j)).toNatClampNeg) w) cr nw cs un fr rl qs) := hD
            refine lv_iinc (v := (ac + 1)) (lv' := [(6, .int (ac + 1)), (5, .int (md_some dd 0)), (0, .ref q), (2, .int (nI t)), (3, .int u), (4, .int w), (7, .int (nI (f + j)))]) hx hb dX4_turn_56 hl (k := 6) rfl (by rfl) (by decide) rfl (fun ls hl => ?_)
            refine lv_iinc (v := (nI ((f + j) + 1))) (lv' := [(7, .int (nI ((f + j) + 1))), (6, .int (ac + 1)), (5, .int (md_some dd 0)), (0, .ref q), (2, .int (nI t)), (3, .int u), (4, .int w)]) hx hb dX4_turn_59 hl (k := 6) rfl (nI_1 _) (by decide) rfl (fun ls hl => ?_)
            refine lv_goto (tgt := 13) hx hb dX4_turn_62 (by decide) ?_
            have e_ : md_turn_l dd nw cs f u w (r + 1) j ac dd_ = md_turn_l dd nw cs f u w r (j + 1) (ac + 1) (upd dd_ ((nI (f + j)).toNatClampNeg) w) := (md_turn_l.eq_2 ..).trans ((if_neg c_28).trans ((if_neg c_33).trans ((if_pos c_44).trans rfl)))
            rw [e_]
            exact ih (j + 1) (ac + 1) (upd dd_ ((nI (f + j)).toNatClampNeg) w) (by omega) _ _ hP hD hS ls (lv_sub hl [2, 3, 4, 5, 6, 0, 1] rfl)
  have e_ : md_turn dd nw cs f t u w = md_turn_l dd nw cs f u w (t - f) 0 0 dd := by unfold md_turn; exact rfl
  rw [e_]
  exact lp (t - f) 0 0 dd (by omega) _ _ hP hD hS ls (lv_sub hl [2, 3, 5, 6, 7, 0, 1] rfl)
def md_command (dd : Nat → Int32) (cr : Int32) (nw : Int64) (cs : Int64) (x : Int32) : (Nat → Int32) × Int64 :=
  if x = 0 then
    if x = 1 then
      if cr = 0 then
        if x = 2 then
          if x = 3 then
            if md_some ((md_turn ((md_turn ((md_turn dd nw cs 0 5 3 0).2.1) nw ((md_turn dd nw cs 0 5 3 0).2.2) 0 5 0 1).2.1) nw ((md_turn ((md_turn dd nw cs 0 5 3 0).2.1) nw ((md_turn dd nw cs 0 5 3 0).2.2) 0 5 0 1).2.2) 4 5 1 0).2.1) 0 = 0 then
              ((md_turn ((md_turn ((md_turn ((md_turn dd nw cs 0 5 3 0).2.1) nw ((md_turn dd nw cs 0 5 3 0).2.2) 0 5 0 1).2.1) nw ((md_turn ((md_turn dd nw cs 0 5 3 0).2.1) nw ((md_turn dd nw cs 0 5 3 0).2.2) 0 5 0 1).2.2) 4 5 1 0).2.1) nw ((md_turn ((md_turn ((md_turn dd nw cs 0 5 3 0).2.1) nw ((md_turn dd nw cs 0 5 3 0).2.2) 0 5 0 1).2.1) nw ((md_turn ((md_turn dd nw cs 0 5 3 0).2.1) nw ((md_turn dd nw cs 0 5 3 0).2.2) 0 5 0 1).2.2) 4 5 1 0).2.2) 0 5 3 2).2.1, (md_turn ((md_turn ((md_turn ((md_turn dd nw cs 0 5 3 0).2.1) nw ((md_turn dd nw cs 0 5 3 0).2.2) 0 5 0 1).2.1) nw ((md_turn ((md_turn dd nw cs 0 5 3 0).2.1) nw ((md_turn dd nw cs 0 5 3 0).2.2) 0 5 0 1).2.2) 4 5 1 0).2.1) nw ((md_turn ((md_turn ((md_turn dd nw cs 0 5 3 0).2.1) nw ((md_turn dd nw cs 0 5 3 0).2.2) 0 5 0 1).2.1) nw ((md_turn ((md_turn dd nw cs 0 5 3 0).2.1) nw ((md_turn dd nw cs 0 5 3 0).2.2) 0 5 0 1).2.2) 4 5 1 0).2.2) 0 5 3 2).2.2)
            else
              ((md_turn ((md_turn ((md_turn dd nw cs 0 5 3 0).2.1) nw ((md_turn dd nw cs 0 5 3 0).2.2) 0 5 0 1).2.1) nw ((md_turn ((md_turn dd nw cs 0 5 3 0).2.1) nw ((md_turn dd nw cs 0 5 3 0).2.2) 0 5 0 1).2.2) 4 5 1 0).2.1, (md_turn ((md_turn ((md_turn dd nw cs 0 5 3 0).2.1) nw ((md_turn dd nw cs 0 5 3 0).2.2) 0 5 0 1).2.1) nw ((md_turn ((md_turn dd nw cs 0 5 3 0).2.1) nw ((md_turn dd nw cs 0 5 3 0).2.2) 0 5 0 1).2.2) 4 5 1 0).2.2)
          else
            ((md_turn ((md_turn ((md_turn dd nw cs 0 5 3 0).2.1) nw ((md_turn dd nw cs 0 5 3 0).2.2) 0 5 0 1).2.1) nw ((md_turn ((md_turn dd nw cs 0 5 3 0).2.1) nw ((md_turn dd nw cs 0 5 3 0).2.2) 0 5 0 1).2.2) 4 5 1 0).2.1, (md_turn ((md_turn ((md_turn dd nw cs 0 5 3 0).2.1) nw ((md_turn dd nw cs 0 5 3 0).2.2) 0 5 0 1).2.1) nw ((md_turn ((md_turn dd nw cs 0 5 3 0).2.1) nw ((md_turn dd nw cs 0 5 3 0).2.2) 0 5 0 1).2.2) 4 5 1 0).2.2)
        else
          if x = 3 then
            if md_some ((md_turn ((md_turn dd nw cs 0 5 3 0).2.1) nw ((md_turn dd nw cs 0 5 3 0).2.2) 0 5 0 1).2.1) 0 = 0 then
              ((md_turn ((md_turn ((md_turn dd nw cs 0 5 3 0).2.1) nw ((md_turn dd nw cs 0 5 3 0).2.2) 0 5 0 1).2.1) nw ((md_turn ((md_turn dd nw cs 0 5 3 0).2.1) nw ((md_turn dd nw cs 0 5 3 0).2.2) 0 5 0 1).2.2) 0 5 3 2).2.1, (md_turn ((md_turn ((md_turn dd nw cs 0 5 3 0).2.1) nw ((md_turn dd nw cs 0 5 3 0).2.2) 0 5 0 1).2.1) nw ((md_turn ((md_turn dd nw cs 0 5 3 0).2.1) nw ((md_turn dd nw cs 0 5 3 0).2.2) 0 5 0 1).2.2) 0 5 3 2).2.2)
            else
              ((md_turn ((md_turn dd nw cs 0 5 3 0).2.1) nw ((md_turn dd nw cs 0 5 3 0).2.2) 0 5 0 1).2.1, (md_turn ((md_turn dd nw cs 0 5 3 0).2.1) nw ((md_turn dd nw cs 0 5 3 0).2.2) 0 5 0 1).2.2)
          else
            ((md_turn ((md_turn dd nw cs 0 5 3 0).2.1) nw ((md_turn dd nw cs 0 5 3 0).2.2) 0 5 0 1).2.1, (md_turn ((md_turn dd nw cs 0 5 3 0).2.1) nw ((md_turn dd nw cs 0 5 3 0).2.2) 0 5 0 1).2.2)
      else
        if x = 2 then
          if x = 3 then
            ((md_turn ((md_turn dd nw cs 0 5 3 0).2.1) nw ((md_turn dd nw cs 0 5 3 0).2.2) 4 5 1 0).2.1, (md_turn ((md_turn dd nw cs 0 5 3 0).2.1) nw ((md_turn dd nw cs 0 5 3 0).2.2) 4 5 1 0).2.2)
          else
            ((md_turn ((md_turn dd nw cs 0 5 3 0).2.1) nw ((md_turn dd nw cs 0 5 3 0).2.2) 4 5 1 0).2.1, (md_turn ((md_turn dd nw cs 0 5 3 0).2.1) nw ((md_turn dd nw cs 0 5 3 0).2.2) 4 5 1 0).2.2)
        else
          if x = 3 then
            ((md_turn dd nw cs 0 5 3 0).2.1, (md_turn dd nw cs 0 5 3 0).2.2)
          else
            ((md_turn dd nw cs 0 5 3 0).2.1, (md_turn dd nw cs 0 5 3 0).2.2)
    else
      if x = 2 then
        if x = 3 then
          if cr = 0 then
            if md_some ((md_turn ((md_turn dd nw cs 0 5 3 0).2.1) nw ((md_turn dd nw cs 0 5 3 0).2.2) 4 5 1 0).2.1) 0 = 0 then
              ((md_turn ((md_turn ((md_turn dd nw cs 0 5 3 0).2.1) nw ((md_turn dd nw cs 0 5 3 0).2.2) 4 5 1 0).2.1) nw ((md_turn ((md_turn dd nw cs 0 5 3 0).2.1) nw ((md_turn dd nw cs 0 5 3 0).2.2) 4 5 1 0).2.2) 0 5 3 2).2.1, (md_turn ((md_turn ((md_turn dd nw cs 0 5 3 0).2.1) nw ((md_turn dd nw cs 0 5 3 0).2.2) 4 5 1 0).2.1) nw ((md_turn ((md_turn dd nw cs 0 5 3 0).2.1) nw ((md_turn dd nw cs 0 5 3 0).2.2) 4 5 1 0).2.2) 0 5 3 2).2.2)
            else
              ((md_turn ((md_turn dd nw cs 0 5 3 0).2.1) nw ((md_turn dd nw cs 0 5 3 0).2.2) 4 5 1 0).2.1, (md_turn ((md_turn dd nw cs 0 5 3 0).2.1) nw ((md_turn dd nw cs 0 5 3 0).2.2) 4 5 1 0).2.2)
          else
            ((md_turn ((md_turn dd nw cs 0 5 3 0).2.1) nw ((md_turn dd nw cs 0 5 3 0).2.2) 4 5 1 0).2.1, (md_turn ((md_turn dd nw cs 0 5 3 0).2.1) nw ((md_turn dd nw cs 0 5 3 0).2.2) 4 5 1 0).2.2)
        else
          ((md_turn ((md_turn dd nw cs 0 5 3 0).2.1) nw ((md_turn dd nw cs 0 5 3 0).2.2) 4 5 1 0).2.1, (md_turn ((md_turn dd nw cs 0 5 3 0).2.1) nw ((md_turn dd nw cs 0 5 3 0).2.2) 4 5 1 0).2.2)
      else
        if x = 3 then
          if cr = 0 then
            if md_some ((md_turn dd nw cs 0 5 3 0).2.1) 0 = 0 then
              ((md_turn ((md_turn dd nw cs 0 5 3 0).2.1) nw ((md_turn dd nw cs 0 5 3 0).2.2) 0 5 3 2).2.1, (md_turn ((md_turn dd nw cs 0 5 3 0).2.1) nw ((md_turn dd nw cs 0 5 3 0).2.2) 0 5 3 2).2.2)
            else
              ((md_turn dd nw cs 0 5 3 0).2.1, (md_turn dd nw cs 0 5 3 0).2.2)
          else
            ((md_turn dd nw cs 0 5 3 0).2.1, (md_turn dd nw cs 0 5 3 0).2.2)
        else
          ((md_turn dd nw cs 0 5 3 0).2.1, (md_turn dd nw cs 0 5 3 0).2.2)
  else
    if x = 1 then
      if cr = 0 then
        if x = 2 then
          if x = 3 then
            if md_some ((md_turn ((md_turn dd nw cs 0 5 0 1).2.1) nw ((md_turn dd nw cs 0 5 0 1).2.2) 4 5 1 0).2.1) 0 = 0 then
              ((md_turn ((md_turn ((md_turn dd nw cs 0 5 0 1).2.1) nw ((md_turn dd nw cs 0 5 0 1).2.2) 4 5 1 0).2.1) nw ((md_turn ((md_turn dd nw cs 0 5 0 1).2.1) nw ((md_turn dd nw cs 0 5 0 1).2.2) 4 5 1 0).2.2) 0 5 3 2).2.1, (md_turn ((md_turn ((md_turn dd nw cs 0 5 0 1).2.1) nw ((md_turn dd nw cs 0 5 0 1).2.2) 4 5 1 0).2.1) nw ((md_turn ((md_turn dd nw cs 0 5 0 1).2.1) nw ((md_turn dd nw cs 0 5 0 1).2.2) 4 5 1 0).2.2) 0 5 3 2).2.2)
            else
              ((md_turn ((md_turn dd nw cs 0 5 0 1).2.1) nw ((md_turn dd nw cs 0 5 0 1).2.2) 4 5 1 0).2.1, (md_turn ((md_turn dd nw cs 0 5 0 1).2.1) nw ((md_turn dd nw cs 0 5 0 1).2.2) 4 5 1 0).2.2)
          else
            ((md_turn ((md_turn dd nw cs 0 5 0 1).2.1) nw ((md_turn dd nw cs 0 5 0 1).2.2) 4 5 1 0).2.1, (md_turn ((md_turn dd nw cs 0 5 0 1).2.1) nw ((md_turn dd nw cs 0 5 0 1).2.2) 4 5 1 0).2.2)
        else
          if x = 3 then
            if md_some ((md_turn dd nw cs 0 5 0 1).2.1) 0 = 0 then
              ((md_turn ((md_turn dd nw cs 0 5 0 1).2.1) nw ((md_turn dd nw cs 0 5 0 1).2.2) 0 5 3 2).2.1, (md_turn ((md_turn dd nw cs 0 5 0 1).2.1) nw ((md_turn dd nw cs 0 5 0 1).2.2) 0 5 3 2).2.2)
            else
              ((md_turn dd nw cs 0 5 0 1).2.1, (md_turn dd nw cs 0 5 0 1).2.2)
          else
            ((md_turn dd nw cs 0 5 0 1).2.1, (md_turn dd nw cs 0 5 0 1).2.2)
      else
        if x = 2 then
          if x = 3 then
            ((md_turn dd nw cs 4 5 1 0).2.1, (md_turn dd nw cs 4 5 1 0).2.2)
          else
            ((md_turn dd nw cs 4 5 1 0).2.1, (md_turn dd nw cs 4 5 1 0).2.2)
        else
          if x = 3 then
            (dd, cs)
          else
            (dd, cs)
    else
      if x = 2 then
        if x = 3 then
          if cr = 0 then
            if md_some ((md_turn dd nw cs 4 5 1 0).2.1) 0 = 0 then
              ((md_turn ((md_turn dd nw cs 4 5 1 0).2.1) nw ((md_turn dd nw cs 4 5 1 0).2.2) 0 5 3 2).2.1, (md_turn ((md_turn dd nw cs 4 5 1 0).2.1) nw ((md_turn dd nw cs 4 5 1 0).2.2) 0 5 3 2).2.2)
            else
              ((md_turn dd nw cs 4 5 1 0).2.1, (md_turn dd nw cs 4 5 1 0).2.2)
          else
            ((md_turn dd nw cs 4 5 1 0).2.1, (md_turn dd nw cs 4 5 1 0).2.2)
        else
          ((md_turn dd nw cs 4 5 1 0).2.1, (md_turn dd nw cs 4 5 1 0).2.2)
      else
        if x = 3 then
          if cr = 0 then
            if md_some dd 0 = 0 then
              ((md_turn dd nw cs 0 5 3 2).2.1, (md_turn dd nw cs 0 5 3 2).2.2)
            else
              (dd, cs)
          else
            (dd, cs)
        else
          (dd, cs)
def rm_X4_command : Room := { frames := 2, cells := 0, slots := 0, locals := 50 }
set_option maxHeartbeats 4000000 in
set_option maxRecDepth 100000 in
theorem c_X4_command (l : Launch) (dC : Nat → ClassId) (dI : Nat → Nat → Nat) (cI : ClassId) (cJ : ClassId) (cZ : ClassId) (q : Nat) (aS : Nat) (aC : Nat) (aW : Nat) (aL : Nat) (aN : Nat) (aI : Nat) (aB : Nat) (aD : Nat) (aU : Nat) (aF : Nat) (n : Nat) (gv : Nat) (sz : Nat) (cd : Int32) (sp : Int32) (se : Nat → Int64) (ct : Nat → Int32) (aw : Nat → Int32) (le : Nat → Int32) (ne : Nat → Int32) (ins : Nat → Int32) (ba : Nat → Int32) (dd : Nat → Int32) (cr : Int32) (nw : Int64) (cs : Int64) (un : Nat → Int32) (fr : Nat → Int32) (rl : Int32) (qs : Int32) (x : Int32) : Met l yX4_command wsX4_command rm_X4_command (up_P (dC, dI) vwCl (mdT cI cJ cZ) (mdW cI cJ cZ q aS aC aW aL aN aI aB aD aU aF n gv sz cd sp se ct aw le ne ins ba dd cr nw cs un fr rl qs) [.ref q, .int x]) (up_Q (dC, dI) vwCl none (mdW cI cJ cZ q aS aC aW aL aN aI aB aD aU aF n gv sz cd sp se ct aw le ne ins ba dd cr nw cs un fr rl qs) (mdW cI cJ cZ q aS aC aW aL aN aI aB aD aU aF n gv sz cd sp se ct aw le ne ins ba ((md_command dd cr nw cs x).1) cr nw ((md_command dd cr nw cs x).2) un fr rl qs)) 0 0 (up_c (mdW cI cJ cZ q aS aC aW aL aN aI aB aD aU aF n gv sz cd sp se ct aw le ne ins ba dd cr nw cs un fr rl qs)) := by
  refine Met.ofW (cc := cX4_command) (maxL := 3) (ret := none) (by decide) rfl ?_
  intro p e s m args below meth c s₁ B hml hv
  obtain ⟨rfl, hP, hK, hD0⟩ := hv
  have hx := B.exec
  have hb := B.bytes
  have hr := B.returns
  have hts := atoms_spec (ws := wsX4_command) B.pre
  have hown : s.vm.findClass RX4 = some m.cls := findClass_of_methodNamed B.named
  have hlocks := B.notSynchronized
  have hD := up_self hD0
  have hS : va_S (up_c (mdW cI cJ cZ q aS aC aW aL aN aI aB aD aU aF n gv sz cd sp se ct aw le ne ins ba dd cr nw cs un fr rl qs)) s.heap s.heap [] := va_S.rf
  have hl := lv_entry ([.ref q, .int x]) (n := 3) (Nat.le_of_ble_eq_true rfl)
  rw [lg_entry_eq]
  generalize (lg_sl ([.ref q, .int x]) ++ List.replicate (3 - (lg_sl ([.ref q, .int x])).length) Slot.unset).toArray = ls at hl ⊢
  have hl : lv_has ls 3 [(0, .ref q), (1, .int x)] := hl
  refine lv_iconst (v := 0) hx hb dX4_command_0 (by decide) ?_
  refine lv_istore_n (lv' := [(2, .int 0), (0, .ref q), (1, .int x)]) hx hb dX4_command_1 rfl hl (by decide) rfl (fun ls hl => ?_)
  refine lv_iload_n hx hb dX4_command_2 rfl (lv_at hl 2 rfl) ?_
  refine lv_if_ne (tgt := 15) hx hb dX4_command_3 (by decide) (fun c_3 => ?_) (fun c_3 => ?_)
  · refine lv_iload_n hx hb dX4_command_15 rfl (lv_at hl 2 rfl) ?_
    refine lv_iconst (v := 1) hx hb dX4_command_16 (by decide) ?_
    refine lv_icmp_ne (tgt := 36) hx hb dX4_command_17 (by decide) (fun c_17 => ?_) (fun c_17 => ?_)
    · refine lv_iload_n hx hb dX4_command_36 rfl (lv_at hl 2 rfl) ?_
      refine lv_iconst (v := 2) hx hb dX4_command_37 (by decide) ?_
      refine lv_icmp_ne (tgt := 50) hx hb dX4_command_38 (by decide) (fun c_38 => ?_) (fun c_38 => ?_)
      · refine lv_iload_n hx hb dX4_command_50 rfl (lv_at hl 2 rfl) ?_
        refine lv_iconst (v := 3) hx hb dX4_command_51 (by decide) ?_
        refine lv_icmp_ne (tgt := 79) hx hb dX4_command_52 (by decide) (fun c_52 => ?_) (fun c_52 => ?_)
        · have e_ : md_command dd cr nw cs x = (dd, cs) := by unfold md_command; exact (if_neg c_3).trans ((if_neg c_17).trans ((if_neg c_38).trans ((if_neg c_52).trans rfl)))
          rw [e_]
          exact W.vret hx hb hr (fun t ht hW => ⟨rfl, by rw [ht]; exact hP, hS.F ht⟩) hS.2.2 dX4_command_79
        · refine lv_aload_n hx hb dX4_command_55 rfl (lv_at hl 1 rfl) ?_
          refine va_get (D := (dC, dI)) (ci := 5) (v := .int cr) (C := RX4) (T := TX4) (N := 20) hx hb hts inn_X4_command_X4 hown hK hP 0 rfl rfl 11 (by decide) (hts (.fieldLink RX4 75 "DoorKeysModel" "crashed" "Z") (by decide +kernel)) (fun _ h9 => h9) rfl dX4_command_56 ?_
          refine lv_if_ne (tgt := 79) hx hb dX4_command_59 (by decide) (fun c_59 => ?_) (fun c_59 => ?_)
          · have e_ : md_command dd cr nw cs x = (dd, cs) := by unfold md_command; exact (if_neg c_3).trans ((if_neg c_17).trans ((if_neg c_38).trans ((if_pos c_52).trans ((if_neg c_59).trans rfl))))
            rw [e_]
            exact W.vret hx hb hr (fun t ht hW => ⟨rfl, by rw [ht]; exact hP, hS.F ht⟩) hS.2.2 dX4_command_79
          · refine lv_aload_n hx hb dX4_command_62 rfl (lv_at hl 1 rfl) ?_
            refine lv_iconst (v := 0) hx hb dX4_command_63 (by decide) ?_
            refine up_read (W.runV (As := [.int 0]) (rest := []) ⟨hx, hb, hml, hown, hts⟩ (c_X4_some l dC dI cI cJ cZ q aS aC aW aL aN aI aB aD aU aF n gv sz cd sp se ct aw le ne ins ba dd cr nw cs un fr rl qs 0) (cwV 1 hts gX4_command_X4_some rfl rfl rfl (by decide +kernel) ⟨Nat.le_of_ble_eq_true rfl, Nat.le_of_ble_eq_true rfl⟩) (up_preV (q0 := 0) (ci := 5) hP hK hD rfl rfl) rfl rfl hl.1 rfl (lv_room (Nat.le_of_ble_eq_true rfl)) dX4_command_64 ⟨Nat.le_of_ble_eq_true rfl, Nat.le_of_ble_eq_true rfl⟩) ?_
            refine lv_if_ne (tgt := 79) hx hb dX4_command_67 (by decide) (fun c_67 => ?_) (fun c_67 => ?_)
            · have e_ : md_command dd cr nw cs x = (dd, cs) := by unfold md_command; exact (if_neg c_3).trans ((if_neg c_17).trans ((if_neg c_38).trans ((if_pos c_52).trans ((if_pos c_59).trans ((if_neg c_67).trans rfl)))))
              rw [e_]
              exact W.vret hx hb hr (fun t ht hW => ⟨rfl, by rw [ht]; exact hP, hS.F ht⟩) hS.2.2 dX4_command_79
            · refine lv_aload_n hx hb dX4_command_70 rfl (lv_at hl 1 rfl) ?_
              refine lv_iconst (v := 0) hx hb dX4_command_71 (by decide) ?_
              refine lv_iconst (v := 5) hx hb dX4_command_72 (by decide) ?_
              refine lv_iconst (v := 3) hx hb dX4_command_73 (by decide) ?_
              refine lv_iconst (v := 2) hx hb dX4_command_74 (by decide) ?_
              refine up_call (W.runV (As := [.int 0, .int 5, .int 3, .int 2]) (rest := []) ⟨hx, hb, hml, hown, hts⟩ (c_X4_turn l dC dI cI cJ cZ q aS aC aW aL aN aI aB aD aU aF n gv sz cd sp se ct aw le ne ins ba dd cr nw cs un fr rl qs 0 5 3 2 (by decide) (by decide)) (cwV 4 hts gX4_command_X4_turn rfl rfl rfl (by decide +kernel) ⟨Nat.le_of_ble_eq_true rfl, Nat.le_of_ble_eq_true rfl⟩) (up_preV (q0 := 0) (ci := 5) hP hK hD rfl rfl) rfl rfl hl.1 rfl (lv_room (Nat.le_of_ble_eq_true rfl)) dX4_command_75 ⟨Nat.le_of_ble_eq_true rfl, Nat.le_of_ble_eq_true rfl⟩) hD hS ((md_fst ..).trans (md_fst ..).symm) (fun H locs hP hD hS _ _ => ?_)
              have hP : va_P (dC, dI) vwCl (mdW cI cJ cZ q aS aC aW aL aN aI aB aD aU aF n gv sz cd sp se ct aw le ne ins ba ((md_turn dd nw cs 0 5 3 2).2.1) cr nw ((md_turn dd nw cs 0 5 3 2).2.2) un fr rl qs) H := hP
              have hD : va_D (up_c (mdW cI cJ cZ q aS aC aW aL aN aI aB aD aU aF n gv sz cd sp se ct aw le ne ins ba dd cr nw cs un fr rl qs)) (mdW cI cJ cZ q aS aC aW aL aN aI aB aD aU aF n gv sz cd sp se ct aw le ne ins ba ((md_turn dd nw cs 0 5 3 2).2.1) cr nw ((md_turn dd nw cs 0 5 3 2).2.2) un fr rl qs) := hD
              refine lv_istore_n (lv' := [(2, .int ((md_turn dd nw cs 0 5 3 2).1)), (0, .ref q), (1, .int x)]) hx hb dX4_command_78 rfl hl (by decide) rfl (fun ls hl => ?_)
              have e_ : md_command dd cr nw cs x = ((md_turn dd nw cs 0 5 3 2).2.1, (md_turn dd nw cs 0 5 3 2).2.2) := by unfold md_command; exact (if_neg c_3).trans ((if_neg c_17).trans ((if_neg c_38).trans ((if_pos c_52).trans ((if_pos c_59).trans ((if_pos c_67).trans rfl)))))
              rw [e_]
              exact W.vret hx hb hr (fun t ht hW => ⟨rfl, by rw [ht]; exact hP, hS.F ht⟩) hS.2.2 dX4_command_79
      · refine lv_aload_n hx hb dX4_command_41 rfl (lv_at hl 1 rfl) ?_
        refine lv_iconst (v := 4) hx hb dX4_command_42 (by decide) ?_
        refine lv_iconst (v := 5) hx hb dX4_command_43 (by decide) ?_
        refine lv_iconst (v := 1) hx hb dX4_command_44 (by decide) ?_
        refine lv_iconst (v := 0) hx hb dX4_command_45 (by decide) ?_
        refine up_call (W.runV (As := [.int 4, .int 5, .int 1, .int 0]) (rest := []) ⟨hx, hb, hml, hown, hts⟩ (c_X4_turn l dC dI cI cJ cZ q aS aC aW aL aN aI aB aD aU aF n gv sz cd sp se ct aw le ne ins ba dd cr nw cs un fr rl qs 4 5 1 0 (by decide) (by decide)) (cwV 4 hts gX4_command_X4_turn rfl rfl rfl (by decide +kernel) ⟨Nat.le_of_ble_eq_true rfl, Nat.le_of_ble_eq_true rfl⟩) (up_preV (q0 := 0) (ci := 5) hP hK hD rfl rfl) rfl rfl hl.1 rfl (lv_room (Nat.le_of_ble_eq_true rfl)) dX4_command_46 ⟨Nat.le_of_ble_eq_true rfl, Nat.le_of_ble_eq_true rfl⟩) hD hS ((md_fst ..).trans (md_fst ..).symm) (fun H locs hP hD hS _ _ => ?_)
        have hP : va_P (dC, dI) vwCl (mdW cI cJ cZ q aS aC aW aL aN aI aB aD aU aF n gv sz cd sp se ct aw le ne ins ba ((md_turn dd nw cs 4 5 1 0).2.1) cr nw ((md_turn dd nw cs 4 5 1 0).2.2) un fr rl qs) H := hP
        have hD : va_D (up_c (mdW cI cJ cZ q aS aC aW aL aN aI aB aD aU aF n gv sz cd sp se ct aw le ne ins ba dd cr nw cs un fr rl qs)) (mdW cI cJ cZ q aS aC aW aL aN aI aB aD aU aF n gv sz cd sp se ct aw le ne ins ba ((md_turn dd nw cs 4 5 1 0).2.1) cr nw ((md_turn dd nw cs 4 5 1 0).2.2) un fr rl qs) := hD
        refine lv_istore_n (lv' := [(2, .int ((md_turn dd nw cs 4 5 1 0).1)), (0, .ref q), (1, .int x)]) hx hb dX4_command_49 rfl hl (by decide) rfl (fun ls hl => ?_)
        refine lv_iload_n hx hb dX4_command_50 rfl (lv_at hl 2 rfl) ?_
        refine lv_iconst (v := 3) hx hb dX4_command_51 (by decide) ?_
        refine lv_icmp_ne (tgt := 79) hx hb dX4_command_52 (by decide) (fun c_52 => ?_) (fun c_52 => ?_)
        · have e_ : md_command dd cr nw cs x = ((md_turn dd nw cs 4 5 1 0).2.1, (md_turn dd nw cs 4 5 1 0).2.2) := by unfold md_command; exact (if_neg c_3).trans ((if_neg c_17).trans ((if_pos c_38).trans ((if_neg c_52).trans rfl)))
          rw [e_]
          exact W.vret hx hb hr (fun t ht hW => ⟨rfl, by rw [ht]; exact hP, hS.F ht⟩) hS.2.2 dX4_command_79
        · refine lv_aload_n hx hb dX4_command_55 rfl (lv_at hl 1 rfl) ?_
          refine va_get (D := (dC, dI)) (ci := 5) (v := .int cr) (C := RX4) (T := TX4) (N := 20) hx hb hts inn_X4_command_X4 hown hK hP 0 rfl rfl 11 (by decide) (hts (.fieldLink RX4 75 "DoorKeysModel" "crashed" "Z") (by decide +kernel)) (fun _ h9 => h9) rfl dX4_command_56 ?_
          refine lv_if_ne (tgt := 79) hx hb dX4_command_59 (by decide) (fun c_59 => ?_) (fun c_59 => ?_)
          · have e_ : md_command dd cr nw cs x = ((md_turn dd nw cs 4 5 1 0).2.1, (md_turn dd nw cs 4 5 1 0).2.2) := by unfold md_command; exact (if_neg c_3).trans ((if_neg c_17).trans ((if_pos c_38).trans ((if_pos c_52).trans ((if_neg c_59).trans rfl))))
            rw [e_]
            exact W.vret hx hb hr (fun t ht hW => ⟨rfl, by rw [ht]; exact hP, hS.F ht⟩) hS.2.2 dX4_command_79
          · refine lv_aload_n hx hb dX4_command_62 rfl (lv_at hl 1 rfl) ?_
            refine lv_iconst (v := 0) hx hb dX4_command_63 (by decide) ?_
            refine up_read (W.runV (As := [.int 0]) (rest := []) ⟨hx, hb, hml, hown, hts⟩ (c_X4_some l dC dI cI cJ cZ q aS aC aW aL aN aI aB aD aU aF n gv sz cd sp se ct aw le ne ins ba ((md_turn dd nw cs 4 5 1 0).2.1) cr nw ((md_turn dd nw cs 4 5 1 0).2.2) un fr rl qs 0) (cwV 1 hts gX4_command_X4_some rfl rfl rfl (by decide +kernel) ⟨Nat.le_of_ble_eq_true rfl, Nat.le_of_ble_eq_true rfl⟩) (up_preV (q0 := 0) (ci := 5) hP hK hD rfl rfl) rfl rfl hl.1 rfl (lv_room (Nat.le_of_ble_eq_true rfl)) dX4_command_64 ⟨Nat.le_of_ble_eq_true rfl, Nat.le_of_ble_eq_true rfl⟩) ?_
            refine lv_if_ne (tgt := 79) hx hb dX4_command_67 (by decide) (fun c_67 => ?_) (fun c_67 => ?_)
            · have e_ : md_command dd cr nw cs x = ((md_turn dd nw cs 4 5 1 0).2.1, (md_turn dd nw cs 4 5 1 0).2.2) := by unfold md_command; exact (if_neg c_3).trans ((if_neg c_17).trans ((if_pos c_38).trans ((if_pos c_52).trans ((if_pos c_59).trans ((if_neg c_67).trans rfl)))))
              rw [e_]
              exact W.vret hx hb hr (fun t ht hW => ⟨rfl, by rw [ht]; exact hP, hS.F ht⟩) hS.2.2 dX4_command_79
            · refine lv_aload_n hx hb dX4_command_70 rfl (lv_at hl 1 rfl) ?_
              refine lv_iconst (v := 0) hx hb dX4_command_71 (by decide) ?_
              refine lv_iconst (v := 5) hx hb dX4_command_72 (by decide) ?_
              refine lv_iconst (v := 3) hx hb dX4_command_73 (by decide) ?_
              refine lv_iconst (v := 2) hx hb dX4_command_74 (by decide) ?_
              refine up_call (W.runV (As := [.int 0, .int 5, .int 3, .int 2]) (rest := []) ⟨hx, hb, hml, hown, hts⟩ (c_X4_turn l dC dI cI cJ cZ q aS aC aW aL aN aI aB aD aU aF n gv sz cd sp se ct aw le ne ins ba ((md_turn dd nw cs 4 5 1 0).2.1) cr nw ((md_turn dd nw cs 4 5 1 0).2.2) un fr rl qs 0 5 3 2 (by decide) (by decide)) (cwV 4 hts gX4_command_X4_turn rfl rfl rfl (by decide +kernel) ⟨Nat.le_of_ble_eq_true rfl, Nat.le_of_ble_eq_true rfl⟩) (up_preV (q0 := 0) (ci := 5) hP hK hD rfl rfl) rfl rfl hl.1 rfl (lv_room (Nat.le_of_ble_eq_true rfl)) dX4_command_75 ⟨Nat.le_of_ble_eq_true rfl, Nat.le_of_ble_eq_true rfl⟩) hD hS ((md_fst ..).trans (md_fst ..).symm) (fun H locs hP hD hS _ _ => ?_)
              have hP : va_P (dC, dI) vwCl (mdW cI cJ cZ q aS aC aW aL aN aI aB aD aU aF n gv sz cd sp se ct aw le ne ins ba ((md_turn ((md_turn dd nw cs 4 5 1 0).2.1) nw ((md_turn dd nw cs 4 5 1 0).2.2) 0 5 3 2).2.1) cr nw ((md_turn ((md_turn dd nw cs 4 5 1 0).2.1) nw ((md_turn dd nw cs 4 5 1 0).2.2) 0 5 3 2).2.2) un fr rl qs) H := hP
              have hD : va_D (up_c (mdW cI cJ cZ q aS aC aW aL aN aI aB aD aU aF n gv sz cd sp se ct aw le ne ins ba dd cr nw cs un fr rl qs)) (mdW cI cJ cZ q aS aC aW aL aN aI aB aD aU aF n gv sz cd sp se ct aw le ne ins ba ((md_turn ((md_turn dd nw cs 4 5 1 0).2.1) nw ((md_turn dd nw cs 4 5 1 0).2.2) 0 5 3 2).2.1) cr nw ((md_turn ((md_turn dd nw cs 4 5 1 0).2.1) nw ((md_turn dd nw cs 4 5 1 0).2.2) 0 5 3 2).2.2) un fr rl qs) := hD
              refine lv_istore_n (lv' := [(2, .int ((md_turn ((md_turn dd nw cs 4 5 1 0).2.1) nw ((md_turn dd nw cs 4 5 1 0).2.2) 0 5 3 2).1)), (0, .ref q), (1, .int x)]) hx hb dX4_command_78 rfl hl (by decide) rfl (fun ls hl => ?_)
              have e_ : md_command dd cr nw cs x = ((md_turn ((md_turn dd nw cs 4 5 1 0).2.1) nw ((md_turn dd nw cs 4 5 1 0).2.2) 0 5 3 2).2.1, (md_turn ((md_turn dd nw cs 4 5 1 0).2.1) nw ((md_turn dd nw cs 4 5 1 0).2.2) 0 5 3 2).2.2) := by unfold md_command; exact (if_neg c_3).trans ((if_neg c_17).trans ((if_pos c_38).trans ((if_pos c_52).trans ((if_pos c_59).trans ((if_pos c_67).trans rfl)))))
              rw [e_]
              exact W.vret hx hb hr (fun t ht hW => ⟨rfl, by rw [ht]; exact hP, hS.F ht⟩) hS.2.2 dX4_command_79
    · refine lv_aload_n hx hb dX4_command_20 rfl (lv_at hl 1 rfl) ?_
      refine va_get (D := (dC, dI)) (ci := 5) (v := .int cr) (C := RX4) (T := TX4) (N := 20) hx hb hts inn_X4_command_X4 hown hK hP 0 rfl rfl 11 (by decide) (hts (.fieldLink RX4 75 "DoorKeysModel" "crashed" "Z") (by decide +kernel)) (fun _ h9 => h9) rfl dX4_command_21 ?_
      refine lv_if_ne (tgt := 36) hx hb dX4_command_24 (by decide) (fun c_24 => ?_) (fun c_24 => ?_)
      · refine lv_iload_n hx hb dX4_command_36 rfl (lv_at hl 2 rfl) ?_
        refine lv_iconst (v := 2) hx hb dX4_command_37 (by decide) ?_
        refine lv_icmp_ne (tgt := 50) hx hb dX4_command_38 (by decide) (fun c_38 => ?_) (fun c_38 => ?_)
        · refine lv_iload_n hx hb dX4_command_50 rfl (lv_at hl 2 rfl) ?_
          refine lv_iconst (v := 3) hx hb dX4_command_51 (by decide) ?_
          refine lv_icmp_ne (tgt := 79) hx hb dX4_command_52 (by decide) (fun c_52 => ?_) (fun c_52 => ?_)
          · have e_ : md_command dd cr nw cs x = (dd, cs) := by unfold md_command; exact (if_neg c_3).trans ((if_pos c_17).trans ((if_neg c_24).trans ((if_neg c_38).trans ((if_neg c_52).trans rfl))))
            rw [e_]
            exact W.vret hx hb hr (fun t ht hW => ⟨rfl, by rw [ht]; exact hP, hS.F ht⟩) hS.2.2 dX4_command_79
          · refine lv_aload_n hx hb dX4_command_55 rfl (lv_at hl 1 rfl) ?_
            refine va_get (D := (dC, dI)) (ci := 5) (v := .int cr) (C := RX4) (T := TX4) (N := 20) hx hb hts inn_X4_command_X4 hown hK hP 0 rfl rfl 11 (by decide) (hts (.fieldLink RX4 75 "DoorKeysModel" "crashed" "Z") (by decide +kernel)) (fun _ h9 => h9) rfl dX4_command_56 ?_
            refine lv_if_ne (tgt := 79) hx hb dX4_command_59 (by decide) (fun c_59 => ?_) (fun c_59 => absurd c_59 c_24)
            have e_ : md_command dd cr nw cs x = (dd, cs) := by unfold md_command; exact (if_neg c_3).trans ((if_pos c_17).trans ((if_neg c_24).trans ((if_neg c_38).trans ((if_pos c_52).trans rfl))))
            rw [e_]
            exact W.vret hx hb hr (fun t ht hW => ⟨rfl, by rw [ht]; exact hP, hS.F ht⟩) hS.2.2 dX4_command_79
        · refine lv_aload_n hx hb dX4_command_41 rfl (lv_at hl 1 rfl) ?_
          refine lv_iconst (v := 4) hx hb dX4_command_42 (by decide) ?_
          refine lv_iconst (v := 5) hx hb dX4_command_43 (by decide) ?_
          refine lv_iconst (v := 1) hx hb dX4_command_44 (by decide) ?_
          refine lv_iconst (v := 0) hx hb dX4_command_45 (by decide) ?_
          refine up_call (W.runV (As := [.int 4, .int 5, .int 1, .int 0]) (rest := []) ⟨hx, hb, hml, hown, hts⟩ (c_X4_turn l dC dI cI cJ cZ q aS aC aW aL aN aI aB aD aU aF n gv sz cd sp se ct aw le ne ins ba dd cr nw cs un fr rl qs 4 5 1 0 (by decide) (by decide)) (cwV 4 hts gX4_command_X4_turn rfl rfl rfl (by decide +kernel) ⟨Nat.le_of_ble_eq_true rfl, Nat.le_of_ble_eq_true rfl⟩) (up_preV (q0 := 0) (ci := 5) hP hK hD rfl rfl) rfl rfl hl.1 rfl (lv_room (Nat.le_of_ble_eq_true rfl)) dX4_command_46 ⟨Nat.le_of_ble_eq_true rfl, Nat.le_of_ble_eq_true rfl⟩) hD hS ((md_fst ..).trans (md_fst ..).symm) (fun H locs hP hD hS _ _ => ?_)
          have hP : va_P (dC, dI) vwCl (mdW cI cJ cZ q aS aC aW aL aN aI aB aD aU aF n gv sz cd sp se ct aw le ne ins ba ((md_turn dd nw cs 4 5 1 0).2.1) cr nw ((md_turn dd nw cs 4 5 1 0).2.2) un fr rl qs) H := hP
          have hD : va_D (up_c (mdW cI cJ cZ q aS aC aW aL aN aI aB aD aU aF n gv sz cd sp se ct aw le ne ins ba dd cr nw cs un fr rl qs)) (mdW cI cJ cZ q aS aC aW aL aN aI aB aD aU aF n gv sz cd sp se ct aw le ne ins ba ((md_turn dd nw cs 4 5 1 0).2.1) cr nw ((md_turn dd nw cs 4 5 1 0).2.2) un fr rl qs) := hD
          refine lv_istore_n (lv' := [(2, .int ((md_turn dd nw cs 4 5 1 0).1)), (0, .ref q), (1, .int x)]) hx hb dX4_command_49 rfl hl (by decide) rfl (fun ls hl => ?_)
          refine lv_iload_n hx hb dX4_command_50 rfl (lv_at hl 2 rfl) ?_
          refine lv_iconst (v := 3) hx hb dX4_command_51 (by decide) ?_
          refine lv_icmp_ne (tgt := 79) hx hb dX4_command_52 (by decide) (fun c_52 => ?_) (fun c_52 => ?_)
          · have e_ : md_command dd cr nw cs x = ((md_turn dd nw cs 4 5 1 0).2.1, (md_turn dd nw cs 4 5 1 0).2.2) := by unfold md_command; exact (if_neg c_3).trans ((if_pos c_17).trans ((if_neg c_24).trans ((if_pos c_38).trans ((if_neg c_52).trans rfl))))
            rw [e_]
            exact W.vret hx hb hr (fun t ht hW => ⟨rfl, by rw [ht]; exact hP, hS.F ht⟩) hS.2.2 dX4_command_79
          · refine lv_aload_n hx hb dX4_command_55 rfl (lv_at hl 1 rfl) ?_
            refine va_get (D := (dC, dI)) (ci := 5) (v := .int cr) (C := RX4) (T := TX4) (N := 20) hx hb hts inn_X4_command_X4 hown hK hP 0 rfl rfl 11 (by decide) (hts (.fieldLink RX4 75 "DoorKeysModel" "crashed" "Z") (by decide +kernel)) (fun _ h9 => h9) rfl dX4_command_56 ?_
            refine lv_if_ne (tgt := 79) hx hb dX4_command_59 (by decide) (fun c_59 => ?_) (fun c_59 => absurd c_59 c_24)
            have e_ : md_command dd cr nw cs x = ((md_turn dd nw cs 4 5 1 0).2.1, (md_turn dd nw cs 4 5 1 0).2.2) := by unfold md_command; exact (if_neg c_3).trans ((if_pos c_17).trans ((if_neg c_24).trans ((if_pos c_38).trans ((if_pos c_52).trans rfl))))
            rw [e_]
            exact W.vret hx hb hr (fun t ht hW => ⟨rfl, by rw [ht]; exact hP, hS.F ht⟩) hS.2.2 dX4_command_79
      · refine lv_aload_n hx hb dX4_command_27 rfl (lv_at hl 1 rfl) ?_
        refine lv_iconst (v := 0) hx hb dX4_command_28 (by decide) ?_
        refine lv_iconst (v := 5) hx hb dX4_command_29 (by decide) ?_
        refine lv_iconst (v := 0) hx hb dX4_command_30 (by decide) ?_
        refine lv_iconst (v := 1) hx hb dX4_command_31 (by decide) ?_
        refine up_call (W.runV (As := [.int 0, .int 5, .int 0, .int 1]) (rest := []) ⟨hx, hb, hml, hown, hts⟩ (c_X4_turn l dC dI cI cJ cZ q aS aC aW aL aN aI aB aD aU aF n gv sz cd sp se ct aw le ne ins ba dd cr nw cs un fr rl qs 0 5 0 1 (by decide) (by decide)) (cwV 4 hts gX4_command_X4_turn rfl rfl rfl (by decide +kernel) ⟨Nat.le_of_ble_eq_true rfl, Nat.le_of_ble_eq_true rfl⟩) (up_preV (q0 := 0) (ci := 5) hP hK hD rfl rfl) rfl rfl hl.1 rfl (lv_room (Nat.le_of_ble_eq_true rfl)) dX4_command_32 ⟨Nat.le_of_ble_eq_true rfl, Nat.le_of_ble_eq_true rfl⟩) hD hS ((md_fst ..).trans (md_fst ..).symm) (fun H locs hP hD hS _ _ => ?_)
        have hP : va_P (dC, dI) vwCl (mdW cI cJ cZ q aS aC aW aL aN aI aB aD aU aF n gv sz cd sp se ct aw le ne ins ba ((md_turn dd nw cs 0 5 0 1).2.1) cr nw ((md_turn dd nw cs 0 5 0 1).2.2) un fr rl qs) H := hP
        have hD : va_D (up_c (mdW cI cJ cZ q aS aC aW aL aN aI aB aD aU aF n gv sz cd sp se ct aw le ne ins ba dd cr nw cs un fr rl qs)) (mdW cI cJ cZ q aS aC aW aL aN aI aB aD aU aF n gv sz cd sp se ct aw le ne ins ba ((md_turn dd nw cs 0 5 0 1).2.1) cr nw ((md_turn dd nw cs 0 5 0 1).2.2) un fr rl qs) := hD
        refine lv_istore_n (lv' := [(2, .int ((md_turn dd nw cs 0 5 0 1).1)), (0, .ref q), (1, .int x)]) hx hb dX4_command_35 rfl hl (by decide) rfl (fun ls hl => ?_)
        refine lv_iload_n hx hb dX4_command_36 rfl (lv_at hl 2 rfl) ?_
        refine lv_iconst (v := 2) hx hb dX4_command_37 (by decide) ?_
        refine lv_icmp_ne (tgt := 50) hx hb dX4_command_38 (by decide) (fun c_38 => ?_) (fun c_38 => ?_)
        · refine lv_iload_n hx hb dX4_command_50 rfl (lv_at hl 2 rfl) ?_
          refine lv_iconst (v := 3) hx hb dX4_command_51 (by decide) ?_
          refine lv_icmp_ne (tgt := 79) hx hb dX4_command_52 (by decide) (fun c_52 => ?_) (fun c_52 => ?_)
          · have e_ : md_command dd cr nw cs x = ((md_turn dd nw cs 0 5 0 1).2.1, (md_turn dd nw cs 0 5 0 1).2.2) := by unfold md_command; exact (if_neg c_3).trans ((if_pos c_17).trans ((if_pos c_24).trans ((if_neg c_38).trans ((if_neg c_52).trans rfl))))
            rw [e_]
            exact W.vret hx hb hr (fun t ht hW => ⟨rfl, by rw [ht]; exact hP, hS.F ht⟩) hS.2.2 dX4_command_79
          · refine lv_aload_n hx hb dX4_command_55 rfl (lv_at hl 1 rfl) ?_
            refine va_get (D := (dC, dI)) (ci := 5) (v := .int cr) (C := RX4) (T := TX4) (N := 20) hx hb hts inn_X4_command_X4 hown hK hP 0 rfl rfl 11 (by decide) (hts (.fieldLink RX4 75 "DoorKeysModel" "crashed" "Z") (by decide +kernel)) (fun _ h9 => h9) rfl dX4_command_56 ?_
            refine lv_if_ne (tgt := 79) hx hb dX4_command_59 (by decide) (fun c_59 => absurd c_24 c_59) (fun c_59 => ?_)
            refine lv_aload_n hx hb dX4_command_62 rfl (lv_at hl 1 rfl) ?_
            refine lv_iconst (v := 0) hx hb dX4_command_63 (by decide) ?_
            refine up_read (W.runV (As := [.int 0]) (rest := []) ⟨hx, hb, hml, hown, hts⟩ (c_X4_some l dC dI cI cJ cZ q aS aC aW aL aN aI aB aD aU aF n gv sz cd sp se ct aw le ne ins ba ((md_turn dd nw cs 0 5 0 1).2.1) cr nw ((md_turn dd nw cs 0 5 0 1).2.2) un fr rl qs 0) (cwV 1 hts gX4_command_X4_some rfl rfl rfl (by decide +kernel) ⟨Nat.le_of_ble_eq_true rfl, Nat.le_of_ble_eq_true rfl⟩) (up_preV (q0 := 0) (ci := 5) hP hK hD rfl rfl) rfl rfl hl.1 rfl (lv_room (Nat.le_of_ble_eq_true rfl)) dX4_command_64 ⟨Nat.le_of_ble_eq_true rfl, Nat.le_of_ble_eq_true rfl⟩) ?_
            refine lv_if_ne (tgt := 79) hx hb dX4_command_67 (by decide) (fun c_67 => ?_) (fun c_67 => ?_)
            · have e_ : md_command dd cr nw cs x = ((md_turn dd nw cs 0 5 0 1).2.1, (md_turn dd nw cs 0 5 0 1).2.2) := by unfold md_command; exact (if_neg c_3).trans ((if_pos c_17).trans ((if_pos c_24).trans ((if_neg c_38).trans ((if_pos c_52).trans ((if_neg c_67).trans rfl)))))
              rw [e_]
              exact W.vret hx hb hr (fun t ht hW => ⟨rfl, by rw [ht]; exact hP, hS.F ht⟩) hS.2.2 dX4_command_79
            · refine lv_aload_n hx hb dX4_command_70 rfl (lv_at hl 1 rfl) ?_
              refine lv_iconst (v := 0) hx hb dX4_command_71 (by decide) ?_
              refine lv_iconst (v := 5) hx hb dX4_command_72 (by decide) ?_
              refine lv_iconst (v := 3) hx hb dX4_command_73 (by decide) ?_
              refine lv_iconst (v := 2) hx hb dX4_command_74 (by decide) ?_
              refine up_call (W.runV (As := [.int 0, .int 5, .int 3, .int 2]) (rest := []) ⟨hx, hb, hml, hown, hts⟩ (c_X4_turn l dC dI cI cJ cZ q aS aC aW aL aN aI aB aD aU aF n gv sz cd sp se ct aw le ne ins ba ((md_turn dd nw cs 0 5 0 1).2.1) cr nw ((md_turn dd nw cs 0 5 0 1).2.2) un fr rl qs 0 5 3 2 (by decide) (by decide)) (cwV 4 hts gX4_command_X4_turn rfl rfl rfl (by decide +kernel) ⟨Nat.le_of_ble_eq_true rfl, Nat.le_of_ble_eq_true rfl⟩) (up_preV (q0 := 0) (ci := 5) hP hK hD rfl rfl) rfl rfl hl.1 rfl (lv_room (Nat.le_of_ble_eq_true rfl)) dX4_command_75 ⟨Nat.le_of_ble_eq_true rfl, Nat.le_of_ble_eq_true rfl⟩) hD hS ((md_fst ..).trans (md_fst ..).symm) (fun H locs hP hD hS _ _ => ?_)
              have hP : va_P (dC, dI) vwCl (mdW cI cJ cZ q aS aC aW aL aN aI aB aD aU aF n gv sz cd sp se ct aw le ne ins ba ((md_turn ((md_turn dd nw cs 0 5 0 1).2.1) nw ((md_turn dd nw cs 0 5 0 1).2.2) 0 5 3 2).2.1) cr nw ((md_turn ((md_turn dd nw cs 0 5 0 1).2.1) nw ((md_turn dd nw cs 0 5 0 1).2.2) 0 5 3 2).2.2) un fr rl qs) H := hP
              have hD : va_D (up_c (mdW cI cJ cZ q aS aC aW aL aN aI aB aD aU aF n gv sz cd sp se ct aw le ne ins ba dd cr nw cs un fr rl qs)) (mdW cI cJ cZ q aS aC aW aL aN aI aB aD aU aF n gv sz cd sp se ct aw le ne ins ba ((md_turn ((md_turn dd nw cs 0 5 0 1).2.1) nw ((md_turn dd nw cs 0 5 0 1).2.2) 0 5 3 2).2.1) cr nw ((md_turn ((md_turn dd nw cs 0 5 0 1).2.1) nw ((md_turn dd nw cs 0 5 0 1).2.2) 0 5 3 2).2.2) un fr rl qs) := hD
              refine lv_istore_n (lv' := [(2, .int ((md_turn ((md_turn dd nw cs 0 5 0 1).2.1) nw ((md_turn dd nw cs 0 5 0 1).2.2) 0 5 3 2).1)), (0, .ref q), (1, .int x)]) hx hb dX4_command_78 rfl hl (by decide) rfl (fun ls hl => ?_)
              have e_ : md_command dd cr nw cs x = ((md_turn ((md_turn dd nw cs 0 5 0 1).2.1) nw ((md_turn dd nw cs 0 5 0 1).2.2) 0 5 3 2).2.1, (md_turn ((md_turn dd nw cs 0 5 0 1).2.1) nw ((md_turn dd nw cs 0 5 0 1).2.2) 0 5 3 2).2.2) := by unfold md_command; exact (if_neg c_3).trans ((if_pos c_17).trans ((if_pos c_24).trans ((if_neg c_38).trans ((if_pos c_52).trans ((if_pos c_67).trans rfl)))))
              rw [e_]
              exact W.vret hx hb hr (fun t ht hW => ⟨rfl, by rw [ht]; exact hP, hS.F ht⟩) hS.2.2 dX4_command_79
        · refine lv_aload_n hx hb dX4_command_41 rfl (lv_at hl 1 rfl) ?_
          refine lv_iconst (v := 4) hx hb dX4_command_42 (by decide) ?_
          refine lv_iconst (v := 5) hx hb dX4_command_43 (by decide) ?_
          refine lv_iconst (v := 1) hx hb dX4_command_44 (by decide) ?_
          refine lv_iconst (v := 0) hx hb dX4_command_45 (by decide) ?_
          refine up_call (W.runV (As := [.int 4, .int 5, .int 1, .int 0]) (rest := []) ⟨hx, hb, hml, hown, hts⟩ (c_X4_turn l dC dI cI cJ cZ q aS aC aW aL aN aI aB aD aU aF n gv sz cd sp se ct aw le ne ins ba ((md_turn dd nw cs 0 5 0 1).2.1) cr nw ((md_turn dd nw cs 0 5 0 1).2.2) un fr rl qs 4 5 1 0 (by decide) (by decide)) (cwV 4 hts gX4_command_X4_turn rfl rfl rfl (by decide +kernel) ⟨Nat.le_of_ble_eq_true rfl, Nat.le_of_ble_eq_true rfl⟩) (up_preV (q0 := 0) (ci := 5) hP hK hD rfl rfl) rfl rfl hl.1 rfl (lv_room (Nat.le_of_ble_eq_true rfl)) dX4_command_46 ⟨Nat.le_of_ble_eq_true rfl, Nat.le_of_ble_eq_true rfl⟩) hD hS ((md_fst ..).trans (md_fst ..).symm) (fun H locs hP hD hS _ _ => ?_)
          have hP : va_P (dC, dI) vwCl (mdW cI cJ cZ q aS aC aW aL aN aI aB aD aU aF n gv sz cd sp se ct aw le ne ins ba ((md_turn ((md_turn dd nw cs 0 5 0 1).2.1) nw ((md_turn dd nw cs 0 5 0 1).2.2) 4 5 1 0).2.1) cr nw ((md_turn ((md_turn dd nw cs 0 5 0 1).2.1) nw ((md_turn dd nw cs 0 5 0 1).2.2) 4 5 1 0).2.2) un fr rl qs) H := hP
          have hD : va_D (up_c (mdW cI cJ cZ q aS aC aW aL aN aI aB aD aU aF n gv sz cd sp se ct aw le ne ins ba dd cr nw cs un fr rl qs)) (mdW cI cJ cZ q aS aC aW aL aN aI aB aD aU aF n gv sz cd sp se ct aw le ne ins ba ((md_turn ((md_turn dd nw cs 0 5 0 1).2.1) nw ((md_turn dd nw cs 0 5 0 1).2.2) 4 5 1 0).2.1) cr nw ((md_turn ((md_turn dd nw cs 0 5 0 1).2.1) nw ((md_turn dd nw cs 0 5 0 1).2.2) 4 5 1 0).2.2) un fr rl qs) := hD
          refine lv_istore_n (lv' := [(2, .int ((md_turn ((md_turn dd nw cs 0 5 0 1).2.1) nw ((md_turn dd nw cs 0 5 0 1).2.2) 4 5 1 0).1)), (0, .ref q), (1, .int x)]) hx hb dX4_command_49 rfl hl (by decide) rfl (fun ls hl => ?_)
          refine lv_iload_n hx hb dX4_command_50 rfl (lv_at hl 2 rfl) ?_
          refine lv_iconst (v := 3) hx hb dX4_command_51 (by decide) ?_
          refine lv_icmp_ne (tgt := 79) hx hb dX4_command_52 (by decide) (fun c_52 => ?_) (fun c_52 => ?_)
          · have e_ : md_command dd cr nw cs x = ((md_turn ((md_turn dd nw cs 0 5 0 1).2.1) nw ((md_turn dd nw cs 0 5 0 1).2.2) 4 5 1 0).2.1, (md_turn ((md_turn dd nw cs 0 5 0 1).2.1) nw ((md_turn dd nw cs 0 5 0 1).2.2) 4 5 1 0).2.2) := by unfold md_command; exact (if_neg c_3).trans ((if_pos c_17).trans ((if_pos c_24).trans ((if_pos c_38).trans ((if_neg c_52).trans rfl))))
            rw [e_]
            exact W.vret hx hb hr (fun t ht hW => ⟨rfl, by rw [ht]; exact hP, hS.F ht⟩) hS.2.2 dX4_command_79
          · refine lv_aload_n hx hb dX4_command_55 rfl (lv_at hl 1 rfl) ?_
            refine va_get (D := (dC, dI)) (ci := 5) (v := .int cr) (C := RX4) (T := TX4) (N := 20) hx hb hts inn_X4_command_X4 hown hK hP 0 rfl rfl 11 (by decide) (hts (.fieldLink RX4 75 "DoorKeysModel" "crashed" "Z") (by decide +kernel)) (fun _ h9 => h9) rfl dX4_command_56 ?_
            refine lv_if_ne (tgt := 79) hx hb dX4_command_59 (by decide) (fun c_59 => absurd c_24 c_59) (fun c_59 => ?_)
            refine lv_aload_n hx hb dX4_command_62 rfl (lv_at hl 1 rfl) ?_
            refine lv_iconst (v := 0) hx hb dX4_command_63 (by decide) ?_
            refine up_read (W.runV (As := [.int 0]) (rest := []) ⟨hx, hb, hml, hown, hts⟩ (c_X4_some l dC dI cI cJ cZ q aS aC aW aL aN aI aB aD aU aF n gv sz cd sp se ct aw le ne ins ba ((md_turn ((md_turn dd nw cs 0 5 0 1).2.1) nw ((md_turn dd nw cs 0 5 0 1).2.2) 4 5 1 0).2.1) cr nw ((md_turn ((md_turn dd nw cs 0 5 0 1).2.1) nw ((md_turn dd nw cs 0 5 0 1).2.2) 4 5 1 0).2.2) un fr rl qs 0) (cwV 1 hts gX4_command_X4_some rfl rfl rfl (by decide +kernel) ⟨Nat.le_of_ble_eq_true rfl, Nat.le_of_ble_eq_true rfl⟩) (up_preV (q0 := 0) (ci := 5) hP hK hD rfl rfl) rfl rfl hl.1 rfl (lv_room (Nat.le_of_ble_eq_true rfl)) dX4_command_64 ⟨Nat.le_of_ble_eq_true rfl, Nat.le_of_ble_eq_true rfl⟩) ?_
            refine lv_if_ne (tgt := 79) hx hb dX4_command_67 (by decide) (fun c_67 => ?_) (fun c_67 => ?_)
            · have e_ : md_command dd cr nw cs x = ((md_turn ((md_turn dd nw cs 0 5 0 1).2.1) nw ((md_turn dd nw cs 0 5 0 1).2.2) 4 5 1 0).2.1, (md_turn ((md_turn dd nw cs 0 5 0 1).2.1) nw ((md_turn dd nw cs 0 5 0 1).2.2) 4 5 1 0).2.2) := by unfold md_command; exact (if_neg c_3).trans ((if_pos c_17).trans ((if_pos c_24).trans ((if_pos c_38).trans ((if_pos c_52).trans ((if_neg c_67).trans rfl)))))
              rw [e_]
              exact W.vret hx hb hr (fun t ht hW => ⟨rfl, by rw [ht]; exact hP, hS.F ht⟩) hS.2.2 dX4_command_79
            · refine lv_aload_n hx hb dX4_command_70 rfl (lv_at hl 1 rfl) ?_
              refine lv_iconst (v := 0) hx hb dX4_command_71 (by decide) ?_
              refine lv_iconst (v := 5) hx hb dX4_command_72 (by decide) ?_
              refine lv_iconst (v := 3) hx hb dX4_command_73 (by decide) ?_
              refine lv_iconst (v := 2) hx hb dX4_command_74 (by decide) ?_
              refine up_call (W.runV (As := [.int 0, .int 5, .int 3, .int 2]) (rest := []) ⟨hx, hb, hml, hown, hts⟩ (c_X4_turn l dC dI cI cJ cZ q aS aC aW aL aN aI aB aD aU aF n gv sz cd sp se ct aw le ne ins ba ((md_turn ((md_turn dd nw cs 0 5 0 1).2.1) nw ((md_turn dd nw cs 0 5 0 1).2.2) 4 5 1 0).2.1) cr nw ((md_turn ((md_turn dd nw cs 0 5 0 1).2.1) nw ((md_turn dd nw cs 0 5 0 1).2.2) 4 5 1 0).2.2) un fr rl qs 0 5 3 2 (by decide) (by decide)) (cwV 4 hts gX4_command_X4_turn rfl rfl rfl (by decide +kernel) ⟨Nat.le_of_ble_eq_true rfl, Nat.le_of_ble_eq_true rfl⟩) (up_preV (q0 := 0) (ci := 5) hP hK hD rfl rfl) rfl rfl hl.1 rfl (lv_room (Nat.le_of_ble_eq_true rfl)) dX4_command_75 ⟨Nat.le_of_ble_eq_true rfl, Nat.le_of_ble_eq_true rfl⟩) hD hS ((md_fst ..).trans (md_fst ..).symm) (fun H locs hP hD hS _ _ => ?_)
              have hP : va_P (dC, dI) vwCl (mdW cI cJ cZ q aS aC aW aL aN aI aB aD aU aF n gv sz cd sp se ct aw le ne ins ba ((md_turn ((md_turn ((md_turn dd nw cs 0 5 0 1).2.1) nw ((md_turn dd nw cs 0 5 0 1).2.2) 4 5 1 0).2.1) nw ((md_turn ((md_turn dd nw cs 0 5 0 1).2.1) nw ((md_turn dd nw cs 0 5 0 1).2.2) 4 5 1 0).2.2) 0 5 3 2).2.1) cr nw ((md_turn ((md_turn ((md_turn dd nw cs 0 5 0 1).2.1) nw ((md_turn dd nw cs 0 5 0 1).2.2) 4 5 1 0).2.1) nw ((md_turn ((md_turn dd nw cs 0 5 0 1).2.1) nw ((md_turn dd nw cs 0 5 0 1).2.2) 4 5 1 0).2.2) 0 5 3 2).2.2) un fr rl qs) H := hP
              have hD : va_D (up_c (mdW cI cJ cZ q aS aC aW aL aN aI aB aD aU aF n gv sz cd sp se ct aw le ne ins ba dd cr nw cs un fr rl qs)) (mdW cI cJ cZ q aS aC aW aL aN aI aB aD aU aF n gv sz cd sp se ct aw le ne ins ba ((md_turn ((md_turn ((md_turn dd nw cs 0 5 0 1).2.1) nw ((md_turn dd nw cs 0 5 0 1).2.2) 4 5 1 0).2.1) nw ((md_turn ((md_turn dd nw cs 0 5 0 1).2.1) nw ((md_turn dd nw cs 0 5 0 1).2.2) 4 5 1 0).2.2) 0 5 3 2).2.1) cr nw ((md_turn ((md_turn ((md_turn dd nw cs 0 5 0 1).2.1) nw ((md_turn dd nw cs 0 5 0 1).2.2) 4 5 1 0).2.1) nw ((md_turn ((md_turn dd nw cs 0 5 0 1).2.1) nw ((md_turn dd nw cs 0 5 0 1).2.2) 4 5 1 0).2.2) 0 5 3 2).2.2) un fr rl qs) := hD
              refine lv_istore_n (lv' := [(2, .int ((md_turn ((md_turn ((md_turn dd nw cs 0 5 0 1).2.1) nw ((md_turn dd nw cs 0 5 0 1).2.2) 4 5 1 0).2.1) nw ((md_turn ((md_turn dd nw cs 0 5 0 1).2.1) nw ((md_turn dd nw cs 0 5 0 1).2.2) 4 5 1 0).2.2) 0 5 3 2).1)), (0, .ref q), (1, .int x)]) hx hb dX4_command_78 rfl hl (by decide) rfl (fun ls hl => ?_)
              have e_ : md_command dd cr nw cs x = ((md_turn ((md_turn ((md_turn dd nw cs 0 5 0 1).2.1) nw ((md_turn dd nw cs 0 5 0 1).2.2) 4 5 1 0).2.1) nw ((md_turn ((md_turn dd nw cs 0 5 0 1).2.1) nw ((md_turn dd nw cs 0 5 0 1).2.2) 4 5 1 0).2.2) 0 5 3 2).2.1, (md_turn ((md_turn ((md_turn dd nw cs 0 5 0 1).2.1) nw ((md_turn dd nw cs 0 5 0 1).2.2) 4 5 1 0).2.1) nw ((md_turn ((md_turn dd nw cs 0 5 0 1).2.1) nw ((md_turn dd nw cs 0 5 0 1).2.2) 4 5 1 0).2.2) 0 5 3 2).2.2) := by unfold md_command; exact (if_neg c_3).trans ((if_pos c_17).trans ((if_pos c_24).trans ((if_pos c_38).trans ((if_pos c_52).trans ((if_pos c_67).trans rfl)))))
              rw [e_]
              exact W.vret hx hb hr (fun t ht hW => ⟨rfl, by rw [ht]; exact hP, hS.F ht⟩) hS.2.2 dX4_command_79
  · refine lv_aload_n hx hb dX4_command_6 rfl (lv_at hl 1 rfl) ?_
    refine lv_iconst (v := 0) hx hb dX4_command_7 (by decide) ?_
    refine lv_iconst (v := 5) hx hb dX4_command_8 (by decide) ?_
    refine lv_iconst (v := 3) hx hb dX4_command_9 (by decide) ?_
    refine lv_iconst (v := 0) hx hb dX4_command_10 (by decide) ?_
    refine up_call (W.runV (As := [.int 0, .int 5, .int 3, .int 0]) (rest := []) ⟨hx, hb, hml, hown, hts⟩ (c_X4_turn l dC dI cI cJ cZ q aS aC aW aL aN aI aB aD aU aF n gv sz cd sp se ct aw le ne ins ba dd cr nw cs un fr rl qs 0 5 3 0 (by decide) (by decide)) (cwV 4 hts gX4_command_X4_turn rfl rfl rfl (by decide +kernel) ⟨Nat.le_of_ble_eq_true rfl, Nat.le_of_ble_eq_true rfl⟩) (up_preV (q0 := 0) (ci := 5) hP hK hD rfl rfl) rfl rfl hl.1 rfl (lv_room (Nat.le_of_ble_eq_true rfl)) dX4_command_11 ⟨Nat.le_of_ble_eq_true rfl, Nat.le_of_ble_eq_true rfl⟩) hD hS ((md_fst ..).trans (md_fst ..).symm) (fun H locs hP hD hS _ _ => ?_)
    have hP : va_P (dC, dI) vwCl (mdW cI cJ cZ q aS aC aW aL aN aI aB aD aU aF n gv sz cd sp se ct aw le ne ins ba ((md_turn dd nw cs 0 5 3 0).2.1) cr nw ((md_turn dd nw cs 0 5 3 0).2.2) un fr rl qs) H := hP
    have hD : va_D (up_c (mdW cI cJ cZ q aS aC aW aL aN aI aB aD aU aF n gv sz cd sp se ct aw le ne ins ba dd cr nw cs un fr rl qs)) (mdW cI cJ cZ q aS aC aW aL aN aI aB aD aU aF n gv sz cd sp se ct aw le ne ins ba ((md_turn dd nw cs 0 5 3 0).2.1) cr nw ((md_turn dd nw cs 0 5 3 0).2.2) un fr rl qs) := hD
    refine lv_istore_n (lv' := [(2, .int ((md_turn dd nw cs 0 5 3 0).1)), (0, .ref q), (1, .int x)]) hx hb dX4_command_14 rfl hl (by decide) rfl (fun ls hl => ?_)
    refine lv_iload_n hx hb dX4_command_15 rfl (lv_at hl 2 rfl) ?_
    refine lv_iconst (v := 1) hx hb dX4_command_16 (by decide) ?_
    refine lv_icmp_ne (tgt := 36) hx hb dX4_command_17 (by decide) (fun c_17 => ?_) (fun c_17 => ?_)
    · refine lv_iload_n hx hb dX4_command_36 rfl (lv_at hl 2 rfl) ?_
      refine lv_iconst (v := 2) hx hb dX4_command_37 (by decide) ?_
      refine lv_icmp_ne (tgt := 50) hx hb dX4_command_38 (by decide) (fun c_38 => ?_) (fun c_38 => ?_)
      · refine lv_iload_n hx hb dX4_command_50 rfl (lv_at hl 2 rfl) ?_
        refine lv_iconst (v := 3) hx hb dX4_command_51 (by decide) ?_
        refine lv_icmp_ne (tgt := 79) hx hb dX4_command_52 (by decide) (fun c_52 => ?_) (fun c_52 => ?_)
        · have e_ : md_command dd cr nw cs x = ((md_turn dd nw cs 0 5 3 0).2.1, (md_turn dd nw cs 0 5 3 0).2.2) := by unfold md_command; exact (if_pos c_3).trans ((if_neg c_17).trans ((if_neg c_38).trans ((if_neg c_52).trans rfl)))
          rw [e_]
          exact W.vret hx hb hr (fun t ht hW => ⟨rfl, by rw [ht]; exact hP, hS.F ht⟩) hS.2.2 dX4_command_79
        · refine lv_aload_n hx hb dX4_command_55 rfl (lv_at hl 1 rfl) ?_
          refine va_get (D := (dC, dI)) (ci := 5) (v := .int cr) (C := RX4) (T := TX4) (N := 20) hx hb hts inn_X4_command_X4 hown hK hP 0 rfl rfl 11 (by decide) (hts (.fieldLink RX4 75 "DoorKeysModel" "crashed" "Z") (by decide +kernel)) (fun _ h9 => h9) rfl dX4_command_56 ?_
          refine lv_if_ne (tgt := 79) hx hb dX4_command_59 (by decide) (fun c_59 => ?_) (fun c_59 => ?_)
          · have e_ : md_command dd cr nw cs x = ((md_turn dd nw cs 0 5 3 0).2.1, (md_turn dd nw cs 0 5 3 0).2.2) := by unfold md_command; exact (if_pos c_3).trans ((if_neg c_17).trans ((if_neg c_38).trans ((if_pos c_52).trans ((if_neg c_59).trans rfl))))
            rw [e_]
            exact W.vret hx hb hr (fun t ht hW => ⟨rfl, by rw [ht]; exact hP, hS.F ht⟩) hS.2.2 dX4_command_79
          · refine lv_aload_n hx hb dX4_command_62 rfl (lv_at hl 1 rfl) ?_
            refine lv_iconst (v := 0) hx hb dX4_command_63 (by decide) ?_
            refine up_read (W.runV (As := [.int 0]) (rest := []) ⟨hx, hb, hml, hown, hts⟩ (c_X4_some l dC dI cI cJ cZ q aS aC aW aL aN aI aB aD aU aF n gv sz cd sp se ct aw le ne ins ba ((md_turn dd nw cs 0 5 3 0).2.1) cr nw ((md_turn dd nw cs 0 5 3 0).2.2) un fr rl qs 0) (cwV 1 hts gX4_command_X4_some rfl rfl rfl (by decide +kernel) ⟨Nat.le_of_ble_eq_true rfl, Nat.le_of_ble_eq_true rfl⟩) (up_preV (q0 := 0) (ci := 5) hP hK hD rfl rfl) rfl rfl hl.1 rfl (lv_room (Nat.le_of_ble_eq_true rfl)) dX4_command_64 ⟨Nat.le_of_ble_eq_true rfl, Nat.le_of_ble_eq_true rfl⟩) ?_
            refine lv_if_ne (tgt := 79) hx hb dX4_command_67 (by decide) (fun c_67 => ?_) (fun c_67 => ?_)
            · have e_ : md_command dd cr nw cs x = ((md_turn dd nw cs 0 5 3 0).2.1, (md_turn dd nw cs 0 5 3 0).2.2) := by unfold md_command; exact (if_pos c_3).trans ((if_neg c_17).trans ((if_neg c_38).trans ((if_pos c_52).trans ((if_pos c_59).trans ((if_neg c_67).trans rfl)))))
              rw [e_]
              exact W.vret hx hb hr (fun t ht hW => ⟨rfl, by rw [ht]; exact hP, hS.F ht⟩) hS.2.2 dX4_command_79
            · refine lv_aload_n hx hb dX4_command_70 rfl (lv_at hl 1 rfl) ?_
              refine lv_iconst (v := 0) hx hb dX4_command_71 (by decide) ?_
              refine lv_iconst (v := 5) hx hb dX4_command_72 (by decide) ?_
              refine lv_iconst (v := 3) hx hb dX4_command_73 (by decide) ?_
              refine lv_iconst (v := 2) hx hb dX4_command_74 (by decide) ?_
              refine up_call (W.runV (As := [.int 0, .int 5, .int 3, .int 2]) (rest := []) ⟨hx, hb, hml, hown, hts⟩ (c_X4_turn l dC dI cI cJ cZ q aS aC aW aL aN aI aB aD aU aF n gv sz cd sp se ct aw le ne ins ba ((md_turn dd nw cs 0 5 3 0).2.1) cr nw ((md_turn dd nw cs 0 5 3 0).2.2) un fr rl qs 0 5 3 2 (by decide) (by decide)) (cwV 4 hts gX4_command_X4_turn rfl rfl rfl (by decide +kernel) ⟨Nat.le_of_ble_eq_true rfl, Nat.le_of_ble_eq_true rfl⟩) (up_preV (q0 := 0) (ci := 5) hP hK hD rfl rfl) rfl rfl hl.1 rfl (lv_room (Nat.le_of_ble_eq_true rfl)) dX4_command_75 ⟨Nat.le_of_ble_eq_true rfl, Nat.le_of_ble_eq_true rfl⟩) hD hS ((md_fst ..).trans (md_fst ..).symm) (fun H locs hP hD hS _ _ => ?_)
              have hP : va_P (dC, dI) vwCl (mdW cI cJ cZ q aS aC aW aL aN aI aB aD aU aF n gv sz cd sp se ct aw le ne ins ba ((md_turn ((md_turn dd nw cs 0 5 3 0).2.1) nw ((md_turn dd nw cs 0 5 3 0).2.2) 0 5 3 2).2.1) cr nw ((md_turn ((md_turn dd nw cs 0 5 3 0).2.1) nw ((md_turn dd nw cs 0 5 3 0).2.2) 0 5 3 2).2.2) un fr rl qs) H := hP
              have hD : va_D (up_c (mdW cI cJ cZ q aS aC aW aL aN aI aB aD aU aF n gv sz cd sp se ct aw le ne ins ba dd cr nw cs un fr rl qs)) (mdW cI cJ cZ q aS aC aW aL aN aI aB aD aU aF n gv sz cd sp se ct aw le ne ins ba ((md_turn ((md_turn dd nw cs 0 5 3 0).2.1) nw ((md_turn dd nw cs 0 5 3 0).2.2) 0 5 3 2).2.1) cr nw ((md_turn ((md_turn dd nw cs 0 5 3 0).2.1) nw ((md_turn dd nw cs 0 5 3 0).2.2) 0 5 3 2).2.2) un fr rl qs) := hD
              refine lv_istore_n (lv' := [(2, .int ((md_turn ((md_turn dd nw cs 0 5 3 0).2.1) nw ((md_turn dd nw cs 0 5 3 0).2.2) 0 5 3 2).1)), (0, .ref q), (1, .int x)]) hx hb dX4_command_78 rfl hl (by decide) rfl (fun ls hl => ?_)
              have e_ : md_command dd cr nw cs x = ((md_turn ((md_turn dd nw cs 0 5 3 0).2.1) nw ((md_turn dd nw cs 0 5 3 0).2.2) 0 5 3 2).2.1, (md_turn ((md_turn dd nw cs 0 5 3 0).2.1) nw ((md_turn dd nw cs 0 5 3 0).2.2) 0 5 3 2).2.2) := by unfold md_command; exact (if_pos c_3).trans ((if_neg c_17).trans ((if_neg c_38).trans ((if_pos c_52).trans ((if_pos c_59).trans ((if_pos c_67).trans rfl)))))
              rw [e_]
              exact W.vret hx hb hr (fun t ht hW => ⟨rfl, by rw [ht]; exact hP, hS.F ht⟩) hS.2.2 dX4_command_79
      · refine lv_aload_n hx hb dX4_command_41 rfl (lv_at hl 1 rfl) ?_
        refine lv_iconst (v := 4) hx hb dX4_command_42 (by decide) ?_
        refine lv_iconst (v := 5) hx hb dX4_command_43 (by decide) ?_
        refine lv_iconst (v := 1) hx hb dX4_command_44 (by decide) ?_
        refine lv_iconst (v := 0) hx hb dX4_command_45 (by decide) ?_
        refine up_call (W.runV (As := [.int 4, .int 5, .int 1, .int 0]) (rest := []) ⟨hx, hb, hml, hown, hts⟩ (c_X4_turn l dC dI cI cJ cZ q aS aC aW aL aN aI aB aD aU aF n gv sz cd sp se ct aw le ne ins ba ((md_turn dd nw cs 0 5 3 0).2.1) cr nw ((md_turn dd nw cs 0 5 3 0).2.2) un fr rl qs 4 5 1 0 (by decide) (by decide)) (cwV 4 hts gX4_command_X4_turn rfl rfl rfl (by decide +kernel) ⟨Nat.le_of_ble_eq_true rfl, Nat.le_of_ble_eq_true rfl⟩) (up_preV (q0 := 0) (ci := 5) hP hK hD rfl rfl) rfl rfl hl.1 rfl (lv_room (Nat.le_of_ble_eq_true rfl)) dX4_command_46 ⟨Nat.le_of_ble_eq_true rfl, Nat.le_of_ble_eq_true rfl⟩) hD hS ((md_fst ..).trans (md_fst ..).symm) (fun H locs hP hD hS _ _ => ?_)
        have hP : va_P (dC, dI) vwCl (mdW cI cJ cZ q aS aC aW aL aN aI aB aD aU aF n gv sz cd sp se ct aw le ne ins ba ((md_turn ((md_turn dd nw cs 0 5 3 0).2.1) nw ((md_turn dd nw cs 0 5 3 0).2.2) 4 5 1 0).2.1) cr nw ((md_turn ((md_turn dd nw cs 0 5 3 0).2.1) nw ((md_turn dd nw cs 0 5 3 0).2.2) 4 5 1 0).2.2) un fr rl qs) H := hP
        have hD : va_D (up_c (mdW cI cJ cZ q aS aC aW aL aN aI aB aD aU aF n gv sz cd sp se ct aw le ne ins ba dd cr nw cs un fr rl qs)) (mdW cI cJ cZ q aS aC aW aL aN aI aB aD aU aF n gv sz cd sp se ct aw le ne ins ba ((md_turn ((md_turn dd nw cs 0 5 3 0).2.1) nw ((md_turn dd nw cs 0 5 3 0).2.2) 4 5 1 0).2.1) cr nw ((md_turn ((md_turn dd nw cs 0 5 3 0).2.1) nw ((md_turn dd nw cs 0 5 3 0).2.2) 4 5 1 0).2.2) un fr rl qs) := hD
        refine lv_istore_n (lv' := [(2, .int ((md_turn ((md_turn dd nw cs 0 5 3 0).2.1) nw ((md_turn dd nw cs 0 5 3 0).2.2) 4 5 1 0).1)), (0, .ref q), (1, .int x)]) hx hb dX4_command_49 rfl hl (by decide) rfl (fun ls hl => ?_)
        refine lv_iload_n hx hb dX4_command_50 rfl (lv_at hl 2 rfl) ?_
        refine lv_iconst (v := 3) hx hb dX4_command_51 (by decide) ?_
        refine lv_icmp_ne (tgt := 79) hx hb dX4_command_52 (by decide) (fun c_52 => ?_) (fun c_52 => ?_)
        · have e_ : md_command dd cr nw cs x = ((md_turn ((md_turn dd nw cs 0 5 3 0).2.1) nw ((md_turn dd nw cs 0 5 3 0).2.2) 4 5 1 0).2.1, (md_turn ((md_turn dd nw cs 0 5 3 0).2.1) nw ((md_turn dd nw cs 0 5 3 0).2.2) 4 5 1 0).2.2) := by unfold md_command; exact (if_pos c_3).trans ((if_neg c_17).trans ((if_pos c_38).trans ((if_neg c_52).trans rfl)))
          rw [e_]
          exact W.vret hx hb hr (fun t ht hW => ⟨rfl, by rw [ht]; exact hP, hS.F ht⟩) hS.2.2 dX4_command_79
        · refine lv_aload_n hx hb dX4_command_55 rfl (lv_at hl 1 rfl) ?_
          refine va_get (D := (dC, dI)) (ci := 5) (v := .int cr) (C := RX4) (T := TX4) (N := 20) hx hb hts inn_X4_command_X4 hown hK hP 0 rfl rfl 11 (by decide) (hts (.fieldLink RX4 75 "DoorKeysModel" "crashed" "Z") (by decide +kernel)) (fun _ h9 => h9) rfl dX4_command_56 ?_
          refine lv_if_ne (tgt := 79) hx hb dX4_command_59 (by decide) (fun c_59 => ?_) (fun c_59 => ?_)
          · have e_ : md_command dd cr nw cs x = ((md_turn ((md_turn dd nw cs 0 5 3 0).2.1) nw ((md_turn dd nw cs 0 5 3 0).2.2) 4 5 1 0).2.1, (md_turn ((md_turn dd nw cs 0 5 3 0).2.1) nw ((md_turn dd nw cs 0 5 3 0).2.2) 4 5 1 0).2.2) := by unfold md_command; exact (if_pos c_3).trans ((if_neg c_17).trans ((if_pos c_38).trans ((if_pos c_52).trans ((if_neg c_59).trans rfl))))
            rw [e_]
            exact W.vret hx hb hr (fun t ht hW => ⟨rfl, by rw [ht]; exact hP, hS.F ht⟩) hS.2.2 dX4_command_79
          · refine lv_aload_n hx hb dX4_command_62 rfl (lv_at hl 1 rfl) ?_
            refine lv_iconst (v := 0) hx hb dX4_command_63 (by decide) ?_
            refine up_read (W.runV (As := [.int 0]) (rest := []) ⟨hx, hb, hml, hown, hts⟩ (c_X4_some l dC dI cI cJ cZ q aS aC aW aL aN aI aB aD aU aF n gv sz cd sp se ct aw le ne ins ba ((md_turn ((md_turn dd nw cs 0 5 3 0).2.1) nw ((md_turn dd nw cs 0 5 3 0).2.2) 4 5 1 0).2.1) cr nw ((md_turn ((md_turn dd nw cs 0 5 3 0).2.1) nw ((md_turn dd nw cs 0 5 3 0).2.2) 4 5 1 0).2.2) un fr rl qs 0) (cwV 1 hts gX4_command_X4_some rfl rfl rfl (by decide +kernel) ⟨Nat.le_of_ble_eq_true rfl, Nat.le_of_ble_eq_true rfl⟩) (up_preV (q0 := 0) (ci := 5) hP hK hD rfl rfl) rfl rfl hl.1 rfl (lv_room (Nat.le_of_ble_eq_true rfl)) dX4_command_64 ⟨Nat.le_of_ble_eq_true rfl, Nat.le_of_ble_eq_true rfl⟩) ?_
            refine lv_if_ne (tgt := 79) hx hb dX4_command_67 (by decide) (fun c_67 => ?_) (fun c_67 => ?_)
            · have e_ : md_command dd cr nw cs x = ((md_turn ((md_turn dd nw cs 0 5 3 0).2.1) nw ((md_turn dd nw cs 0 5 3 0).2.2) 4 5 1 0).2.1, (md_turn ((md_turn dd nw cs 0 5 3 0).2.1) nw ((md_turn dd nw cs 0 5 3 0).2.2) 4 5 1 0).2.2) := by unfold md_command; exact (if_pos c_3).trans ((if_neg c_17).trans ((if_pos c_38).trans ((if_pos c_52).trans ((if_pos c_59).trans ((if_neg c_67).trans rfl)))))
              rw [e_]
              exact W.vret hx hb hr (fun t ht hW => ⟨rfl, by rw [ht]; exact hP, hS.F ht⟩) hS.2.2 dX4_command_79
            · refine lv_aload_n hx hb dX4_command_70 rfl (lv_at hl 1 rfl) ?_
              refine lv_iconst (v := 0) hx hb dX4_command_71 (by decide) ?_
              refine lv_iconst (v := 5) hx hb dX4_command_72 (by decide) ?_
              refine lv_iconst (v := 3) hx hb dX4_command_73 (by decide) ?_
              refine lv_iconst (v := 2) hx hb dX4_command_74 (by decide) ?_
              refine up_call (W.runV (As := [.int 0, .int 5, .int 3, .int 2]) (rest := []) ⟨hx, hb, hml, hown, hts⟩ (c_X4_turn l dC dI cI cJ cZ q aS aC aW aL aN aI aB aD aU aF n gv sz cd sp se ct aw le ne ins ba ((md_turn ((md_turn dd nw cs 0 5 3 0).2.1) nw ((md_turn dd nw cs 0 5 3 0).2.2) 4 5 1 0).2.1) cr nw ((md_turn ((md_turn dd nw cs 0 5 3 0).2.1) nw ((md_turn dd nw cs 0 5 3 0).2.2) 4 5 1 0).2.2) un fr rl qs 0 5 3 2 (by decide) (by decide)) (cwV 4 hts gX4_command_X4_turn rfl rfl rfl (by decide +kernel) ⟨Nat.le_of_ble_eq_true rfl, Nat.le_of_ble_eq_true rfl⟩) (up_preV (q0 := 0) (ci := 5) hP hK hD rfl rfl) rfl rfl hl.1 rfl (lv_room (Nat.le_of_ble_eq_true rfl)) dX4_command_75 ⟨Nat.le_of_ble_eq_true rfl, Nat.le_of_ble_eq_true rfl⟩) hD hS ((md_fst ..).trans (md_fst ..).symm) (fun H locs hP hD hS _ _ => ?_)
              have hP : va_P (dC, dI) vwCl (mdW cI cJ cZ q aS aC aW aL aN aI aB aD aU aF n gv sz cd sp se ct aw le ne ins ba ((md_turn ((md_turn ((md_turn dd nw cs 0 5 3 0).2.1) nw ((md_turn dd nw cs 0 5 3 0).2.2) 4 5 1 0).2.1) nw ((md_turn ((md_turn dd nw cs 0 5 3 0).2.1) nw ((md_turn dd nw cs 0 5 3 0).2.2) 4 5 1 0).2.2) 0 5 3 2).2.1) cr nw ((md_turn ((md_turn ((md_turn dd nw cs 0 5 3 0).2.1) nw ((md_turn dd nw cs 0 5 3 0).2.2) 4 5 1 0).2.1) nw ((md_turn ((md_turn dd nw cs 0 5 3 0).2.1) nw ((md_turn dd nw cs 0 5 3 0).2.2) 4 5 1 0).2.2) 0 5 3 2).2.2) un fr rl qs) H := hP
              have hD : va_D (up_c (mdW cI cJ cZ q aS aC aW aL aN aI aB aD aU aF n gv sz cd sp se ct aw le ne ins ba dd cr nw cs un fr rl qs)) (mdW cI cJ cZ q aS aC aW aL aN aI aB aD aU aF n gv sz cd sp se ct aw le ne ins ba ((md_turn ((md_turn ((md_turn dd nw cs 0 5 3 0).2.1) nw ((md_turn dd nw cs 0 5 3 0).2.2) 4 5 1 0).2.1) nw ((md_turn ((md_turn dd nw cs 0 5 3 0).2.1) nw ((md_turn dd nw cs 0 5 3 0).2.2) 4 5 1 0).2.2) 0 5 3 2).2.1) cr nw ((md_turn ((md_turn ((md_turn dd nw cs 0 5 3 0).2.1) nw ((md_turn dd nw cs 0 5 3 0).2.2) 4 5 1 0).2.1) nw ((md_turn ((md_turn dd nw cs 0 5 3 0).2.1) nw ((md_turn dd nw cs 0 5 3 0).2.2) 4 5 1 0).2.2) 0 5 3 2).2.2) un fr rl qs) := hD
              refine lv_istore_n (lv' := [(2, .int ((md_turn ((md_turn ((md_turn dd nw cs 0 5 3 0).2.1) nw ((md_turn dd nw cs 0 5 3 0).2.2) 4 5 1 0).2.1) nw ((md_turn ((md_turn dd nw cs 0 5 3 0).2.1) nw ((md_turn dd nw cs 0 5 3 0).2.2) 4 5 1 0).2.2) 0 5 3 2).1)), (0, .ref q), (1, .int x)]) hx hb dX4_command_78 rfl hl (by decide) rfl (fun ls hl => ?_)
              have e_ : md_command dd cr nw cs x = ((md_turn ((md_turn ((md_turn dd nw cs 0 5 3 0).2.1) nw ((md_turn dd nw cs 0 5 3 0).2.2) 4 5 1 0).2.1) nw ((md_turn ((md_turn dd nw cs 0 5 3 0).2.1) nw ((md_turn dd nw cs 0 5 3 0).2.2) 4 5 1 0).2.2) 0 5 3 2).2.1, (md_turn ((md_turn ((md_turn dd nw cs 0 5 3 0).2.1) nw ((md_turn dd nw cs 0 5 3 0).2.2) 4 5 1 0).2.1) nw ((md_turn ((md_turn dd nw cs 0 5 3 0).2.1) nw ((md_turn dd nw cs 0 5 3 0).2.2) 4 5 1 0).2.2) 0 5 3 2).2.2) := by unfold md_command; exact (if_pos c_3).trans ((if_neg c_17).trans ((if_pos c_38).trans ((if_pos c_52).trans ((if_pos c_59).trans ((if_pos c_67).trans rfl)))))
              rw [e_]
              exact W.vret hx hb hr (fun t ht hW => ⟨rfl, by rw [ht]; exact hP, hS.F ht⟩) hS.2.2 dX4_command_79
    · refine lv_aload_n hx hb dX4_command_20 rfl (lv_at hl 1 rfl) ?_
      refine va_get (D := (dC, dI)) (ci := 5) (v := .int cr) (C := RX4) (T := TX4) (N := 20) hx hb hts inn_X4_command_X4 hown hK hP 0 rfl rfl 11 (by decide) (hts (.fieldLink RX4 75 "DoorKeysModel" "crashed" "Z") (by decide +kernel)) (fun _ h9 => h9) rfl dX4_command_21 ?_
      refine lv_if_ne (tgt := 36) hx hb dX4_command_24 (by decide) (fun c_24 => ?_) (fun c_24 => ?_)
      · refine lv_iload_n hx hb dX4_command_36 rfl (lv_at hl 2 rfl) ?_
        refine lv_iconst (v := 2) hx hb dX4_command_37 (by decide) ?_
        refine lv_icmp_ne (tgt := 50) hx hb dX4_command_38 (by decide) (fun c_38 => ?_) (fun c_38 => ?_)
        · refine lv_iload_n hx hb dX4_command_50 rfl (lv_at hl 2 rfl) ?_
          refine lv_iconst (v := 3) hx hb dX4_command_51 (by decide) ?_
          refine lv_icmp_ne (tgt := 79) hx hb dX4_command_52 (by decide) (fun c_52 => ?_) (fun c_52 => ?_)
          · have e_ : md_command dd cr nw cs x = ((md_turn dd nw cs 0 5 3 0).2.1, (md_turn dd nw cs 0 5 3 0).2.2) := by unfold md_command; exact (if_pos c_3).trans ((if_pos c_17).trans ((if_neg c_24).trans ((if_neg c_38).trans ((if_neg c_52).trans rfl))))
            rw [e_]
            exact W.vret hx hb hr (fun t ht hW => ⟨rfl, by rw [ht]; exact hP, hS.F ht⟩) hS.2.2 dX4_command_79
          · refine lv_aload_n hx hb dX4_command_55 rfl (lv_at hl 1 rfl) ?_
            refine va_get (D := (dC, dI)) (ci := 5) (v := .int cr) (C := RX4) (T := TX4) (N := 20) hx hb hts inn_X4_command_X4 hown hK hP 0 rfl rfl 11 (by decide) (hts (.fieldLink RX4 75 "DoorKeysModel" "crashed" "Z") (by decide +kernel)) (fun _ h9 => h9) rfl dX4_command_56 ?_
            refine lv_if_ne (tgt := 79) hx hb dX4_command_59 (by decide) (fun c_59 => ?_) (fun c_59 => absurd c_59 c_24)
            have e_ : md_command dd cr nw cs x = ((md_turn dd nw cs 0 5 3 0).2.1, (md_turn dd nw cs 0 5 3 0).2.2) := by unfold md_command; exact (if_pos c_3).trans ((if_pos c_17).trans ((if_neg c_24).trans ((if_neg c_38).trans ((if_pos c_52).trans rfl))))
            rw [e_]
            exact W.vret hx hb hr (fun t ht hW => ⟨rfl, by rw [ht]; exact hP, hS.F ht⟩) hS.2.2 dX4_command_79
        · refine lv_aload_n hx hb dX4_command_41 rfl (lv_at hl 1 rfl) ?_
          refine lv_iconst (v := 4) hx hb dX4_command_42 (by decide) ?_
          refine lv_iconst (v := 5) hx hb dX4_command_43 (by decide) ?_
          refine lv_iconst (v := 1) hx hb dX4_command_44 (by decide) ?_
          refine lv_iconst (v := 0) hx hb dX4_command_45 (by decide) ?_
          refine up_call (W.runV (As := [.int 4, .int 5, .int 1, .int 0]) (rest := []) ⟨hx, hb, hml, hown, hts⟩ (c_X4_turn l dC dI cI cJ cZ q aS aC aW aL aN aI aB aD aU aF n gv sz cd sp se ct aw le ne ins ba ((md_turn dd nw cs 0 5 3 0).2.1) cr nw ((md_turn dd nw cs 0 5 3 0).2.2) un fr rl qs 4 5 1 0 (by decide) (by decide)) (cwV 4 hts gX4_command_X4_turn rfl rfl rfl (by decide +kernel) ⟨Nat.le_of_ble_eq_true rfl, Nat.le_of_ble_eq_true rfl⟩) (up_preV (q0 := 0) (ci := 5) hP hK hD rfl rfl) rfl rfl hl.1 rfl (lv_room (Nat.le_of_ble_eq_true rfl)) dX4_command_46 ⟨Nat.le_of_ble_eq_true rfl, Nat.le_of_ble_eq_true rfl⟩) hD hS ((md_fst ..).trans (md_fst ..).symm) (fun H locs hP hD hS _ _ => ?_)
          have hP : va_P (dC, dI) vwCl (mdW cI cJ cZ q aS aC aW aL aN aI aB aD aU aF n gv sz cd sp se ct aw le ne ins ba ((md_turn ((md_turn dd nw cs 0 5 3 0).2.1) nw ((md_turn dd nw cs 0 5 3 0).2.2) 4 5 1 0).2.1) cr nw ((md_turn ((md_turn dd nw cs 0 5 3 0).2.1) nw ((md_turn dd nw cs 0 5 3 0).2.2) 4 5 1 0).2.2) un fr rl qs) H := hP
          have hD : va_D (up_c (mdW cI cJ cZ q aS aC aW aL aN aI aB aD aU aF n gv sz cd sp se ct aw le ne ins ba dd cr nw cs un fr rl qs)) (mdW cI cJ cZ q aS aC aW aL aN aI aB aD aU aF n gv sz cd sp se ct aw le ne ins ba ((md_turn ((md_turn dd nw cs 0 5 3 0).2.1) nw ((md_turn dd nw cs 0 5 3 0).2.2) 4 5 1 0).2.1) cr nw ((md_turn ((md_turn dd nw cs 0 5 3 0).2.1) nw ((md_turn dd nw cs 0 5 3 0).2.2) 4 5 1 0).2.2) un fr rl qs) := hD
          refine lv_istore_n (lv' := [(2, .int ((md_turn ((md_turn dd nw cs 0 5 3 0).2.1) nw ((md_turn dd nw cs 0 5 3 0).2.2) 4 5 1 0).1)), (0, .ref q), (1, .int x)]) hx hb dX4_command_49 rfl hl (by decide) rfl (fun ls hl => ?_)
          refine lv_iload_n hx hb dX4_command_50 rfl (lv_at hl 2 rfl) ?_
          refine lv_iconst (v := 3) hx hb dX4_command_51 (by decide) ?_
          refine lv_icmp_ne (tgt := 79) hx hb dX4_command_52 (by decide) (fun c_52 => ?_) (fun c_52 => ?_)
          · have e_ : md_command dd cr nw cs x = ((md_turn ((md_turn dd nw cs 0 5 3 0).2.1) nw ((md_turn dd nw cs 0 5 3 0).2.2) 4 5 1 0).2.1, (md_turn ((md_turn dd nw cs 0 5 3 0).2.1) nw ((md_turn dd nw cs 0 5 3 0).2.2) 4 5 1 0).2.2) := by unfold md_command; exact (if_pos c_3).trans ((if_pos c_17).trans ((if_neg c_24).trans ((if_pos c_38).trans ((if_neg c_52).trans rfl))))
            rw [e_]
            exact W.vret hx hb hr (fun t ht hW => ⟨rfl, by rw [ht]; exact hP, hS.F ht⟩) hS.2.2 dX4_command_79
          · refine lv_aload_n hx hb dX4_command_55 rfl (lv_at hl 1 rfl) ?_
            refine va_get (D := (dC, dI)) (ci := 5) (v := .int cr) (C := RX4) (T := TX4) (N := 20) hx hb hts inn_X4_command_X4 hown hK hP 0 rfl rfl 11 (by decide) (hts (.fieldLink RX4 75 "DoorKeysModel" "crashed" "Z") (by decide +kernel)) (fun _ h9 => h9) rfl dX4_command_56 ?_
            refine lv_if_ne (tgt := 79) hx hb dX4_command_59 (by decide) (fun c_59 => ?_) (fun c_59 => absurd c_59 c_24)
            have e_ : md_command dd cr nw cs x = ((md_turn ((md_turn dd nw cs 0 5 3 0).2.1) nw ((md_turn dd nw cs 0 5 3 0).2.2) 4 5 1 0).2.1, (md_turn ((md_turn dd nw cs 0 5 3 0).2.1) nw ((md_turn dd nw cs 0 5 3 0).2.2) 4 5 1 0).2.2) := by unfold md_command; exact (if_pos c_3).trans ((if_pos c_17).trans ((if_neg c_24).trans ((if_pos c_38).trans ((if_pos c_52).trans rfl))))
            rw [e_]
            exact W.vret hx hb hr (fun t ht hW => ⟨rfl, by rw [ht]; exact hP, hS.F ht⟩) hS.2.2 dX4_command_79
      · refine lv_aload_n hx hb dX4_command_27 rfl (lv_at hl 1 rfl) ?_
        refine lv_iconst (v := 0) hx hb dX4_command_28 (by decide) ?_
        refine lv_iconst (v := 5) hx hb dX4_command_29 (by decide) ?_
        refine lv_iconst (v := 0) hx hb dX4_command_30 (by decide) ?_
        refine lv_iconst (v := 1) hx hb dX4_command_31 (by decide) ?_
        refine up_call (W.runV (As := [.int 0, .int 5, .int 0, .int 1]) (rest := []) ⟨hx, hb, hml, hown, hts⟩ (c_X4_turn l dC dI cI cJ cZ q aS aC aW aL aN aI aB aD aU aF n gv sz cd sp se ct aw le ne ins ba ((md_turn dd nw cs 0 5 3 0).2.1) cr nw ((md_turn dd nw cs 0 5 3 0).2.2) un fr rl qs 0 5 0 1 (by decide) (by decide)) (cwV 4 hts gX4_command_X4_turn rfl rfl rfl (by decide +kernel) ⟨Nat.le_of_ble_eq_true rfl, Nat.le_of_ble_eq_true rfl⟩) (up_preV (q0 := 0) (ci := 5) hP hK hD rfl rfl) rfl rfl hl.1 rfl (lv_room (Nat.le_of_ble_eq_true rfl)) dX4_command_32 ⟨Nat.le_of_ble_eq_true rfl, Nat.le_of_ble_eq_true rfl⟩) hD hS ((md_fst ..).trans (md_fst ..).symm) (fun H locs hP hD hS _ _ => ?_)
        have hP : va_P (dC, dI) vwCl (mdW cI cJ cZ q aS aC aW aL aN aI aB aD aU aF n gv sz cd sp se ct aw le ne ins ba ((md_turn ((md_turn dd nw cs 0 5 3 0).2.1) nw ((md_turn dd nw cs 0 5 3 0).2.2) 0 5 0 1).2.1) cr nw ((md_turn ((md_turn dd nw cs 0 5 3 0).2.1) nw ((md_turn dd nw cs 0 5 3 0).2.2) 0 5 0 1).2.2) un fr rl qs) H := hP
        have hD : va_D (up_c (mdW cI cJ cZ q aS aC aW aL aN aI aB aD aU aF n gv sz cd sp se ct aw le ne ins ba dd cr nw cs un fr rl qs)) (mdW cI cJ cZ q aS aC aW aL aN aI aB aD aU aF n gv sz cd sp se ct aw le ne ins ba ((md_turn ((md_turn dd nw cs 0 5 3 0).2.1) nw ((md_turn dd nw cs 0 5 3 0).2.2) 0 5 0 1).2.1) cr nw ((md_turn ((md_turn dd nw cs 0 5 3 0).2.1) nw ((md_turn dd nw cs 0 5 3 0).2.2) 0 5 0 1).2.2) un fr rl qs) := hD
        refine lv_istore_n (lv' := [(2, .int ((md_turn ((md_turn dd nw cs 0 5 3 0).2.1) nw ((md_turn dd nw cs 0 5 3 0).2.2) 0 5 0 1).1)), (0, .ref q), (1, .int x)]) hx hb dX4_command_35 rfl hl (by decide) rfl (fun ls hl => ?_)
        refine lv_iload_n hx hb dX4_command_36 rfl (lv_at hl 2 rfl) ?_
        refine lv_iconst (v := 2) hx hb dX4_command_37 (by decide) ?_
        refine lv_icmp_ne (tgt := 50) hx hb dX4_command_38 (by decide) (fun c_38 => ?_) (fun c_38 => ?_)
        · refine lv_iload_n hx hb dX4_command_50 rfl (lv_at hl 2 rfl) ?_
          refine lv_iconst (v := 3) hx hb dX4_command_51 (by decide) ?_
          refine lv_icmp_ne (tgt := 79) hx hb dX4_command_52 (by decide) (fun c_52 => ?_) (fun c_52 => ?_)
          · have e_ : md_command dd cr nw cs x = ((md_turn ((md_turn dd nw cs 0 5 3 0).2.1) nw ((md_turn dd nw cs 0 5 3 0).2.2) 0 5 0 1).2.1, (md_turn ((md_turn dd nw cs 0 5 3 0).2.1) nw ((md_turn dd nw cs 0 5 3 0).2.2) 0 5 0 1).2.2) := by unfold md_command; exact (if_pos c_3).trans ((if_pos c_17).trans ((if_pos c_24).trans ((if_neg c_38).trans ((if_neg c_52).trans rfl))))
            rw [e_]
            exact W.vret hx hb hr (fun t ht hW => ⟨rfl, by rw [ht]; exact hP, hS.F ht⟩) hS.2.2 dX4_command_79
          · refine lv_aload_n hx hb dX4_command_55 rfl (lv_at hl 1 rfl) ?_
            refine va_get (D := (dC, dI)) (ci := 5) (v := .int cr) (C := RX4) (T := TX4) (N := 20) hx hb hts inn_X4_command_X4 hown hK hP 0 rfl rfl 11 (by decide) (hts (.fieldLink RX4 75 "DoorKeysModel" "crashed" "Z") (by decide +kernel)) (fun _ h9 => h9) rfl dX4_command_56 ?_
            refine lv_if_ne (tgt := 79) hx hb dX4_command_59 (by decide) (fun c_59 => absurd c_24 c_59) (fun c_59 => ?_)
            refine lv_aload_n hx hb dX4_command_62 rfl (lv_at hl 1 rfl) ?_
            refine lv_iconst (v := 0) hx hb dX4_command_63 (by decide) ?_
            refine up_read (W.runV (As := [.int 0]) (rest := []) ⟨hx, hb, hml, hown, hts⟩ (c_X4_some l dC dI cI cJ cZ q aS aC aW aL aN aI aB aD aU aF n gv sz cd sp se ct aw le ne ins ba ((md_turn ((md_turn dd nw cs 0 5 3 0).2.1) nw ((md_turn dd nw cs 0 5 3 0).2.2) 0 5 0 1).2.1) cr nw ((md_turn ((md_turn dd nw cs 0 5 3 0).2.1) nw ((md_turn dd nw cs 0 5 3 0).2.2) 0 5 0 1).2.2) un fr rl qs 0) (cwV 1 hts gX4_command_X4_some rfl rfl rfl (by decide +kernel) ⟨Nat.le_of_ble_eq_true rfl, Nat.le_of_ble_eq_true rfl⟩) (up_preV (q0 := 0) (ci := 5) hP hK hD rfl rfl) rfl rfl hl.1 rfl (lv_room (Nat.le_of_ble_eq_true rfl)) dX4_command_64 ⟨Nat.le_of_ble_eq_true rfl, Nat.le_of_ble_eq_true rfl⟩) ?_
            refine lv_if_ne (tgt := 79) hx hb dX4_command_67 (by decide) (fun c_67 => ?_) (fun c_67 => ?_)
            · have e_ : md_command dd cr nw cs x = ((md_turn ((md_turn dd nw cs 0 5 3 0).2.1) nw ((md_turn dd nw cs 0 5 3 0).2.2) 0 5 0 1).2.1, (md_turn ((md_turn dd nw cs 0 5 3 0).2.1) nw ((md_turn dd nw cs 0 5 3 0).2.2) 0 5 0 1).2.2) := by unfold md_command; exact (if_pos c_3).trans ((if_pos c_17).trans ((if_pos c_24).trans ((if_neg c_38).trans ((if_pos c_52).trans ((if_neg c_67).trans rfl)))))
              rw [e_]
              exact W.vret hx hb hr (fun t ht hW => ⟨rfl, by rw [ht]; exact hP, hS.F ht⟩) hS.2.2 dX4_command_79
            · refine lv_aload_n hx hb dX4_command_70 rfl (lv_at hl 1 rfl) ?_
              refine lv_iconst (v := 0) hx hb dX4_command_71 (by decide) ?_
              refine lv_iconst (v := 5) hx hb dX4_command_72 (by decide) ?_
              refine lv_iconst (v := 3) hx hb dX4_command_73 (by decide) ?_
              refine lv_iconst (v := 2) hx hb dX4_command_74 (by decide) ?_
              refine up_call (W.runV (As := [.int 0, .int 5, .int 3, .int 2]) (rest := []) ⟨hx, hb, hml, hown, hts⟩ (c_X4_turn l dC dI cI cJ cZ q aS aC aW aL aN aI aB aD aU aF n gv sz cd sp se ct aw le ne ins ba ((md_turn ((md_turn dd nw cs 0 5 3 0).2.1) nw ((md_turn dd nw cs 0 5 3 0).2.2) 0 5 0 1).2.1) cr nw ((md_turn ((md_turn dd nw cs 0 5 3 0).2.1) nw ((md_turn dd nw cs 0 5 3 0).2.2) 0 5 0 1).2.2) un fr rl qs 0 5 3 2 (by decide) (by decide)) (cwV 4 hts gX4_command_X4_turn rfl rfl rfl (by decide +kernel) ⟨Nat.le_of_ble_eq_true rfl, Nat.le_of_ble_eq_true rfl⟩) (up_preV (q0 := 0) (ci := 5) hP hK hD rfl rfl) rfl rfl hl.1 rfl (lv_room (Nat.le_of_ble_eq_true rfl)) dX4_command_75 ⟨Nat.le_of_ble_eq_true rfl, Nat.le_of_ble_eq_true rfl⟩) hD hS ((md_fst ..).trans (md_fst ..).symm) (fun H locs hP hD hS _ _ => ?_)
              have hP : va_P (dC, dI) vwCl (mdW cI cJ cZ q aS aC aW aL aN aI aB aD aU aF n gv sz cd sp se ct aw le ne ins ba ((md_turn ((md_turn ((md_turn dd nw cs 0 5 3 0).2.1) nw ((md_turn dd nw cs 0 5 3 0).2.2) 0 5 0 1).2.1) nw ((md_turn ((md_turn dd nw cs 0 5 3 0).2.1) nw ((md_turn dd nw cs 0 5 3 0).2.2) 0 5 0 1).2.2) 0 5 3 2).2.1) cr nw ((md_turn ((md_turn ((md_turn dd nw cs 0 5 3 0).2.1) nw ((md_turn dd nw cs 0 5 3 0).2.2) 0 5 0 1).2.1) nw ((md_turn ((md_turn dd nw cs 0 5 3 0).2.1) nw ((md_turn dd nw cs 0 5 3 0).2.2) 0 5 0 1).2.2) 0 5 3 2).2.2) un fr rl qs) H := hP
              have hD : va_D (up_c (mdW cI cJ cZ q aS aC aW aL aN aI aB aD aU aF n gv sz cd sp se ct aw le ne ins ba dd cr nw cs un fr rl qs)) (mdW cI cJ cZ q aS aC aW aL aN aI aB aD aU aF n gv sz cd sp se ct aw le ne ins ba ((md_turn ((md_turn ((md_turn dd nw cs 0 5 3 0).2.1) nw ((md_turn dd nw cs 0 5 3 0).2.2) 0 5 0 1).2.1) nw ((md_turn ((md_turn dd nw cs 0 5 3 0).2.1) nw ((md_turn dd nw cs 0 5 3 0).2.2) 0 5 0 1).2.2) 0 5 3 2).2.1) cr nw ((md_turn ((md_turn ((md_turn dd nw cs 0 5 3 0).2.1) nw ((md_turn dd nw cs 0 5 3 0).2.2) 0 5 0 1).2.1) nw ((md_turn ((md_turn dd nw cs 0 5 3 0).2.1) nw ((md_turn dd nw cs 0 5 3 0).2.2) 0 5 0 1).2.2) 0 5 3 2).2.2) un fr rl qs) := hD
              refine lv_istore_n (lv' := [(2, .int ((md_turn ((md_turn ((md_turn dd nw cs 0 5 3 0).2.1) nw ((md_turn dd nw cs 0 5 3 0).2.2) 0 5 0 1).2.1) nw ((md_turn ((md_turn dd nw cs 0 5 3 0).2.1) nw ((md_turn dd nw cs 0 5 3 0).2.2) 0 5 0 1).2.2) 0 5 3 2).1)), (0, .ref q), (1, .int x)]) hx hb dX4_command_78 rfl hl (by decide) rfl (fun ls hl => ?_)
              have e_ : md_command dd cr nw cs x = ((md_turn ((md_turn ((md_turn dd nw cs 0 5 3 0).2.1) nw ((md_turn dd nw cs 0 5 3 0).2.2) 0 5 0 1).2.1) nw ((md_turn ((md_turn dd nw cs 0 5 3 0).2.1) nw ((md_turn dd nw cs 0 5 3 0).2.2) 0 5 0 1).2.2) 0 5 3 2).2.1, (md_turn ((md_turn ((md_turn dd nw cs 0 5 3 0).2.1) nw ((md_turn dd nw cs 0 5 3 0).2.2) 0 5 0 1).2.1) nw ((md_turn ((md_turn dd nw cs 0 5 3 0).2.1) nw ((md_turn dd nw cs 0 5 3 0).2.2) 0 5 0 1).2.2) 0 5 3 2).2.2) := by unfold md_command; exact (if_pos c_3).trans ((if_pos c_17).trans ((if_pos c_24).trans ((if_neg c_38).trans ((if_pos c_52).trans ((if_pos c_67).trans rfl)))))
              rw [e_]
              exact W.vret hx hb hr (fun t ht hW => ⟨rfl, by rw [ht]; exact hP, hS.F ht⟩) hS.2.2 dX4_command_79
        · refine lv_aload_n hx hb dX4_command_41 rfl (lv_at hl 1 rfl) ?_
          refine lv_iconst (v := 4) hx hb dX4_command_42 (by decide) ?_
          refine lv_iconst (v := 5) hx hb dX4_command_43 (by decide) ?_
          refine lv_iconst (v := 1) hx hb dX4_command_44 (by decide) ?_
          refine lv_iconst (v := 0) hx hb dX4_command_45 (by decide) ?_
          refine up_call (W.runV (As := [.int 4, .int 5, .int 1, .int 0]) (rest := []) ⟨hx, hb, hml, hown, hts⟩ (c_X4_turn l dC dI cI cJ cZ q aS aC aW aL aN aI aB aD aU aF n gv sz cd sp se ct aw le ne ins ba ((md_turn ((md_turn dd nw cs 0 5 3 0).2.1) nw ((md_turn dd nw cs 0 5 3 0).2.2) 0 5 0 1).2.1) cr nw ((md_turn ((md_turn dd nw cs 0 5 3 0).2.1) nw ((md_turn dd nw cs 0 5 3 0).2.2) 0 5 0 1).2.2) un fr rl qs 4 5 1 0 (by decide) (by decide)) (cwV 4 hts gX4_command_X4_turn rfl rfl rfl (by decide +kernel) ⟨Nat.le_of_ble_eq_true rfl, Nat.le_of_ble_eq_true rfl⟩) (up_preV (q0 := 0) (ci := 5) hP hK hD rfl rfl) rfl rfl hl.1 rfl (lv_room (Nat.le_of_ble_eq_true rfl)) dX4_command_46 ⟨Nat.le_of_ble_eq_true rfl, Nat.le_of_ble_eq_true rfl⟩) hD hS ((md_fst ..).trans (md_fst ..).symm) (fun H locs hP hD hS _ _ => ?_)
          have hP : va_P (dC, dI) vwCl (mdW cI cJ cZ q aS aC aW aL aN aI aB aD aU aF n gv sz cd sp se ct aw le ne ins ba ((md_turn ((md_turn ((md_turn dd nw cs 0 5 3 0).2.1) nw ((md_turn dd nw cs 0 5 3 0).2.2) 0 5 0 1).2.1) nw ((md_turn ((md_turn dd nw cs 0 5 3 0).2.1) nw ((md_turn dd nw cs 0 5 3 0).2.2) 0 5 0 1).2.2) 4 5 1 0).2.1) cr nw ((md_turn ((md_turn ((md_turn dd nw cs 0 5 3 0).2.1) nw ((md_turn dd nw cs 0 5 3 0).2.2) 0 5 0 1).2.1) nw ((md_turn ((md_turn dd nw cs 0 5 3 0).2.1) nw ((md_turn dd nw cs 0 5 3 0).2.2) 0 5 0 1).2.2) 4 5 1 0).2.2) un fr rl qs) H := hP
          have hD : va_D (up_c (mdW cI cJ cZ q aS aC aW aL aN aI aB aD aU aF n gv sz cd sp se ct aw le ne ins ba dd cr nw cs un fr rl qs)) (mdW cI cJ cZ q aS aC aW aL aN aI aB aD aU aF n gv sz cd sp se ct aw le ne ins ba ((md_turn ((md_turn ((md_turn dd nw cs 0 5 3 0).2.1) nw ((md_turn dd nw cs 0 5 3 0).2.2) 0 5 0 1).2.1) nw ((md_turn ((md_turn dd nw cs 0 5 3 0).2.1) nw ((md_turn dd nw cs 0 5 3 0).2.2) 0 5 0 1).2.2) 4 5 1 0).2.1) cr nw ((md_turn ((md_turn ((md_turn dd nw cs 0 5 3 0).2.1) nw ((md_turn dd nw cs 0 5 3 0).2.2) 0 5 0 1).2.1) nw ((md_turn ((md_turn dd nw cs 0 5 3 0).2.1) nw ((md_turn dd nw cs 0 5 3 0).2.2) 0 5 0 1).2.2) 4 5 1 0).2.2) un fr rl qs) := hD
          refine lv_istore_n (lv' := [(2, .int ((md_turn ((md_turn ((md_turn dd nw cs 0 5 3 0).2.1) nw ((md_turn dd nw cs 0 5 3 0).2.2) 0 5 0 1).2.1) nw ((md_turn ((md_turn dd nw cs 0 5 3 0).2.1) nw ((md_turn dd nw cs 0 5 3 0).2.2) 0 5 0 1).2.2) 4 5 1 0).1)), (0, .ref q), (1, .int x)]) hx hb dX4_command_49 rfl hl (by decide) rfl (fun ls hl => ?_)
          refine lv_iload_n hx hb dX4_command_50 rfl (lv_at hl 2 rfl) ?_
          refine lv_iconst (v := 3) hx hb dX4_command_51 (by decide) ?_
          refine lv_icmp_ne (tgt := 79) hx hb dX4_command_52 (by decide) (fun c_52 => ?_) (fun c_52 => ?_)
          · have e_ : md_command dd cr nw cs x = ((md_turn ((md_turn ((md_turn dd nw cs 0 5 3 0).2.1) nw ((md_turn dd nw cs 0 5 3 0).2.2) 0 5 0 1).2.1) nw ((md_turn ((md_turn dd nw cs 0 5 3 0).2.1) nw ((md_turn dd nw cs 0 5 3 0).2.2) 0 5 0 1).2.2) 4 5 1 0).2.1, (md_turn ((md_turn ((md_turn dd nw cs 0 5 3 0).2.1) nw ((md_turn dd nw cs 0 5 3 0).2.2) 0 5 0 1).2.1) nw ((md_turn ((md_turn dd nw cs 0 5 3 0).2.1) nw ((md_turn dd nw cs 0 5 3 0).2.2) 0 5 0 1).2.2) 4 5 1 0).2.2) := by unfold md_command; exact (if_pos c_3).trans ((if_pos c_17).trans ((if_pos c_24).trans ((if_pos c_38).trans ((if_neg c_52).trans rfl))))
            rw [e_]
            exact W.vret hx hb hr (fun t ht hW => ⟨rfl, by rw [ht]; exact hP, hS.F ht⟩) hS.2.2 dX4_command_79
          · refine lv_aload_n hx hb dX4_command_55 rfl (lv_at hl 1 rfl) ?_
            refine va_get (D := (dC, dI)) (ci := 5) (v := .int cr) (C := RX4) (T := TX4) (N := 20) hx hb hts inn_X4_command_X4 hown hK hP 0 rfl rfl 11 (by decide) (hts (.fieldLink RX4 75 "DoorKeysModel" "crashed" "Z") (by decide +kernel)) (fun _ h9 => h9) rfl dX4_command_56 ?_
            refine lv_if_ne (tgt := 79) hx hb dX4_command_59 (by decide) (fun c_59 => absurd c_24 c_59) (fun c_59 => ?_)
            refine lv_aload_n hx hb dX4_command_62 rfl (lv_at hl 1 rfl) ?_
            refine lv_iconst (v := 0) hx hb dX4_command_63 (by decide) ?_
            refine up_read (W.runV (As := [.int 0]) (rest := []) ⟨hx, hb, hml, hown, hts⟩ (c_X4_some l dC dI cI cJ cZ q aS aC aW aL aN aI aB aD aU aF n gv sz cd sp se ct aw le ne ins ba ((md_turn ((md_turn ((md_turn dd nw cs 0 5 3 0).2.1) nw ((md_turn dd nw cs 0 5 3 0).2.2) 0 5 0 1).2.1) nw ((md_turn ((md_turn dd nw cs 0 5 3 0).2.1) nw ((md_turn dd nw cs 0 5 3 0).2.2) 0 5 0 1).2.2) 4 5 1 0).2.1) cr nw ((md_turn ((md_turn ((md_turn dd nw cs 0 5 3 0).2.1) nw ((md_turn dd nw cs 0 5 3 0).2.2) 0 5 0 1).2.1) nw ((md_turn ((md_turn dd nw cs 0 5 3 0).2.1) nw ((md_turn dd nw cs 0 5 3 0).2.2) 0 5 0 1).2.2) 4 5 1 0).2.2) un fr rl qs 0) (cwV 1 hts gX4_command_X4_some rfl rfl rfl (by decide +kernel) ⟨Nat.le_of_ble_eq_true rfl, Nat.le_of_ble_eq_true rfl⟩) (up_preV (q0 := 0) (ci := 5) hP hK hD rfl rfl) rfl rfl hl.1 rfl (lv_room (Nat.le_of_ble_eq_true rfl)) dX4_command_64 ⟨Nat.le_of_ble_eq_true rfl, Nat.le_of_ble_eq_true rfl⟩) ?_
            refine lv_if_ne (tgt := 79) hx hb dX4_command_67 (by decide) (fun c_67 => ?_) (fun c_67 => ?_)
            · have e_ : md_command dd cr nw cs x = ((md_turn ((md_turn ((md_turn dd nw cs 0 5 3 0).2.1) nw ((md_turn dd nw cs 0 5 3 0).2.2) 0 5 0 1).2.1) nw ((md_turn ((md_turn dd nw cs 0 5 3 0).2.1) nw ((md_turn dd nw cs 0 5 3 0).2.2) 0 5 0 1).2.2) 4 5 1 0).2.1, (md_turn ((md_turn ((md_turn dd nw cs 0 5 3 0).2.1) nw ((md_turn dd nw cs 0 5 3 0).2.2) 0 5 0 1).2.1) nw ((md_turn ((md_turn dd nw cs 0 5 3 0).2.1) nw ((md_turn dd nw cs 0 5 3 0).2.2) 0 5 0 1).2.2) 4 5 1 0).2.2) := by unfold md_command; exact (if_pos c_3).trans ((if_pos c_17).trans ((if_pos c_24).trans ((if_pos c_38).trans ((if_pos c_52).trans ((if_neg c_67).trans rfl)))))
              rw [e_]
              exact W.vret hx hb hr (fun t ht hW => ⟨rfl, by rw [ht]; exact hP, hS.F ht⟩) hS.2.2 dX4_command_79
            · refine lv_aload_n hx hb dX4_command_70 rfl (lv_at hl 1 rfl) ?_
              refine lv_iconst (v := 0) hx hb dX4_command_71 (by decide) ?_
              refine lv_iconst (v := 5) hx hb dX4_command_72 (by decide) ?_
              refine lv_iconst (v := 3) hx hb dX4_command_73 (by decide) ?_
              refine lv_iconst (v := 2) hx hb dX4_command_74 (by decide) ?_
              refine up_call (W.runV (As := [.int 0, .int 5, .int 3, .int 2]) (rest := []) ⟨hx, hb, hml, hown, hts⟩ (c_X4_turn l dC dI cI cJ cZ q aS aC aW aL aN aI aB aD aU aF n gv sz cd sp se ct aw le ne ins ba ((md_turn ((md_turn ((md_turn dd nw cs 0 5 3 0).2.1) nw ((md_turn dd nw cs 0 5 3 0).2.2) 0 5 0 1).2.1) nw ((md_turn ((md_turn dd nw cs 0 5 3 0).2.1) nw ((md_turn dd nw cs 0 5 3 0).2.2) 0 5 0 1).2.2) 4 5 1 0).2.1) cr nw ((md_turn ((md_turn ((md_turn dd nw cs 0 5 3 0).2.1) nw ((md_turn dd nw cs 0 5 3 0).2.2) 0 5 0 1).2.1) nw ((md_turn ((md_turn dd nw cs 0 5 3 0).2.1) nw ((md_turn dd nw cs 0 5 3 0).2.2) 0 5 0 1).2.2) 4 5 1 0).2.2) un fr rl qs 0 5 3 2 (by decide) (by decide)) (cwV 4 hts gX4_command_X4_turn rfl rfl rfl (by decide +kernel) ⟨Nat.le_of_ble_eq_true rfl, Nat.le_of_ble_eq_true rfl⟩) (up_preV (q0 := 0) (ci := 5) hP hK hD rfl rfl) rfl rfl hl.1 rfl (lv_room (Nat.le_of_ble_eq_true rfl)) dX4_command_75 ⟨Nat.le_of_ble_eq_true rfl, Nat.le_of_ble_eq_true rfl⟩) hD hS ((md_fst ..).trans (md_fst ..).symm) (fun H locs hP hD hS _ _ => ?_)
              have hP : va_P (dC, dI) vwCl (mdW cI cJ cZ q aS aC aW aL aN aI aB aD aU aF n gv sz cd sp se ct aw le ne ins ba ((md_turn ((md_turn ((md_turn ((md_turn dd nw cs 0 5 3 0).2.1) nw ((md_turn dd nw cs 0 5 3 0).2.2) 0 5 0 1).2.1) nw ((md_turn ((md_turn dd nw cs 0 5 3 0).2.1) nw ((md_turn dd nw cs 0 5 3 0).2.2) 0 5 0 1).2.2) 4 5 1 0).2.1) nw ((md_turn ((md_turn ((md_turn dd nw cs 0 5 3 0).2.1) nw ((md_turn dd nw cs 0 5 3 0).2.2) 0 5 0 1).2.1) nw ((md_turn ((md_turn dd nw cs 0 5 3 0).2.1) nw ((md_turn dd nw cs 0 5 3 0).2.2) 0 5 0 1).2.2) 4 5 1 0).2.2) 0 5 3 2).2.1) cr nw ((md_turn ((md_turn ((md_turn ((md_turn dd nw cs 0 5 3 0).2.1) nw ((md_turn dd nw cs 0 5 3 0).2.2) 0 5 0 1).2.1) nw ((md_turn ((md_turn dd nw cs 0 5 3 0).2.1) nw ((md_turn dd nw cs 0 5 3 0).2.2) 0 5 0 1).2.2) 4 5 1 0).2.1) nw ((md_turn ((md_turn ((md_turn dd nw cs 0 5 3 0).2.1) nw ((md_turn dd nw cs 0 5 3 0).2.2) 0 5 0 1).2.1) nw ((md_turn ((md_turn dd nw cs 0 5 3 0).2.1) nw ((md_turn dd nw cs 0 5 3 0).2.2) 0 5 0 1).2.2) 4 5 1 0).2.2) 0 5 3 2).2.2) un fr rl qs) H := hP
              have hD : va_D (up_c (mdW cI cJ cZ q aS aC aW aL aN aI aB aD aU aF n gv sz cd sp se ct aw le ne ins ba dd cr nw cs un fr rl qs)) (mdW cI cJ cZ q aS aC aW aL aN aI aB aD aU aF n gv sz cd sp se ct aw le ne ins ba ((md_turn ((md_turn ((md_turn ((md_turn dd nw cs 0 5 3 0).2.1) nw ((md_turn dd nw cs 0 5 3 0).2.2) 0 5 0 1).2.1) nw ((md_turn ((md_turn dd nw cs 0 5 3 0).2.1) nw ((md_turn dd nw cs 0 5 3 0).2.2) 0 5 0 1).2.2) 4 5 1 0).2.1) nw ((md_turn ((md_turn ((md_turn dd nw cs 0 5 3 0).2.1) nw ((md_turn dd nw cs 0 5 3 0).2.2) 0 5 0 1).2.1) nw ((md_turn ((md_turn dd nw cs 0 5 3 0).2.1) nw ((md_turn dd nw cs 0 5 3 0).2.2) 0 5 0 1).2.2) 4 5 1 0).2.2) 0 5 3 2).2.1) cr nw ((md_turn ((md_turn ((md_turn ((md_turn dd nw cs 0 5 3 0).2.1) nw ((md_turn dd nw cs 0 5 3 0).2.2) 0 5 0 1).2.1) nw ((md_turn ((md_turn dd nw cs 0 5 3 0).2.1) nw ((md_turn dd nw cs 0 5 3 0).2.2) 0 5 0 1).2.2) 4 5 1 0).2.1) nw ((md_turn ((md_turn ((md_turn dd nw cs 0 5 3 0).2.1) nw ((md_turn dd nw cs 0 5 3 0).2.2) 0 5 0 1).2.1) nw ((md_turn ((md_turn dd nw cs 0 5 3 0).2.1) nw ((md_turn dd nw cs 0 5 3 0).2.2) 0 5 0 1).2.2) 4 5 1 0).2.2) 0 5 3 2).2.2) un fr rl qs) := hD
              refine lv_istore_n (lv' := [(2, .int ((md_turn ((md_turn ((md_turn ((md_turn dd nw cs 0 5 3 0).2.1) nw ((md_turn dd nw cs 0 5 3 0).2.2) 0 5 0 1).2.1) nw ((md_turn ((md_turn dd nw cs 0 5 3 0).2.1) nw ((md_turn dd nw cs 0 5 3 0).2.2) 0 5 0 1).2.2) 4 5 1 0).2.1) nw ((md_turn ((md_turn ((md_turn dd nw cs 0 5 3 0).2.1) nw ((md_turn dd nw cs 0 5 3 0).2.2) 0 5 0 1).2.1) nw ((md_turn ((md_turn dd nw cs 0 5 3 0).2.1) nw ((md_turn dd nw cs 0 5 3 0).2.2) 0 5 0 1).2.2) 4 5 1 0).2.2) 0 5 3 2).1)), (0, .ref q), (1, .int x)]) hx hb dX4_command_78 rfl hl (by decide) rfl (fun ls hl => ?_)
              have e_ : md_command dd cr nw cs x = ((md_turn ((md_turn ((md_turn ((md_turn dd nw cs 0 5 3 0).2.1) nw ((md_turn dd nw cs 0 5 3 0).2.2) 0 5 0 1).2.1) nw ((md_turn ((md_turn dd nw cs 0 5 3 0).2.1) nw ((md_turn dd nw cs 0 5 3 0).2.2) 0 5 0 1).2.2) 4 5 1 0).2.1) nw ((md_turn ((md_turn ((md_turn dd nw cs 0 5 3 0).2.1) nw ((md_turn dd nw cs 0 5 3 0).2.2) 0 5 0 1).2.1) nw ((md_turn ((md_turn dd nw cs 0 5 3 0).2.1) nw ((md_turn dd nw cs 0 5 3 0).2.2) 0 5 0 1).2.2) 4 5 1 0).2.2) 0 5 3 2).2.1, (md_turn ((md_turn ((md_turn ((md_turn dd nw cs 0 5 3 0).2.1) nw ((md_turn dd nw cs 0 5 3 0).2.2) 0 5 0 1).2.1) nw ((md_turn ((md_turn dd nw cs 0 5 3 0).2.1) nw ((md_turn dd nw cs 0 5 3 0).2.2) 0 5 0 1).2.2) 4 5 1 0).2.1) nw ((md_turn ((md_turn ((md_turn dd nw cs 0 5 3 0).2.1) nw ((md_turn dd nw cs 0 5 3 0).2.2) 0 5 0 1).2.1) nw ((md_turn ((md_turn dd nw cs 0 5 3 0).2.1) nw ((md_turn dd nw cs 0 5 3 0).2.2) 0 5 0 1).2.2) 4 5 1 0).2.2) 0 5 3 2).2.2) := by unfold md_command; exact (if_pos c_3).trans ((if_pos c_17).trans ((if_pos c_24).trans ((if_pos c_38).trans ((if_pos c_52).trans ((if_pos c_67).trans rfl)))))
              rw [e_]
              exact W.vret hx hb hr (fun t ht hW => ⟨rfl, by rw [ht]; exact hP, hS.F ht⟩) hS.2.2 dX4_command_79
def md_here (le : Nat → Int32) (ne : Nat → Int32) (ins : Nat → Int32) (x : Int32) : Int32 :=
  if (le x.toNatClampNeg) = 0 then
    (0 : Int32)
  else
    if (ne x.toNatClampNeg) = 0 then
      if (ins x.toNatClampNeg) = 0 then
        (0 : Int32)
      else
        (1 : Int32)
    else
      (1 : Int32)
def rm_X4_here : Room := { frames := 0, cells := 0, slots := 0, locals := 0 }
set_option maxHeartbeats 4000000 in
set_option maxRecDepth 100000 in
theorem c_X4_here (l : Launch) (dC : Nat → ClassId) (dI : Nat → Nat → Nat) (cI : ClassId) (cJ : ClassId) (cZ : ClassId) (q : Nat) (aS : Nat) (aC : Nat) (aW : Nat) (aL : Nat) (aN : Nat) (aI : Nat) (aB : Nat) (aD : Nat) (aU : Nat) (aF : Nat) (n : Nat) (gv : Nat) (sz : Nat) (cd : Int32) (sp : Int32) (se : Nat → Int64) (ct : Nat → Int32) (aw : Nat → Int32) (le : Nat → Int32) (ne : Nat → Int32) (ins : Nat → Int32) (ba : Nat → Int32) (dd : Nat → Int32) (cr : Int32) (nw : Int64) (cs : Int64) (un : Nat → Int32) (fr : Nat → Int32) (rl : Int32) (qs : Int32) (x : Int32) (hi9 : vp_in x 9) : Met l yX4_here wsX4_here rm_X4_here (up_P (dC, dI) vwCl (mdT cI cJ cZ) (mdW cI cJ cZ q aS aC aW aL aN aI aB aD aU aF n gv sz cd sp se ct aw le ne ins ba dd cr nw cs un fr rl qs) [.ref q, .int x]) (k2_QcV (.int (md_here le ne ins x))) 0 0 (fun _ => False) := by
  refine Met.ofW (cc := cX4_here) (maxL := 2) (ret := (some .boolean)) (by decide) rfl ?_
  intro p e s m args below meth c s₁ B hml hv
  obtain ⟨rfl, hP, hK, hD0⟩ := hv
  have hx := B.exec
  have hb := B.bytes
  have hr := B.returns
  have hts := atoms_spec (ws := wsX4_here) B.pre
  have hown : s.vm.findClass RX4 = some m.cls := findClass_of_methodNamed B.named
  have hlocks := B.notSynchronized
  have hD := up_self hD0
  have hS : va_S (up_c (mdW cI cJ cZ q aS aC aW aL aN aI aB aD aU aF n gv sz cd sp se ct aw le ne ins ba dd cr nw cs un fr rl qs)) s.heap s.heap [] := va_S.rf
  have hl := lv_entry ([.ref q, .int x]) (n := 2) (Nat.le_of_ble_eq_true rfl)
  rw [lg_entry_eq]
  generalize (lg_sl ([.ref q, .int x]) ++ List.replicate (2 - (lg_sl ([.ref q, .int x])).length) Slot.unset).toArray = ls at hl ⊢
  have hl : lv_has ls 2 [(0, .ref q), (1, .int x)] := hl
  refine lv_aload_n hx hb dX4_here_0 rfl (lv_at hl 0 rfl) ?_
  refine va_get (D := (dC, dI)) (ci := 5) (v := .ref aL) (C := RX4) (T := TX4) (N := 20) hx hb hts inn_X4_here_X4 hown hK hP 0 rfl rfl 6 (by decide) (hts (.fieldLink RX4 20 "DoorKeysModel" "learned" "[Z") (by decide +kernel)) (fun _ h9 => h9) rfl dX4_here_1 ?_
  refine lv_iload_n hx hb dX4_here_4 rfl (lv_at hl 1 rfl) ?_
  refine va_zald hx hb hK hP 4 2 rfl rfl hi9 dX4_here_5 ?_
  refine lv_if_eq (tgt := 31) hx hb dX4_here_6 (by decide) (fun c_6 => ?_) (fun c_6 => ?_)
  · refine lv_iconst (v := 0) hx hb dX4_here_31 (by decide) ?_
    have e_ : md_here le ne ins x = (0 : Int32) := by unfold md_here; exact (if_pos c_6).trans rfl
    rw [e_]
    exact W.zret (v := 0) hx hb hr (by decide) (fun t ht hW => ⟨rfl, ht⟩) (fun q h => absurd h List.not_mem_nil) dX4_here_32
  · refine lv_aload_n hx hb dX4_here_9 rfl (lv_at hl 0 rfl) ?_
    refine va_get (D := (dC, dI)) (ci := 5) (v := .ref aN) (C := RX4) (T := TX4) (N := 20) hx hb hts inn_X4_here_X4 hown hK hP 0 rfl rfl 7 (by decide) (hts (.fieldLink RX4 24 "DoorKeysModel" "near" "[Z") (by decide +kernel)) (fun _ h9 => h9) rfl dX4_here_10 ?_
    refine lv_iload_n hx hb dX4_here_13 rfl (lv_at hl 1 rfl) ?_
    refine va_zald hx hb hK hP 5 2 rfl rfl hi9 dX4_here_14 ?_
    refine lv_if_ne (tgt := 27) hx hb dX4_here_15 (by decide) (fun c_15 => ?_) (fun c_15 => ?_)
    · refine lv_iconst (v := 1) hx hb dX4_here_27 (by decide) ?_
      refine lv_goto (tgt := 32) hx hb dX4_here_28 (by decide) ?_
      have e_ : md_here le ne ins x = (1 : Int32) := by unfold md_here; exact (if_neg c_6).trans ((if_neg c_15).trans rfl)
      rw [e_]
      exact W.zret (v := 1) hx hb hr (by decide) (fun t ht hW => ⟨rfl, ht⟩) (fun q h => absurd h List.not_mem_nil) dX4_here_32
    · refine lv_aload_n hx hb dX4_here_18 rfl (lv_at hl 0 rfl) ?_
      refine va_get (D := (dC, dI)) (ci := 5) (v := .ref aI) (C := RX4) (T := TX4) (N := 20) hx hb hts inn_X4_here_X4 hown hK hP 0 rfl rfl 8 (by decide) (hts (.fieldLink RX4 27 "DoorKeysModel" "inside" "[Z") (by decide +kernel)) (fun _ h9 => h9) rfl dX4_here_19 ?_
      refine lv_iload_n hx hb dX4_here_22 rfl (lv_at hl 1 rfl) ?_
      refine va_zald hx hb hK hP 6 2 rfl rfl hi9 dX4_here_23 ?_
      refine lv_if_eq (tgt := 31) hx hb dX4_here_24 (by decide) (fun c_24 => ?_) (fun c_24 => ?_)
      · refine lv_iconst (v := 0) hx hb dX4_here_31 (by decide) ?_
        have e_ : md_here le ne ins x = (0 : Int32) := by unfold md_here; exact (if_neg c_6).trans ((if_pos c_15).trans ((if_pos c_24).trans rfl))
        rw [e_]
        exact W.zret (v := 0) hx hb hr (by decide) (fun t ht hW => ⟨rfl, ht⟩) (fun q h => absurd h List.not_mem_nil) dX4_here_32
      · refine lv_iconst (v := 1) hx hb dX4_here_27 (by decide) ?_
        refine lv_goto (tgt := 32) hx hb dX4_here_28 (by decide) ?_
        have e_ : md_here le ne ins x = (1 : Int32) := by unfold md_here; exact (if_neg c_6).trans ((if_pos c_15).trans ((if_neg c_24).trans rfl))
        rw [e_]
        exact W.zret (v := 1) hx hb hr (by decide) (fun t ht hW => ⟨rfl, ht⟩) (fun q h => absurd h List.not_mem_nil) dX4_here_32
def md_far (u : Int32) (x : Int64) (y : Int64) : Int64 :=
  if 2 ≤ u then
    if 4 ≤ u then
      if u = 4 then
        (((x - (-2200)) * (x - (-2200))) + ((y - 0) * (y - 0)))
      else
        if (u - u / 2 * 2) = 0 then
          (((x - (-2200)) * (x - (-2200))) + ((y - 900) * (y - 900)))
        else
          (((x - (-2200)) * (x - (-2200))) + ((y - (-900)) * (y - (-900))))
    else
      if u = 4 then
        (((x - (-500)) * (x - (-500))) + ((y - 0) * (y - 0)))
      else
        if (u - u / 2 * 2) = 0 then
          (((x - (-500)) * (x - (-500))) + ((y - 900) * (y - 900)))
        else
          (((x - (-500)) * (x - (-500))) + ((y - (-900)) * (y - (-900))))
  else
    if u = 4 then
      (((x - 1000) * (x - 1000)) + ((y - 0) * (y - 0)))
    else
      if (u - u / 2 * 2) = 0 then
        (((x - 1000) * (x - 1000)) + ((y - 900) * (y - 900)))
      else
        (((x - 1000) * (x - 1000)) + ((y - (-900)) * (y - (-900))))
def rm_X4_far : Room := { frames := 0, cells := 0, slots := 0, locals := 0 }
set_option maxHeartbeats 4000000 in
set_option maxRecDepth 100000 in
theorem c_X4_far (l : Launch) (dC : Nat → ClassId) (dI : Nat → Nat → Nat) (cI : ClassId) (cJ : ClassId) (cZ : ClassId) (q : Nat) (aS : Nat) (aC : Nat) (aW : Nat) (aL : Nat) (aN : Nat) (aI : Nat) (aB : Nat) (aD : Nat) (aU : Nat) (aF : Nat) (n : Nat) (gv : Nat) (sz : Nat) (cd : Int32) (sp : Int32) (se : Nat → Int64) (ct : Nat → Int32) (aw : Nat → Int32) (le : Nat → Int32) (ne : Nat → Int32) (ins : Nat → Int32) (ba : Nat → Int32) (dd : Nat → Int32) (cr : Int32) (nw : Int64) (cs : Int64) (un : Nat → Int32) (fr : Nat → Int32) (rl : Int32) (qs : Int32) (u : Int32) (x : Int64) (y : Int64) : Met l yX4_far wsX4_far rm_X4_far (up_P (dC, dI) vwCl (mdT cI cJ cZ) (mdW cI cJ cZ q aS aC aW aL aN aI aB aD aU aF n gv sz cd sp se ct aw le ne ins ba dd cr nw cs un fr rl qs) [.int u, .long x, .long y]) (k2_QcV (.long (md_far u x y))) 0 0 (fun _ => False) := by
  refine Met.ofW (cc := cX4_far) (maxL := 9) (ret := (some .long)) (by decide) rfl ?_
  intro p e s m args below meth c s₁ B hml hv
  obtain ⟨rfl, hP, hK, hD0⟩ := hv
  have hx := B.exec
  have hb := B.bytes
  have hr := B.returns
  have hts := atoms_spec (ws := wsX4_far) B.pre
  have hown : s.vm.findClass RX4 = some m.cls := findClass_of_methodNamed B.named
  have hlocks := B.notSynchronized
  have hD := up_self hD0
  have hS : va_S (up_c (mdW cI cJ cZ q aS aC aW aL aN aI aB aD aU aF n gv sz cd sp se ct aw le ne ins ba dd cr nw cs un fr rl qs)) s.heap s.heap [] := va_S.rf
  have hl := lv_entry ([.int u, .long x, .long y]) (n := 9) (Nat.le_of_ble_eq_true rfl)
  rw [lg_entry_eq]
  generalize (lg_sl ([.int u, .long x, .long y]) ++ List.replicate (9 - (lg_sl ([.int u, .long x, .long y])).length) Slot.unset).toArray = ls at hl ⊢
  have hl : lv_has ls 9 [(0, .int u), (1, .long x), (3, .long y)] := hl
  refine lv_lload_n hx hb dX4_far_0 rfl (lv_at hl 1 rfl) ?_
  refine lv_iload_n hx hb dX4_far_1 rfl (lv_at hl 0 rfl) ?_
  refine lv_iconst (v := 2) hx hb dX4_far_2 (by decide) ?_
  refine lv_icmp_ge (tgt := 12) hx hb dX4_far_3 (by decide) (fun c_3 => ?_) (fun c_3 => ?_)
  · refine lv_iload_n hx hb dX4_far_12 rfl (lv_at hl 0 rfl) ?_
    refine lv_iconst (v := 4) hx hb dX4_far_13 (by decide) ?_
    refine lv_icmp_ge (tgt := 23) hx hb dX4_far_14 (by decide) (fun c_14 => ?_) (fun c_14 => ?_)
    · refine lv_ldc2 (v := (-2200)) hx hb hown (hts (.constantLong RX4 111 (-2200)) (by decide +kernel)) dX4_far_23 ?_
      refine lv_lsub hx hb dX4_far_26 ?_
      refine lv_lstore (lv' := [(5, .long (x - (-2200))), (0, .int u), (1, .long x), (3, .long y)]) hx hb dX4_far_27 hl (by decide) rfl (fun ls hl => ?_)
      refine lv_lload_n hx hb dX4_far_29 rfl (lv_at hl 3 rfl) ?_
      refine lv_iload_n hx hb dX4_far_30 rfl (lv_at hl 1 rfl) ?_
      refine lv_iconst (v := 4) hx hb dX4_far_31 (by decide) ?_
      refine lv_icmp_ne (tgt := 39) hx hb dX4_far_32 (by decide) (fun c_32 => ?_) (fun c_32 => ?_)
      · refine lv_iload_n hx hb dX4_far_39 rfl (lv_at hl 1 rfl) ?_
        refine lv_iconst (v := 2) hx hb dX4_far_40 (by decide) ?_
        refine lv_irem hx hb dX4_far_41 (by decide) ?_
        refine lv_if_ne (tgt := 51) hx hb dX4_far_42 (by decide) (fun c_42 => ?_) (fun c_42 => ?_)
        · refine lv_ldc2 (v := (-900)) hx hb hown (hts (.constantLong RX4 115 (-900)) (by decide +kernel)) dX4_far_51 ?_
          refine lv_lsub hx hb dX4_far_54 ?_
          refine lv_lstore (lv' := [(7, .long (y - (-900))), (5, .long (x - (-2200))), (0, .int u), (1, .long x), (3, .long y)]) hx hb dX4_far_55 hl (by decide) rfl (fun ls hl => ?_)
          refine lv_lload hx hb dX4_far_57 (lv_at hl 1 rfl) ?_
          refine lv_lload hx hb dX4_far_59 (lv_at hl 1 rfl) ?_
          refine lv_lmul hx hb dX4_far_61 ?_
          refine lv_lload hx hb dX4_far_62 (lv_at hl 0 rfl) ?_
          refine lv_lload hx hb dX4_far_64 (lv_at hl 0 rfl) ?_
          refine lv_lmul hx hb dX4_far_66 ?_
          refine lv_ladd hx hb dX4_far_67 ?_
          have e_ : md_far u x y = (((x - (-2200)) * (x - (-2200))) + ((y - (-900)) * (y - (-900)))) := by unfold md_far; exact (if_pos c_3).trans ((if_pos c_14).trans ((if_neg c_32).trans ((if_neg c_42).trans rfl)))
          rw [e_]
          exact W.lret (v := (((x - (-2200)) * (x - (-2200))) + ((y - (-900)) * (y - (-900))))) hx hb hr (fun t ht hW => ⟨rfl, ht⟩) (fun q h => absurd h List.not_mem_nil) dX4_far_68
        · refine lv_ldc2 (v := 900) hx hb hown (hts (.constantLong RX4 113 900) (by decide +kernel)) dX4_far_45 ?_
          refine lv_goto (tgt := 54) hx hb dX4_far_48 (by decide) ?_
          refine lv_lsub hx hb dX4_far_54 ?_
          refine lv_lstore (lv' := [(7, .long (y - 900)), (5, .long (x - (-2200))), (0, .int u), (1, .long x), (3, .long y)]) hx hb dX4_far_55 hl (by decide) rfl (fun ls hl => ?_)
          refine lv_lload hx hb dX4_far_57 (lv_at hl 1 rfl) ?_
          refine lv_lload hx hb dX4_far_59 (lv_at hl 1 rfl) ?_
          refine lv_lmul hx hb dX4_far_61 ?_
          refine lv_lload hx hb dX4_far_62 (lv_at hl 0 rfl) ?_
          refine lv_lload hx hb dX4_far_64 (lv_at hl 0 rfl) ?_
          refine lv_lmul hx hb dX4_far_66 ?_
          refine lv_ladd hx hb dX4_far_67 ?_
          have e_ : md_far u x y = (((x - (-2200)) * (x - (-2200))) + ((y - 900) * (y - 900))) := by unfold md_far; exact (if_pos c_3).trans ((if_pos c_14).trans ((if_neg c_32).trans ((if_pos c_42).trans rfl)))
          rw [e_]
          exact W.lret (v := (((x - (-2200)) * (x - (-2200))) + ((y - 900) * (y - 900)))) hx hb hr (fun t ht hW => ⟨rfl, ht⟩) (fun q h => absurd h List.not_mem_nil) dX4_far_68
      · refine lv_lconst (v := 0) hx hb dX4_far_35 (by decide) ?_
        refine lv_goto (tgt := 54) hx hb dX4_far_36 (by decide) ?_
        refine lv_lsub hx hb dX4_far_54 ?_
        refine lv_lstore (lv' := [(7, .long (y - 0)), (5, .long (x - (-2200))), (0, .int u), (1, .long x), (3, .long y)]) hx hb dX4_far_55 hl (by decide) rfl (fun ls hl => ?_)
        refine lv_lload hx hb dX4_far_57 (lv_at hl 1 rfl) ?_
        refine lv_lload hx hb dX4_far_59 (lv_at hl 1 rfl) ?_
        refine lv_lmul hx hb dX4_far_61 ?_
        refine lv_lload hx hb dX4_far_62 (lv_at hl 0 rfl) ?_
        refine lv_lload hx hb dX4_far_64 (lv_at hl 0 rfl) ?_
        refine lv_lmul hx hb dX4_far_66 ?_
        refine lv_ladd hx hb dX4_far_67 ?_
        have e_ : md_far u x y = (((x - (-2200)) * (x - (-2200))) + ((y - 0) * (y - 0))) := by unfold md_far; exact (if_pos c_3).trans ((if_pos c_14).trans ((if_pos c_32).trans rfl))
        rw [e_]
        exact W.lret (v := (((x - (-2200)) * (x - (-2200))) + ((y - 0) * (y - 0)))) hx hb hr (fun t ht hW => ⟨rfl, ht⟩) (fun q h => absurd h List.not_mem_nil) dX4_far_68
    · refine lv_ldc2 (v := (-500)) hx hb hown (hts (.constantLong RX4 109 (-500)) (by decide +kernel)) dX4_far_17 ?_
      refine lv_goto (tgt := 26) hx hb dX4_far_20 (by decide) ?_
      refine lv_lsub hx hb dX4_far_26 ?_
      refine lv_lstore (lv' := [(5, .long (x - (-500))), (0, .int u), (1, .long x), (3, .long y)]) hx hb dX4_far_27 hl (by decide) rfl (fun ls hl => ?_)
      refine lv_lload_n hx hb dX4_far_29 rfl (lv_at hl 3 rfl) ?_
      refine lv_iload_n hx hb dX4_far_30 rfl (lv_at hl 1 rfl) ?_
      refine lv_iconst (v := 4) hx hb dX4_far_31 (by decide) ?_
      refine lv_icmp_ne (tgt := 39) hx hb dX4_far_32 (by decide) (fun c_32 => ?_) (fun c_32 => ?_)
      · refine lv_iload_n hx hb dX4_far_39 rfl (lv_at hl 1 rfl) ?_
        refine lv_iconst (v := 2) hx hb dX4_far_40 (by decide) ?_
        refine lv_irem hx hb dX4_far_41 (by decide) ?_
        refine lv_if_ne (tgt := 51) hx hb dX4_far_42 (by decide) (fun c_42 => ?_) (fun c_42 => ?_)
        · refine lv_ldc2 (v := (-900)) hx hb hown (hts (.constantLong RX4 115 (-900)) (by decide +kernel)) dX4_far_51 ?_
          refine lv_lsub hx hb dX4_far_54 ?_
          refine lv_lstore (lv' := [(7, .long (y - (-900))), (5, .long (x - (-500))), (0, .int u), (1, .long x), (3, .long y)]) hx hb dX4_far_55 hl (by decide) rfl (fun ls hl => ?_)
          refine lv_lload hx hb dX4_far_57 (lv_at hl 1 rfl) ?_
          refine lv_lload hx hb dX4_far_59 (lv_at hl 1 rfl) ?_
          refine lv_lmul hx hb dX4_far_61 ?_
          refine lv_lload hx hb dX4_far_62 (lv_at hl 0 rfl) ?_
          refine lv_lload hx hb dX4_far_64 (lv_at hl 0 rfl) ?_
          refine lv_lmul hx hb dX4_far_66 ?_
          refine lv_ladd hx hb dX4_far_67 ?_
          have e_ : md_far u x y = (((x - (-500)) * (x - (-500))) + ((y - (-900)) * (y - (-900)))) := by unfold md_far; exact (if_pos c_3).trans ((if_neg c_14).trans ((if_neg c_32).trans ((if_neg c_42).trans rfl)))
          rw [e_]
          exact W.lret (v := (((x - (-500)) * (x - (-500))) + ((y - (-900)) * (y - (-900))))) hx hb hr (fun t ht hW => ⟨rfl, ht⟩) (fun q h => absurd h List.not_mem_nil) dX4_far_68
        · refine lv_ldc2 (v := 900) hx hb hown (hts (.constantLong RX4 113 900) (by decide +kernel)) dX4_far_45 ?_
          refine lv_goto (tgt := 54) hx hb dX4_far_48 (by decide) ?_
          refine lv_lsub hx hb dX4_far_54 ?_
          refine lv_lstore (lv' := [(7, .long (y - 900)), (5, .long (x - (-500))), (0, .int u), (1, .long x), (3, .long y)]) hx hb dX4_far_55 hl (by decide) rfl (fun ls hl => ?_)
          refine lv_lload hx hb dX4_far_57 (lv_at hl 1 rfl) ?_
          refine lv_lload hx hb dX4_far_59 (lv_at hl 1 rfl) ?_
          refine lv_lmul hx hb dX4_far_61 ?_
          refine lv_lload hx hb dX4_far_62 (lv_at hl 0 rfl) ?_
          refine lv_lload hx hb dX4_far_64 (lv_at hl 0 rfl) ?_
          refine lv_lmul hx hb dX4_far_66 ?_
          refine lv_ladd hx hb dX4_far_67 ?_
          have e_ : md_far u x y = (((x - (-500)) * (x - (-500))) + ((y - 900) * (y - 900))) := by unfold md_far; exact (if_pos c_3).trans ((if_neg c_14).trans ((if_neg c_32).trans ((if_pos c_42).trans rfl)))
          rw [e_]
          exact W.lret (v := (((x - (-500)) * (x - (-500))) + ((y - 900) * (y - 900)))) hx hb hr (fun t ht hW => ⟨rfl, ht⟩) (fun q h => absurd h List.not_mem_nil) dX4_far_68
      · refine lv_lconst (v := 0) hx hb dX4_far_35 (by decide) ?_
        refine lv_goto (tgt := 54) hx hb dX4_far_36 (by decide) ?_
        refine lv_lsub hx hb dX4_far_54 ?_
        refine lv_lstore (lv' := [(7, .long (y - 0)), (5, .long (x - (-500))), (0, .int u), (1, .long x), (3, .long y)]) hx hb dX4_far_55 hl (by decide) rfl (fun ls hl => ?_)
        refine lv_lload hx hb dX4_far_57 (lv_at hl 1 rfl) ?_
        refine lv_lload hx hb dX4_far_59 (lv_at hl 1 rfl) ?_
        refine lv_lmul hx hb dX4_far_61 ?_
        refine lv_lload hx hb dX4_far_62 (lv_at hl 0 rfl) ?_
        refine lv_lload hx hb dX4_far_64 (lv_at hl 0 rfl) ?_
        refine lv_lmul hx hb dX4_far_66 ?_
        refine lv_ladd hx hb dX4_far_67 ?_
        have e_ : md_far u x y = (((x - (-500)) * (x - (-500))) + ((y - 0) * (y - 0))) := by unfold md_far; exact (if_pos c_3).trans ((if_neg c_14).trans ((if_pos c_32).trans rfl))
        rw [e_]
        exact W.lret (v := (((x - (-500)) * (x - (-500))) + ((y - 0) * (y - 0)))) hx hb hr (fun t ht hW => ⟨rfl, ht⟩) (fun q h => absurd h List.not_mem_nil) dX4_far_68
  · refine lv_ldc2 (v := 1000) hx hb hown (hts (.constantLong RX4 107 1000) (by decide +kernel)) dX4_far_6 ?_
    refine lv_goto (tgt := 26) hx hb dX4_far_9 (by decide) ?_
    refine lv_lsub hx hb dX4_far_26 ?_
    refine lv_lstore (lv' := [(5, .long (x - 1000)), (0, .int u), (1, .long x), (3, .long y)]) hx hb dX4_far_27 hl (by decide) rfl (fun ls hl => ?_)
    refine lv_lload_n hx hb dX4_far_29 rfl (lv_at hl 3 rfl) ?_
    refine lv_iload_n hx hb dX4_far_30 rfl (lv_at hl 1 rfl) ?_
    refine lv_iconst (v := 4) hx hb dX4_far_31 (by decide) ?_
    refine lv_icmp_ne (tgt := 39) hx hb dX4_far_32 (by decide) (fun c_32 => ?_) (fun c_32 => ?_)
    · refine lv_iload_n hx hb dX4_far_39 rfl (lv_at hl 1 rfl) ?_
      refine lv_iconst (v := 2) hx hb dX4_far_40 (by decide) ?_
      refine lv_irem hx hb dX4_far_41 (by decide) ?_
      refine lv_if_ne (tgt := 51) hx hb dX4_far_42 (by decide) (fun c_42 => ?_) (fun c_42 => ?_)
      · refine lv_ldc2 (v := (-900)) hx hb hown (hts (.constantLong RX4 115 (-900)) (by decide +kernel)) dX4_far_51 ?_
        refine lv_lsub hx hb dX4_far_54 ?_
        refine lv_lstore (lv' := [(7, .long (y - (-900))), (5, .long (x - 1000)), (0, .int u), (1, .long x), (3, .long y)]) hx hb dX4_far_55 hl (by decide) rfl (fun ls hl => ?_)
        refine lv_lload hx hb dX4_far_57 (lv_at hl 1 rfl) ?_
        refine lv_lload hx hb dX4_far_59 (lv_at hl 1 rfl) ?_
        refine lv_lmul hx hb dX4_far_61 ?_
        refine lv_lload hx hb dX4_far_62 (lv_at hl 0 rfl) ?_
        refine lv_lload hx hb dX4_far_64 (lv_at hl 0 rfl) ?_
        refine lv_lmul hx hb dX4_far_66 ?_
        refine lv_ladd hx hb dX4_far_67 ?_
        have e_ : md_far u x y = (((x - 1000) * (x - 1000)) + ((y - (-900)) * (y - (-900)))) := by unfold md_far; exact (if_neg c_3).trans ((if_neg c_32).trans ((if_neg c_42).trans rfl))
        rw [e_]
        exact W.lret (v := (((x - 1000) * (x - 1000)) + ((y - (-900)) * (y - (-900))))) hx hb hr (fun t ht hW => ⟨rfl, ht⟩) (fun q h => absurd h List.not_mem_nil) dX4_far_68
      · refine lv_ldc2 (v := 900) hx hb hown (hts (.constantLong RX4 113 900) (by decide +kernel)) dX4_far_45 ?_
        refine lv_goto (tgt := 54) hx hb dX4_far_48 (by decide) ?_
        refine lv_lsub hx hb dX4_far_54 ?_
        refine lv_lstore (lv' := [(7, .long (y - 900)), (5, .long (x - 1000)), (0, .int u), (1, .long x), (3, .long y)]) hx hb dX4_far_55 hl (by decide) rfl (fun ls hl => ?_)
        refine lv_lload hx hb dX4_far_57 (lv_at hl 1 rfl) ?_
        refine lv_lload hx hb dX4_far_59 (lv_at hl 1 rfl) ?_
        refine lv_lmul hx hb dX4_far_61 ?_
        refine lv_lload hx hb dX4_far_62 (lv_at hl 0 rfl) ?_
        refine lv_lload hx hb dX4_far_64 (lv_at hl 0 rfl) ?_
        refine lv_lmul hx hb dX4_far_66 ?_
        refine lv_ladd hx hb dX4_far_67 ?_
        have e_ : md_far u x y = (((x - 1000) * (x - 1000)) + ((y - 900) * (y - 900))) := by unfold md_far; exact (if_neg c_3).trans ((if_neg c_32).trans ((if_pos c_42).trans rfl))
        rw [e_]
        exact W.lret (v := (((x - 1000) * (x - 1000)) + ((y - 900) * (y - 900)))) hx hb hr (fun t ht hW => ⟨rfl, ht⟩) (fun q h => absurd h List.not_mem_nil) dX4_far_68
    · refine lv_lconst (v := 0) hx hb dX4_far_35 (by decide) ?_
      refine lv_goto (tgt := 54) hx hb dX4_far_36 (by decide) ?_
      refine lv_lsub hx hb dX4_far_54 ?_
      refine lv_lstore (lv' := [(7, .long (y - 0)), (5, .long (x - 1000)), (0, .int u), (1, .long x), (3, .long y)]) hx hb dX4_far_55 hl (by decide) rfl (fun ls hl => ?_)
      refine lv_lload hx hb dX4_far_57 (lv_at hl 1 rfl) ?_
      refine lv_lload hx hb dX4_far_59 (lv_at hl 1 rfl) ?_
      refine lv_lmul hx hb dX4_far_61 ?_
      refine lv_lload hx hb dX4_far_62 (lv_at hl 0 rfl) ?_
      refine lv_lload hx hb dX4_far_64 (lv_at hl 0 rfl) ?_
      refine lv_lmul hx hb dX4_far_66 ?_
      refine lv_ladd hx hb dX4_far_67 ?_
      have e_ : md_far u x y = (((x - 1000) * (x - 1000)) + ((y - 0) * (y - 0))) := by unfold md_far; exact (if_neg c_3).trans ((if_pos c_32).trans rfl)
      rw [e_]
      exact W.lret (v := (((x - 1000) * (x - 1000)) + ((y - 0) * (y - 0)))) hx hb hr (fun t ht hW => ⟨rfl, ht⟩) (fun q h => absurd h List.not_mem_nil) dX4_far_68
