/-! the reference, its calls (laid by wip/md.py) -/
set_option maxRecDepth 20000 in
theorem inn_X4_key_X4 : ∀ w ∈ wsX40, w ∈ wsX4_key := by decide +kernel
set_option maxRecDepth 20000 in
theorem inn_X4_counter_X4 : ∀ w ∈ wsX40, w ∈ wsX4_counter := by decide +kernel
set_option maxRecDepth 20000 in
theorem inn_X4_battery_X4 : ∀ w ∈ wsX40, w ∈ wsX4_battery := by decide +kernel
set_option maxRecDepth 20000 in
theorem inn_X4_lock_X4 : ∀ w ∈ wsX40, w ∈ wsX4_lock := by decide +kernel
set_option maxRecDepth 20000 in
theorem inn_X4_learn_X4 : ∀ w ∈ wsX40, w ∈ wsX4_learn := by decide +kernel
set_option maxRecDepth 20000 in
theorem inn_X4_erase_X4 : ∀ w ∈ wsX40, w ∈ wsX4_erase := by decide +kernel
set_option maxRecDepth 20000 in
theorem inn_X4_start_X4 : ∀ w ∈ wsX40, w ∈ wsX4_start := by decide +kernel
set_option maxRecDepth 20000 in
theorem inn_X4_crash_X4 : ∀ w ∈ wsX40, w ∈ wsX4_crash := by decide +kernel
set_option maxRecDepth 20000 in
theorem inn_X4_alarm_X4 : ∀ w ∈ wsX40, w ∈ wsX4_alarm := by decide +kernel
set_option maxRecDepth 20000 in
theorem inn_X4_octet_X4 : ∀ w ∈ wsX40, w ∈ wsX4_octet := by decide +kernel
set_option maxRecDepth 20000 in
theorem inn_X4_state_X4 : ∀ w ∈ wsX40, w ∈ wsX4_state := by decide +kernel
def md_key_l (n : Nat) (se : Nat → Int64) (ct : Nat → Int32) (aw : Nat → Int32) (le : Nat → Int32) (x : Int64) (y : Int64) : Nat → Nat → Int32 × Nat × (Nat → Int64) × (Nat → Int32) × (Nat → Int32) × (Nat → Int32)
  | 0, _ =>
    if (nI n) = 8 then
      (((-4) : Int32), n, se, ct, aw, le)
    else
      if 3 ≤ (nI (n + 1)) then
        ((nI (n + 1)), (n + 1), (vp_updL se ((nI (n + 1)).toNatClampNeg) x), (upd ct ((nI (n + 1)).toNatClampNeg) y.toInt32), (upd aw ((nI (n + 1)).toNatClampNeg) (-1)), (upd le ((nI (n + 1)).toNatClampNeg) 0))
      else
        ((nI (n + 1)), (n + 1), (vp_updL se ((nI (n + 1)).toNatClampNeg) x), (upd ct ((nI (n + 1)).toNatClampNeg) y.toInt32), (upd aw ((nI (n + 1)).toNatClampNeg) (-1)), (upd le ((nI (n + 1)).toNatClampNeg) 1))
  | r + 1, j =>
    if (lg_cmp (se ((nI (j + 1)).toNatClampNeg)) x) = 0 then
      (((-3) : Int32), n, se, ct, aw, le)
    else
      md_key_l n se ct aw le x y r (j + 1)
def md_key (n : Nat) (se : Nat → Int64) (ct : Nat → Int32) (aw : Nat → Int32) (le : Nat → Int32) (x : Int64) (y : Int64) : Int32 × Nat × (Nat → Int64) × (Nat → Int32) × (Nat → Int32) × (Nat → Int32) :=
  if (lg_cmp y 0) < 0 then
    (((-2) : Int32), n, se, ct, aw, le)
  else
    if (lg_cmp y 65535) ≤ 0 then
      md_key_l n se ct aw le x y n 0
    else
      (((-2) : Int32), n, se, ct, aw, le)
def rm_X4_key : Room := { frames := 0, cells := 0, slots := 0, locals := 0 }
set_option maxHeartbeats 4000000 in
set_option maxRecDepth 100000 in
theorem c_X4_key (l : Launch) (dC : Nat → ClassId) (dI : Nat → Nat → Nat) (cI : ClassId) (cJ : ClassId) (cZ : ClassId) (q : Nat) (aS : Nat) (aC : Nat) (aW : Nat) (aL : Nat) (aN : Nat) (aI : Nat) (aB : Nat) (aD : Nat) (aU : Nat) (aF : Nat) (n : Nat) (gv : Nat) (sz : Nat) (cd : Int32) (sp : Int32) (se : Nat → Int64) (ct : Nat → Int32) (aw : Nat → Int32) (le : Nat → Int32) (ne : Nat → Int32) (ins : Nat → Int32) (ba : Nat → Int32) (dd : Nat → Int32) (cr : Int32) (nw : Int64) (cs : Int64) (un : Nat → Int32) (fr : Nat → Int32) (rl : Int32) (qs : Int32) (x : Int64) (y : Int64) (hn : n ≤ 8) : Met l yX4_key wsX4_key rm_X4_key (up_P (dC, dI) vwCl (mdT cI cJ cZ) (mdW cI cJ cZ q aS aC aW aL aN aI aB aD aU aF n gv sz cd sp se ct aw le ne ins ba dd cr nw cs un fr rl qs) [.ref q, .long x, .long y]) (up_Q (dC, dI) vwCl (some (.int ((md_key n se ct aw le x y).1))) (mdW cI cJ cZ q aS aC aW aL aN aI aB aD aU aF n gv sz cd sp se ct aw le ne ins ba dd cr nw cs un fr rl qs) (mdW cI cJ cZ q aS aC aW aL aN aI aB aD aU aF ((md_key n se ct aw le x y).2.1) gv sz 0 sp ((md_key n se ct aw le x y).2.2.1) ((md_key n se ct aw le x y).2.2.2.1) ((md_key n se ct aw le x y).2.2.2.2.1) ((md_key n se ct aw le x y).2.2.2.2.2) ne ins ba dd cr nw cs un fr rl qs)) 0 0 (up_c (mdW cI cJ cZ q aS aC aW aL aN aI aB aD aU aF n gv sz cd sp se ct aw le ne ins ba dd cr nw cs un fr rl qs)) := by
  refine Met.ofW (cc := cX4_key) (maxL := 6) (ret := (some .int)) (by decide) rfl ?_
  intro p e s m args below meth c s₁ B hml hv
  obtain ⟨rfl, hP, hK, hD0⟩ := hv
  have hx := B.exec
  have hb := B.bytes
  have hr := B.returns
  have hts := atoms_spec (ws := wsX4_key) B.pre
  have hown : s.vm.findClass RX4 = some m.cls := findClass_of_methodNamed B.named
  have hlocks := B.notSynchronized
  have hD := up_self hD0
  have hS : va_S (up_c (mdW cI cJ cZ q aS aC aW aL aN aI aB aD aU aF n gv sz cd sp se ct aw le ne ins ba dd cr nw cs un fr rl qs)) s.heap s.heap [] := va_S.rf
  have hl := lv_entry ([.ref q, .long x, .long y]) (n := 6) (Nat.le_of_ble_eq_true rfl)
  rw [lg_entry_eq]
  generalize (lg_sl ([.ref q, .long x, .long y]) ++ List.replicate (6 - (lg_sl ([.ref q, .long x, .long y])).length) Slot.unset).toArray = ls at hl ⊢
  have hl : lv_has ls 6 [(0, .ref q), (1, .long x), (3, .long y)] := hl
  refine lv_aload_n hx hb dX4_key_0 rfl (lv_at hl 0 rfl) ?_
  refine lv_iconst (v := 0) hx hb dX4_key_1 (by decide) ?_
  refine va_put (D := (dC, dI)) (ci := 5) (v := .int 0) (ty := .int) (C := RX4) (T := TX4) (N := 20) hx hb hts inn_X4_key_X4 tyX4 tyX4_ok nmX4 hown hK hP hD hS 0 rfl rfl 0 (by decide) (hts (.fieldLink RX4 46 "DoorKeysModel" "code" "I") (by decide +kernel)) (fun _ h9 => h9) rfl (by decide +kernel) rfl rfl (Nat.le_of_ble_eq_true rfl) dX4_key_2 (fun H locs hP hD hS => ?_)
  have hP : va_P (dC, dI) vwCl (mdW cI cJ cZ q aS aC aW aL aN aI aB aD aU aF n gv sz 0 sp se ct aw le ne ins ba dd cr nw cs un fr rl qs) H := hP
  have hD : va_D (up_c (mdW cI cJ cZ q aS aC aW aL aN aI aB aD aU aF n gv sz cd sp se ct aw le ne ins ba dd cr nw cs un fr rl qs)) (mdW cI cJ cZ q aS aC aW aL aN aI aB aD aU aF n gv sz 0 sp se ct aw le ne ins ba dd cr nw cs un fr rl qs) := hD
  refine lv_lload_n hx hb dX4_key_5 rfl (lv_at hl 2 rfl) ?_
  refine lv_lconst (v := 0) hx hb dX4_key_6 (by decide) ?_
  refine W.lcmp hx hb dX4_key_7 ?_
  refine lv_if_lt (tgt := 19) hx hb dX4_key_8 (by decide) (fun c_8 => ?_) (fun c_8 => ?_)
  · refine lv_bipush (v := (-2)) hx hb dX4_key_19 (by decide) ?_
    have e_ : md_key n se ct aw le x y = (((-2) : Int32), n, se, ct, aw, le) := by unfold md_key; exact (if_pos c_8).trans rfl
    rw [e_]
    exact W.iret (v := (-2)) hx hb hr (fun t ht hW => ⟨rfl, by rw [ht]; exact hP, hS.F ht⟩) hS.2.2 dX4_key_21
  · refine lv_lload_n hx hb dX4_key_11 rfl (lv_at hl 2 rfl) ?_
    refine lv_ldc2 (v := 65535) hx hb hown (hts (.constantLong RX4 52 65535) (by decide +kernel)) dX4_key_12 ?_
    refine W.lcmp hx hb dX4_key_15 ?_
    refine lv_if_le (tgt := 22) hx hb dX4_key_16 (by decide) (fun c_16 => ?_) (fun c_16 => ?_)
    · refine lv_iconst (v := 1) hx hb dX4_key_22 (by decide) ?_
      refine lv_istore (lv' := [(5, .int 1), (0, .ref q), (1, .long x), (3, .long y)]) hx hb dX4_key_23 hl (by decide) rfl (fun ls hl => ?_)
      have lp : ∀ (r j : Nat)  , j + r = n → ∀ ls : Array Slot, lv_has ls 6 [(0, .ref q), (1, .long x), (3, .long y), (5, .int (nI (j + 1)))] → W p l e (headSpec wsX4_key rm_X4_key).room s m ([.ref q, .long x, .long y] : List Value).toArray below meth c H locs 0 0 (MQ below (up_Q (dC, dI) vwCl (some (.int ((md_key_l n se ct aw le x y r j).1))) (mdW cI cJ cZ q aS aC aW aL aN aI aB aD aU aF n gv sz cd sp se ct aw le ne ins ba dd cr nw cs un fr rl qs) (mdW cI cJ cZ q aS aC aW aL aN aI aB aD aU aF ((md_key_l n se ct aw le x y r j).2.1) gv sz 0 sp ((md_key_l n se ct aw le x y r j).2.2.1) ((md_key_l n se ct aw le x y r j).2.2.2.1) ((md_key_l n se ct aw le x y r j).2.2.2.2.1) ((md_key_l n se ct aw le x y r j).2.2.2.2.2) ne ins ba dd cr nw cs un fr rl qs)) ([.ref q, .long x, .long y] : List Value).toArray s 0 0 (up_c (mdW cI cJ cZ q aS aC aW aL aN aI aB aD aU aF n gv sz cd sp se ct aw le ne ins ba dd cr nw cs un fr rl qs))) (F0 m 25 ls []) := by
        intro r
        induction r with
        | zero =>
          intro j hj ls hl
          refine lv_iload hx hb dX4_key_25 (lv_at hl 3 rfl) ?_
          refine lv_aload_n hx hb dX4_key_27 rfl (lv_at hl 0 rfl) ?_
          refine va_get (D := (dC, dI)) (ci := 5) (v := .int (nI n)) (C := RX4) (T := TX4) (N := 20) hx hb hts inn_X4_key_X4 hown hK hP 0 rfl rfl 2 (by decide) (hts (.fieldLink RX4 49 "DoorKeysModel" "keys" "I") (by decide +kernel)) (fun _ h9 => h9) rfl dX4_key_28 ?_
          refine lv_icmp_gt (tgt := 55) hx hb dX4_key_31 (by decide) (fun c_31 => ?_) (fun c_31 => (c_31 (nI_lt (a := n) (b := (j + 1)) (by omega) (by omega))).elim)
          refine lv_aload_n hx hb dX4_key_55 rfl (lv_at hl 0 rfl) ?_
          refine va_get (D := (dC, dI)) (ci := 5) (v := .int (nI n)) (C := RX4) (T := TX4) (N := 20) hx hb hts inn_X4_key_X4 hown hK hP 0 rfl rfl 2 (by decide) (hts (.fieldLink RX4 49 "DoorKeysModel" "keys" "I") (by decide +kernel)) (fun _ h9 => h9) rfl dX4_key_56 ?_
          refine lv_bipush (v := 8) hx hb dX4_key_59 (by decide) ?_
          refine lv_icmp_ne (tgt := 67) hx hb dX4_key_61 (by decide) (fun c_61 => ?_) (fun c_61 => ?_)
          · refine lv_aload_n hx hb dX4_key_67 rfl (lv_at hl 0 rfl) ?_
            refine lv_dup hx hb dX4_key_68 rfl ?_
            refine va_get (D := (dC, dI)) (ci := 5) (v := .int (nI n)) (C := RX4) (T := TX4) (N := 20) hx hb hts inn_X4_key_X4 hown hK hP 0 rfl rfl 2 (by decide) (hts (.fieldLink RX4 49 "DoorKeysModel" "keys" "I") (by decide +kernel)) (fun _ h9 => h9) rfl dX4_key_69 ?_
            refine lv_iconst (v := 1) hx hb dX4_key_72 (by decide) ?_
            refine lv_iadd hx hb dX4_key_73 ?_
            rw [nI_1]
            refine va_put (D := (dC, dI)) (ci := 5) (v := .int (nI (n + 1))) (ty := .int) (C := RX4) (T := TX4) (N := 20) hx hb hts inn_X4_key_X4 tyX4 tyX4_ok nmX4 hown hK hP hD hS 0 rfl rfl 2 (by decide) (hts (.fieldLink RX4 49 "DoorKeysModel" "keys" "I") (by decide +kernel)) (fun _ h9 => h9) rfl (by decide +kernel) rfl rfl (Nat.le_of_ble_eq_true rfl) dX4_key_74 (fun H locs hP hD hS => ?_)
            have hP : va_P (dC, dI) vwCl (mdW cI cJ cZ q aS aC aW aL aN aI aB aD aU aF (n + 1) gv sz 0 sp se ct aw le ne ins ba dd cr nw cs un fr rl qs) H := hP
            have hD : va_D (up_c (mdW cI cJ cZ q aS aC aW aL aN aI aB aD aU aF n gv sz cd sp se ct aw le ne ins ba dd cr nw cs un fr rl qs)) (mdW cI cJ cZ q aS aC aW aL aN aI aB aD aU aF (n + 1) gv sz 0 sp se ct aw le ne ins ba dd cr nw cs un fr rl qs) := hD
            refine lv_aload_n hx hb dX4_key_77 rfl (lv_at hl 0 rfl) ?_
            refine va_get (D := (dC, dI)) (ci := 5) (v := .ref aS) (C := RX4) (T := TX4) (N := 20) hx hb hts inn_X4_key_X4 hown hK hP 0 rfl rfl 3 (by decide) (hts (.fieldLink RX4 7 "DoorKeysModel" "secret" "[J") (by decide +kernel)) (fun _ h9 => h9) rfl dX4_key_78 ?_
            refine lv_aload_n hx hb dX4_key_81 rfl (lv_at hl 0 rfl) ?_
            refine va_get (D := (dC, dI)) (ci := 5) (v := .int (nI (n + 1))) (C := RX4) (T := TX4) (N := 20) hx hb hts inn_X4_key_X4 hown hK hP 0 rfl rfl 2 (by decide) (hts (.fieldLink RX4 49 "DoorKeysModel" "keys" "I") (by decide +kernel)) (fun _ h9 => h9) rfl dX4_key_82 ?_
            refine lv_lload_n hx hb dX4_key_85 rfl (lv_at hl 1 rfl) ?_
            refine va_last hx hb hK hP hD hS 1 1 rfl rfl (vp_in_nI (n := n + 1) (N := 9) (md_n8 hn c_61) (by decide)) dX4_key_86 (fun H locs hP hD hS => ?_)
            have hP : va_P (dC, dI) vwCl (mdW cI cJ cZ q aS aC aW aL aN aI aB aD aU aF (n + 1) gv sz 0 sp (vp_updL se ((nI (n + 1)).toNatClampNeg) x) ct aw le ne ins ba dd cr nw cs un fr rl qs) H := hP
            have hD : va_D (up_c (mdW cI cJ cZ q aS aC aW aL aN aI aB aD aU aF n gv sz cd sp se ct aw le ne ins ba dd cr nw cs un fr rl qs)) (mdW cI cJ cZ q aS aC aW aL aN aI aB aD aU aF (n + 1) gv sz 0 sp (vp_updL se ((nI (n + 1)).toNatClampNeg) x) ct aw le ne ins ba dd cr nw cs un fr rl qs) := hD
            refine lv_aload_n hx hb dX4_key_87 rfl (lv_at hl 0 rfl) ?_
            refine va_get (D := (dC, dI)) (ci := 5) (v := .ref aC) (C := RX4) (T := TX4) (N := 20) hx hb hts inn_X4_key_X4 hown hK hP 0 rfl rfl 4 (by decide) (hts (.fieldLink RX4 13 "DoorKeysModel" "counter" "[I") (by decide +kernel)) (fun _ h9 => h9) rfl dX4_key_88 ?_
            refine lv_aload_n hx hb dX4_key_91 rfl (lv_at hl 0 rfl) ?_
            refine va_get (D := (dC, dI)) (ci := 5) (v := .int (nI (n + 1))) (C := RX4) (T := TX4) (N := 20) hx hb hts inn_X4_key_X4 hown hK hP 0 rfl rfl 2 (by decide) (hts (.fieldLink RX4 49 "DoorKeysModel" "keys" "I") (by decide +kernel)) (fun _ h9 => h9) rfl dX4_key_92 ?_
            refine lv_lload_n hx hb dX4_key_95 rfl (lv_at hl 2 rfl) ?_
            refine lv_l2i (v := y.toInt32) hx hb dX4_key_96 rfl ?_
            refine va_iast hx hb hK hP hD hS 2 0 rfl rfl (vp_in_nI (n := n + 1) (N := 9) (md_n8 hn c_61) (by decide)) dX4_key_97 (fun H locs hP hD hS => ?_)
            have hP : va_P (dC, dI) vwCl (mdW cI cJ cZ q aS aC aW aL aN aI aB aD aU aF (n + 1) gv sz 0 sp (vp_updL se ((nI (n + 1)).toNatClampNeg) x) (upd ct ((nI (n + 1)).toNatClampNeg) y.toInt32) aw le ne ins ba dd cr nw cs un fr rl qs) H := hP
            have hD : va_D (up_c (mdW cI cJ cZ q aS aC aW aL aN aI aB aD aU aF n gv sz cd sp se ct aw le ne ins ba dd cr nw cs un fr rl qs)) (mdW cI cJ cZ q aS aC aW aL aN aI aB aD aU aF (n + 1) gv sz 0 sp (vp_updL se ((nI (n + 1)).toNatClampNeg) x) (upd ct ((nI (n + 1)).toNatClampNeg) y.toInt32) aw le ne ins ba dd cr nw cs un fr rl qs) := hD
            refine lv_aload_n hx hb dX4_key_98 rfl (lv_at hl 0 rfl) ?_
            refine va_get (D := (dC, dI)) (ci := 5) (v := .ref aW) (C := RX4) (T := TX4) (N := 20) hx hb hts inn_X4_key_X4 hown hK hP 0 rfl rfl 5 (by decide) (hts (.fieldLink RX4 17 "DoorKeysModel" "awaited" "[I") (by decide +kernel)) (fun _ h9 => h9) rfl dX4_key_99 ?_
            refine lv_aload_n hx hb dX4_key_102 rfl (lv_at hl 0 rfl) ?_
            refine va_get (D := (dC, dI)) (ci := 5) (v := .int (nI (n + 1))) (C := RX4) (T := TX4) (N := 20) hx hb hts inn_X4_key_X4 hown hK hP 0 rfl rfl 2 (by decide) (hts (.fieldLink RX4 49 "DoorKeysModel" "keys" "I") (by decide +kernel)) (fun _ h9 => h9) rfl dX4_key_103 ?_
            refine lv_iconst (v := (-1)) hx hb dX4_key_106 (by decide) ?_
            refine va_iast hx hb hK hP hD hS 3 0 rfl rfl (vp_in_nI (n := n + 1) (N := 9) (md_n8 hn c_61) (by decide)) dX4_key_107 (fun H locs hP hD hS => ?_)
            have hP : va_P (dC, dI) vwCl (mdW cI cJ cZ q aS aC aW aL aN aI aB aD aU aF (n + 1) gv sz 0 sp (vp_updL se ((nI (n + 1)).toNatClampNeg) x) (upd ct ((nI (n + 1)).toNatClampNeg) y.toInt32) (upd aw ((nI (n + 1)).toNatClampNeg) (-1)) le ne ins ba dd cr nw cs un fr rl qs) H := hP
            have hD : va_D (up_c (mdW cI cJ cZ q aS aC aW aL aN aI aB aD aU aF n gv sz cd sp se ct aw le ne ins ba dd cr nw cs un fr rl qs)) (mdW cI cJ cZ q aS aC aW aL aN aI aB aD aU aF (n + 1) gv sz 0 sp (vp_updL se ((nI (n + 1)).toNatClampNeg) x) (upd ct ((nI (n + 1)).toNatClampNeg) y.toInt32) (upd aw ((nI (n + 1)).toNatClampNeg) (-1)) le ne ins ba dd cr nw cs un fr rl qs) := hD
            refine lv_aload_n hx hb dX4_key_108 rfl (lv_at hl 0 rfl) ?_
            refine va_get (D := (dC, dI)) (ci := 5) (v := .ref aL) (C := RX4) (T := TX4) (N := 20) hx hb hts inn_X4_key_X4 hown hK hP 0 rfl rfl 6 (by decide) (hts (.fieldLink RX4 20 "DoorKeysModel" "learned" "[Z") (by decide +kernel)) (fun _ h9 => h9) rfl dX4_key_109 ?_
            refine lv_aload_n hx hb dX4_key_112 rfl (lv_at hl 0 rfl) ?_
            refine va_get (D := (dC, dI)) (ci := 5) (v := .int (nI (n + 1))) (C := RX4) (T := TX4) (N := 20) hx hb hts inn_X4_key_X4 hown hK hP 0 rfl rfl 2 (by decide) (hts (.fieldLink RX4 49 "DoorKeysModel" "keys" "I") (by decide +kernel)) (fun _ h9 => h9) rfl dX4_key_113 ?_
            refine lv_aload_n hx hb dX4_key_116 rfl (lv_at hl 0 rfl) ?_
            refine va_get (D := (dC, dI)) (ci := 5) (v := .int (nI (n + 1))) (C := RX4) (T := TX4) (N := 20) hx hb hts inn_X4_key_X4 hown hK hP 0 rfl rfl 2 (by decide) (hts (.fieldLink RX4 49 "DoorKeysModel" "keys" "I") (by decide +kernel)) (fun _ h9 => h9) rfl dX4_key_117 ?_
            refine lv_iconst (v := 3) hx hb dX4_key_120 (by decide) ?_
            refine lv_icmp_ge (tgt := 128) hx hb dX4_key_121 (by decide) (fun c_121 => ?_) (fun c_121 => ?_)
            · refine lv_iconst (v := 0) hx hb dX4_key_128 (by decide) ?_
              refine va_zast hx hb hK hP hD hS 4 2 rfl rfl (vp_in_nI (n := n + 1) (N := 9) (md_n8 hn c_61) (by decide)) dX4_key_129 (fun H locs hP hD hS => ?_)
              have hP : va_P (dC, dI) vwCl (mdW cI cJ cZ q aS aC aW aL aN aI aB aD aU aF (n + 1) gv sz 0 sp (vp_updL se ((nI (n + 1)).toNatClampNeg) x) (upd ct ((nI (n + 1)).toNatClampNeg) y.toInt32) (upd aw ((nI (n + 1)).toNatClampNeg) (-1)) (upd le ((nI (n + 1)).toNatClampNeg) 0) ne ins ba dd cr nw cs un fr rl qs) H := hP
              have hD : va_D (up_c (mdW cI cJ cZ q aS aC aW aL aN aI aB aD aU aF n gv sz cd sp se ct aw le ne ins ba dd cr nw cs un fr rl qs)) (mdW cI cJ cZ q aS aC aW aL aN aI aB aD aU aF (n + 1) gv sz 0 sp (vp_updL se ((nI (n + 1)).toNatClampNeg) x) (upd ct ((nI (n + 1)).toNatClampNeg) y.toInt32) (upd aw ((nI (n + 1)).toNatClampNeg) (-1)) (upd le ((nI (n + 1)).toNatClampNeg) 0) ne ins ba dd cr nw cs un fr rl qs) := hD
              refine lv_aload_n hx hb dX4_key_130 rfl (lv_at hl 0 rfl) ?_
              refine va_get (D := (dC, dI)) (ci := 5) (v := .int (nI (n + 1))) (C := RX4) (T := TX4) (N := 20) hx hb hts inn_X4_key_X4 hown hK hP 0 rfl rfl 2 (by decide) (hts (.fieldLink RX4 49 "DoorKeysModel" "keys" "I") (by decide +kernel)) (fun _ h9 => h9) rfl dX4_key_131 ?_
              have e_ : md_key_l n se ct aw le x y 0 j = ((nI (n + 1)), (n + 1), (vp_updL se ((nI (n + 1)).toNatClampNeg) x), (upd ct ((nI (n + 1)).toNatClampNeg) y.toInt32), (upd aw ((nI (n + 1)).toNatClampNeg) (-1)), (upd le ((nI (n + 1)).toNatClampNeg) 0)) := (md_key_l.eq_1 ..).trans ((if_neg c_61).trans ((if_pos c_121).trans rfl))
              rw [e_]
              exact W.iret (v := (nI (n + 1))) hx hb hr (fun t ht hW => ⟨rfl, by rw [ht]; exact hP, hS.F ht⟩) hS.2.2 dX4_key_134
            · refine lv_iconst (v := 1) hx hb dX4_key_124 (by decide) ?_
              refine lv_goto (tgt := 129) hx hb dX4_key_125 (by decide) ?_
              refine va_zast hx hb hK hP hD hS 4 2 rfl rfl (vp_in_nI (n := n + 1) (N := 9) (md_n8 hn c_61) (by decide)) dX4_key_129 (fun H locs hP hD hS => ?_)
              have hP : va_P (dC, dI) vwCl (mdW cI cJ cZ q aS aC aW aL aN aI aB aD aU aF (n + 1) gv sz 0 sp (vp_updL se ((nI (n + 1)).toNatClampNeg) x) (upd ct ((nI (n + 1)).toNatClampNeg) y.toInt32) (upd aw ((nI (n + 1)).toNatClampNeg) (-1)) (upd le ((nI (n + 1)).toNatClampNeg) 1) ne ins ba dd cr nw cs un fr rl qs) H := hP
              have hD : va_D (up_c (mdW cI cJ cZ q aS aC aW aL aN aI aB aD aU aF n gv sz cd sp se ct aw le ne ins ba dd cr nw cs un fr rl qs)) (mdW cI cJ cZ q aS aC aW aL aN aI aB aD aU aF (n + 1) gv sz 0 sp (vp_updL se ((nI (n + 1)).toNatClampNeg) x) (upd ct ((nI (n + 1)).toNatClampNeg) y.toInt32) (upd aw ((nI (n + 1)).toNatClampNeg) (-1)) (upd le ((nI (n + 1)).toNatClampNeg) 1) ne ins ba dd cr nw cs un fr rl qs) := hD
              refine lv_aload_n hx hb dX4_key_130 rfl (lv_at hl 0 rfl) ?_
              refine va_get (D := (dC, dI)) (ci := 5) (v := .int (nI (n + 1))) (C := RX4) (T := TX4) (N := 20) hx hb hts inn_X4_key_X4 hown hK hP 0 rfl rfl 2 (by decide) (hts (.fieldLink RX4 49 "DoorKeysModel" "keys" "I") (by decide +kernel)) (fun _ h9 => h9) rfl dX4_key_131 ?_
              have e_ : md_key_l n se ct aw le x y 0 j = ((nI (n + 1)), (n + 1), (vp_updL se ((nI (n + 1)).toNatClampNeg) x), (upd ct ((nI (n + 1)).toNatClampNeg) y.toInt32), (upd aw ((nI (n + 1)).toNatClampNeg) (-1)), (upd le ((nI (n + 1)).toNatClampNeg) 1)) := (md_key_l.eq_1 ..).trans ((if_neg c_61).trans ((if_neg c_121).trans rfl))
              rw [e_]
              exact W.iret (v := (nI (n + 1))) hx hb hr (fun t ht hW => ⟨rfl, by rw [ht]; exact hP, hS.F ht⟩) hS.2.2 dX4_key_134
          · refine lv_bipush (v := (-4)) hx hb dX4_key_64 (by decide) ?_
            have e_ : md_key_l n se ct aw le x y 0 j = (((-4) : Int32), n, se, ct, aw, le) := (md_key_l.eq_1 ..).trans ((if_pos c_61).trans rfl)
            rw [e_]
            exact W.iret (v := (-4)) hx hb hr (fun t ht hW => ⟨rfl, by rw [ht]; exact hP, hS.F ht⟩) hS.2.2 dX4_key_66
        | succ r ih =>
          intro j hj ls hl
          refine lv_iload hx hb dX4_key_25 (lv_at hl 3 rfl) ?_
          refine lv_aload_n hx hb dX4_key_27 rfl (lv_at hl 0 rfl) ?_
          refine va_get (D := (dC, dI)) (ci := 5) (v := .int (nI n)) (C := RX4) (T := TX4) (N := 20) hx hb hts inn_X4_key_X4 hown hK hP 0 rfl rfl 2 (by decide) (hts (.fieldLink RX4 49 "DoorKeysModel" "keys" "I") (by decide +kernel)) (fun _ h9 => h9) rfl dX4_key_28 ?_
          refine lv_icmp_gt (tgt := 55) hx hb dX4_key_31 (by decide) (fun c_31 => (nI_nlt (a := n) (b := (j + 1)) (by omega) (by omega) c_31).elim) (fun c_31 => ?_)
          refine lv_aload_n hx hb dX4_key_34 rfl (lv_at hl 0 rfl) ?_
          refine va_get (D := (dC, dI)) (ci := 5) (v := .ref aS) (C := RX4) (T := TX4) (N := 20) hx hb hts inn_X4_key_X4 hown hK hP 0 rfl rfl 3 (by decide) (hts (.fieldLink RX4 7 "DoorKeysModel" "secret" "[J") (by decide +kernel)) (fun _ h9 => h9) rfl dX4_key_35 ?_
          refine lv_iload hx hb dX4_key_38 (lv_at hl 3 rfl) ?_
          refine va_lald hx hb hK hP 1 1 rfl rfl (vp_in_nI (n := j + 1) (N := 9) (by omega) (by decide)) dX4_key_40 ?_
          refine lv_lload_n hx hb dX4_key_41 rfl (lv_at hl 1 rfl) ?_
          refine W.lcmp hx hb dX4_key_42 ?_
          refine lv_if_ne (tgt := 49) hx hb dX4_key_43 (by decide) (fun c_43 => ?_) (fun c_43 => ?_)
          · refine lv_iinc (v := (nI ((j + 1) + 1))) (lv' := [(5, .int (nI ((j + 1) + 1))), (0, .ref q), (1, .long x), (3, .long y)]) hx hb dX4_key_49 hl (k := 3) rfl (nI_1 _) (by decide) rfl (fun ls hl => ?_)
            refine lv_goto (tgt := 25) hx hb dX4_key_52 (by decide) ?_
            have e_ : md_key_l n se ct aw le x y (r + 1) j = md_key_l n se ct aw le x y r (j + 1) := (md_key_l.eq_2 ..).trans ((if_neg c_43).trans rfl)
            rw [e_]
            exact ih (j + 1)  (by omega) ls (lv_sub hl [1, 2, 3, 0] rfl)
          · refine lv_bipush (v := (-3)) hx hb dX4_key_46 (by decide) ?_
            have e_ : md_key_l n se ct aw le x y (r + 1) j = (((-3) : Int32), n, se, ct, aw, le) := (md_key_l.eq_2 ..).trans ((if_pos c_43).trans rfl)
            rw [e_]
            exact W.iret (v := (-3)) hx hb hr (fun t ht hW => ⟨rfl, by rw [ht]; exact hP, hS.F ht⟩) hS.2.2 dX4_key_48
      have e_ : md_key n se ct aw le x y = md_key_l n se ct aw le x y n 0 := by unfold md_key; exact (if_neg c_8).trans ((if_pos c_16).trans rfl)
      rw [e_]
      exact lp n 0 (by omega) ls (lv_sub hl [1, 2, 3, 0] rfl)
    · refine lv_bipush (v := (-2)) hx hb dX4_key_19 (by decide) ?_
      have e_ : md_key n se ct aw le x y = (((-2) : Int32), n, se, ct, aw, le) := by unfold md_key; exact (if_neg c_8).trans ((if_neg c_16).trans rfl)
      rw [e_]
      exact W.iret (v := (-2)) hx hb hr (fun t ht hW => ⟨rfl, by rw [ht]; exact hP, hS.F ht⟩) hS.2.2 dX4_key_21
def md_counter (n : Nat) (ct : Nat → Int32) (x : Int32) : Int64 :=
  if md_none n x = 0 then
    (ct x.toNatClampNeg).toInt64
  else
    ((-1) : Int64)
def rm_X4_counter : Room := { frames := 1, cells := 0, slots := 0, locals := 21 }
set_option maxHeartbeats 4000000 in
set_option maxRecDepth 100000 in
theorem c_X4_counter (l : Launch) (dC : Nat → ClassId) (dI : Nat → Nat → Nat) (cI : ClassId) (cJ : ClassId) (cZ : ClassId) (q : Nat) (aS : Nat) (aC : Nat) (aW : Nat) (aL : Nat) (aN : Nat) (aI : Nat) (aB : Nat) (aD : Nat) (aU : Nat) (aF : Nat) (n : Nat) (gv : Nat) (sz : Nat) (cd : Int32) (sp : Int32) (se : Nat → Int64) (ct : Nat → Int32) (aw : Nat → Int32) (le : Nat → Int32) (ne : Nat → Int32) (ins : Nat → Int32) (ba : Nat → Int32) (dd : Nat → Int32) (cr : Int32) (nw : Int64) (cs : Int64) (un : Nat → Int32) (fr : Nat → Int32) (rl : Int32) (qs : Int32) (x : Int32) (hn : n ≤ 8) : Met l yX4_counter wsX4_counter rm_X4_counter (up_P (dC, dI) vwCl (mdT cI cJ cZ) (mdW cI cJ cZ q aS aC aW aL aN aI aB aD aU aF n gv sz cd sp se ct aw le ne ins ba dd cr nw cs un fr rl qs) [.ref q, .int x]) (up_Q (dC, dI) vwCl (some (.long (md_counter n ct x))) (mdW cI cJ cZ q aS aC aW aL aN aI aB aD aU aF n gv sz cd sp se ct aw le ne ins ba dd cr nw cs un fr rl qs) (mdW cI cJ cZ q aS aC aW aL aN aI aB aD aU aF n gv sz 0 sp se ct aw le ne ins ba dd cr nw cs un fr rl qs)) 0 0 (up_c (mdW cI cJ cZ q aS aC aW aL aN aI aB aD aU aF n gv sz cd sp se ct aw le ne ins ba dd cr nw cs un fr rl qs)) := by
  refine Met.ofW (cc := cX4_counter) (maxL := 2) (ret := (some .long)) (by decide) rfl ?_
  intro p e s m args below meth c s₁ B hml hv
  obtain ⟨rfl, hP, hK, hD0⟩ := hv
  have hx := B.exec
  have hb := B.bytes
  have hr := B.returns
  have hts := atoms_spec (ws := wsX4_counter) B.pre
  have hown : s.vm.findClass RX4 = some m.cls := findClass_of_methodNamed B.named
  have hlocks := B.notSynchronized
  have hD := up_self hD0
  have hS : va_S (up_c (mdW cI cJ cZ q aS aC aW aL aN aI aB aD aU aF n gv sz cd sp se ct aw le ne ins ba dd cr nw cs un fr rl qs)) s.heap s.heap [] := va_S.rf
  have hl := lv_entry ([.ref q, .int x]) (n := 2) (Nat.le_of_ble_eq_true rfl)
  rw [lg_entry_eq]
  generalize (lg_sl ([.ref q, .int x]) ++ List.replicate (2 - (lg_sl ([.ref q, .int x])).length) Slot.unset).toArray = ls at hl ⊢
  have hl : lv_has ls 2 [(0, .ref q), (1, .int x)] := hl
  refine lv_aload_n hx hb dX4_counter_0 rfl (lv_at hl 0 rfl) ?_
  refine lv_iload_n hx hb dX4_counter_1 rfl (lv_at hl 1 rfl) ?_
  refine up_call (W.runV (As := [.int x]) (rest := []) ⟨hx, hb, hml, hown, hts⟩ (c_X4_none l dC dI cI cJ cZ q aS aC aW aL aN aI aB aD aU aF n gv sz cd sp se ct aw le ne ins ba dd cr nw cs un fr rl qs x) (cwV 1 hts gX4_counter_X4_none rfl rfl rfl (by decide +kernel) ⟨Nat.le_of_ble_eq_true rfl, Nat.le_of_ble_eq_true rfl⟩) (up_preV (q0 := 0) (ci := 5) hP hK hD rfl rfl) rfl rfl hl.1 rfl (lv_room (Nat.le_of_ble_eq_true rfl)) dX4_counter_2 ⟨Nat.le_of_ble_eq_true rfl, Nat.le_of_ble_eq_true rfl⟩) hD hS ((md_fst ..).trans (md_fst ..).symm) (fun H locs hP hD hS _ _ => ?_)
  have hP : va_P (dC, dI) vwCl (mdW cI cJ cZ q aS aC aW aL aN aI aB aD aU aF n gv sz 0 sp se ct aw le ne ins ba dd cr nw cs un fr rl qs) H := hP
  have hD : va_D (up_c (mdW cI cJ cZ q aS aC aW aL aN aI aB aD aU aF n gv sz cd sp se ct aw le ne ins ba dd cr nw cs un fr rl qs)) (mdW cI cJ cZ q aS aC aW aL aN aI aB aD aU aF n gv sz 0 sp se ct aw le ne ins ba dd cr nw cs un fr rl qs) := hD
  refine lv_if_eq (tgt := 14) hx hb dX4_counter_5 (by decide) (fun c_5 => ?_) (fun c_5 => ?_)
  · refine lv_aload_n hx hb dX4_counter_14 rfl (lv_at hl 0 rfl) ?_
    refine va_get (D := (dC, dI)) (ci := 5) (v := .ref aC) (C := RX4) (T := TX4) (N := 20) hx hb hts inn_X4_counter_X4 hown hK hP 0 rfl rfl 4 (by decide) (hts (.fieldLink RX4 13 "DoorKeysModel" "counter" "[I") (by decide +kernel)) (fun _ h9 => h9) rfl dX4_counter_15 ?_
    refine lv_iload_n hx hb dX4_counter_18 rfl (lv_at hl 1 rfl) ?_
    refine va_iald hx hb hK hP 2 0 rfl rfl (md_none_in hn c_5) dX4_counter_19 ?_
    refine lv_i2l (v := (ct x.toNatClampNeg).toInt64) hx hb dX4_counter_20 rfl ?_
    have e_ : md_counter n ct x = (ct x.toNatClampNeg).toInt64 := by unfold md_counter; exact (if_pos c_5).trans rfl
    rw [e_]
    exact W.lret (v := (ct x.toNatClampNeg).toInt64) hx hb hr (fun t ht hW => ⟨rfl, by rw [ht]; exact hP, hS.F ht⟩) hS.2.2 dX4_counter_21
  · refine lv_ldc2 (v := (-1)) hx hb hown (hts (.constantLong RX4 102 (-1)) (by decide +kernel)) dX4_counter_8 ?_
    refine lv_goto (tgt := 21) hx hb dX4_counter_11 (by decide) ?_
    have e_ : md_counter n ct x = ((-1) : Int64) := by unfold md_counter; exact (if_neg c_5).trans rfl
    rw [e_]
    exact W.lret (v := (-1)) hx hb hr (fun t ht hW => ⟨rfl, by rw [ht]; exact hP, hS.F ht⟩) hS.2.2 dX4_counter_21
def md_battery (n : Nat) (ba : Nat → Int32) (x : Int32) : Int32 :=
  if md_none n x = 0 then
    (ba x.toNatClampNeg)
  else
    ((-1) : Int32)
def rm_X4_battery : Room := { frames := 1, cells := 0, slots := 0, locals := 21 }
set_option maxHeartbeats 4000000 in
set_option maxRecDepth 100000 in
theorem c_X4_battery (l : Launch) (dC : Nat → ClassId) (dI : Nat → Nat → Nat) (cI : ClassId) (cJ : ClassId) (cZ : ClassId) (q : Nat) (aS : Nat) (aC : Nat) (aW : Nat) (aL : Nat) (aN : Nat) (aI : Nat) (aB : Nat) (aD : Nat) (aU : Nat) (aF : Nat) (n : Nat) (gv : Nat) (sz : Nat) (cd : Int32) (sp : Int32) (se : Nat → Int64) (ct : Nat → Int32) (aw : Nat → Int32) (le : Nat → Int32) (ne : Nat → Int32) (ins : Nat → Int32) (ba : Nat → Int32) (dd : Nat → Int32) (cr : Int32) (nw : Int64) (cs : Int64) (un : Nat → Int32) (fr : Nat → Int32) (rl : Int32) (qs : Int32) (x : Int32) (hn : n ≤ 8) : Met l yX4_battery wsX4_battery rm_X4_battery (up_P (dC, dI) vwCl (mdT cI cJ cZ) (mdW cI cJ cZ q aS aC aW aL aN aI aB aD aU aF n gv sz cd sp se ct aw le ne ins ba dd cr nw cs un fr rl qs) [.ref q, .int x]) (up_Q (dC, dI) vwCl (some (.int (md_battery n ba x))) (mdW cI cJ cZ q aS aC aW aL aN aI aB aD aU aF n gv sz cd sp se ct aw le ne ins ba dd cr nw cs un fr rl qs) (mdW cI cJ cZ q aS aC aW aL aN aI aB aD aU aF n gv sz 0 sp se ct aw le ne ins ba dd cr nw cs un fr rl qs)) 0 0 (up_c (mdW cI cJ cZ q aS aC aW aL aN aI aB aD aU aF n gv sz cd sp se ct aw le ne ins ba dd cr nw cs un fr rl qs)) := by
  refine Met.ofW (cc := cX4_battery) (maxL := 2) (ret := (some .int)) (by decide) rfl ?_
  intro p e s m args below meth c s₁ B hml hv
  obtain ⟨rfl, hP, hK, hD0⟩ := hv
  have hx := B.exec
  have hb := B.bytes
  have hr := B.returns
  have hts := atoms_spec (ws := wsX4_battery) B.pre
  have hown : s.vm.findClass RX4 = some m.cls := findClass_of_methodNamed B.named
  have hlocks := B.notSynchronized
  have hD := up_self hD0
  have hS : va_S (up_c (mdW cI cJ cZ q aS aC aW aL aN aI aB aD aU aF n gv sz cd sp se ct aw le ne ins ba dd cr nw cs un fr rl qs)) s.heap s.heap [] := va_S.rf
  have hl := lv_entry ([.ref q, .int x]) (n := 2) (Nat.le_of_ble_eq_true rfl)
  rw [lg_entry_eq]
  generalize (lg_sl ([.ref q, .int x]) ++ List.replicate (2 - (lg_sl ([.ref q, .int x])).length) Slot.unset).toArray = ls at hl ⊢
  have hl : lv_has ls 2 [(0, .ref q), (1, .int x)] := hl
  refine lv_aload_n hx hb dX4_battery_0 rfl (lv_at hl 0 rfl) ?_
  refine lv_iload_n hx hb dX4_battery_1 rfl (lv_at hl 1 rfl) ?_
  refine up_call (W.runV (As := [.int x]) (rest := []) ⟨hx, hb, hml, hown, hts⟩ (c_X4_none l dC dI cI cJ cZ q aS aC aW aL aN aI aB aD aU aF n gv sz cd sp se ct aw le ne ins ba dd cr nw cs un fr rl qs x) (cwV 1 hts gX4_battery_X4_none rfl rfl rfl (by decide +kernel) ⟨Nat.le_of_ble_eq_true rfl, Nat.le_of_ble_eq_true rfl⟩) (up_preV (q0 := 0) (ci := 5) hP hK hD rfl rfl) rfl rfl hl.1 rfl (lv_room (Nat.le_of_ble_eq_true rfl)) dX4_battery_2 ⟨Nat.le_of_ble_eq_true rfl, Nat.le_of_ble_eq_true rfl⟩) hD hS ((md_fst ..).trans (md_fst ..).symm) (fun H locs hP hD hS _ _ => ?_)
  have hP : va_P (dC, dI) vwCl (mdW cI cJ cZ q aS aC aW aL aN aI aB aD aU aF n gv sz 0 sp se ct aw le ne ins ba dd cr nw cs un fr rl qs) H := hP
  have hD : va_D (up_c (mdW cI cJ cZ q aS aC aW aL aN aI aB aD aU aF n gv sz cd sp se ct aw le ne ins ba dd cr nw cs un fr rl qs)) (mdW cI cJ cZ q aS aC aW aL aN aI aB aD aU aF n gv sz 0 sp se ct aw le ne ins ba dd cr nw cs un fr rl qs) := hD
  refine lv_if_eq (tgt := 12) hx hb dX4_battery_5 (by decide) (fun c_5 => ?_) (fun c_5 => ?_)
  · refine lv_aload_n hx hb dX4_battery_12 rfl (lv_at hl 0 rfl) ?_
    refine va_get (D := (dC, dI)) (ci := 5) (v := .ref aB) (C := RX4) (T := TX4) (N := 20) hx hb hts inn_X4_battery_X4 hown hK hP 0 rfl rfl 9 (by decide) (hts (.fieldLink RX4 30 "DoorKeysModel" "battery" "[I") (by decide +kernel)) (fun _ h9 => h9) rfl dX4_battery_13 ?_
    refine lv_iload_n hx hb dX4_battery_16 rfl (lv_at hl 1 rfl) ?_
    refine va_iald hx hb hK hP 7 0 rfl rfl (md_none_in hn c_5) dX4_battery_17 ?_
    have e_ : md_battery n ba x = (ba x.toNatClampNeg) := by unfold md_battery; exact (if_pos c_5).trans rfl
    rw [e_]
    exact W.iret (v := (ba x.toNatClampNeg)) hx hb hr (fun t ht hW => ⟨rfl, by rw [ht]; exact hP, hS.F ht⟩) hS.2.2 dX4_battery_18
  · refine lv_iconst (v := (-1)) hx hb dX4_battery_8 (by decide) ?_
    refine lv_goto (tgt := 18) hx hb dX4_battery_9 (by decide) ?_
    have e_ : md_battery n ba x = ((-1) : Int32) := by unfold md_battery; exact (if_neg c_5).trans rfl
    rw [e_]
    exact W.iret (v := (-1)) hx hb hr (fun t ht hW => ⟨rfl, by rw [ht]; exact hP, hS.F ht⟩) hS.2.2 dX4_battery_18
def md_lock (dd : Nat → Int32) (cr : Int32) (nw : Int64) (cs : Int64) (x : Int32) : Int32 × (Nat → Int32) × Int64 :=
  if x < 0 then
    (((-2) : Int32), dd, cs)
  else
    if x ≤ 3 then
      if 3 ≤ x then
        if x = 0 then
          ((md_turn dd nw cs 0 5 0 1).1, (md_turn dd nw cs 0 5 0 1).2.1, (md_turn dd nw cs 0 5 0 1).2.2)
        else
          if x = 1 then
            if md_some dd 0 = 0 then
              ((md_turn dd nw cs 0 5 3 2).1, (md_turn dd nw cs 0 5 3 2).2.1, (md_turn dd nw cs 0 5 3 2).2.2)
            else
              ((0 : Int32), dd, cs)
          else
            if x = 2 then
              ((md_turn dd nw cs 4 5 0 1).1, (md_turn dd nw cs 4 5 0 1).2.1, (md_turn dd nw cs 4 5 0 1).2.2)
            else
              if md_some dd 2 = 0 then
                ((md_turn dd nw cs 0 5 3 0).1, (md_turn dd nw cs 0 5 3 0).2.1, (md_turn dd nw cs 0 5 3 0).2.2)
              else
                ((0 : Int32), dd, cs)
      else
        if cr = 0 then
          if x = 0 then
            ((md_turn dd nw cs 0 5 0 1).1, (md_turn dd nw cs 0 5 0 1).2.1, (md_turn dd nw cs 0 5 0 1).2.2)
          else
            if x = 1 then
              if md_some dd 0 = 0 then
                ((md_turn dd nw cs 0 5 3 2).1, (md_turn dd nw cs 0 5 3 2).2.1, (md_turn dd nw cs 0 5 3 2).2.2)
              else
                ((0 : Int32), dd, cs)
            else
              if x = 2 then
                ((md_turn dd nw cs 4 5 0 1).1, (md_turn dd nw cs 4 5 0 1).2.1, (md_turn dd nw cs 4 5 0 1).2.2)
              else
                if md_some dd 2 = 0 then
                  ((md_turn dd nw cs 0 5 3 0).1, (md_turn dd nw cs 0 5 3 0).2.1, (md_turn dd nw cs 0 5 3 0).2.2)
                else
                  ((0 : Int32), dd, cs)
        else
          (((-3) : Int32), dd, cs)
    else
      (((-2) : Int32), dd, cs)
def rm_X4_lock : Room := { frames := 2, cells := 0, slots := 0, locals := 50 }
set_option maxHeartbeats 4000000 in
set_option maxRecDepth 100000 in
theorem c_X4_lock (l : Launch) (dC : Nat → ClassId) (dI : Nat → Nat → Nat) (cI : ClassId) (cJ : ClassId) (cZ : ClassId) (q : Nat) (aS : Nat) (aC : Nat) (aW : Nat) (aL : Nat) (aN : Nat) (aI : Nat) (aB : Nat) (aD : Nat) (aU : Nat) (aF : Nat) (n : Nat) (gv : Nat) (sz : Nat) (cd : Int32) (sp : Int32) (se : Nat → Int64) (ct : Nat → Int32) (aw : Nat → Int32) (le : Nat → Int32) (ne : Nat → Int32) (ins : Nat → Int32) (ba : Nat → Int32) (dd : Nat → Int32) (cr : Int32) (nw : Int64) (cs : Int64) (un : Nat → Int32) (fr : Nat → Int32) (rl : Int32) (qs : Int32) (x : Int32) : Met l yX4_lock wsX4_lock rm_X4_lock (up_P (dC, dI) vwCl (mdT cI cJ cZ) (mdW cI cJ cZ q aS aC aW aL aN aI aB aD aU aF n gv sz cd sp se ct aw le ne ins ba dd cr nw cs un fr rl qs) [.ref q, .int x]) (up_Q (dC, dI) vwCl (some (.int ((md_lock dd cr nw cs x).1))) (mdW cI cJ cZ q aS aC aW aL aN aI aB aD aU aF n gv sz cd sp se ct aw le ne ins ba dd cr nw cs un fr rl qs) (mdW cI cJ cZ q aS aC aW aL aN aI aB aD aU aF n gv sz 0 sp se ct aw le ne ins ba ((md_lock dd cr nw cs x).2.1) cr nw ((md_lock dd cr nw cs x).2.2) un fr rl qs)) 0 0 (up_c (mdW cI cJ cZ q aS aC aW aL aN aI aB aD aU aF n gv sz cd sp se ct aw le ne ins ba dd cr nw cs un fr rl qs)) := by
  refine Met.ofW (cc := cX4_lock) (maxL := 2) (ret := (some .int)) (by decide) rfl ?_
  intro p e s m args below meth c s₁ B hml hv
  obtain ⟨rfl, hP, hK, hD0⟩ := hv
  have hx := B.exec
  have hb := B.bytes
  have hr := B.returns
  have hts := atoms_spec (ws := wsX4_lock) B.pre
  have hown : s.vm.findClass RX4 = some m.cls := findClass_of_methodNamed B.named
  have hlocks := B.notSynchronized
  have hD := up_self hD0
  have hS : va_S (up_c (mdW cI cJ cZ q aS aC aW aL aN aI aB aD aU aF n gv sz cd sp se ct aw le ne ins ba dd cr nw cs un fr rl qs)) s.heap s.heap [] := va_S.rf
  have hl := lv_entry ([.ref q, .int x]) (n := 2) (Nat.le_of_ble_eq_true rfl)
  rw [lg_entry_eq]
  generalize (lg_sl ([.ref q, .int x]) ++ List.replicate (2 - (lg_sl ([.ref q, .int x])).length) Slot.unset).toArray = ls at hl ⊢
  have hl : lv_has ls 2 [(0, .ref q), (1, .int x)] := hl
  refine lv_aload_n hx hb dX4_lock_0 rfl (lv_at hl 0 rfl) ?_
  refine lv_iconst (v := 0) hx hb dX4_lock_1 (by decide) ?_
  refine va_put (D := (dC, dI)) (ci := 5) (v := .int 0) (ty := .int) (C := RX4) (T := TX4) (N := 20) hx hb hts inn_X4_lock_X4 tyX4 tyX4_ok nmX4 hown hK hP hD hS 0 rfl rfl 0 (by decide) (hts (.fieldLink RX4 46 "DoorKeysModel" "code" "I") (by decide +kernel)) (fun _ h9 => h9) rfl (by decide +kernel) rfl rfl (Nat.le_of_ble_eq_true rfl) dX4_lock_2 (fun H locs hP hD hS => ?_)
  have hP : va_P (dC, dI) vwCl (mdW cI cJ cZ q aS aC aW aL aN aI aB aD aU aF n gv sz 0 sp se ct aw le ne ins ba dd cr nw cs un fr rl qs) H := hP
  have hD : va_D (up_c (mdW cI cJ cZ q aS aC aW aL aN aI aB aD aU aF n gv sz cd sp se ct aw le ne ins ba dd cr nw cs un fr rl qs)) (mdW cI cJ cZ q aS aC aW aL aN aI aB aD aU aF n gv sz 0 sp se ct aw le ne ins ba dd cr nw cs un fr rl qs) := hD
  refine lv_iload_n hx hb dX4_lock_5 rfl (lv_at hl 1 rfl) ?_
  refine lv_if_lt (tgt := 14) hx hb dX4_lock_6 (by decide) (fun c_6 => ?_) (fun c_6 => ?_)
  · refine lv_bipush (v := (-2)) hx hb dX4_lock_14 (by decide) ?_
    have e_ : md_lock dd cr nw cs x = (((-2) : Int32), dd, cs) := by unfold md_lock; exact (if_pos c_6).trans rfl
    rw [e_]
    exact W.iret (v := (-2)) hx hb hr (fun t ht hW => ⟨rfl, by rw [ht]; exact hP, hS.F ht⟩) hS.2.2 dX4_lock_16
  · refine lv_iload_n hx hb dX4_lock_9 rfl (lv_at hl 1 rfl) ?_
    refine lv_iconst (v := 3) hx hb dX4_lock_10 (by decide) ?_
    refine lv_icmp_le (tgt := 17) hx hb dX4_lock_11 (by decide) (fun c_11 => ?_) (fun c_11 => ?_)
    · refine lv_iload_n hx hb dX4_lock_17 rfl (lv_at hl 1 rfl) ?_
      refine lv_iconst (v := 3) hx hb dX4_lock_18 (by decide) ?_
      refine lv_icmp_ge (tgt := 32) hx hb dX4_lock_19 (by decide) (fun c_19 => ?_) (fun c_19 => ?_)
      · refine lv_iload_n hx hb dX4_lock_32 rfl (lv_at hl 1 rfl) ?_
        refine lv_if_ne (tgt := 45) hx hb dX4_lock_33 (by decide) (fun c_33 => ?_) (fun c_33 => ?_)
        · refine lv_iload_n hx hb dX4_lock_45 rfl (lv_at hl 1 rfl) ?_
          refine lv_iconst (v := 1) hx hb dX4_lock_46 (by decide) ?_
          refine lv_icmp_ne (tgt := 71) hx hb dX4_lock_47 (by decide) (fun c_47 => ?_) (fun c_47 => ?_)
          · refine lv_iload_n hx hb dX4_lock_71 rfl (lv_at hl 1 rfl) ?_
            refine lv_iconst (v := 2) hx hb dX4_lock_72 (by decide) ?_
            refine lv_icmp_ne (tgt := 85) hx hb dX4_lock_73 (by decide) (fun c_73 => ?_) (fun c_73 => ?_)
            · refine lv_aload_n hx hb dX4_lock_85 rfl (lv_at hl 0 rfl) ?_
              refine lv_iconst (v := 2) hx hb dX4_lock_86 (by decide) ?_
              refine up_read (W.runV (As := [.int 2]) (rest := []) ⟨hx, hb, hml, hown, hts⟩ (c_X4_some l dC dI cI cJ cZ q aS aC aW aL aN aI aB aD aU aF n gv sz 0 sp se ct aw le ne ins ba dd cr nw cs un fr rl qs 2) (cwV 1 hts gX4_lock_X4_some rfl rfl rfl (by decide +kernel) ⟨Nat.le_of_ble_eq_true rfl, Nat.le_of_ble_eq_true rfl⟩) (up_preV (q0 := 0) (ci := 5) hP hK hD rfl rfl) rfl rfl hl.1 rfl (lv_room (Nat.le_of_ble_eq_true rfl)) dX4_lock_87 ⟨Nat.le_of_ble_eq_true rfl, Nat.le_of_ble_eq_true rfl⟩) ?_
              refine lv_if_eq (tgt := 97) hx hb dX4_lock_90 (by decide) (fun c_90 => ?_) (fun c_90 => ?_)
              · refine lv_aload_n hx hb dX4_lock_97 rfl (lv_at hl 0 rfl) ?_
                refine lv_iconst (v := 0) hx hb dX4_lock_98 (by decide) ?_
                refine lv_iconst (v := 5) hx hb dX4_lock_99 (by decide) ?_
                refine lv_iconst (v := 3) hx hb dX4_lock_100 (by decide) ?_
                refine lv_iconst (v := 0) hx hb dX4_lock_101 (by decide) ?_
                refine up_call (W.runV (As := [.int 0, .int 5, .int 3, .int 0]) (rest := []) ⟨hx, hb, hml, hown, hts⟩ (c_X4_turn l dC dI cI cJ cZ q aS aC aW aL aN aI aB aD aU aF n gv sz 0 sp se ct aw le ne ins ba dd cr nw cs un fr rl qs 0 5 3 0 (by decide) (by decide)) (cwV 4 hts gX4_lock_X4_turn rfl rfl rfl (by decide +kernel) ⟨Nat.le_of_ble_eq_true rfl, Nat.le_of_ble_eq_true rfl⟩) (up_preV (q0 := 0) (ci := 5) hP hK hD rfl rfl) rfl rfl hl.1 rfl (lv_room (Nat.le_of_ble_eq_true rfl)) dX4_lock_102 ⟨Nat.le_of_ble_eq_true rfl, Nat.le_of_ble_eq_true rfl⟩) hD hS ((md_fst ..).trans (md_fst ..).symm) (fun H locs hP hD hS _ _ => ?_)
                have hP : va_P (dC, dI) vwCl (mdW cI cJ cZ q aS aC aW aL aN aI aB aD aU aF n gv sz 0 sp se ct aw le ne ins ba ((md_turn dd nw cs 0 5 3 0).2.1) cr nw ((md_turn dd nw cs 0 5 3 0).2.2) un fr rl qs) H := hP
                have hD : va_D (up_c (mdW cI cJ cZ q aS aC aW aL aN aI aB aD aU aF n gv sz cd sp se ct aw le ne ins ba dd cr nw cs un fr rl qs)) (mdW cI cJ cZ q aS aC aW aL aN aI aB aD aU aF n gv sz 0 sp se ct aw le ne ins ba ((md_turn dd nw cs 0 5 3 0).2.1) cr nw ((md_turn dd nw cs 0 5 3 0).2.2) un fr rl qs) := hD
                have e_ : md_lock dd cr nw cs x = ((md_turn dd nw cs 0 5 3 0).1, (md_turn dd nw cs 0 5 3 0).2.1, (md_turn dd nw cs 0 5 3 0).2.2) := by unfold md_lock; exact (if_neg c_6).trans ((if_pos c_11).trans ((if_pos c_19).trans ((if_neg c_33).trans ((if_neg c_47).trans ((if_neg c_73).trans ((if_pos c_90).trans rfl))))))
                rw [e_]
                exact W.iret (v := (md_turn dd nw cs 0 5 3 0).1) hx hb hr (fun t ht hW => ⟨rfl, by rw [ht]; exact hP, hS.F ht⟩) hS.2.2 dX4_lock_105
              · refine lv_iconst (v := 0) hx hb dX4_lock_93 (by decide) ?_
                refine lv_goto (tgt := 105) hx hb dX4_lock_94 (by decide) ?_
                have e_ : md_lock dd cr nw cs x = ((0 : Int32), dd, cs) := by unfold md_lock; exact (if_neg c_6).trans ((if_pos c_11).trans ((if_pos c_19).trans ((if_neg c_33).trans ((if_neg c_47).trans ((if_neg c_73).trans ((if_neg c_90).trans rfl))))))
                rw [e_]
                exact W.iret (v := 0) hx hb hr (fun t ht hW => ⟨rfl, by rw [ht]; exact hP, hS.F ht⟩) hS.2.2 dX4_lock_105
            · refine lv_aload_n hx hb dX4_lock_76 rfl (lv_at hl 0 rfl) ?_
              refine lv_iconst (v := 4) hx hb dX4_lock_77 (by decide) ?_
              refine lv_iconst (v := 5) hx hb dX4_lock_78 (by decide) ?_
              refine lv_iconst (v := 0) hx hb dX4_lock_79 (by decide) ?_
              refine lv_iconst (v := 1) hx hb dX4_lock_80 (by decide) ?_
              refine up_call (W.runV (As := [.int 4, .int 5, .int 0, .int 1]) (rest := []) ⟨hx, hb, hml, hown, hts⟩ (c_X4_turn l dC dI cI cJ cZ q aS aC aW aL aN aI aB aD aU aF n gv sz 0 sp se ct aw le ne ins ba dd cr nw cs un fr rl qs 4 5 0 1 (by decide) (by decide)) (cwV 4 hts gX4_lock_X4_turn rfl rfl rfl (by decide +kernel) ⟨Nat.le_of_ble_eq_true rfl, Nat.le_of_ble_eq_true rfl⟩) (up_preV (q0 := 0) (ci := 5) hP hK hD rfl rfl) rfl rfl hl.1 rfl (lv_room (Nat.le_of_ble_eq_true rfl)) dX4_lock_81 ⟨Nat.le_of_ble_eq_true rfl, Nat.le_of_ble_eq_true rfl⟩) hD hS ((md_fst ..).trans (md_fst ..).symm) (fun H locs hP hD hS _ _ => ?_)
              have hP : va_P (dC, dI) vwCl (mdW cI cJ cZ q aS aC aW aL aN aI aB aD aU aF n gv sz 0 sp se ct aw le ne ins ba ((md_turn dd nw cs 4 5 0 1).2.1) cr nw ((md_turn dd nw cs 4 5 0 1).2.2) un fr rl qs) H := hP
              have hD : va_D (up_c (mdW cI cJ cZ q aS aC aW aL aN aI aB aD aU aF n gv sz cd sp se ct aw le ne ins ba dd cr nw cs un fr rl qs)) (mdW cI cJ cZ q aS aC aW aL aN aI aB aD aU aF n gv sz 0 sp se ct aw le ne ins ba ((md_turn dd nw cs 4 5 0 1).2.1) cr nw ((md_turn dd nw cs 4 5 0 1).2.2) un fr rl qs) := hD
              have e_ : md_lock dd cr nw cs x = ((md_turn dd nw cs 4 5 0 1).1, (md_turn dd nw cs 4 5 0 1).2.1, (md_turn dd nw cs 4 5 0 1).2.2) := by unfold md_lock; exact (if_neg c_6).trans ((if_pos c_11).trans ((if_pos c_19).trans ((if_neg c_33).trans ((if_neg c_47).trans ((if_pos c_73).trans rfl)))))
              rw [e_]
              exact W.iret (v := (md_turn dd nw cs 4 5 0 1).1) hx hb hr (fun t ht hW => ⟨rfl, by rw [ht]; exact hP, hS.F ht⟩) hS.2.2 dX4_lock_84
          · refine lv_aload_n hx hb dX4_lock_50 rfl (lv_at hl 0 rfl) ?_
            refine lv_iconst (v := 0) hx hb dX4_lock_51 (by decide) ?_
            refine up_read (W.runV (As := [.int 0]) (rest := []) ⟨hx, hb, hml, hown, hts⟩ (c_X4_some l dC dI cI cJ cZ q aS aC aW aL aN aI aB aD aU aF n gv sz 0 sp se ct aw le ne ins ba dd cr nw cs un fr rl qs 0) (cwV 1 hts gX4_lock_X4_some rfl rfl rfl (by decide +kernel) ⟨Nat.le_of_ble_eq_true rfl, Nat.le_of_ble_eq_true rfl⟩) (up_preV (q0 := 0) (ci := 5) hP hK hD rfl rfl) rfl rfl hl.1 rfl (lv_room (Nat.le_of_ble_eq_true rfl)) dX4_lock_52 ⟨Nat.le_of_ble_eq_true rfl, Nat.le_of_ble_eq_true rfl⟩) ?_
            refine lv_if_eq (tgt := 62) hx hb dX4_lock_55 (by decide) (fun c_55 => ?_) (fun c_55 => ?_)
            · refine lv_aload_n hx hb dX4_lock_62 rfl (lv_at hl 0 rfl) ?_
              refine lv_iconst (v := 0) hx hb dX4_lock_63 (by decide) ?_
              refine lv_iconst (v := 5) hx hb dX4_lock_64 (by decide) ?_
              refine lv_iconst (v := 3) hx hb dX4_lock_65 (by decide) ?_
              refine lv_iconst (v := 2) hx hb dX4_lock_66 (by decide) ?_
              refine up_call (W.runV (As := [.int 0, .int 5, .int 3, .int 2]) (rest := []) ⟨hx, hb, hml, hown, hts⟩ (c_X4_turn l dC dI cI cJ cZ q aS aC aW aL aN aI aB aD aU aF n gv sz 0 sp se ct aw le ne ins ba dd cr nw cs un fr rl qs 0 5 3 2 (by decide) (by decide)) (cwV 4 hts gX4_lock_X4_turn rfl rfl rfl (by decide +kernel) ⟨Nat.le_of_ble_eq_true rfl, Nat.le_of_ble_eq_true rfl⟩) (up_preV (q0 := 0) (ci := 5) hP hK hD rfl rfl) rfl rfl hl.1 rfl (lv_room (Nat.le_of_ble_eq_true rfl)) dX4_lock_67 ⟨Nat.le_of_ble_eq_true rfl, Nat.le_of_ble_eq_true rfl⟩) hD hS ((md_fst ..).trans (md_fst ..).symm) (fun H locs hP hD hS _ _ => ?_)
              have hP : va_P (dC, dI) vwCl (mdW cI cJ cZ q aS aC aW aL aN aI aB aD aU aF n gv sz 0 sp se ct aw le ne ins ba ((md_turn dd nw cs 0 5 3 2).2.1) cr nw ((md_turn dd nw cs 0 5 3 2).2.2) un fr rl qs) H := hP
              have hD : va_D (up_c (mdW cI cJ cZ q aS aC aW aL aN aI aB aD aU aF n gv sz cd sp se ct aw le ne ins ba dd cr nw cs un fr rl qs)) (mdW cI cJ cZ q aS aC aW aL aN aI aB aD aU aF n gv sz 0 sp se ct aw le ne ins ba ((md_turn dd nw cs 0 5 3 2).2.1) cr nw ((md_turn dd nw cs 0 5 3 2).2.2) un fr rl qs) := hD
              have e_ : md_lock dd cr nw cs x = ((md_turn dd nw cs 0 5 3 2).1, (md_turn dd nw cs 0 5 3 2).2.1, (md_turn dd nw cs 0 5 3 2).2.2) := by unfold md_lock; exact (if_neg c_6).trans ((if_pos c_11).trans ((if_pos c_19).trans ((if_neg c_33).trans ((if_pos c_47).trans ((if_pos c_55).trans rfl)))))
              rw [e_]
              exact W.iret (v := (md_turn dd nw cs 0 5 3 2).1) hx hb hr (fun t ht hW => ⟨rfl, by rw [ht]; exact hP, hS.F ht⟩) hS.2.2 dX4_lock_70
            · refine lv_iconst (v := 0) hx hb dX4_lock_58 (by decide) ?_
              refine lv_goto (tgt := 70) hx hb dX4_lock_59 (by decide) ?_
              have e_ : md_lock dd cr nw cs x = ((0 : Int32), dd, cs) := by unfold md_lock; exact (if_neg c_6).trans ((if_pos c_11).trans ((if_pos c_19).trans ((if_neg c_33).trans ((if_pos c_47).trans ((if_neg c_55).trans rfl)))))
              rw [e_]
              exact W.iret (v := 0) hx hb hr (fun t ht hW => ⟨rfl, by rw [ht]; exact hP, hS.F ht⟩) hS.2.2 dX4_lock_70
        · refine lv_aload_n hx hb dX4_lock_36 rfl (lv_at hl 0 rfl) ?_
          refine lv_iconst (v := 0) hx hb dX4_lock_37 (by decide) ?_
          refine lv_iconst (v := 5) hx hb dX4_lock_38 (by decide) ?_
          refine lv_iconst (v := 0) hx hb dX4_lock_39 (by decide) ?_
          refine lv_iconst (v := 1) hx hb dX4_lock_40 (by decide) ?_
          refine up_call (W.runV (As := [.int 0, .int 5, .int 0, .int 1]) (rest := []) ⟨hx, hb, hml, hown, hts⟩ (c_X4_turn l dC dI cI cJ cZ q aS aC aW aL aN aI aB aD aU aF n gv sz 0 sp se ct aw le ne ins ba dd cr nw cs un fr rl qs 0 5 0 1 (by decide) (by decide)) (cwV 4 hts gX4_lock_X4_turn rfl rfl rfl (by decide +kernel) ⟨Nat.le_of_ble_eq_true rfl, Nat.le_of_ble_eq_true rfl⟩) (up_preV (q0 := 0) (ci := 5) hP hK hD rfl rfl) rfl rfl hl.1 rfl (lv_room (Nat.le_of_ble_eq_true rfl)) dX4_lock_41 ⟨Nat.le_of_ble_eq_true rfl, Nat.le_of_ble_eq_true rfl⟩) hD hS ((md_fst ..).trans (md_fst ..).symm) (fun H locs hP hD hS _ _ => ?_)
          have hP : va_P (dC, dI) vwCl (mdW cI cJ cZ q aS aC aW aL aN aI aB aD aU aF n gv sz 0 sp se ct aw le ne ins ba ((md_turn dd nw cs 0 5 0 1).2.1) cr nw ((md_turn dd nw cs 0 5 0 1).2.2) un fr rl qs) H := hP
          have hD : va_D (up_c (mdW cI cJ cZ q aS aC aW aL aN aI aB aD aU aF n gv sz cd sp se ct aw le ne ins ba dd cr nw cs un fr rl qs)) (mdW cI cJ cZ q aS aC aW aL aN aI aB aD aU aF n gv sz 0 sp se ct aw le ne ins ba ((md_turn dd nw cs 0 5 0 1).2.1) cr nw ((md_turn dd nw cs 0 5 0 1).2.2) un fr rl qs) := hD
          have e_ : md_lock dd cr nw cs x = ((md_turn dd nw cs 0 5 0 1).1, (md_turn dd nw cs 0 5 0 1).2.1, (md_turn dd nw cs 0 5 0 1).2.2) := by unfold md_lock; exact (if_neg c_6).trans ((if_pos c_11).trans ((if_pos c_19).trans ((if_pos c_33).trans rfl)))
          rw [e_]
          exact W.iret (v := (md_turn dd nw cs 0 5 0 1).1) hx hb hr (fun t ht hW => ⟨rfl, by rw [ht]; exact hP, hS.F ht⟩) hS.2.2 dX4_lock_44
      · refine lv_aload_n hx hb dX4_lock_22 rfl (lv_at hl 0 rfl) ?_
        refine va_get (D := (dC, dI)) (ci := 5) (v := .int cr) (C := RX4) (T := TX4) (N := 20) hx hb hts inn_X4_lock_X4 hown hK hP 0 rfl rfl 11 (by decide) (hts (.fieldLink RX4 75 "DoorKeysModel" "crashed" "Z") (by decide +kernel)) (fun _ h9 => h9) rfl dX4_lock_23 ?_
        refine lv_if_eq (tgt := 32) hx hb dX4_lock_26 (by decide) (fun c_26 => ?_) (fun c_26 => ?_)
        · refine lv_iload_n hx hb dX4_lock_32 rfl (lv_at hl 1 rfl) ?_
          refine lv_if_ne (tgt := 45) hx hb dX4_lock_33 (by decide) (fun c_33 => ?_) (fun c_33 => ?_)
          · refine lv_iload_n hx hb dX4_lock_45 rfl (lv_at hl 1 rfl) ?_
            refine lv_iconst (v := 1) hx hb dX4_lock_46 (by decide) ?_
            refine lv_icmp_ne (tgt := 71) hx hb dX4_lock_47 (by decide) (fun c_47 => ?_) (fun c_47 => ?_)
            · refine lv_iload_n hx hb dX4_lock_71 rfl (lv_at hl 1 rfl) ?_
              refine lv_iconst (v := 2) hx hb dX4_lock_72 (by decide) ?_
              refine lv_icmp_ne (tgt := 85) hx hb dX4_lock_73 (by decide) (fun c_73 => ?_) (fun c_73 => ?_)
              · refine lv_aload_n hx hb dX4_lock_85 rfl (lv_at hl 0 rfl) ?_
                refine lv_iconst (v := 2) hx hb dX4_lock_86 (by decide) ?_
                refine up_read (W.runV (As := [.int 2]) (rest := []) ⟨hx, hb, hml, hown, hts⟩ (c_X4_some l dC dI cI cJ cZ q aS aC aW aL aN aI aB aD aU aF n gv sz 0 sp se ct aw le ne ins ba dd cr nw cs un fr rl qs 2) (cwV 1 hts gX4_lock_X4_some rfl rfl rfl (by decide +kernel) ⟨Nat.le_of_ble_eq_true rfl, Nat.le_of_ble_eq_true rfl⟩) (up_preV (q0 := 0) (ci := 5) hP hK hD rfl rfl) rfl rfl hl.1 rfl (lv_room (Nat.le_of_ble_eq_true rfl)) dX4_lock_87 ⟨Nat.le_of_ble_eq_true rfl, Nat.le_of_ble_eq_true rfl⟩) ?_
                refine lv_if_eq (tgt := 97) hx hb dX4_lock_90 (by decide) (fun c_90 => ?_) (fun c_90 => ?_)
                · refine lv_aload_n hx hb dX4_lock_97 rfl (lv_at hl 0 rfl) ?_
                  refine lv_iconst (v := 0) hx hb dX4_lock_98 (by decide) ?_
                  refine lv_iconst (v := 5) hx hb dX4_lock_99 (by decide) ?_
                  refine lv_iconst (v := 3) hx hb dX4_lock_100 (by decide) ?_
                  refine lv_iconst (v := 0) hx hb dX4_lock_101 (by decide) ?_
                  refine up_call (W.runV (As := [.int 0, .int 5, .int 3, .int 0]) (rest := []) ⟨hx, hb, hml, hown, hts⟩ (c_X4_turn l dC dI cI cJ cZ q aS aC aW aL aN aI aB aD aU aF n gv sz 0 sp se ct aw le ne ins ba dd cr nw cs un fr rl qs 0 5 3 0 (by decide) (by decide)) (cwV 4 hts gX4_lock_X4_turn rfl rfl rfl (by decide +kernel) ⟨Nat.le_of_ble_eq_true rfl, Nat.le_of_ble_eq_true rfl⟩) (up_preV (q0 := 0) (ci := 5) hP hK hD rfl rfl) rfl rfl hl.1 rfl (lv_room (Nat.le_of_ble_eq_true rfl)) dX4_lock_102 ⟨Nat.le_of_ble_eq_true rfl, Nat.le_of_ble_eq_true rfl⟩) hD hS ((md_fst ..).trans (md_fst ..).symm) (fun H locs hP hD hS _ _ => ?_)
                  have hP : va_P (dC, dI) vwCl (mdW cI cJ cZ q aS aC aW aL aN aI aB aD aU aF n gv sz 0 sp se ct aw le ne ins ba ((md_turn dd nw cs 0 5 3 0).2.1) cr nw ((md_turn dd nw cs 0 5 3 0).2.2) un fr rl qs) H := hP
                  have hD : va_D (up_c (mdW cI cJ cZ q aS aC aW aL aN aI aB aD aU aF n gv sz cd sp se ct aw le ne ins ba dd cr nw cs un fr rl qs)) (mdW cI cJ cZ q aS aC aW aL aN aI aB aD aU aF n gv sz 0 sp se ct aw le ne ins ba ((md_turn dd nw cs 0 5 3 0).2.1) cr nw ((md_turn dd nw cs 0 5 3 0).2.2) un fr rl qs) := hD
                  have e_ : md_lock dd cr nw cs x = ((md_turn dd nw cs 0 5 3 0).1, (md_turn dd nw cs 0 5 3 0).2.1, (md_turn dd nw cs 0 5 3 0).2.2) := by unfold md_lock; exact (if_neg c_6).trans ((if_pos c_11).trans ((if_neg c_19).trans ((if_pos c_26).trans ((if_neg c_33).trans ((if_neg c_47).trans ((if_neg c_73).trans ((if_pos c_90).trans rfl)))))))
                  rw [e_]
                  exact W.iret (v := (md_turn dd nw cs 0 5 3 0).1) hx hb hr (fun t ht hW => ⟨rfl, by rw [ht]; exact hP, hS.F ht⟩) hS.2.2 dX4_lock_105
                · refine lv_iconst (v := 0) hx hb dX4_lock_93 (by decide) ?_
                  refine lv_goto (tgt := 105) hx hb dX4_lock_94 (by decide) ?_
                  have e_ : md_lock dd cr nw cs x = ((0 : Int32), dd, cs) := by unfold md_lock; exact (if_neg c_6).trans ((if_pos c_11).trans ((if_neg c_19).trans ((if_pos c_26).trans ((if_neg c_33).trans ((if_neg c_47).trans ((if_neg c_73).trans ((if_neg c_90).trans rfl)))))))
                  rw [e_]
                  exact W.iret (v := 0) hx hb hr (fun t ht hW => ⟨rfl, by rw [ht]; exact hP, hS.F ht⟩) hS.2.2 dX4_lock_105
              · refine lv_aload_n hx hb dX4_lock_76 rfl (lv_at hl 0 rfl) ?_
                refine lv_iconst (v := 4) hx hb dX4_lock_77 (by decide) ?_
                refine lv_iconst (v := 5) hx hb dX4_lock_78 (by decide) ?_
                refine lv_iconst (v := 0) hx hb dX4_lock_79 (by decide) ?_
                refine lv_iconst (v := 1) hx hb dX4_lock_80 (by decide) ?_
                refine up_call (W.runV (As := [.int 4, .int 5, .int 0, .int 1]) (rest := []) ⟨hx, hb, hml, hown, hts⟩ (c_X4_turn l dC dI cI cJ cZ q aS aC aW aL aN aI aB aD aU aF n gv sz 0 sp se ct aw le ne ins ba dd cr nw cs un fr rl qs 4 5 0 1 (by decide) (by decide)) (cwV 4 hts gX4_lock_X4_turn rfl rfl rfl (by decide +kernel) ⟨Nat.le_of_ble_eq_true rfl, Nat.le_of_ble_eq_true rfl⟩) (up_preV (q0 := 0) (ci := 5) hP hK hD rfl rfl) rfl rfl hl.1 rfl (lv_room (Nat.le_of_ble_eq_true rfl)) dX4_lock_81 ⟨Nat.le_of_ble_eq_true rfl, Nat.le_of_ble_eq_true rfl⟩) hD hS ((md_fst ..).trans (md_fst ..).symm) (fun H locs hP hD hS _ _ => ?_)
                have hP : va_P (dC, dI) vwCl (mdW cI cJ cZ q aS aC aW aL aN aI aB aD aU aF n gv sz 0 sp se ct aw le ne ins ba ((md_turn dd nw cs 4 5 0 1).2.1) cr nw ((md_turn dd nw cs 4 5 0 1).2.2) un fr rl qs) H := hP
                have hD : va_D (up_c (mdW cI cJ cZ q aS aC aW aL aN aI aB aD aU aF n gv sz cd sp se ct aw le ne ins ba dd cr nw cs un fr rl qs)) (mdW cI cJ cZ q aS aC aW aL aN aI aB aD aU aF n gv sz 0 sp se ct aw le ne ins ba ((md_turn dd nw cs 4 5 0 1).2.1) cr nw ((md_turn dd nw cs 4 5 0 1).2.2) un fr rl qs) := hD
                have e_ : md_lock dd cr nw cs x = ((md_turn dd nw cs 4 5 0 1).1, (md_turn dd nw cs 4 5 0 1).2.1, (md_turn dd nw cs 4 5 0 1).2.2) := by unfold md_lock; exact (if_neg c_6).trans ((if_pos c_11).trans ((if_neg c_19).trans ((if_pos c_26).trans ((if_neg c_33).trans ((if_neg c_47).trans ((if_pos c_73).trans rfl))))))
                rw [e_]
                exact W.iret (v := (md_turn dd nw cs 4 5 0 1).1) hx hb hr (fun t ht hW => ⟨rfl, by rw [ht]; exact hP, hS.F ht⟩) hS.2.2 dX4_lock_84
            · refine lv_aload_n hx hb dX4_lock_50 rfl (lv_at hl 0 rfl) ?_
              refine lv_iconst (v := 0) hx hb dX4_lock_51 (by decide) ?_
              refine up_read (W.runV (As := [.int 0]) (rest := []) ⟨hx, hb, hml, hown, hts⟩ (c_X4_some l dC dI cI cJ cZ q aS aC aW aL aN aI aB aD aU aF n gv sz 0 sp se ct aw le ne ins ba dd cr nw cs un fr rl qs 0) (cwV 1 hts gX4_lock_X4_some rfl rfl rfl (by decide +kernel) ⟨Nat.le_of_ble_eq_true rfl, Nat.le_of_ble_eq_true rfl⟩) (up_preV (q0 := 0) (ci := 5) hP hK hD rfl rfl) rfl rfl hl.1 rfl (lv_room (Nat.le_of_ble_eq_true rfl)) dX4_lock_52 ⟨Nat.le_of_ble_eq_true rfl, Nat.le_of_ble_eq_true rfl⟩) ?_
              refine lv_if_eq (tgt := 62) hx hb dX4_lock_55 (by decide) (fun c_55 => ?_) (fun c_55 => ?_)
              · refine lv_aload_n hx hb dX4_lock_62 rfl (lv_at hl 0 rfl) ?_
                refine lv_iconst (v := 0) hx hb dX4_lock_63 (by decide) ?_
                refine lv_iconst (v := 5) hx hb dX4_lock_64 (by decide) ?_
                refine lv_iconst (v := 3) hx hb dX4_lock_65 (by decide) ?_
                refine lv_iconst (v := 2) hx hb dX4_lock_66 (by decide) ?_
                refine up_call (W.runV (As := [.int 0, .int 5, .int 3, .int 2]) (rest := []) ⟨hx, hb, hml, hown, hts⟩ (c_X4_turn l dC dI cI cJ cZ q aS aC aW aL aN aI aB aD aU aF n gv sz 0 sp se ct aw le ne ins ba dd cr nw cs un fr rl qs 0 5 3 2 (by decide) (by decide)) (cwV 4 hts gX4_lock_X4_turn rfl rfl rfl (by decide +kernel) ⟨Nat.le_of_ble_eq_true rfl, Nat.le_of_ble_eq_true rfl⟩) (up_preV (q0 := 0) (ci := 5) hP hK hD rfl rfl) rfl rfl hl.1 rfl (lv_room (Nat.le_of_ble_eq_true rfl)) dX4_lock_67 ⟨Nat.le_of_ble_eq_true rfl, Nat.le_of_ble_eq_true rfl⟩) hD hS ((md_fst ..).trans (md_fst ..).symm) (fun H locs hP hD hS _ _ => ?_)
                have hP : va_P (dC, dI) vwCl (mdW cI cJ cZ q aS aC aW aL aN aI aB aD aU aF n gv sz 0 sp se ct aw le ne ins ba ((md_turn dd nw cs 0 5 3 2).2.1) cr nw ((md_turn dd nw cs 0 5 3 2).2.2) un fr rl qs) H := hP
                have hD : va_D (up_c (mdW cI cJ cZ q aS aC aW aL aN aI aB aD aU aF n gv sz cd sp se ct aw le ne ins ba dd cr nw cs un fr rl qs)) (mdW cI cJ cZ q aS aC aW aL aN aI aB aD aU aF n gv sz 0 sp se ct aw le ne ins ba ((md_turn dd nw cs 0 5 3 2).2.1) cr nw ((md_turn dd nw cs 0 5 3 2).2.2) un fr rl qs) := hD
                have e_ : md_lock dd cr nw cs x = ((md_turn dd nw cs 0 5 3 2).1, (md_turn dd nw cs 0 5 3 2).2.1, (md_turn dd nw cs 0 5 3 2).2.2) := by unfold md_lock; exact (if_neg c_6).trans ((if_pos c_11).trans ((if_neg c_19).trans ((if_pos c_26).trans ((if_neg c_33).trans ((if_pos c_47).trans ((if_pos c_55).trans rfl))))))
                rw [e_]
                exact W.iret (v := (md_turn dd nw cs 0 5 3 2).1) hx hb hr (fun t ht hW => ⟨rfl, by rw [ht]; exact hP, hS.F ht⟩) hS.2.2 dX4_lock_70
              · refine lv_iconst (v := 0) hx hb dX4_lock_58 (by decide) ?_
                refine lv_goto (tgt := 70) hx hb dX4_lock_59 (by decide) ?_
                have e_ : md_lock dd cr nw cs x = ((0 : Int32), dd, cs) := by unfold md_lock; exact (if_neg c_6).trans ((if_pos c_11).trans ((if_neg c_19).trans ((if_pos c_26).trans ((if_neg c_33).trans ((if_pos c_47).trans ((if_neg c_55).trans rfl))))))
                rw [e_]
                exact W.iret (v := 0) hx hb hr (fun t ht hW => ⟨rfl, by rw [ht]; exact hP, hS.F ht⟩) hS.2.2 dX4_lock_70
          · refine lv_aload_n hx hb dX4_lock_36 rfl (lv_at hl 0 rfl) ?_
            refine lv_iconst (v := 0) hx hb dX4_lock_37 (by decide) ?_
            refine lv_iconst (v := 5) hx hb dX4_lock_38 (by decide) ?_
            refine lv_iconst (v := 0) hx hb dX4_lock_39 (by decide) ?_
            refine lv_iconst (v := 1) hx hb dX4_lock_40 (by decide) ?_
            refine up_call (W.runV (As := [.int 0, .int 5, .int 0, .int 1]) (rest := []) ⟨hx, hb, hml, hown, hts⟩ (c_X4_turn l dC dI cI cJ cZ q aS aC aW aL aN aI aB aD aU aF n gv sz 0 sp se ct aw le ne ins ba dd cr nw cs un fr rl qs 0 5 0 1 (by decide) (by decide)) (cwV 4 hts gX4_lock_X4_turn rfl rfl rfl (by decide +kernel) ⟨Nat.le_of_ble_eq_true rfl, Nat.le_of_ble_eq_true rfl⟩) (up_preV (q0 := 0) (ci := 5) hP hK hD rfl rfl) rfl rfl hl.1 rfl (lv_room (Nat.le_of_ble_eq_true rfl)) dX4_lock_41 ⟨Nat.le_of_ble_eq_true rfl, Nat.le_of_ble_eq_true rfl⟩) hD hS ((md_fst ..).trans (md_fst ..).symm) (fun H locs hP hD hS _ _ => ?_)
            have hP : va_P (dC, dI) vwCl (mdW cI cJ cZ q aS aC aW aL aN aI aB aD aU aF n gv sz 0 sp se ct aw le ne ins ba ((md_turn dd nw cs 0 5 0 1).2.1) cr nw ((md_turn dd nw cs 0 5 0 1).2.2) un fr rl qs) H := hP
            have hD : va_D (up_c (mdW cI cJ cZ q aS aC aW aL aN aI aB aD aU aF n gv sz cd sp se ct aw le ne ins ba dd cr nw cs un fr rl qs)) (mdW cI cJ cZ q aS aC aW aL aN aI aB aD aU aF n gv sz 0 sp se ct aw le ne ins ba ((md_turn dd nw cs 0 5 0 1).2.1) cr nw ((md_turn dd nw cs 0 5 0 1).2.2) un fr rl qs) := hD
            have e_ : md_lock dd cr nw cs x = ((md_turn dd nw cs 0 5 0 1).1, (md_turn dd nw cs 0 5 0 1).2.1, (md_turn dd nw cs 0 5 0 1).2.2) := by unfold md_lock; exact (if_neg c_6).trans ((if_pos c_11).trans ((if_neg c_19).trans ((if_pos c_26).trans ((if_pos c_33).trans rfl))))
            rw [e_]
            exact W.iret (v := (md_turn dd nw cs 0 5 0 1).1) hx hb hr (fun t ht hW => ⟨rfl, by rw [ht]; exact hP, hS.F ht⟩) hS.2.2 dX4_lock_44
        · refine lv_bipush (v := (-3)) hx hb dX4_lock_29 (by decide) ?_
          have e_ : md_lock dd cr nw cs x = (((-3) : Int32), dd, cs) := by unfold md_lock; exact (if_neg c_6).trans ((if_pos c_11).trans ((if_neg c_19).trans ((if_neg c_26).trans rfl)))
          rw [e_]
          exact W.iret (v := (-3)) hx hb hr (fun t ht hW => ⟨rfl, by rw [ht]; exact hP, hS.F ht⟩) hS.2.2 dX4_lock_31
    · refine lv_bipush (v := (-2)) hx hb dX4_lock_14 (by decide) ?_
      have e_ : md_lock dd cr nw cs x = (((-2) : Int32), dd, cs) := by unfold md_lock; exact (if_neg c_6).trans ((if_neg c_11).trans rfl)
      rw [e_]
      exact W.iret (v := (-2)) hx hb hr (fun t ht hW => ⟨rfl, by rw [ht]; exact hP, hS.F ht⟩) hS.2.2 dX4_lock_16
def md_learn (n : Nat) (le : Nat → Int32) (ne : Nat → Int32) (ins : Nat → Int32) (x : Int32) (y : Int32) (u : Int32) : Int32 × (Nat → Int32) :=
  if md_none n x = 0 then
    if md_none n y = 0 then
      if md_none n u = 0 then
        if (le x.toNatClampNeg) = 0 then
          if y = u then
            ((0 : Int32), le)
          else
            if md_here le ne ins y = 0 then
              ((0 : Int32), le)
            else
              if md_here le ne ins u = 0 then
                ((0 : Int32), le)
              else
                ((1 : Int32), (upd le x.toNatClampNeg 1))
        else
          ((0 : Int32), le)
      else
        (((-1) : Int32), le)
    else
      (((-1) : Int32), le)
  else
    (((-1) : Int32), le)
def rm_X4_learn : Room := { frames := 1, cells := 0, slots := 0, locals := 21 }
set_option maxHeartbeats 4000000 in
set_option maxRecDepth 100000 in
theorem c_X4_learn (l : Launch) (dC : Nat → ClassId) (dI : Nat → Nat → Nat) (cI : ClassId) (cJ : ClassId) (cZ : ClassId) (q : Nat) (aS : Nat) (aC : Nat) (aW : Nat) (aL : Nat) (aN : Nat) (aI : Nat) (aB : Nat) (aD : Nat) (aU : Nat) (aF : Nat) (n : Nat) (gv : Nat) (sz : Nat) (cd : Int32) (sp : Int32) (se : Nat → Int64) (ct : Nat → Int32) (aw : Nat → Int32) (le : Nat → Int32) (ne : Nat → Int32) (ins : Nat → Int32) (ba : Nat → Int32) (dd : Nat → Int32) (cr : Int32) (nw : Int64) (cs : Int64) (un : Nat → Int32) (fr : Nat → Int32) (rl : Int32) (qs : Int32) (x : Int32) (y : Int32) (u : Int32) (hn : n ≤ 8) : Met l yX4_learn wsX4_learn rm_X4_learn (up_P (dC, dI) vwCl (mdT cI cJ cZ) (mdW cI cJ cZ q aS aC aW aL aN aI aB aD aU aF n gv sz cd sp se ct aw le ne ins ba dd cr nw cs un fr rl qs) [.ref q, .int x, .int y, .int u]) (up_Q (dC, dI) vwCl (some (.int ((md_learn n le ne ins x y u).1))) (mdW cI cJ cZ q aS aC aW aL aN aI aB aD aU aF n gv sz cd sp se ct aw le ne ins ba dd cr nw cs un fr rl qs) (mdW cI cJ cZ q aS aC aW aL aN aI aB aD aU aF n gv sz 0 sp se ct aw ((md_learn n le ne ins x y u).2) ne ins ba dd cr nw cs un fr rl qs)) 0 0 (up_c (mdW cI cJ cZ q aS aC aW aL aN aI aB aD aU aF n gv sz cd sp se ct aw le ne ins ba dd cr nw cs un fr rl qs)) := by
  refine Met.ofW (cc := cX4_learn) (maxL := 4) (ret := (some .int)) (by decide) rfl ?_
  intro p e s m args below meth c s₁ B hml hv
  obtain ⟨rfl, hP, hK, hD0⟩ := hv
  have hx := B.exec
  have hb := B.bytes
  have hr := B.returns
  have hts := atoms_spec (ws := wsX4_learn) B.pre
  have hown : s.vm.findClass RX4 = some m.cls := findClass_of_methodNamed B.named
  have hlocks := B.notSynchronized
  have hD := up_self hD0
  have hS : va_S (up_c (mdW cI cJ cZ q aS aC aW aL aN aI aB aD aU aF n gv sz cd sp se ct aw le ne ins ba dd cr nw cs un fr rl qs)) s.heap s.heap [] := va_S.rf
  have hl := lv_entry ([.ref q, .int x, .int y, .int u]) (n := 4) (Nat.le_of_ble_eq_true rfl)
  rw [lg_entry_eq]
  generalize (lg_sl ([.ref q, .int x, .int y, .int u]) ++ List.replicate (4 - (lg_sl ([.ref q, .int x, .int y, .int u])).length) Slot.unset).toArray = ls at hl ⊢
  have hl : lv_has ls 4 [(0, .ref q), (1, .int x), (2, .int y), (3, .int u)] := hl
  refine lv_aload_n hx hb dX4_learn_0 rfl (lv_at hl 0 rfl) ?_
  refine lv_iload_n hx hb dX4_learn_1 rfl (lv_at hl 1 rfl) ?_
  refine up_call (W.runV (As := [.int x]) (rest := []) ⟨hx, hb, hml, hown, hts⟩ (c_X4_none l dC dI cI cJ cZ q aS aC aW aL aN aI aB aD aU aF n gv sz cd sp se ct aw le ne ins ba dd cr nw cs un fr rl qs x) (cwV 1 hts gX4_learn_X4_none rfl rfl rfl (by decide +kernel) ⟨Nat.le_of_ble_eq_true rfl, Nat.le_of_ble_eq_true rfl⟩) (up_preV (q0 := 0) (ci := 5) hP hK hD rfl rfl) rfl rfl hl.1 rfl (lv_room (Nat.le_of_ble_eq_true rfl)) dX4_learn_2 ⟨Nat.le_of_ble_eq_true rfl, Nat.le_of_ble_eq_true rfl⟩) hD hS ((md_fst ..).trans (md_fst ..).symm) (fun H locs hP hD hS _ _ => ?_)
  have hP : va_P (dC, dI) vwCl (mdW cI cJ cZ q aS aC aW aL aN aI aB aD aU aF n gv sz 0 sp se ct aw le ne ins ba dd cr nw cs un fr rl qs) H := hP
  have hD : va_D (up_c (mdW cI cJ cZ q aS aC aW aL aN aI aB aD aU aF n gv sz cd sp se ct aw le ne ins ba dd cr nw cs un fr rl qs)) (mdW cI cJ cZ q aS aC aW aL aN aI aB aD aU aF n gv sz 0 sp se ct aw le ne ins ba dd cr nw cs un fr rl qs) := hD
  refine lv_if_ne (tgt := 24) hx hb dX4_learn_5 (by decide) (fun c_5 => ?_) (fun c_5 => ?_)
  · refine lv_iconst (v := (-1)) hx hb dX4_learn_24 (by decide) ?_
    have e_ : md_learn n le ne ins x y u = (((-1) : Int32), le) := by unfold md_learn; exact (if_neg c_5).trans rfl
    rw [e_]
    exact W.iret (v := (-1)) hx hb hr (fun t ht hW => ⟨rfl, by rw [ht]; exact hP, hS.F ht⟩) hS.2.2 dX4_learn_25
  · refine lv_aload_n hx hb dX4_learn_8 rfl (lv_at hl 0 rfl) ?_
    refine lv_iload_n hx hb dX4_learn_9 rfl (lv_at hl 2 rfl) ?_
    refine up_call (W.runV (As := [.int y]) (rest := []) ⟨hx, hb, hml, hown, hts⟩ (c_X4_none l dC dI cI cJ cZ q aS aC aW aL aN aI aB aD aU aF n gv sz 0 sp se ct aw le ne ins ba dd cr nw cs un fr rl qs y) (cwV 1 hts gX4_learn_X4_none rfl rfl rfl (by decide +kernel) ⟨Nat.le_of_ble_eq_true rfl, Nat.le_of_ble_eq_true rfl⟩) (up_preV (q0 := 0) (ci := 5) hP hK hD rfl rfl) rfl rfl hl.1 rfl (lv_room (Nat.le_of_ble_eq_true rfl)) dX4_learn_10 ⟨Nat.le_of_ble_eq_true rfl, Nat.le_of_ble_eq_true rfl⟩) hD hS ((md_fst ..).trans (md_fst ..).symm) (fun H locs hP hD hS _ _ => ?_)
    have hP : va_P (dC, dI) vwCl (mdW cI cJ cZ q aS aC aW aL aN aI aB aD aU aF n gv sz 0 sp se ct aw le ne ins ba dd cr nw cs un fr rl qs) H := hP
    have hD : va_D (up_c (mdW cI cJ cZ q aS aC aW aL aN aI aB aD aU aF n gv sz cd sp se ct aw le ne ins ba dd cr nw cs un fr rl qs)) (mdW cI cJ cZ q aS aC aW aL aN aI aB aD aU aF n gv sz 0 sp se ct aw le ne ins ba dd cr nw cs un fr rl qs) := hD
    refine lv_if_ne (tgt := 24) hx hb dX4_learn_13 (by decide) (fun c_13 => ?_) (fun c_13 => ?_)
    · refine lv_iconst (v := (-1)) hx hb dX4_learn_24 (by decide) ?_
      have e_ : md_learn n le ne ins x y u = (((-1) : Int32), le) := by unfold md_learn; exact (if_pos c_5).trans ((if_neg c_13).trans rfl)
      rw [e_]
      exact W.iret (v := (-1)) hx hb hr (fun t ht hW => ⟨rfl, by rw [ht]; exact hP, hS.F ht⟩) hS.2.2 dX4_learn_25
    · refine lv_aload_n hx hb dX4_learn_16 rfl (lv_at hl 0 rfl) ?_
      refine lv_iload_n hx hb dX4_learn_17 rfl (lv_at hl 3 rfl) ?_
      refine up_call (W.runV (As := [.int u]) (rest := []) ⟨hx, hb, hml, hown, hts⟩ (c_X4_none l dC dI cI cJ cZ q aS aC aW aL aN aI aB aD aU aF n gv sz 0 sp se ct aw le ne ins ba dd cr nw cs un fr rl qs u) (cwV 1 hts gX4_learn_X4_none rfl rfl rfl (by decide +kernel) ⟨Nat.le_of_ble_eq_true rfl, Nat.le_of_ble_eq_true rfl⟩) (up_preV (q0 := 0) (ci := 5) hP hK hD rfl rfl) rfl rfl hl.1 rfl (lv_room (Nat.le_of_ble_eq_true rfl)) dX4_learn_18 ⟨Nat.le_of_ble_eq_true rfl, Nat.le_of_ble_eq_true rfl⟩) hD hS ((md_fst ..).trans (md_fst ..).symm) (fun H locs hP hD hS _ _ => ?_)
      have hP : va_P (dC, dI) vwCl (mdW cI cJ cZ q aS aC aW aL aN aI aB aD aU aF n gv sz 0 sp se ct aw le ne ins ba dd cr nw cs un fr rl qs) H := hP
      have hD : va_D (up_c (mdW cI cJ cZ q aS aC aW aL aN aI aB aD aU aF n gv sz cd sp se ct aw le ne ins ba dd cr nw cs un fr rl qs)) (mdW cI cJ cZ q aS aC aW aL aN aI aB aD aU aF n gv sz 0 sp se ct aw le ne ins ba dd cr nw cs un fr rl qs) := hD
      refine lv_if_eq (tgt := 26) hx hb dX4_learn_21 (by decide) (fun c_21 => ?_) (fun c_21 => ?_)
      · refine lv_aload_n hx hb dX4_learn_26 rfl (lv_at hl 0 rfl) ?_
        refine va_get (D := (dC, dI)) (ci := 5) (v := .ref aL) (C := RX4) (T := TX4) (N := 20) hx hb hts inn_X4_learn_X4 hown hK hP 0 rfl rfl 6 (by decide) (hts (.fieldLink RX4 20 "DoorKeysModel" "learned" "[Z") (by decide +kernel)) (fun _ h9 => h9) rfl dX4_learn_27 ?_
        refine lv_iload_n hx hb dX4_learn_30 rfl (lv_at hl 1 rfl) ?_
        refine va_zald hx hb hK hP 4 2 rfl rfl (md_none_in hn c_5) dX4_learn_31 ?_
        refine lv_if_ne (tgt := 56) hx hb dX4_learn_32 (by decide) (fun c_32 => ?_) (fun c_32 => ?_)
        · refine lv_iconst (v := 0) hx hb dX4_learn_56 (by decide) ?_
          have e_ : md_learn n le ne ins x y u = ((0 : Int32), le) := by unfold md_learn; exact (if_pos c_5).trans ((if_pos c_13).trans ((if_pos c_21).trans ((if_neg c_32).trans rfl)))
          rw [e_]
          exact W.iret (v := 0) hx hb hr (fun t ht hW => ⟨rfl, by rw [ht]; exact hP, hS.F ht⟩) hS.2.2 dX4_learn_57
        · refine lv_iload_n hx hb dX4_learn_35 rfl (lv_at hl 2 rfl) ?_
          refine lv_iload_n hx hb dX4_learn_36 rfl (lv_at hl 3 rfl) ?_
          refine lv_icmp_eq (tgt := 56) hx hb dX4_learn_37 (by decide) (fun c_37 => ?_) (fun c_37 => ?_)
          · refine lv_iconst (v := 0) hx hb dX4_learn_56 (by decide) ?_
            have e_ : md_learn n le ne ins x y u = ((0 : Int32), le) := by unfold md_learn; exact (if_pos c_5).trans ((if_pos c_13).trans ((if_pos c_21).trans ((if_pos c_32).trans ((if_pos c_37).trans rfl))))
            rw [e_]
            exact W.iret (v := 0) hx hb hr (fun t ht hW => ⟨rfl, by rw [ht]; exact hP, hS.F ht⟩) hS.2.2 dX4_learn_57
          · refine lv_aload_n hx hb dX4_learn_40 rfl (lv_at hl 0 rfl) ?_
            refine lv_iload_n hx hb dX4_learn_41 rfl (lv_at hl 2 rfl) ?_
            refine up_read (W.runV (As := [.int y]) (rest := []) ⟨hx, hb, hml, hown, hts⟩ (c_X4_here l dC dI cI cJ cZ q aS aC aW aL aN aI aB aD aU aF n gv sz 0 sp se ct aw le ne ins ba dd cr nw cs un fr rl qs y (md_none_in hn c_13)) (cwV 1 hts gX4_learn_X4_here rfl rfl rfl (by decide +kernel) ⟨Nat.le_of_ble_eq_true rfl, Nat.le_of_ble_eq_true rfl⟩) (up_preV (q0 := 0) (ci := 5) hP hK hD rfl rfl) rfl rfl hl.1 rfl (lv_room (Nat.le_of_ble_eq_true rfl)) dX4_learn_42 ⟨Nat.le_of_ble_eq_true rfl, Nat.le_of_ble_eq_true rfl⟩) ?_
            refine lv_if_eq (tgt := 56) hx hb dX4_learn_45 (by decide) (fun c_45 => ?_) (fun c_45 => ?_)
            · refine lv_iconst (v := 0) hx hb dX4_learn_56 (by decide) ?_
              have e_ : md_learn n le ne ins x y u = ((0 : Int32), le) := by unfold md_learn; exact (if_pos c_5).trans ((if_pos c_13).trans ((if_pos c_21).trans ((if_pos c_32).trans ((if_neg c_37).trans ((if_pos c_45).trans rfl)))))
              rw [e_]
              exact W.iret (v := 0) hx hb hr (fun t ht hW => ⟨rfl, by rw [ht]; exact hP, hS.F ht⟩) hS.2.2 dX4_learn_57
            · refine lv_aload_n hx hb dX4_learn_48 rfl (lv_at hl 0 rfl) ?_
              refine lv_iload_n hx hb dX4_learn_49 rfl (lv_at hl 3 rfl) ?_
              refine up_read (W.runV (As := [.int u]) (rest := []) ⟨hx, hb, hml, hown, hts⟩ (c_X4_here l dC dI cI cJ cZ q aS aC aW aL aN aI aB aD aU aF n gv sz 0 sp se ct aw le ne ins ba dd cr nw cs un fr rl qs u (md_none_in hn c_21)) (cwV 1 hts gX4_learn_X4_here rfl rfl rfl (by decide +kernel) ⟨Nat.le_of_ble_eq_true rfl, Nat.le_of_ble_eq_true rfl⟩) (up_preV (q0 := 0) (ci := 5) hP hK hD rfl rfl) rfl rfl hl.1 rfl (lv_room (Nat.le_of_ble_eq_true rfl)) dX4_learn_50 ⟨Nat.le_of_ble_eq_true rfl, Nat.le_of_ble_eq_true rfl⟩) ?_
              refine lv_if_ne (tgt := 58) hx hb dX4_learn_53 (by decide) (fun c_53 => ?_) (fun c_53 => ?_)
              · refine lv_aload_n hx hb dX4_learn_58 rfl (lv_at hl 0 rfl) ?_
                refine va_get (D := (dC, dI)) (ci := 5) (v := .ref aL) (C := RX4) (T := TX4) (N := 20) hx hb hts inn_X4_learn_X4 hown hK hP 0 rfl rfl 6 (by decide) (hts (.fieldLink RX4 20 "DoorKeysModel" "learned" "[Z") (by decide +kernel)) (fun _ h9 => h9) rfl dX4_learn_59 ?_
                refine lv_iload_n hx hb dX4_learn_62 rfl (lv_at hl 1 rfl) ?_
                refine lv_iconst (v := 1) hx hb dX4_learn_63 (by decide) ?_
                refine va_zast hx hb hK hP hD hS 4 2 rfl rfl (md_none_in hn c_5) dX4_learn_64 (fun H locs hP hD hS => ?_)
                have hP : va_P (dC, dI) vwCl (mdW cI cJ cZ q aS aC aW aL aN aI aB aD aU aF n gv sz 0 sp se ct aw (upd le x.toNatClampNeg 1) ne ins ba dd cr nw cs un fr rl qs) H := hP
                have hD : va_D (up_c (mdW cI cJ cZ q aS aC aW aL aN aI aB aD aU aF n gv sz cd sp se ct aw le ne ins ba dd cr nw cs un fr rl qs)) (mdW cI cJ cZ q aS aC aW aL aN aI aB aD aU aF n gv sz 0 sp se ct aw (upd le x.toNatClampNeg 1) ne ins ba dd cr nw cs un fr rl qs) := hD
                refine lv_iconst (v := 1) hx hb dX4_learn_65 (by decide) ?_
                have e_ : md_learn n le ne ins x y u = ((1 : Int32), (upd le x.toNatClampNeg 1)) := by unfold md_learn; exact (if_pos c_5).trans ((if_pos c_13).trans ((if_pos c_21).trans ((if_pos c_32).trans ((if_neg c_37).trans ((if_neg c_45).trans ((if_neg c_53).trans rfl))))))
                rw [e_]
                exact W.iret (v := 1) hx hb hr (fun t ht hW => ⟨rfl, by rw [ht]; exact hP, hS.F ht⟩) hS.2.2 dX4_learn_66
              · refine lv_iconst (v := 0) hx hb dX4_learn_56 (by decide) ?_
                have e_ : md_learn n le ne ins x y u = ((0 : Int32), le) := by unfold md_learn; exact (if_pos c_5).trans ((if_pos c_13).trans ((if_pos c_21).trans ((if_pos c_32).trans ((if_neg c_37).trans ((if_neg c_45).trans ((if_pos c_53).trans rfl))))))
                rw [e_]
                exact W.iret (v := 0) hx hb hr (fun t ht hW => ⟨rfl, by rw [ht]; exact hP, hS.F ht⟩) hS.2.2 dX4_learn_57
      · refine lv_iconst (v := (-1)) hx hb dX4_learn_24 (by decide) ?_
        have e_ : md_learn n le ne ins x y u = (((-1) : Int32), le) := by unfold md_learn; exact (if_pos c_5).trans ((if_pos c_13).trans ((if_neg c_21).trans rfl))
        rw [e_]
        exact W.iret (v := (-1)) hx hb hr (fun t ht hW => ⟨rfl, by rw [ht]; exact hP, hS.F ht⟩) hS.2.2 dX4_learn_25
def md_erase_l (le : Nat → Int32) (ne : Nat → Int32) (ins : Nat → Int32) (x : Int32) : Nat → Nat → Int32 → Int32 × (Nat → Int32) × (Nat → Int32) × (Nat → Int32)
  | 0, _, ac =>
    if (le x.toNatClampNeg) = 0 then
      ((0 : Int32), le, ne, ins)
    else
      if ac = 1 then
        ((0 : Int32), le, ne, ins)
      else
        ((1 : Int32), (upd le x.toNatClampNeg 0), (upd ne x.toNatClampNeg 0), (upd ins x.toNatClampNeg 0))
  | r + 1, j, ac =>
    if (le ((nI (j + 1)).toNatClampNeg)) = 0 then
      md_erase_l le ne ins x r (j + 1) ac
    else
      md_erase_l le ne ins x r (j + 1) (ac + 1)
def md_erase (n : Nat) (le : Nat → Int32) (ne : Nat → Int32) (ins : Nat → Int32) (x : Int32) : Int32 × (Nat → Int32) × (Nat → Int32) × (Nat → Int32) :=
  if md_none n x = 0 then
    md_erase_l le ne ins x n 0 0
  else
    (((-1) : Int32), le, ne, ins)
def rm_X4_erase : Room := { frames := 1, cells := 0, slots := 0, locals := 21 }
set_option maxHeartbeats 4000000 in
set_option maxRecDepth 100000 in
theorem c_X4_erase (l : Launch) (dC : Nat → ClassId) (dI : Nat → Nat → Nat) (cI : ClassId) (cJ : ClassId) (cZ : ClassId) (q : Nat) (aS : Nat) (aC : Nat) (aW : Nat) (aL : Nat) (aN : Nat) (aI : Nat) (aB : Nat) (aD : Nat) (aU : Nat) (aF : Nat) (n : Nat) (gv : Nat) (sz : Nat) (cd : Int32) (sp : Int32) (se : Nat → Int64) (ct : Nat → Int32) (aw : Nat → Int32) (le : Nat → Int32) (ne : Nat → Int32) (ins : Nat → Int32) (ba : Nat → Int32) (dd : Nat → Int32) (cr : Int32) (nw : Int64) (cs : Int64) (un : Nat → Int32) (fr : Nat → Int32) (rl : Int32) (qs : Int32) (x : Int32) (hn : n ≤ 8) : Met l yX4_erase wsX4_erase rm_X4_erase (up_P (dC, dI) vwCl (mdT cI cJ cZ) (mdW cI cJ cZ q aS aC aW aL aN aI aB aD aU aF n gv sz cd sp se ct aw le ne ins ba dd cr nw cs un fr rl qs) [.ref q, .int x]) (up_Q (dC, dI) vwCl (some (.int ((md_erase n le ne ins x).1))) (mdW cI cJ cZ q aS aC aW aL aN aI aB aD aU aF n gv sz cd sp se ct aw le ne ins ba dd cr nw cs un fr rl qs) (mdW cI cJ cZ q aS aC aW aL aN aI aB aD aU aF n gv sz 0 sp se ct aw ((md_erase n le ne ins x).2.1) ((md_erase n le ne ins x).2.2.1) ((md_erase n le ne ins x).2.2.2) ba dd cr nw cs un fr rl qs)) 0 0 (up_c (mdW cI cJ cZ q aS aC aW aL aN aI aB aD aU aF n gv sz cd sp se ct aw le ne ins ba dd cr nw cs un fr rl qs)) := by
  refine Met.ofW (cc := cX4_erase) (maxL := 4) (ret := (some .int)) (by decide) rfl ?_
  intro p e s m args below meth c s₁ B hml hv
  obtain ⟨rfl, hP, hK, hD0⟩ := hv
  have hx := B.exec
  have hb := B.bytes
  have hr := B.returns
  have hts := atoms_spec (ws := wsX4_erase) B.pre
  have hown : s.vm.findClass RX4 = some m.cls := findClass_of_methodNamed B.named
  have hlocks := B.notSynchronized
  have hD := up_self hD0
  have hS : va_S (up_c (mdW cI cJ cZ q aS aC aW aL aN aI aB aD aU aF n gv sz cd sp se ct aw le ne ins ba dd cr nw cs un fr rl qs)) s.heap s.heap [] := va_S.rf
  have hl := lv_entry ([.ref q, .int x]) (n := 4) (Nat.le_of_ble_eq_true rfl)
  rw [lg_entry_eq]
  generalize (lg_sl ([.ref q, .int x]) ++ List.replicate (4 - (lg_sl ([.ref q, .int x])).length) Slot.unset).toArray = ls at hl ⊢
  have hl : lv_has ls 4 [(0, .ref q), (1, .int x)] := hl
  refine lv_aload_n hx hb dX4_erase_0 rfl (lv_at hl 0 rfl) ?_
  refine lv_iload_n hx hb dX4_erase_1 rfl (lv_at hl 1 rfl) ?_
  refine up_call (W.runV (As := [.int x]) (rest := []) ⟨hx, hb, hml, hown, hts⟩ (c_X4_none l dC dI cI cJ cZ q aS aC aW aL aN aI aB aD aU aF n gv sz cd sp se ct aw le ne ins ba dd cr nw cs un fr rl qs x) (cwV 1 hts gX4_erase_X4_none rfl rfl rfl (by decide +kernel) ⟨Nat.le_of_ble_eq_true rfl, Nat.le_of_ble_eq_true rfl⟩) (up_preV (q0 := 0) (ci := 5) hP hK hD rfl rfl) rfl rfl hl.1 rfl (lv_room (Nat.le_of_ble_eq_true rfl)) dX4_erase_2 ⟨Nat.le_of_ble_eq_true rfl, Nat.le_of_ble_eq_true rfl⟩) hD hS ((md_fst ..).trans (md_fst ..).symm) (fun H locs hP hD hS _ _ => ?_)
  have hP : va_P (dC, dI) vwCl (mdW cI cJ cZ q aS aC aW aL aN aI aB aD aU aF n gv sz 0 sp se ct aw le ne ins ba dd cr nw cs un fr rl qs) H := hP
  have hD : va_D (up_c (mdW cI cJ cZ q aS aC aW aL aN aI aB aD aU aF n gv sz cd sp se ct aw le ne ins ba dd cr nw cs un fr rl qs)) (mdW cI cJ cZ q aS aC aW aL aN aI aB aD aU aF n gv sz 0 sp se ct aw le ne ins ba dd cr nw cs un fr rl qs) := hD
  refine lv_if_eq (tgt := 10) hx hb dX4_erase_5 (by decide) (fun c_5 => ?_) (fun c_5 => ?_)
  · refine lv_iconst (v := 0) hx hb dX4_erase_10 (by decide) ?_
    refine lv_istore_n (lv' := [(2, .int 0), (0, .ref q), (1, .int x)]) hx hb dX4_erase_11 rfl hl (by decide) rfl (fun ls hl => ?_)
    refine lv_iconst (v := 1) hx hb dX4_erase_12 (by decide) ?_
    refine lv_istore_n (lv' := [(3, .int 1), (2, .int 0), (0, .ref q), (1, .int x)]) hx hb dX4_erase_13 rfl hl (by decide) rfl (fun ls hl => ?_)
    have lp : ∀ (r j : Nat) (ac : Int32) , j + r = n → ∀ ls : Array Slot, lv_has ls 4 [(0, .ref q), (1, .int x), (3, .int (nI (j + 1))), (2, .int ac)] → W p l e (headSpec wsX4_erase rm_X4_erase).room s m ([.ref q, .int x] : List Value).toArray below meth c H locs 0 0 (MQ below (up_Q (dC, dI) vwCl (some (.int ((md_erase_l le ne ins x r j ac).1))) (mdW cI cJ cZ q aS aC aW aL aN aI aB aD aU aF n gv sz cd sp se ct aw le ne ins ba dd cr nw cs un fr rl qs) (mdW cI cJ cZ q aS aC aW aL aN aI aB aD aU aF n gv sz 0 sp se ct aw ((md_erase_l le ne ins x r j ac).2.1) ((md_erase_l le ne ins x r j ac).2.2.1) ((md_erase_l le ne ins x r j ac).2.2.2) ba dd cr nw cs un fr rl qs)) ([.ref q, .int x] : List Value).toArray s 0 0 (up_c (mdW cI cJ cZ q aS aC aW aL aN aI aB aD aU aF n gv sz cd sp se ct aw le ne ins ba dd cr nw cs un fr rl qs))) (F0 m 14 ls []) := by
      intro r
      induction r with
      | zero =>
        intro j ac hj ls hl
        refine lv_iload_n hx hb dX4_erase_14 rfl (lv_at hl 2 rfl) ?_
        refine lv_aload_n hx hb dX4_erase_15 rfl (lv_at hl 0 rfl) ?_
        refine va_get (D := (dC, dI)) (ci := 5) (v := .int (nI n)) (C := RX4) (T := TX4) (N := 20) hx hb hts inn_X4_erase_X4 hown hK hP 0 rfl rfl 2 (by decide) (hts (.fieldLink RX4 49 "DoorKeysModel" "keys" "I") (by decide +kernel)) (fun _ h9 => h9) rfl dX4_erase_16 ?_
        refine lv_icmp_gt (tgt := 45) hx hb dX4_erase_19 (by decide) (fun c_19 => ?_) (fun c_19 => (c_19 (nI_lt (a := n) (b := (j + 1)) (by omega) (by omega))).elim)
        refine lv_aload_n hx hb dX4_erase_45 rfl (lv_at hl 0 rfl) ?_
        refine va_get (D := (dC, dI)) (ci := 5) (v := .ref aL) (C := RX4) (T := TX4) (N := 20) hx hb hts inn_X4_erase_X4 hown hK hP 0 rfl rfl 6 (by decide) (hts (.fieldLink RX4 20 "DoorKeysModel" "learned" "[Z") (by decide +kernel)) (fun _ h9 => h9) rfl dX4_erase_46 ?_
        refine lv_iload_n hx hb dX4_erase_49 rfl (lv_at hl 1 rfl) ?_
        refine va_zald hx hb hK hP 4 2 rfl rfl (md_none_in hn c_5) dX4_erase_50 ?_
        refine lv_if_eq (tgt := 59) hx hb dX4_erase_51 (by decide) (fun c_51 => ?_) (fun c_51 => ?_)
        · refine lv_iconst (v := 0) hx hb dX4_erase_59 (by decide) ?_
          have e_ : md_erase_l le ne ins x 0 j ac = ((0 : Int32), le, ne, ins) := (md_erase_l.eq_1 ..).trans ((if_pos c_51).trans rfl)
          rw [e_]
          exact W.iret (v := 0) hx hb hr (fun t ht hW => ⟨rfl, by rw [ht]; exact hP, hS.F ht⟩) hS.2.2 dX4_erase_60
        · refine lv_iload_n hx hb dX4_erase_54 rfl (lv_at hl 3 rfl) ?_
          refine lv_iconst (v := 1) hx hb dX4_erase_55 (by decide) ?_
          refine lv_icmp_ne (tgt := 61) hx hb dX4_erase_56 (by decide) (fun c_56 => ?_) (fun c_56 => ?_)
          · refine lv_aload_n hx hb dX4_erase_61 rfl (lv_at hl 0 rfl) ?_
            refine va_get (D := (dC, dI)) (ci := 5) (v := .ref aL) (C := RX4) (T := TX4) (N := 20) hx hb hts inn_X4_erase_X4 hown hK hP 0 rfl rfl 6 (by decide) (hts (.fieldLink RX4 20 "DoorKeysModel" "learned" "[Z") (by decide +kernel)) (fun _ h9 => h9) rfl dX4_erase_62 ?_
            refine lv_iload_n hx hb dX4_erase_65 rfl (lv_at hl 1 rfl) ?_
            refine lv_iconst (v := 0) hx hb dX4_erase_66 (by decide) ?_
            refine va_zast hx hb hK hP hD hS 4 2 rfl rfl (md_none_in hn c_5) dX4_erase_67 (fun H locs hP hD hS => ?_)
            have hP : va_P (dC, dI) vwCl (mdW cI cJ cZ q aS aC aW aL aN aI aB aD aU aF n gv sz 0 sp se ct aw (upd le x.toNatClampNeg 0) ne ins ba dd cr nw cs un fr rl qs) H := hP
            have hD : va_D (up_c (mdW cI cJ cZ q aS aC aW aL aN aI aB aD aU aF n gv sz cd sp se ct aw le ne ins ba dd cr nw cs un fr rl qs)) (mdW cI cJ cZ q aS aC aW aL aN aI aB aD aU aF n gv sz 0 sp se ct aw (upd le x.toNatClampNeg 0) ne ins ba dd cr nw cs un fr rl qs) := hD
            refine lv_aload_n hx hb dX4_erase_68 rfl (lv_at hl 0 rfl) ?_
            refine va_get (D := (dC, dI)) (ci := 5) (v := .ref aN) (C := RX4) (T := TX4) (N := 20) hx hb hts inn_X4_erase_X4 hown hK hP 0 rfl rfl 7 (by decide) (hts (.fieldLink RX4 24 "DoorKeysModel" "near" "[Z") (by decide +kernel)) (fun _ h9 => h9) rfl dX4_erase_69 ?_
            refine lv_iload_n hx hb dX4_erase_72 rfl (lv_at hl 1 rfl) ?_
            refine lv_iconst (v := 0) hx hb dX4_erase_73 (by decide) ?_
            refine va_zast hx hb hK hP hD hS 5 2 rfl rfl (md_none_in hn c_5) dX4_erase_74 (fun H locs hP hD hS => ?_)
            have hP : va_P (dC, dI) vwCl (mdW cI cJ cZ q aS aC aW aL aN aI aB aD aU aF n gv sz 0 sp se ct aw (upd le x.toNatClampNeg 0) (upd ne x.toNatClampNeg 0) ins ba dd cr nw cs un fr rl qs) H := hP
            have hD : va_D (up_c (mdW cI cJ cZ q aS aC aW aL aN aI aB aD aU aF n gv sz cd sp se ct aw le ne ins ba dd cr nw cs un fr rl qs)) (mdW cI cJ cZ q aS aC aW aL aN aI aB aD aU aF n gv sz 0 sp se ct aw (upd le x.toNatClampNeg 0) (upd ne x.toNatClampNeg 0) ins ba dd cr nw cs un fr rl qs) := hD
            refine lv_aload_n hx hb dX4_erase_75 rfl (lv_at hl 0 rfl) ?_
            refine va_get (D := (dC, dI)) (ci := 5) (v := .ref aI) (C := RX4) (T := TX4) (N := 20) hx hb hts inn_X4_erase_X4 hown hK hP 0 rfl rfl 8 (by decide) (hts (.fieldLink RX4 27 "DoorKeysModel" "inside" "[Z") (by decide +kernel)) (fun _ h9 => h9) rfl dX4_erase_76 ?_
            refine lv_iload_n hx hb dX4_erase_79 rfl (lv_at hl 1 rfl) ?_
            refine lv_iconst (v := 0) hx hb dX4_erase_80 (by decide) ?_
            refine va_zast hx hb hK hP hD hS 6 2 rfl rfl (md_none_in hn c_5) dX4_erase_81 (fun H locs hP hD hS => ?_)
            have hP : va_P (dC, dI) vwCl (mdW cI cJ cZ q aS aC aW aL aN aI aB aD aU aF n gv sz 0 sp se ct aw (upd le x.toNatClampNeg 0) (upd ne x.toNatClampNeg 0) (upd ins x.toNatClampNeg 0) ba dd cr nw cs un fr rl qs) H := hP
            have hD : va_D (up_c (mdW cI cJ cZ q aS aC aW aL aN aI aB aD aU aF n gv sz cd sp se ct aw le ne ins ba dd cr nw cs un fr rl qs)) (mdW cI cJ cZ q aS aC aW aL aN aI aB aD aU aF n gv sz 0 sp se ct aw (upd le x.toNatClampNeg 0) (upd ne x.toNatClampNeg 0) (upd ins x.toNatClampNeg 0) ba dd cr nw cs un fr rl qs) := hD
            refine lv_iconst (v := 1) hx hb dX4_erase_82 (by decide) ?_
            have e_ : md_erase_l le ne ins x 0 j ac = ((1 : Int32), (upd le x.toNatClampNeg 0), (upd ne x.toNatClampNeg 0), (upd ins x.toNatClampNeg 0)) := (md_erase_l.eq_1 ..).trans ((if_neg c_51).trans ((if_neg c_56).trans rfl))
            rw [e_]
            exact W.iret (v := 1) hx hb hr (fun t ht hW => ⟨rfl, by rw [ht]; exact hP, hS.F ht⟩) hS.2.2 dX4_erase_83
          · refine lv_iconst (v := 0) hx hb dX4_erase_59 (by decide) ?_
            have e_ : md_erase_l le ne ins x 0 j ac = ((0 : Int32), le, ne, ins) := (md_erase_l.eq_1 ..).trans ((if_neg c_51).trans ((if_pos c_56).trans rfl))
            rw [e_]
            exact W.iret (v := 0) hx hb hr (fun t ht hW => ⟨rfl, by rw [ht]; exact hP, hS.F ht⟩) hS.2.2 dX4_erase_60
      | succ r ih =>
        intro j ac hj ls hl
        refine lv_iload_n hx hb dX4_erase_14 rfl (lv_at hl 2 rfl) ?_
        refine lv_aload_n hx hb dX4_erase_15 rfl (lv_at hl 0 rfl) ?_
        refine va_get (D := (dC, dI)) (ci := 5) (v := .int (nI n)) (C := RX4) (T := TX4) (N := 20) hx hb hts inn_X4_erase_X4 hown hK hP 0 rfl rfl 2 (by decide) (hts (.fieldLink RX4 49 "DoorKeysModel" "keys" "I") (by decide +kernel)) (fun _ h9 => h9) rfl dX4_erase_16 ?_
        refine lv_icmp_gt (tgt := 45) hx hb dX4_erase_19 (by decide) (fun c_19 => (nI_nlt (a := n) (b := (j + 1)) (by omega) (by omega) c_19).elim) (fun c_19 => ?_)
        refine lv_aload_n hx hb dX4_erase_22 rfl (lv_at hl 0 rfl) ?_
        refine va_get (D := (dC, dI)) (ci := 5) (v := .ref aL) (C := RX4) (T := TX4) (N := 20) hx hb hts inn_X4_erase_X4 hown hK hP 0 rfl rfl 6 (by decide) (hts (.fieldLink RX4 20 "DoorKeysModel" "learned" "[Z") (by decide +kernel)) (fun _ h9 => h9) rfl dX4_erase_23 ?_
        refine lv_iload_n hx hb dX4_erase_26 rfl (lv_at hl 2 rfl) ?_
        refine va_zald hx hb hK hP 4 2 rfl rfl (vp_in_nI (n := j + 1) (N := 9) (by omega) (by decide)) dX4_erase_27 ?_
        refine lv_if_eq (tgt := 37) hx hb dX4_erase_28 (by decide) (fun c_28 => ?_) (fun c_28 => ?_)
        · refine lv_iload_n hx hb dX4_erase_37 rfl (lv_at hl 3 rfl) ?_
          refine lv_istore_n (lv' := [(2, .int ac), (0, .ref q), (1, .int x), (3, .int (nI (j + 1)))]) hx hb dX4_erase_38 rfl hl (by decide) rfl (fun ls hl => ?_)
          refine lv_iinc (v := (nI ((j + 1) + 1))) (lv' := [(3, .int (nI ((j + 1) + 1))), (2, .int ac), (0, .ref q), (1, .int x)]) hx hb dX4_erase_39 hl (k := 3) rfl (nI_1 _) (by decide) rfl (fun ls hl => ?_)
          refine lv_goto (tgt := 14) hx hb dX4_erase_42 (by decide) ?_
          have e_ : md_erase_l le ne ins x (r + 1) j ac = md_erase_l le ne ins x r (j + 1) ac := (md_erase_l.eq_2 ..).trans ((if_pos c_28).trans rfl)
          rw [e_]
          exact ih (j + 1) ac (by omega) ls (lv_sub hl [2, 3, 0, 1] rfl)
        · refine lv_iload_n hx hb dX4_erase_31 rfl (lv_at hl 3 rfl) ?_
          refine lv_iconst (v := 1) hx hb dX4_erase_32 (by decide) ?_
          refine lv_iadd hx hb dX4_erase_33 ?_
          refine lv_goto (tgt := 38) hx hb dX4_erase_34 (by decide) ?_
          refine lv_istore_n (lv' := [(2, .int (ac + 1)), (0, .ref q), (1, .int x), (3, .int (nI (j + 1)))]) hx hb dX4_erase_38 rfl hl (by decide) rfl (fun ls hl => ?_)
          refine lv_iinc (v := (nI ((j + 1) + 1))) (lv' := [(3, .int (nI ((j + 1) + 1))), (2, .int (ac + 1)), (0, .ref q), (1, .int x)]) hx hb dX4_erase_39 hl (k := 3) rfl (nI_1 _) (by decide) rfl (fun ls hl => ?_)
          refine lv_goto (tgt := 14) hx hb dX4_erase_42 (by decide) ?_
          have e_ : md_erase_l le ne ins x (r + 1) j ac = md_erase_l le ne ins x r (j + 1) (ac + 1) := (md_erase_l.eq_2 ..).trans ((if_neg c_28).trans rfl)
          rw [e_]
          exact ih (j + 1) (ac + 1) (by omega) ls (lv_sub hl [2, 3, 0, 1] rfl)
    have e_ : md_erase n le ne ins x = md_erase_l le ne ins x n 0 0 := by unfold md_erase; exact (if_pos c_5).trans rfl
    rw [e_]
    exact lp n 0 0 (by omega) ls (lv_sub hl [2, 3, 0, 1] rfl)
  · refine lv_iconst (v := (-1)) hx hb dX4_erase_8 (by decide) ?_
    have e_ : md_erase n le ne ins x = (((-1) : Int32), le, ne, ins) := by unfold md_erase; exact (if_neg c_5).trans rfl
    rw [e_]
    exact W.iret (v := (-1)) hx hb hr (fun t ht hW => ⟨rfl, by rw [ht]; exact hP, hS.F ht⟩) hS.2.2 dX4_erase_9
def md_start (n : Nat) (se : Nat → Int64) (le : Nat → Int32) (ins : Nat → Int32) (cr : Int32) (qs : Int32) (x : Int32) (y : Int64) : Int32 × Int32 × Int32 :=
  if md_none n x = 0 then
    if (le x.toNatClampNeg) = 0 then
      ((0 : Int32), (qs + 1), cr)
    else
      if (ins x.toNatClampNeg) = 0 then
        ((0 : Int32), (qs + 1), cr)
      else
        if (lg_cmp y ((md_rounds (se x.toNatClampNeg) ((((2654435761 * (qs + 1).toInt64) &&& 4294967295) >>> ((16 : Int32).toInt64 &&& 63)).toInt32) ((((2654435761 * (qs + 1).toInt64) &&& 4294967295) &&& 65535).toInt32) 0).toInt64 &&& 4294967295)) = 0 then
          ((1 : Int32), (qs + 1), 0)
        else
          ((0 : Int32), (qs + 1), cr)
  else
    (((-1) : Int32), qs, cr)
def rm_X4_start : Room := { frames := 1, cells := 0, slots := 0, locals := 31 }
set_option maxHeartbeats 4000000 in
set_option maxRecDepth 100000 in
theorem c_X4_start (l : Launch) (dC : Nat → ClassId) (dI : Nat → Nat → Nat) (cI : ClassId) (cJ : ClassId) (cZ : ClassId) (q : Nat) (aS : Nat) (aC : Nat) (aW : Nat) (aL : Nat) (aN : Nat) (aI : Nat) (aB : Nat) (aD : Nat) (aU : Nat) (aF : Nat) (n : Nat) (gv : Nat) (sz : Nat) (cd : Int32) (sp : Int32) (se : Nat → Int64) (ct : Nat → Int32) (aw : Nat → Int32) (le : Nat → Int32) (ne : Nat → Int32) (ins : Nat → Int32) (ba : Nat → Int32) (dd : Nat → Int32) (cr : Int32) (nw : Int64) (cs : Int64) (un : Nat → Int32) (fr : Nat → Int32) (rl : Int32) (qs : Int32) (x : Int32) (y : Int64) (hn : n ≤ 8) : Met l yX4_start wsX4_start rm_X4_start (up_P (dC, dI) vwCl (mdT cI cJ cZ) (mdW cI cJ cZ q aS aC aW aL aN aI aB aD aU aF n gv sz cd sp se ct aw le ne ins ba dd cr nw cs un fr rl qs) [.ref q, .int x, .long y]) (up_Q (dC, dI) vwCl (some (.int ((md_start n se le ins cr qs x y).1))) (mdW cI cJ cZ q aS aC aW aL aN aI aB aD aU aF n gv sz cd sp se ct aw le ne ins ba dd cr nw cs un fr rl qs) (mdW cI cJ cZ q aS aC aW aL aN aI aB aD aU aF n gv sz 0 sp se ct aw le ne ins ba dd ((md_start n se le ins cr qs x y).2.2) nw cs un fr rl ((md_start n se le ins cr qs x y).2.1))) 0 0 (up_c (mdW cI cJ cZ q aS aC aW aL aN aI aB aD aU aF n gv sz cd sp se ct aw le ne ins ba dd cr nw cs un fr rl qs)) := by
  refine Met.ofW (cc := cX4_start) (maxL := 8) (ret := (some .int)) (by decide) rfl ?_
  intro p e s m args below meth c s₁ B hml hv
  obtain ⟨rfl, hP, hK, hD0⟩ := hv
  have hx := B.exec
  have hb := B.bytes
  have hr := B.returns
  have hts := atoms_spec (ws := wsX4_start) B.pre
  have hown : s.vm.findClass RX4 = some m.cls := findClass_of_methodNamed B.named
  have hlocks := B.notSynchronized
  have hD := up_self hD0
  have hS : va_S (up_c (mdW cI cJ cZ q aS aC aW aL aN aI aB aD aU aF n gv sz cd sp se ct aw le ne ins ba dd cr nw cs un fr rl qs)) s.heap s.heap [] := va_S.rf
  have hl := lv_entry ([.ref q, .int x, .long y]) (n := 8) (Nat.le_of_ble_eq_true rfl)
  rw [lg_entry_eq]
  generalize (lg_sl ([.ref q, .int x, .long y]) ++ List.replicate (8 - (lg_sl ([.ref q, .int x, .long y])).length) Slot.unset).toArray = ls at hl ⊢
  have hl : lv_has ls 8 [(0, .ref q), (1, .int x), (2, .long y)] := hl
  refine lv_aload_n hx hb dX4_start_0 rfl (lv_at hl 0 rfl) ?_
  refine lv_iload_n hx hb dX4_start_1 rfl (lv_at hl 1 rfl) ?_
  refine up_call (W.runV (As := [.int x]) (rest := []) ⟨hx, hb, hml, hown, hts⟩ (c_X4_none l dC dI cI cJ cZ q aS aC aW aL aN aI aB aD aU aF n gv sz cd sp se ct aw le ne ins ba dd cr nw cs un fr rl qs x) (cwV 1 hts gX4_start_X4_none rfl rfl rfl (by decide +kernel) ⟨Nat.le_of_ble_eq_true rfl, Nat.le_of_ble_eq_true rfl⟩) (up_preV (q0 := 0) (ci := 5) hP hK hD rfl rfl) rfl rfl hl.1 rfl (lv_room (Nat.le_of_ble_eq_true rfl)) dX4_start_2 ⟨Nat.le_of_ble_eq_true rfl, Nat.le_of_ble_eq_true rfl⟩) hD hS ((md_fst ..).trans (md_fst ..).symm) (fun H locs hP hD hS _ _ => ?_)
  have hP : va_P (dC, dI) vwCl (mdW cI cJ cZ q aS aC aW aL aN aI aB aD aU aF n gv sz 0 sp se ct aw le ne ins ba dd cr nw cs un fr rl qs) H := hP
  have hD : va_D (up_c (mdW cI cJ cZ q aS aC aW aL aN aI aB aD aU aF n gv sz cd sp se ct aw le ne ins ba dd cr nw cs un fr rl qs)) (mdW cI cJ cZ q aS aC aW aL aN aI aB aD aU aF n gv sz 0 sp se ct aw le ne ins ba dd cr nw cs un fr rl qs) := hD
  refine lv_if_eq (tgt := 10) hx hb dX4_start_5 (by decide) (fun c_5 => ?_) (fun c_5 => ?_)
  · refine lv_aload_n hx hb dX4_start_10 rfl (lv_at hl 0 rfl) ?_
    refine lv_dup hx hb dX4_start_11 rfl ?_
    refine va_get (D := (dC, dI)) (ci := 5) (v := .int qs) (C := RX4) (T := TX4) (N := 20) hx hb hts inn_X4_start_X4 hown hK hP 0 rfl rfl 19 (by decide) (hts (.fieldLink RX4 138 "DoorKeysModel" "questions" "I") (by decide +kernel)) (fun _ h9 => h9) rfl dX4_start_12 ?_
    refine lv_iconst (v := 1) hx hb dX4_start_15 (by decide) ?_
    refine lv_iadd hx hb dX4_start_16 ?_
    refine va_put (D := (dC, dI)) (ci := 5) (v := .int (qs + 1)) (ty := .int) (C := RX4) (T := TX4) (N := 20) hx hb hts inn_X4_start_X4 tyX4 tyX4_ok nmX4 hown hK hP hD hS 0 rfl rfl 19 (by decide) (hts (.fieldLink RX4 138 "DoorKeysModel" "questions" "I") (by decide +kernel)) (fun _ h9 => h9) rfl (by decide +kernel) rfl rfl (Nat.le_of_ble_eq_true rfl) dX4_start_17 (fun H locs hP hD hS => ?_)
    have hP : va_P (dC, dI) vwCl (mdW cI cJ cZ q aS aC aW aL aN aI aB aD aU aF n gv sz 0 sp se ct aw le ne ins ba dd cr nw cs un fr rl (qs + 1)) H := hP
    have hD : va_D (up_c (mdW cI cJ cZ q aS aC aW aL aN aI aB aD aU aF n gv sz cd sp se ct aw le ne ins ba dd cr nw cs un fr rl qs)) (mdW cI cJ cZ q aS aC aW aL aN aI aB aD aU aF n gv sz 0 sp se ct aw le ne ins ba dd cr nw cs un fr rl (qs + 1)) := hD
    refine lv_ldc2 (v := 2654435761) hx hb hown (hts (.constantLong RX4 141 2654435761) (by decide +kernel)) dX4_start_20 ?_
    refine lv_aload_n hx hb dX4_start_23 rfl (lv_at hl 0 rfl) ?_
    refine va_get (D := (dC, dI)) (ci := 5) (v := .int (qs + 1)) (C := RX4) (T := TX4) (N := 20) hx hb hts inn_X4_start_X4 hown hK hP 0 rfl rfl 19 (by decide) (hts (.fieldLink RX4 138 "DoorKeysModel" "questions" "I") (by decide +kernel)) (fun _ h9 => h9) rfl dX4_start_24 ?_
    refine lv_i2l (v := (qs + 1).toInt64) hx hb dX4_start_27 rfl ?_
    refine lv_lmul hx hb dX4_start_28 ?_
    refine lv_ldc2 (v := 4294967295) hx hb hown (hts (.constantLong RX4 143 4294967295) (by decide +kernel)) dX4_start_29 ?_
    refine lv_land hx hb dX4_start_32 ?_
    refine lv_lstore (lv' := [(4, .long ((2654435761 * (qs + 1).toInt64) &&& 4294967295)), (0, .ref q), (1, .int x), (2, .long y)]) hx hb dX4_start_33 hl (by decide) rfl (fun ls hl => ?_)
    refine lv_aload_n hx hb dX4_start_35 rfl (lv_at hl 1 rfl) ?_
    refine va_get (D := (dC, dI)) (ci := 5) (v := .ref aS) (C := RX4) (T := TX4) (N := 20) hx hb hts inn_X4_start_X4 hown hK hP 0 rfl rfl 3 (by decide) (hts (.fieldLink RX4 7 "DoorKeysModel" "secret" "[J") (by decide +kernel)) (fun _ h9 => h9) rfl dX4_start_36 ?_
    refine lv_iload_n hx hb dX4_start_39 rfl (lv_at hl 2 rfl) ?_
    refine va_lald hx hb hK hP 1 1 rfl rfl (md_none_in hn c_5) dX4_start_40 ?_
    refine lv_lload hx hb dX4_start_41 (lv_at hl 0 rfl) ?_
    refine lv_bipush (v := 16) hx hb dX4_start_43 (by decide) ?_
    refine lv_lshr (v := ((2654435761 * (qs + 1).toInt64) &&& 4294967295) >>> ((16 : Int32).toInt64 &&& 63)) hx hb dX4_start_45 rfl ?_
    refine lv_l2i (v := (((2654435761 * (qs + 1).toInt64) &&& 4294967295) >>> ((16 : Int32).toInt64 &&& 63)).toInt32) hx hb dX4_start_46 rfl ?_
    refine lv_lload hx hb dX4_start_47 (lv_at hl 0 rfl) ?_
    refine lv_ldc2 (v := 65535) hx hb hown (hts (.constantLong RX4 52 65535) (by decide +kernel)) dX4_start_49 ?_
    refine lv_land hx hb dX4_start_52 ?_
    refine lv_l2i (v := (((2654435761 * (qs + 1).toInt64) &&& 4294967295) &&& 65535).toInt32) hx hb dX4_start_53 rfl ?_
    refine lv_iconst (v := 0) hx hb dX4_start_54 (by decide) ?_
    refine up_read (W.runS (As := [.long (se x.toNatClampNeg), .int ((((2654435761 * (qs + 1).toInt64) &&& 4294967295) >>> ((16 : Int32).toInt64 &&& 63)).toInt32), .int ((((2654435761 * (qs + 1).toInt64) &&& 4294967295) &&& 65535).toInt32), .int 0]) (rest := []) ⟨hx, hb, hml, hown, hts⟩ (c_X4_rounds l dC dI cI cJ cZ q aS aC aW aL aN aI aB aD aU aF n gv sz 0 sp se ct aw le ne ins ba dd cr nw cs un fr rl (qs + 1) (se x.toNatClampNeg) ((((2654435761 * (qs + 1).toInt64) &&& 4294967295) >>> ((16 : Int32).toInt64 &&& 63)).toInt32) ((((2654435761 * (qs + 1).toInt64) &&& 4294967295) &&& 65535).toInt32) 0) (va_cwS 4 hts gX4_start_X4_rounds rfl rfl rfl (by decide +kernel) ⟨Nat.le_of_ble_eq_true rfl, Nat.le_of_ble_eq_true rfl⟩) (up_preS hP hK hD) rfl rfl hl.1 rfl (lv_room (Nat.le_of_ble_eq_true rfl)) dX4_start_55 ⟨Nat.le_of_ble_eq_true rfl, Nat.le_of_ble_eq_true rfl⟩) ?_
    refine lv_i2l (v := (md_rounds (se x.toNatClampNeg) ((((2654435761 * (qs + 1).toInt64) &&& 4294967295) >>> ((16 : Int32).toInt64 &&& 63)).toInt32) ((((2654435761 * (qs + 1).toInt64) &&& 4294967295) &&& 65535).toInt32) 0).toInt64) hx hb dX4_start_58 rfl ?_
    refine lv_ldc2 (v := 4294967295) hx hb hown (hts (.constantLong RX4 143 4294967295) (by decide +kernel)) dX4_start_59 ?_
    refine lv_land hx hb dX4_start_62 ?_
    refine lv_lstore (lv' := [(6, .long ((md_rounds (se x.toNatClampNeg) ((((2654435761 * (qs + 1).toInt64) &&& 4294967295) >>> ((16 : Int32).toInt64 &&& 63)).toInt32) ((((2654435761 * (qs + 1).toInt64) &&& 4294967295) &&& 65535).toInt32) 0).toInt64 &&& 4294967295)), (4, .long ((2654435761 * (qs + 1).toInt64) &&& 4294967295)), (0, .ref q), (1, .int x), (2, .long y)]) hx hb dX4_start_63 hl (by decide) rfl (fun ls hl => ?_)
    refine lv_aload_n hx hb dX4_start_65 rfl (lv_at hl 2 rfl) ?_
    refine va_get (D := (dC, dI)) (ci := 5) (v := .ref aL) (C := RX4) (T := TX4) (N := 20) hx hb hts inn_X4_start_X4 hown hK hP 0 rfl rfl 6 (by decide) (hts (.fieldLink RX4 20 "DoorKeysModel" "learned" "[Z") (by decide +kernel)) (fun _ h9 => h9) rfl dX4_start_66 ?_
    refine lv_iload_n hx hb dX4_start_69 rfl (lv_at hl 3 rfl) ?_
    refine va_zald hx hb hK hP 4 2 rfl rfl (md_none_in hn c_5) dX4_start_70 ?_
    refine lv_if_eq (tgt := 90) hx hb dX4_start_71 (by decide) (fun c_71 => ?_) (fun c_71 => ?_)
    · refine lv_iconst (v := 0) hx hb dX4_start_90 (by decide) ?_
      have e_ : md_start n se le ins cr qs x y = ((0 : Int32), (qs + 1), cr) := by unfold md_start; exact (if_pos c_5).trans ((if_pos c_71).trans rfl)
      rw [e_]
      exact W.iret (v := 0) hx hb hr (fun t ht hW => ⟨rfl, by rw [ht]; exact hP, hS.F ht⟩) hS.2.2 dX4_start_91
    · refine lv_aload_n hx hb dX4_start_74 rfl (lv_at hl 2 rfl) ?_
      refine va_get (D := (dC, dI)) (ci := 5) (v := .ref aI) (C := RX4) (T := TX4) (N := 20) hx hb hts inn_X4_start_X4 hown hK hP 0 rfl rfl 8 (by decide) (hts (.fieldLink RX4 27 "DoorKeysModel" "inside" "[Z") (by decide +kernel)) (fun _ h9 => h9) rfl dX4_start_75 ?_
      refine lv_iload_n hx hb dX4_start_78 rfl (lv_at hl 3 rfl) ?_
      refine va_zald hx hb hK hP 6 2 rfl rfl (md_none_in hn c_5) dX4_start_79 ?_
      refine lv_if_eq (tgt := 90) hx hb dX4_start_80 (by decide) (fun c_80 => ?_) (fun c_80 => ?_)
      · refine lv_iconst (v := 0) hx hb dX4_start_90 (by decide) ?_
        have e_ : md_start n se le ins cr qs x y = ((0 : Int32), (qs + 1), cr) := by unfold md_start; exact (if_pos c_5).trans ((if_neg c_71).trans ((if_pos c_80).trans rfl))
        rw [e_]
        exact W.iret (v := 0) hx hb hr (fun t ht hW => ⟨rfl, by rw [ht]; exact hP, hS.F ht⟩) hS.2.2 dX4_start_91
      · refine lv_lload_n hx hb dX4_start_83 rfl (lv_at hl 4 rfl) ?_
        refine lv_lload hx hb dX4_start_84 (lv_at hl 0 rfl) ?_
        refine W.lcmp hx hb dX4_start_86 ?_
        refine lv_if_eq (tgt := 92) hx hb dX4_start_87 (by decide) (fun c_87 => ?_) (fun c_87 => ?_)
        · refine lv_aload_n hx hb dX4_start_92 rfl (lv_at hl 2 rfl) ?_
          refine lv_iconst (v := 0) hx hb dX4_start_93 (by decide) ?_
          refine va_put (D := (dC, dI)) (ci := 5) (v := .int 0) (ty := .boolean) (C := RX4) (T := TX4) (N := 20) hx hb hts inn_X4_start_X4 tyX4 tyX4_ok nmX4 hown hK hP hD hS 0 rfl rfl 11 (by decide) (hts (.fieldLink RX4 75 "DoorKeysModel" "crashed" "Z") (by decide +kernel)) (fun _ h9 => h9) rfl (by decide +kernel) rfl rfl (Nat.le_of_ble_eq_true rfl) dX4_start_94 (fun H locs hP hD hS => ?_)
          have hP : va_P (dC, dI) vwCl (mdW cI cJ cZ q aS aC aW aL aN aI aB aD aU aF n gv sz 0 sp se ct aw le ne ins ba dd 0 nw cs un fr rl (qs + 1)) H := hP
          have hD : va_D (up_c (mdW cI cJ cZ q aS aC aW aL aN aI aB aD aU aF n gv sz cd sp se ct aw le ne ins ba dd cr nw cs un fr rl qs)) (mdW cI cJ cZ q aS aC aW aL aN aI aB aD aU aF n gv sz 0 sp se ct aw le ne ins ba dd 0 nw cs un fr rl (qs + 1)) := hD
          refine lv_iconst (v := 1) hx hb dX4_start_97 (by decide) ?_
          have e_ : md_start n se le ins cr qs x y = ((1 : Int32), (qs + 1), 0) := by unfold md_start; exact (if_pos c_5).trans ((if_neg c_71).trans ((if_neg c_80).trans ((if_pos c_87).trans rfl)))
          rw [e_]
          exact W.iret (v := 1) hx hb hr (fun t ht hW => ⟨rfl, by rw [ht]; exact hP, hS.F ht⟩) hS.2.2 dX4_start_98
        · refine lv_iconst (v := 0) hx hb dX4_start_90 (by decide) ?_
          have e_ : md_start n se le ins cr qs x y = ((0 : Int32), (qs + 1), cr) := by unfold md_start; exact (if_pos c_5).trans ((if_neg c_71).trans ((if_neg c_80).trans ((if_neg c_87).trans rfl)))
          rw [e_]
          exact W.iret (v := 0) hx hb hr (fun t ht hW => ⟨rfl, by rw [ht]; exact hP, hS.F ht⟩) hS.2.2 dX4_start_91
  · refine lv_iconst (v := (-1)) hx hb dX4_start_8 (by decide) ?_
    have e_ : md_start n se le ins cr qs x y = (((-1) : Int32), qs, cr) := by unfold md_start; exact (if_neg c_5).trans rfl
    rw [e_]
    exact W.iret (v := (-1)) hx hb hr (fun t ht hW => ⟨rfl, by rw [ht]; exact hP, hS.F ht⟩) hS.2.2 dX4_start_9
def md_crash (dd : Nat → Int32) (nw : Int64) (cs : Int64) : Int32 × Int32 × (Nat → Int32) × Int64 :=
  ((md_turn dd nw cs 0 5 3 0).1, 1, (md_turn dd nw cs 0 5 3 0).2.1, (md_turn dd nw cs 0 5 3 0).2.2)
def rm_X4_crash : Room := { frames := 2, cells := 0, slots := 0, locals := 50 }
set_option maxHeartbeats 4000000 in
set_option maxRecDepth 100000 in
theorem c_X4_crash (l : Launch) (dC : Nat → ClassId) (dI : Nat → Nat → Nat) (cI : ClassId) (cJ : ClassId) (cZ : ClassId) (q : Nat) (aS : Nat) (aC : Nat) (aW : Nat) (aL : Nat) (aN : Nat) (aI : Nat) (aB : Nat) (aD : Nat) (aU : Nat) (aF : Nat) (n : Nat) (gv : Nat) (sz : Nat) (cd : Int32) (sp : Int32) (se : Nat → Int64) (ct : Nat → Int32) (aw : Nat → Int32) (le : Nat → Int32) (ne : Nat → Int32) (ins : Nat → Int32) (ba : Nat → Int32) (dd : Nat → Int32) (cr : Int32) (nw : Int64) (cs : Int64) (un : Nat → Int32) (fr : Nat → Int32) (rl : Int32) (qs : Int32) : Met l yX4_crash wsX4_crash rm_X4_crash (up_P (dC, dI) vwCl (mdT cI cJ cZ) (mdW cI cJ cZ q aS aC aW aL aN aI aB aD aU aF n gv sz cd sp se ct aw le ne ins ba dd cr nw cs un fr rl qs) [.ref q]) (up_Q (dC, dI) vwCl (some (.int ((md_crash dd nw cs).1))) (mdW cI cJ cZ q aS aC aW aL aN aI aB aD aU aF n gv sz cd sp se ct aw le ne ins ba dd cr nw cs un fr rl qs) (mdW cI cJ cZ q aS aC aW aL aN aI aB aD aU aF n gv sz 0 sp se ct aw le ne ins ba ((md_crash dd nw cs).2.2.1) ((md_crash dd nw cs).2.1) nw ((md_crash dd nw cs).2.2.2) un fr rl qs)) 0 0 (up_c (mdW cI cJ cZ q aS aC aW aL aN aI aB aD aU aF n gv sz cd sp se ct aw le ne ins ba dd cr nw cs un fr rl qs)) := by
  refine Met.ofW (cc := cX4_crash) (maxL := 1) (ret := (some .int)) (by decide) rfl ?_
  intro p e s m args below meth c s₁ B hml hv
  obtain ⟨rfl, hP, hK, hD0⟩ := hv
  have hx := B.exec
  have hb := B.bytes
  have hr := B.returns
  have hts := atoms_spec (ws := wsX4_crash) B.pre
  have hown : s.vm.findClass RX4 = some m.cls := findClass_of_methodNamed B.named
  have hlocks := B.notSynchronized
  have hD := up_self hD0
  have hS : va_S (up_c (mdW cI cJ cZ q aS aC aW aL aN aI aB aD aU aF n gv sz cd sp se ct aw le ne ins ba dd cr nw cs un fr rl qs)) s.heap s.heap [] := va_S.rf
  have hl := lv_entry ([.ref q]) (n := 1) (Nat.le_of_ble_eq_true rfl)
  rw [lg_entry_eq]
  generalize (lg_sl ([.ref q]) ++ List.replicate (1 - (lg_sl ([.ref q])).length) Slot.unset).toArray = ls at hl ⊢
  have hl : lv_has ls 1 [(0, .ref q)] := hl
  refine lv_aload_n hx hb dX4_crash_0 rfl (lv_at hl 0 rfl) ?_
  refine lv_iconst (v := 0) hx hb dX4_crash_1 (by decide) ?_
  refine va_put (D := (dC, dI)) (ci := 5) (v := .int 0) (ty := .int) (C := RX4) (T := TX4) (N := 20) hx hb hts inn_X4_crash_X4 tyX4 tyX4_ok nmX4 hown hK hP hD hS 0 rfl rfl 0 (by decide) (hts (.fieldLink RX4 46 "DoorKeysModel" "code" "I") (by decide +kernel)) (fun _ h9 => h9) rfl (by decide +kernel) rfl rfl (Nat.le_of_ble_eq_true rfl) dX4_crash_2 (fun H locs hP hD hS => ?_)
  have hP : va_P (dC, dI) vwCl (mdW cI cJ cZ q aS aC aW aL aN aI aB aD aU aF n gv sz 0 sp se ct aw le ne ins ba dd cr nw cs un fr rl qs) H := hP
  have hD : va_D (up_c (mdW cI cJ cZ q aS aC aW aL aN aI aB aD aU aF n gv sz cd sp se ct aw le ne ins ba dd cr nw cs un fr rl qs)) (mdW cI cJ cZ q aS aC aW aL aN aI aB aD aU aF n gv sz 0 sp se ct aw le ne ins ba dd cr nw cs un fr rl qs) := hD
  refine lv_aload_n hx hb dX4_crash_5 rfl (lv_at hl 0 rfl) ?_
  refine lv_iconst (v := 1) hx hb dX4_crash_6 (by decide) ?_
  refine va_put (D := (dC, dI)) (ci := 5) (v := .int 1) (ty := .boolean) (C := RX4) (T := TX4) (N := 20) hx hb hts inn_X4_crash_X4 tyX4 tyX4_ok nmX4 hown hK hP hD hS 0 rfl rfl 11 (by decide) (hts (.fieldLink RX4 75 "DoorKeysModel" "crashed" "Z") (by decide +kernel)) (fun _ h9 => h9) rfl (by decide +kernel) rfl rfl (Nat.le_of_ble_eq_true rfl) dX4_crash_7 (fun H locs hP hD hS => ?_)
  have hP : va_P (dC, dI) vwCl (mdW cI cJ cZ q aS aC aW aL aN aI aB aD aU aF n gv sz 0 sp se ct aw le ne ins ba dd 1 nw cs un fr rl qs) H := hP
  have hD : va_D (up_c (mdW cI cJ cZ q aS aC aW aL aN aI aB aD aU aF n gv sz cd sp se ct aw le ne ins ba dd cr nw cs un fr rl qs)) (mdW cI cJ cZ q aS aC aW aL aN aI aB aD aU aF n gv sz 0 sp se ct aw le ne ins ba dd 1 nw cs un fr rl qs) := hD
  refine lv_aload_n hx hb dX4_crash_10 rfl (lv_at hl 0 rfl) ?_
  refine lv_iconst (v := 0) hx hb dX4_crash_11 (by decide) ?_
  refine lv_iconst (v := 5) hx hb dX4_crash_12 (by decide) ?_
  refine lv_iconst (v := 3) hx hb dX4_crash_13 (by decide) ?_
  refine lv_iconst (v := 0) hx hb dX4_crash_14 (by decide) ?_
  refine up_call (W.runV (As := [.int 0, .int 5, .int 3, .int 0]) (rest := []) ⟨hx, hb, hml, hown, hts⟩ (c_X4_turn l dC dI cI cJ cZ q aS aC aW aL aN aI aB aD aU aF n gv sz 0 sp se ct aw le ne ins ba dd 1 nw cs un fr rl qs 0 5 3 0 (by decide) (by decide)) (cwV 4 hts gX4_crash_X4_turn rfl rfl rfl (by decide +kernel) ⟨Nat.le_of_ble_eq_true rfl, Nat.le_of_ble_eq_true rfl⟩) (up_preV (q0 := 0) (ci := 5) hP hK hD rfl rfl) rfl rfl hl.1 rfl (lv_room (Nat.le_of_ble_eq_true rfl)) dX4_crash_15 ⟨Nat.le_of_ble_eq_true rfl, Nat.le_of_ble_eq_true rfl⟩) hD hS ((md_fst ..).trans (md_fst ..).symm) (fun H locs hP hD hS _ _ => ?_)
  have hP : va_P (dC, dI) vwCl (mdW cI cJ cZ q aS aC aW aL aN aI aB aD aU aF n gv sz 0 sp se ct aw le ne ins ba ((md_turn dd nw cs 0 5 3 0).2.1) 1 nw ((md_turn dd nw cs 0 5 3 0).2.2) un fr rl qs) H := hP
  have hD : va_D (up_c (mdW cI cJ cZ q aS aC aW aL aN aI aB aD aU aF n gv sz cd sp se ct aw le ne ins ba dd cr nw cs un fr rl qs)) (mdW cI cJ cZ q aS aC aW aL aN aI aB aD aU aF n gv sz 0 sp se ct aw le ne ins ba ((md_turn dd nw cs 0 5 3 0).2.1) 1 nw ((md_turn dd nw cs 0 5 3 0).2.2) un fr rl qs) := hD
  have e_ : md_crash dd nw cs = ((md_turn dd nw cs 0 5 3 0).1, 1, (md_turn dd nw cs 0 5 3 0).2.1, (md_turn dd nw cs 0 5 3 0).2.2) := by unfold md_crash; exact rfl
  rw [e_]
  exact W.iret (v := (md_turn dd nw cs 0 5 3 0).1) hx hb hr (fun t ht hW => ⟨rfl, by rw [ht]; exact hP, hS.F ht⟩) hS.2.2 dX4_crash_18
def md_alarm (dd : Nat → Int32) (nw : Int64) (cs : Int64) (x : Int32) (y : Int64) : Int32 × Int64 :=
  if x < 0 then
    (((-1) : Int32), nw)
  else
    if x ≤ 7 then
      if 0 ≤ (lg_cmp y nw) then
        if md_some dd 0 = 0 then
          if (lg_cmp (y - cs) 29) ≤ 0 then
            ((0 : Int32), y)
          else
            ((1 : Int32), y)
        else
          ((0 : Int32), y)
      else
        (((-2) : Int32), nw)
    else
      (((-1) : Int32), nw)
def rm_X4_alarm : Room := { frames := 1, cells := 0, slots := 0, locals := 23 }
set_option maxHeartbeats 4000000 in
set_option maxRecDepth 100000 in
theorem c_X4_alarm (l : Launch) (dC : Nat → ClassId) (dI : Nat → Nat → Nat) (cI : ClassId) (cJ : ClassId) (cZ : ClassId) (q : Nat) (aS : Nat) (aC : Nat) (aW : Nat) (aL : Nat) (aN : Nat) (aI : Nat) (aB : Nat) (aD : Nat) (aU : Nat) (aF : Nat) (n : Nat) (gv : Nat) (sz : Nat) (cd : Int32) (sp : Int32) (se : Nat → Int64) (ct : Nat → Int32) (aw : Nat → Int32) (le : Nat → Int32) (ne : Nat → Int32) (ins : Nat → Int32) (ba : Nat → Int32) (dd : Nat → Int32) (cr : Int32) (nw : Int64) (cs : Int64) (un : Nat → Int32) (fr : Nat → Int32) (rl : Int32) (qs : Int32) (x : Int32) (y : Int64) : Met l yX4_alarm wsX4_alarm rm_X4_alarm (up_P (dC, dI) vwCl (mdT cI cJ cZ) (mdW cI cJ cZ q aS aC aW aL aN aI aB aD aU aF n gv sz cd sp se ct aw le ne ins ba dd cr nw cs un fr rl qs) [.ref q, .int x, .long y]) (up_Q (dC, dI) vwCl (some (.int ((md_alarm dd nw cs x y).1))) (mdW cI cJ cZ q aS aC aW aL aN aI aB aD aU aF n gv sz cd sp se ct aw le ne ins ba dd cr nw cs un fr rl qs) (mdW cI cJ cZ q aS aC aW aL aN aI aB aD aU aF n gv sz 0 sp se ct aw le ne ins ba dd cr ((md_alarm dd nw cs x y).2) cs un fr rl qs)) 0 0 (up_c (mdW cI cJ cZ q aS aC aW aL aN aI aB aD aU aF n gv sz cd sp se ct aw le ne ins ba dd cr nw cs un fr rl qs)) := by
  refine Met.ofW (cc := cX4_alarm) (maxL := 4) (ret := (some .int)) (by decide) rfl ?_
  intro p e s m args below meth c s₁ B hml hv
  obtain ⟨rfl, hP, hK, hD0⟩ := hv
  have hx := B.exec
  have hb := B.bytes
  have hr := B.returns
  have hts := atoms_spec (ws := wsX4_alarm) B.pre
  have hown : s.vm.findClass RX4 = some m.cls := findClass_of_methodNamed B.named
  have hlocks := B.notSynchronized
  have hD := up_self hD0
  have hS : va_S (up_c (mdW cI cJ cZ q aS aC aW aL aN aI aB aD aU aF n gv sz cd sp se ct aw le ne ins ba dd cr nw cs un fr rl qs)) s.heap s.heap [] := va_S.rf
  have hl := lv_entry ([.ref q, .int x, .long y]) (n := 4) (Nat.le_of_ble_eq_true rfl)
  rw [lg_entry_eq]
  generalize (lg_sl ([.ref q, .int x, .long y]) ++ List.replicate (4 - (lg_sl ([.ref q, .int x, .long y])).length) Slot.unset).toArray = ls at hl ⊢
  have hl : lv_has ls 4 [(0, .ref q), (1, .int x), (2, .long y)] := hl
  refine lv_aload_n hx hb dX4_alarm_0 rfl (lv_at hl 0 rfl) ?_
  refine lv_iconst (v := 0) hx hb dX4_alarm_1 (by decide) ?_
  refine va_put (D := (dC, dI)) (ci := 5) (v := .int 0) (ty := .int) (C := RX4) (T := TX4) (N := 20) hx hb hts inn_X4_alarm_X4 tyX4 tyX4_ok nmX4 hown hK hP hD hS 0 rfl rfl 0 (by decide) (hts (.fieldLink RX4 46 "DoorKeysModel" "code" "I") (by decide +kernel)) (fun _ h9 => h9) rfl (by decide +kernel) rfl rfl (Nat.le_of_ble_eq_true rfl) dX4_alarm_2 (fun H locs hP hD hS => ?_)
  have hP : va_P (dC, dI) vwCl (mdW cI cJ cZ q aS aC aW aL aN aI aB aD aU aF n gv sz 0 sp se ct aw le ne ins ba dd cr nw cs un fr rl qs) H := hP
  have hD : va_D (up_c (mdW cI cJ cZ q aS aC aW aL aN aI aB aD aU aF n gv sz cd sp se ct aw le ne ins ba dd cr nw cs un fr rl qs)) (mdW cI cJ cZ q aS aC aW aL aN aI aB aD aU aF n gv sz 0 sp se ct aw le ne ins ba dd cr nw cs un fr rl qs) := hD
  refine lv_iload_n hx hb dX4_alarm_5 rfl (lv_at hl 1 rfl) ?_
  refine lv_if_lt (tgt := 15) hx hb dX4_alarm_6 (by decide) (fun c_6 => ?_) (fun c_6 => ?_)
  · refine lv_iconst (v := (-1)) hx hb dX4_alarm_15 (by decide) ?_
    have e_ : md_alarm dd nw cs x y = (((-1) : Int32), nw) := by unfold md_alarm; exact (if_pos c_6).trans rfl
    rw [e_]
    exact W.iret (v := (-1)) hx hb hr (fun t ht hW => ⟨rfl, by rw [ht]; exact hP, hS.F ht⟩) hS.2.2 dX4_alarm_16
  · refine lv_iload_n hx hb dX4_alarm_9 rfl (lv_at hl 1 rfl) ?_
    refine lv_bipush (v := 7) hx hb dX4_alarm_10 (by decide) ?_
    refine lv_icmp_le (tgt := 17) hx hb dX4_alarm_12 (by decide) (fun c_12 => ?_) (fun c_12 => ?_)
    · refine lv_lload_n hx hb dX4_alarm_17 rfl (lv_at hl 2 rfl) ?_
      refine lv_aload_n hx hb dX4_alarm_18 rfl (lv_at hl 0 rfl) ?_
      refine va_get (D := (dC, dI)) (ci := 5) (v := .long nw) (C := RX4) (T := TX4) (N := 20) hx hb hts inn_X4_alarm_X4 hown hK hP 0 rfl rfl 12 (by decide) (hts (.fieldLink RX4 64 "DoorKeysModel" "now" "J") (by decide +kernel)) (fun _ h9 => h9) rfl dX4_alarm_19 ?_
      refine W.lcmp hx hb dX4_alarm_22 ?_
      refine lv_if_ge (tgt := 29) hx hb dX4_alarm_23 (by decide) (fun c_23 => ?_) (fun c_23 => ?_)
      · refine lv_aload_n hx hb dX4_alarm_29 rfl (lv_at hl 0 rfl) ?_
        refine lv_lload_n hx hb dX4_alarm_30 rfl (lv_at hl 2 rfl) ?_
        refine va_put (D := (dC, dI)) (ci := 5) (v := .long y) (ty := .long) (C := RX4) (T := TX4) (N := 20) hx hb hts inn_X4_alarm_X4 tyX4 tyX4_ok nmX4 hown hK hP hD hS 0 rfl rfl 12 (by decide) (hts (.fieldLink RX4 64 "DoorKeysModel" "now" "J") (by decide +kernel)) (fun _ h9 => h9) rfl (by decide +kernel) rfl rfl (Nat.le_of_ble_eq_true rfl) dX4_alarm_31 (fun H locs hP hD hS => ?_)
        have hP : va_P (dC, dI) vwCl (mdW cI cJ cZ q aS aC aW aL aN aI aB aD aU aF n gv sz 0 sp se ct aw le ne ins ba dd cr y cs un fr rl qs) H := hP
        have hD : va_D (up_c (mdW cI cJ cZ q aS aC aW aL aN aI aB aD aU aF n gv sz cd sp se ct aw le ne ins ba dd cr nw cs un fr rl qs)) (mdW cI cJ cZ q aS aC aW aL aN aI aB aD aU aF n gv sz 0 sp se ct aw le ne ins ba dd cr y cs un fr rl qs) := hD
        refine lv_aload_n hx hb dX4_alarm_34 rfl (lv_at hl 0 rfl) ?_
        refine lv_iconst (v := 0) hx hb dX4_alarm_35 (by decide) ?_
        refine up_read (W.runV (As := [.int 0]) (rest := []) ⟨hx, hb, hml, hown, hts⟩ (c_X4_some l dC dI cI cJ cZ q aS aC aW aL aN aI aB aD aU aF n gv sz 0 sp se ct aw le ne ins ba dd cr y cs un fr rl qs 0) (cwV 1 hts gX4_alarm_X4_some rfl rfl rfl (by decide +kernel) ⟨Nat.le_of_ble_eq_true rfl, Nat.le_of_ble_eq_true rfl⟩) (up_preV (q0 := 0) (ci := 5) hP hK hD rfl rfl) rfl rfl hl.1 rfl (lv_room (Nat.le_of_ble_eq_true rfl)) dX4_alarm_36 ⟨Nat.le_of_ble_eq_true rfl, Nat.le_of_ble_eq_true rfl⟩) ?_
        refine lv_if_ne (tgt := 62) hx hb dX4_alarm_39 (by decide) (fun c_39 => ?_) (fun c_39 => ?_)
        · refine lv_iconst (v := 0) hx hb dX4_alarm_62 (by decide) ?_
          have e_ : md_alarm dd nw cs x y = ((0 : Int32), y) := by unfold md_alarm; exact (if_neg c_6).trans ((if_pos c_12).trans ((if_pos c_23).trans ((if_neg c_39).trans rfl)))
          rw [e_]
          exact W.iret (v := 0) hx hb hr (fun t ht hW => ⟨rfl, by rw [ht]; exact hP, hS.F ht⟩) hS.2.2 dX4_alarm_63
        · refine lv_aload_n hx hb dX4_alarm_42 rfl (lv_at hl 0 rfl) ?_
          refine va_get (D := (dC, dI)) (ci := 5) (v := .long y) (C := RX4) (T := TX4) (N := 20) hx hb hts inn_X4_alarm_X4 hown hK hP 0 rfl rfl 12 (by decide) (hts (.fieldLink RX4 64 "DoorKeysModel" "now" "J") (by decide +kernel)) (fun _ h9 => h9) rfl dX4_alarm_43 ?_
          refine lv_aload_n hx hb dX4_alarm_46 rfl (lv_at hl 0 rfl) ?_
          refine va_get (D := (dC, dI)) (ci := 5) (v := .long cs) (C := RX4) (T := TX4) (N := 20) hx hb hts inn_X4_alarm_X4 hown hK hP 0 rfl rfl 13 (by decide) (hts (.fieldLink RX4 68 "DoorKeysModel" "closed" "J") (by decide +kernel)) (fun _ h9 => h9) rfl dX4_alarm_47 ?_
          refine lv_lsub hx hb dX4_alarm_50 ?_
          refine lv_ldc2 (v := 29) hx hb hown (hts (.constantLong RX4 145 29) (by decide +kernel)) dX4_alarm_51 ?_
          refine W.lcmp hx hb dX4_alarm_54 ?_
          refine lv_if_le (tgt := 62) hx hb dX4_alarm_55 (by decide) (fun c_55 => ?_) (fun c_55 => ?_)
          · refine lv_iconst (v := 0) hx hb dX4_alarm_62 (by decide) ?_
            have e_ : md_alarm dd nw cs x y = ((0 : Int32), y) := by unfold md_alarm; exact (if_neg c_6).trans ((if_pos c_12).trans ((if_pos c_23).trans ((if_pos c_39).trans ((if_pos c_55).trans rfl))))
            rw [e_]
            exact W.iret (v := 0) hx hb hr (fun t ht hW => ⟨rfl, by rw [ht]; exact hP, hS.F ht⟩) hS.2.2 dX4_alarm_63
          · refine lv_iconst (v := 1) hx hb dX4_alarm_58 (by decide) ?_
            refine lv_goto (tgt := 63) hx hb dX4_alarm_59 (by decide) ?_
            have e_ : md_alarm dd nw cs x y = ((1 : Int32), y) := by unfold md_alarm; exact (if_neg c_6).trans ((if_pos c_12).trans ((if_pos c_23).trans ((if_pos c_39).trans ((if_neg c_55).trans rfl))))
            rw [e_]
            exact W.iret (v := 1) hx hb hr (fun t ht hW => ⟨rfl, by rw [ht]; exact hP, hS.F ht⟩) hS.2.2 dX4_alarm_63
      · refine lv_bipush (v := (-2)) hx hb dX4_alarm_26 (by decide) ?_
        have e_ : md_alarm dd nw cs x y = (((-2) : Int32), nw) := by unfold md_alarm; exact (if_neg c_6).trans ((if_pos c_12).trans ((if_neg c_23).trans rfl))
        rw [e_]
        exact W.iret (v := (-2)) hx hb hr (fun t ht hW => ⟨rfl, by rw [ht]; exact hP, hS.F ht⟩) hS.2.2 dX4_alarm_28
    · refine lv_iconst (v := (-1)) hx hb dX4_alarm_15 (by decide) ?_
      have e_ : md_alarm dd nw cs x y = (((-1) : Int32), nw) := by unfold md_alarm; exact (if_neg c_6).trans ((if_neg c_12).trans rfl)
      rw [e_]
      exact W.iret (v := (-1)) hx hb hr (fun t ht hW => ⟨rfl, by rw [ht]; exact hP, hS.F ht⟩) hS.2.2 dX4_alarm_16
def md_octet (sz : Nat) (fr : Nat → Int32) (x : Int32) : Int32 × Int32 :=
  if x < 0 then
    ((0 : Int32), 1)
  else
    if x < (nI sz) then
      ((fr x.toNatClampNeg).toInt8.toInt32, 0)
    else
      ((0 : Int32), 1)
def rm_X4_octet : Room := { frames := 0, cells := 0, slots := 0, locals := 0 }
set_option maxHeartbeats 4000000 in
set_option maxRecDepth 100000 in
theorem c_X4_octet (l : Launch) (dC : Nat → ClassId) (dI : Nat → Nat → Nat) (cI : ClassId) (cJ : ClassId) (cZ : ClassId) (q : Nat) (aS : Nat) (aC : Nat) (aW : Nat) (aL : Nat) (aN : Nat) (aI : Nat) (aB : Nat) (aD : Nat) (aU : Nat) (aF : Nat) (n : Nat) (gv : Nat) (sz : Nat) (cd : Int32) (sp : Int32) (se : Nat → Int64) (ct : Nat → Int32) (aw : Nat → Int32) (le : Nat → Int32) (ne : Nat → Int32) (ins : Nat → Int32) (ba : Nat → Int32) (dd : Nat → Int32) (cr : Int32) (nw : Int64) (cs : Int64) (un : Nat → Int32) (fr : Nat → Int32) (rl : Int32) (qs : Int32) (x : Int32) (hz : sz ≤ 16) : Met l yX4_octet wsX4_octet rm_X4_octet (up_P (dC, dI) vwCl (mdT cI cJ cZ) (mdW cI cJ cZ q aS aC aW aL aN aI aB aD aU aF n gv sz cd sp se ct aw le ne ins ba dd cr nw cs un fr rl qs) [.ref q, .int x]) (up_Q (dC, dI) vwCl (some (.int ((md_octet sz fr x).1))) (mdW cI cJ cZ q aS aC aW aL aN aI aB aD aU aF n gv sz cd sp se ct aw le ne ins ba dd cr nw cs un fr rl qs) (mdW cI cJ cZ q aS aC aW aL aN aI aB aD aU aF n gv sz ((md_octet sz fr x).2) sp se ct aw le ne ins ba dd cr nw cs un fr rl qs)) 0 0 (up_c (mdW cI cJ cZ q aS aC aW aL aN aI aB aD aU aF n gv sz cd sp se ct aw le ne ins ba dd cr nw cs un fr rl qs)) := by
  refine Met.ofW (cc := cX4_octet) (maxL := 2) (ret := (some .byte)) (by decide) rfl ?_
  intro p e s m args below meth c s₁ B hml hv
  obtain ⟨rfl, hP, hK, hD0⟩ := hv
  have hx := B.exec
  have hb := B.bytes
  have hr := B.returns
  have hts := atoms_spec (ws := wsX4_octet) B.pre
  have hown : s.vm.findClass RX4 = some m.cls := findClass_of_methodNamed B.named
  have hlocks := B.notSynchronized
  have hD := up_self hD0
  have hS : va_S (up_c (mdW cI cJ cZ q aS aC aW aL aN aI aB aD aU aF n gv sz cd sp se ct aw le ne ins ba dd cr nw cs un fr rl qs)) s.heap s.heap [] := va_S.rf
  have hl := lv_entry ([.ref q, .int x]) (n := 2) (Nat.le_of_ble_eq_true rfl)
  rw [lg_entry_eq]
  generalize (lg_sl ([.ref q, .int x]) ++ List.replicate (2 - (lg_sl ([.ref q, .int x])).length) Slot.unset).toArray = ls at hl ⊢
  have hl : lv_has ls 2 [(0, .ref q), (1, .int x)] := hl
  refine lv_aload_n hx hb dX4_octet_0 rfl (lv_at hl 0 rfl) ?_
  refine lv_iload_n hx hb dX4_octet_1 rfl (lv_at hl 1 rfl) ?_
  refine lv_if_lt (tgt := 13) hx hb dX4_octet_2 (by decide) (fun c_2 => ?_) (fun c_2 => ?_)
  · refine lv_iconst (v := 1) hx hb dX4_octet_13 (by decide) ?_
    refine lv_goto (tgt := 18) hx hb dX4_octet_14 (by decide) ?_
    refine va_put (D := (dC, dI)) (ci := 5) (v := .int 1) (ty := .int) (C := RX4) (T := TX4) (N := 20) hx hb hts inn_X4_octet_X4 tyX4 tyX4_ok nmX4 hown hK hP hD hS 0 rfl rfl 0 (by decide) (hts (.fieldLink RX4 46 "DoorKeysModel" "code" "I") (by decide +kernel)) (fun _ h9 => h9) rfl (by decide +kernel) rfl rfl (Nat.le_of_ble_eq_true rfl) dX4_octet_18 (fun H locs hP hD hS => ?_)
    have hP : va_P (dC, dI) vwCl (mdW cI cJ cZ q aS aC aW aL aN aI aB aD aU aF n gv sz 1 sp se ct aw le ne ins ba dd cr nw cs un fr rl qs) H := hP
    have hD : va_D (up_c (mdW cI cJ cZ q aS aC aW aL aN aI aB aD aU aF n gv sz cd sp se ct aw le ne ins ba dd cr nw cs un fr rl qs)) (mdW cI cJ cZ q aS aC aW aL aN aI aB aD aU aF n gv sz 1 sp se ct aw le ne ins ba dd cr nw cs un fr rl qs) := hD
    refine lv_aload_n hx hb dX4_octet_21 rfl (lv_at hl 0 rfl) ?_
    refine va_get (D := (dC, dI)) (ci := 5) (v := .int 1) (C := RX4) (T := TX4) (N := 20) hx hb hts inn_X4_octet_X4 hown hK hP 0 rfl rfl 0 (by decide) (hts (.fieldLink RX4 46 "DoorKeysModel" "code" "I") (by decide +kernel)) (fun _ h9 => h9) rfl dX4_octet_22 ?_
    refine lv_if_le (tgt := 32) hx hb dX4_octet_25 (by decide) (fun c_25 => absurd c_25 (by decide)) (fun c_25 => ?_)
    refine lv_iconst (v := 0) hx hb dX4_octet_28 (by decide) ?_
    refine lv_goto (tgt := 39) hx hb dX4_octet_29 (by decide) ?_
    have e_ : md_octet sz fr x = ((0 : Int32), 1) := by unfold md_octet; exact (if_pos c_2).trans rfl
    rw [e_]
    exact W.zret (v := 0) hx hb hr (by decide) (fun t ht hW => ⟨rfl, by rw [ht]; exact hP, hS.F ht⟩) hS.2.2 dX4_octet_39
  · refine lv_iload_n hx hb dX4_octet_5 rfl (lv_at hl 1 rfl) ?_
    refine lv_aload_n hx hb dX4_octet_6 rfl (lv_at hl 0 rfl) ?_
    refine va_get (D := (dC, dI)) (ci := 5) (v := .int (nI sz)) (C := RX4) (T := TX4) (N := 20) hx hb hts inn_X4_octet_X4 hown hK hP 0 rfl rfl 16 (by decide) (hts (.fieldLink RX4 82 "DoorKeysModel" "size" "I") (by decide +kernel)) (fun _ h9 => h9) rfl dX4_octet_7 ?_
    refine lv_icmp_lt (tgt := 17) hx hb dX4_octet_10 (by decide) (fun c_10 => ?_) (fun c_10 => ?_)
    · refine lv_iconst (v := 0) hx hb dX4_octet_17 (by decide) ?_
      refine va_put (D := (dC, dI)) (ci := 5) (v := .int 0) (ty := .int) (C := RX4) (T := TX4) (N := 20) hx hb hts inn_X4_octet_X4 tyX4 tyX4_ok nmX4 hown hK hP hD hS 0 rfl rfl 0 (by decide) (hts (.fieldLink RX4 46 "DoorKeysModel" "code" "I") (by decide +kernel)) (fun _ h9 => h9) rfl (by decide +kernel) rfl rfl (Nat.le_of_ble_eq_true rfl) dX4_octet_18 (fun H locs hP hD hS => ?_)
      have hP : va_P (dC, dI) vwCl (mdW cI cJ cZ q aS aC aW aL aN aI aB aD aU aF n gv sz 0 sp se ct aw le ne ins ba dd cr nw cs un fr rl qs) H := hP
      have hD : va_D (up_c (mdW cI cJ cZ q aS aC aW aL aN aI aB aD aU aF n gv sz cd sp se ct aw le ne ins ba dd cr nw cs un fr rl qs)) (mdW cI cJ cZ q aS aC aW aL aN aI aB aD aU aF n gv sz 0 sp se ct aw le ne ins ba dd cr nw cs un fr rl qs) := hD
      refine lv_aload_n hx hb dX4_octet_21 rfl (lv_at hl 0 rfl) ?_
      refine va_get (D := (dC, dI)) (ci := 5) (v := .int 0) (C := RX4) (T := TX4) (N := 20) hx hb hts inn_X4_octet_X4 hown hK hP 0 rfl rfl 0 (by decide) (hts (.fieldLink RX4 46 "DoorKeysModel" "code" "I") (by decide +kernel)) (fun _ h9 => h9) rfl dX4_octet_22 ?_
      refine lv_if_le (tgt := 32) hx hb dX4_octet_25 (by decide) (fun c_25 => ?_) (fun c_25 => absurd c_25 (by decide))
      refine lv_aload_n hx hb dX4_octet_32 rfl (lv_at hl 0 rfl) ?_
      refine va_get (D := (dC, dI)) (ci := 5) (v := .ref aF) (C := RX4) (T := TX4) (N := 20) hx hb hts inn_X4_octet_X4 hown hK hP 0 rfl rfl 17 (by decide) (hts (.fieldLink RX4 39 "DoorKeysModel" "frame" "[I") (by decide +kernel)) (fun _ h9 => h9) rfl dX4_octet_33 ?_
      refine lv_iload_n hx hb dX4_octet_36 rfl (lv_at hl 1 rfl) ?_
      refine va_iald hx hb hK hP 10 0 rfl rfl (md_in16 hz c_2 c_10) dX4_octet_37 ?_
      refine lv_i2b (v := (fr x.toNatClampNeg).toInt8.toInt32) hx hb dX4_octet_38 rfl ?_
      have e_ : md_octet sz fr x = ((fr x.toNatClampNeg).toInt8.toInt32, 0) := by unfold md_octet; exact (if_neg c_2).trans ((if_pos c_10).trans rfl)
      rw [e_]
      exact W.zret (v := (fr x.toNatClampNeg).toInt8.toInt32) hx hb hr (pk_nb _) (fun t ht hW => ⟨rfl, by rw [ht]; exact hP, hS.F ht⟩) hS.2.2 dX4_octet_39
    · refine lv_iconst (v := 1) hx hb dX4_octet_13 (by decide) ?_
      refine lv_goto (tgt := 18) hx hb dX4_octet_14 (by decide) ?_
      refine va_put (D := (dC, dI)) (ci := 5) (v := .int 1) (ty := .int) (C := RX4) (T := TX4) (N := 20) hx hb hts inn_X4_octet_X4 tyX4 tyX4_ok nmX4 hown hK hP hD hS 0 rfl rfl 0 (by decide) (hts (.fieldLink RX4 46 "DoorKeysModel" "code" "I") (by decide +kernel)) (fun _ h9 => h9) rfl (by decide +kernel) rfl rfl (Nat.le_of_ble_eq_true rfl) dX4_octet_18 (fun H locs hP hD hS => ?_)
      have hP : va_P (dC, dI) vwCl (mdW cI cJ cZ q aS aC aW aL aN aI aB aD aU aF n gv sz 1 sp se ct aw le ne ins ba dd cr nw cs un fr rl qs) H := hP
      have hD : va_D (up_c (mdW cI cJ cZ q aS aC aW aL aN aI aB aD aU aF n gv sz cd sp se ct aw le ne ins ba dd cr nw cs un fr rl qs)) (mdW cI cJ cZ q aS aC aW aL aN aI aB aD aU aF n gv sz 1 sp se ct aw le ne ins ba dd cr nw cs un fr rl qs) := hD
      refine lv_aload_n hx hb dX4_octet_21 rfl (lv_at hl 0 rfl) ?_
      refine va_get (D := (dC, dI)) (ci := 5) (v := .int 1) (C := RX4) (T := TX4) (N := 20) hx hb hts inn_X4_octet_X4 hown hK hP 0 rfl rfl 0 (by decide) (hts (.fieldLink RX4 46 "DoorKeysModel" "code" "I") (by decide +kernel)) (fun _ h9 => h9) rfl dX4_octet_22 ?_
      refine lv_if_le (tgt := 32) hx hb dX4_octet_25 (by decide) (fun c_25 => absurd c_25 (by decide)) (fun c_25 => ?_)
      refine lv_iconst (v := 0) hx hb dX4_octet_28 (by decide) ?_
      refine lv_goto (tgt := 39) hx hb dX4_octet_29 (by decide) ?_
      have e_ : md_octet sz fr x = ((0 : Int32), 1) := by unfold md_octet; exact (if_neg c_2).trans ((if_neg c_10).trans rfl)
      rw [e_]
      exact W.zret (v := 0) hx hb hr (by decide) (fun t ht hW => ⟨rfl, by rw [ht]; exact hP, hS.F ht⟩) hS.2.2 dX4_octet_39
def md_state (dd : Nat → Int32) (rl : Int32) (qs : Int32) (x : Int32) : Int32 :=
  if x < 0 then
    ((-1) : Int32)
  else
    if x ≤ 6 then
      if x = 5 then
        rl
      else
        if x = 6 then
          qs
        else
          (dd x.toNatClampNeg)
    else
      ((-1) : Int32)
def rm_X4_state : Room := { frames := 0, cells := 0, slots := 0, locals := 0 }
set_option maxHeartbeats 4000000 in
set_option maxRecDepth 100000 in
theorem c_X4_state (l : Launch) (dC : Nat → ClassId) (dI : Nat → Nat → Nat) (cI : ClassId) (cJ : ClassId) (cZ : ClassId) (q : Nat) (aS : Nat) (aC : Nat) (aW : Nat) (aL : Nat) (aN : Nat) (aI : Nat) (aB : Nat) (aD : Nat) (aU : Nat) (aF : Nat) (n : Nat) (gv : Nat) (sz : Nat) (cd : Int32) (sp : Int32) (se : Nat → Int64) (ct : Nat → Int32) (aw : Nat → Int32) (le : Nat → Int32) (ne : Nat → Int32) (ins : Nat → Int32) (ba : Nat → Int32) (dd : Nat → Int32) (cr : Int32) (nw : Int64) (cs : Int64) (un : Nat → Int32) (fr : Nat → Int32) (rl : Int32) (qs : Int32) (x : Int32) : Met l yX4_state wsX4_state rm_X4_state (up_P (dC, dI) vwCl (mdT cI cJ cZ) (mdW cI cJ cZ q aS aC aW aL aN aI aB aD aU aF n gv sz cd sp se ct aw le ne ins ba dd cr nw cs un fr rl qs) [.ref q, .int x]) (up_Q (dC, dI) vwCl (some (.int (md_state dd rl qs x))) (mdW cI cJ cZ q aS aC aW aL aN aI aB aD aU aF n gv sz cd sp se ct aw le ne ins ba dd cr nw cs un fr rl qs) (mdW cI cJ cZ q aS aC aW aL aN aI aB aD aU aF n gv sz 0 sp se ct aw le ne ins ba dd cr nw cs un fr rl qs)) 0 0 (up_c (mdW cI cJ cZ q aS aC aW aL aN aI aB aD aU aF n gv sz cd sp se ct aw le ne ins ba dd cr nw cs un fr rl qs)) := by
  refine Met.ofW (cc := cX4_state) (maxL := 2) (ret := (some .int)) (by decide) rfl ?_
  intro p e s m args below meth c s₁ B hml hv
  obtain ⟨rfl, hP, hK, hD0⟩ := hv
  have hx := B.exec
  have hb := B.bytes
  have hr := B.returns
  have hts := atoms_spec (ws := wsX4_state) B.pre
  have hown : s.vm.findClass RX4 = some m.cls := findClass_of_methodNamed B.named
  have hlocks := B.notSynchronized
  have hD := up_self hD0
  have hS : va_S (up_c (mdW cI cJ cZ q aS aC aW aL aN aI aB aD aU aF n gv sz cd sp se ct aw le ne ins ba dd cr nw cs un fr rl qs)) s.heap s.heap [] := va_S.rf
  have hl := lv_entry ([.ref q, .int x]) (n := 2) (Nat.le_of_ble_eq_true rfl)
  rw [lg_entry_eq]
  generalize (lg_sl ([.ref q, .int x]) ++ List.replicate (2 - (lg_sl ([.ref q, .int x])).length) Slot.unset).toArray = ls at hl ⊢
  have hl : lv_has ls 2 [(0, .ref q), (1, .int x)] := hl
  refine lv_aload_n hx hb dX4_state_0 rfl (lv_at hl 0 rfl) ?_
  refine lv_iconst (v := 0) hx hb dX4_state_1 (by decide) ?_
  refine va_put (D := (dC, dI)) (ci := 5) (v := .int 0) (ty := .int) (C := RX4) (T := TX4) (N := 20) hx hb hts inn_X4_state_X4 tyX4 tyX4_ok nmX4 hown hK hP hD hS 0 rfl rfl 0 (by decide) (hts (.fieldLink RX4 46 "DoorKeysModel" "code" "I") (by decide +kernel)) (fun _ h9 => h9) rfl (by decide +kernel) rfl rfl (Nat.le_of_ble_eq_true rfl) dX4_state_2 (fun H locs hP hD hS => ?_)
  have hP : va_P (dC, dI) vwCl (mdW cI cJ cZ q aS aC aW aL aN aI aB aD aU aF n gv sz 0 sp se ct aw le ne ins ba dd cr nw cs un fr rl qs) H := hP
  have hD : va_D (up_c (mdW cI cJ cZ q aS aC aW aL aN aI aB aD aU aF n gv sz cd sp se ct aw le ne ins ba dd cr nw cs un fr rl qs)) (mdW cI cJ cZ q aS aC aW aL aN aI aB aD aU aF n gv sz 0 sp se ct aw le ne ins ba dd cr nw cs un fr rl qs) := hD
  refine lv_iload_n hx hb dX4_state_5 rfl (lv_at hl 1 rfl) ?_
  refine lv_if_lt (tgt := 15) hx hb dX4_state_6 (by decide) (fun c_6 => ?_) (fun c_6 => ?_)
  · refine lv_iconst (v := (-1)) hx hb dX4_state_15 (by decide) ?_
    have e_ : md_state dd rl qs x = ((-1) : Int32) := by unfold md_state; exact (if_pos c_6).trans rfl
    rw [e_]
    exact W.iret (v := (-1)) hx hb hr (fun t ht hW => ⟨rfl, by rw [ht]; exact hP, hS.F ht⟩) hS.2.2 dX4_state_16
  · refine lv_iload_n hx hb dX4_state_9 rfl (lv_at hl 1 rfl) ?_
    refine lv_bipush (v := 6) hx hb dX4_state_10 (by decide) ?_
    refine lv_icmp_le (tgt := 17) hx hb dX4_state_12 (by decide) (fun c_12 => ?_) (fun c_12 => ?_)
    · refine lv_iload_n hx hb dX4_state_17 rfl (lv_at hl 1 rfl) ?_
      refine lv_iconst (v := 5) hx hb dX4_state_18 (by decide) ?_
      refine lv_icmp_ne (tgt := 29) hx hb dX4_state_19 (by decide) (fun c_19 => ?_) (fun c_19 => ?_)
      · refine lv_iload_n hx hb dX4_state_29 rfl (lv_at hl 1 rfl) ?_
        refine lv_bipush (v := 6) hx hb dX4_state_30 (by decide) ?_
        refine lv_icmp_ne (tgt := 42) hx hb dX4_state_32 (by decide) (fun c_32 => ?_) (fun c_32 => ?_)
        · refine lv_aload_n hx hb dX4_state_42 rfl (lv_at hl 0 rfl) ?_
          refine va_get (D := (dC, dI)) (ci := 5) (v := .ref aD) (C := RX4) (T := TX4) (N := 20) hx hb hts inn_X4_state_X4 hown hK hP 0 rfl rfl 10 (by decide) (hts (.fieldLink RX4 33 "DoorKeysModel" "door" "[I") (by decide +kernel)) (fun _ h9 => h9) rfl dX4_state_43 ?_
          refine lv_iload_n hx hb dX4_state_46 rfl (lv_at hl 1 rfl) ?_
          refine va_iald hx hb hK hP 8 0 rfl rfl (md_in5 c_6 c_12 c_19 c_32) dX4_state_47 ?_
          have e_ : md_state dd rl qs x = (dd x.toNatClampNeg) := by unfold md_state; exact (if_neg c_6).trans ((if_pos c_12).trans ((if_neg c_19).trans ((if_neg c_32).trans rfl)))
          rw [e_]
          exact W.iret (v := (dd x.toNatClampNeg)) hx hb hr (fun t ht hW => ⟨rfl, by rw [ht]; exact hP, hS.F ht⟩) hS.2.2 dX4_state_48
        · refine lv_aload_n hx hb dX4_state_35 rfl (lv_at hl 0 rfl) ?_
          refine va_get (D := (dC, dI)) (ci := 5) (v := .int qs) (C := RX4) (T := TX4) (N := 20) hx hb hts inn_X4_state_X4 hown hK hP 0 rfl rfl 19 (by decide) (hts (.fieldLink RX4 138 "DoorKeysModel" "questions" "I") (by decide +kernel)) (fun _ h9 => h9) rfl dX4_state_36 ?_
          refine lv_goto (tgt := 48) hx hb dX4_state_39 (by decide) ?_
          have e_ : md_state dd rl qs x = qs := by unfold md_state; exact (if_neg c_6).trans ((if_pos c_12).trans ((if_neg c_19).trans ((if_pos c_32).trans rfl)))
          rw [e_]
          exact W.iret (v := qs) hx hb hr (fun t ht hW => ⟨rfl, by rw [ht]; exact hP, hS.F ht⟩) hS.2.2 dX4_state_48
      · refine lv_aload_n hx hb dX4_state_22 rfl (lv_at hl 0 rfl) ?_
        refine va_get (D := (dC, dI)) (ci := 5) (v := .int rl) (C := RX4) (T := TX4) (N := 20) hx hb hts inn_X4_state_X4 hown hK hP 0 rfl rfl 18 (by decide) (hts (.fieldLink RX4 123 "DoorKeysModel" "relays" "I") (by decide +kernel)) (fun _ h9 => h9) rfl dX4_state_23 ?_
        refine lv_goto (tgt := 48) hx hb dX4_state_26 (by decide) ?_
        have e_ : md_state dd rl qs x = rl := by unfold md_state; exact (if_neg c_6).trans ((if_pos c_12).trans ((if_pos c_19).trans rfl))
        rw [e_]
        exact W.iret (v := rl) hx hb hr (fun t ht hW => ⟨rfl, by rw [ht]; exact hP, hS.F ht⟩) hS.2.2 dX4_state_48
    · refine lv_iconst (v := (-1)) hx hb dX4_state_15 (by decide) ?_
      have e_ : md_state dd rl qs x = ((-1) : Int32) := by unfold md_state; exact (if_neg c_6).trans ((if_neg c_12).trans rfl)
      rw [e_]
      exact W.iret (v := (-1)) hx hb hr (fun t ht hW => ⟨rfl, by rw [ht]; exact hP, hS.F ht⟩) hS.2.2 dX4_state_16
