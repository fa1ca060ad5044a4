/-! nearestTo and field (laid by wip/gen.py) -/
set_option maxRecDepth 20000 in
theorem inn_X3_field_X3 : ∀ w ∈ wsX30, w ∈ wsX3_field := by decide +kernel
set_option maxRecDepth 20000 in
theorem inn_X3_field_X2 : ∀ w ∈ wsX20, w ∈ wsX3_field := by decide +kernel
def dk_near_l (x : Int64) (y : Int64) : Nat → Nat → Int32 → Int64 → Int32
  | 0, _, a, b =>
    a
  | r + 1, j, a, b =>
    if 0 ≤ (lg_cmp (((x - (dk_px (nI j).toNatClampNeg).toInt64) * (x - (dk_px (nI j).toNatClampNeg).toInt64)) + ((y - (dk_py (nI j).toNatClampNeg).toInt64) * (y - (dk_py (nI j).toNatClampNeg).toInt64))) b) then
      dk_near_l x y r (j + 1) a b
    else
      dk_near_l x y r (j + 1) (nI j) (((x - (dk_px (nI j).toNatClampNeg).toInt64) * (x - (dk_px (nI j).toNatClampNeg).toInt64)) + ((y - (dk_py (nI j).toNatClampNeg).toInt64) * (y - (dk_py (nI j).toNatClampNeg).toInt64)))
def dk_near (x : Int64) (y : Int64) : Int32 :=
  dk_near_l x y 5 0 (-1) 2250001
def rm_X0_nearestTo : Room := { frames := 0, cells := 0, slots := 0, locals := 0 }
set_option maxHeartbeats 4000000 in
set_option maxRecDepth 100000 in
theorem c_X0_nearestTo (l : Launch) (dC : Nat → ClassId) (dI : Nat → Nat → Nat) (cK : ClassId) (cB : ClassId) (cI : ClassId) (o : Nat) (ks : Nat) (fa : Nat) (oa : Nat) (fb : Nat) (ob : Nat) (dr : Nat) (ds : Nat) (L : Nat → Nat) (n : Nat) (sp : Int32) (co : Nat) (en : Nat) (cr : Int32) (rl : Int32) (qs : Int32) (kA : Int32) (oA : Nat → Int8) (kB : Int32) (oB : Nat → Int8) (tt : Int64) (ss : Int64) (st : Nat → Int32) (K : Nat → KR) (tX : Nat) (tY : Nat) (x : Int64) (y : Int64) : Met l yX0_nearestTo wsX0_nearestTo rm_X0_nearestTo (up_PS tX tY (fun _ => False) (dC, dI) vwCl (dkT cK cB cI) (dkW cK cB cI o ks fa oa fb ob dr ds L n sp co en cr rl qs kA oA kB oB tt ss st K) [.ref dr, .long x, .long y]) (k2_QcV (.int (dk_near x y))) 0 0 (fun _ => False) := by
  refine Met.ofW (cc := cX0_nearestTo) (maxL := 15) (ret := (some .int)) (by decide) rfl ?_
  intro p e s m args below meth c s₁ B hml hv
  obtain ⟨rfl, hP, hK, hD0, hZ⟩ := hv
  obtain ⟨hZ1, hZ2, hT1, hT2⟩ := hZ
  have hS0 : va_S (fun _ => False) s.heap s.heap [] := va_S.rf
  have hx := B.exec
  have hb := B.bytes
  have hr := B.returns
  have hts := atoms_spec (ws := wsX0_nearestTo) B.pre
  have hown : s.vm.findClass RX0 = some m.cls := findClass_of_methodNamed B.named
  have hlocks := B.notSynchronized
  have hD := up_self hD0
  have hS : va_S (up_c (dkW cK cB cI o ks fa oa fb ob dr ds L n sp co en cr rl qs kA oA kB oB tt ss st K)) s.heap s.heap [] := va_S.rf
  have hl := lv_entry ([.ref dr, .long x, .long y]) (n := 15) (Nat.le_of_ble_eq_true rfl)
  rw [lg_entry_eq]
  generalize (lg_sl ([.ref dr, .long x, .long y]) ++ List.replicate (15 - (lg_sl ([.ref dr, .long x, .long y])).length) Slot.unset).toArray = ls at hl ⊢
  have hl : lv_has ls 15 [(0, .ref dr), (1, .long x), (3, .long y)] := hl
  refine lv_iconst (v := (-1)) hx hb dX0_nearestTo_0 (by decide) ?_
  refine lv_istore (lv' := [(5, .int (-1)), (0, .ref dr), (1, .long x), (3, .long y)]) hx hb dX0_nearestTo_1 hl (by decide) rfl (fun ls hl => ?_)
  refine lv_ldc2 (v := 2250001) hx hb hown (hts (.constantLong RX0 44 2250001) (by decide +kernel)) dX0_nearestTo_3 ?_
  refine lv_lstore (lv' := [(6, .long 2250001), (5, .int (-1)), (0, .ref dr), (1, .long x), (3, .long y)]) hx hb dX0_nearestTo_6 hl (by decide) rfl (fun ls hl => ?_)
  refine lv_iconst (v := 0) hx hb dX0_nearestTo_8 (by decide) ?_
  refine lv_istore (lv' := [(8, .int 0), (6, .long 2250001), (5, .int (-1)), (0, .ref dr), (1, .long x), (3, .long y)]) hx hb dX0_nearestTo_9 hl (by decide) rfl (fun ls hl => ?_)
  have lp : ∀ (r j : Nat) (a : Int32) (b : Int64) , j + r = 5 → ∀ ls : Array Slot, lv_has ls 15 [(1, .long x), (3, .long y), (8, .int (nI j)), (5, .int a), (6, .long b)] → W p l e (headSpec wsX0_nearestTo rm_X0_nearestTo).room s m ([.ref dr, .long x, .long y] : List Value).toArray below meth c s.heap [] 0 0 (MQ below (k2_QcV (.int (dk_near_l x y r j a b))) ([.ref dr, .long x, .long y] : List Value).toArray s 0 0 (fun _ => False)) (F0 m 11 ls []) := by
    intro r
    induction r with
    | zero =>
      intro j a b hj ls hl
      refine lv_iload hx hb dX0_nearestTo_11 (lv_at hl 2 rfl) ?_
      refine va_gets (v := .ref tX) hx hb hZ1 hS0 hown (hts (.fieldLink RX0 46 "DoorKeys$Doors" "PLACE_X" "[I") (by decide +kernel)) (fun _ h9 => h9) dX0_nearestTo_13 ?_
      refine va_tlen (v := 5) hx hb hT1 hS0 rfl dX0_nearestTo_16 ?_
      refine lv_icmp_ge (tgt := 86) hx hb dX0_nearestTo_17 (by decide) (fun c_17 => ?_) (fun c_17 => (c_17 (nI_le (a := 5) (b := j) (by omega) (by omega))).elim)
      refine lv_iload hx hb dX0_nearestTo_86 (lv_at hl 3 rfl) ?_
      have e_ : dk_near_l x y 0 j a b = a := (dk_near_l.eq_1 ..).trans rfl
      rw [e_]
      exact W.iret (v := a) hx hb hr (fun t ht hW => ⟨rfl, ht⟩) (fun q h => absurd h List.not_mem_nil) dX0_nearestTo_88
    | succ r ih =>
      intro j a b hj ls hl
      refine lv_iload hx hb dX0_nearestTo_11 (lv_at hl 2 rfl) ?_
      refine va_gets (v := .ref tX) hx hb hZ1 hS0 hown (hts (.fieldLink RX0 46 "DoorKeys$Doors" "PLACE_X" "[I") (by decide +kernel)) (fun _ h9 => h9) dX0_nearestTo_13 ?_
      refine va_tlen (v := 5) hx hb hT1 hS0 rfl dX0_nearestTo_16 ?_
      refine lv_icmp_ge (tgt := 86) hx hb dX0_nearestTo_17 (by decide) (fun c_17 => (nI_ge (a := j) (b := 5) (by omega) (by omega) c_17).elim) (fun c_17 => ?_)
      refine lv_iload hx hb dX0_nearestTo_20 (lv_at hl 2 rfl) ?_
      refine va_gets (v := .ref tY) hx hb hZ2 hS0 hown (hts (.fieldLink RX0 49 "DoorKeys$Doors" "PLACE_Y" "[I") (by decide +kernel)) (fun _ h9 => h9) dX0_nearestTo_22 ?_
      refine va_tlen (v := 5) hx hb hT2 hS0 rfl dX0_nearestTo_25 ?_
      refine lv_icmp_ge (tgt := 86) hx hb dX0_nearestTo_26 (by decide) (fun c_26 => (nI_ge (a := j) (b := 5) (by omega) (by omega) c_26).elim) (fun c_26 => ?_)
      refine lv_lload_n hx hb dX0_nearestTo_29 rfl (lv_at hl 0 rfl) ?_
      refine va_gets (v := .ref tX) hx hb hZ1 hS0 hown (hts (.fieldLink RX0 46 "DoorKeys$Doors" "PLACE_X" "[I") (by decide +kernel)) (fun _ h9 => h9) dX0_nearestTo_30 ?_
      refine lv_iload hx hb dX0_nearestTo_33 (lv_at hl 2 rfl) ?_
      refine va_ti (v := .int (dk_px (nI j).toNatClampNeg)) hx hb hT1 hS0 (vp_in_nI (n := j) (N := 5) (by omega) (by decide)) rfl dX0_nearestTo_35 ?_
      refine lv_i2l (v := (dk_px (nI j).toNatClampNeg).toInt64) hx hb dX0_nearestTo_36 rfl ?_
      refine lv_lsub hx hb dX0_nearestTo_37 ?_
      refine lv_lstore (lv' := [(9, .long (x - (dk_px (nI j).toNatClampNeg).toInt64)), (1, .long x), (3, .long y), (8, .int (nI j)), (5, .int a), (6, .long b)]) hx hb dX0_nearestTo_38 hl (by decide) rfl (fun ls hl => ?_)
      refine lv_lload_n hx hb dX0_nearestTo_40 rfl (lv_at hl 2 rfl) ?_
      refine va_gets (v := .ref tY) hx hb hZ2 hS0 hown (hts (.fieldLink RX0 49 "DoorKeys$Doors" "PLACE_Y" "[I") (by decide +kernel)) (fun _ h9 => h9) dX0_nearestTo_41 ?_
      refine lv_iload hx hb dX0_nearestTo_44 (lv_at hl 3 rfl) ?_
      refine va_ti (v := .int (dk_py (nI j).toNatClampNeg)) hx hb hT2 hS0 (vp_in_nI (n := j) (N := 5) (by omega) (by decide)) rfl dX0_nearestTo_46 ?_
      refine lv_i2l (v := (dk_py (nI j).toNatClampNeg).toInt64) hx hb dX0_nearestTo_47 rfl ?_
      refine lv_lsub hx hb dX0_nearestTo_48 ?_
      refine lv_lstore (lv' := [(11, .long (y - (dk_py (nI j).toNatClampNeg).toInt64)), (9, .long (x - (dk_px (nI j).toNatClampNeg).toInt64)), (1, .long x), (3, .long y), (8, .int (nI j)), (5, .int a), (6, .long b)]) hx hb dX0_nearestTo_49 hl (by decide) rfl (fun ls hl => ?_)
      refine lv_lload hx hb dX0_nearestTo_51 (lv_at hl 1 rfl) ?_
      refine lv_lload hx hb dX0_nearestTo_53 (lv_at hl 1 rfl) ?_
      refine lv_lmul hx hb dX0_nearestTo_55 ?_
      refine lv_lload hx hb dX0_nearestTo_56 (lv_at hl 0 rfl) ?_
      refine lv_lload hx hb dX0_nearestTo_58 (lv_at hl 0 rfl) ?_
      refine lv_lmul hx hb dX0_nearestTo_60 ?_
      refine lv_ladd hx hb dX0_nearestTo_61 ?_
      refine lv_lstore (lv' := [(13, .long (((x - (dk_px (nI j).toNatClampNeg).toInt64) * (x - (dk_px (nI j).toNatClampNeg).toInt64)) + ((y - (dk_py (nI j).toNatClampNeg).toInt64) * (y - (dk_py (nI j).toNatClampNeg).toInt64)))), (11, .long (y - (dk_py (nI j).toNatClampNeg).toInt64)), (9, .long (x - (dk_px (nI j).toNatClampNeg).toInt64)), (1, .long x), (3, .long y), (8, .int (nI j)), (5, .int a), (6, .long b)]) hx hb dX0_nearestTo_62 hl (by decide) rfl (fun ls hl => ?_)
      refine lv_lload hx hb dX0_nearestTo_64 (lv_at hl 0 rfl) ?_
      refine lv_lload hx hb dX0_nearestTo_66 (lv_at hl 7 rfl) ?_
      refine W.lcmp hx hb dX0_nearestTo_68 ?_
      refine lv_if_ge (tgt := 80) hx hb dX0_nearestTo_69 (by decide) (fun c_69 => ?_) (fun c_69 => ?_)
      · refine lv_iinc (v := (nI (j + 1))) (lv' := [(8, .int (nI (j + 1))), (13, .long (((x - (dk_px (nI j).toNatClampNeg).toInt64) * (x - (dk_px (nI j).toNatClampNeg).toInt64)) + ((y - (dk_py (nI j).toNatClampNeg).toInt64) * (y - (dk_py (nI j).toNatClampNeg).toInt64)))), (11, .long (y - (dk_py (nI j).toNatClampNeg).toInt64)), (9, .long (x - (dk_px (nI j).toNatClampNeg).toInt64)), (1, .long x), (3, .long y), (5, .int a), (6, .long b)]) hx hb dX0_nearestTo_80 hl (k := 5) rfl (nI_1 _) (by decide) rfl (fun ls hl => ?_)
        refine lv_goto (tgt := 11) hx hb dX0_nearestTo_83 (by decide) ?_
        have e_ : dk_near_l x y (r + 1) j a b = dk_near_l x y r (j + 1) a b := (dk_near_l.eq_2 ..).trans ((if_pos c_69).trans rfl)
        rw [e_]
        exact ih (j + 1) a b (by omega) ls (lv_sub hl [4, 5, 0, 6, 7] rfl)
      · refine lv_lload hx hb dX0_nearestTo_72 (lv_at hl 0 rfl) ?_
        refine lv_lstore (lv' := [(6, .long (((x - (dk_px (nI j).toNatClampNeg).toInt64) * (x - (dk_px (nI j).toNatClampNeg).toInt64)) + ((y - (dk_py (nI j).toNatClampNeg).toInt64) * (y - (dk_py (nI j).toNatClampNeg).toInt64)))), (13, .long (((x - (dk_px (nI j).toNatClampNeg).toInt64) * (x - (dk_px (nI j).toNatClampNeg).toInt64)) + ((y - (dk_py (nI j).toNatClampNeg).toInt64) * (y - (dk_py (nI j).toNatClampNeg).toInt64)))), (11, .long (y - (dk_py (nI j).toNatClampNeg).toInt64)), (9, .long (x - (dk_px (nI j).toNatClampNeg).toInt64)), (1, .long x), (3, .long y), (8, .int (nI j)), (5, .int a)]) hx hb dX0_nearestTo_74 hl (by decide) rfl (fun ls hl => ?_)
        refine lv_iload hx hb dX0_nearestTo_76 (lv_at hl 6 rfl) ?_
        refine lv_istore (lv' := [(5, .int (nI j)), (6, .long (((x - (dk_px (nI j).toNatClampNeg).toInt64) * (x - (dk_px (nI j).toNatClampNeg).toInt64)) + ((y - (dk_py (nI j).toNatClampNeg).toInt64) * (y - (dk_py (nI j).toNatClampNeg).toInt64)))), (13, .long (((x - (dk_px (nI j).toNatClampNeg).toInt64) * (x - (dk_px (nI j).toNatClampNeg).toInt64)) + ((y - (dk_py (nI j).toNatClampNeg).toInt64) * (y - (dk_py (nI j).toNatClampNeg).toInt64)))), (11, .long (y - (dk_py (nI j).toNatClampNeg).toInt64)), (9, .long (x - (dk_px (nI j).toNatClampNeg).toInt64)), (1, .long x), (3, .long y), (8, .int (nI j))]) hx hb dX0_nearestTo_78 hl (by decide) rfl (fun ls hl => ?_)
        refine lv_iinc (v := (nI (j + 1))) (lv' := [(8, .int (nI (j + 1))), (5, .int (nI j)), (6, .long (((x - (dk_px (nI j).toNatClampNeg).toInt64) * (x - (dk_px (nI j).toNatClampNeg).toInt64)) + ((y - (dk_py (nI j).toNatClampNeg).toInt64) * (y - (dk_py (nI j).toNatClampNeg).toInt64)))), (13, .long (((x - (dk_px (nI j).toNatClampNeg).toInt64) * (x - (dk_px (nI j).toNatClampNeg).toInt64)) + ((y - (dk_py (nI j).toNatClampNeg).toInt64) * (y - (dk_py (nI j).toNatClampNeg).toInt64)))), (11, .long (y - (dk_py (nI j).toNatClampNeg).toInt64)), (9, .long (x - (dk_px (nI j).toNatClampNeg).toInt64)), (1, .long x), (3, .long y)]) hx hb dX0_nearestTo_80 hl (k := 7) rfl (nI_1 _) (by decide) rfl (fun ls hl => ?_)
        refine lv_goto (tgt := 11) hx hb dX0_nearestTo_83 (by decide) ?_
        have e_ : dk_near_l x y (r + 1) j a b = dk_near_l x y r (j + 1) (nI j) (((x - (dk_px (nI j).toNatClampNeg).toInt64) * (x - (dk_px (nI j).toNatClampNeg).toInt64)) + ((y - (dk_py (nI j).toNatClampNeg).toInt64) * (y - (dk_py (nI j).toNatClampNeg).toInt64))) := (dk_near_l.eq_2 ..).trans ((if_neg c_69).trans rfl)
        rw [e_]
        exact ih (j + 1) (nI j) (((x - (dk_px (nI j).toNatClampNeg).toInt64) * (x - (dk_px (nI j).toNatClampNeg).toInt64)) + ((y - (dk_py (nI j).toNatClampNeg).toInt64) * (y - (dk_py (nI j).toNatClampNeg).toInt64))) (by omega) ls (lv_sub hl [6, 7, 0, 1, 2] rfl)
  have e_ : dk_near x y = dk_near_l x y 5 0 (-1) 2250001 := by unfold dk_near; exact rfl
  rw [e_]
  exact lp 5 0 (-1) 2250001 (by omega) ls (lv_sub hl [4, 5, 0, 2, 1] rfl)
def dk_field (n : Nat) (rl : Int32) (st : Nat → Int32) (K : Nat → KR) (x : Int32) (y : Int64) (u : Int64) (w : Int64) : Int32 × (Nat → KR) × Int32 × (Nat → Int32) :=
  if dk_fkP n x then
    if dk_within y 1000000 = 0 then
      (((-2) : Int32), K, rl, st)
    else
      if dk_within u 1000000 = 0 then
        (((-2) : Int32), K, rl, st)
      else
        if 0 ≤ (lg_cmp w 1) then
          if 0 < (lg_cmp w 2000) then
            if dk_hand ((K (dk_fki x)).1, (K (dk_fki x)).2.1, (K (dk_fki x)).2.2.1, (K (dk_fki x)).2.2.2.1, 0, 0, (K (dk_fki x)).2.2.2.2.2.2) = 0 then
              ((0 : Int32), (va_up K (dk_fki x) ((K (dk_fki x)).1, (K (dk_fki x)).2.1, (K (dk_fki x)).2.2.1, (K (dk_fki x)).2.2.2.1, 0, 0, (K (dk_fki x)).2.2.2.2.2.2)), (rl + 1), st)
            else
              ((1 : Int32), (va_up K (dk_fki x) ((K (dk_fki x)).1, (K (dk_fki x)).2.1, (K (dk_fki x)).2.2.1, (K (dk_fki x)).2.2.2.1, 0, 0, (K (dk_fki x)).2.2.2.2.2.2)), (rl + 1), st)
          else
            if (K (dk_fki x)).2.2.2.1 = 0 then
              if dk_hand ((K (dk_fki x)).1, (K (dk_fki x)).2.1, (K (dk_fki x)).2.2.1, (K (dk_fki x)).2.2.2.1, 0, 0, (K (dk_fki x)).2.2.2.2.2.2) = 0 then
                ((0 : Int32), (va_up K (dk_fki x) ((K (dk_fki x)).1, (K (dk_fki x)).2.1, (K (dk_fki x)).2.2.1, (K (dk_fki x)).2.2.2.1, 0, 0, (K (dk_fki x)).2.2.2.2.2.2)), rl, st)
              else
                ((1 : Int32), (va_up K (dk_fki x) ((K (dk_fki x)).1, (K (dk_fki x)).2.1, (K (dk_fki x)).2.2.1, (K (dk_fki x)).2.2.2.1, 0, 0, (K (dk_fki x)).2.2.2.2.2.2)), rl, st)
            else
              if dk_near y u = (-1) then
                if dk_within y 2000 = 0 then
                  if dk_hand ((K (dk_fki x)).1, (K (dk_fki x)).2.1, (K (dk_fki x)).2.2.1, (K (dk_fki x)).2.2.2.1, 0, 0, (K (dk_fki x)).2.2.2.2.2.2) = 0 then
                    ((0 : Int32), (va_up K (dk_fki x) ((K (dk_fki x)).1, (K (dk_fki x)).2.1, (K (dk_fki x)).2.2.1, (K (dk_fki x)).2.2.2.1, 0, 0, (K (dk_fki x)).2.2.2.2.2.2)), rl, st)
                  else
                    ((1 : Int32), (va_up K (dk_fki x) ((K (dk_fki x)).1, (K (dk_fki x)).2.1, (K (dk_fki x)).2.2.1, (K (dk_fki x)).2.2.2.1, 0, 0, (K (dk_fki x)).2.2.2.2.2.2)), rl, st)
                else
                  if dk_within u 800 = 0 then
                    if dk_hand ((K (dk_fki x)).1, (K (dk_fki x)).2.1, (K (dk_fki x)).2.2.1, (K (dk_fki x)).2.2.2.1, 0, 0, (K (dk_fki x)).2.2.2.2.2.2) = 0 then
                      ((0 : Int32), (va_up K (dk_fki x) ((K (dk_fki x)).1, (K (dk_fki x)).2.1, (K (dk_fki x)).2.2.1, (K (dk_fki x)).2.2.2.1, 0, 0, (K (dk_fki x)).2.2.2.2.2.2)), rl, st)
                    else
                      ((1 : Int32), (va_up K (dk_fki x) ((K (dk_fki x)).1, (K (dk_fki x)).2.1, (K (dk_fki x)).2.2.1, (K (dk_fki x)).2.2.2.1, 0, 0, (K (dk_fki x)).2.2.2.2.2.2)), rl, st)
                  else
                    if dk_hand ((K (dk_fki x)).1, (K (dk_fki x)).2.1, (K (dk_fki x)).2.2.1, (K (dk_fki x)).2.2.2.1, 0, 1, (K (dk_fki x)).2.2.2.2.2.2) = 0 then
                      ((0 : Int32), (va_up K (dk_fki x) ((K (dk_fki x)).1, (K (dk_fki x)).2.1, (K (dk_fki x)).2.2.1, (K (dk_fki x)).2.2.2.1, 0, 1, (K (dk_fki x)).2.2.2.2.2.2)), rl, st)
                    else
                      ((1 : Int32), (va_up K (dk_fki x) ((K (dk_fki x)).1, (K (dk_fki x)).2.1, (K (dk_fki x)).2.2.1, (K (dk_fki x)).2.2.2.1, 0, 1, (K (dk_fki x)).2.2.2.2.2.2)), rl, st)
              else
                if dk_within y 2000 = 0 then
                  if dk_hand ((K (dk_fki x)).1, (K (dk_fki x)).2.1, (K (dk_fki x)).2.2.1, (K (dk_fki x)).2.2.2.1, 1, 0, (K (dk_fki x)).2.2.2.2.2.2) = 0 then
                    ((0 : Int32), (va_up K (dk_fki x) ((K (dk_fki x)).1, (K (dk_fki x)).2.1, (K (dk_fki x)).2.2.1, (K (dk_fki x)).2.2.2.1, 1, 0, (K (dk_fki x)).2.2.2.2.2.2)), rl, (dk_openOne st (dk_near y u)))
                  else
                    ((1 : Int32), (va_up K (dk_fki x) ((K (dk_fki x)).1, (K (dk_fki x)).2.1, (K (dk_fki x)).2.2.1, (K (dk_fki x)).2.2.2.1, 1, 0, (K (dk_fki x)).2.2.2.2.2.2)), rl, (dk_openOne st (dk_near y u)))
                else
                  if dk_within u 800 = 0 then
                    if dk_hand ((K (dk_fki x)).1, (K (dk_fki x)).2.1, (K (dk_fki x)).2.2.1, (K (dk_fki x)).2.2.2.1, 1, 0, (K (dk_fki x)).2.2.2.2.2.2) = 0 then
                      ((0 : Int32), (va_up K (dk_fki x) ((K (dk_fki x)).1, (K (dk_fki x)).2.1, (K (dk_fki x)).2.2.1, (K (dk_fki x)).2.2.2.1, 1, 0, (K (dk_fki x)).2.2.2.2.2.2)), rl, (dk_openOne st (dk_near y u)))
                    else
                      ((1 : Int32), (va_up K (dk_fki x) ((K (dk_fki x)).1, (K (dk_fki x)).2.1, (K (dk_fki x)).2.2.1, (K (dk_fki x)).2.2.2.1, 1, 0, (K (dk_fki x)).2.2.2.2.2.2)), rl, (dk_openOne st (dk_near y u)))
                  else
                    if dk_hand ((K (dk_fki x)).1, (K (dk_fki x)).2.1, (K (dk_fki x)).2.2.1, (K (dk_fki x)).2.2.2.1, 1, 1, (K (dk_fki x)).2.2.2.2.2.2) = 0 then
                      ((0 : Int32), (va_up K (dk_fki x) ((K (dk_fki x)).1, (K (dk_fki x)).2.1, (K (dk_fki x)).2.2.1, (K (dk_fki x)).2.2.2.1, 1, 1, (K (dk_fki x)).2.2.2.2.2.2)), rl, st)
                    else
                      ((1 : Int32), (va_up K (dk_fki x) ((K (dk_fki x)).1, (K (dk_fki x)).2.1, (K (dk_fki x)).2.2.1, (K (dk_fki x)).2.2.2.1, 1, 1, (K (dk_fki x)).2.2.2.2.2.2)), rl, st)
        else
          (((-2) : Int32), K, rl, st)
  else
    (((-1) : Int32), K, rl, st)
def rm_X3_field : Room := { frames := 3, cells := 0, slots := 0, locals := 64 }
set_option maxHeartbeats 4000000 in
set_option maxRecDepth 100000 in
theorem c_X3_field (l : Launch) (dC : Nat → ClassId) (dI : Nat → Nat → Nat) (cK : ClassId) (cB : ClassId) (cI : ClassId) (o : Nat) (ks : Nat) (fa : Nat) (oa : Nat) (fb : Nat) (ob : Nat) (dr : Nat) (ds : Nat) (L : Nat → Nat) (n : Nat) (sp : Int32) (co : Nat) (en : Nat) (cr : Int32) (rl : Int32) (qs : Int32) (kA : Int32) (oA : Nat → Int8) (kB : Int32) (oB : Nat → Int8) (tt : Int64) (ss : Int64) (st : Nat → Int32) (K : Nat → KR) (tX : Nat) (tY : Nat) (x : Int32) (y : Int64) (u : Int64) (w : Int64) (hn : n ≤ 8) : Met l yX3_field wsX3_field rm_X3_field (up_PS tX tY (up_c (dkW cK cB cI o ks fa oa fb ob dr ds L n sp co en cr rl qs kA oA kB oB tt ss st K)) (dC, dI) vwCl (dkT cK cB cI) (dkW cK cB cI o ks fa oa fb ob dr ds L n sp co en cr rl qs kA oA kB oB tt ss st K) [.ref o, .int x, .long y, .long u, .long w]) (up_Q (dC, dI) vwCl (some (.int ((dk_field n rl st K x y u w).1))) (dkW cK cB cI o ks fa oa fb ob dr ds L n sp co en cr rl qs kA oA kB oB tt ss st K) (dkW cK cB cI o ks fa oa fb ob dr ds L n sp co en cr ((dk_field n rl st K x y u w).2.2.1) qs kA oA kB oB tt ss ((dk_field n rl st K x y u w).2.2.2) ((dk_field n rl st K x y u w).2.1))) 0 0 (up_c (dkW cK cB cI o ks fa oa fb ob dr ds L n sp co en cr rl qs kA oA kB oB tt ss st K)) := by
  refine Met.ofW (cc := cX3_field) (maxL := 12) (ret := (some .int)) (by decide) rfl ?_
  intro p e s m args below meth c s₁ B hml hv
  obtain ⟨rfl, hP, hK, hD0, hZ⟩ := hv
  have hx := B.exec
  have hb := B.bytes
  have hr := B.returns
  have hts := atoms_spec (ws := wsX3_field) B.pre
  have hown : s.vm.findClass RX3 = some m.cls := findClass_of_methodNamed B.named
  have hlocks := B.notSynchronized
  have hD := up_self hD0
  have hS : va_S (up_c (dkW cK cB cI o ks fa oa fb ob dr ds L n sp co en cr rl qs kA oA kB oB tt ss st K)) s.heap s.heap [] := va_S.rf
  have hl := lv_entry ([.ref o, .int x, .long y, .long u, .long w]) (n := 12) (Nat.le_of_ble_eq_true rfl)
  rw [lg_entry_eq]
  generalize (lg_sl ([.ref o, .int x, .long y, .long u, .long w]) ++ List.replicate (12 - (lg_sl ([.ref o, .int x, .long y, .long u, .long w])).length) Slot.unset).toArray = ls at hl ⊢
  have hl : lv_has ls 12 [(0, .ref o), (1, .int x), (2, .long y), (4, .long u), (6, .long w)] := hl
  refine lv_aload_n hx hb dX3_field_0 rfl (lv_at hl 0 rfl) ?_
  refine lv_iload_n hx hb dX3_field_1 rfl (lv_at hl 1 rfl) ?_
  by_cases hk_2 : dk_fkP n x
  · have hi_2 : dk_fki x < n := dk_fk_lt hn hk_2
    refine up_read (W.runV (As := [.int x]) (rest := []) ⟨hx, hb, hml, hown, hts⟩ (c_X3_findS l dC dI cK cB cI o ks fa oa fb ob dr ds L n sp co en cr rl qs kA oA kB oB tt ss st K x hn hk_2) (cwV 1 hts gX3_field_X3_find rfl rfl rfl (by decide +kernel) ⟨Nat.le_of_ble_eq_true rfl, Nat.le_of_ble_eq_true rfl⟩) (up_preV (q0 := 0) (ci := 4) hP hK hD rfl rfl) rfl rfl hl.1 rfl (lv_room (Nat.le_of_ble_eq_true rfl)) dX3_field_2 ⟨Nat.le_of_ble_eq_true rfl, Nat.le_of_ble_eq_true rfl⟩) ?_
    refine lv_astore (lv' := [(8, .ref (L (dk_fki x))), (0, .ref o), (1, .int x), (2, .long y), (4, .long u), (6, .long w)]) hx hb dX3_field_5 hl (by decide) rfl (fun ls hl => ?_)
    refine lv_aload hx hb dX3_field_7 (lv_at hl 0 rfl) ?_
    refine lv_ifnonnull (tgt := 14) hx hb dX3_field_9 (by decide) ?_
    refine lv_lload_n hx hb dX3_field_14 rfl (lv_at hl 3 rfl) ?_
    refine lv_ldc2 (v := 1000000) hx hb hown (hts (.constantLong RX3 105 1000000) (by decide +kernel)) dX3_field_15 ?_
    refine up_read (W.runS (As := [.long y, .long 1000000]) (rest := []) ⟨hx, hb, hml, hown, hts⟩ (c_X3_isWithin l dC dI cK cB cI o ks fa oa fb ob dr ds L n sp co en cr rl qs kA oA kB oB tt ss st K y 1000000) (va_cwS 2 hts gX3_field_X3_isWithin rfl rfl rfl (by decide +kernel) ⟨Nat.le_of_ble_eq_true rfl, Nat.le_of_ble_eq_true rfl⟩) (up_preS hP hK hD) rfl rfl hl.1 rfl (lv_room (Nat.le_of_ble_eq_true rfl)) dX3_field_18 ⟨Nat.le_of_ble_eq_true rfl, Nat.le_of_ble_eq_true rfl⟩) ?_
    refine lv_if_eq (tgt := 42) hx hb dX3_field_21 (by decide) (fun c_21 => ?_) (fun c_21 => ?_)
    · refine lv_bipush (v := (-2)) hx hb dX3_field_42 (by decide) ?_
      have e_ : dk_field n rl st K x y u w = (((-2) : Int32), K, rl, st) := by unfold dk_field; exact (if_pos hk_2).trans ((if_pos c_21).trans rfl)
      rw [e_]
      exact W.iret (v := (-2)) hx hb hr (fun t ht hW => ⟨rfl, by rw [ht]; exact hP, hS.F ht⟩) hS.2.2 dX3_field_44
    · refine lv_lload hx hb dX3_field_24 (lv_at hl 4 rfl) ?_
      refine lv_ldc2 (v := 1000000) hx hb hown (hts (.constantLong RX3 105 1000000) (by decide +kernel)) dX3_field_26 ?_
      refine up_read (W.runS (As := [.long u, .long 1000000]) (rest := []) ⟨hx, hb, hml, hown, hts⟩ (c_X3_isWithin l dC dI cK cB cI o ks fa oa fb ob dr ds L n sp co en cr rl qs kA oA kB oB tt ss st K u 1000000) (va_cwS 2 hts gX3_field_X3_isWithin rfl rfl rfl (by decide +kernel) ⟨Nat.le_of_ble_eq_true rfl, Nat.le_of_ble_eq_true rfl⟩) (up_preS hP hK hD) rfl rfl hl.1 rfl (lv_room (Nat.le_of_ble_eq_true rfl)) dX3_field_29 ⟨Nat.le_of_ble_eq_true rfl, Nat.le_of_ble_eq_true rfl⟩) ?_
      refine lv_if_eq (tgt := 42) hx hb dX3_field_32 (by decide) (fun c_32 => ?_) (fun c_32 => ?_)
      · refine lv_bipush (v := (-2)) hx hb dX3_field_42 (by decide) ?_
        have e_ : dk_field n rl st K x y u w = (((-2) : Int32), K, rl, st) := by unfold dk_field; exact (if_pos hk_2).trans ((if_neg c_21).trans ((if_pos c_32).trans rfl))
        rw [e_]
        exact W.iret (v := (-2)) hx hb hr (fun t ht hW => ⟨rfl, by rw [ht]; exact hP, hS.F ht⟩) hS.2.2 dX3_field_44
      · refine lv_lload hx hb dX3_field_35 (lv_at hl 5 rfl) ?_
        refine lv_lconst (v := 1) hx hb dX3_field_37 (by decide) ?_
        refine W.lcmp hx hb dX3_field_38 ?_
        refine lv_if_ge (tgt := 45) hx hb dX3_field_39 (by decide) (fun c_39 => ?_) (fun c_39 => ?_)
        · refine lv_lload hx hb dX3_field_45 (lv_at hl 5 rfl) ?_
          refine lv_ldc2 (v := 2000) hx hb hown (hts (.constantLong RX3 111 2000) (by decide +kernel)) dX3_field_47 ?_
          refine W.lcmp hx hb dX3_field_50 ?_
          refine lv_if_gt (tgt := 58) hx hb dX3_field_51 (by decide) (fun c_51 => ?_) (fun c_51 => ?_)
          · refine lv_iconst (v := 0) hx hb dX3_field_58 (by decide) ?_
            refine lv_istore (lv' := [(9, .int 0), (8, .ref (L (dk_fki x))), (0, .ref o), (1, .int x), (2, .long y), (4, .long u), (6, .long w)]) hx hb dX3_field_59 hl (by decide) rfl (fun ls hl => ?_)
            refine lv_iload hx hb dX3_field_61 (lv_at hl 0 rfl) ?_
            refine lv_if_ne (tgt := 76) hx hb dX3_field_63 (by decide) (fun c_63 => absurd c_63 (by decide)) (fun c_63 => ?_)
            refine lv_aload_n hx hb dX3_field_66 rfl (lv_at hl 2 rfl) ?_
            refine lv_dup hx hb dX3_field_67 rfl ?_
            refine va_get (D := (dC, dI)) (ci := 4) (v := .int rl) (C := RX3) (T := TX3) (N := 9) hx hb hts inn_X3_field_X3 hown hK hP 0 rfl rfl 7 (by decide) (hts (.fieldLink RX3 113 "DoorKeys" "relays" "I") (by decide +kernel)) (fun _ h9 => h9) rfl dX3_field_68 ?_
            refine lv_iconst (v := 1) hx hb dX3_field_71 (by decide) ?_
            refine lv_iadd hx hb dX3_field_72 ?_
            refine va_put (D := (dC, dI)) (ci := 4) (v := .int (rl + 1)) (ty := .int) (C := RX3) (T := TX3) (N := 9) hx hb hts inn_X3_field_X3 tyX3 tyX3_ok nmX3 hown hK hP hD hS 0 rfl rfl 7 (by decide) (hts (.fieldLink RX3 113 "DoorKeys" "relays" "I") (by decide +kernel)) (fun _ h9 => h9) rfl (by decide +kernel) rfl rfl (Nat.le_of_ble_eq_true rfl) dX3_field_73 (fun H locs hP hD hS => ?_)
            have hP : va_P (dC, dI) vwCl (dkW cK cB cI o ks fa oa fb ob dr ds L n sp co en cr (rl + 1) qs kA oA kB oB tt ss st K) H := hP
            have hD : va_D (up_c (dkW cK cB cI o ks fa oa fb ob dr ds L n sp co en cr rl qs kA oA kB oB tt ss st K)) (dkW cK cB cI o ks fa oa fb ob dr ds L n sp co en cr (rl + 1) qs kA oA kB oB tt ss st K) := hD
            refine lv_iload hx hb dX3_field_76 (lv_at hl 0 rfl) ?_
            refine lv_if_eq (tgt := 93) hx hb dX3_field_78 (by decide) (fun c_78 => ?_) (fun c_78 => absurd c_78 (by decide))
            refine lv_iconst (v := 0) hx hb dX3_field_93 (by decide) ?_
            refine lv_istore (lv' := [(10, .int 0), (9, .int 0), (8, .ref (L (dk_fki x))), (0, .ref o), (1, .int x), (2, .long y), (4, .long u), (6, .long w)]) hx hb dX3_field_94 hl (by decide) rfl (fun ls hl => ?_)
            refine lv_aload_n hx hb dX3_field_96 rfl (lv_at hl 3 rfl) ?_
            refine va_get (D := (dC, dI)) (ci := 4) (v := .ref dr) (C := RX3) (T := TX3) (N := 9) hx hb hts inn_X3_field_X3 hown hK hP 0 rfl rfl 5 (by decide) (hts (.fieldLink RX3 32 "DoorKeys" "doors" "LDoorKeys$Doors;") (by decide +kernel)) (fun _ h9 => h9) rfl dX3_field_97 ?_
            refine lv_lload_n hx hb dX3_field_100 rfl (lv_at hl 5 rfl) ?_
            refine lv_lload hx hb dX3_field_101 (lv_at hl 6 rfl) ?_
            refine up_read (W.runV (As := [.long y, .long u]) (rest := []) ⟨hx, hb, hml, hown, hts⟩ (c_X0_nearestTo l dC dI cK cB cI o ks fa oa fb ob dr ds L n sp co en cr (rl + 1) qs kA oA kB oB tt ss st K tX tY y u) (cwV 2 hts gX3_field_X0_nearestTo rfl rfl rfl (by decide +kernel) ⟨Nat.le_of_ble_eq_true rfl, Nat.le_of_ble_eq_true rfl⟩) (up_preVS (q0 := 6) (ci := 1) hP hK hD (dk_S_at hZ hS) rfl rfl) rfl rfl hl.1 rfl (lv_room (Nat.le_of_ble_eq_true rfl)) dX3_field_103 ⟨Nat.le_of_ble_eq_true rfl, Nat.le_of_ble_eq_true rfl⟩) ?_
            refine lv_istore (lv' := [(11, .int (dk_near y u)), (10, .int 0), (9, .int 0), (8, .ref (L (dk_fki x))), (0, .ref o), (1, .int x), (2, .long y), (4, .long u), (6, .long w)]) hx hb dX3_field_106 hl (by decide) rfl (fun ls hl => ?_)
            refine lv_aload hx hb dX3_field_108 (lv_at hl 3 rfl) ?_
            refine lv_iload hx hb dX3_field_110 (lv_at hl 1 rfl) ?_
            refine lv_if_eq (tgt := 125) hx hb dX3_field_112 (by decide) (fun c_112 => ?_) (fun c_112 => absurd c_112 (by decide))
            refine lv_iconst (v := 0) hx hb dX3_field_125 (by decide) ?_
            refine va_put (D := (dC, dI)) (ci := 3) (v := .int 0) (ty := .boolean) (C := RX2) (T := TX2) (N := 7) hx hb hts inn_X3_field_X2 tyX2 tyX2_ok nmX2 hown hK hP hD hS ((dk_fki x) + 8) (dk_keyk hi_2 rfl) rfl 4 (by decide) (hts (.fieldLink RX3 99 "DoorKeys$Key" "near" "Z") (by decide +kernel)) (fun _ h9 => h9) rfl (by decide +kernel) rfl rfl (Nat.le_of_ble_eq_true rfl) dX3_field_126 (fun H locs hP hD hS => ?_)
            have hP : va_P (dC, dI) vwCl (dkW cK cB cI o ks fa oa fb ob dr ds L n sp co en cr (rl + 1) qs kA oA kB oB tt ss st (va_up K (dk_fki x) ((K (dk_fki x)).1, (K (dk_fki x)).2.1, (K (dk_fki x)).2.2.1, (K (dk_fki x)).2.2.2.1, 0, (K (dk_fki x)).2.2.2.2.2.1, (K (dk_fki x)).2.2.2.2.2.2))) H := up_cast (dk_put hi_2) hP
            have hD : va_D (up_c (dkW cK cB cI o ks fa oa fb ob dr ds L n sp co en cr rl qs kA oA kB oB tt ss st K)) (dkW cK cB cI o ks fa oa fb ob dr ds L n sp co en cr (rl + 1) qs kA oA kB oB tt ss st (va_up K (dk_fki x) ((K (dk_fki x)).1, (K (dk_fki x)).2.1, (K (dk_fki x)).2.2.1, (K (dk_fki x)).2.2.2.1, 0, (K (dk_fki x)).2.2.2.2.2.1, (K (dk_fki x)).2.2.2.2.2.2))) := up_castD (dk_put hi_2) hD
            have hP : va_P (dC, dI) vwCl (dkW cK cB cI o ks fa oa fb ob dr ds L n sp co en cr (rl + 1) qs kA oA kB oB tt ss st (va_up K (dk_fki x) ((K (dk_fki x)).1, (K (dk_fki x)).2.1, (K (dk_fki x)).2.2.1, (K (dk_fki x)).2.2.2.1, 0, (K (dk_fki x)).2.2.2.2.2.1, (K (dk_fki x)).2.2.2.2.2.2))) H := hP
            have hD : va_D (up_c (dkW cK cB cI o ks fa oa fb ob dr ds L n sp co en cr rl qs kA oA kB oB tt ss st K)) (dkW cK cB cI o ks fa oa fb ob dr ds L n sp co en cr (rl + 1) qs kA oA kB oB tt ss st (va_up K (dk_fki x) ((K (dk_fki x)).1, (K (dk_fki x)).2.1, (K (dk_fki x)).2.2.1, (K (dk_fki x)).2.2.2.1, 0, (K (dk_fki x)).2.2.2.2.2.1, (K (dk_fki x)).2.2.2.2.2.2))) := hD
            refine lv_aload hx hb dX3_field_129 (lv_at hl 3 rfl) ?_
            refine lv_iload hx hb dX3_field_131 (lv_at hl 1 rfl) ?_
            refine lv_if_eq (tgt := 161) hx hb dX3_field_133 (by decide) (fun c_133 => ?_) (fun c_133 => absurd c_133 (by decide))
            refine lv_iconst (v := 0) hx hb dX3_field_161 (by decide) ?_
            refine va_put (D := (dC, dI)) (ci := 3) (v := .int 0) (ty := .boolean) (C := RX2) (T := TX2) (N := 7) hx hb hts inn_X3_field_X2 tyX2 tyX2_ok nmX2 hown hK hP hD hS ((dk_fki x) + 8) (dk_keyk hi_2 (va_up_self _ _ _)) rfl 5 (by decide) (hts (.fieldLink RX3 102 "DoorKeys$Key" "inside" "Z") (by decide +kernel)) (fun _ h9 => h9) rfl (by decide +kernel) rfl rfl (Nat.le_of_ble_eq_true rfl) dX3_field_162 (fun H locs hP hD hS => ?_)
            have hP : va_P (dC, dI) vwCl (dkW cK cB cI o ks fa oa fb ob dr ds L n sp co en cr (rl + 1) qs kA oA kB oB tt ss st (va_up K (dk_fki x) ((K (dk_fki x)).1, (K (dk_fki x)).2.1, (K (dk_fki x)).2.2.1, (K (dk_fki x)).2.2.2.1, 0, 0, (K (dk_fki x)).2.2.2.2.2.2))) H := up_cast (dk_putU hi_2) hP
            have hD : va_D (up_c (dkW cK cB cI o ks fa oa fb ob dr ds L n sp co en cr rl qs kA oA kB oB tt ss st K)) (dkW cK cB cI o ks fa oa fb ob dr ds L n sp co en cr (rl + 1) qs kA oA kB oB tt ss st (va_up K (dk_fki x) ((K (dk_fki x)).1, (K (dk_fki x)).2.1, (K (dk_fki x)).2.2.1, (K (dk_fki x)).2.2.2.1, 0, 0, (K (dk_fki x)).2.2.2.2.2.2))) := up_castD (dk_putU hi_2) hD
            have hP : va_P (dC, dI) vwCl (dkW cK cB cI o ks fa oa fb ob dr ds L n sp co en cr (rl + 1) qs kA oA kB oB tt ss st (va_up K (dk_fki x) ((K (dk_fki x)).1, (K (dk_fki x)).2.1, (K (dk_fki x)).2.2.1, (K (dk_fki x)).2.2.2.1, 0, 0, (K (dk_fki x)).2.2.2.2.2.2))) H := hP
            have hD : va_D (up_c (dkW cK cB cI o ks fa oa fb ob dr ds L n sp co en cr rl qs kA oA kB oB tt ss st K)) (dkW cK cB cI o ks fa oa fb ob dr ds L n sp co en cr (rl + 1) qs kA oA kB oB tt ss st (va_up K (dk_fki x) ((K (dk_fki x)).1, (K (dk_fki x)).2.1, (K (dk_fki x)).2.2.1, (K (dk_fki x)).2.2.2.1, 0, 0, (K (dk_fki x)).2.2.2.2.2.2))) := hD
            refine lv_aload hx hb dX3_field_165 (lv_at hl 3 rfl) ?_
            refine va_get (D := (dC, dI)) (ci := 3) (v := .int 0) (C := RX2) (T := TX2) (N := 7) hx hb hts inn_X3_field_X2 hown hK hP ((dk_fki x) + 8) (dk_keyk hi_2 (va_up_self _ _ _)) rfl 4 (by decide) (hts (.fieldLink RX3 99 "DoorKeys$Key" "near" "Z") (by decide +kernel)) (fun _ h9 => h9) rfl dX3_field_167 ?_
            refine lv_if_eq (tgt := 190) hx hb dX3_field_170 (by decide) (fun c_170 => ?_) (fun c_170 => absurd c_170 (by decide))
            refine lv_aload hx hb dX3_field_190 (lv_at hl 3 rfl) ?_
            refine up_read (W.runV (As := []) (rest := []) ⟨hx, hb, hml, hown, hts⟩ (c_X2_isAtHand l dC dI cK cB cI o ks fa oa fb ob dr ds L n sp co en cr (rl + 1) qs kA oA kB oB tt ss st (va_up K (dk_fki x) ((K (dk_fki x)).1, (K (dk_fki x)).2.1, (K (dk_fki x)).2.2.1, (K (dk_fki x)).2.2.2.1, 0, 0, (K (dk_fki x)).2.2.2.2.2.2)) (dk_fki x) ((K (dk_fki x)).1, (K (dk_fki x)).2.1, (K (dk_fki x)).2.2.1, (K (dk_fki x)).2.2.2.1, 0, 0, (K (dk_fki x)).2.2.2.2.2.2) hi_2 (va_up_self _ _ _)) (cwV 0 hts gX3_field_X2_isAtHand rfl rfl rfl (by decide +kernel) ⟨Nat.le_of_ble_eq_true rfl, Nat.le_of_ble_eq_true rfl⟩) (up_preV (q0 := ((dk_fki x) + 8)) (ci := 3) hP hK hD rfl (dk_keyk hi_2 (va_up_self _ _ _))) rfl rfl hl.1 rfl (lv_room (Nat.le_of_ble_eq_true rfl)) dX3_field_192 ⟨Nat.le_of_ble_eq_true rfl, Nat.le_of_ble_eq_true rfl⟩) ?_
            refine lv_if_eq (tgt := 202) hx hb dX3_field_195 (by decide) (fun c_195 => ?_) (fun c_195 => ?_)
            · refine lv_iconst (v := 0) hx hb dX3_field_202 (by decide) ?_
              have e_ : dk_field n rl st K x y u w = ((0 : Int32), (va_up K (dk_fki x) ((K (dk_fki x)).1, (K (dk_fki x)).2.1, (K (dk_fki x)).2.2.1, (K (dk_fki x)).2.2.2.1, 0, 0, (K (dk_fki x)).2.2.2.2.2.2)), (rl + 1), st) := by unfold dk_field; exact (if_pos hk_2).trans ((if_neg c_21).trans ((if_neg c_32).trans ((if_pos c_39).trans ((if_pos c_51).trans ((if_pos c_195).trans rfl)))))
              rw [e_]
              exact W.iret (v := 0) hx hb hr (fun t ht hW => ⟨rfl, by rw [ht]; exact hP, hS.F ht⟩) hS.2.2 dX3_field_203
            · refine lv_iconst (v := 1) hx hb dX3_field_198 (by decide) ?_
              refine lv_goto (tgt := 203) hx hb dX3_field_199 (by decide) ?_
              have e_ : dk_field n rl st K x y u w = ((1 : Int32), (va_up K (dk_fki x) ((K (dk_fki x)).1, (K (dk_fki x)).2.1, (K (dk_fki x)).2.2.1, (K (dk_fki x)).2.2.2.1, 0, 0, (K (dk_fki x)).2.2.2.2.2.2)), (rl + 1), st) := by unfold dk_field; exact (if_pos hk_2).trans ((if_neg c_21).trans ((if_neg c_32).trans ((if_pos c_39).trans ((if_pos c_51).trans ((if_neg c_195).trans rfl)))))
              rw [e_]
              exact W.iret (v := 1) hx hb hr (fun t ht hW => ⟨rfl, by rw [ht]; exact hP, hS.F ht⟩) hS.2.2 dX3_field_203
          · refine lv_iconst (v := 1) hx hb dX3_field_54 (by decide) ?_
            refine lv_goto (tgt := 59) hx hb dX3_field_55 (by decide) ?_
            refine lv_istore (lv' := [(9, .int 1), (8, .ref (L (dk_fki x))), (0, .ref o), (1, .int x), (2, .long y), (4, .long u), (6, .long w)]) hx hb dX3_field_59 hl (by decide) rfl (fun ls hl => ?_)
            refine lv_iload hx hb dX3_field_61 (lv_at hl 0 rfl) ?_
            refine lv_if_ne (tgt := 76) hx hb dX3_field_63 (by decide) (fun c_63 => ?_) (fun c_63 => absurd c_63 (by decide))
            refine lv_iload hx hb dX3_field_76 (lv_at hl 0 rfl) ?_
            refine lv_if_eq (tgt := 93) hx hb dX3_field_78 (by decide) (fun c_78 => absurd c_78 (by decide)) (fun c_78 => ?_)
            refine lv_aload hx hb dX3_field_81 (lv_at hl 1 rfl) ?_
            refine va_get (D := (dC, dI)) (ci := 3) (v := .int ((K (dk_fki x)).2.2.2.1)) (C := RX2) (T := TX2) (N := 7) hx hb hts inn_X3_field_X2 hown hK hP ((dk_fki x) + 8) (dk_keyk hi_2 rfl) rfl 3 (by decide) (hts (.fieldLink RX3 89 "DoorKeys$Key" "learned" "Z") (by decide +kernel)) (fun _ h9 => h9) rfl dX3_field_83 ?_
            refine lv_if_eq (tgt := 93) hx hb dX3_field_86 (by decide) (fun c_86 => ?_) (fun c_86 => ?_)
            · refine lv_iconst (v := 0) hx hb dX3_field_93 (by decide) ?_
              refine lv_istore (lv' := [(10, .int 0), (9, .int 1), (8, .ref (L (dk_fki x))), (0, .ref o), (1, .int x), (2, .long y), (4, .long u), (6, .long w)]) hx hb dX3_field_94 hl (by decide) rfl (fun ls hl => ?_)
              refine lv_aload_n hx hb dX3_field_96 rfl (lv_at hl 3 rfl) ?_
              refine va_get (D := (dC, dI)) (ci := 4) (v := .ref dr) (C := RX3) (T := TX3) (N := 9) hx hb hts inn_X3_field_X3 hown hK hP 0 rfl rfl 5 (by decide) (hts (.fieldLink RX3 32 "DoorKeys" "doors" "LDoorKeys$Doors;") (by decide +kernel)) (fun _ h9 => h9) rfl dX3_field_97 ?_
              refine lv_lload_n hx hb dX3_field_100 rfl (lv_at hl 5 rfl) ?_
              refine lv_lload hx hb dX3_field_101 (lv_at hl 6 rfl) ?_
              refine up_read (W.runV (As := [.long y, .long u]) (rest := []) ⟨hx, hb, hml, hown, hts⟩ (c_X0_nearestTo l dC dI cK cB cI o ks fa oa fb ob dr ds L n sp co en cr rl qs kA oA kB oB tt ss st K tX tY y u) (cwV 2 hts gX3_field_X0_nearestTo rfl rfl rfl (by decide +kernel) ⟨Nat.le_of_ble_eq_true rfl, Nat.le_of_ble_eq_true rfl⟩) (up_preVS (q0 := 6) (ci := 1) hP hK hD (dk_S_at hZ hS) rfl rfl) rfl rfl hl.1 rfl (lv_room (Nat.le_of_ble_eq_true rfl)) dX3_field_103 ⟨Nat.le_of_ble_eq_true rfl, Nat.le_of_ble_eq_true rfl⟩) ?_
              refine lv_istore (lv' := [(11, .int (dk_near y u)), (10, .int 0), (9, .int 1), (8, .ref (L (dk_fki x))), (0, .ref o), (1, .int x), (2, .long y), (4, .long u), (6, .long w)]) hx hb dX3_field_106 hl (by decide) rfl (fun ls hl => ?_)
              refine lv_aload hx hb dX3_field_108 (lv_at hl 3 rfl) ?_
              refine lv_iload hx hb dX3_field_110 (lv_at hl 1 rfl) ?_
              refine lv_if_eq (tgt := 125) hx hb dX3_field_112 (by decide) (fun c_112 => ?_) (fun c_112 => absurd c_112 (by decide))
              refine lv_iconst (v := 0) hx hb dX3_field_125 (by decide) ?_
              refine va_put (D := (dC, dI)) (ci := 3) (v := .int 0) (ty := .boolean) (C := RX2) (T := TX2) (N := 7) hx hb hts inn_X3_field_X2 tyX2 tyX2_ok nmX2 hown hK hP hD hS ((dk_fki x) + 8) (dk_keyk hi_2 rfl) rfl 4 (by decide) (hts (.fieldLink RX3 99 "DoorKeys$Key" "near" "Z") (by decide +kernel)) (fun _ h9 => h9) rfl (by decide +kernel) rfl rfl (Nat.le_of_ble_eq_true rfl) dX3_field_126 (fun H locs hP hD hS => ?_)
              have hP : va_P (dC, dI) vwCl (dkW cK cB cI o ks fa oa fb ob dr ds L n sp co en cr rl qs kA oA kB oB tt ss st (va_up K (dk_fki x) ((K (dk_fki x)).1, (K (dk_fki x)).2.1, (K (dk_fki x)).2.2.1, (K (dk_fki x)).2.2.2.1, 0, (K (dk_fki x)).2.2.2.2.2.1, (K (dk_fki x)).2.2.2.2.2.2))) H := up_cast (dk_put hi_2) hP
              have hD : va_D (up_c (dkW cK cB cI o ks fa oa fb ob dr ds L n sp co en cr rl qs kA oA kB oB tt ss st K)) (dkW cK cB cI o ks fa oa fb ob dr ds L n sp co en cr rl qs kA oA kB oB tt ss st (va_up K (dk_fki x) ((K (dk_fki x)).1, (K (dk_fki x)).2.1, (K (dk_fki x)).2.2.1, (K (dk_fki x)).2.2.2.1, 0, (K (dk_fki x)).2.2.2.2.2.1, (K (dk_fki x)).2.2.2.2.2.2))) := up_castD (dk_put hi_2) hD
              have hP : va_P (dC, dI) vwCl (dkW cK cB cI o ks fa oa fb ob dr ds L n sp co en cr rl qs kA oA kB oB tt ss st (va_up K (dk_fki x) ((K (dk_fki x)).1, (K (dk_fki x)).2.1, (K (dk_fki x)).2.2.1, (K (dk_fki x)).2.2.2.1, 0, (K (dk_fki x)).2.2.2.2.2.1, (K (dk_fki x)).2.2.2.2.2.2))) H := hP
              have hD : va_D (up_c (dkW cK cB cI o ks fa oa fb ob dr ds L n sp co en cr rl qs kA oA kB oB tt ss st K)) (dkW cK cB cI o ks fa oa fb ob dr ds L n sp co en cr rl qs kA oA kB oB tt ss st (va_up K (dk_fki x) ((K (dk_fki x)).1, (K (dk_fki x)).2.1, (K (dk_fki x)).2.2.1, (K (dk_fki x)).2.2.2.1, 0, (K (dk_fki x)).2.2.2.2.2.1, (K (dk_fki x)).2.2.2.2.2.2))) := hD
              refine lv_aload hx hb dX3_field_129 (lv_at hl 3 rfl) ?_
              refine lv_iload hx hb dX3_field_131 (lv_at hl 1 rfl) ?_
              refine lv_if_eq (tgt := 161) hx hb dX3_field_133 (by decide) (fun c_133 => ?_) (fun c_133 => absurd c_133 (by decide))
              refine lv_iconst (v := 0) hx hb dX3_field_161 (by decide) ?_
              refine va_put (D := (dC, dI)) (ci := 3) (v := .int 0) (ty := .boolean) (C := RX2) (T := TX2) (N := 7) hx hb hts inn_X3_field_X2 tyX2 tyX2_ok nmX2 hown hK hP hD hS ((dk_fki x) + 8) (dk_keyk hi_2 (va_up_self _ _ _)) rfl 5 (by decide) (hts (.fieldLink RX3 102 "DoorKeys$Key" "inside" "Z") (by decide +kernel)) (fun _ h9 => h9) rfl (by decide +kernel) rfl rfl (Nat.le_of_ble_eq_true rfl) dX3_field_162 (fun H locs hP hD hS => ?_)
              have hP : va_P (dC, dI) vwCl (dkW cK cB cI o ks fa oa fb ob dr ds L n sp co en cr rl qs kA oA kB oB tt ss st (va_up K (dk_fki x) ((K (dk_fki x)).1, (K (dk_fki x)).2.1, (K (dk_fki x)).2.2.1, (K (dk_fki x)).2.2.2.1, 0, 0, (K (dk_fki x)).2.2.2.2.2.2))) H := up_cast (dk_putU hi_2) hP
              have hD : va_D (up_c (dkW cK cB cI o ks fa oa fb ob dr ds L n sp co en cr rl qs kA oA kB oB tt ss st K)) (dkW cK cB cI o ks fa oa fb ob dr ds L n sp co en cr rl qs kA oA kB oB tt ss st (va_up K (dk_fki x) ((K (dk_fki x)).1, (K (dk_fki x)).2.1, (K (dk_fki x)).2.2.1, (K (dk_fki x)).2.2.2.1, 0, 0, (K (dk_fki x)).2.2.2.2.2.2))) := up_castD (dk_putU hi_2) hD
              have hP : va_P (dC, dI) vwCl (dkW cK cB cI o ks fa oa fb ob dr ds L n sp co en cr rl qs kA oA kB oB tt ss st (va_up K (dk_fki x) ((K (dk_fki x)).1, (K (dk_fki x)).2.1, (K (dk_fki x)).2.2.1, (K (dk_fki x)).2.2.2.1, 0, 0, (K (dk_fki x)).2.2.2.2.2.2))) H := hP
              have hD : va_D (up_c (dkW cK cB cI o ks fa oa fb ob dr ds L n sp co en cr rl qs kA oA kB oB tt ss st K)) (dkW cK cB cI o ks fa oa fb ob dr ds L n sp co en cr rl qs kA oA kB oB tt ss st (va_up K (dk_fki x) ((K (dk_fki x)).1, (K (dk_fki x)).2.1, (K (dk_fki x)).2.2.1, (K (dk_fki x)).2.2.2.1, 0, 0, (K (dk_fki x)).2.2.2.2.2.2))) := hD
              refine lv_aload hx hb dX3_field_165 (lv_at hl 3 rfl) ?_
              refine va_get (D := (dC, dI)) (ci := 3) (v := .int 0) (C := RX2) (T := TX2) (N := 7) hx hb hts inn_X3_field_X2 hown hK hP ((dk_fki x) + 8) (dk_keyk hi_2 (va_up_self _ _ _)) rfl 4 (by decide) (hts (.fieldLink RX3 99 "DoorKeys$Key" "near" "Z") (by decide +kernel)) (fun _ h9 => h9) rfl dX3_field_167 ?_
              refine lv_if_eq (tgt := 190) hx hb dX3_field_170 (by decide) (fun c_170 => ?_) (fun c_170 => absurd c_170 (by decide))
              refine lv_aload hx hb dX3_field_190 (lv_at hl 3 rfl) ?_
              refine up_read (W.runV (As := []) (rest := []) ⟨hx, hb, hml, hown, hts⟩ (c_X2_isAtHand l dC dI cK cB cI o ks fa oa fb ob dr ds L n sp co en cr rl qs kA oA kB oB tt ss st (va_up K (dk_fki x) ((K (dk_fki x)).1, (K (dk_fki x)).2.1, (K (dk_fki x)).2.2.1, (K (dk_fki x)).2.2.2.1, 0, 0, (K (dk_fki x)).2.2.2.2.2.2)) (dk_fki x) ((K (dk_fki x)).1, (K (dk_fki x)).2.1, (K (dk_fki x)).2.2.1, (K (dk_fki x)).2.2.2.1, 0, 0, (K (dk_fki x)).2.2.2.2.2.2) hi_2 (va_up_self _ _ _)) (cwV 0 hts gX3_field_X2_isAtHand rfl rfl rfl (by decide +kernel) ⟨Nat.le_of_ble_eq_true rfl, Nat.le_of_ble_eq_true rfl⟩) (up_preV (q0 := ((dk_fki x) + 8)) (ci := 3) hP hK hD rfl (dk_keyk hi_2 (va_up_self _ _ _))) rfl rfl hl.1 rfl (lv_room (Nat.le_of_ble_eq_true rfl)) dX3_field_192 ⟨Nat.le_of_ble_eq_true rfl, Nat.le_of_ble_eq_true rfl⟩) ?_
              refine lv_if_eq (tgt := 202) hx hb dX3_field_195 (by decide) (fun c_195 => ?_) (fun c_195 => ?_)
              · refine lv_iconst (v := 0) hx hb dX3_field_202 (by decide) ?_
                have e_ : dk_field n rl st K x y u w = ((0 : Int32), (va_up K (dk_fki x) ((K (dk_fki x)).1, (K (dk_fki x)).2.1, (K (dk_fki x)).2.2.1, (K (dk_fki x)).2.2.2.1, 0, 0, (K (dk_fki x)).2.2.2.2.2.2)), rl, st) := by unfold dk_field; exact (if_pos hk_2).trans ((if_neg c_21).trans ((if_neg c_32).trans ((if_pos c_39).trans ((if_neg c_51).trans ((if_pos c_86).trans ((if_pos c_195).trans rfl))))))
                rw [e_]
                exact W.iret (v := 0) hx hb hr (fun t ht hW => ⟨rfl, by rw [ht]; exact hP, hS.F ht⟩) hS.2.2 dX3_field_203
              · refine lv_iconst (v := 1) hx hb dX3_field_198 (by decide) ?_
                refine lv_goto (tgt := 203) hx hb dX3_field_199 (by decide) ?_
                have e_ : dk_field n rl st K x y u w = ((1 : Int32), (va_up K (dk_fki x) ((K (dk_fki x)).1, (K (dk_fki x)).2.1, (K (dk_fki x)).2.2.1, (K (dk_fki x)).2.2.2.1, 0, 0, (K (dk_fki x)).2.2.2.2.2.2)), rl, st) := by unfold dk_field; exact (if_pos hk_2).trans ((if_neg c_21).trans ((if_neg c_32).trans ((if_pos c_39).trans ((if_neg c_51).trans ((if_pos c_86).trans ((if_neg c_195).trans rfl))))))
                rw [e_]
                exact W.iret (v := 1) hx hb hr (fun t ht hW => ⟨rfl, by rw [ht]; exact hP, hS.F ht⟩) hS.2.2 dX3_field_203
            · refine lv_iconst (v := 1) hx hb dX3_field_89 (by decide) ?_
              refine lv_goto (tgt := 94) hx hb dX3_field_90 (by decide) ?_
              refine lv_istore (lv' := [(10, .int 1), (9, .int 1), (8, .ref (L (dk_fki x))), (0, .ref o), (1, .int x), (2, .long y), (4, .long u), (6, .long w)]) hx hb dX3_field_94 hl (by decide) rfl (fun ls hl => ?_)
              refine lv_aload_n hx hb dX3_field_96 rfl (lv_at hl 3 rfl) ?_
              refine va_get (D := (dC, dI)) (ci := 4) (v := .ref dr) (C := RX3) (T := TX3) (N := 9) hx hb hts inn_X3_field_X3 hown hK hP 0 rfl rfl 5 (by decide) (hts (.fieldLink RX3 32 "DoorKeys" "doors" "LDoorKeys$Doors;") (by decide +kernel)) (fun _ h9 => h9) rfl dX3_field_97 ?_
              refine lv_lload_n hx hb dX3_field_100 rfl (lv_at hl 5 rfl) ?_
              refine lv_lload hx hb dX3_field_101 (lv_at hl 6 rfl) ?_
              refine up_read (W.runV (As := [.long y, .long u]) (rest := []) ⟨hx, hb, hml, hown, hts⟩ (c_X0_nearestTo l dC dI cK cB cI o ks fa oa fb ob dr ds L n sp co en cr rl qs kA oA kB oB tt ss st K tX tY y u) (cwV 2 hts gX3_field_X0_nearestTo rfl rfl rfl (by decide +kernel) ⟨Nat.le_of_ble_eq_true rfl, Nat.le_of_ble_eq_true rfl⟩) (up_preVS (q0 := 6) (ci := 1) hP hK hD (dk_S_at hZ hS) rfl rfl) rfl rfl hl.1 rfl (lv_room (Nat.le_of_ble_eq_true rfl)) dX3_field_103 ⟨Nat.le_of_ble_eq_true rfl, Nat.le_of_ble_eq_true rfl⟩) ?_
              refine lv_istore (lv' := [(11, .int (dk_near y u)), (10, .int 1), (9, .int 1), (8, .ref (L (dk_fki x))), (0, .ref o), (1, .int x), (2, .long y), (4, .long u), (6, .long w)]) hx hb dX3_field_106 hl (by decide) rfl (fun ls hl => ?_)
              refine lv_aload hx hb dX3_field_108 (lv_at hl 3 rfl) ?_
              refine lv_iload hx hb dX3_field_110 (lv_at hl 1 rfl) ?_
              refine lv_if_eq (tgt := 125) hx hb dX3_field_112 (by decide) (fun c_112 => absurd c_112 (by decide)) (fun c_112 => ?_)
              refine lv_iload hx hb dX3_field_115 (lv_at hl 0 rfl) ?_
              refine lv_iconst (v := (-1)) hx hb dX3_field_117 (by decide) ?_
              refine lv_icmp_eq (tgt := 125) hx hb dX3_field_118 (by decide) (fun c_118 => ?_) (fun c_118 => ?_)
              · refine lv_iconst (v := 0) hx hb dX3_field_125 (by decide) ?_
                refine va_put (D := (dC, dI)) (ci := 3) (v := .int 0) (ty := .boolean) (C := RX2) (T := TX2) (N := 7) hx hb hts inn_X3_field_X2 tyX2 tyX2_ok nmX2 hown hK hP hD hS ((dk_fki x) + 8) (dk_keyk hi_2 rfl) rfl 4 (by decide) (hts (.fieldLink RX3 99 "DoorKeys$Key" "near" "Z") (by decide +kernel)) (fun _ h9 => h9) rfl (by decide +kernel) rfl rfl (Nat.le_of_ble_eq_true rfl) dX3_field_126 (fun H locs hP hD hS => ?_)
                have hP : va_P (dC, dI) vwCl (dkW cK cB cI o ks fa oa fb ob dr ds L n sp co en cr rl qs kA oA kB oB tt ss st (va_up K (dk_fki x) ((K (dk_fki x)).1, (K (dk_fki x)).2.1, (K (dk_fki x)).2.2.1, (K (dk_fki x)).2.2.2.1, 0, (K (dk_fki x)).2.2.2.2.2.1, (K (dk_fki x)).2.2.2.2.2.2))) H := up_cast (dk_put hi_2) hP
                have hD : va_D (up_c (dkW cK cB cI o ks fa oa fb ob dr ds L n sp co en cr rl qs kA oA kB oB tt ss st K)) (dkW cK cB cI o ks fa oa fb ob dr ds L n sp co en cr rl qs kA oA kB oB tt ss st (va_up K (dk_fki x) ((K (dk_fki x)).1, (K (dk_fki x)).2.1, (K (dk_fki x)).2.2.1, (K (dk_fki x)).2.2.2.1, 0, (K (dk_fki x)).2.2.2.2.2.1, (K (dk_fki x)).2.2.2.2.2.2))) := up_castD (dk_put hi_2) hD
                have hP : va_P (dC, dI) vwCl (dkW cK cB cI o ks fa oa fb ob dr ds L n sp co en cr rl qs kA oA kB oB tt ss st (va_up K (dk_fki x) ((K (dk_fki x)).1, (K (dk_fki x)).2.1, (K (dk_fki x)).2.2.1, (K (dk_fki x)).2.2.2.1, 0, (K (dk_fki x)).2.2.2.2.2.1, (K (dk_fki x)).2.2.2.2.2.2))) H := hP
                have hD : va_D (up_c (dkW cK cB cI o ks fa oa fb ob dr ds L n sp co en cr rl qs kA oA kB oB tt ss st K)) (dkW cK cB cI o ks fa oa fb ob dr ds L n sp co en cr rl qs kA oA kB oB tt ss st (va_up K (dk_fki x) ((K (dk_fki x)).1, (K (dk_fki x)).2.1, (K (dk_fki x)).2.2.1, (K (dk_fki x)).2.2.2.1, 0, (K (dk_fki x)).2.2.2.2.2.1, (K (dk_fki x)).2.2.2.2.2.2))) := hD
                refine lv_aload hx hb dX3_field_129 (lv_at hl 3 rfl) ?_
                refine lv_iload hx hb dX3_field_131 (lv_at hl 1 rfl) ?_
                refine lv_if_eq (tgt := 161) hx hb dX3_field_133 (by decide) (fun c_133 => absurd c_133 (by decide)) (fun c_133 => ?_)
                refine lv_lload_n hx hb dX3_field_136 rfl (lv_at hl 6 rfl) ?_
                refine lv_ldc2 (v := 2000) hx hb hown (hts (.constantLong RX3 111 2000) (by decide +kernel)) dX3_field_137 ?_
                refine up_read (W.runS (As := [.long y, .long 2000]) (rest := [.ref (L (dk_fki x))]) ⟨hx, hb, hml, hown, hts⟩ (c_X3_isWithin l dC dI cK cB cI o ks fa oa fb ob dr ds L n sp co en cr rl qs kA oA kB oB tt ss st (va_up K (dk_fki x) ((K (dk_fki x)).1, (K (dk_fki x)).2.1, (K (dk_fki x)).2.2.1, (K (dk_fki x)).2.2.2.1, 0, (K (dk_fki x)).2.2.2.2.2.1, (K (dk_fki x)).2.2.2.2.2.2)) y 2000) (va_cwS 2 hts gX3_field_X3_isWithin rfl rfl rfl (by decide +kernel) ⟨Nat.le_of_ble_eq_true rfl, Nat.le_of_ble_eq_true rfl⟩) (up_preS hP hK hD) rfl rfl hl.1 rfl (lv_room (Nat.le_of_ble_eq_true rfl)) dX3_field_140 ⟨Nat.le_of_ble_eq_true rfl, Nat.le_of_ble_eq_true rfl⟩) ?_
                refine lv_if_eq (tgt := 161) hx hb dX3_field_143 (by decide) (fun c_143 => ?_) (fun c_143 => ?_)
                · refine lv_iconst (v := 0) hx hb dX3_field_161 (by decide) ?_
                  refine va_put (D := (dC, dI)) (ci := 3) (v := .int 0) (ty := .boolean) (C := RX2) (T := TX2) (N := 7) hx hb hts inn_X3_field_X2 tyX2 tyX2_ok nmX2 hown hK hP hD hS ((dk_fki x) + 8) (dk_keyk hi_2 (va_up_self _ _ _)) rfl 5 (by decide) (hts (.fieldLink RX3 102 "DoorKeys$Key" "inside" "Z") (by decide +kernel)) (fun _ h9 => h9) rfl (by decide +kernel) rfl rfl (Nat.le_of_ble_eq_true rfl) dX3_field_162 (fun H locs hP hD hS => ?_)
                  have hP : va_P (dC, dI) vwCl (dkW cK cB cI o ks fa oa fb ob dr ds L n sp co en cr rl qs kA oA kB oB tt ss st (va_up K (dk_fki x) ((K (dk_fki x)).1, (K (dk_fki x)).2.1, (K (dk_fki x)).2.2.1, (K (dk_fki x)).2.2.2.1, 0, 0, (K (dk_fki x)).2.2.2.2.2.2))) H := up_cast (dk_putU hi_2) hP
                  have hD : va_D (up_c (dkW cK cB cI o ks fa oa fb ob dr ds L n sp co en cr rl qs kA oA kB oB tt ss st K)) (dkW cK cB cI o ks fa oa fb ob dr ds L n sp co en cr rl qs kA oA kB oB tt ss st (va_up K (dk_fki x) ((K (dk_fki x)).1, (K (dk_fki x)).2.1, (K (dk_fki x)).2.2.1, (K (dk_fki x)).2.2.2.1, 0, 0, (K (dk_fki x)).2.2.2.2.2.2))) := up_castD (dk_putU hi_2) hD
                  have hP : va_P (dC, dI) vwCl (dkW cK cB cI o ks fa oa fb ob dr ds L n sp co en cr rl qs kA oA kB oB tt ss st (va_up K (dk_fki x) ((K (dk_fki x)).1, (K (dk_fki x)).2.1, (K (dk_fki x)).2.2.1, (K (dk_fki x)).2.2.2.1, 0, 0, (K (dk_fki x)).2.2.2.2.2.2))) H := hP
                  have hD : va_D (up_c (dkW cK cB cI o ks fa oa fb ob dr ds L n sp co en cr rl qs kA oA kB oB tt ss st K)) (dkW cK cB cI o ks fa oa fb ob dr ds L n sp co en cr rl qs kA oA kB oB tt ss st (va_up K (dk_fki x) ((K (dk_fki x)).1, (K (dk_fki x)).2.1, (K (dk_fki x)).2.2.1, (K (dk_fki x)).2.2.2.1, 0, 0, (K (dk_fki x)).2.2.2.2.2.2))) := hD
                  refine lv_aload hx hb dX3_field_165 (lv_at hl 3 rfl) ?_
                  refine va_get (D := (dC, dI)) (ci := 3) (v := .int 0) (C := RX2) (T := TX2) (N := 7) hx hb hts inn_X3_field_X2 hown hK hP ((dk_fki x) + 8) (dk_keyk hi_2 (va_up_self _ _ _)) rfl 4 (by decide) (hts (.fieldLink RX3 99 "DoorKeys$Key" "near" "Z") (by decide +kernel)) (fun _ h9 => h9) rfl dX3_field_167 ?_
                  refine lv_if_eq (tgt := 190) hx hb dX3_field_170 (by decide) (fun c_170 => ?_) (fun c_170 => absurd c_170 (by decide))
                  refine lv_aload hx hb dX3_field_190 (lv_at hl 3 rfl) ?_
                  refine up_read (W.runV (As := []) (rest := []) ⟨hx, hb, hml, hown, hts⟩ (c_X2_isAtHand l dC dI cK cB cI o ks fa oa fb ob dr ds L n sp co en cr rl qs kA oA kB oB tt ss st (va_up K (dk_fki x) ((K (dk_fki x)).1, (K (dk_fki x)).2.1, (K (dk_fki x)).2.2.1, (K (dk_fki x)).2.2.2.1, 0, 0, (K (dk_fki x)).2.2.2.2.2.2)) (dk_fki x) ((K (dk_fki x)).1, (K (dk_fki x)).2.1, (K (dk_fki x)).2.2.1, (K (dk_fki x)).2.2.2.1, 0, 0, (K (dk_fki x)).2.2.2.2.2.2) hi_2 (va_up_self _ _ _)) (cwV 0 hts gX3_field_X2_isAtHand rfl rfl rfl (by decide +kernel) ⟨Nat.le_of_ble_eq_true rfl, Nat.le_of_ble_eq_true rfl⟩) (up_preV (q0 := ((dk_fki x) + 8)) (ci := 3) hP hK hD rfl (dk_keyk hi_2 (va_up_self _ _ _))) rfl rfl hl.1 rfl (lv_room (Nat.le_of_ble_eq_true rfl)) dX3_field_192 ⟨Nat.le_of_ble_eq_true rfl, Nat.le_of_ble_eq_true rfl⟩) ?_
                  refine lv_if_eq (tgt := 202) hx hb dX3_field_195 (by decide) (fun c_195 => ?_) (fun c_195 => ?_)
                  · refine lv_iconst (v := 0) hx hb dX3_field_202 (by decide) ?_
                    have e_ : dk_field n rl st K x y u w = ((0 : Int32), (va_up K (dk_fki x) ((K (dk_fki x)).1, (K (dk_fki x)).2.1, (K (dk_fki x)).2.2.1, (K (dk_fki x)).2.2.2.1, 0, 0, (K (dk_fki x)).2.2.2.2.2.2)), rl, st) := by unfold dk_field; exact (if_pos hk_2).trans ((if_neg c_21).trans ((if_neg c_32).trans ((if_pos c_39).trans ((if_neg c_51).trans ((if_neg c_86).trans ((if_pos c_118).trans ((if_pos c_143).trans ((if_pos c_195).trans rfl))))))))
                    rw [e_]
                    exact W.iret (v := 0) hx hb hr (fun t ht hW => ⟨rfl, by rw [ht]; exact hP, hS.F ht⟩) hS.2.2 dX3_field_203
                  · refine lv_iconst (v := 1) hx hb dX3_field_198 (by decide) ?_
                    refine lv_goto (tgt := 203) hx hb dX3_field_199 (by decide) ?_
                    have e_ : dk_field n rl st K x y u w = ((1 : Int32), (va_up K (dk_fki x) ((K (dk_fki x)).1, (K (dk_fki x)).2.1, (K (dk_fki x)).2.2.1, (K (dk_fki x)).2.2.2.1, 0, 0, (K (dk_fki x)).2.2.2.2.2.2)), rl, st) := by unfold dk_field; exact (if_pos hk_2).trans ((if_neg c_21).trans ((if_neg c_32).trans ((if_pos c_39).trans ((if_neg c_51).trans ((if_neg c_86).trans ((if_pos c_118).trans ((if_pos c_143).trans ((if_neg c_195).trans rfl))))))))
                    rw [e_]
                    exact W.iret (v := 1) hx hb hr (fun t ht hW => ⟨rfl, by rw [ht]; exact hP, hS.F ht⟩) hS.2.2 dX3_field_203
                · refine lv_lload hx hb dX3_field_146 (lv_at hl 7 rfl) ?_
                  refine lv_ldc2 (v := 800) hx hb hown (hts (.constantLong RX3 120 800) (by decide +kernel)) dX3_field_148 ?_
                  refine up_read (W.runS (As := [.long u, .long 800]) (rest := [.ref (L (dk_fki x))]) ⟨hx, hb, hml, hown, hts⟩ (c_X3_isWithin l dC dI cK cB cI o ks fa oa fb ob dr ds L n sp co en cr rl qs kA oA kB oB tt ss st (va_up K (dk_fki x) ((K (dk_fki x)).1, (K (dk_fki x)).2.1, (K (dk_fki x)).2.2.1, (K (dk_fki x)).2.2.2.1, 0, (K (dk_fki x)).2.2.2.2.2.1, (K (dk_fki x)).2.2.2.2.2.2)) u 800) (va_cwS 2 hts gX3_field_X3_isWithin rfl rfl rfl (by decide +kernel) ⟨Nat.le_of_ble_eq_true rfl, Nat.le_of_ble_eq_true rfl⟩) (up_preS hP hK hD) rfl rfl hl.1 rfl (lv_room (Nat.le_of_ble_eq_true rfl)) dX3_field_151 ⟨Nat.le_of_ble_eq_true rfl, Nat.le_of_ble_eq_true rfl⟩) ?_
                  refine lv_if_eq (tgt := 161) hx hb dX3_field_154 (by decide) (fun c_154 => ?_) (fun c_154 => ?_)
                  · refine lv_iconst (v := 0) hx hb dX3_field_161 (by decide) ?_
                    refine va_put (D := (dC, dI)) (ci := 3) (v := .int 0) (ty := .boolean) (C := RX2) (T := TX2) (N := 7) hx hb hts inn_X3_field_X2 tyX2 tyX2_ok nmX2 hown hK hP hD hS ((dk_fki x) + 8) (dk_keyk hi_2 (va_up_self _ _ _)) rfl 5 (by decide) (hts (.fieldLink RX3 102 "DoorKeys$Key" "inside" "Z") (by decide +kernel)) (fun _ h9 => h9) rfl (by decide +kernel) rfl rfl (Nat.le_of_ble_eq_true rfl) dX3_field_162 (fun H locs hP hD hS => ?_)
                    have hP : va_P (dC, dI) vwCl (dkW cK cB cI o ks fa oa fb ob dr ds L n sp co en cr rl qs kA oA kB oB tt ss st (va_up K (dk_fki x) ((K (dk_fki x)).1, (K (dk_fki x)).2.1, (K (dk_fki x)).2.2.1, (K (dk_fki x)).2.2.2.1, 0, 0, (K (dk_fki x)).2.2.2.2.2.2))) H := up_cast (dk_putU hi_2) hP
                    have hD : va_D (up_c (dkW cK cB cI o ks fa oa fb ob dr ds L n sp co en cr rl qs kA oA kB oB tt ss st K)) (dkW cK cB cI o ks fa oa fb ob dr ds L n sp co en cr rl qs kA oA kB oB tt ss st (va_up K (dk_fki x) ((K (dk_fki x)).1, (K (dk_fki x)).2.1, (K (dk_fki x)).2.2.1, (K (dk_fki x)).2.2.2.1, 0, 0, (K (dk_fki x)).2.2.2.2.2.2))) := up_castD (dk_putU hi_2) hD
                    have hP : va_P (dC, dI) vwCl (dkW cK cB cI o ks fa oa fb ob dr ds L n sp co en cr rl qs kA oA kB oB tt ss st (va_up K (dk_fki x) ((K (dk_fki x)).1, (K (dk_fki x)).2.1, (K (dk_fki x)).2.2.1, (K (dk_fki x)).2.2.2.1, 0, 0, (K (dk_fki x)).2.2.2.2.2.2))) H := hP
                    have hD : va_D (up_c (dkW cK cB cI o ks fa oa fb ob dr ds L n sp co en cr rl qs kA oA kB oB tt ss st K)) (dkW cK cB cI o ks fa oa fb ob dr ds L n sp co en cr rl qs kA oA kB oB tt ss st (va_up K (dk_fki x) ((K (dk_fki x)).1, (K (dk_fki x)).2.1, (K (dk_fki x)).2.2.1, (K (dk_fki x)).2.2.2.1, 0, 0, (K (dk_fki x)).2.2.2.2.2.2))) := hD
                    refine lv_aload hx hb dX3_field_165 (lv_at hl 3 rfl) ?_
                    refine va_get (D := (dC, dI)) (ci := 3) (v := .int 0) (C := RX2) (T := TX2) (N := 7) hx hb hts inn_X3_field_X2 hown hK hP ((dk_fki x) + 8) (dk_keyk hi_2 (va_up_self _ _ _)) rfl 4 (by decide) (hts (.fieldLink RX3 99 "DoorKeys$Key" "near" "Z") (by decide +kernel)) (fun _ h9 => h9) rfl dX3_field_167 ?_
                    refine lv_if_eq (tgt := 190) hx hb dX3_field_170 (by decide) (fun c_170 => ?_) (fun c_170 => absurd c_170 (by decide))
                    refine lv_aload hx hb dX3_field_190 (lv_at hl 3 rfl) ?_
                    refine up_read (W.runV (As := []) (rest := []) ⟨hx, hb, hml, hown, hts⟩ (c_X2_isAtHand l dC dI cK cB cI o ks fa oa fb ob dr ds L n sp co en cr rl qs kA oA kB oB tt ss st (va_up K (dk_fki x) ((K (dk_fki x)).1, (K (dk_fki x)).2.1, (K (dk_fki x)).2.2.1, (K (dk_fki x)).2.2.2.1, 0, 0, (K (dk_fki x)).2.2.2.2.2.2)) (dk_fki x) ((K (dk_fki x)).1, (K (dk_fki x)).2.1, (K (dk_fki x)).2.2.1, (K (dk_fki x)).2.2.2.1, 0, 0, (K (dk_fki x)).2.2.2.2.2.2) hi_2 (va_up_self _ _ _)) (cwV 0 hts gX3_field_X2_isAtHand rfl rfl rfl (by decide +kernel) ⟨Nat.le_of_ble_eq_true rfl, Nat.le_of_ble_eq_true rfl⟩) (up_preV (q0 := ((dk_fki x) + 8)) (ci := 3) hP hK hD rfl (dk_keyk hi_2 (va_up_self _ _ _))) rfl rfl hl.1 rfl (lv_room (Nat.le_of_ble_eq_true rfl)) dX3_field_192 ⟨Nat.le_of_ble_eq_true rfl, Nat.le_of_ble_eq_true rfl⟩) ?_
                    refine lv_if_eq (tgt := 202) hx hb dX3_field_195 (by decide) (fun c_195 => ?_) (fun c_195 => ?_)
                    · refine lv_iconst (v := 0) hx hb dX3_field_202 (by decide) ?_
                      have e_ : dk_field n rl st K x y u w = ((0 : Int32), (va_up K (dk_fki x) ((K (dk_fki x)).1, (K (dk_fki x)).2.1, (K (dk_fki x)).2.2.1, (K (dk_fki x)).2.2.2.1, 0, 0, (K (dk_fki x)).2.2.2.2.2.2)), rl, st) := by unfold dk_field; exact (if_pos hk_2).trans ((if_neg c_21).trans ((if_neg c_32).trans ((if_pos c_39).trans ((if_neg c_51).trans ((if_neg c_86).trans ((if_pos c_118).trans ((if_neg c_143).trans ((if_pos c_154).trans ((if_pos c_195).trans rfl)))))))))
                      rw [e_]
                      exact W.iret (v := 0) hx hb hr (fun t ht hW => ⟨rfl, by rw [ht]; exact hP, hS.F ht⟩) hS.2.2 dX3_field_203
                    · refine lv_iconst (v := 1) hx hb dX3_field_198 (by decide) ?_
                      refine lv_goto (tgt := 203) hx hb dX3_field_199 (by decide) ?_
                      have e_ : dk_field n rl st K x y u w = ((1 : Int32), (va_up K (dk_fki x) ((K (dk_fki x)).1, (K (dk_fki x)).2.1, (K (dk_fki x)).2.2.1, (K (dk_fki x)).2.2.2.1, 0, 0, (K (dk_fki x)).2.2.2.2.2.2)), rl, st) := by unfold dk_field; exact (if_pos hk_2).trans ((if_neg c_21).trans ((if_neg c_32).trans ((if_pos c_39).trans ((if_neg c_51).trans ((if_neg c_86).trans ((if_pos c_118).trans ((if_neg c_143).trans ((if_pos c_154).trans ((if_neg c_195).trans rfl)))))))))
                      rw [e_]
                      exact W.iret (v := 1) hx hb hr (fun t ht hW => ⟨rfl, by rw [ht]; exact hP, hS.F ht⟩) hS.2.2 dX3_field_203
                  · refine lv_iconst (v := 1) hx hb dX3_field_157 (by decide) ?_
                    refine lv_goto (tgt := 162) hx hb dX3_field_158 (by decide) ?_
                    refine va_put (D := (dC, dI)) (ci := 3) (v := .int 1) (ty := .boolean) (C := RX2) (T := TX2) (N := 7) hx hb hts inn_X3_field_X2 tyX2 tyX2_ok nmX2 hown hK hP hD hS ((dk_fki x) + 8) (dk_keyk hi_2 (va_up_self _ _ _)) rfl 5 (by decide) (hts (.fieldLink RX3 102 "DoorKeys$Key" "inside" "Z") (by decide +kernel)) (fun _ h9 => h9) rfl (by decide +kernel) rfl rfl (Nat.le_of_ble_eq_true rfl) dX3_field_162 (fun H locs hP hD hS => ?_)
                    have hP : va_P (dC, dI) vwCl (dkW cK cB cI o ks fa oa fb ob dr ds L n sp co en cr rl qs kA oA kB oB tt ss st (va_up K (dk_fki x) ((K (dk_fki x)).1, (K (dk_fki x)).2.1, (K (dk_fki x)).2.2.1, (K (dk_fki x)).2.2.2.1, 0, 1, (K (dk_fki x)).2.2.2.2.2.2))) H := up_cast (dk_putU hi_2) hP
                    have hD : va_D (up_c (dkW cK cB cI o ks fa oa fb ob dr ds L n sp co en cr rl qs kA oA kB oB tt ss st K)) (dkW cK cB cI o ks fa oa fb ob dr ds L n sp co en cr rl qs kA oA kB oB tt ss st (va_up K (dk_fki x) ((K (dk_fki x)).1, (K (dk_fki x)).2.1, (K (dk_fki x)).2.2.1, (K (dk_fki x)).2.2.2.1, 0, 1, (K (dk_fki x)).2.2.2.2.2.2))) := up_castD (dk_putU hi_2) hD
                    have hP : va_P (dC, dI) vwCl (dkW cK cB cI o ks fa oa fb ob dr ds L n sp co en cr rl qs kA oA kB oB tt ss st (va_up K (dk_fki x) ((K (dk_fki x)).1, (K (dk_fki x)).2.1, (K (dk_fki x)).2.2.1, (K (dk_fki x)).2.2.2.1, 0, 1, (K (dk_fki x)).2.2.2.2.2.2))) H := hP
                    have hD : va_D (up_c (dkW cK cB cI o ks fa oa fb ob dr ds L n sp co en cr rl qs kA oA kB oB tt ss st K)) (dkW cK cB cI o ks fa oa fb ob dr ds L n sp co en cr rl qs kA oA kB oB tt ss st (va_up K (dk_fki x) ((K (dk_fki x)).1, (K (dk_fki x)).2.1, (K (dk_fki x)).2.2.1, (K (dk_fki x)).2.2.2.1, 0, 1, (K (dk_fki x)).2.2.2.2.2.2))) := hD
                    refine lv_aload hx hb dX3_field_165 (lv_at hl 3 rfl) ?_
                    refine va_get (D := (dC, dI)) (ci := 3) (v := .int 0) (C := RX2) (T := TX2) (N := 7) hx hb hts inn_X3_field_X2 hown hK hP ((dk_fki x) + 8) (dk_keyk hi_2 (va_up_self _ _ _)) rfl 4 (by decide) (hts (.fieldLink RX3 99 "DoorKeys$Key" "near" "Z") (by decide +kernel)) (fun _ h9 => h9) rfl dX3_field_167 ?_
                    refine lv_if_eq (tgt := 190) hx hb dX3_field_170 (by decide) (fun c_170 => ?_) (fun c_170 => absurd c_170 (by decide))
                    refine lv_aload hx hb dX3_field_190 (lv_at hl 3 rfl) ?_
                    refine up_read (W.runV (As := []) (rest := []) ⟨hx, hb, hml, hown, hts⟩ (c_X2_isAtHand l dC dI cK cB cI o ks fa oa fb ob dr ds L n sp co en cr rl qs kA oA kB oB tt ss st (va_up K (dk_fki x) ((K (dk_fki x)).1, (K (dk_fki x)).2.1, (K (dk_fki x)).2.2.1, (K (dk_fki x)).2.2.2.1, 0, 1, (K (dk_fki x)).2.2.2.2.2.2)) (dk_fki x) ((K (dk_fki x)).1, (K (dk_fki x)).2.1, (K (dk_fki x)).2.2.1, (K (dk_fki x)).2.2.2.1, 0, 1, (K (dk_fki x)).2.2.2.2.2.2) hi_2 (va_up_self _ _ _)) (cwV 0 hts gX3_field_X2_isAtHand rfl rfl rfl (by decide +kernel) ⟨Nat.le_of_ble_eq_true rfl, Nat.le_of_ble_eq_true rfl⟩) (up_preV (q0 := ((dk_fki x) + 8)) (ci := 3) hP hK hD rfl (dk_keyk hi_2 (va_up_self _ _ _))) rfl rfl hl.1 rfl (lv_room (Nat.le_of_ble_eq_true rfl)) dX3_field_192 ⟨Nat.le_of_ble_eq_true rfl, Nat.le_of_ble_eq_true rfl⟩) ?_
                    refine lv_if_eq (tgt := 202) hx hb dX3_field_195 (by decide) (fun c_195 => ?_) (fun c_195 => ?_)
                    · refine lv_iconst (v := 0) hx hb dX3_field_202 (by decide) ?_
                      have e_ : dk_field n rl st K x y u w = ((0 : Int32), (va_up K (dk_fki x) ((K (dk_fki x)).1, (K (dk_fki x)).2.1, (K (dk_fki x)).2.2.1, (K (dk_fki x)).2.2.2.1, 0, 1, (K (dk_fki x)).2.2.2.2.2.2)), rl, st) := by unfold dk_field; exact (if_pos hk_2).trans ((if_neg c_21).trans ((if_neg c_32).trans ((if_pos c_39).trans ((if_neg c_51).trans ((if_neg c_86).trans ((if_pos c_118).trans ((if_neg c_143).trans ((if_neg c_154).trans ((if_pos c_195).trans rfl)))))))))
                      rw [e_]
                      exact W.iret (v := 0) hx hb hr (fun t ht hW => ⟨rfl, by rw [ht]; exact hP, hS.F ht⟩) hS.2.2 dX3_field_203
                    · refine lv_iconst (v := 1) hx hb dX3_field_198 (by decide) ?_
                      refine lv_goto (tgt := 203) hx hb dX3_field_199 (by decide) ?_
                      have e_ : dk_field n rl st K x y u w = ((1 : Int32), (va_up K (dk_fki x) ((K (dk_fki x)).1, (K (dk_fki x)).2.1, (K (dk_fki x)).2.2.1, (K (dk_fki x)).2.2.2.1, 0, 1, (K (dk_fki x)).2.2.2.2.2.2)), rl, st) := by unfold dk_field; exact (if_pos hk_2).trans ((if_neg c_21).trans ((if_neg c_32).trans ((if_pos c_39).trans ((if_neg c_51).trans ((if_neg c_86).trans ((if_pos c_118).trans ((if_neg c_143).trans ((if_neg c_154).trans ((if_neg c_195).trans rfl)))))))))
                      rw [e_]
                      exact W.iret (v := 1) hx hb hr (fun t ht hW => ⟨rfl, by rw [ht]; exact hP, hS.F ht⟩) hS.2.2 dX3_field_203
              · refine lv_iconst (v := 1) hx hb dX3_field_121 (by decide) ?_
                refine lv_goto (tgt := 126) hx hb dX3_field_122 (by decide) ?_
                refine va_put (D := (dC, dI)) (ci := 3) (v := .int 1) (ty := .boolean) (C := RX2) (T := TX2) (N := 7) hx hb hts inn_X3_field_X2 tyX2 tyX2_ok nmX2 hown hK hP hD hS ((dk_fki x) + 8) (dk_keyk hi_2 rfl) rfl 4 (by decide) (hts (.fieldLink RX3 99 "DoorKeys$Key" "near" "Z") (by decide +kernel)) (fun _ h9 => h9) rfl (by decide +kernel) rfl rfl (Nat.le_of_ble_eq_true rfl) dX3_field_126 (fun H locs hP hD hS => ?_)
                have hP : va_P (dC, dI) vwCl (dkW cK cB cI o ks fa oa fb ob dr ds L n sp co en cr rl qs kA oA kB oB tt ss st (va_up K (dk_fki x) ((K (dk_fki x)).1, (K (dk_fki x)).2.1, (K (dk_fki x)).2.2.1, (K (dk_fki x)).2.2.2.1, 1, (K (dk_fki x)).2.2.2.2.2.1, (K (dk_fki x)).2.2.2.2.2.2))) H := up_cast (dk_put hi_2) hP
                have hD : va_D (up_c (dkW cK cB cI o ks fa oa fb ob dr ds L n sp co en cr rl qs kA oA kB oB tt ss st K)) (dkW cK cB cI o ks fa oa fb ob dr ds L n sp co en cr rl qs kA oA kB oB tt ss st (va_up K (dk_fki x) ((K (dk_fki x)).1, (K (dk_fki x)).2.1, (K (dk_fki x)).2.2.1, (K (dk_fki x)).2.2.2.1, 1, (K (dk_fki x)).2.2.2.2.2.1, (K (dk_fki x)).2.2.2.2.2.2))) := up_castD (dk_put hi_2) hD
                have hP : va_P (dC, dI) vwCl (dkW cK cB cI o ks fa oa fb ob dr ds L n sp co en cr rl qs kA oA kB oB tt ss st (va_up K (dk_fki x) ((K (dk_fki x)).1, (K (dk_fki x)).2.1, (K (dk_fki x)).2.2.1, (K (dk_fki x)).2.2.2.1, 1, (K (dk_fki x)).2.2.2.2.2.1, (K (dk_fki x)).2.2.2.2.2.2))) H := hP
                have hD : va_D (up_c (dkW cK cB cI o ks fa oa fb ob dr ds L n sp co en cr rl qs kA oA kB oB tt ss st K)) (dkW cK cB cI o ks fa oa fb ob dr ds L n sp co en cr rl qs kA oA kB oB tt ss st (va_up K (dk_fki x) ((K (dk_fki x)).1, (K (dk_fki x)).2.1, (K (dk_fki x)).2.2.1, (K (dk_fki x)).2.2.2.1, 1, (K (dk_fki x)).2.2.2.2.2.1, (K (dk_fki x)).2.2.2.2.2.2))) := hD
                refine lv_aload hx hb dX3_field_129 (lv_at hl 3 rfl) ?_
                refine lv_iload hx hb dX3_field_131 (lv_at hl 1 rfl) ?_
                refine lv_if_eq (tgt := 161) hx hb dX3_field_133 (by decide) (fun c_133 => absurd c_133 (by decide)) (fun c_133 => ?_)
                refine lv_lload_n hx hb dX3_field_136 rfl (lv_at hl 6 rfl) ?_
                refine lv_ldc2 (v := 2000) hx hb hown (hts (.constantLong RX3 111 2000) (by decide +kernel)) dX3_field_137 ?_
                refine up_read (W.runS (As := [.long y, .long 2000]) (rest := [.ref (L (dk_fki x))]) ⟨hx, hb, hml, hown, hts⟩ (c_X3_isWithin l dC dI cK cB cI o ks fa oa fb ob dr ds L n sp co en cr rl qs kA oA kB oB tt ss st (va_up K (dk_fki x) ((K (dk_fki x)).1, (K (dk_fki x)).2.1, (K (dk_fki x)).2.2.1, (K (dk_fki x)).2.2.2.1, 1, (K (dk_fki x)).2.2.2.2.2.1, (K (dk_fki x)).2.2.2.2.2.2)) y 2000) (va_cwS 2 hts gX3_field_X3_isWithin rfl rfl rfl (by decide +kernel) ⟨Nat.le_of_ble_eq_true rfl, Nat.le_of_ble_eq_true rfl⟩) (up_preS hP hK hD) rfl rfl hl.1 rfl (lv_room (Nat.le_of_ble_eq_true rfl)) dX3_field_140 ⟨Nat.le_of_ble_eq_true rfl, Nat.le_of_ble_eq_true rfl⟩) ?_
                refine lv_if_eq (tgt := 161) hx hb dX3_field_143 (by decide) (fun c_143 => ?_) (fun c_143 => ?_)
                · refine lv_iconst (v := 0) hx hb dX3_field_161 (by decide) ?_
                  refine va_put (D := (dC, dI)) (ci := 3) (v := .int 0) (ty := .boolean) (C := RX2) (T := TX2) (N := 7) hx hb hts inn_X3_field_X2 tyX2 tyX2_ok nmX2 hown hK hP hD hS ((dk_fki x) + 8) (dk_keyk hi_2 (va_up_self _ _ _)) rfl 5 (by decide) (hts (.fieldLink RX3 102 "DoorKeys$Key" "inside" "Z") (by decide +kernel)) (fun _ h9 => h9) rfl (by decide +kernel) rfl rfl (Nat.le_of_ble_eq_true rfl) dX3_field_162 (fun H locs hP hD hS => ?_)
                  have hP : va_P (dC, dI) vwCl (dkW cK cB cI o ks fa oa fb ob dr ds L n sp co en cr rl qs kA oA kB oB tt ss st (va_up K (dk_fki x) ((K (dk_fki x)).1, (K (dk_fki x)).2.1, (K (dk_fki x)).2.2.1, (K (dk_fki x)).2.2.2.1, 1, 0, (K (dk_fki x)).2.2.2.2.2.2))) H := up_cast (dk_putU hi_2) hP
                  have hD : va_D (up_c (dkW cK cB cI o ks fa oa fb ob dr ds L n sp co en cr rl qs kA oA kB oB tt ss st K)) (dkW cK cB cI o ks fa oa fb ob dr ds L n sp co en cr rl qs kA oA kB oB tt ss st (va_up K (dk_fki x) ((K (dk_fki x)).1, (K (dk_fki x)).2.1, (K (dk_fki x)).2.2.1, (K (dk_fki x)).2.2.2.1, 1, 0, (K (dk_fki x)).2.2.2.2.2.2))) := up_castD (dk_putU hi_2) hD
                  have hP : va_P (dC, dI) vwCl (dkW cK cB cI o ks fa oa fb ob dr ds L n sp co en cr rl qs kA oA kB oB tt ss st (va_up K (dk_fki x) ((K (dk_fki x)).1, (K (dk_fki x)).2.1, (K (dk_fki x)).2.2.1, (K (dk_fki x)).2.2.2.1, 1, 0, (K (dk_fki x)).2.2.2.2.2.2))) H := hP
                  have hD : va_D (up_c (dkW cK cB cI o ks fa oa fb ob dr ds L n sp co en cr rl qs kA oA kB oB tt ss st K)) (dkW cK cB cI o ks fa oa fb ob dr ds L n sp co en cr rl qs kA oA kB oB tt ss st (va_up K (dk_fki x) ((K (dk_fki x)).1, (K (dk_fki x)).2.1, (K (dk_fki x)).2.2.1, (K (dk_fki x)).2.2.2.1, 1, 0, (K (dk_fki x)).2.2.2.2.2.2))) := hD
                  refine lv_aload hx hb dX3_field_165 (lv_at hl 3 rfl) ?_
                  refine va_get (D := (dC, dI)) (ci := 3) (v := .int 1) (C := RX2) (T := TX2) (N := 7) hx hb hts inn_X3_field_X2 hown hK hP ((dk_fki x) + 8) (dk_keyk hi_2 (va_up_self _ _ _)) rfl 4 (by decide) (hts (.fieldLink RX3 99 "DoorKeys$Key" "near" "Z") (by decide +kernel)) (fun _ h9 => h9) rfl dX3_field_167 ?_
                  refine lv_if_eq (tgt := 190) hx hb dX3_field_170 (by decide) (fun c_170 => absurd c_170 (by decide)) (fun c_170 => ?_)
                  refine lv_aload hx hb dX3_field_173 (lv_at hl 3 rfl) ?_
                  refine va_get (D := (dC, dI)) (ci := 3) (v := .int 0) (C := RX2) (T := TX2) (N := 7) hx hb hts inn_X3_field_X2 hown hK hP ((dk_fki x) + 8) (dk_keyk hi_2 (va_up_self _ _ _)) rfl 5 (by decide) (hts (.fieldLink RX3 102 "DoorKeys$Key" "inside" "Z") (by decide +kernel)) (fun _ h9 => h9) rfl dX3_field_175 ?_
                  refine lv_if_ne (tgt := 190) hx hb dX3_field_178 (by decide) (fun c_178 => absurd c_178 (by decide)) (fun c_178 => ?_)
                  refine lv_aload_n hx hb dX3_field_181 rfl (lv_at hl 4 rfl) ?_
                  refine va_get (D := (dC, dI)) (ci := 4) (v := .ref dr) (C := RX3) (T := TX3) (N := 9) hx hb hts inn_X3_field_X3 hown hK hP 0 rfl rfl 5 (by decide) (hts (.fieldLink RX3 32 "DoorKeys" "doors" "LDoorKeys$Doors;") (by decide +kernel)) (fun _ h9 => h9) rfl dX3_field_182 ?_
                  refine lv_iload hx hb dX3_field_185 (lv_at hl 0 rfl) ?_
                  refine up_call (W.runV (As := [.int (dk_near y u)]) (rest := []) ⟨hx, hb, hml, hown, hts⟩ (c_X0_openOne l dC dI cK cB cI o ks fa oa fb ob dr ds L n sp co en cr rl qs kA oA kB oB tt ss st (va_up K (dk_fki x) ((K (dk_fki x)).1, (K (dk_fki x)).2.1, (K (dk_fki x)).2.2.1, (K (dk_fki x)).2.2.2.1, 1, 0, (K (dk_fki x)).2.2.2.2.2.2)) (dk_near y u)) (cwV 1 hts gX3_field_X0_openOne rfl rfl rfl (by decide +kernel) ⟨Nat.le_of_ble_eq_true rfl, Nat.le_of_ble_eq_true rfl⟩) (up_preV (q0 := 6) (ci := 1) hP hK hD rfl rfl) rfl rfl hl.1 rfl (lv_room (Nat.le_of_ble_eq_true rfl)) dX3_field_187 ⟨Nat.le_of_ble_eq_true rfl, Nat.le_of_ble_eq_true rfl⟩) hD hS ((dk_fst ..).trans (dk_fst ..).symm) (fun H locs hP hD hS _ _ => ?_)
                  have hP : va_P (dC, dI) vwCl (dkW cK cB cI o ks fa oa fb ob dr ds L n sp co en cr rl qs kA oA kB oB tt ss (dk_openOne st (dk_near y u)) (va_up K (dk_fki x) ((K (dk_fki x)).1, (K (dk_fki x)).2.1, (K (dk_fki x)).2.2.1, (K (dk_fki x)).2.2.2.1, 1, 0, (K (dk_fki x)).2.2.2.2.2.2))) H := hP
                  have hD : va_D (up_c (dkW cK cB cI o ks fa oa fb ob dr ds L n sp co en cr rl qs kA oA kB oB tt ss st K)) (dkW cK cB cI o ks fa oa fb ob dr ds L n sp co en cr rl qs kA oA kB oB tt ss (dk_openOne st (dk_near y u)) (va_up K (dk_fki x) ((K (dk_fki x)).1, (K (dk_fki x)).2.1, (K (dk_fki x)).2.2.1, (K (dk_fki x)).2.2.2.1, 1, 0, (K (dk_fki x)).2.2.2.2.2.2))) := hD
                  refine lv_aload hx hb dX3_field_190 (lv_at hl 3 rfl) ?_
                  refine up_read (W.runV (As := []) (rest := []) ⟨hx, hb, hml, hown, hts⟩ (c_X2_isAtHand l dC dI cK cB cI o ks fa oa fb ob dr ds L n sp co en cr rl qs kA oA kB oB tt ss (dk_openOne st (dk_near y u)) (va_up K (dk_fki x) ((K (dk_fki x)).1, (K (dk_fki x)).2.1, (K (dk_fki x)).2.2.1, (K (dk_fki x)).2.2.2.1, 1, 0, (K (dk_fki x)).2.2.2.2.2.2)) (dk_fki x) ((K (dk_fki x)).1, (K (dk_fki x)).2.1, (K (dk_fki x)).2.2.1, (K (dk_fki x)).2.2.2.1, 1, 0, (K (dk_fki x)).2.2.2.2.2.2) hi_2 (va_up_self _ _ _)) (cwV 0 hts gX3_field_X2_isAtHand rfl rfl rfl (by decide +kernel) ⟨Nat.le_of_ble_eq_true rfl, Nat.le_of_ble_eq_true rfl⟩) (up_preV (q0 := ((dk_fki x) + 8)) (ci := 3) hP hK hD rfl (dk_keyk hi_2 (va_up_self _ _ _))) rfl rfl hl.1 rfl (lv_room (Nat.le_of_ble_eq_true rfl)) dX3_field_192 ⟨Nat.le_of_ble_eq_true rfl, Nat.le_of_ble_eq_true rfl⟩) ?_
                  refine lv_if_eq (tgt := 202) hx hb dX3_field_195 (by decide) (fun c_195 => ?_) (fun c_195 => ?_)
                  · refine lv_iconst (v := 0) hx hb dX3_field_202 (by decide) ?_
                    have e_ : dk_field n rl st K x y u w = ((0 : Int32), (va_up K (dk_fki x) ((K (dk_fki x)).1, (K (dk_fki x)).2.1, (K (dk_fki x)).2.2.1, (K (dk_fki x)).2.2.2.1, 1, 0, (K (dk_fki x)).2.2.2.2.2.2)), rl, (dk_openOne st (dk_near y u))) := by unfold dk_field; exact (if_pos hk_2).trans ((if_neg c_21).trans ((if_neg c_32).trans ((if_pos c_39).trans ((if_neg c_51).trans ((if_neg c_86).trans ((if_neg c_118).trans ((if_pos c_143).trans ((if_pos c_195).trans rfl))))))))
                    rw [e_]
                    exact W.iret (v := 0) hx hb hr (fun t ht hW => ⟨rfl, by rw [ht]; exact hP, hS.F ht⟩) hS.2.2 dX3_field_203
                  · refine lv_iconst (v := 1) hx hb dX3_field_198 (by decide) ?_
                    refine lv_goto (tgt := 203) hx hb dX3_field_199 (by decide) ?_
                    have e_ : dk_field n rl st K x y u w = ((1 : Int32), (va_up K (dk_fki x) ((K (dk_fki x)).1, (K (dk_fki x)).2.1, (K (dk_fki x)).2.2.1, (K (dk_fki x)).2.2.2.1, 1, 0, (K (dk_fki x)).2.2.2.2.2.2)), rl, (dk_openOne st (dk_near y u))) := by unfold dk_field; exact (if_pos hk_2).trans ((if_neg c_21).trans ((if_neg c_32).trans ((if_pos c_39).trans ((if_neg c_51).trans ((if_neg c_86).trans ((if_neg c_118).trans ((if_pos c_143).trans ((if_neg c_195).trans rfl))))))))
                    rw [e_]
                    exact W.iret (v := 1) hx hb hr (fun t ht hW => ⟨rfl, by rw [ht]; exact hP, hS.F ht⟩) hS.2.2 dX3_field_203
                · refine lv_lload hx hb dX3_field_146 (lv_at hl 7 rfl) ?_
                  refine lv_ldc2 (v := 800) hx hb hown (hts (.constantLong RX3 120 800) (by decide +kernel)) dX3_field_148 ?_
                  refine up_read (W.runS (As := [.long u, .long 800]) (rest := [.ref (L (dk_fki x))]) ⟨hx, hb, hml, hown, hts⟩ (c_X3_isWithin l dC dI cK cB cI o ks fa oa fb ob dr ds L n sp co en cr rl qs kA oA kB oB tt ss st (va_up K (dk_fki x) ((K (dk_fki x)).1, (K (dk_fki x)).2.1, (K (dk_fki x)).2.2.1, (K (dk_fki x)).2.2.2.1, 1, (K (dk_fki x)).2.2.2.2.2.1, (K (dk_fki x)).2.2.2.2.2.2)) u 800) (va_cwS 2 hts gX3_field_X3_isWithin rfl rfl rfl (by decide +kernel) ⟨Nat.le_of_ble_eq_true rfl, Nat.le_of_ble_eq_true rfl⟩) (up_preS hP hK hD) rfl rfl hl.1 rfl (lv_room (Nat.le_of_ble_eq_true rfl)) dX3_field_151 ⟨Nat.le_of_ble_eq_true rfl, Nat.le_of_ble_eq_true rfl⟩) ?_
                  refine lv_if_eq (tgt := 161) hx hb dX3_field_154 (by decide) (fun c_154 => ?_) (fun c_154 => ?_)
                  · refine lv_iconst (v := 0) hx hb dX3_field_161 (by decide) ?_
                    refine va_put (D := (dC, dI)) (ci := 3) (v := .int 0) (ty := .boolean) (C := RX2) (T := TX2) (N := 7) hx hb hts inn_X3_field_X2 tyX2 tyX2_ok nmX2 hown hK hP hD hS ((dk_fki x) + 8) (dk_keyk hi_2 (va_up_self _ _ _)) rfl 5 (by decide) (hts (.fieldLink RX3 102 "DoorKeys$Key" "inside" "Z") (by decide +kernel)) (fun _ h9 => h9) rfl (by decide +kernel) rfl rfl (Nat.le_of_ble_eq_true rfl) dX3_field_162 (fun H locs hP hD hS => ?_)
                    have hP : va_P (dC, dI) vwCl (dkW cK cB cI o ks fa oa fb ob dr ds L n sp co en cr rl qs kA oA kB oB tt ss st (va_up K (dk_fki x) ((K (dk_fki x)).1, (K (dk_fki x)).2.1, (K (dk_fki x)).2.2.1, (K (dk_fki x)).2.2.2.1, 1, 0, (K (dk_fki x)).2.2.2.2.2.2))) H := up_cast (dk_putU hi_2) hP
                    have hD : va_D (up_c (dkW cK cB cI o ks fa oa fb ob dr ds L n sp co en cr rl qs kA oA kB oB tt ss st K)) (dkW cK cB cI o ks fa oa fb ob dr ds L n sp co en cr rl qs kA oA kB oB tt ss st (va_up K (dk_fki x) ((K (dk_fki x)).1, (K (dk_fki x)).2.1, (K (dk_fki x)).2.2.1, (K (dk_fki x)).2.2.2.1, 1, 0, (K (dk_fki x)).2.2.2.2.2.2))) := up_castD (dk_putU hi_2) hD
                    have hP : va_P (dC, dI) vwCl (dkW cK cB cI o ks fa oa fb ob dr ds L n sp co en cr rl qs kA oA kB oB tt ss st (va_up K (dk_fki x) ((K (dk_fki x)).1, (K (dk_fki x)).2.1, (K (dk_fki x)).2.2.1, (K (dk_fki x)).2.2.2.1, 1, 0, (K (dk_fki x)).2.2.2.2.2.2))) H := hP
                    have hD : va_D (up_c (dkW cK cB cI o ks fa oa fb ob dr ds L n sp co en cr rl qs kA oA kB oB tt ss st K)) (dkW cK cB cI o ks fa oa fb ob dr ds L n sp co en cr rl qs kA oA kB oB tt ss st (va_up K (dk_fki x) ((K (dk_fki x)).1, (K (dk_fki x)).2.1, (K (dk_fki x)).2.2.1, (K (dk_fki x)).2.2.2.1, 1, 0, (K (dk_fki x)).2.2.2.2.2.2))) := hD
                    refine lv_aload hx hb dX3_field_165 (lv_at hl 3 rfl) ?_
                    refine va_get (D := (dC, dI)) (ci := 3) (v := .int 1) (C := RX2) (T := TX2) (N := 7) hx hb hts inn_X3_field_X2 hown hK hP ((dk_fki x) + 8) (dk_keyk hi_2 (va_up_self _ _ _)) rfl 4 (by decide) (hts (.fieldLink RX3 99 "DoorKeys$Key" "near" "Z") (by decide +kernel)) (fun _ h9 => h9) rfl dX3_field_167 ?_
                    refine lv_if_eq (tgt := 190) hx hb dX3_field_170 (by decide) (fun c_170 => absurd c_170 (by decide)) (fun c_170 => ?_)
                    refine lv_aload hx hb dX3_field_173 (lv_at hl 3 rfl) ?_
                    refine va_get (D := (dC, dI)) (ci := 3) (v := .int 0) (C := RX2) (T := TX2) (N := 7) hx hb hts inn_X3_field_X2 hown hK hP ((dk_fki x) + 8) (dk_keyk hi_2 (va_up_self _ _ _)) rfl 5 (by decide) (hts (.fieldLink RX3 102 "DoorKeys$Key" "inside" "Z") (by decide +kernel)) (fun _ h9 => h9) rfl dX3_field_175 ?_
                    refine lv_if_ne (tgt := 190) hx hb dX3_field_178 (by decide) (fun c_178 => absurd c_178 (by decide)) (fun c_178 => ?_)
                    refine lv_aload_n hx hb dX3_field_181 rfl (lv_at hl 4 rfl) ?_
                    refine va_get (D := (dC, dI)) (ci := 4) (v := .ref dr) (C := RX3) (T := TX3) (N := 9) hx hb hts inn_X3_field_X3 hown hK hP 0 rfl rfl 5 (by decide) (hts (.fieldLink RX3 32 "DoorKeys" "doors" "LDoorKeys$Doors;") (by decide +kernel)) (fun _ h9 => h9) rfl dX3_field_182 ?_
                    refine lv_iload hx hb dX3_field_185 (lv_at hl 0 rfl) ?_
                    refine up_call (W.runV (As := [.int (dk_near y u)]) (rest := []) ⟨hx, hb, hml, hown, hts⟩ (c_X0_openOne l dC dI cK cB cI o ks fa oa fb ob dr ds L n sp co en cr rl qs kA oA kB oB tt ss st (va_up K (dk_fki x) ((K (dk_fki x)).1, (K (dk_fki x)).2.1, (K (dk_fki x)).2.2.1, (K (dk_fki x)).2.2.2.1, 1, 0, (K (dk_fki x)).2.2.2.2.2.2)) (dk_near y u)) (cwV 1 hts gX3_field_X0_openOne rfl rfl rfl (by decide +kernel) ⟨Nat.le_of_ble_eq_true rfl, Nat.le_of_ble_eq_true rfl⟩) (up_preV (q0 := 6) (ci := 1) hP hK hD rfl rfl) rfl rfl hl.1 rfl (lv_room (Nat.le_of_ble_eq_true rfl)) dX3_field_187 ⟨Nat.le_of_ble_eq_true rfl, Nat.le_of_ble_eq_true rfl⟩) hD hS ((dk_fst ..).trans (dk_fst ..).symm) (fun H locs hP hD hS _ _ => ?_)
                    have hP : va_P (dC, dI) vwCl (dkW cK cB cI o ks fa oa fb ob dr ds L n sp co en cr rl qs kA oA kB oB tt ss (dk_openOne st (dk_near y u)) (va_up K (dk_fki x) ((K (dk_fki x)).1, (K (dk_fki x)).2.1, (K (dk_fki x)).2.2.1, (K (dk_fki x)).2.2.2.1, 1, 0, (K (dk_fki x)).2.2.2.2.2.2))) H := hP
                    have hD : va_D (up_c (dkW cK cB cI o ks fa oa fb ob dr ds L n sp co en cr rl qs kA oA kB oB tt ss st K)) (dkW cK cB cI o ks fa oa fb ob dr ds L n sp co en cr rl qs kA oA kB oB tt ss (dk_openOne st (dk_near y u)) (va_up K (dk_fki x) ((K (dk_fki x)).1, (K (dk_fki x)).2.1, (K (dk_fki x)).2.2.1, (K (dk_fki x)).2.2.2.1, 1, 0, (K (dk_fki x)).2.2.2.2.2.2))) := hD
                    refine lv_aload hx hb dX3_field_190 (lv_at hl 3 rfl) ?_
                    refine up_read (W.runV (As := []) (rest := []) ⟨hx, hb, hml, hown, hts⟩ (c_X2_isAtHand l dC dI cK cB cI o ks fa oa fb ob dr ds L n sp co en cr rl qs kA oA kB oB tt ss (dk_openOne st (dk_near y u)) (va_up K (dk_fki x) ((K (dk_fki x)).1, (K (dk_fki x)).2.1, (K (dk_fki x)).2.2.1, (K (dk_fki x)).2.2.2.1, 1, 0, (K (dk_fki x)).2.2.2.2.2.2)) (dk_fki x) ((K (dk_fki x)).1, (K (dk_fki x)).2.1, (K (dk_fki x)).2.2.1, (K (dk_fki x)).2.2.2.1, 1, 0, (K (dk_fki x)).2.2.2.2.2.2) hi_2 (va_up_self _ _ _)) (cwV 0 hts gX3_field_X2_isAtHand rfl rfl rfl (by decide +kernel) ⟨Nat.le_of_ble_eq_true rfl, Nat.le_of_ble_eq_true rfl⟩) (up_preV (q0 := ((dk_fki x) + 8)) (ci := 3) hP hK hD rfl (dk_keyk hi_2 (va_up_self _ _ _))) rfl rfl hl.1 rfl (lv_room (Nat.le_of_ble_eq_true rfl)) dX3_field_192 ⟨Nat.le_of_ble_eq_true rfl, Nat.le_of_ble_eq_true rfl⟩) ?_
                    refine lv_if_eq (tgt := 202) hx hb dX3_field_195 (by decide) (fun c_195 => ?_) (fun c_195 => ?_)
                    · refine lv_iconst (v := 0) hx hb dX3_field_202 (by decide) ?_
                      have e_ : dk_field n rl st K x y u w = ((0 : Int32), (va_up K (dk_fki x) ((K (dk_fki x)).1, (K (dk_fki x)).2.1, (K (dk_fki x)).2.2.1, (K (dk_fki x)).2.2.2.1, 1, 0, (K (dk_fki x)).2.2.2.2.2.2)), rl, (dk_openOne st (dk_near y u))) := by unfold dk_field; exact (if_pos hk_2).trans ((if_neg c_21).trans ((if_neg c_32).trans ((if_pos c_39).trans ((if_neg c_51).trans ((if_neg c_86).trans ((if_neg c_118).trans ((if_neg c_143).trans ((if_pos c_154).trans ((if_pos c_195).trans rfl)))))))))
                      rw [e_]
                      exact W.iret (v := 0) hx hb hr (fun t ht hW => ⟨rfl, by rw [ht]; exact hP, hS.F ht⟩) hS.2.2 dX3_field_203
                    · refine lv_iconst (v := 1) hx hb dX3_field_198 (by decide) ?_
                      refine lv_goto (tgt := 203) hx hb dX3_field_199 (by decide) ?_
                      have e_ : dk_field n rl st K x y u w = ((1 : Int32), (va_up K (dk_fki x) ((K (dk_fki x)).1, (K (dk_fki x)).2.1, (K (dk_fki x)).2.2.1, (K (dk_fki x)).2.2.2.1, 1, 0, (K (dk_fki x)).2.2.2.2.2.2)), rl, (dk_openOne st (dk_near y u))) := by unfold dk_field; exact (if_pos hk_2).trans ((if_neg c_21).trans ((if_neg c_32).trans ((if_pos c_39).trans ((if_neg c_51).trans ((if_neg c_86).trans ((if_neg c_118).trans ((if_neg c_143).trans ((if_pos c_154).trans ((if_neg c_195).trans rfl)))))))))
                      rw [e_]
                      exact W.iret (v := 1) hx hb hr (fun t ht hW => ⟨rfl, by rw [ht]; exact hP, hS.F ht⟩) hS.2.2 dX3_field_203
                  · refine lv_iconst (v := 1) hx hb dX3_field_157 (by decide) ?_
                    refine lv_goto (tgt := 162) hx hb dX3_field_158 (by decide) ?_
                    refine va_put (D := (dC, dI)) (ci := 3) (v := .int 1) (ty := .boolean) (C := RX2) (T := TX2) (N := 7) hx hb hts inn_X3_field_X2 tyX2 tyX2_ok nmX2 hown hK hP hD hS ((dk_fki x) + 8) (dk_keyk hi_2 (va_up_self _ _ _)) rfl 5 (by decide) (hts (.fieldLink RX3 102 "DoorKeys$Key" "inside" "Z") (by decide +kernel)) (fun _ h9 => h9) rfl (by decide +kernel) rfl rfl (Nat.le_of_ble_eq_true rfl) dX3_field_162 (fun H locs hP hD hS => ?_)
                    have hP : va_P (dC, dI) vwCl (dkW cK cB cI o ks fa oa fb ob dr ds L n sp co en cr rl qs kA oA kB oB tt ss st (va_up K (dk_fki x) ((K (dk_fki x)).1, (K (dk_fki x)).2.1, (K (dk_fki x)).2.2.1, (K (dk_fki x)).2.2.2.1, 1, 1, (K (dk_fki x)).2.2.2.2.2.2))) H := up_cast (dk_putU hi_2) hP
                    have hD : va_D (up_c (dkW cK cB cI o ks fa oa fb ob dr ds L n sp co en cr rl qs kA oA kB oB tt ss st K)) (dkW cK cB cI o ks fa oa fb ob dr ds L n sp co en cr rl qs kA oA kB oB tt ss st (va_up K (dk_fki x) ((K (dk_fki x)).1, (K (dk_fki x)).2.1, (K (dk_fki x)).2.2.1, (K (dk_fki x)).2.2.2.1, 1, 1, (K (dk_fki x)).2.2.2.2.2.2))) := up_castD (dk_putU hi_2) hD
                    have hP : va_P (dC, dI) vwCl (dkW cK cB cI o ks fa oa fb ob dr ds L n sp co en cr rl qs kA oA kB oB tt ss st (va_up K (dk_fki x) ((K (dk_fki x)).1, (K (dk_fki x)).2.1, (K (dk_fki x)).2.2.1, (K (dk_fki x)).2.2.2.1, 1, 1, (K (dk_fki x)).2.2.2.2.2.2))) H := hP
                    have hD : va_D (up_c (dkW cK cB cI o ks fa oa fb ob dr ds L n sp co en cr rl qs kA oA kB oB tt ss st K)) (dkW cK cB cI o ks fa oa fb ob dr ds L n sp co en cr rl qs kA oA kB oB tt ss st (va_up K (dk_fki x) ((K (dk_fki x)).1, (K (dk_fki x)).2.1, (K (dk_fki x)).2.2.1, (K (dk_fki x)).2.2.2.1, 1, 1, (K (dk_fki x)).2.2.2.2.2.2))) := hD
                    refine lv_aload hx hb dX3_field_165 (lv_at hl 3 rfl) ?_
                    refine va_get (D := (dC, dI)) (ci := 3) (v := .int 1) (C := RX2) (T := TX2) (N := 7) hx hb hts inn_X3_field_X2 hown hK hP ((dk_fki x) + 8) (dk_keyk hi_2 (va_up_self _ _ _)) rfl 4 (by decide) (hts (.fieldLink RX3 99 "DoorKeys$Key" "near" "Z") (by decide +kernel)) (fun _ h9 => h9) rfl dX3_field_167 ?_
                    refine lv_if_eq (tgt := 190) hx hb dX3_field_170 (by decide) (fun c_170 => absurd c_170 (by decide)) (fun c_170 => ?_)
                    refine lv_aload hx hb dX3_field_173 (lv_at hl 3 rfl) ?_
                    refine va_get (D := (dC, dI)) (ci := 3) (v := .int 1) (C := RX2) (T := TX2) (N := 7) hx hb hts inn_X3_field_X2 hown hK hP ((dk_fki x) + 8) (dk_keyk hi_2 (va_up_self _ _ _)) rfl 5 (by decide) (hts (.fieldLink RX3 102 "DoorKeys$Key" "inside" "Z") (by decide +kernel)) (fun _ h9 => h9) rfl dX3_field_175 ?_
                    refine lv_if_ne (tgt := 190) hx hb dX3_field_178 (by decide) (fun c_178 => ?_) (fun c_178 => absurd c_178 (by decide))
                    refine lv_aload hx hb dX3_field_190 (lv_at hl 3 rfl) ?_
                    refine up_read (W.runV (As := []) (rest := []) ⟨hx, hb, hml, hown, hts⟩ (c_X2_isAtHand l dC dI cK cB cI o ks fa oa fb ob dr ds L n sp co en cr rl qs kA oA kB oB tt ss st (va_up K (dk_fki x) ((K (dk_fki x)).1, (K (dk_fki x)).2.1, (K (dk_fki x)).2.2.1, (K (dk_fki x)).2.2.2.1, 1, 1, (K (dk_fki x)).2.2.2.2.2.2)) (dk_fki x) ((K (dk_fki x)).1, (K (dk_fki x)).2.1, (K (dk_fki x)).2.2.1, (K (dk_fki x)).2.2.2.1, 1, 1, (K (dk_fki x)).2.2.2.2.2.2) hi_2 (va_up_self _ _ _)) (cwV 0 hts gX3_field_X2_isAtHand rfl rfl rfl (by decide +kernel) ⟨Nat.le_of_ble_eq_true rfl, Nat.le_of_ble_eq_true rfl⟩) (up_preV (q0 := ((dk_fki x) + 8)) (ci := 3) hP hK hD rfl (dk_keyk hi_2 (va_up_self _ _ _))) rfl rfl hl.1 rfl (lv_room (Nat.le_of_ble_eq_true rfl)) dX3_field_192 ⟨Nat.le_of_ble_eq_true rfl, Nat.le_of_ble_eq_true rfl⟩) ?_
                    refine lv_if_eq (tgt := 202) hx hb dX3_field_195 (by decide) (fun c_195 => ?_) (fun c_195 => ?_)
                    · refine lv_iconst (v := 0) hx hb dX3_field_202 (by decide) ?_
                      have e_ : dk_field n rl st K x y u w = ((0 : Int32), (va_up K (dk_fki x) ((K (dk_fki x)).1, (K (dk_fki x)).2.1, (K (dk_fki x)).2.2.1, (K (dk_fki x)).2.2.2.1, 1, 1, (K (dk_fki x)).2.2.2.2.2.2)), rl, st) := by unfold dk_field; exact (if_pos hk_2).trans ((if_neg c_21).trans ((if_neg c_32).trans ((if_pos c_39).trans ((if_neg c_51).trans ((if_neg c_86).trans ((if_neg c_118).trans ((if_neg c_143).trans ((if_neg c_154).trans ((if_pos c_195).trans rfl)))))))))
                      rw [e_]
                      exact W.iret (v := 0) hx hb hr (fun t ht hW => ⟨rfl, by rw [ht]; exact hP, hS.F ht⟩) hS.2.2 dX3_field_203
                    · refine lv_iconst (v := 1) hx hb dX3_field_198 (by decide) ?_
                      refine lv_goto (tgt := 203) hx hb dX3_field_199 (by decide) ?_
                      have e_ : dk_field n rl st K x y u w = ((1 : Int32), (va_up K (dk_fki x) ((K (dk_fki x)).1, (K (dk_fki x)).2.1, (K (dk_fki x)).2.2.1, (K (dk_fki x)).2.2.2.1, 1, 1, (K (dk_fki x)).2.2.2.2.2.2)), rl, st) := by unfold dk_field; exact (if_pos hk_2).trans ((if_neg c_21).trans ((if_neg c_32).trans ((if_pos c_39).trans ((if_neg c_51).trans ((if_neg c_86).trans ((if_neg c_118).trans ((if_neg c_143).trans ((if_neg c_154).trans ((if_neg c_195).trans rfl)))))))))
                      rw [e_]
                      exact W.iret (v := 1) hx hb hr (fun t ht hW => ⟨rfl, by rw [ht]; exact hP, hS.F ht⟩) hS.2.2 dX3_field_203
        · refine lv_bipush (v := (-2)) hx hb dX3_field_42 (by decide) ?_
          have e_ : dk_field n rl st K x y u w = (((-2) : Int32), K, rl, st) := by unfold dk_field; exact (if_pos hk_2).trans ((if_neg c_21).trans ((if_neg c_32).trans ((if_neg c_39).trans rfl)))
          rw [e_]
          exact W.iret (v := (-2)) hx hb hr (fun t ht hW => ⟨rfl, by rw [ht]; exact hP, hS.F ht⟩) hS.2.2 dX3_field_44
  · refine up_read (W.runV (As := [.int x]) (rest := []) ⟨hx, hb, hml, hown, hts⟩ (c_X3_findN l dC dI cK cB cI o ks fa oa fb ob dr ds L n sp co en cr rl qs kA oA kB oB tt ss st K x hn hk_2) (cwV 1 hts gX3_field_X3_find rfl rfl rfl (by decide +kernel) ⟨Nat.le_of_ble_eq_true rfl, Nat.le_of_ble_eq_true rfl⟩) (up_preV (q0 := 0) (ci := 4) hP hK hD rfl rfl) rfl rfl hl.1 rfl (lv_room (Nat.le_of_ble_eq_true rfl)) dX3_field_2 ⟨Nat.le_of_ble_eq_true rfl, Nat.le_of_ble_eq_true rfl⟩) ?_
    refine lv_astoreN (lv' := [(8, .null), (0, .ref o), (1, .int x), (2, .long y), (4, .long u), (6, .long w)]) hx hb dX3_field_5 hl (by decide) rfl (fun ls hl => ?_)
    refine lv_aloadN hx hb dX3_field_7 (lv_at hl 0 rfl) ?_
    refine lv_ifnonnullN hx hb dX3_field_9 ?_
    refine lv_iconst (v := (-1)) hx hb dX3_field_12 (by decide) ?_
    have e_ : dk_field n rl st K x y u w = (((-1) : Int32), K, rl, st) := by unfold dk_field; exact (if_neg hk_2).trans rfl
    rw [e_]
    exact W.iret (v := (-1)) hx hb hr (fun t ht hW => ⟨rfl, by rw [ht]; exact hP, hS.F ht⟩) hS.2.2 dX3_field_13
