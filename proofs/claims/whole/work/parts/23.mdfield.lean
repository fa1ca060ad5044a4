/-! the reference, field (laid by wip/md.py) -/
set_option maxRecDepth 20000 in
theorem inn_X4_field_X4 : ∀ w ∈ wsX40, w ∈ wsX4_field := by decide +kernel
def md_field_l (le : Nat → Int32) (ne : Nat → Int32) (ins : Nat → Int32) (dd : Nat → Int32) (nw : Int64) (cs : Int64) (x : Int32) (y : Int64) (u : Int64) (v : Int32) (rl_ : Int32) : Nat → Nat → Nat → Int32 × Int32 × (Nat → Int32) × (Nat → Int32) × (Nat → Int32) × Int64
  | 0, _, b =>
    if (le x.toNatClampNeg) = 0 then
      if ((upd ne x.toNatClampNeg 0) x.toNatClampNeg) = 0 then
        if ((upd ins x.toNatClampNeg 0) x.toNatClampNeg) = 0 then
          ((0 : Int32), rl_, (upd ne x.toNatClampNeg 0), (upd ins x.toNatClampNeg 0), dd, cs)
        else
          ((1 : Int32), rl_, (upd ne x.toNatClampNeg 0), (upd ins x.toNatClampNeg 0), dd, cs)
      else
        if ((upd ins x.toNatClampNeg 0) x.toNatClampNeg) = 0 then
          ((1 : Int32), rl_, (upd ne x.toNatClampNeg 0), (upd ins x.toNatClampNeg 0), (md_turn dd nw cs b (b + 1) 3 0).2.1, (md_turn dd nw cs b (b + 1) 3 0).2.2)
        else
          ((1 : Int32), rl_, (upd ne x.toNatClampNeg 0), (upd ins x.toNatClampNeg 0), dd, cs)
    else
      if v = 0 then
        if 0 < (lg_cmp (md_far (nI b) y u) 2250000) then
          if (lg_cmp y (-2000)) < 0 then
            if ((upd ne x.toNatClampNeg 0) x.toNatClampNeg) = 0 then
              if ((upd ins x.toNatClampNeg 0) x.toNatClampNeg) = 0 then
                ((0 : Int32), rl_, (upd ne x.toNatClampNeg 0), (upd ins x.toNatClampNeg 0), dd, cs)
              else
                ((1 : Int32), rl_, (upd ne x.toNatClampNeg 0), (upd ins x.toNatClampNeg 0), dd, cs)
            else
              if ((upd ins x.toNatClampNeg 0) x.toNatClampNeg) = 0 then
                ((1 : Int32), rl_, (upd ne x.toNatClampNeg 0), (upd ins x.toNatClampNeg 0), (md_turn dd nw cs b (b + 1) 3 0).2.1, (md_turn dd nw cs b (b + 1) 3 0).2.2)
              else
                ((1 : Int32), rl_, (upd ne x.toNatClampNeg 0), (upd ins x.toNatClampNeg 0), dd, cs)
          else
            if 0 < (lg_cmp y 2000) then
              if ((upd ne x.toNatClampNeg 0) x.toNatClampNeg) = 0 then
                if ((upd ins x.toNatClampNeg 0) x.toNatClampNeg) = 0 then
                  ((0 : Int32), rl_, (upd ne x.toNatClampNeg 0), (upd ins x.toNatClampNeg 0), dd, cs)
                else
                  ((1 : Int32), rl_, (upd ne x.toNatClampNeg 0), (upd ins x.toNatClampNeg 0), dd, cs)
              else
                if ((upd ins x.toNatClampNeg 0) x.toNatClampNeg) = 0 then
                  ((1 : Int32), rl_, (upd ne x.toNatClampNeg 0), (upd ins x.toNatClampNeg 0), (md_turn dd nw cs b (b + 1) 3 0).2.1, (md_turn dd nw cs b (b + 1) 3 0).2.2)
                else
                  ((1 : Int32), rl_, (upd ne x.toNatClampNeg 0), (upd ins x.toNatClampNeg 0), dd, cs)
            else
              if (lg_cmp u (-800)) < 0 then
                if ((upd ne x.toNatClampNeg 0) x.toNatClampNeg) = 0 then
                  if ((upd ins x.toNatClampNeg 0) x.toNatClampNeg) = 0 then
                    ((0 : Int32), rl_, (upd ne x.toNatClampNeg 0), (upd ins x.toNatClampNeg 0), dd, cs)
                  else
                    ((1 : Int32), rl_, (upd ne x.toNatClampNeg 0), (upd ins x.toNatClampNeg 0), dd, cs)
                else
                  if ((upd ins x.toNatClampNeg 0) x.toNatClampNeg) = 0 then
                    ((1 : Int32), rl_, (upd ne x.toNatClampNeg 0), (upd ins x.toNatClampNeg 0), (md_turn dd nw cs b (b + 1) 3 0).2.1, (md_turn dd nw cs b (b + 1) 3 0).2.2)
                  else
                    ((1 : Int32), rl_, (upd ne x.toNatClampNeg 0), (upd ins x.toNatClampNeg 0), dd, cs)
              else
                if 0 < (lg_cmp u 800) then
                  if ((upd ne x.toNatClampNeg 0) x.toNatClampNeg) = 0 then
                    if ((upd ins x.toNatClampNeg 0) x.toNatClampNeg) = 0 then
                      ((0 : Int32), rl_, (upd ne x.toNatClampNeg 0), (upd ins x.toNatClampNeg 0), dd, cs)
                    else
                      ((1 : Int32), rl_, (upd ne x.toNatClampNeg 0), (upd ins x.toNatClampNeg 0), dd, cs)
                  else
                    if ((upd ins x.toNatClampNeg 0) x.toNatClampNeg) = 0 then
                      ((1 : Int32), rl_, (upd ne x.toNatClampNeg 0), (upd ins x.toNatClampNeg 0), (md_turn dd nw cs b (b + 1) 3 0).2.1, (md_turn dd nw cs b (b + 1) 3 0).2.2)
                    else
                      ((1 : Int32), rl_, (upd ne x.toNatClampNeg 0), (upd ins x.toNatClampNeg 0), dd, cs)
                else
                  if ((upd ne x.toNatClampNeg 0) x.toNatClampNeg) = 0 then
                    if ((upd ins x.toNatClampNeg 1) x.toNatClampNeg) = 0 then
                      ((0 : Int32), rl_, (upd ne x.toNatClampNeg 0), (upd ins x.toNatClampNeg 1), dd, cs)
                    else
                      ((1 : Int32), rl_, (upd ne x.toNatClampNeg 0), (upd ins x.toNatClampNeg 1), dd, cs)
                  else
                    if ((upd ins x.toNatClampNeg 1) x.toNatClampNeg) = 0 then
                      ((1 : Int32), rl_, (upd ne x.toNatClampNeg 0), (upd ins x.toNatClampNeg 1), (md_turn dd nw cs b (b + 1) 3 0).2.1, (md_turn dd nw cs b (b + 1) 3 0).2.2)
                    else
                      ((1 : Int32), rl_, (upd ne x.toNatClampNeg 0), (upd ins x.toNatClampNeg 1), dd, cs)
        else
          if (lg_cmp y (-2000)) < 0 then
            if ((upd ne x.toNatClampNeg 1) x.toNatClampNeg) = 0 then
              if ((upd ins x.toNatClampNeg 0) x.toNatClampNeg) = 0 then
                ((0 : Int32), rl_, (upd ne x.toNatClampNeg 1), (upd ins x.toNatClampNeg 0), dd, cs)
              else
                ((1 : Int32), rl_, (upd ne x.toNatClampNeg 1), (upd ins x.toNatClampNeg 0), dd, cs)
            else
              if ((upd ins x.toNatClampNeg 0) x.toNatClampNeg) = 0 then
                ((1 : Int32), rl_, (upd ne x.toNatClampNeg 1), (upd ins x.toNatClampNeg 0), (md_turn dd nw cs b (b + 1) 3 0).2.1, (md_turn dd nw cs b (b + 1) 3 0).2.2)
              else
                ((1 : Int32), rl_, (upd ne x.toNatClampNeg 1), (upd ins x.toNatClampNeg 0), dd, cs)
          else
            if 0 < (lg_cmp y 2000) then
              if ((upd ne x.toNatClampNeg 1) x.toNatClampNeg) = 0 then
                if ((upd ins x.toNatClampNeg 0) x.toNatClampNeg) = 0 then
                  ((0 : Int32), rl_, (upd ne x.toNatClampNeg 1), (upd ins x.toNatClampNeg 0), dd, cs)
                else
                  ((1 : Int32), rl_, (upd ne x.toNatClampNeg 1), (upd ins x.toNatClampNeg 0), dd, cs)
              else
                if ((upd ins x.toNatClampNeg 0) x.toNatClampNeg) = 0 then
                  ((1 : Int32), rl_, (upd ne x.toNatClampNeg 1), (upd ins x.toNatClampNeg 0), (md_turn dd nw cs b (b + 1) 3 0).2.1, (md_turn dd nw cs b (b + 1) 3 0).2.2)
                else
                  ((1 : Int32), rl_, (upd ne x.toNatClampNeg 1), (upd ins x.toNatClampNeg 0), dd, cs)
            else
              if (lg_cmp u (-800)) < 0 then
                if ((upd ne x.toNatClampNeg 1) x.toNatClampNeg) = 0 then
                  if ((upd ins x.toNatClampNeg 0) x.toNatClampNeg) = 0 then
                    ((0 : Int32), rl_, (upd ne x.toNatClampNeg 1), (upd ins x.toNatClampNeg 0), dd, cs)
                  else
                    ((1 : Int32), rl_, (upd ne x.toNatClampNeg 1), (upd ins x.toNatClampNeg 0), dd, cs)
                else
                  if ((upd ins x.toNatClampNeg 0) x.toNatClampNeg) = 0 then
                    ((1 : Int32), rl_, (upd ne x.toNatClampNeg 1), (upd ins x.toNatClampNeg 0), (md_turn dd nw cs b (b + 1) 3 0).2.1, (md_turn dd nw cs b (b + 1) 3 0).2.2)
                  else
                    ((1 : Int32), rl_, (upd ne x.toNatClampNeg 1), (upd ins x.toNatClampNeg 0), dd, cs)
              else
                if 0 < (lg_cmp u 800) then
                  if ((upd ne x.toNatClampNeg 1) x.toNatClampNeg) = 0 then
                    if ((upd ins x.toNatClampNeg 0) x.toNatClampNeg) = 0 then
                      ((0 : Int32), rl_, (upd ne x.toNatClampNeg 1), (upd ins x.toNatClampNeg 0), dd, cs)
                    else
                      ((1 : Int32), rl_, (upd ne x.toNatClampNeg 1), (upd ins x.toNatClampNeg 0), dd, cs)
                  else
                    if ((upd ins x.toNatClampNeg 0) x.toNatClampNeg) = 0 then
                      ((1 : Int32), rl_, (upd ne x.toNatClampNeg 1), (upd ins x.toNatClampNeg 0), (md_turn dd nw cs b (b + 1) 3 0).2.1, (md_turn dd nw cs b (b + 1) 3 0).2.2)
                    else
                      ((1 : Int32), rl_, (upd ne x.toNatClampNeg 1), (upd ins x.toNatClampNeg 0), dd, cs)
                else
                  if ((upd ne x.toNatClampNeg 1) x.toNatClampNeg) = 0 then
                    if ((upd ins x.toNatClampNeg 1) x.toNatClampNeg) = 0 then
                      ((0 : Int32), rl_, (upd ne x.toNatClampNeg 1), (upd ins x.toNatClampNeg 1), dd, cs)
                    else
                      ((1 : Int32), rl_, (upd ne x.toNatClampNeg 1), (upd ins x.toNatClampNeg 1), dd, cs)
                  else
                    if ((upd ins x.toNatClampNeg 1) x.toNatClampNeg) = 0 then
                      ((1 : Int32), rl_, (upd ne x.toNatClampNeg 1), (upd ins x.toNatClampNeg 1), (md_turn dd nw cs b (b + 1) 3 0).2.1, (md_turn dd nw cs b (b + 1) 3 0).2.2)
                    else
                      ((1 : Int32), rl_, (upd ne x.toNatClampNeg 1), (upd ins x.toNatClampNeg 1), dd, cs)
      else
        if ((upd ne x.toNatClampNeg 0) x.toNatClampNeg) = 0 then
          if ((upd ins x.toNatClampNeg 0) x.toNatClampNeg) = 0 then
            ((0 : Int32), rl_, (upd ne x.toNatClampNeg 0), (upd ins x.toNatClampNeg 0), dd, cs)
          else
            ((1 : Int32), rl_, (upd ne x.toNatClampNeg 0), (upd ins x.toNatClampNeg 0), dd, cs)
        else
          if ((upd ins x.toNatClampNeg 0) x.toNatClampNeg) = 0 then
            ((1 : Int32), rl_, (upd ne x.toNatClampNeg 0), (upd ins x.toNatClampNeg 0), (md_turn dd nw cs b (b + 1) 3 0).2.1, (md_turn dd nw cs b (b + 1) 3 0).2.2)
          else
            ((1 : Int32), rl_, (upd ne x.toNatClampNeg 0), (upd ins x.toNatClampNeg 0), dd, cs)
  | r + 1, j, b =>
    if 0 ≤ (lg_cmp (md_far (nI (j + 1)) y u) (md_far (nI b) y u)) then
      md_field_l le ne ins dd nw cs x y u v rl_ r (j + 1) b
    else
      md_field_l le ne ins dd nw cs x y u v rl_ r (j + 1) (j + 1)
def md_field_c (le : Nat → Int32) (ne : Nat → Int32) (ins : Nat → Int32) (dd : Nat → Int32) (nw : Int64) (cs : Int64) (x : Int32) (y : Int64) (u : Int64) (v : Int32) (rl_ : Int32) : Int32 × Int32 × (Nat → Int32) × (Nat → Int32) × (Nat → Int32) × Int64 :=
  md_field_l le ne ins dd nw cs x y u v rl_ 4 0 0
def md_field (n : Nat) (le : Nat → Int32) (ne : Nat → Int32) (ins : Nat → Int32) (dd : Nat → Int32) (nw : Int64) (cs : Int64) (rl : Int32) (x : Int32) (y : Int64) (u : Int64) (w : Int64) : Int32 × Int32 × (Nat → Int32) × (Nat → Int32) × (Nat → Int32) × Int64 :=
  if md_none n x = 0 then
    if (lg_cmp y (-1000000)) < 0 then
      (((-2) : Int32), rl, ne, ins, dd, cs)
    else
      if 0 < (lg_cmp y 1000000) then
        (((-2) : Int32), rl, ne, ins, dd, cs)
      else
        if (lg_cmp u (-1000000)) < 0 then
          (((-2) : Int32), rl, ne, ins, dd, cs)
        else
          if 0 < (lg_cmp u 1000000) then
            (((-2) : Int32), rl, ne, ins, dd, cs)
          else
            if 0 ≤ (lg_cmp w 1) then
              if (lg_cmp w 2000) ≤ 0 then
                md_field_c le ne ins dd nw cs x y u 0 rl
              else
                md_field_c le ne ins dd nw cs x y u 1 (rl + 1)
            else
              (((-2) : Int32), rl, ne, ins, dd, cs)
  else
    (((-1) : Int32), rl, ne, ins, dd, cs)
def rm_X4_field : Room := { frames := 2, cells := 0, slots := 0, locals := 50 }
set_option maxHeartbeats 4000000 in
set_option maxRecDepth 100000 in
theorem c_X4_field (l : Launch) (dC : Nat → ClassId) (dI : Nat → Nat → Nat) (cI : ClassId) (cJ : ClassId) (cZ : ClassId) (q : Nat) (aS : Nat) (aC : Nat) (aW : Nat) (aL : Nat) (aN : Nat) (aI : Nat) (aB : Nat) (aD : Nat) (aU : Nat) (aF : Nat) (n : Nat) (gv : Nat) (sz : Nat) (cd : Int32) (sp : Int32) (se : Nat → Int64) (ct : Nat → Int32) (aw : Nat → Int32) (le : Nat → Int32) (ne : Nat → Int32) (ins : Nat → Int32) (ba : Nat → Int32) (dd : Nat → Int32) (cr : Int32) (nw : Int64) (cs : Int64) (un : Nat → Int32) (fr : Nat → Int32) (rl : Int32) (qs : Int32) (x : Int32) (y : Int64) (u : Int64) (w : Int64) (hn : n ≤ 8) : Met l yX4_field wsX4_field rm_X4_field (up_P (dC, dI) vwCl (mdT cI cJ cZ) (mdW cI cJ cZ q aS aC aW aL aN aI aB aD aU aF n gv sz cd sp se ct aw le ne ins ba dd cr nw cs un fr rl qs) [.ref q, .int x, .long y, .long u, .long w]) (up_Q (dC, dI) vwCl (some (.int ((md_field n le ne ins dd nw cs rl x y u w).1))) (mdW cI cJ cZ q aS aC aW aL aN aI aB aD aU aF n gv sz cd sp se ct aw le ne ins ba dd cr nw cs un fr rl qs) (mdW cI cJ cZ q aS aC aW aL aN aI aB aD aU aF n gv sz 0 sp se ct aw le ((md_field n le ne ins dd nw cs rl x y u w).2.2.1) ((md_field n le ne ins dd nw cs rl x y u w).2.2.2.1) ba ((md_field n le ne ins dd nw cs rl x y u w).2.2.2.2.1) cr nw ((md_field n le ne ins dd nw cs rl x y u w).2.2.2.2.2) un fr ((md_field n le ne ins dd nw cs rl x y u w).2.1) qs)) 0 0 (up_c (mdW cI cJ cZ q aS aC aW aL aN aI aB aD aU aF n gv sz cd sp se ct aw le ne ins ba dd cr nw cs un fr rl qs)) := by
  refine Met.ofW (cc := cX4_field) (maxL := 12) (ret := (some .int)) (by decide) rfl ?_
  intro p e s m args below meth c s₁ B hml hv
  obtain ⟨rfl, hP, hK, hD0⟩ := hv
  have hx := B.exec
  have hb := B.bytes
  have hr := B.returns
  have hts := atoms_spec (ws := wsX4_field) B.pre
  have hown : s.vm.findClass RX4 = some m.cls := findClass_of_methodNamed B.named
  have hlocks := B.notSynchronized
  have hD := up_self hD0
  have hS : va_S (up_c (mdW cI cJ cZ q aS aC aW aL aN aI aB aD aU aF n gv sz cd sp se ct aw le ne ins ba dd cr nw cs un fr rl qs)) s.heap s.heap [] := va_S.rf
  have hl := lv_entry ([.ref q, .int x, .long y, .long u, .long w]) (n := 12) (Nat.le_of_ble_eq_true rfl)
  rw [lg_entry_eq]
  generalize (lg_sl ([.ref q, .int x, .long y, .long u, .long w]) ++ List.replicate (12 - (lg_sl ([.ref q, .int x, .long y, .long u, .long w])).length) Slot.unset).toArray = ls at hl ⊢
  have hl : lv_has ls 12 [(0, .ref q), (1, .int x), (2, .long y), (4, .long u), (6, .long w)] := hl
  refine lv_aload_n hx hb dX4_field_0 rfl (lv_at hl 0 rfl) ?_
  refine lv_iload_n hx hb dX4_field_1 rfl (lv_at hl 1 rfl) ?_
  refine up_call (W.runV (As := [.int x]) (rest := []) ⟨hx, hb, hml, hown, hts⟩ (c_X4_none l dC dI cI cJ cZ q aS aC aW aL aN aI aB aD aU aF n gv sz cd sp se ct aw le ne ins ba dd cr nw cs un fr rl qs x) (cwV 1 hts gX4_field_X4_none rfl rfl rfl (by decide +kernel) ⟨Nat.le_of_ble_eq_true rfl, Nat.le_of_ble_eq_true rfl⟩) (up_preV (q0 := 0) (ci := 5) hP hK hD rfl rfl) rfl rfl hl.1 rfl (lv_room (Nat.le_of_ble_eq_true rfl)) dX4_field_2 ⟨Nat.le_of_ble_eq_true rfl, Nat.le_of_ble_eq_true rfl⟩) hD hS ((md_fst ..).trans (md_fst ..).symm) (fun H locs hP hD hS _ _ => ?_)
  have hP : va_P (dC, dI) vwCl (mdW cI cJ cZ q aS aC aW aL aN aI aB aD aU aF n gv sz 0 sp se ct aw le ne ins ba dd cr nw cs un fr rl qs) H := hP
  have hD : va_D (up_c (mdW cI cJ cZ q aS aC aW aL aN aI aB aD aU aF n gv sz cd sp se ct aw le ne ins ba dd cr nw cs un fr rl qs)) (mdW cI cJ cZ q aS aC aW aL aN aI aB aD aU aF n gv sz 0 sp se ct aw le ne ins ba dd cr nw cs un fr rl qs) := hD
  refine lv_if_eq (tgt := 10) hx hb dX4_field_5 (by decide) (fun c_5 => ?_) (fun c_5 => ?_)
  · refine lv_lload_n hx hb dX4_field_10 rfl (lv_at hl 2 rfl) ?_
    refine lv_ldc2 (v := (-1000000)) hx hb hown (hts (.constantLong RX4 117 (-1000000)) (by decide +kernel)) dX4_field_11 ?_
    refine W.lcmp hx hb dX4_field_14 ?_
    refine lv_if_lt (tgt := 51) hx hb dX4_field_15 (by decide) (fun c_15 => ?_) (fun c_15 => ?_)
    · refine lv_bipush (v := (-2)) hx hb dX4_field_51 (by decide) ?_
      have e_ : md_field n le ne ins dd nw cs rl x y u w = (((-2) : Int32), rl, ne, ins, dd, cs) := by unfold md_field; exact (if_pos c_5).trans ((if_pos c_15).trans rfl)
      rw [e_]
      exact W.iret (v := (-2)) hx hb hr (fun t ht hW => ⟨rfl, by rw [ht]; exact hP, hS.F ht⟩) hS.2.2 dX4_field_53
    · refine lv_lload_n hx hb dX4_field_18 rfl (lv_at hl 2 rfl) ?_
      refine lv_ldc2 (v := 1000000) hx hb hown (hts (.constantLong RX4 119 1000000) (by decide +kernel)) dX4_field_19 ?_
      refine W.lcmp hx hb dX4_field_22 ?_
      refine lv_if_gt (tgt := 51) hx hb dX4_field_23 (by decide) (fun c_23 => ?_) (fun c_23 => ?_)
      · refine lv_bipush (v := (-2)) hx hb dX4_field_51 (by decide) ?_
        have e_ : md_field n le ne ins dd nw cs rl x y u w = (((-2) : Int32), rl, ne, ins, dd, cs) := by unfold md_field; exact (if_pos c_5).trans ((if_neg c_15).trans ((if_pos c_23).trans rfl))
        rw [e_]
        exact W.iret (v := (-2)) hx hb hr (fun t ht hW => ⟨rfl, by rw [ht]; exact hP, hS.F ht⟩) hS.2.2 dX4_field_53
      · refine lv_lload hx hb dX4_field_26 (lv_at hl 3 rfl) ?_
        refine lv_ldc2 (v := (-1000000)) hx hb hown (hts (.constantLong RX4 117 (-1000000)) (by decide +kernel)) dX4_field_28 ?_
        refine W.lcmp hx hb dX4_field_31 ?_
        refine lv_if_lt (tgt := 51) hx hb dX4_field_32 (by decide) (fun c_32 => ?_) (fun c_32 => ?_)
        · refine lv_bipush (v := (-2)) hx hb dX4_field_51 (by decide) ?_
          have e_ : md_field n le ne ins dd nw cs rl x y u w = (((-2) : Int32), rl, ne, ins, dd, cs) := by unfold md_field; exact (if_pos c_5).trans ((if_neg c_15).trans ((if_neg c_23).trans ((if_pos c_32).trans rfl)))
          rw [e_]
          exact W.iret (v := (-2)) hx hb hr (fun t ht hW => ⟨rfl, by rw [ht]; exact hP, hS.F ht⟩) hS.2.2 dX4_field_53
        · refine lv_lload hx hb dX4_field_35 (lv_at hl 3 rfl) ?_
          refine lv_ldc2 (v := 1000000) hx hb hown (hts (.constantLong RX4 119 1000000) (by decide +kernel)) dX4_field_37 ?_
          refine W.lcmp hx hb dX4_field_40 ?_
          refine lv_if_gt (tgt := 51) hx hb dX4_field_41 (by decide) (fun c_41 => ?_) (fun c_41 => ?_)
          · refine lv_bipush (v := (-2)) hx hb dX4_field_51 (by decide) ?_
            have e_ : md_field n le ne ins dd nw cs rl x y u w = (((-2) : Int32), rl, ne, ins, dd, cs) := by unfold md_field; exact (if_pos c_5).trans ((if_neg c_15).trans ((if_neg c_23).trans ((if_neg c_32).trans ((if_pos c_41).trans rfl))))
            rw [e_]
            exact W.iret (v := (-2)) hx hb hr (fun t ht hW => ⟨rfl, by rw [ht]; exact hP, hS.F ht⟩) hS.2.2 dX4_field_53
          · refine lv_lload hx hb dX4_field_44 (lv_at hl 4 rfl) ?_
            refine lv_lconst (v := 1) hx hb dX4_field_46 (by decide) ?_
            refine W.lcmp hx hb dX4_field_47 ?_
            refine lv_if_ge (tgt := 54) hx hb dX4_field_48 (by decide) (fun c_48 => ?_) (fun c_48 => ?_)
            · have ct_92 : ∀ (v : Int32) (rl_ : Int32), ∀ (H : Heap) (locs : List Loc), va_P (dC, dI) vwCl (mdW cI cJ cZ q aS aC aW aL aN aI aB aD aU aF n gv sz 0 sp se ct aw le ne ins ba dd cr nw cs un fr rl_ qs) H → va_D (up_c (mdW cI cJ cZ q aS aC aW aL aN aI aB aD aU aF n gv sz cd sp se ct aw le ne ins ba dd cr nw cs un fr rl qs)) (mdW cI cJ cZ q aS aC aW aL aN aI aB aD aU aF n gv sz 0 sp se ct aw le ne ins ba dd cr nw cs un fr rl_ qs) → va_S (up_c (mdW cI cJ cZ q aS aC aW aL aN aI aB aD aU aF n gv sz cd sp se ct aw le ne ins ba dd cr nw cs un fr rl qs)) s.heap H locs → ∀ ls : Array Slot, lv_has ls 12 [(0, .ref q), (1, .int x), (2, .long y), (4, .long u), (8, .int v)] → W p l e (headSpec wsX4_field rm_X4_field).room s m ([.ref q, .int x, .long y, .long u, .long w] : List Value).toArray below meth c H locs 0 0 (MQ below (up_Q (dC, dI) vwCl (some (.int ((md_field_c le ne ins dd nw cs x y u v rl_).1))) (mdW cI cJ cZ q aS aC aW aL aN aI aB aD aU aF n gv sz cd sp se ct aw le ne ins ba dd cr nw cs un fr rl qs) (mdW cI cJ cZ q aS aC aW aL aN aI aB aD aU aF n gv sz 0 sp se ct aw le ((md_field_c le ne ins dd nw cs x y u v rl_).2.2.1) ((md_field_c le ne ins dd nw cs x y u v rl_).2.2.2.1) ba ((md_field_c le ne ins dd nw cs x y u v rl_).2.2.2.2.1) cr nw ((md_field_c le ne ins dd nw cs x y u v rl_).2.2.2.2.2) un fr ((md_field_c le ne ins dd nw cs x y u v rl_).2.1) qs)) ([.ref q, .int x, .long y, .long u, .long w] : List Value).toArray s 0 0 (up_c (mdW cI cJ cZ q aS aC aW aL aN aI aB aD aU aF n gv sz cd sp se ct aw le ne ins ba dd cr nw cs un fr rl qs))) (F0 m 92 ls []) := by
                intro v rl_ H locs hP hD hS ls hl
                refine lv_iconst (v := 0) hx hb dX4_field_92 (by decide) ?_
                refine lv_istore (lv' := [(9, .int 0), (0, .ref q), (1, .int x), (2, .long y), (4, .long u), (8, .int v)]) hx hb dX4_field_93 hl (by decide) rfl (fun ls hl => ?_)
                refine lv_iconst (v := 1) hx hb dX4_field_95 (by decide) ?_
                refine lv_istore (lv' := [(10, .int 1), (9, .int 0), (0, .ref q), (1, .int x), (2, .long y), (4, .long u), (8, .int v)]) hx hb dX4_field_96 hl (by decide) rfl (fun ls hl => ?_)
                have lp : ∀ (r j : Nat) (b : Nat) , j + r = 4 → b < 5 → ∀ ls : Array Slot, lv_has ls 12 [(0, .ref q), (1, .int x), (2, .long y), (4, .long u), (8, .int v), (10, .int (nI (j + 1))), (9, .int (nI b))] → W p l e (headSpec wsX4_field rm_X4_field).room s m ([.ref q, .int x, .long y, .long u, .long w] : List Value).toArray below meth c H locs 0 0 (MQ below (up_Q (dC, dI) vwCl (some (.int ((md_field_l le ne ins dd nw cs x y u v rl_ r j b).1))) (mdW cI cJ cZ q aS aC aW aL aN aI aB aD aU aF n gv sz cd sp se ct aw le ne ins ba dd cr nw cs un fr rl qs) (mdW cI cJ cZ q aS aC aW aL aN aI aB aD aU aF n gv sz 0 sp se ct aw le ((md_field_l le ne ins dd nw cs x y u v rl_ r j b).2.2.1) ((md_field_l le ne ins dd nw cs x y u v rl_ r j b).2.2.2.1) ba ((md_field_l le ne ins dd nw cs x y u v rl_ r j b).2.2.2.2.1) cr nw ((md_field_l le ne ins dd nw cs x y u v rl_ r j b).2.2.2.2.2) un fr ((md_field_l le ne ins dd nw cs x y u v rl_ r j b).2.1) qs)) ([.ref q, .int x, .long y, .long u, .long w] : List Value).toArray s 0 0 (up_c (mdW cI cJ cZ q aS aC aW aL aN aI aB aD aU aF n gv sz cd sp se ct aw le ne ins ba dd cr nw cs un fr rl qs))) (F0 m 98 ls []) := by
                  intro r
                  induction r with
                  | zero =>
                    intro j b hj hy ls hl
                    refine lv_iload hx hb dX4_field_98 (lv_at hl 5 rfl) ?_
                    refine lv_iconst (v := 5) hx hb dX4_field_100 (by decide) ?_
                    refine lv_icmp_ge (tgt := 139) hx hb dX4_field_101 (by decide) (fun c_101 => ?_) (fun c_101 => (c_101 (nI_le (a := 5) (b := (j + 1)) (by omega) (by omega))).elim)
                    refine lv_aload_n hx hb dX4_field_139 rfl (lv_at hl 0 rfl) ?_
                    refine va_get (D := (dC, dI)) (ci := 5) (v := .ref aL) (C := RX4) (T := TX4) (N := 20) hx hb hts inn_X4_field_X4 hown hK hP 0 rfl rfl 6 (by decide) (hts (.fieldLink RX4 20 "DoorKeysModel" "learned" "[Z") (by decide +kernel)) (fun _ h9 => h9) rfl dX4_field_140 ?_
                    refine lv_iload_n hx hb dX4_field_143 rfl (lv_at hl 1 rfl) ?_
                    refine va_zald hx hb hK hP 4 2 rfl rfl (md_none_in hn c_5) dX4_field_144 ?_
                    refine lv_if_eq (tgt := 157) hx hb dX4_field_145 (by decide) (fun c_145 => ?_) (fun c_145 => ?_)
                    · refine lv_iconst (v := 0) hx hb dX4_field_157 (by decide) ?_
                      refine lv_istore (lv' := [(10, .int 0), (0, .ref q), (1, .int x), (2, .long y), (4, .long u), (8, .int v), (9, .int (nI b))]) hx hb dX4_field_158 hl (by decide) rfl (fun ls hl => ?_)
                      refine lv_aload_n hx hb dX4_field_160 rfl (lv_at hl 1 rfl) ?_
                      refine va_get (D := (dC, dI)) (ci := 5) (v := .ref aN) (C := RX4) (T := TX4) (N := 20) hx hb hts inn_X4_field_X4 hown hK hP 0 rfl rfl 7 (by decide) (hts (.fieldLink RX4 24 "DoorKeysModel" "near" "[Z") (by decide +kernel)) (fun _ h9 => h9) rfl dX4_field_161 ?_
                      refine lv_iload_n hx hb dX4_field_164 rfl (lv_at hl 2 rfl) ?_
                      refine lv_iload hx hb dX4_field_165 (lv_at hl 0 rfl) ?_
                      refine lv_if_eq (tgt := 189) hx hb dX4_field_167 (by decide) (fun c_167 => ?_) (fun c_167 => absurd c_167 (by decide))
                      refine lv_iconst (v := 0) hx hb dX4_field_189 (by decide) ?_
                      refine va_zast hx hb hK hP hD hS 5 2 rfl rfl (md_none_in hn c_5) dX4_field_190 (fun H locs hP hD hS => ?_)
                      have hP : va_P (dC, dI) vwCl (mdW cI cJ cZ q aS aC aW aL aN aI aB aD aU aF n gv sz 0 sp se ct aw le (upd ne x.toNatClampNeg 0) ins ba dd cr nw cs un fr rl_ qs) H := hP
                      have hD : va_D (up_c (mdW cI cJ cZ q aS aC aW aL aN aI aB aD aU aF n gv sz cd sp se ct aw le ne ins ba dd cr nw cs un fr rl qs)) (mdW cI cJ cZ q aS aC aW aL aN aI aB aD aU aF n gv sz 0 sp se ct aw le (upd ne x.toNatClampNeg 0) ins ba dd cr nw cs un fr rl_ qs) := hD
                      refine lv_aload_n hx hb dX4_field_191 rfl (lv_at hl 1 rfl) ?_
                      refine va_get (D := (dC, dI)) (ci := 5) (v := .ref aI) (C := RX4) (T := TX4) (N := 20) hx hb hts inn_X4_field_X4 hown hK hP 0 rfl rfl 8 (by decide) (hts (.fieldLink RX4 27 "DoorKeysModel" "inside" "[Z") (by decide +kernel)) (fun _ h9 => h9) rfl dX4_field_192 ?_
                      refine lv_iload_n hx hb dX4_field_195 rfl (lv_at hl 2 rfl) ?_
                      refine lv_iload hx hb dX4_field_196 (lv_at hl 0 rfl) ?_
                      refine lv_if_eq (tgt := 239) hx hb dX4_field_198 (by decide) (fun c_198 => ?_) (fun c_198 => absurd c_198 (by decide))
                      refine lv_iconst (v := 0) hx hb dX4_field_239 (by decide) ?_
                      refine va_zast hx hb hK hP hD hS 6 2 rfl rfl (md_none_in hn c_5) dX4_field_240 (fun H locs hP hD hS => ?_)
                      have hP : va_P (dC, dI) vwCl (mdW cI cJ cZ q aS aC aW aL aN aI aB aD aU aF n gv sz 0 sp se ct aw le (upd ne x.toNatClampNeg 0) (upd ins x.toNatClampNeg 0) ba dd cr nw cs un fr rl_ qs) H := hP
                      have hD : va_D (up_c (mdW cI cJ cZ q aS aC aW aL aN aI aB aD aU aF n gv sz cd sp se ct aw le ne ins ba dd cr nw cs un fr rl qs)) (mdW cI cJ cZ q aS aC aW aL aN aI aB aD aU aF n gv sz 0 sp se ct aw le (upd ne x.toNatClampNeg 0) (upd ins x.toNatClampNeg 0) ba dd cr nw cs un fr rl_ qs) := hD
                      refine lv_aload_n hx hb dX4_field_241 rfl (lv_at hl 1 rfl) ?_
                      refine va_get (D := (dC, dI)) (ci := 5) (v := .ref aN) (C := RX4) (T := TX4) (N := 20) hx hb hts inn_X4_field_X4 hown hK hP 0 rfl rfl 7 (by decide) (hts (.fieldLink RX4 24 "DoorKeysModel" "near" "[Z") (by decide +kernel)) (fun _ h9 => h9) rfl dX4_field_242 ?_
                      refine lv_iload_n hx hb dX4_field_245 rfl (lv_at hl 2 rfl) ?_
                      refine va_zald hx hb hK hP 5 2 rfl rfl (md_none_in hn c_5) dX4_field_246 ?_
                      refine lv_if_eq (tgt := 274) hx hb dX4_field_247 (by decide) (fun c_247 => ?_) (fun c_247 => ?_)
                      · refine lv_iconst (v := 0) hx hb dX4_field_274 (by decide) ?_
                        refine lv_istore (lv' := [(11, .int 0), (10, .int 0), (0, .ref q), (1, .int x), (2, .long y), (4, .long u), (8, .int v), (9, .int (nI b))]) hx hb dX4_field_275 hl (by decide) rfl (fun ls hl => ?_)
                        refine lv_aload_n hx hb dX4_field_277 rfl (lv_at hl 2 rfl) ?_
                        refine va_get (D := (dC, dI)) (ci := 5) (v := .ref aN) (C := RX4) (T := TX4) (N := 20) hx hb hts inn_X4_field_X4 hown hK hP 0 rfl rfl 7 (by decide) (hts (.fieldLink RX4 24 "DoorKeysModel" "near" "[Z") (by decide +kernel)) (fun _ h9 => h9) rfl dX4_field_278 ?_
                        refine lv_iload_n hx hb dX4_field_281 rfl (lv_at hl 3 rfl) ?_
                        refine va_zald hx hb hK hP 5 2 rfl rfl (md_none_in hn c_5) dX4_field_282 ?_
                        refine lv_if_ne (tgt := 295) hx hb dX4_field_283 (by decide) (fun c_283 => absurd c_247 c_283) (fun c_283 => ?_)
                        refine lv_aload_n hx hb dX4_field_286 rfl (lv_at hl 2 rfl) ?_
                        refine va_get (D := (dC, dI)) (ci := 5) (v := .ref aI) (C := RX4) (T := TX4) (N := 20) hx hb hts inn_X4_field_X4 hown hK hP 0 rfl rfl 8 (by decide) (hts (.fieldLink RX4 27 "DoorKeysModel" "inside" "[Z") (by decide +kernel)) (fun _ h9 => h9) rfl dX4_field_287 ?_
                        refine lv_iload_n hx hb dX4_field_290 rfl (lv_at hl 3 rfl) ?_
                        refine va_zald hx hb hK hP 6 2 rfl rfl (md_none_in hn c_5) dX4_field_291 ?_
                        refine lv_if_eq (tgt := 299) hx hb dX4_field_292 (by decide) (fun c_292 => ?_) (fun c_292 => ?_)
                        · refine lv_iconst (v := 0) hx hb dX4_field_299 (by decide) ?_
                          have e_ : md_field_l le ne ins dd nw cs x y u v rl_ 0 j b = ((0 : Int32), rl_, (upd ne x.toNatClampNeg 0), (upd ins x.toNatClampNeg 0), dd, cs) := (md_field_l.eq_1 ..).trans ((if_pos c_145).trans ((if_pos c_247).trans ((if_pos c_292).trans rfl)))
                          rw [e_]
                          exact W.iret (v := 0) hx hb hr (fun t ht hW => ⟨rfl, by rw [ht]; exact hP, hS.F ht⟩) hS.2.2 dX4_field_300
                        · refine lv_iconst (v := 1) hx hb dX4_field_295 (by decide) ?_
                          refine lv_goto (tgt := 300) hx hb dX4_field_296 (by decide) ?_
                          have e_ : md_field_l le ne ins dd nw cs x y u v rl_ 0 j b = ((1 : Int32), rl_, (upd ne x.toNatClampNeg 0), (upd ins x.toNatClampNeg 0), dd, cs) := (md_field_l.eq_1 ..).trans ((if_pos c_145).trans ((if_pos c_247).trans ((if_neg c_292).trans rfl)))
                          rw [e_]
                          exact W.iret (v := 1) hx hb hr (fun t ht hW => ⟨rfl, by rw [ht]; exact hP, hS.F ht⟩) hS.2.2 dX4_field_300
                      · refine lv_aload_n hx hb dX4_field_250 rfl (lv_at hl 1 rfl) ?_
                        refine va_get (D := (dC, dI)) (ci := 5) (v := .ref aI) (C := RX4) (T := TX4) (N := 20) hx hb hts inn_X4_field_X4 hown hK hP 0 rfl rfl 8 (by decide) (hts (.fieldLink RX4 27 "DoorKeysModel" "inside" "[Z") (by decide +kernel)) (fun _ h9 => h9) rfl dX4_field_251 ?_
                        refine lv_iload_n hx hb dX4_field_254 rfl (lv_at hl 2 rfl) ?_
                        refine va_zald hx hb hK hP 6 2 rfl rfl (md_none_in hn c_5) dX4_field_255 ?_
                        refine lv_if_ne (tgt := 274) hx hb dX4_field_256 (by decide) (fun c_256 => ?_) (fun c_256 => ?_)
                        · refine lv_iconst (v := 0) hx hb dX4_field_274 (by decide) ?_
                          refine lv_istore (lv' := [(11, .int 0), (10, .int 0), (0, .ref q), (1, .int x), (2, .long y), (4, .long u), (8, .int v), (9, .int (nI b))]) hx hb dX4_field_275 hl (by decide) rfl (fun ls hl => ?_)
                          refine lv_aload_n hx hb dX4_field_277 rfl (lv_at hl 2 rfl) ?_
                          refine va_get (D := (dC, dI)) (ci := 5) (v := .ref aN) (C := RX4) (T := TX4) (N := 20) hx hb hts inn_X4_field_X4 hown hK hP 0 rfl rfl 7 (by decide) (hts (.fieldLink RX4 24 "DoorKeysModel" "near" "[Z") (by decide +kernel)) (fun _ h9 => h9) rfl dX4_field_278 ?_
                          refine lv_iload_n hx hb dX4_field_281 rfl (lv_at hl 3 rfl) ?_
                          refine va_zald hx hb hK hP 5 2 rfl rfl (md_none_in hn c_5) dX4_field_282 ?_
                          refine lv_if_ne (tgt := 295) hx hb dX4_field_283 (by decide) (fun c_283 => ?_) (fun c_283 => absurd c_283 c_247)
                          refine lv_iconst (v := 1) hx hb dX4_field_295 (by decide) ?_
                          refine lv_goto (tgt := 300) hx hb dX4_field_296 (by decide) ?_
                          have e_ : md_field_l le ne ins dd nw cs x y u v rl_ 0 j b = ((1 : Int32), rl_, (upd ne x.toNatClampNeg 0), (upd ins x.toNatClampNeg 0), dd, cs) := (md_field_l.eq_1 ..).trans ((if_pos c_145).trans ((if_neg c_247).trans ((if_neg c_256).trans rfl)))
                          rw [e_]
                          exact W.iret (v := 1) hx hb hr (fun t ht hW => ⟨rfl, by rw [ht]; exact hP, hS.F ht⟩) hS.2.2 dX4_field_300
                        · refine lv_aload_n hx hb dX4_field_259 rfl (lv_at hl 1 rfl) ?_
                          refine lv_iload hx hb dX4_field_260 (lv_at hl 6 rfl) ?_
                          refine lv_iload hx hb dX4_field_262 (lv_at hl 6 rfl) ?_
                          refine lv_iconst (v := 1) hx hb dX4_field_264 (by decide) ?_
                          refine lv_iadd hx hb dX4_field_265 ?_
                          rw [nI_1]
                          refine lv_iconst (v := 3) hx hb dX4_field_266 (by decide) ?_
                          refine lv_iconst (v := 0) hx hb dX4_field_267 (by decide) ?_
                          refine up_call (W.runV (As := [.int (nI b), .int (nI (b + 1)), .int 3, .int 0]) (rest := []) ⟨hx, hb, hml, hown, hts⟩ (c_X4_turn l dC dI cI cJ cZ q aS aC aW aL aN aI aB aD aU aF n gv sz 0 sp se ct aw le (upd ne x.toNatClampNeg 0) (upd ins x.toNatClampNeg 0) ba dd cr nw cs un fr rl_ qs b (b + 1) 3 0 (by omega) (by omega)) (cwV 4 hts gX4_field_X4_turn rfl rfl rfl (by decide +kernel) ⟨Nat.le_of_ble_eq_true rfl, Nat.le_of_ble_eq_true rfl⟩) (up_preV (q0 := 0) (ci := 5) hP hK hD rfl rfl) rfl rfl hl.1 rfl (lv_room (Nat.le_of_ble_eq_true rfl)) dX4_field_268 ⟨Nat.le_of_ble_eq_true rfl, Nat.le_of_ble_eq_true rfl⟩) hD hS ((md_fst ..).trans (md_fst ..).symm) (fun H locs hP hD hS _ _ => ?_)
                          have hP : va_P (dC, dI) vwCl (mdW cI cJ cZ q aS aC aW aL aN aI aB aD aU aF n gv sz 0 sp se ct aw le (upd ne x.toNatClampNeg 0) (upd ins x.toNatClampNeg 0) ba ((md_turn dd nw cs b (b + 1) 3 0).2.1) cr nw ((md_turn dd nw cs b (b + 1) 3 0).2.2) un fr rl_ qs) H := hP
                          have hD : va_D (up_c (mdW cI cJ cZ q aS aC aW aL aN aI aB aD aU aF n gv sz cd sp se ct aw le ne ins ba dd cr nw cs un fr rl qs)) (mdW cI cJ cZ q aS aC aW aL aN aI aB aD aU aF n gv sz 0 sp se ct aw le (upd ne x.toNatClampNeg 0) (upd ins x.toNatClampNeg 0) ba ((md_turn dd nw cs b (b + 1) 3 0).2.1) cr nw ((md_turn dd nw cs b (b + 1) 3 0).2.2) un fr rl_ qs) := hD
                          refine lv_goto (tgt := 275) hx hb dX4_field_271 (by decide) ?_
                          refine lv_istore (lv' := [(11, .int ((md_turn dd nw cs b (b + 1) 3 0).1)), (10, .int 0), (0, .ref q), (1, .int x), (2, .long y), (4, .long u), (8, .int v), (9, .int (nI b))]) hx hb dX4_field_275 hl (by decide) rfl (fun ls hl => ?_)
                          refine lv_aload_n hx hb dX4_field_277 rfl (lv_at hl 2 rfl) ?_
                          refine va_get (D := (dC, dI)) (ci := 5) (v := .ref aN) (C := RX4) (T := TX4) (N := 20) hx hb hts inn_X4_field_X4 hown hK hP 0 rfl rfl 7 (by decide) (hts (.fieldLink RX4 24 "DoorKeysModel" "near" "[Z") (by decide +kernel)) (fun _ h9 => h9) rfl dX4_field_278 ?_
                          refine lv_iload_n hx hb dX4_field_281 rfl (lv_at hl 3 rfl) ?_
                          refine va_zald hx hb hK hP 5 2 rfl rfl (md_none_in hn c_5) dX4_field_282 ?_
                          refine lv_if_ne (tgt := 295) hx hb dX4_field_283 (by decide) (fun c_283 => ?_) (fun c_283 => absurd c_283 c_247)
                          refine lv_iconst (v := 1) hx hb dX4_field_295 (by decide) ?_
                          refine lv_goto (tgt := 300) hx hb dX4_field_296 (by decide) ?_
                          have e_ : md_field_l le ne ins dd nw cs x y u v rl_ 0 j b = ((1 : Int32), rl_, (upd ne x.toNatClampNeg 0), (upd ins x.toNatClampNeg 0), (md_turn dd nw cs b (b + 1) 3 0).2.1, (md_turn dd nw cs b (b + 1) 3 0).2.2) := (md_field_l.eq_1 ..).trans ((if_pos c_145).trans ((if_neg c_247).trans ((if_pos c_256).trans rfl)))
                          rw [e_]
                          exact W.iret (v := 1) hx hb hr (fun t ht hW => ⟨rfl, by rw [ht]; exact hP, hS.F ht⟩) hS.2.2 dX4_field_300
                    · refine lv_iload hx hb dX4_field_148 (lv_at hl 4 rfl) ?_
                      refine lv_if_ne (tgt := 157) hx hb dX4_field_150 (by decide) (fun c_150 => ?_) (fun c_150 => ?_)
                      · refine lv_iconst (v := 0) hx hb dX4_field_157 (by decide) ?_
                        refine lv_istore (lv' := [(10, .int 0), (0, .ref q), (1, .int x), (2, .long y), (4, .long u), (8, .int v), (9, .int (nI b))]) hx hb dX4_field_158 hl (by decide) rfl (fun ls hl => ?_)
                        refine lv_aload_n hx hb dX4_field_160 rfl (lv_at hl 1 rfl) ?_
                        refine va_get (D := (dC, dI)) (ci := 5) (v := .ref aN) (C := RX4) (T := TX4) (N := 20) hx hb hts inn_X4_field_X4 hown hK hP 0 rfl rfl 7 (by decide) (hts (.fieldLink RX4 24 "DoorKeysModel" "near" "[Z") (by decide +kernel)) (fun _ h9 => h9) rfl dX4_field_161 ?_
                        refine lv_iload_n hx hb dX4_field_164 rfl (lv_at hl 2 rfl) ?_
                        refine lv_iload hx hb dX4_field_165 (lv_at hl 0 rfl) ?_
                        refine lv_if_eq (tgt := 189) hx hb dX4_field_167 (by decide) (fun c_167 => ?_) (fun c_167 => absurd c_167 (by decide))
                        refine lv_iconst (v := 0) hx hb dX4_field_189 (by decide) ?_
                        refine va_zast hx hb hK hP hD hS 5 2 rfl rfl (md_none_in hn c_5) dX4_field_190 (fun H locs hP hD hS => ?_)
                        have hP : va_P (dC, dI) vwCl (mdW cI cJ cZ q aS aC aW aL aN aI aB aD aU aF n gv sz 0 sp se ct aw le (upd ne x.toNatClampNeg 0) ins ba dd cr nw cs un fr rl_ qs) H := hP
                        have hD : va_D (up_c (mdW cI cJ cZ q aS aC aW aL aN aI aB aD aU aF n gv sz cd sp se ct aw le ne ins ba dd cr nw cs un fr rl qs)) (mdW cI cJ cZ q aS aC aW aL aN aI aB aD aU aF n gv sz 0 sp se ct aw le (upd ne x.toNatClampNeg 0) ins ba dd cr nw cs un fr rl_ qs) := hD
                        refine lv_aload_n hx hb dX4_field_191 rfl (lv_at hl 1 rfl) ?_
                        refine va_get (D := (dC, dI)) (ci := 5) (v := .ref aI) (C := RX4) (T := TX4) (N := 20) hx hb hts inn_X4_field_X4 hown hK hP 0 rfl rfl 8 (by decide) (hts (.fieldLink RX4 27 "DoorKeysModel" "inside" "[Z") (by decide +kernel)) (fun _ h9 => h9) rfl dX4_field_192 ?_
                        refine lv_iload_n hx hb dX4_field_195 rfl (lv_at hl 2 rfl) ?_
                        refine lv_iload hx hb dX4_field_196 (lv_at hl 0 rfl) ?_
                        refine lv_if_eq (tgt := 239) hx hb dX4_field_198 (by decide) (fun c_198 => ?_) (fun c_198 => absurd c_198 (by decide))
                        refine lv_iconst (v := 0) hx hb dX4_field_239 (by decide) ?_
                        refine va_zast hx hb hK hP hD hS 6 2 rfl rfl (md_none_in hn c_5) dX4_field_240 (fun H locs hP hD hS => ?_)
                        have hP : va_P (dC, dI) vwCl (mdW cI cJ cZ q aS aC aW aL aN aI aB aD aU aF n gv sz 0 sp se ct aw le (upd ne x.toNatClampNeg 0) (upd ins x.toNatClampNeg 0) ba dd cr nw cs un fr rl_ qs) H := hP
                        have hD : va_D (up_c (mdW cI cJ cZ q aS aC aW aL aN aI aB aD aU aF n gv sz cd sp se ct aw le ne ins ba dd cr nw cs un fr rl qs)) (mdW cI cJ cZ q aS aC aW aL aN aI aB aD aU aF n gv sz 0 sp se ct aw le (upd ne x.toNatClampNeg 0) (upd ins x.toNatClampNeg 0) ba dd cr nw cs un fr rl_ qs) := hD
                        refine lv_aload_n hx hb dX4_field_241 rfl (lv_at hl 1 rfl) ?_
                        refine va_get (D := (dC, dI)) (ci := 5) (v := .ref aN) (C := RX4) (T := TX4) (N := 20) hx hb hts inn_X4_field_X4 hown hK hP 0 rfl rfl 7 (by decide) (hts (.fieldLink RX4 24 "DoorKeysModel" "near" "[Z") (by decide +kernel)) (fun _ h9 => h9) rfl dX4_field_242 ?_
                        refine lv_iload_n hx hb dX4_field_245 rfl (lv_at hl 2 rfl) ?_
                        refine va_zald hx hb hK hP 5 2 rfl rfl (md_none_in hn c_5) dX4_field_246 ?_
                        refine lv_if_eq (tgt := 274) hx hb dX4_field_247 (by decide) (fun c_247 => ?_) (fun c_247 => ?_)
                        · refine lv_iconst (v := 0) hx hb dX4_field_274 (by decide) ?_
                          refine lv_istore (lv' := [(11, .int 0), (10, .int 0), (0, .ref q), (1, .int x), (2, .long y), (4, .long u), (8, .int v), (9, .int (nI b))]) hx hb dX4_field_275 hl (by decide) rfl (fun ls hl => ?_)
                          refine lv_aload_n hx hb dX4_field_277 rfl (lv_at hl 2 rfl) ?_
                          refine va_get (D := (dC, dI)) (ci := 5) (v := .ref aN) (C := RX4) (T := TX4) (N := 20) hx hb hts inn_X4_field_X4 hown hK hP 0 rfl rfl 7 (by decide) (hts (.fieldLink RX4 24 "DoorKeysModel" "near" "[Z") (by decide +kernel)) (fun _ h9 => h9) rfl dX4_field_278 ?_
                          refine lv_iload_n hx hb dX4_field_281 rfl (lv_at hl 3 rfl) ?_
                          refine va_zald hx hb hK hP 5 2 rfl rfl (md_none_in hn c_5) dX4_field_282 ?_
                          refine lv_if_ne (tgt := 295) hx hb dX4_field_283 (by decide) (fun c_283 => absurd c_247 c_283) (fun c_283 => ?_)
                          refine lv_aload_n hx hb dX4_field_286 rfl (lv_at hl 2 rfl) ?_
                          refine va_get (D := (dC, dI)) (ci := 5) (v := .ref aI) (C := RX4) (T := TX4) (N := 20) hx hb hts inn_X4_field_X4 hown hK hP 0 rfl rfl 8 (by decide) (hts (.fieldLink RX4 27 "DoorKeysModel" "inside" "[Z") (by decide +kernel)) (fun _ h9 => h9) rfl dX4_field_287 ?_
                          refine lv_iload_n hx hb dX4_field_290 rfl (lv_at hl 3 rfl) ?_
                          refine va_zald hx hb hK hP 6 2 rfl rfl (md_none_in hn c_5) dX4_field_291 ?_
                          refine lv_if_eq (tgt := 299) hx hb dX4_field_292 (by decide) (fun c_292 => ?_) (fun c_292 => ?_)
                          · refine lv_iconst (v := 0) hx hb dX4_field_299 (by decide) ?_
                            have e_ : md_field_l le ne ins dd nw cs x y u v rl_ 0 j b = ((0 : Int32), rl_, (upd ne x.toNatClampNeg 0), (upd ins x.toNatClampNeg 0), dd, cs) := (md_field_l.eq_1 ..).trans ((if_neg c_145).trans ((if_neg c_150).trans ((if_pos c_247).trans ((if_pos c_292).trans rfl))))
                            rw [e_]
                            exact W.iret (v := 0) hx hb hr (fun t ht hW => ⟨rfl, by rw [ht]; exact hP, hS.F ht⟩) hS.2.2 dX4_field_300
                          · refine lv_iconst (v := 1) hx hb dX4_field_295 (by decide) ?_
                            refine lv_goto (tgt := 300) hx hb dX4_field_296 (by decide) ?_
                            have e_ : md_field_l le ne ins dd nw cs x y u v rl_ 0 j b = ((1 : Int32), rl_, (upd ne x.toNatClampNeg 0), (upd ins x.toNatClampNeg 0), dd, cs) := (md_field_l.eq_1 ..).trans ((if_neg c_145).trans ((if_neg c_150).trans ((if_pos c_247).trans ((if_neg c_292).trans rfl))))
                            rw [e_]
                            exact W.iret (v := 1) hx hb hr (fun t ht hW => ⟨rfl, by rw [ht]; exact hP, hS.F ht⟩) hS.2.2 dX4_field_300
                        · refine lv_aload_n hx hb dX4_field_250 rfl (lv_at hl 1 rfl) ?_
                          refine va_get (D := (dC, dI)) (ci := 5) (v := .ref aI) (C := RX4) (T := TX4) (N := 20) hx hb hts inn_X4_field_X4 hown hK hP 0 rfl rfl 8 (by decide) (hts (.fieldLink RX4 27 "DoorKeysModel" "inside" "[Z") (by decide +kernel)) (fun _ h9 => h9) rfl dX4_field_251 ?_
                          refine lv_iload_n hx hb dX4_field_254 rfl (lv_at hl 2 rfl) ?_
                          refine va_zald hx hb hK hP 6 2 rfl rfl (md_none_in hn c_5) dX4_field_255 ?_
                          refine lv_if_ne (tgt := 274) hx hb dX4_field_256 (by decide) (fun c_256 => ?_) (fun c_256 => ?_)
                          · refine lv_iconst (v := 0) hx hb dX4_field_274 (by decide) ?_
                            refine lv_istore (lv' := [(11, .int 0), (10, .int 0), (0, .ref q), (1, .int x), (2, .long y), (4, .long u), (8, .int v), (9, .int (nI b))]) hx hb dX4_field_275 hl (by decide) rfl (fun ls hl => ?_)
                            refine lv_aload_n hx hb dX4_field_277 rfl (lv_at hl 2 rfl) ?_
                            refine va_get (D := (dC, dI)) (ci := 5) (v := .ref aN) (C := RX4) (T := TX4) (N := 20) hx hb hts inn_X4_field_X4 hown hK hP 0 rfl rfl 7 (by decide) (hts (.fieldLink RX4 24 "DoorKeysModel" "near" "[Z") (by decide +kernel)) (fun _ h9 => h9) rfl dX4_field_278 ?_
                            refine lv_iload_n hx hb dX4_field_281 rfl (lv_at hl 3 rfl) ?_
                            refine va_zald hx hb hK hP 5 2 rfl rfl (md_none_in hn c_5) dX4_field_282 ?_
                            refine lv_if_ne (tgt := 295) hx hb dX4_field_283 (by decide) (fun c_283 => ?_) (fun c_283 => absurd c_283 c_247)
                            refine lv_iconst (v := 1) hx hb dX4_field_295 (by decide) ?_
                            refine lv_goto (tgt := 300) hx hb dX4_field_296 (by decide) ?_
                            have e_ : md_field_l le ne ins dd nw cs x y u v rl_ 0 j b = ((1 : Int32), rl_, (upd ne x.toNatClampNeg 0), (upd ins x.toNatClampNeg 0), dd, cs) := (md_field_l.eq_1 ..).trans ((if_neg c_145).trans ((if_neg c_150).trans ((if_neg c_247).trans ((if_neg c_256).trans rfl))))
                            rw [e_]
                            exact W.iret (v := 1) hx hb hr (fun t ht hW => ⟨rfl, by rw [ht]; exact hP, hS.F ht⟩) hS.2.2 dX4_field_300
                          · refine lv_aload_n hx hb dX4_field_259 rfl (lv_at hl 1 rfl) ?_
                            refine lv_iload hx hb dX4_field_260 (lv_at hl 6 rfl) ?_
                            refine lv_iload hx hb dX4_field_262 (lv_at hl 6 rfl) ?_
                            refine lv_iconst (v := 1) hx hb dX4_field_264 (by decide) ?_
                            refine lv_iadd hx hb dX4_field_265 ?_
                            rw [nI_1]
                            refine lv_iconst (v := 3) hx hb dX4_field_266 (by decide) ?_
                            refine lv_iconst (v := 0) hx hb dX4_field_267 (by decide) ?_
                            refine up_call (W.runV (As := [.int (nI b), .int (nI (b + 1)), .int 3, .int 0]) (rest := []) ⟨hx, hb, hml, hown, hts⟩ (c_X4_turn l dC dI cI cJ cZ q aS aC aW aL aN aI aB aD aU aF n gv sz 0 sp se ct aw le (upd ne x.toNatClampNeg 0) (upd ins x.toNatClampNeg 0) ba dd cr nw cs un fr rl_ qs b (b + 1) 3 0 (by omega) (by omega)) (cwV 4 hts gX4_field_X4_turn rfl rfl rfl (by decide +kernel) ⟨Nat.le_of_ble_eq_true rfl, Nat.le_of_ble_eq_true rfl⟩) (up_preV (q0 := 0) (ci := 5) hP hK hD rfl rfl) rfl rfl hl.1 rfl (lv_room (Nat.le_of_ble_eq_true rfl)) dX4_field_268 ⟨Nat.le_of_ble_eq_true rfl, Nat.le_of_ble_eq_true rfl⟩) hD hS ((md_fst ..).trans (md_fst ..).symm) (fun H locs hP hD hS _ _ => ?_)
                            have hP : va_P (dC, dI) vwCl (mdW cI cJ cZ q aS aC aW aL aN aI aB aD aU aF n gv sz 0 sp se ct aw le (upd ne x.toNatClampNeg 0) (upd ins x.toNatClampNeg 0) ba ((md_turn dd nw cs b (b + 1) 3 0).2.1) cr nw ((md_turn dd nw cs b (b + 1) 3 0).2.2) un fr rl_ qs) H := hP
                            have hD : va_D (up_c (mdW cI cJ cZ q aS aC aW aL aN aI aB aD aU aF n gv sz cd sp se ct aw le ne ins ba dd cr nw cs un fr rl qs)) (mdW cI cJ cZ q aS aC aW aL aN aI aB aD aU aF n gv sz 0 sp se ct aw le (upd ne x.toNatClampNeg 0) (upd ins x.toNatClampNeg 0) ba ((md_turn dd nw cs b (b + 1) 3 0).2.1) cr nw ((md_turn dd nw cs b (b + 1) 3 0).2.2) un fr rl_ qs) := hD
                            refine lv_goto (tgt := 275) hx hb dX4_field_271 (by decide) ?_
                            refine lv_istore (lv' := [(11, .int ((md_turn dd nw cs b (b + 1) 3 0).1)), (10, .int 0), (0, .ref q), (1, .int x), (2, .long y), (4, .long u), (8, .int v), (9, .int (nI b))]) hx hb dX4_field_275 hl (by decide) rfl (fun ls hl => ?_)
                            refine lv_aload_n hx hb dX4_field_277 rfl (lv_at hl 2 rfl) ?_
                            refine va_get (D := (dC, dI)) (ci := 5) (v := .ref aN) (C := RX4) (T := TX4) (N := 20) hx hb hts inn_X4_field_X4 hown hK hP 0 rfl rfl 7 (by decide) (hts (.fieldLink RX4 24 "DoorKeysModel" "near" "[Z") (by decide +kernel)) (fun _ h9 => h9) rfl dX4_field_278 ?_
                            refine lv_iload_n hx hb dX4_field_281 rfl (lv_at hl 3 rfl) ?_
                            refine va_zald hx hb hK hP 5 2 rfl rfl (md_none_in hn c_5) dX4_field_282 ?_
                            refine lv_if_ne (tgt := 295) hx hb dX4_field_283 (by decide) (fun c_283 => ?_) (fun c_283 => absurd c_283 c_247)
                            refine lv_iconst (v := 1) hx hb dX4_field_295 (by decide) ?_
                            refine lv_goto (tgt := 300) hx hb dX4_field_296 (by decide) ?_
                            have e_ : md_field_l le ne ins dd nw cs x y u v rl_ 0 j b = ((1 : Int32), rl_, (upd ne x.toNatClampNeg 0), (upd ins x.toNatClampNeg 0), (md_turn dd nw cs b (b + 1) 3 0).2.1, (md_turn dd nw cs b (b + 1) 3 0).2.2) := (md_field_l.eq_1 ..).trans ((if_neg c_145).trans ((if_neg c_150).trans ((if_neg c_247).trans ((if_pos c_256).trans rfl))))
                            rw [e_]
                            exact W.iret (v := 1) hx hb hr (fun t ht hW => ⟨rfl, by rw [ht]; exact hP, hS.F ht⟩) hS.2.2 dX4_field_300
                      · refine lv_iconst (v := 1) hx hb dX4_field_153 (by decide) ?_
                        refine lv_goto (tgt := 158) hx hb dX4_field_154 (by decide) ?_
                        refine lv_istore (lv' := [(10, .int 1), (0, .ref q), (1, .int x), (2, .long y), (4, .long u), (8, .int v), (9, .int (nI b))]) hx hb dX4_field_158 hl (by decide) rfl (fun ls hl => ?_)
                        refine lv_aload_n hx hb dX4_field_160 rfl (lv_at hl 1 rfl) ?_
                        refine va_get (D := (dC, dI)) (ci := 5) (v := .ref aN) (C := RX4) (T := TX4) (N := 20) hx hb hts inn_X4_field_X4 hown hK hP 0 rfl rfl 7 (by decide) (hts (.fieldLink RX4 24 "DoorKeysModel" "near" "[Z") (by decide +kernel)) (fun _ h9 => h9) rfl dX4_field_161 ?_
                        refine lv_iload_n hx hb dX4_field_164 rfl (lv_at hl 2 rfl) ?_
                        refine lv_iload hx hb dX4_field_165 (lv_at hl 0 rfl) ?_
                        refine lv_if_eq (tgt := 189) hx hb dX4_field_167 (by decide) (fun c_167 => absurd c_167 (by decide)) (fun c_167 => ?_)
                        refine lv_iload hx hb dX4_field_170 (lv_at hl 6 rfl) ?_
                        refine lv_lload_n hx hb dX4_field_172 rfl (lv_at hl 3 rfl) ?_
                        refine lv_lload hx hb dX4_field_173 (lv_at hl 4 rfl) ?_
                        refine up_read (W.runS (As := [.int (nI b), .long y, .long u]) (rest := [.int x, .ref aN]) ⟨hx, hb, hml, hown, hts⟩ (c_X4_far l dC dI cI cJ cZ q aS aC aW aL aN aI aB aD aU aF n gv sz 0 sp se ct aw le ne ins ba dd cr nw cs un fr rl_ qs (nI b) y u) (va_cwS 3 hts gX4_field_X4_far rfl rfl rfl (by decide +kernel) ⟨Nat.le_of_ble_eq_true rfl, Nat.le_of_ble_eq_true rfl⟩) (up_preS hP hK hD) rfl rfl hl.1 rfl (lv_room (Nat.le_of_ble_eq_true rfl)) dX4_field_175 ⟨Nat.le_of_ble_eq_true rfl, Nat.le_of_ble_eq_true rfl⟩) ?_
                        refine lv_ldc2 (v := 2250000) hx hb hown (hts (.constantLong RX4 130 2250000) (by decide +kernel)) dX4_field_178 ?_
                        refine W.lcmp hx hb dX4_field_181 ?_
                        refine lv_if_gt (tgt := 189) hx hb dX4_field_182 (by decide) (fun c_182 => ?_) (fun c_182 => ?_)
                        · refine lv_iconst (v := 0) hx hb dX4_field_189 (by decide) ?_
                          refine va_zast hx hb hK hP hD hS 5 2 rfl rfl (md_none_in hn c_5) dX4_field_190 (fun H locs hP hD hS => ?_)
                          have hP : va_P (dC, dI) vwCl (mdW cI cJ cZ q aS aC aW aL aN aI aB aD aU aF n gv sz 0 sp se ct aw le (upd ne x.toNatClampNeg 0) ins ba dd cr nw cs un fr rl_ qs) H := hP
                          have hD : va_D (up_c (mdW cI cJ cZ q aS aC aW aL aN aI aB aD aU aF n gv sz cd sp se ct aw le ne ins ba dd cr nw cs un fr rl qs)) (mdW cI cJ cZ q aS aC aW aL aN aI aB aD aU aF n gv sz 0 sp se ct aw le (upd ne x.toNatClampNeg 0) ins ba dd cr nw cs un fr rl_ qs) := hD
                          refine lv_aload_n hx hb dX4_field_191 rfl (lv_at hl 1 rfl) ?_
                          refine va_get (D := (dC, dI)) (ci := 5) (v := .ref aI) (C := RX4) (T := TX4) (N := 20) hx hb hts inn_X4_field_X4 hown hK hP 0 rfl rfl 8 (by decide) (hts (.fieldLink RX4 27 "DoorKeysModel" "inside" "[Z") (by decide +kernel)) (fun _ h9 => h9) rfl dX4_field_192 ?_
                          refine lv_iload_n hx hb dX4_field_195 rfl (lv_at hl 2 rfl) ?_
                          refine lv_iload hx hb dX4_field_196 (lv_at hl 0 rfl) ?_
                          refine lv_if_eq (tgt := 239) hx hb dX4_field_198 (by decide) (fun c_198 => absurd c_198 (by decide)) (fun c_198 => ?_)
                          refine lv_lload_n hx hb dX4_field_201 rfl (lv_at hl 3 rfl) ?_
                          refine lv_ldc2 (v := (-2000)) hx hb hown (hts (.constantLong RX4 132 (-2000)) (by decide +kernel)) dX4_field_202 ?_
                          refine W.lcmp hx hb dX4_field_205 ?_
                          refine lv_if_lt (tgt := 239) hx hb dX4_field_206 (by decide) (fun c_206 => ?_) (fun c_206 => ?_)
                          · refine lv_iconst (v := 0) hx hb dX4_field_239 (by decide) ?_
                            refine va_zast hx hb hK hP hD hS 6 2 rfl rfl (md_none_in hn c_5) dX4_field_240 (fun H locs hP hD hS => ?_)
                            have hP : va_P (dC, dI) vwCl (mdW cI cJ cZ q aS aC aW aL aN aI aB aD aU aF n gv sz 0 sp se ct aw le (upd ne x.toNatClampNeg 0) (upd ins x.toNatClampNeg 0) ba dd cr nw cs un fr rl_ qs) H := hP
                            have hD : va_D (up_c (mdW cI cJ cZ q aS aC aW aL aN aI aB aD aU aF n gv sz cd sp se ct aw le ne ins ba dd cr nw cs un fr rl qs)) (mdW cI cJ cZ q aS aC aW aL aN aI aB aD aU aF n gv sz 0 sp se ct aw le (upd ne x.toNatClampNeg 0) (upd ins x.toNatClampNeg 0) ba dd cr nw cs un fr rl_ qs) := hD
                            refine lv_aload_n hx hb dX4_field_241 rfl (lv_at hl 1 rfl) ?_
                            refine va_get (D := (dC, dI)) (ci := 5) (v := .ref aN) (C := RX4) (T := TX4) (N := 20) hx hb hts inn_X4_field_X4 hown hK hP 0 rfl rfl 7 (by decide) (hts (.fieldLink RX4 24 "DoorKeysModel" "near" "[Z") (by decide +kernel)) (fun _ h9 => h9) rfl dX4_field_242 ?_
                            refine lv_iload_n hx hb dX4_field_245 rfl (lv_at hl 2 rfl) ?_
                            refine va_zald hx hb hK hP 5 2 rfl rfl (md_none_in hn c_5) dX4_field_246 ?_
                            refine lv_if_eq (tgt := 274) hx hb dX4_field_247 (by decide) (fun c_247 => ?_) (fun c_247 => ?_)
                            · refine lv_iconst (v := 0) hx hb dX4_field_274 (by decide) ?_
                              refine lv_istore (lv' := [(11, .int 0), (10, .int 1), (0, .ref q), (1, .int x), (2, .long y), (4, .long u), (8, .int v), (9, .int (nI b))]) hx hb dX4_field_275 hl (by decide) rfl (fun ls hl => ?_)
                              refine lv_aload_n hx hb dX4_field_277 rfl (lv_at hl 2 rfl) ?_
                              refine va_get (D := (dC, dI)) (ci := 5) (v := .ref aN) (C := RX4) (T := TX4) (N := 20) hx hb hts inn_X4_field_X4 hown hK hP 0 rfl rfl 7 (by decide) (hts (.fieldLink RX4 24 "DoorKeysModel" "near" "[Z") (by decide +kernel)) (fun _ h9 => h9) rfl dX4_field_278 ?_
                              refine lv_iload_n hx hb dX4_field_281 rfl (lv_at hl 3 rfl) ?_
                              refine va_zald hx hb hK hP 5 2 rfl rfl (md_none_in hn c_5) dX4_field_282 ?_
                              refine lv_if_ne (tgt := 295) hx hb dX4_field_283 (by decide) (fun c_283 => absurd c_247 c_283) (fun c_283 => ?_)
                              refine lv_aload_n hx hb dX4_field_286 rfl (lv_at hl 2 rfl) ?_
                              refine va_get (D := (dC, dI)) (ci := 5) (v := .ref aI) (C := RX4) (T := TX4) (N := 20) hx hb hts inn_X4_field_X4 hown hK hP 0 rfl rfl 8 (by decide) (hts (.fieldLink RX4 27 "DoorKeysModel" "inside" "[Z") (by decide +kernel)) (fun _ h9 => h9) rfl dX4_field_287 ?_
                              refine lv_iload_n hx hb dX4_field_290 rfl (lv_at hl 3 rfl) ?_
                              refine va_zald hx hb hK hP 6 2 rfl rfl (md_none_in hn c_5) dX4_field_291 ?_
                              refine lv_if_eq (tgt := 299) hx hb dX4_field_292 (by decide) (fun c_292 => ?_) (fun c_292 => ?_)
                              · refine lv_iconst (v := 0) hx hb dX4_field_299 (by decide) ?_
                                have e_ : md_field_l le ne ins dd nw cs x y u v rl_ 0 j b = ((0 : Int32), rl_, (upd ne x.toNatClampNeg 0), (upd ins x.toNatClampNeg 0), dd, cs) := (md_field_l.eq_1 ..).trans ((if_neg c_145).trans ((if_pos c_150).trans ((if_pos c_182).trans ((if_pos c_206).trans ((if_pos c_247).trans ((if_pos c_292).trans rfl))))))
                                rw [e_]
                                exact W.iret (v := 0) hx hb hr (fun t ht hW => ⟨rfl, by rw [ht]; exact hP, hS.F ht⟩) hS.2.2 dX4_field_300
                              · refine lv_iconst (v := 1) hx hb dX4_field_295 (by decide) ?_
                                refine lv_goto (tgt := 300) hx hb dX4_field_296 (by decide) ?_
                                have e_ : md_field_l le ne ins dd nw cs x y u v rl_ 0 j b = ((1 : Int32), rl_, (upd ne x.toNatClampNeg 0), (upd ins x.toNatClampNeg 0), dd, cs) := (md_field_l.eq_1 ..).trans ((if_neg c_145).trans ((if_pos c_150).trans ((if_pos c_182).trans ((if_pos c_206).trans ((if_pos c_247).trans ((if_neg c_292).trans rfl))))))
                                rw [e_]
                                exact W.iret (v := 1) hx hb hr (fun t ht hW => ⟨rfl, by rw [ht]; exact hP, hS.F ht⟩) hS.2.2 dX4_field_300
                            · refine lv_aload_n hx hb dX4_field_250 rfl (lv_at hl 1 rfl) ?_
                              refine va_get (D := (dC, dI)) (ci := 5) (v := .ref aI) (C := RX4) (T := TX4) (N := 20) hx hb hts inn_X4_field_X4 hown hK hP 0 rfl rfl 8 (by decide) (hts (.fieldLink RX4 27 "DoorKeysModel" "inside" "[Z") (by decide +kernel)) (fun _ h9 => h9) rfl dX4_field_251 ?_
                              refine lv_iload_n hx hb dX4_field_254 rfl (lv_at hl 2 rfl) ?_
                              refine va_zald hx hb hK hP 6 2 rfl rfl (md_none_in hn c_5) dX4_field_255 ?_
                              refine lv_if_ne (tgt := 274) hx hb dX4_field_256 (by decide) (fun c_256 => ?_) (fun c_256 => ?_)
                              · refine lv_iconst (v := 0) hx hb dX4_field_274 (by decide) ?_
                                refine lv_istore (lv' := [(11, .int 0), (10, .int 1), (0, .ref q), (1, .int x), (2, .long y), (4, .long u), (8, .int v), (9, .int (nI b))]) hx hb dX4_field_275 hl (by decide) rfl (fun ls hl => ?_)
                                refine lv_aload_n hx hb dX4_field_277 rfl (lv_at hl 2 rfl) ?_
                                refine va_get (D := (dC, dI)) (ci := 5) (v := .ref aN) (C := RX4) (T := TX4) (N := 20) hx hb hts inn_X4_field_X4 hown hK hP 0 rfl rfl 7 (by decide) (hts (.fieldLink RX4 24 "DoorKeysModel" "near" "[Z") (by decide +kernel)) (fun _ h9 => h9) rfl dX4_field_278 ?_
                                refine lv_iload_n hx hb dX4_field_281 rfl (lv_at hl 3 rfl) ?_
                                refine va_zald hx hb hK hP 5 2 rfl rfl (md_none_in hn c_5) dX4_field_282 ?_
                                refine lv_if_ne (tgt := 295) hx hb dX4_field_283 (by decide) (fun c_283 => ?_) (fun c_283 => absurd c_283 c_247)
                                refine lv_iconst (v := 1) hx hb dX4_field_295 (by decide) ?_
                                refine lv_goto (tgt := 300) hx hb dX4_field_296 (by decide) ?_
                                have e_ : md_field_l le ne ins dd nw cs x y u v rl_ 0 j b = ((1 : Int32), rl_, (upd ne x.toNatClampNeg 0), (upd ins x.toNatClampNeg 0), dd, cs) := (md_field_l.eq_1 ..).trans ((if_neg c_145).trans ((if_pos c_150).trans ((if_pos c_182).trans ((if_pos c_206).trans ((if_neg c_247).trans ((if_neg c_256).trans rfl))))))
                                rw [e_]
                                exact W.iret (v := 1) hx hb hr (fun t ht hW => ⟨rfl, by rw [ht]; exact hP, hS.F ht⟩) hS.2.2 dX4_field_300
                              · refine lv_aload_n hx hb dX4_field_259 rfl (lv_at hl 1 rfl) ?_
                                refine lv_iload hx hb dX4_field_260 (lv_at hl 6 rfl) ?_
                                refine lv_iload hx hb dX4_field_262 (lv_at hl 6 rfl) ?_
                                refine lv_iconst (v := 1) hx hb dX4_field_264 (by decide) ?_
                                refine lv_iadd hx hb dX4_field_265 ?_
                                rw [nI_1]
                                refine lv_iconst (v := 3) hx hb dX4_field_266 (by decide) ?_
                                refine lv_iconst (v := 0) hx hb dX4_field_267 (by decide) ?_
                                refine up_call (W.runV (As := [.int (nI b), .int (nI (b + 1)), .int 3, .int 0]) (rest := []) ⟨hx, hb, hml, hown, hts⟩ (c_X4_turn l dC dI cI cJ cZ q aS aC aW aL aN aI aB aD aU aF n gv sz 0 sp se ct aw le (upd ne x.toNatClampNeg 0) (upd ins x.toNatClampNeg 0) ba dd cr nw cs un fr rl_ qs b (b + 1) 3 0 (by omega) (by omega)) (cwV 4 hts gX4_field_X4_turn rfl rfl rfl (by decide +kernel) ⟨Nat.le_of_ble_eq_true rfl, Nat.le_of_ble_eq_true rfl⟩) (up_preV (q0 := 0) (ci := 5) hP hK hD rfl rfl) rfl rfl hl.1 rfl (lv_room (Nat.le_of_ble_eq_true rfl)) dX4_field_268 ⟨Nat.le_of_ble_eq_true rfl, Nat.le_of_ble_eq_true rfl⟩) hD hS ((md_fst ..).trans (md_fst ..).symm) (fun H locs hP hD hS _ _ => ?_)
                                have hP : va_P (dC, dI) vwCl (mdW cI cJ cZ q aS aC aW aL aN aI aB aD aU aF n gv sz 0 sp se ct aw le (upd ne x.toNatClampNeg 0) (upd ins x.toNatClampNeg 0) ba ((md_turn dd nw cs b (b + 1) 3 0).2.1) cr nw ((md_turn dd nw cs b (b + 1) 3 0).2.2) un fr rl_ qs) H := hP
                                have hD : va_D (up_c (mdW cI cJ cZ q aS aC aW aL aN aI aB aD aU aF n gv sz cd sp se ct aw le ne ins ba dd cr nw cs un fr rl qs)) (mdW cI cJ cZ q aS aC aW aL aN aI aB aD aU aF n gv sz 0 sp se ct aw le (upd ne x.toNatClampNeg 0) (upd ins x.toNatClampNeg 0) ba ((md_turn dd nw cs b (b + 1) 3 0).2.1) cr nw ((md_turn dd nw cs b (b + 1) 3 0).2.2) un fr rl_ qs) := hD
                                refine lv_goto (tgt := 275) hx hb dX4_field_271 (by decide) ?_
                                refine lv_istore (lv' := [(11, .int ((md_turn dd nw cs b (b + 1) 3 0).1)), (10, .int 1), (0, .ref q), (1, .int x), (2, .long y), (4, .long u), (8, .int v), (9, .int (nI b))]) hx hb dX4_field_275 hl (by decide) rfl (fun ls hl => ?_)
                                refine lv_aload_n hx hb dX4_field_277 rfl (lv_at hl 2 rfl) ?_
                                refine va_get (D := (dC, dI)) (ci := 5) (v := .ref aN) (C := RX4) (T := TX4) (N := 20) hx hb hts inn_X4_field_X4 hown hK hP 0 rfl rfl 7 (by decide) (hts (.fieldLink RX4 24 "DoorKeysModel" "near" "[Z") (by decide +kernel)) (fun _ h9 => h9) rfl dX4_field_278 ?_
                                refine lv_iload_n hx hb dX4_field_281 rfl (lv_at hl 3 rfl) ?_
                                refine va_zald hx hb hK hP 5 2 rfl rfl (md_none_in hn c_5) dX4_field_282 ?_
                                refine lv_if_ne (tgt := 295) hx hb dX4_field_283 (by decide) (fun c_283 => ?_) (fun c_283 => absurd c_283 c_247)
                                refine lv_iconst (v := 1) hx hb dX4_field_295 (by decide) ?_
                                refine lv_goto (tgt := 300) hx hb dX4_field_296 (by decide) ?_
                                have e_ : md_field_l le ne ins dd nw cs x y u v rl_ 0 j b = ((1 : Int32), rl_, (upd ne x.toNatClampNeg 0), (upd ins x.toNatClampNeg 0), (md_turn dd nw cs b (b + 1) 3 0).2.1, (md_turn dd nw cs b (b + 1) 3 0).2.2) := (md_field_l.eq_1 ..).trans ((if_neg c_145).trans ((if_pos c_150).trans ((if_pos c_182).trans ((if_pos c_206).trans ((if_neg c_247).trans ((if_pos c_256).trans rfl))))))
                                rw [e_]
                                exact W.iret (v := 1) hx hb hr (fun t ht hW => ⟨rfl, by rw [ht]; exact hP, hS.F ht⟩) hS.2.2 dX4_field_300
                          · refine lv_lload_n hx hb dX4_field_209 rfl (lv_at hl 3 rfl) ?_
                            refine lv_ldc2 (v := 2000) hx hb hown (hts (.constantLong RX4 121 2000) (by decide +kernel)) dX4_field_210 ?_
                            refine W.lcmp hx hb dX4_field_213 ?_
                            refine lv_if_gt (tgt := 239) hx hb dX4_field_214 (by decide) (fun c_214 => ?_) (fun c_214 => ?_)
                            · refine lv_iconst (v := 0) hx hb dX4_field_239 (by decide) ?_
                              refine va_zast hx hb hK hP hD hS 6 2 rfl rfl (md_none_in hn c_5) dX4_field_240 (fun H locs hP hD hS => ?_)
                              have hP : va_P (dC, dI) vwCl (mdW cI cJ cZ q aS aC aW aL aN aI aB aD aU aF n gv sz 0 sp se ct aw le (upd ne x.toNatClampNeg 0) (upd ins x.toNatClampNeg 0) ba dd cr nw cs un fr rl_ qs) H := hP
                              have hD : va_D (up_c (mdW cI cJ cZ q aS aC aW aL aN aI aB aD aU aF n gv sz cd sp se ct aw le ne ins ba dd cr nw cs un fr rl qs)) (mdW cI cJ cZ q aS aC aW aL aN aI aB aD aU aF n gv sz 0 sp se ct aw le (upd ne x.toNatClampNeg 0) (upd ins x.toNatClampNeg 0) ba dd cr nw cs un fr rl_ qs) := hD
                              refine lv_aload_n hx hb dX4_field_241 rfl (lv_at hl 1 rfl) ?_
                              refine va_get (D := (dC, dI)) (ci := 5) (v := .ref aN) (C := RX4) (T := TX4) (N := 20) hx hb hts inn_X4_field_X4 hown hK hP 0 rfl rfl 7 (by decide) (hts (.fieldLink RX4 24 "DoorKeysModel" "near" "[Z") (by decide +kernel)) (fun _ h9 => h9) rfl dX4_field_242 ?_
                              refine lv_iload_n hx hb dX4_field_245 rfl (lv_at hl 2 rfl) ?_
                              refine va_zald hx hb hK hP 5 2 rfl rfl (md_none_in hn c_5) dX4_field_246 ?_
                              refine lv_if_eq (tgt := 274) hx hb dX4_field_247 (by decide) (fun c_247 => ?_) (fun c_247 => ?_)
                              · refine lv_iconst (v := 0) hx hb dX4_field_274 (by decide) ?_
                                refine lv_istore (lv' := [(11, .int 0), (10, .int 1), (0, .ref q), (1, .int x), (2, .long y), (4, .long u), (8, .int v), (9, .int (nI b))]) hx hb dX4_field_275 hl (by decide) rfl (fun ls hl => ?_)
                                refine lv_aload_n hx hb dX4_field_277 rfl (lv_at hl 2 rfl) ?_
                                refine va_get (D := (dC, dI)) (ci := 5) (v := .ref aN) (C := RX4) (T := TX4) (N := 20) hx hb hts inn_X4_field_X4 hown hK hP 0 rfl rfl 7 (by decide) (hts (.fieldLink RX4 24 "DoorKeysModel" "near" "[Z") (by decide +kernel)) (fun _ h9 => h9) rfl dX4_field_278 ?_
                                refine lv_iload_n hx hb dX4_field_281 rfl (lv_at hl 3 rfl) ?_
                                refine va_zald hx hb hK hP 5 2 rfl rfl (md_none_in hn c_5) dX4_field_282 ?_
                                refine lv_if_ne (tgt := 295) hx hb dX4_field_283 (by decide) (fun c_283 => absurd c_247 c_283) (fun c_283 => ?_)
                                refine lv_aload_n hx hb dX4_field_286 rfl (lv_at hl 2 rfl) ?_
                                refine va_get (D := (dC, dI)) (ci := 5) (v := .ref aI) (C := RX4) (T := TX4) (N := 20) hx hb hts inn_X4_field_X4 hown hK hP 0 rfl rfl 8 (by decide) (hts (.fieldLink RX4 27 "DoorKeysModel" "inside" "[Z") (by decide +kernel)) (fun _ h9 => h9) rfl dX4_field_287 ?_
                                refine lv_iload_n hx hb dX4_field_290 rfl (lv_at hl 3 rfl) ?_
                                refine va_zald hx hb hK hP 6 2 rfl rfl (md_none_in hn c_5) dX4_field_291 ?_
                                refine lv_if_eq (tgt := 299) hx hb dX4_field_292 (by decide) (fun c_292 => ?_) (fun c_292 => ?_)
                                · refine lv_iconst (v := 0) hx hb dX4_field_299 (by decide) ?_
                                  have e_ : md_field_l le ne ins dd nw cs x y u v rl_ 0 j b = ((0 : Int32), rl_, (upd ne x.toNatClampNeg 0), (upd ins x.toNatClampNeg 0), dd, cs) := (md_field_l.eq_1 ..).trans ((if_neg c_145).trans ((if_pos c_150).trans ((if_pos c_182).trans ((if_neg c_206).trans ((if_pos c_214).trans ((if_pos c_247).trans ((if_pos c_292).trans rfl)))))))
                                  rw [e_]
                                  exact W.iret (v := 0) hx hb hr (fun t ht hW => ⟨rfl, by rw [ht]; exact hP, hS.F ht⟩) hS.2.2 dX4_field_300
                                · refine lv_iconst (v := 1) hx hb dX4_field_295 (by decide) ?_
                                  refine lv_goto (tgt := 300) hx hb dX4_field_296 (by decide) ?_
                                  have e_ : md_field_l le ne ins dd nw cs x y u v rl_ 0 j b = ((1 : Int32), rl_, (upd ne x.toNatClampNeg 0), (upd ins x.toNatClampNeg 0), dd, cs) := (md_field_l.eq_1 ..).trans ((if_neg c_145).trans ((if_pos c_150).trans ((if_pos c_182).trans ((if_neg c_206).trans ((if_pos c_214).trans ((if_pos c_247).trans ((if_neg c_292).trans rfl)))))))
                                  rw [e_]
                                  exact W.iret (v := 1) hx hb hr (fun t ht hW => ⟨rfl, by rw [ht]; exact hP, hS.F ht⟩) hS.2.2 dX4_field_300
                              · refine lv_aload_n hx hb dX4_field_250 rfl (lv_at hl 1 rfl) ?_
                                refine va_get (D := (dC, dI)) (ci := 5) (v := .ref aI) (C := RX4) (T := TX4) (N := 20) hx hb hts inn_X4_field_X4 hown hK hP 0 rfl rfl 8 (by decide) (hts (.fieldLink RX4 27 "DoorKeysModel" "inside" "[Z") (by decide +kernel)) (fun _ h9 => h9) rfl dX4_field_251 ?_
                                refine lv_iload_n hx hb dX4_field_254 rfl (lv_at hl 2 rfl) ?_
                                refine va_zald hx hb hK hP 6 2 rfl rfl (md_none_in hn c_5) dX4_field_255 ?_
                                refine lv_if_ne (tgt := 274) hx hb dX4_field_256 (by decide) (fun c_256 => ?_) (fun c_256 => ?_)
                                · refine lv_iconst (v := 0) hx hb dX4_field_274 (by decide) ?_
                                  refine lv_istore (lv' := [(11, .int 0), (10, .int 1), (0, .ref q), (1, .int x), (2, .long y), (4, .long u), (8, .int v), (9, .int (nI b))]) hx hb dX4_field_275 hl (by decide) rfl (fun ls hl => ?_)
                                  refine lv_aload_n hx hb dX4_field_277 rfl (lv_at hl 2 rfl) ?_
                                  refine va_get (D := (dC, dI)) (ci := 5) (v := .ref aN) (C := RX4) (T := TX4) (N := 20) hx hb hts inn_X4_field_X4 hown hK hP 0 rfl rfl 7 (by decide) (hts (.fieldLink RX4 24 "DoorKeysModel" "near" "[Z") (by decide +kernel)) (fun _ h9 => h9) rfl dX4_field_278 ?_
                                  refine lv_iload_n hx hb dX4_field_281 rfl (lv_at hl 3 rfl) ?_
                                  refine va_zald hx hb hK hP 5 2 rfl rfl (md_none_in hn c_5) dX4_field_282 ?_
                                  refine lv_if_ne (tgt := 295) hx hb dX4_field_283 (by decide) (fun c_283 => ?_) (fun c_283 => absurd c_283 c_247)
                                  refine lv_iconst (v := 1) hx hb dX4_field_295 (by decide) ?_
                                  refine lv_goto (tgt := 300) hx hb dX4_field_296 (by decide) ?_
                                  have e_ : md_field_l le ne ins dd nw cs x y u v rl_ 0 j b = ((1 : Int32), rl_, (upd ne x.toNatClampNeg 0), (upd ins x.toNatClampNeg 0), dd, cs) := (md_field_l.eq_1 ..).trans ((if_neg c_145).trans ((if_pos c_150).trans ((if_pos c_182).trans ((if_neg c_206).trans ((if_pos c_214).trans ((if_neg c_247).trans ((if_neg c_256).trans rfl)))))))
                                  rw [e_]
                                  exact W.iret (v := 1) hx hb hr (fun t ht hW => ⟨rfl, by rw [ht]; exact hP, hS.F ht⟩) hS.2.2 dX4_field_300
                                · refine lv_aload_n hx hb dX4_field_259 rfl (lv_at hl 1 rfl) ?_
                                  refine lv_iload hx hb dX4_field_260 (lv_at hl 6 rfl) ?_
                                  refine lv_iload hx hb dX4_field_262 (lv_at hl 6 rfl) ?_
                                  refine lv_iconst (v := 1) hx hb dX4_field_264 (by decide) ?_
                                  refine lv_iadd hx hb dX4_field_265 ?_
                                  rw [nI_1]
                                  refine lv_iconst (v := 3) hx hb dX4_field_266 (by decide) ?_
                                  refine lv_iconst (v := 0) hx hb dX4_field_267 (by decide) ?_
                                  refine up_call (W.runV (As := [.int (nI b), .int (nI (b + 1)), .int 3, .int 0]) (rest := []) ⟨hx, hb, hml, hown, hts⟩ (c_X4_turn l dC dI cI cJ cZ q aS aC aW aL aN aI aB aD aU aF n gv sz 0 sp se ct aw le (upd ne x.toNatClampNeg 0) (upd ins x.toNatClampNeg 0) ba dd cr nw cs un fr rl_ qs b (b + 1) 3 0 (by omega) (by omega)) (cwV 4 hts gX4_field_X4_turn rfl rfl rfl (by decide +kernel) ⟨Nat.le_of_ble_eq_true rfl, Nat.le_of_ble_eq_true rfl⟩) (up_preV (q0 := 0) (ci := 5) hP hK hD rfl rfl) rfl rfl hl.1 rfl (lv_room (Nat.le_of_ble_eq_true rfl)) dX4_field_268 ⟨Nat.le_of_ble_eq_true rfl, Nat.le_of_ble_eq_true rfl⟩) hD hS ((md_fst ..).trans (md_fst ..).symm) (fun H locs hP hD hS _ _ => ?_)
                                  have hP : va_P (dC, dI) vwCl (mdW cI cJ cZ q aS aC aW aL aN aI aB aD aU aF n gv sz 0 sp se ct aw le (upd ne x.toNatClampNeg 0) (upd ins x.toNatClampNeg 0) ba ((md_turn dd nw cs b (b + 1) 3 0).2.1) cr nw ((md_turn dd nw cs b (b + 1) 3 0).2.2) un fr rl_ qs) H := hP
                                  have hD : va_D (up_c (mdW cI cJ cZ q aS aC aW aL aN aI aB aD aU aF n gv sz cd sp se ct aw le ne ins ba dd cr nw cs un fr rl qs)) (mdW cI cJ cZ q aS aC aW aL aN aI aB aD aU aF n gv sz 0 sp se ct aw le (upd ne x.toNatClampNeg 0) (upd ins x.toNatClampNeg 0) ba ((md_turn dd nw cs b (b + 1) 3 0).2.1) cr nw ((md_turn dd nw cs b (b + 1) 3 0).2.2) un fr rl_ qs) := hD
                                  refine lv_goto (tgt := 275) hx hb dX4_field_271 (by decide) ?_
                                  refine lv_istore (lv' := [(11, .int ((md_turn dd nw cs b (b + 1) 3 0).1)), (10, .int 1), (0, .ref q), (1, .int x), (2, .long y), (4, .long u), (8, .int v), (9, .int (nI b))]) hx hb dX4_field_275 hl (by decide) rfl (fun ls hl => ?_)
                                  refine lv_aload_n hx hb dX4_field_277 rfl (lv_at hl 2 rfl) ?_
                                  refine va_get (D := (dC, dI)) (ci := 5) (v := .ref aN) (C := RX4) (T := TX4) (N := 20) hx hb hts inn_X4_field_X4 hown hK hP 0 rfl rfl 7 (by decide) (hts (.fieldLink RX4 24 "DoorKeysModel" "near" "[Z") (by decide +kernel)) (fun _ h9 => h9) rfl dX4_field_278 ?_
                                  refine lv_iload_n hx hb dX4_field_281 rfl (lv_at hl 3 rfl) ?_
                                  refine va_zald hx hb hK hP 5 2 rfl rfl (md_none_in hn c_5) dX4_field_282 ?_
                                  refine lv_if_ne (tgt := 295) hx hb dX4_field_283 (by decide) (fun c_283 => ?_) (fun c_283 => absurd c_283 c_247)
                                  refine lv_iconst (v := 1) hx hb dX4_field_295 (by decide) ?_
                                  refine lv_goto (tgt := 300) hx hb dX4_field_296 (by decide) ?_
                                  have e_ : md_field_l le ne ins dd nw cs x y u v rl_ 0 j b = ((1 : Int32), rl_, (upd ne x.toNatClampNeg 0), (upd ins x.toNatClampNeg 0), (md_turn dd nw cs b (b + 1) 3 0).2.1, (md_turn dd nw cs b (b + 1) 3 0).2.2) := (md_field_l.eq_1 ..).trans ((if_neg c_145).trans ((if_pos c_150).trans ((if_pos c_182).trans ((if_neg c_206).trans ((if_pos c_214).trans ((if_neg c_247).trans ((if_pos c_256).trans rfl)))))))
                                  rw [e_]
                                  exact W.iret (v := 1) hx hb hr (fun t ht hW => ⟨rfl, by rw [ht]; exact hP, hS.F ht⟩) hS.2.2 dX4_field_300
                            · refine lv_lload hx hb dX4_field_217 (lv_at hl 4 rfl) ?_
                              refine lv_ldc2 (v := (-800)) hx hb hown (hts (.constantLong RX4 134 (-800)) (by decide +kernel)) dX4_field_219 ?_
                              refine W.lcmp hx hb dX4_field_222 ?_
                              refine lv_if_lt (tgt := 239) hx hb dX4_field_223 (by decide) (fun c_223 => ?_) (fun c_223 => ?_)
                              · refine lv_iconst (v := 0) hx hb dX4_field_239 (by decide) ?_
                                refine va_zast hx hb hK hP hD hS 6 2 rfl rfl (md_none_in hn c_5) dX4_field_240 (fun H locs hP hD hS => ?_)
                                have hP : va_P (dC, dI) vwCl (mdW cI cJ cZ q aS aC aW aL aN aI aB aD aU aF n gv sz 0 sp se ct aw le (upd ne x.toNatClampNeg 0) (upd ins x.toNatClampNeg 0) ba dd cr nw cs un fr rl_ qs) H := hP
                                have hD : va_D (up_c (mdW cI cJ cZ q aS aC aW aL aN aI aB aD aU aF n gv sz cd sp se ct aw le ne ins ba dd cr nw cs un fr rl qs)) (mdW cI cJ cZ q aS aC aW aL aN aI aB aD aU aF n gv sz 0 sp se ct aw le (upd ne x.toNatClampNeg 0) (upd ins x.toNatClampNeg 0) ba dd cr nw cs un fr rl_ qs) := hD
                                refine lv_aload_n hx hb dX4_field_241 rfl (lv_at hl 1 rfl) ?_
                                refine va_get (D := (dC, dI)) (ci := 5) (v := .ref aN) (C := RX4) (T := TX4) (N := 20) hx hb hts inn_X4_field_X4 hown hK hP 0 rfl rfl 7 (by decide) (hts (.fieldLink RX4 24 "DoorKeysModel" "near" "[Z") (by decide +kernel)) (fun _ h9 => h9) rfl dX4_field_242 ?_
                                refine lv_iload_n hx hb dX4_field_245 rfl (lv_at hl 2 rfl) ?_
                                refine va_zald hx hb hK hP 5 2 rfl rfl (md_none_in hn c_5) dX4_field_246 ?_
                                refine lv_if_eq (tgt := 274) hx hb dX4_field_247 (by decide) (fun c_247 => ?_) (fun c_247 => ?_)
                                · refine lv_iconst (v := 0) hx hb dX4_field_274 (by decide) ?_
                                  refine lv_istore (lv' := [(11, .int 0), (10, .int 1), (0, .ref q), (1, .int x), (2, .long y), (4, .long u), (8, .int v), (9, .int (nI b))]) hx hb dX4_field_275 hl (by decide) rfl (fun ls hl => ?_)
                                  refine lv_aload_n hx hb dX4_field_277 rfl (lv_at hl 2 rfl) ?_
                                  refine va_get (D := (dC, dI)) (ci := 5) (v := .ref aN) (C := RX4) (T := TX4) (N := 20) hx hb hts inn_X4_field_X4 hown hK hP 0 rfl rfl 7 (by decide) (hts (.fieldLink RX4 24 "DoorKeysModel" "near" "[Z") (by decide +kernel)) (fun _ h9 => h9) rfl dX4_field_278 ?_
                                  refine lv_iload_n hx hb dX4_field_281 rfl (lv_at hl 3 rfl) ?_
                                  refine va_zald hx hb hK hP 5 2 rfl rfl (md_none_in hn c_5) dX4_field_282 ?_
                                  refine lv_if_ne (tgt := 295) hx hb dX4_field_283 (by decide) (fun c_283 => absurd c_247 c_283) (fun c_283 => ?_)
                                  refine lv_aload_n hx hb dX4_field_286 rfl (lv_at hl 2 rfl) ?_
                                  refine va_get (D := (dC, dI)) (ci := 5) (v := .ref aI) (C := RX4) (T := TX4) (N := 20) hx hb hts inn_X4_field_X4 hown hK hP 0 rfl rfl 8 (by decide) (hts (.fieldLink RX4 27 "DoorKeysModel" "inside" "[Z") (by decide +kernel)) (fun _ h9 => h9) rfl dX4_field_287 ?_
                                  refine lv_iload_n hx hb dX4_field_290 rfl (lv_at hl 3 rfl) ?_
                                  refine va_zald hx hb hK hP 6 2 rfl rfl (md_none_in hn c_5) dX4_field_291 ?_
                                  refine lv_if_eq (tgt := 299) hx hb dX4_field_292 (by decide) (fun c_292 => ?_) (fun c_292 => ?_)
                                  · refine lv_iconst (v := 0) hx hb dX4_field_299 (by decide) ?_
                                    have e_ : md_field_l le ne ins dd nw cs x y u v rl_ 0 j b = ((0 : Int32), rl_, (upd ne x.toNatClampNeg 0), (upd ins x.toNatClampNeg 0), dd, cs) := (md_field_l.eq_1 ..).trans ((if_neg c_145).trans ((if_pos c_150).trans ((if_pos c_182).trans ((if_neg c_206).trans ((if_neg c_214).trans ((if_pos c_223).trans ((if_pos c_247).trans ((if_pos c_292).trans rfl))))))))
                                    rw [e_]
                                    exact W.iret (v := 0) hx hb hr (fun t ht hW => ⟨rfl, by rw [ht]; exact hP, hS.F ht⟩) hS.2.2 dX4_field_300
                                  · refine lv_iconst (v := 1) hx hb dX4_field_295 (by decide) ?_
                                    refine lv_goto (tgt := 300) hx hb dX4_field_296 (by decide) ?_
                                    have e_ : md_field_l le ne ins dd nw cs x y u v rl_ 0 j b = ((1 : Int32), rl_, (upd ne x.toNatClampNeg 0), (upd ins x.toNatClampNeg 0), dd, cs) := (md_field_l.eq_1 ..).trans ((if_neg c_145).trans ((if_pos c_150).trans ((if_pos c_182).trans ((if_neg c_206).trans ((if_neg c_214).trans ((if_pos c_223).trans ((if_pos c_247).trans ((if_neg c_292).trans rfl))))))))
                                    rw [e_]
                                    exact W.iret (v := 1) hx hb hr (fun t ht hW => ⟨rfl, by rw [ht]; exact hP, hS.F ht⟩) hS.2.2 dX4_field_300
                                · refine lv_aload_n hx hb dX4_field_250 rfl (lv_at hl 1 rfl) ?_
                                  refine va_get (D := (dC, dI)) (ci := 5) (v := .ref aI) (C := RX4) (T := TX4) (N := 20) hx hb hts inn_X4_field_X4 hown hK hP 0 rfl rfl 8 (by decide) (hts (.fieldLink RX4 27 "DoorKeysModel" "inside" "[Z") (by decide +kernel)) (fun _ h9 => h9) rfl dX4_field_251 ?_
                                  refine lv_iload_n hx hb dX4_field_254 rfl (lv_at hl 2 rfl) ?_
                                  refine va_zald hx hb hK hP 6 2 rfl rfl (md_none_in hn c_5) dX4_field_255 ?_
                                  refine lv_if_ne (tgt := 274) hx hb dX4_field_256 (by decide) (fun c_256 => ?_) (fun c_256 => ?_)
                                  · refine lv_iconst (v := 0) hx hb dX4_field_274 (by decide) ?_
                                    refine lv_istore (lv' := [(11, .int 0), (10, .int 1), (0, .ref q), (1, .int x), (2, .long y), (4, .long u), (8, .int v), (9, .int (nI b))]) hx hb dX4_field_275 hl (by decide) rfl (fun ls hl => ?_)
                                    refine lv_aload_n hx hb dX4_field_277 rfl (lv_at hl 2 rfl) ?_
                                    refine va_get (D := (dC, dI)) (ci := 5) (v := .ref aN) (C := RX4) (T := TX4) (N := 20) hx hb hts inn_X4_field_X4 hown hK hP 0 rfl rfl 7 (by decide) (hts (.fieldLink RX4 24 "DoorKeysModel" "near" "[Z") (by decide +kernel)) (fun _ h9 => h9) rfl dX4_field_278 ?_
                                    refine lv_iload_n hx hb dX4_field_281 rfl (lv_at hl 3 rfl) ?_
                                    refine va_zald hx hb hK hP 5 2 rfl rfl (md_none_in hn c_5) dX4_field_282 ?_
                                    refine lv_if_ne (tgt := 295) hx hb dX4_field_283 (by decide) (fun c_283 => ?_) (fun c_283 => absurd c_283 c_247)
                                    refine lv_iconst (v := 1) hx hb dX4_field_295 (by decide) ?_
                                    refine lv_goto (tgt := 300) hx hb dX4_field_296 (by decide) ?_
                                    have e_ : md_field_l le ne ins dd nw cs x y u v rl_ 0 j b = ((1 : Int32), rl_, (upd ne x.toNatClampNeg 0), (upd ins x.toNatClampNeg 0), dd, cs) := (md_field_l.eq_1 ..).trans ((if_neg c_145).trans ((if_pos c_150).trans ((if_pos c_182).trans ((if_neg c_206).trans ((if_neg c_214).trans ((if_pos c_223).trans ((if_neg c_247).trans ((if_neg c_256).trans rfl))))))))
                                    rw [e_]
                                    exact W.iret (v := 1) hx hb hr (fun t ht hW => ⟨rfl, by rw [ht]; exact hP, hS.F ht⟩) hS.2.2 dX4_field_300
                                  · refine lv_aload_n hx hb dX4_field_259 rfl (lv_at hl 1 rfl) ?_
                                    refine lv_iload hx hb dX4_field_260 (lv_at hl 6 rfl) ?_
                                    refine lv_iload hx hb dX4_field_262 (lv_at hl 6 rfl) ?_
                                    refine lv_iconst (v := 1) hx hb dX4_field_264 (by decide) ?_
                                    refine lv_iadd hx hb dX4_field_265 ?_
                                    rw [nI_1]
                                    refine lv_iconst (v := 3) hx hb dX4_field_266 (by decide) ?_
                                    refine lv_iconst (v := 0) hx hb dX4_field_267 (by decide) ?_
                                    refine up_call (W.runV (As := [.int (nI b), .int (nI (b + 1)), .int 3, .int 0]) (rest := []) ⟨hx, hb, hml, hown, hts⟩ (c_X4_turn l dC dI cI cJ cZ q aS aC aW aL aN aI aB aD aU aF n gv sz 0 sp se ct aw le (upd ne x.toNatClampNeg 0) (upd ins x.toNatClampNeg 0) ba dd cr nw cs un fr rl_ qs b (b + 1) 3 0 (by omega) (by omega)) (cwV 4 hts gX4_field_X4_turn rfl rfl rfl (by decide +kernel) ⟨Nat.le_of_ble_eq_true rfl, Nat.le_of_ble_eq_true rfl⟩) (up_preV (q0 := 0) (ci := 5) hP hK hD rfl rfl) rfl rfl hl.1 rfl (lv_room (Nat.le_of_ble_eq_true rfl)) dX4_field_268 ⟨Nat.le_of_ble_eq_true rfl, Nat.le_of_ble_eq_true rfl⟩) hD hS ((md_fst ..).trans (md_fst ..).symm) (fun H locs hP hD hS _ _ => ?_)
                                    have hP : va_P (dC, dI) vwCl (mdW cI cJ cZ q aS aC aW aL aN aI aB aD aU aF n gv sz 0 sp se ct aw le (upd ne x.toNatClampNeg 0) (upd ins x.toNatClampNeg 0) ba ((md_turn dd nw cs b (b + 1) 3 0).2.1) cr nw ((md_turn dd nw cs b (b + 1) 3 0).2.2) un fr rl_ qs) H := hP
                                    have hD : va_D (up_c (mdW cI cJ cZ q aS aC aW aL aN aI aB aD aU aF n gv sz cd sp se ct aw le ne ins ba dd cr nw cs un fr rl qs)) (mdW cI cJ cZ q aS aC aW aL aN aI aB aD aU aF n gv sz 0 sp se ct aw le (upd ne x.toNatClampNeg 0) (upd ins x.toNatClampNeg 0) ba ((md_turn dd nw cs b (b + 1) 3 0).2.1) cr nw ((md_turn dd nw cs b (b + 1) 3 0).2.2) un fr rl_ qs) := hD
                                    refine lv_goto (tgt := 275) hx hb dX4_field_271 (by decide) ?_
                                    refine lv_istore (lv' := [(11, .int ((md_turn dd nw cs b (b + 1) 3 0).1)), (10, .int 1), (0, .ref q), (1, .int x), (2, .long y), (4, .long u), (8, .int v), (9, .int (nI b))]) hx hb dX4_field_275 hl (by decide) rfl (fun ls hl => ?_)
                                    refine lv_aload_n hx hb dX4_field_277 rfl (lv_at hl 2 rfl) ?_
                                    refine va_get (D := (dC, dI)) (ci := 5) (v := .ref aN) (C := RX4) (T := TX4) (N := 20) hx hb hts inn_X4_field_X4 hown hK hP 0 rfl rfl 7 (by decide) (hts (.fieldLink RX4 24 "DoorKeysModel" "near" "[Z") (by decide +kernel)) (fun _ h9 => h9) rfl dX4_field_278 ?_
                                    refine lv_iload_n hx hb dX4_field_281 rfl (lv_at hl 3 rfl) ?_
                                    refine va_zald hx hb hK hP 5 2 rfl rfl (md_none_in hn c_5) dX4_field_282 ?_
                                    refine lv_if_ne (tgt := 295) hx hb dX4_field_283 (by decide) (fun c_283 => ?_) (fun c_283 => absurd c_283 c_247)
                                    refine lv_iconst (v := 1) hx hb dX4_field_295 (by decide) ?_
                                    refine lv_goto (tgt := 300) hx hb dX4_field_296 (by decide) ?_
                                    have e_ : md_field_l le ne ins dd nw cs x y u v rl_ 0 j b = ((1 : Int32), rl_, (upd ne x.toNatClampNeg 0), (upd ins x.toNatClampNeg 0), (md_turn dd nw cs b (b + 1) 3 0).2.1, (md_turn dd nw cs b (b + 1) 3 0).2.2) := (md_field_l.eq_1 ..).trans ((if_neg c_145).trans ((if_pos c_150).trans ((if_pos c_182).trans ((if_neg c_206).trans ((if_neg c_214).trans ((if_pos c_223).trans ((if_neg c_247).trans ((if_pos c_256).trans rfl))))))))
                                    rw [e_]
                                    exact W.iret (v := 1) hx hb hr (fun t ht hW => ⟨rfl, by rw [ht]; exact hP, hS.F ht⟩) hS.2.2 dX4_field_300
                              · refine lv_lload hx hb dX4_field_226 (lv_at hl 4 rfl) ?_
                                refine lv_ldc2 (v := 800) hx hb hown (hts (.constantLong RX4 136 800) (by decide +kernel)) dX4_field_228 ?_
                                refine W.lcmp hx hb dX4_field_231 ?_
                                refine lv_if_gt (tgt := 239) hx hb dX4_field_232 (by decide) (fun c_232 => ?_) (fun c_232 => ?_)
                                · refine lv_iconst (v := 0) hx hb dX4_field_239 (by decide) ?_
                                  refine va_zast hx hb hK hP hD hS 6 2 rfl rfl (md_none_in hn c_5) dX4_field_240 (fun H locs hP hD hS => ?_)
                                  have hP : va_P (dC, dI) vwCl (mdW cI cJ cZ q aS aC aW aL aN aI aB aD aU aF n gv sz 0 sp se ct aw le (upd ne x.toNatClampNeg 0) (upd ins x.toNatClampNeg 0) ba dd cr nw cs un fr rl_ qs) H := hP
                                  have hD : va_D (up_c (mdW cI cJ cZ q aS aC aW aL aN aI aB aD aU aF n gv sz cd sp se ct aw le ne ins ba dd cr nw cs un fr rl qs)) (mdW cI cJ cZ q aS aC aW aL aN aI aB aD aU aF n gv sz 0 sp se ct aw le (upd ne x.toNatClampNeg 0) (upd ins x.toNatClampNeg 0) ba dd cr nw cs un fr rl_ qs) := hD
                                  refine lv_aload_n hx hb dX4_field_241 rfl (lv_at hl 1 rfl) ?_
                                  refine va_get (D := (dC, dI)) (ci := 5) (v := .ref aN) (C := RX4) (T := TX4) (N := 20) hx hb hts inn_X4_field_X4 hown hK hP 0 rfl rfl 7 (by decide) (hts (.fieldLink RX4 24 "DoorKeysModel" "near" "[Z") (by decide +kernel)) (fun _ h9 => h9) rfl dX4_field_242 ?_
                                  refine lv_iload_n hx hb dX4_field_245 rfl (lv_at hl 2 rfl) ?_
                                  refine va_zald hx hb hK hP 5 2 rfl rfl (md_none_in hn c_5) dX4_field_246 ?_
                                  refine lv_if_eq (tgt := 274) hx hb dX4_field_247 (by decide) (fun c_247 => ?_) (fun c_247 => ?_)
                                  · refine lv_iconst (v := 0) hx hb dX4_field_274 (by decide) ?_
                                    refine lv_istore (lv' := [(11, .int 0), (10, .int 1), (0, .ref q), (1, .int x), (2, .long y), (4, .long u), (8, .int v), (9, .int (nI b))]) hx hb dX4_field_275 hl (by decide) rfl (fun ls hl => ?_)
                                    refine lv_aload_n hx hb dX4_field_277 rfl (lv_at hl 2 rfl) ?_
                                    refine va_get (D := (dC, dI)) (ci := 5) (v := .ref aN) (C := RX4) (T := TX4) (N := 20) hx hb hts inn_X4_field_X4 hown hK hP 0 rfl rfl 7 (by decide) (hts (.fieldLink RX4 24 "DoorKeysModel" "near" "[Z") (by decide +kernel)) (fun _ h9 => h9) rfl dX4_field_278 ?_
                                    refine lv_iload_n hx hb dX4_field_281 rfl (lv_at hl 3 rfl) ?_
                                    refine va_zald hx hb hK hP 5 2 rfl rfl (md_none_in hn c_5) dX4_field_282 ?_
                                    refine lv_if_ne (tgt := 295) hx hb dX4_field_283 (by decide) (fun c_283 => absurd c_247 c_283) (fun c_283 => ?_)
                                    refine lv_aload_n hx hb dX4_field_286 rfl (lv_at hl 2 rfl) ?_
                                    refine va_get (D := (dC, dI)) (ci := 5) (v := .ref aI) (C := RX4) (T := TX4) (N := 20) hx hb hts inn_X4_field_X4 hown hK hP 0 rfl rfl 8 (by decide) (hts (.fieldLink RX4 27 "DoorKeysModel" "inside" "[Z") (by decide +kernel)) (fun _ h9 => h9) rfl dX4_field_287 ?_
                                    refine lv_iload_n hx hb dX4_field_290 rfl (lv_at hl 3 rfl) ?_
                                    refine va_zald hx hb hK hP 6 2 rfl rfl (md_none_in hn c_5) dX4_field_291 ?_
                                    refine lv_if_eq (tgt := 299) hx hb dX4_field_292 (by decide) (fun c_292 => ?_) (fun c_292 => ?_)
                                    · refine lv_iconst (v := 0) hx hb dX4_field_299 (by decide) ?_
                                      have e_ : md_field_l le ne ins dd nw cs x y u v rl_ 0 j b = ((0 : Int32), rl_, (upd ne x.toNatClampNeg 0), (upd ins x.toNatClampNeg 0), dd, cs) := (md_field_l.eq_1 ..).trans ((if_neg c_145).trans ((if_pos c_150).trans ((if_pos c_182).trans ((if_neg c_206).trans ((if_neg c_214).trans ((if_neg c_223).trans ((if_pos c_232).trans ((if_pos c_247).trans ((if_pos c_292).trans rfl)))))))))
                                      rw [e_]
                                      exact W.iret (v := 0) hx hb hr (fun t ht hW => ⟨rfl, by rw [ht]; exact hP, hS.F ht⟩) hS.2.2 dX4_field_300
                                    · refine lv_iconst (v := 1) hx hb dX4_field_295 (by decide) ?_
                                      refine lv_goto (tgt := 300) hx hb dX4_field_296 (by decide) ?_
                                      have e_ : md_field_l le ne ins dd nw cs x y u v rl_ 0 j b = ((1 : Int32), rl_, (upd ne x.toNatClampNeg 0), (upd ins x.toNatClampNeg 0), dd, cs) := (md_field_l.eq_1 ..).trans ((if_neg c_145).trans ((if_pos c_150).trans ((if_pos c_182).trans ((if_neg c_206).trans ((if_neg c_214).trans ((if_neg c_223).trans ((if_pos c_232).trans ((if_pos c_247).trans ((if_neg c_292).trans rfl)))))))))
                                      rw [e_]
                                      exact W.iret (v := 1) hx hb hr (fun t ht hW => ⟨rfl, by rw [ht]; exact hP, hS.F ht⟩) hS.2.2 dX4_field_300
                                  · refine lv_aload_n hx hb dX4_field_250 rfl (lv_at hl 1 rfl) ?_
                                    refine va_get (D := (dC, dI)) (ci := 5) (v := .ref aI) (C := RX4) (T := TX4) (N := 20) hx hb hts inn_X4_field_X4 hown hK hP 0 rfl rfl 8 (by decide) (hts (.fieldLink RX4 27 "DoorKeysModel" "inside" "[Z") (by decide +kernel)) (fun _ h9 => h9) rfl dX4_field_251 ?_
                                    refine lv_iload_n hx hb dX4_field_254 rfl (lv_at hl 2 rfl) ?_
                                    refine va_zald hx hb hK hP 6 2 rfl rfl (md_none_in hn c_5) dX4_field_255 ?_
                                    refine lv_if_ne (tgt := 274) hx hb dX4_field_256 (by decide) (fun c_256 => ?_) (fun c_256 => ?_)
                                    · refine lv_iconst (v := 0) hx hb dX4_field_274 (by decide) ?_
                                      refine lv_istore (lv' := [(11, .int 0), (10, .int 1), (0, .ref q), (1, .int x), (2, .long y), (4, .long u), (8, .int v), (9, .int (nI b))]) hx hb dX4_field_275 hl (by decide) rfl (fun ls hl => ?_)
                                      refine lv_aload_n hx hb dX4_field_277 rfl (lv_at hl 2 rfl) ?_
                                      refine va_get (D := (dC, dI)) (ci := 5) (v := .ref aN) (C := RX4) (T := TX4) (N := 20) hx hb hts inn_X4_field_X4 hown hK hP 0 rfl rfl 7 (by decide) (hts (.fieldLink RX4 24 "DoorKeysModel" "near" "[Z") (by decide +kernel)) (fun _ h9 => h9) rfl dX4_field_278 ?_
                                      refine lv_iload_n hx hb dX4_field_281 rfl (lv_at hl 3 rfl) ?_
                                      refine va_zald hx hb hK hP 5 2 rfl rfl (md_none_in hn c_5) dX4_field_282 ?_
                                      refine lv_if_ne (tgt := 295) hx hb dX4_field_283 (by decide) (fun c_283 => ?_) (fun c_283 => absurd c_283 c_247)
                                      refine lv_iconst (v := 1) hx hb dX4_field_295 (by decide) ?_
                                      refine lv_goto (tgt := 300) hx hb dX4_field_296 (by decide) ?_
                                      have e_ : md_field_l le ne ins dd nw cs x y u v rl_ 0 j b = ((1 : Int32), rl_, (upd ne x.toNatClampNeg 0), (upd ins x.toNatClampNeg 0), dd, cs) := (md_field_l.eq_1 ..).trans ((if_neg c_145).trans ((if_pos c_150).trans ((if_pos c_182).trans ((if_neg c_206).trans ((if_neg c_214).trans ((if_neg c_223).trans ((if_pos c_232).trans ((if_neg c_247).trans ((if_neg c_256).trans rfl)))))))))
                                      rw [e_]
                                      exact W.iret (v := 1) hx hb hr (fun t ht hW => ⟨rfl, by rw [ht]; exact hP, hS.F ht⟩) hS.2.2 dX4_field_300
                                    · refine lv_aload_n hx hb dX4_field_259 rfl (lv_at hl 1 rfl) ?_
                                      refine lv_iload hx hb dX4_field_260 (lv_at hl 6 rfl) ?_
                                      refine lv_iload hx hb dX4_field_262 (lv_at hl 6 rfl) ?_
                                      refine lv_iconst (v := 1) hx hb dX4_field_264 (by decide) ?_
                                      refine lv_iadd hx hb dX4_field_265 ?_
                                      rw [nI_1]
                                      refine lv_iconst (v := 3) hx hb dX4_field_266 (by decide) ?_
                                      refine lv_iconst (v := 0) hx hb dX4_field_267 (by decide) ?_
                                      refine up_call (W.runV (As := [.int (nI b), .int (nI (b + 1)), .int 3, .int 0]) (rest := []) ⟨hx, hb, hml, hown, hts⟩ (c_X4_turn l dC dI cI cJ cZ q aS aC aW aL aN aI aB aD aU aF n gv sz 0 sp se ct aw le (upd ne x.toNatClampNeg 0) (upd ins x.toNatClampNeg 0) ba dd cr nw cs un fr rl_ qs b (b + 1) 3 0 (by omega) (by omega)) (cwV 4 hts gX4_field_X4_turn rfl rfl rfl (by decide +kernel) ⟨Nat.le_of_ble_eq_true rfl, Nat.le_of_ble_eq_true rfl⟩) (up_preV (q0 := 0) (ci := 5) hP hK hD rfl rfl) rfl rfl hl.1 rfl (lv_room (Nat.le_of_ble_eq_true rfl)) dX4_field_268 ⟨Nat.le_of_ble_eq_true rfl, Nat.le_of_ble_eq_true rfl⟩) hD hS ((md_fst ..).trans (md_fst ..).symm) (fun H locs hP hD hS _ _ => ?_)
                                      have hP : va_P (dC, dI) vwCl (mdW cI cJ cZ q aS aC aW aL aN aI aB aD aU aF n gv sz 0 sp se ct aw le (upd ne x.toNatClampNeg 0) (upd ins x.toNatClampNeg 0) ba ((md_turn dd nw cs b (b + 1) 3 0).2.1) cr nw ((md_turn dd nw cs b (b + 1) 3 0).2.2) un fr rl_ qs) H := hP
                                      have hD : va_D (up_c (mdW cI cJ cZ q aS aC aW aL aN aI aB aD aU aF n gv sz cd sp se ct aw le ne ins ba dd cr nw cs un fr rl qs)) (mdW cI cJ cZ q aS aC aW aL aN aI aB aD aU aF n gv sz 0 sp se ct aw le (upd ne x.toNatClampNeg 0) (upd ins x.toNatClampNeg 0) ba ((md_turn dd nw cs b (b + 1) 3 0).2.1) cr nw ((md_turn dd nw cs b (b + 1) 3 0).2.2) un fr rl_ qs) := hD
                                      refine lv_goto (tgt := 275) hx hb dX4_field_271 (by decide) ?_
                                      refine lv_istore (lv' := [(11, .int ((md_turn dd nw cs b (b + 1) 3 0).1)), (10, .int 1), (0, .ref q), (1, .int x), (2, .long y), (4, .long u), (8, .int v), (9, .int (nI b))]) hx hb dX4_field_275 hl (by decide) rfl (fun ls hl => ?_)
                                      refine lv_aload_n hx hb dX4_field_277 rfl (lv_at hl 2 rfl) ?_
                                      refine va_get (D := (dC, dI)) (ci := 5) (v := .ref aN) (C := RX4) (T := TX4) (N := 20) hx hb hts inn_X4_field_X4 hown hK hP 0 rfl rfl 7 (by decide) (hts (.fieldLink RX4 24 "DoorKeysModel" "near" "[Z") (by decide +kernel)) (fun _ h9 => h9) rfl dX4_field_278 ?_
                                      refine lv_iload_n hx hb dX4_field_281 rfl (lv_at hl 3 rfl) ?_
                                      refine va_zald hx hb hK hP 5 2 rfl rfl (md_none_in hn c_5) dX4_field_282 ?_
                                      refine lv_if_ne (tgt := 295) hx hb dX4_field_283 (by decide) (fun c_283 => ?_) (fun c_283 => absurd c_283 c_247)
                                      refine lv_iconst (v := 1) hx hb dX4_field_295 (by decide) ?_
                                      refine lv_goto (tgt := 300) hx hb dX4_field_296 (by decide) ?_
                                      have e_ : md_field_l le ne ins dd nw cs x y u v rl_ 0 j b = ((1 : Int32), rl_, (upd ne x.toNatClampNeg 0), (upd ins x.toNatClampNeg 0), (md_turn dd nw cs b (b + 1) 3 0).2.1, (md_turn dd nw cs b (b + 1) 3 0).2.2) := (md_field_l.eq_1 ..).trans ((if_neg c_145).trans ((if_pos c_150).trans ((if_pos c_182).trans ((if_neg c_206).trans ((if_neg c_214).trans ((if_neg c_223).trans ((if_pos c_232).trans ((if_neg c_247).trans ((if_pos c_256).trans rfl)))))))))
                                      rw [e_]
                                      exact W.iret (v := 1) hx hb hr (fun t ht hW => ⟨rfl, by rw [ht]; exact hP, hS.F ht⟩) hS.2.2 dX4_field_300
                                · refine lv_iconst (v := 1) hx hb dX4_field_235 (by decide) ?_
                                  refine lv_goto (tgt := 240) hx hb dX4_field_236 (by decide) ?_
                                  refine va_zast hx hb hK hP hD hS 6 2 rfl rfl (md_none_in hn c_5) dX4_field_240 (fun H locs hP hD hS => ?_)
                                  have hP : va_P (dC, dI) vwCl (mdW cI cJ cZ q aS aC aW aL aN aI aB aD aU aF n gv sz 0 sp se ct aw le (upd ne x.toNatClampNeg 0) (upd ins x.toNatClampNeg 1) ba dd cr nw cs un fr rl_ qs) H := hP
                                  have hD : va_D (up_c (mdW cI cJ cZ q aS aC aW aL aN aI aB aD aU aF n gv sz cd sp se ct aw le ne ins ba dd cr nw cs un fr rl qs)) (mdW cI cJ cZ q aS aC aW aL aN aI aB aD aU aF n gv sz 0 sp se ct aw le (upd ne x.toNatClampNeg 0) (upd ins x.toNatClampNeg 1) ba dd cr nw cs un fr rl_ qs) := hD
                                  refine lv_aload_n hx hb dX4_field_241 rfl (lv_at hl 1 rfl) ?_
                                  refine va_get (D := (dC, dI)) (ci := 5) (v := .ref aN) (C := RX4) (T := TX4) (N := 20) hx hb hts inn_X4_field_X4 hown hK hP 0 rfl rfl 7 (by decide) (hts (.fieldLink RX4 24 "DoorKeysModel" "near" "[Z") (by decide +kernel)) (fun _ h9 => h9) rfl dX4_field_242 ?_
                                  refine lv_iload_n hx hb dX4_field_245 rfl (lv_at hl 2 rfl) ?_
                                  refine va_zald hx hb hK hP 5 2 rfl rfl (md_none_in hn c_5) dX4_field_246 ?_
                                  refine lv_if_eq (tgt := 274) hx hb dX4_field_247 (by decide) (fun c_247 => ?_) (fun c_247 => ?_)
                                  · refine lv_iconst (v := 0) hx hb dX4_field_274 (by decide) ?_
                                    refine lv_istore (lv' := [(11, .int 0), (10, .int 1), (0, .ref q), (1, .int x), (2, .long y), (4, .long u), (8, .int v), (9, .int (nI b))]) hx hb dX4_field_275 hl (by decide) rfl (fun ls hl => ?_)
                                    refine lv_aload_n hx hb dX4_field_277 rfl (lv_at hl 2 rfl) ?_
                                    refine va_get (D := (dC, dI)) (ci := 5) (v := .ref aN) (C := RX4) (T := TX4) (N := 20) hx hb hts inn_X4_field_X4 hown hK hP 0 rfl rfl 7 (by decide) (hts (.fieldLink RX4 24 "DoorKeysModel" "near" "[Z") (by decide +kernel)) (fun _ h9 => h9) rfl dX4_field_278 ?_
                                    refine lv_iload_n hx hb dX4_field_281 rfl (lv_at hl 3 rfl) ?_
                                    refine va_zald hx hb hK hP 5 2 rfl rfl (md_none_in hn c_5) dX4_field_282 ?_
                                    refine lv_if_ne (tgt := 295) hx hb dX4_field_283 (by decide) (fun c_283 => absurd c_247 c_283) (fun c_283 => ?_)
                                    refine lv_aload_n hx hb dX4_field_286 rfl (lv_at hl 2 rfl) ?_
                                    refine va_get (D := (dC, dI)) (ci := 5) (v := .ref aI) (C := RX4) (T := TX4) (N := 20) hx hb hts inn_X4_field_X4 hown hK hP 0 rfl rfl 8 (by decide) (hts (.fieldLink RX4 27 "DoorKeysModel" "inside" "[Z") (by decide +kernel)) (fun _ h9 => h9) rfl dX4_field_287 ?_
                                    refine lv_iload_n hx hb dX4_field_290 rfl (lv_at hl 3 rfl) ?_
                                    refine va_zald hx hb hK hP 6 2 rfl rfl (md_none_in hn c_5) dX4_field_291 ?_
                                    refine lv_if_eq (tgt := 299) hx hb dX4_field_292 (by decide) (fun c_292 => ?_) (fun c_292 => ?_)
                                    · refine lv_iconst (v := 0) hx hb dX4_field_299 (by decide) ?_
                                      have e_ : md_field_l le ne ins dd nw cs x y u v rl_ 0 j b = ((0 : Int32), rl_, (upd ne x.toNatClampNeg 0), (upd ins x.toNatClampNeg 1), dd, cs) := (md_field_l.eq_1 ..).trans ((if_neg c_145).trans ((if_pos c_150).trans ((if_pos c_182).trans ((if_neg c_206).trans ((if_neg c_214).trans ((if_neg c_223).trans ((if_neg c_232).trans ((if_pos c_247).trans ((if_pos c_292).trans rfl)))))))))
                                      rw [e_]
                                      exact W.iret (v := 0) hx hb hr (fun t ht hW => ⟨rfl, by rw [ht]; exact hP, hS.F ht⟩) hS.2.2 dX4_field_300
                                    · refine lv_iconst (v := 1) hx hb dX4_field_295 (by decide) ?_
                                      refine lv_goto (tgt := 300) hx hb dX4_field_296 (by decide) ?_
                                      have e_ : md_field_l le ne ins dd nw cs x y u v rl_ 0 j b = ((1 : Int32), rl_, (upd ne x.toNatClampNeg 0), (upd ins x.toNatClampNeg 1), dd, cs) := (md_field_l.eq_1 ..).trans ((if_neg c_145).trans ((if_pos c_150).trans ((if_pos c_182).trans ((if_neg c_206).trans ((if_neg c_214).trans ((if_neg c_223).trans ((if_neg c_232).trans ((if_pos c_247).trans ((if_neg c_292).trans rfl)))))))))
                                      rw [e_]
                                      exact W.iret (v := 1) hx hb hr (fun t ht hW => ⟨rfl, by rw [ht]; exact hP, hS.F ht⟩) hS.2.2 dX4_field_300
                                  · refine lv_aload_n hx hb dX4_field_250 rfl (lv_at hl 1 rfl) ?_
                                    refine va_get (D := (dC, dI)) (ci := 5) (v := .ref aI) (C := RX4) (T := TX4) (N := 20) hx hb hts inn_X4_field_X4 hown hK hP 0 rfl rfl 8 (by decide) (hts (.fieldLink RX4 27 "DoorKeysModel" "inside" "[Z") (by decide +kernel)) (fun _ h9 => h9) rfl dX4_field_251 ?_
                                    refine lv_iload_n hx hb dX4_field_254 rfl (lv_at hl 2 rfl) ?_
                                    refine va_zald hx hb hK hP 6 2 rfl rfl (md_none_in hn c_5) dX4_field_255 ?_
                                    refine lv_if_ne (tgt := 274) hx hb dX4_field_256 (by decide) (fun c_256 => ?_) (fun c_256 => ?_)
                                    · refine lv_iconst (v := 0) hx hb dX4_field_274 (by decide) ?_
                                      refine lv_istore (lv' := [(11, .int 0), (10, .int 1), (0, .ref q), (1, .int x), (2, .long y), (4, .long u), (8, .int v), (9, .int (nI b))]) hx hb dX4_field_275 hl (by decide) rfl (fun ls hl => ?_)
                                      refine lv_aload_n hx hb dX4_field_277 rfl (lv_at hl 2 rfl) ?_
                                      refine va_get (D := (dC, dI)) (ci := 5) (v := .ref aN) (C := RX4) (T := TX4) (N := 20) hx hb hts inn_X4_field_X4 hown hK hP 0 rfl rfl 7 (by decide) (hts (.fieldLink RX4 24 "DoorKeysModel" "near" "[Z") (by decide +kernel)) (fun _ h9 => h9) rfl dX4_field_278 ?_
                                      refine lv_iload_n hx hb dX4_field_281 rfl (lv_at hl 3 rfl) ?_
                                      refine va_zald hx hb hK hP 5 2 rfl rfl (md_none_in hn c_5) dX4_field_282 ?_
                                      refine lv_if_ne (tgt := 295) hx hb dX4_field_283 (by decide) (fun c_283 => ?_) (fun c_283 => absurd c_283 c_247)
                                      refine lv_iconst (v := 1) hx hb dX4_field_295 (by decide) ?_
                                      refine lv_goto (tgt := 300) hx hb dX4_field_296 (by decide) ?_
                                      have e_ : md_field_l le ne ins dd nw cs x y u v rl_ 0 j b = ((1 : Int32), rl_, (upd ne x.toNatClampNeg 0), (upd ins x.toNatClampNeg 1), dd, cs) := (md_field_l.eq_1 ..).trans ((if_neg c_145).trans ((if_pos c_150).trans ((if_pos c_182).trans ((if_neg c_206).trans ((if_neg c_214).trans ((if_neg c_223).trans ((if_neg c_232).trans ((if_neg c_247).trans ((if_neg c_256).trans rfl)))))))))
                                      rw [e_]
                                      exact W.iret (v := 1) hx hb hr (fun t ht hW => ⟨rfl, by rw [ht]; exact hP, hS.F ht⟩) hS.2.2 dX4_field_300
                                    · refine lv_aload_n hx hb dX4_field_259 rfl (lv_at hl 1 rfl) ?_
                                      refine lv_iload hx hb dX4_field_260 (lv_at hl 6 rfl) ?_
                                      refine lv_iload hx hb dX4_field_262 (lv_at hl 6 rfl) ?_
                                      refine lv_iconst (v := 1) hx hb dX4_field_264 (by decide) ?_
                                      refine lv_iadd hx hb dX4_field_265 ?_
                                      rw [nI_1]
                                      refine lv_iconst (v := 3) hx hb dX4_field_266 (by decide) ?_
                                      refine lv_iconst (v := 0) hx hb dX4_field_267 (by decide) ?_
                                      refine up_call (W.runV (As := [.int (nI b), .int (nI (b + 1)), .int 3, .int 0]) (rest := []) ⟨hx, hb, hml, hown, hts⟩ (c_X4_turn l dC dI cI cJ cZ q aS aC aW aL aN aI aB aD aU aF n gv sz 0 sp se ct aw le (upd ne x.toNatClampNeg 0) (upd ins x.toNatClampNeg 1) ba dd cr nw cs un fr rl_ qs b (b + 1) 3 0 (by omega) (by omega)) (cwV 4 hts gX4_field_X4_turn rfl rfl rfl (by decide +kernel) ⟨Nat.le_of_ble_eq_true rfl, Nat.le_of_ble_eq_true rfl⟩) (up_preV (q0 := 0) (ci := 5) hP hK hD rfl rfl) rfl rfl hl.1 rfl (lv_room (Nat.le_of_ble_eq_true rfl)) dX4_field_268 ⟨Nat.le_of_ble_eq_true rfl, Nat.le_of_ble_eq_true rfl⟩) hD hS ((md_fst ..).trans (md_fst ..).symm) (fun H locs hP hD hS _ _ => ?_)
                                      have hP : va_P (dC, dI) vwCl (mdW cI cJ cZ q aS aC aW aL aN aI aB aD aU aF n gv sz 0 sp se ct aw le (upd ne x.toNatClampNeg 0) (upd ins x.toNatClampNeg 1) ba ((md_turn dd nw cs b (b + 1) 3 0).2.1) cr nw ((md_turn dd nw cs b (b + 1) 3 0).2.2) un fr rl_ qs) H := hP
                                      have hD : va_D (up_c (mdW cI cJ cZ q aS aC aW aL aN aI aB aD aU aF n gv sz cd sp se ct aw le ne ins ba dd cr nw cs un fr rl qs)) (mdW cI cJ cZ q aS aC aW aL aN aI aB aD aU aF n gv sz 0 sp se ct aw le (upd ne x.toNatClampNeg 0) (upd ins x.toNatClampNeg 1) ba ((md_turn dd nw cs b (b + 1) 3 0).2.1) cr nw ((md_turn dd nw cs b (b + 1) 3 0).2.2) un fr rl_ qs) := hD
                                      refine lv_goto (tgt := 275) hx hb dX4_field_271 (by decide) ?_
                                      refine lv_istore (lv' := [(11, .int ((md_turn dd nw cs b (b + 1) 3 0).1)), (10, .int 1), (0, .ref q), (1, .int x), (2, .long y), (4, .long u), (8, .int v), (9, .int (nI b))]) hx hb dX4_field_275 hl (by decide) rfl (fun ls hl => ?_)
                                      refine lv_aload_n hx hb dX4_field_277 rfl (lv_at hl 2 rfl) ?_
                                      refine va_get (D := (dC, dI)) (ci := 5) (v := .ref aN) (C := RX4) (T := TX4) (N := 20) hx hb hts inn_X4_field_X4 hown hK hP 0 rfl rfl 7 (by decide) (hts (.fieldLink RX4 24 "DoorKeysModel" "near" "[Z") (by decide +kernel)) (fun _ h9 => h9) rfl dX4_field_278 ?_
                                      refine lv_iload_n hx hb dX4_field_281 rfl (lv_at hl 3 rfl) ?_
                                      refine va_zald hx hb hK hP 5 2 rfl rfl (md_none_in hn c_5) dX4_field_282 ?_
                                      refine lv_if_ne (tgt := 295) hx hb dX4_field_283 (by decide) (fun c_283 => ?_) (fun c_283 => absurd c_283 c_247)
                                      refine lv_iconst (v := 1) hx hb dX4_field_295 (by decide) ?_
                                      refine lv_goto (tgt := 300) hx hb dX4_field_296 (by decide) ?_
                                      have e_ : md_field_l le ne ins dd nw cs x y u v rl_ 0 j b = ((1 : Int32), rl_, (upd ne x.toNatClampNeg 0), (upd ins x.toNatClampNeg 1), (md_turn dd nw cs b (b + 1) 3 0).2.1, (md_turn dd nw cs b (b + 1) 3 0).2.2) := (md_field_l.eq_1 ..).trans ((if_neg c_145).trans ((if_pos c_150).trans ((if_pos c_182).trans ((if_neg c_206).trans ((if_neg c_214).trans ((if_neg c_223).trans ((if_neg c_232).trans ((if_neg c_247).trans ((if_pos c_256).trans rfl)))))))))
                                      rw [e_]
                                      exact W.iret (v := 1) hx hb hr (fun t ht hW => ⟨rfl, by rw [ht]; exact hP, hS.F ht⟩) hS.2.2 dX4_field_300
                        · refine lv_iconst (v := 1) hx hb dX4_field_185 (by decide) ?_
                          refine lv_goto (tgt := 190) hx hb dX4_field_186 (by decide) ?_
                          refine va_zast hx hb hK hP hD hS 5 2 rfl rfl (md_none_in hn c_5) dX4_field_190 (fun H locs hP hD hS => ?_)
                          have hP : va_P (dC, dI) vwCl (mdW cI cJ cZ q aS aC aW aL aN aI aB aD aU aF n gv sz 0 sp se ct aw le (upd ne x.toNatClampNeg 1) ins ba dd cr nw cs un fr rl_ qs) H := hP
                          have hD : va_D (up_c (mdW cI cJ cZ q aS aC aW aL aN aI aB aD aU aF n gv sz cd sp se ct aw le ne ins ba dd cr nw cs un fr rl qs)) (mdW cI cJ cZ q aS aC aW aL aN aI aB aD aU aF n gv sz 0 sp se ct aw le (upd ne x.toNatClampNeg 1) ins ba dd cr nw cs un fr rl_ qs) := hD
                          refine lv_aload_n hx hb dX4_field_191 rfl (lv_at hl 1 rfl) ?_
                          refine va_get (D := (dC, dI)) (ci := 5) (v := .ref aI) (C := RX4) (T := TX4) (N := 20) hx hb hts inn_X4_field_X4 hown hK hP 0 rfl rfl 8 (by decide) (hts (.fieldLink RX4 27 "DoorKeysModel" "inside" "[Z") (by decide +kernel)) (fun _ h9 => h9) rfl dX4_field_192 ?_
                          refine lv_iload_n hx hb dX4_field_195 rfl (lv_at hl 2 rfl) ?_
                          refine lv_iload hx hb dX4_field_196 (lv_at hl 0 rfl) ?_
                          refine lv_if_eq (tgt := 239) hx hb dX4_field_198 (by decide) (fun c_198 => absurd c_198 (by decide)) (fun c_198 => ?_)
                          refine lv_lload_n hx hb dX4_field_201 rfl (lv_at hl 3 rfl) ?_
                          refine lv_ldc2 (v := (-2000)) hx hb hown (hts (.constantLong RX4 132 (-2000)) (by decide +kernel)) dX4_field_202 ?_
                          refine W.lcmp hx hb dX4_field_205 ?_
                          refine lv_if_lt (tgt := 239) hx hb dX4_field_206 (by decide) (fun c_206 => ?_) (fun c_206 => ?_)
                          · refine lv_iconst (v := 0) hx hb dX4_field_239 (by decide) ?_
                            refine va_zast hx hb hK hP hD hS 6 2 rfl rfl (md_none_in hn c_5) dX4_field_240 (fun H locs hP hD hS => ?_)
                            have hP : va_P (dC, dI) vwCl (mdW cI cJ cZ q aS aC aW aL aN aI aB aD aU aF n gv sz 0 sp se ct aw le (upd ne x.toNatClampNeg 1) (upd ins x.toNatClampNeg 0) ba dd cr nw cs un fr rl_ qs) H := hP
                            have hD : va_D (up_c (mdW cI cJ cZ q aS aC aW aL aN aI aB aD aU aF n gv sz cd sp se ct aw le ne ins ba dd cr nw cs un fr rl qs)) (mdW cI cJ cZ q aS aC aW aL aN aI aB aD aU aF n gv sz 0 sp se ct aw le (upd ne x.toNatClampNeg 1) (upd ins x.toNatClampNeg 0) ba dd cr nw cs un fr rl_ qs) := hD
                            refine lv_aload_n hx hb dX4_field_241 rfl (lv_at hl 1 rfl) ?_
                            refine va_get (D := (dC, dI)) (ci := 5) (v := .ref aN) (C := RX4) (T := TX4) (N := 20) hx hb hts inn_X4_field_X4 hown hK hP 0 rfl rfl 7 (by decide) (hts (.fieldLink RX4 24 "DoorKeysModel" "near" "[Z") (by decide +kernel)) (fun _ h9 => h9) rfl dX4_field_242 ?_
                            refine lv_iload_n hx hb dX4_field_245 rfl (lv_at hl 2 rfl) ?_
                            refine va_zald hx hb hK hP 5 2 rfl rfl (md_none_in hn c_5) dX4_field_246 ?_
                            refine lv_if_eq (tgt := 274) hx hb dX4_field_247 (by decide) (fun c_247 => ?_) (fun c_247 => ?_)
                            · refine lv_iconst (v := 0) hx hb dX4_field_274 (by decide) ?_
                              refine lv_istore (lv' := [(11, .int 0), (10, .int 1), (0, .ref q), (1, .int x), (2, .long y), (4, .long u), (8, .int v), (9, .int (nI b))]) hx hb dX4_field_275 hl (by decide) rfl (fun ls hl => ?_)
                              refine lv_aload_n hx hb dX4_field_277 rfl (lv_at hl 2 rfl) ?_
                              refine va_get (D := (dC, dI)) (ci := 5) (v := .ref aN) (C := RX4) (T := TX4) (N := 20) hx hb hts inn_X4_field_X4 hown hK hP 0 rfl rfl 7 (by decide) (hts (.fieldLink RX4 24 "DoorKeysModel" "near" "[Z") (by decide +kernel)) (fun _ h9 => h9) rfl dX4_field_278 ?_
                              refine lv_iload_n hx hb dX4_field_281 rfl (lv_at hl 3 rfl) ?_
                              refine va_zald hx hb hK hP 5 2 rfl rfl (md_none_in hn c_5) dX4_field_282 ?_
                              refine lv_if_ne (tgt := 295) hx hb dX4_field_283 (by decide) (fun c_283 => absurd c_247 c_283) (fun c_283 => ?_)
                              refine lv_aload_n hx hb dX4_field_286 rfl (lv_at hl 2 rfl) ?_
                              refine va_get (D := (dC, dI)) (ci := 5) (v := .ref aI) (C := RX4) (T := TX4) (N := 20) hx hb hts inn_X4_field_X4 hown hK hP 0 rfl rfl 8 (by decide) (hts (.fieldLink RX4 27 "DoorKeysModel" "inside" "[Z") (by decide +kernel)) (fun _ h9 => h9) rfl dX4_field_287 ?_
                              refine lv_iload_n hx hb dX4_field_290 rfl (lv_at hl 3 rfl) ?_
                              refine va_zald hx hb hK hP 6 2 rfl rfl (md_none_in hn c_5) dX4_field_291 ?_
                              refine lv_if_eq (tgt := 299) hx hb dX4_field_292 (by decide) (fun c_292 => ?_) (fun c_292 => ?_)
                              · refine lv_iconst (v := 0) hx hb dX4_field_299 (by decide) ?_
                                have e_ : md_field_l le ne ins dd nw cs x y u v rl_ 0 j b = ((0 : Int32), rl_, (upd ne x.toNatClampNeg 1), (upd ins x.toNatClampNeg 0), dd, cs) := (md_field_l.eq_1 ..).trans ((if_neg c_145).trans ((if_pos c_150).trans ((if_neg c_182).trans ((if_pos c_206).trans ((if_pos c_247).trans ((if_pos c_292).trans rfl))))))
                                rw [e_]
                                exact W.iret (v := 0) hx hb hr (fun t ht hW => ⟨rfl, by rw [ht]; exact hP, hS.F ht⟩) hS.2.2 dX4_field_300
                              · refine lv_iconst (v := 1) hx hb dX4_field_295 (by decide) ?_
                                refine lv_goto (tgt := 300) hx hb dX4_field_296 (by decide) ?_
                                have e_ : md_field_l le ne ins dd nw cs x y u v rl_ 0 j b = ((1 : Int32), rl_, (upd ne x.toNatClampNeg 1), (upd ins x.toNatClampNeg 0), dd, cs) := (md_field_l.eq_1 ..).trans ((if_neg c_145).trans ((if_pos c_150).trans ((if_neg c_182).trans ((if_pos c_206).trans ((if_pos c_247).trans ((if_neg c_292).trans rfl))))))
                                rw [e_]
                                exact W.iret (v := 1) hx hb hr (fun t ht hW => ⟨rfl, by rw [ht]; exact hP, hS.F ht⟩) hS.2.2 dX4_field_300
                            · refine lv_aload_n hx hb dX4_field_250 rfl (lv_at hl 1 rfl) ?_
                              refine va_get (D := (dC, dI)) (ci := 5) (v := .ref aI) (C := RX4) (T := TX4) (N := 20) hx hb hts inn_X4_field_X4 hown hK hP 0 rfl rfl 8 (by decide) (hts (.fieldLink RX4 27 "DoorKeysModel" "inside" "[Z") (by decide +kernel)) (fun _ h9 => h9) rfl dX4_field_251 ?_
                              refine lv_iload_n hx hb dX4_field_254 rfl (lv_at hl 2 rfl) ?_
                              refine va_zald hx hb hK hP 6 2 rfl rfl (md_none_in hn c_5) dX4_field_255 ?_
                              refine lv_if_ne (tgt := 274) hx hb dX4_field_256 (by decide) (fun c_256 => ?_) (fun c_256 => ?_)
                              · refine lv_iconst (v := 0) hx hb dX4_field_274 (by decide) ?_
                                refine lv_istore (lv' := [(11, .int 0), (10, .int 1), (0, .ref q), (1, .int x), (2, .long y), (4, .long u), (8, .int v), (9, .int (nI b))]) hx hb dX4_field_275 hl (by decide) rfl (fun ls hl => ?_)
                                refine lv_aload_n hx hb dX4_field_277 rfl (lv_at hl 2 rfl) ?_
                                refine va_get (D := (dC, dI)) (ci := 5) (v := .ref aN) (C := RX4) (T := TX4) (N := 20) hx hb hts inn_X4_field_X4 hown hK hP 0 rfl rfl 7 (by decide) (hts (.fieldLink RX4 24 "DoorKeysModel" "near" "[Z") (by decide +kernel)) (fun _ h9 => h9) rfl dX4_field_278 ?_
                                refine lv_iload_n hx hb dX4_field_281 rfl (lv_at hl 3 rfl) ?_
                                refine va_zald hx hb hK hP 5 2 rfl rfl (md_none_in hn c_5) dX4_field_282 ?_
                                refine lv_if_ne (tgt := 295) hx hb dX4_field_283 (by decide) (fun c_283 => ?_) (fun c_283 => absurd c_283 c_247)
                                refine lv_iconst (v := 1) hx hb dX4_field_295 (by decide) ?_
                                refine lv_goto (tgt := 300) hx hb dX4_field_296 (by decide) ?_
                                have e_ : md_field_l le ne ins dd nw cs x y u v rl_ 0 j b = ((1 : Int32), rl_, (upd ne x.toNatClampNeg 1), (upd ins x.toNatClampNeg 0), dd, cs) := (md_field_l.eq_1 ..).trans ((if_neg c_145).trans ((if_pos c_150).trans ((if_neg c_182).trans ((if_pos c_206).trans ((if_neg c_247).trans ((if_neg c_256).trans rfl))))))
                                rw [e_]
                                exact W.iret (v := 1) hx hb hr (fun t ht hW => ⟨rfl, by rw [ht]; exact hP, hS.F ht⟩) hS.2.2 dX4_field_300
                              · refine lv_aload_n hx hb dX4_field_259 rfl (lv_at hl 1 rfl) ?_
                                refine lv_iload hx hb dX4_field_260 (lv_at hl 6 rfl) ?_
                                refine lv_iload hx hb dX4_field_262 (lv_at hl 6 rfl) ?_
                                refine lv_iconst (v := 1) hx hb dX4_field_264 (by decide) ?_
                                refine lv_iadd hx hb dX4_field_265 ?_
                                rw [nI_1]
                                refine lv_iconst (v := 3) hx hb dX4_field_266 (by decide) ?_
                                refine lv_iconst (v := 0) hx hb dX4_field_267 (by decide) ?_
                                refine up_call (W.runV (As := [.int (nI b), .int (nI (b + 1)), .int 3, .int 0]) (rest := []) ⟨hx, hb, hml, hown, hts⟩ (c_X4_turn l dC dI cI cJ cZ q aS aC aW aL aN aI aB aD aU aF n gv sz 0 sp se ct aw le (upd ne x.toNatClampNeg 1) (upd ins x.toNatClampNeg 0) ba dd cr nw cs un fr rl_ qs b (b + 1) 3 0 (by omega) (by omega)) (cwV 4 hts gX4_field_X4_turn rfl rfl rfl (by decide +kernel) ⟨Nat.le_of_ble_eq_true rfl, Nat.le_of_ble_eq_true rfl⟩) (up_preV (q0 := 0) (ci := 5) hP hK hD rfl rfl) rfl rfl hl.1 rfl (lv_room (Nat.le_of_ble_eq_true rfl)) dX4_field_268 ⟨Nat.le_of_ble_eq_true rfl, Nat.le_of_ble_eq_true rfl⟩) hD hS ((md_fst ..).trans (md_fst ..).symm) (fun H locs hP hD hS _ _ => ?_)
                                have hP : va_P (dC, dI) vwCl (mdW cI cJ cZ q aS aC aW aL aN aI aB aD aU aF n gv sz 0 sp se ct aw le (upd ne x.toNatClampNeg 1) (upd ins x.toNatClampNeg 0) ba ((md_turn dd nw cs b (b + 1) 3 0).2.1) cr nw ((md_turn dd nw cs b (b + 1) 3 0).2.2) un fr rl_ qs) H := hP
                                have hD : va_D (up_c (mdW cI cJ cZ q aS aC aW aL aN aI aB aD aU aF n gv sz cd sp se ct aw le ne ins ba dd cr nw cs un fr rl qs)) (mdW cI cJ cZ q aS aC aW aL aN aI aB aD aU aF n gv sz 0 sp se ct aw le (upd ne x.toNatClampNeg 1) (upd ins x.toNatClampNeg 0) ba ((md_turn dd nw cs b (b + 1) 3 0).2.1) cr nw ((md_turn dd nw cs b (b + 1) 3 0).2.2) un fr rl_ qs) := hD
                                refine lv_goto (tgt := 275) hx hb dX4_field_271 (by decide) ?_
                                refine lv_istore (lv' := [(11, .int ((md_turn dd nw cs b (b + 1) 3 0).1)), (10, .int 1), (0, .ref q), (1, .int x), (2, .long y), (4, .long u), (8, .int v), (9, .int (nI b))]) hx hb dX4_field_275 hl (by decide) rfl (fun ls hl => ?_)
                                refine lv_aload_n hx hb dX4_field_277 rfl (lv_at hl 2 rfl) ?_
                                refine va_get (D := (dC, dI)) (ci := 5) (v := .ref aN) (C := RX4) (T := TX4) (N := 20) hx hb hts inn_X4_field_X4 hown hK hP 0 rfl rfl 7 (by decide) (hts (.fieldLink RX4 24 "DoorKeysModel" "near" "[Z") (by decide +kernel)) (fun _ h9 => h9) rfl dX4_field_278 ?_
                                refine lv_iload_n hx hb dX4_field_281 rfl (lv_at hl 3 rfl) ?_
                                refine va_zald hx hb hK hP 5 2 rfl rfl (md_none_in hn c_5) dX4_field_282 ?_
                                refine lv_if_ne (tgt := 295) hx hb dX4_field_283 (by decide) (fun c_283 => ?_) (fun c_283 => absurd c_283 c_247)
                                refine lv_iconst (v := 1) hx hb dX4_field_295 (by decide) ?_
                                refine lv_goto (tgt := 300) hx hb dX4_field_296 (by decide) ?_
                                have e_ : md_field_l le ne ins dd nw cs x y u v rl_ 0 j b = ((1 : Int32), rl_, (upd ne x.toNatClampNeg 1), (upd ins x.toNatClampNeg 0), (md_turn dd nw cs b (b + 1) 3 0).2.1, (md_turn dd nw cs b (b + 1) 3 0).2.2) := (md_field_l.eq_1 ..).trans ((if_neg c_145).trans ((if_pos c_150).trans ((if_neg c_182).trans ((if_pos c_206).trans ((if_neg c_247).trans ((if_pos c_256).trans rfl))))))
                                rw [e_]
                                exact W.iret (v := 1) hx hb hr (fun t ht hW => ⟨rfl, by rw [ht]; exact hP, hS.F ht⟩) hS.2.2 dX4_field_300
                          · refine lv_lload_n hx hb dX4_field_209 rfl (lv_at hl 3 rfl) ?_
                            refine lv_ldc2 (v := 2000) hx hb hown (hts (.constantLong RX4 121 2000) (by decide +kernel)) dX4_field_210 ?_
                            refine W.lcmp hx hb dX4_field_213 ?_
                            refine lv_if_gt (tgt := 239) hx hb dX4_field_214 (by decide) (fun c_214 => ?_) (fun c_214 => ?_)
                            · refine lv_iconst (v := 0) hx hb dX4_field_239 (by decide) ?_
                              refine va_zast hx hb hK hP hD hS 6 2 rfl rfl (md_none_in hn c_5) dX4_field_240 (fun H locs hP hD hS => ?_)
                              have hP : va_P (dC, dI) vwCl (mdW cI cJ cZ q aS aC aW aL aN aI aB aD aU aF n gv sz 0 sp se ct aw le (upd ne x.toNatClampNeg 1) (upd ins x.toNatClampNeg 0) ba dd cr nw cs un fr rl_ qs) H := hP
                              have hD : va_D (up_c (mdW cI cJ cZ q aS aC aW aL aN aI aB aD aU aF n gv sz cd sp se ct aw le ne ins ba dd cr nw cs un fr rl qs)) (mdW cI cJ cZ q aS aC aW aL aN aI aB aD aU aF n gv sz 0 sp se ct aw le (upd ne x.toNatClampNeg 1) (upd ins x.toNatClampNeg 0) ba dd cr nw cs un fr rl_ qs) := hD
                              refine lv_aload_n hx hb dX4_field_241 rfl (lv_at hl 1 rfl) ?_
                              refine va_get (D := (dC, dI)) (ci := 5) (v := .ref aN) (C := RX4) (T := TX4) (N := 20) hx hb hts inn_X4_field_X4 hown hK hP 0 rfl rfl 7 (by decide) (hts (.fieldLink RX4 24 "DoorKeysModel" "near" "[Z") (by decide +kernel)) (fun _ h9 => h9) rfl dX4_field_242 ?_
                              refine lv_iload_n hx hb dX4_field_245 rfl (lv_at hl 2 rfl) ?_
                              refine va_zald hx hb hK hP 5 2 rfl rfl (md_none_in hn c_5) dX4_field_246 ?_
                              refine lv_if_eq (tgt := 274) hx hb dX4_field_247 (by decide) (fun c_247 => ?_) (fun c_247 => ?_)
                              · refine lv_iconst (v := 0) hx hb dX4_field_274 (by decide) ?_
                                refine lv_istore (lv' := [(11, .int 0), (10, .int 1), (0, .ref q), (1, .int x), (2, .long y), (4, .long u), (8, .int v), (9, .int (nI b))]) hx hb dX4_field_275 hl (by decide) rfl (fun ls hl => ?_)
                                refine lv_aload_n hx hb dX4_field_277 rfl (lv_at hl 2 rfl) ?_
                                refine va_get (D := (dC, dI)) (ci := 5) (v := .ref aN) (C := RX4) (T := TX4) (N := 20) hx hb hts inn_X4_field_X4 hown hK hP 0 rfl rfl 7 (by decide) (hts (.fieldLink RX4 24 "DoorKeysModel" "near" "[Z") (by decide +kernel)) (fun _ h9 => h9) rfl dX4_field_278 ?_
                                refine lv_iload_n hx hb dX4_field_281 rfl (lv_at hl 3 rfl) ?_
                                refine va_zald hx hb hK hP 5 2 rfl rfl (md_none_in hn c_5) dX4_field_282 ?_
                                refine lv_if_ne (tgt := 295) hx hb dX4_field_283 (by decide) (fun c_283 => absurd c_247 c_283) (fun c_283 => ?_)
                                refine lv_aload_n hx hb dX4_field_286 rfl (lv_at hl 2 rfl) ?_
                                refine va_get (D := (dC, dI)) (ci := 5) (v := .ref aI) (C := RX4) (T := TX4) (N := 20) hx hb hts inn_X4_field_X4 hown hK hP 0 rfl rfl 8 (by decide) (hts (.fieldLink RX4 27 "DoorKeysModel" "inside" "[Z") (by decide +kernel)) (fun _ h9 => h9) rfl dX4_field_287 ?_
                                refine lv_iload_n hx hb dX4_field_290 rfl (lv_at hl 3 rfl) ?_
                                refine va_zald hx hb hK hP 6 2 rfl rfl (md_none_in hn c_5) dX4_field_291 ?_
                                refine lv_if_eq (tgt := 299) hx hb dX4_field_292 (by decide) (fun c_292 => ?_) (fun c_292 => ?_)
                                · refine lv_iconst (v := 0) hx hb dX4_field_299 (by decide) ?_
                                  have e_ : md_field_l le ne ins dd nw cs x y u v rl_ 0 j b = ((0 : Int32), rl_, (upd ne x.toNatClampNeg 1), (upd ins x.toNatClampNeg 0), dd, cs) := (md_field_l.eq_1 ..).trans ((if_neg c_145).trans ((if_pos c_150).trans ((if_neg c_182).trans ((if_neg c_206).trans ((if_pos c_214).trans ((if_pos c_247).trans ((if_pos c_292).trans rfl)))))))
                                  rw [e_]
                                  exact W.iret (v := 0) hx hb hr (fun t ht hW => ⟨rfl, by rw [ht]; exact hP, hS.F ht⟩) hS.2.2 dX4_field_300
                                · refine lv_iconst (v := 1) hx hb dX4_field_295 (by decide) ?_
                                  refine lv_goto (tgt := 300) hx hb dX4_field_296 (by decide) ?_
                                  have e_ : md_field_l le ne ins dd nw cs x y u v rl_ 0 j b = ((1 : Int32), rl_, (upd ne x.toNatClampNeg 1), (upd ins x.toNatClampNeg 0), dd, cs) := (md_field_l.eq_1 ..).trans ((if_neg c_145).trans ((if_pos c_150).trans ((if_neg c_182).trans ((if_neg c_206).trans ((if_pos c_214).trans ((if_pos c_247).trans ((if_neg c_292).trans rfl)))))))
                                  rw [e_]
                                  exact W.iret (v := 1) hx hb hr (fun t ht hW => ⟨rfl, by rw [ht]; exact hP, hS.F ht⟩) hS.2.2 dX4_field_300
                              · refine lv_aload_n hx hb dX4_field_250 rfl (lv_at hl 1 rfl) ?_
                                refine va_get (D := (dC, dI)) (ci := 5) (v := .ref aI) (C := RX4) (T := TX4) (N := 20) hx hb hts inn_X4_field_X4 hown hK hP 0 rfl rfl 8 (by decide) (hts (.fieldLink RX4 27 "DoorKeysModel" "inside" "[Z") (by decide +kernel)) (fun _ h9 => h9) rfl dX4_field_251 ?_
                                refine lv_iload_n hx hb dX4_field_254 rfl (lv_at hl 2 rfl) ?_
                                refine va_zald hx hb hK hP 6 2 rfl rfl (md_none_in hn c_5) dX4_field_255 ?_
                                refine lv_if_ne (tgt := 274) hx hb dX4_field_256 (by decide) (fun c_256 => ?_) (fun c_256 => ?_)
                                · refine lv_iconst (v := 0) hx hb dX4_field_274 (by decide) ?_
                                  refine lv_istore (lv' := [(11, .int 0), (10, .int 1), (0, .ref q), (1, .int x), (2, .long y), (4, .long u), (8, .int v), (9, .int (nI b))]) hx hb dX4_field_275 hl (by decide) rfl (fun ls hl => ?_)
                                  refine lv_aload_n hx hb dX4_field_277 rfl (lv_at hl 2 rfl) ?_
                                  refine va_get (D := (dC, dI)) (ci := 5) (v := .ref aN) (C := RX4) (T := TX4) (N := 20) hx hb hts inn_X4_field_X4 hown hK hP 0 rfl rfl 7 (by decide) (hts (.fieldLink RX4 24 "DoorKeysModel" "near" "[Z") (by decide +kernel)) (fun _ h9 => h9) rfl dX4_field_278 ?_
                                  refine lv_iload_n hx hb dX4_field_281 rfl (lv_at hl 3 rfl) ?_
                                  refine va_zald hx hb hK hP 5 2 rfl rfl (md_none_in hn c_5) dX4_field_282 ?_
                                  refine lv_if_ne (tgt := 295) hx hb dX4_field_283 (by decide) (fun c_283 => ?_) (fun c_283 => absurd c_283 c_247)
                                  refine lv_iconst (v := 1) hx hb dX4_field_295 (by decide) ?_
                                  refine lv_goto (tgt := 300) hx hb dX4_field_296 (by decide) ?_
                                  have e_ : md_field_l le ne ins dd nw cs x y u v rl_ 0 j b = ((1 : Int32), rl_, (upd ne x.toNatClampNeg 1), (upd ins x.toNatClampNeg 0), dd, cs) := (md_field_l.eq_1 ..).trans ((if_neg c_145).trans ((if_pos c_150).trans ((if_neg c_182).trans ((if_neg c_206).trans ((if_pos c_214).trans ((if_neg c_247).trans ((if_neg c_256).trans rfl)))))))
                                  rw [e_]
                                  exact W.iret (v := 1) hx hb hr (fun t ht hW => ⟨rfl, by rw [ht]; exact hP, hS.F ht⟩) hS.2.2 dX4_field_300
                                · refine lv_aload_n hx hb dX4_field_259 rfl (lv_at hl 1 rfl) ?_
                                  refine lv_iload hx hb dX4_field_260 (lv_at hl 6 rfl) ?_
                                  refine lv_iload hx hb dX4_field_262 (lv_at hl 6 rfl) ?_
                                  refine lv_iconst (v := 1) hx hb dX4_field_264 (by decide) ?_
                                  refine lv_iadd hx hb dX4_field_265 ?_
                                  rw [nI_1]
                                  refine lv_iconst (v := 3) hx hb dX4_field_266 (by decide) ?_
                                  refine lv_iconst (v := 0) hx hb dX4_field_267 (by decide) ?_
                                  refine up_call (W.runV (As := [.int (nI b), .int (nI (b + 1)), .int 3, .int 0]) (rest := []) ⟨hx, hb, hml, hown, hts⟩ (c_X4_turn l dC dI cI cJ cZ q aS aC aW aL aN aI aB aD aU aF n gv sz 0 sp se ct aw le (upd ne x.toNatClampNeg 1) (upd ins x.toNatClampNeg 0) ba dd cr nw cs un fr rl_ qs b (b + 1) 3 0 (by omega) (by omega)) (cwV 4 hts gX4_field_X4_turn rfl rfl rfl (by decide +kernel) ⟨Nat.le_of_ble_eq_true rfl, Nat.le_of_ble_eq_true rfl⟩) (up_preV (q0 := 0) (ci := 5) hP hK hD rfl rfl) rfl rfl hl.1 rfl (lv_room (Nat.le_of_ble_eq_true rfl)) dX4_field_268 ⟨Nat.le_of_ble_eq_true rfl, Nat.le_of_ble_eq_true rfl⟩) hD hS ((md_fst ..).trans (md_fst ..).symm) (fun H locs hP hD hS _ _ => ?_)
                                  have hP : va_P (dC, dI) vwCl (mdW cI cJ cZ q aS aC aW aL aN aI aB aD aU aF n gv sz 0 sp se ct aw le (upd ne x.toNatClampNeg 1) (upd ins x.toNatClampNeg 0) ba ((md_turn dd nw cs b (b + 1) 3 0).2.1) cr nw ((md_turn dd nw cs b (b + 1) 3 0).2.2) un fr rl_ qs) H := hP
                                  have hD : va_D (up_c (mdW cI cJ cZ q aS aC aW aL aN aI aB aD aU aF n gv sz cd sp se ct aw le ne ins ba dd cr nw cs un fr rl qs)) (mdW cI cJ cZ q aS aC aW aL aN aI aB aD aU aF n gv sz 0 sp se ct aw le (upd ne x.toNatClampNeg 1) (upd ins x.toNatClampNeg 0) ba ((md_turn dd nw cs b (b + 1) 3 0).2.1) cr nw ((md_turn dd nw cs b (b + 1) 3 0).2.2) un fr rl_ qs) := hD
                                  refine lv_goto (tgt := 275) hx hb dX4_field_271 (by decide) ?_
                                  refine lv_istore (lv' := [(11, .int ((md_turn dd nw cs b (b + 1) 3 0).1)), (10, .int 1), (0, .ref q), (1, .int x), (2, .long y), (4, .long u), (8, .int v), (9, .int (nI b))]) hx hb dX4_field_275 hl (by decide) rfl (fun ls hl => ?_)
                                  refine lv_aload_n hx hb dX4_field_277 rfl (lv_at hl 2 rfl) ?_
                                  refine va_get (D := (dC, dI)) (ci := 5) (v := .ref aN) (C := RX4) (T := TX4) (N := 20) hx hb hts inn_X4_field_X4 hown hK hP 0 rfl rfl 7 (by decide) (hts (.fieldLink RX4 24 "DoorKeysModel" "near" "[Z") (by decide +kernel)) (fun _ h9 => h9) rfl dX4_field_278 ?_
                                  refine lv_iload_n hx hb dX4_field_281 rfl (lv_at hl 3 rfl) ?_
                                  refine va_zald hx hb hK hP 5 2 rfl rfl (md_none_in hn c_5) dX4_field_282 ?_
                                  refine lv_if_ne (tgt := 295) hx hb dX4_field_283 (by decide) (fun c_283 => ?_) (fun c_283 => absurd c_283 c_247)
                                  refine lv_iconst (v := 1) hx hb dX4_field_295 (by decide) ?_
                                  refine lv_goto (tgt := 300) hx hb dX4_field_296 (by decide) ?_
                                  have e_ : md_field_l le ne ins dd nw cs x y u v rl_ 0 j b = ((1 : Int32), rl_, (upd ne x.toNatClampNeg 1), (upd ins x.toNatClampNeg 0), (md_turn dd nw cs b (b + 1) 3 0).2.1, (md_turn dd nw cs b (b + 1) 3 0).2.2) := (md_field_l.eq_1 ..).trans ((if_neg c_145).trans ((if_pos c_150).trans ((if_neg c_182).trans ((if_neg c_206).trans ((if_pos c_214).trans ((if_neg c_247).trans ((if_pos c_256).trans rfl)))))))
                                  rw [e_]
                                  exact W.iret (v := 1) hx hb hr (fun t ht hW => ⟨rfl, by rw [ht]; exact hP, hS.F ht⟩) hS.2.2 dX4_field_300
                            · refine lv_lload hx hb dX4_field_217 (lv_at hl 4 rfl) ?_
                              refine lv_ldc2 (v := (-800)) hx hb hown (hts (.constantLong RX4 134 (-800)) (by decide +kernel)) dX4_field_219 ?_
                              refine W.lcmp hx hb dX4_field_222 ?_
                              refine lv_if_lt (tgt := 239) hx hb dX4_field_223 (by decide) (fun c_223 => ?_) (fun c_223 => ?_)
                              · refine lv_iconst (v := 0) hx hb dX4_field_239 (by decide) ?_
                                refine va_zast hx hb hK hP hD hS 6 2 rfl rfl (md_none_in hn c_5) dX4_field_240 (fun H locs hP hD hS => ?_)
                                have hP : va_P (dC, dI) vwCl (mdW cI cJ cZ q aS aC aW aL aN aI aB aD aU aF n gv sz 0 sp se ct aw le (upd ne x.toNatClampNeg 1) (upd ins x.toNatClampNeg 0) ba dd cr nw cs un fr rl_ qs) H := hP
                                have hD : va_D (up_c (mdW cI cJ cZ q aS aC aW aL aN aI aB aD aU aF n gv sz cd sp se ct aw le ne ins ba dd cr nw cs un fr rl qs)) (mdW cI cJ cZ q aS aC aW aL aN aI aB aD aU aF n gv sz 0 sp se ct aw le (upd ne x.toNatClampNeg 1) (upd ins x.toNatClampNeg 0) ba dd cr nw cs un fr rl_ qs) := hD
                                refine lv_aload_n hx hb dX4_field_241 rfl (lv_at hl 1 rfl) ?_
                                refine va_get (D := (dC, dI)) (ci := 5) (v := .ref aN) (C := RX4) (T := TX4) (N := 20) hx hb hts inn_X4_field_X4 hown hK hP 0 rfl rfl 7 (by decide) (hts (.fieldLink RX4 24 "DoorKeysModel" "near" "[Z") (by decide +kernel)) (fun _ h9 => h9) rfl dX4_field_242 ?_
                                refine lv_iload_n hx hb dX4_field_245 rfl (lv_at hl 2 rfl) ?_
                                refine va_zald hx hb hK hP 5 2 rfl rfl (md_none_in hn c_5) dX4_field_246 ?_
                                refine lv_if_eq (tgt := 274) hx hb dX4_field_247 (by decide) (fun c_247 => ?_) (fun c_247 => ?_)
                                · refine lv_iconst (v := 0) hx hb dX4_field_274 (by decide) ?_
                                  refine lv_istore (lv' := [(11, .int 0), (10, .int 1), (0, .ref q), (1, .int x), (2, .long y), (4, .long u), (8, .int v), (9, .int (nI b))]) hx hb dX4_field_275 hl (by decide) rfl (fun ls hl => ?_)
                                  refine lv_aload_n hx hb dX4_field_277 rfl (lv_at hl 2 rfl) ?_
                                  refine va_get (D := (dC, dI)) (ci := 5) (v := .ref aN) (C := RX4) (T := TX4) (N := 20) hx hb hts inn_X4_field_X4 hown hK hP 0 rfl rfl 7 (by decide) (hts (.fieldLink RX4 24 "DoorKeysModel" "near" "[Z") (by decide +kernel)) (fun _ h9 => h9) rfl dX4_field_278 ?_
                                  refine lv_iload_n hx hb dX4_field_281 rfl (lv_at hl 3 rfl) ?_
                                  refine va_zald hx hb hK hP 5 2 rfl rfl (md_none_in hn c_5) dX4_field_282 ?_
                                  refine lv_if_ne (tgt := 295) hx hb dX4_field_283 (by decide) (fun c_283 => absurd c_247 c_283) (fun c_283 => ?_)
                                  refine lv_aload_n hx hb dX4_field_286 rfl (lv_at hl 2 rfl) ?_
                                  refine va_get (D := (dC, dI)) (ci := 5) (v := .ref aI) (C := RX4) (T := TX4) (N := 20) hx hb hts inn_X4_field_X4 hown hK hP 0 rfl rfl 8 (by decide) (hts (.fieldLink RX4 27 "DoorKeysModel" "inside" "[Z") (by decide +kernel)) (fun _ h9 => h9) rfl dX4_field_287 ?_
                                  refine lv_iload_n hx hb dX4_field_290 rfl (lv_at hl 3 rfl) ?_
                                  refine va_zald hx hb hK hP 6 2 rfl rfl (md_none_in hn c_5) dX4_field_291 ?_
                                  refine lv_if_eq (tgt := 299) hx hb dX4_field_292 (by decide) (fun c_292 => ?_) (fun c_292 => ?_)
                                  · refine lv_iconst (v := 0) hx hb dX4_field_299 (by decide) ?_
                                    have e_ : md_field_l le ne ins dd nw cs x y u v rl_ 0 j b = ((0 : Int32), rl_, (upd ne x.toNatClampNeg 1), (upd ins x.toNatClampNeg 0), dd, cs) := (md_field_l.eq_1 ..).trans ((if_neg c_145).trans ((if_pos c_150).trans ((if_neg c_182).trans ((if_neg c_206).trans ((if_neg c_214).trans ((if_pos c_223).trans ((if_pos c_247).trans ((if_pos c_292).trans rfl))))))))
                                    rw [e_]
                                    exact W.iret (v := 0) hx hb hr (fun t ht hW => ⟨rfl, by rw [ht]; exact hP, hS.F ht⟩) hS.2.2 dX4_field_300
                                  · refine lv_iconst (v := 1) hx hb dX4_field_295 (by decide) ?_
                                    refine lv_goto (tgt := 300) hx hb dX4_field_296 (by decide) ?_
                                    have e_ : md_field_l le ne ins dd nw cs x y u v rl_ 0 j b = ((1 : Int32), rl_, (upd ne x.toNatClampNeg 1), (upd ins x.toNatClampNeg 0), dd, cs) := (md_field_l.eq_1 ..).trans ((if_neg c_145).trans ((if_pos c_150).trans ((if_neg c_182).trans ((if_neg c_206).trans ((if_neg c_214).trans ((if_pos c_223).trans ((if_pos c_247).trans ((if_neg c_292).trans rfl))))))))
                                    rw [e_]
                                    exact W.iret (v := 1) hx hb hr (fun t ht hW => ⟨rfl, by rw [ht]; exact hP, hS.F ht⟩) hS.2.2 dX4_field_300
                                · refine lv_aload_n hx hb dX4_field_250 rfl (lv_at hl 1 rfl) ?_
                                  refine va_get (D := (dC, dI)) (ci := 5) (v := .ref aI) (C := RX4) (T := TX4) (N := 20) hx hb hts inn_X4_field_X4 hown hK hP 0 rfl rfl 8 (by decide) (hts (.fieldLink RX4 27 "DoorKeysModel" "inside" "[Z") (by decide +kernel)) (fun _ h9 => h9) rfl dX4_field_251 ?_
                                  refine lv_iload_n hx hb dX4_field_254 rfl (lv_at hl 2 rfl) ?_
                                  refine va_zald hx hb hK hP 6 2 rfl rfl (md_none_in hn c_5) dX4_field_255 ?_
                                  refine lv_if_ne (tgt := 274) hx hb dX4_field_256 (by decide) (fun c_256 => ?_) (fun c_256 => ?_)
                                  · refine lv_iconst (v := 0) hx hb dX4_field_274 (by decide) ?_
                                    refine lv_istore (lv' := [(11, .int 0), (10, .int 1), (0, .ref q), (1, .int x), (2, .long y), (4, .long u), (8, .int v), (9, .int (nI b))]) hx hb dX4_field_275 hl (by decide) rfl (fun ls hl => ?_)
                                    refine lv_aload_n hx hb dX4_field_277 rfl (lv_at hl 2 rfl) ?_
                                    refine va_get (D := (dC, dI)) (ci := 5) (v := .ref aN) (C := RX4) (T := TX4) (N := 20) hx hb hts inn_X4_field_X4 hown hK hP 0 rfl rfl 7 (by decide) (hts (.fieldLink RX4 24 "DoorKeysModel" "near" "[Z") (by decide +kernel)) (fun _ h9 => h9) rfl dX4_field_278 ?_
                                    refine lv_iload_n hx hb dX4_field_281 rfl (lv_at hl 3 rfl) ?_
                                    refine va_zald hx hb hK hP 5 2 rfl rfl (md_none_in hn c_5) dX4_field_282 ?_
                                    refine lv_if_ne (tgt := 295) hx hb dX4_field_283 (by decide) (fun c_283 => ?_) (fun c_283 => absurd c_283 c_247)
                                    refine lv_iconst (v := 1) hx hb dX4_field_295 (by decide) ?_
                                    refine lv_goto (tgt := 300) hx hb dX4_field_296 (by decide) ?_
                                    have e_ : md_field_l le ne ins dd nw cs x y u v rl_ 0 j b = ((1 : Int32), rl_, (upd ne x.toNatClampNeg 1), (upd ins x.toNatClampNeg 0), dd, cs) := (md_field_l.eq_1 ..).trans ((if_neg c_145).trans ((if_pos c_150).trans ((if_neg c_182).trans ((if_neg c_206).trans ((if_neg c_214).trans ((if_pos c_223).trans ((if_neg c_247).trans ((if_neg c_256).trans rfl))))))))
                                    rw [e_]
                                    exact W.iret (v := 1) hx hb hr (fun t ht hW => ⟨rfl, by rw [ht]; exact hP, hS.F ht⟩) hS.2.2 dX4_field_300
                                  · refine lv_aload_n hx hb dX4_field_259 rfl (lv_at hl 1 rfl) ?_
                                    refine lv_iload hx hb dX4_field_260 (lv_at hl 6 rfl) ?_
                                    refine lv_iload hx hb dX4_field_262 (lv_at hl 6 rfl) ?_
                                    refine lv_iconst (v := 1) hx hb dX4_field_264 (by decide) ?_
                                    refine lv_iadd hx hb dX4_field_265 ?_
                                    rw [nI_1]
                                    refine lv_iconst (v := 3) hx hb dX4_field_266 (by decide) ?_
                                    refine lv_iconst (v := 0) hx hb dX4_field_267 (by decide) ?_
                                    refine up_call (W.runV (As := [.int (nI b), .int (nI (b + 1)), .int 3, .int 0]) (rest := []) ⟨hx, hb, hml, hown, hts⟩ (c_X4_turn l dC dI cI cJ cZ q aS aC aW aL aN aI aB aD aU aF n gv sz 0 sp se ct aw le (upd ne x.toNatClampNeg 1) (upd ins x.toNatClampNeg 0) ba dd cr nw cs un fr rl_ qs b (b + 1) 3 0 (by omega) (by omega)) (cwV 4 hts gX4_field_X4_turn rfl rfl rfl (by decide +kernel) ⟨Nat.le_of_ble_eq_true rfl, Nat.le_of_ble_eq_true rfl⟩) (up_preV (q0 := 0) (ci := 5) hP hK hD rfl rfl) rfl rfl hl.1 rfl (lv_room (Nat.le_of_ble_eq_true rfl)) dX4_field_268 ⟨Nat.le_of_ble_eq_true rfl, Nat.le_of_ble_eq_true rfl⟩) hD hS ((md_fst ..).trans (md_fst ..).symm) (fun H locs hP hD hS _ _ => ?_)
                                    have hP : va_P (dC, dI) vwCl (mdW cI cJ cZ q aS aC aW aL aN aI aB aD aU aF n gv sz 0 sp se ct aw le (upd ne x.toNatClampNeg 1) (upd ins x.toNatClampNeg 0) ba ((md_turn dd nw cs b (b + 1) 3 0).2.1) cr nw ((md_turn dd nw cs b (b + 1) 3 0).2.2) un fr rl_ qs) H := hP
                                    have hD : va_D (up_c (mdW cI cJ cZ q aS aC aW aL aN aI aB aD aU aF n gv sz cd sp se ct aw le ne ins ba dd cr nw cs un fr rl qs)) (mdW cI cJ cZ q aS aC aW aL aN aI aB aD aU aF n gv sz 0 sp se ct aw le (upd ne x.toNatClampNeg 1) (upd ins x.toNatClampNeg 0) ba ((md_turn dd nw cs b (b + 1) 3 0).2.1) cr nw ((md_turn dd nw cs b (b + 1) 3 0).2.2) un fr rl_ qs) := hD
                                    refine lv_goto (tgt := 275) hx hb dX4_field_271 (by decide) ?_
                                    refine lv_istore (lv' := [(11, .int ((md_turn dd nw cs b (b + 1) 3 0).1)), (10, .int 1), (0, .ref q), (1, .int x), (2, .long y), (4, .long u), (8, .int v), (9, .int (nI b))]) hx hb dX4_field_275 hl (by decide) rfl (fun ls hl => ?_)
                                    refine lv_aload_n hx hb dX4_field_277 rfl (lv_at hl 2 rfl) ?_
                                    refine va_get (D := (dC, dI)) (ci := 5) (v := .ref aN) (C := RX4) (T := TX4) (N := 20) hx hb hts inn_X4_field_X4 hown hK hP 0 rfl rfl 7 (by decide) (hts (.fieldLink RX4 24 "DoorKeysModel" "near" "[Z") (by decide +kernel)) (fun _ h9 => h9) rfl dX4_field_278 ?_
                                    refine lv_iload_n hx hb dX4_field_281 rfl (lv_at hl 3 rfl) ?_
                                    refine va_zald hx hb hK hP 5 2 rfl rfl (md_none_in hn c_5) dX4_field_282 ?_
                                    refine lv_if_ne (tgt := 295) hx hb dX4_field_283 (by decide) (fun c_283 => ?_) (fun c_283 => absurd c_283 c_247)
                                    refine lv_iconst (v := 1) hx hb dX4_field_295 (by decide) ?_
                                    refine lv_goto (tgt := 300) hx hb dX4_field_296 (by decide) ?_
                                    have e_ : md_field_l le ne ins dd nw cs x y u v rl_ 0 j b = ((1 : Int32), rl_, (upd ne x.toNatClampNeg 1), (upd ins x.toNatClampNeg 0), (md_turn dd nw cs b (b + 1) 3 0).2.1, (md_turn dd nw cs b (b + 1) 3 0).2.2) := (md_field_l.eq_1 ..).trans ((if_neg c_145).trans ((if_pos c_150).trans ((if_neg c_182).trans ((if_neg c_206).trans ((if_neg c_214).trans ((if_pos c_223).trans ((if_neg c_247).trans ((if_pos c_256).trans rfl))))))))
                                    rw [e_]
                                    exact W.iret (v := 1) hx hb hr (fun t ht hW => ⟨rfl, by rw [ht]; exact hP, hS.F ht⟩) hS.2.2 dX4_field_300
                              · refine lv_lload hx hb dX4_field_226 (lv_at hl 4 rfl) ?_
                                refine lv_ldc2 (v := 800) hx hb hown (hts (.constantLong RX4 136 800) (by decide +kernel)) dX4_field_228 ?_
                                refine W.lcmp hx hb dX4_field_231 ?_
                                refine lv_if_gt (tgt := 239) hx hb dX4_field_232 (by decide) (fun c_232 => ?_) (fun c_232 => ?_)
                                · refine lv_iconst (v := 0) hx hb dX4_field_239 (by decide) ?_
                                  refine va_zast hx hb hK hP hD hS 6 2 rfl rfl (md_none_in hn c_5) dX4_field_240 (fun H locs hP hD hS => ?_)
                                  have hP : va_P (dC, dI) vwCl (mdW cI cJ cZ q aS aC aW aL aN aI aB aD aU aF n gv sz 0 sp se ct aw le (upd ne x.toNatClampNeg 1) (upd ins x.toNatClampNeg 0) ba dd cr nw cs un fr rl_ qs) H := hP
                                  have hD : va_D (up_c (mdW cI cJ cZ q aS aC aW aL aN aI aB aD aU aF n gv sz cd sp se ct aw le ne ins ba dd cr nw cs un fr rl qs)) (mdW cI cJ cZ q aS aC aW aL aN aI aB aD aU aF n gv sz 0 sp se ct aw le (upd ne x.toNatClampNeg 1) (upd ins x.toNatClampNeg 0) ba dd cr nw cs un fr rl_ qs) := hD
                                  refine lv_aload_n hx hb dX4_field_241 rfl (lv_at hl 1 rfl) ?_
                                  refine va_get (D := (dC, dI)) (ci := 5) (v := .ref aN) (C := RX4) (T := TX4) (N := 20) hx hb hts inn_X4_field_X4 hown hK hP 0 rfl rfl 7 (by decide) (hts (.fieldLink RX4 24 "DoorKeysModel" "near" "[Z") (by decide +kernel)) (fun _ h9 => h9) rfl dX4_field_242 ?_
                                  refine lv_iload_n hx hb dX4_field_245 rfl (lv_at hl 2 rfl) ?_
                                  refine va_zald hx hb hK hP 5 2 rfl rfl (md_none_in hn c_5) dX4_field_246 ?_
                                  refine lv_if_eq (tgt := 274) hx hb dX4_field_247 (by decide) (fun c_247 => ?_) (fun c_247 => ?_)
                                  · refine lv_iconst (v := 0) hx hb dX4_field_274 (by decide) ?_
                                    refine lv_istore (lv' := [(11, .int 0), (10, .int 1), (0, .ref q), (1, .int x), (2, .long y), (4, .long u), (8, .int v), (9, .int (nI b))]) hx hb dX4_field_275 hl (by decide) rfl (fun ls hl => ?_)
                                    refine lv_aload_n hx hb dX4_field_277 rfl (lv_at hl 2 rfl) ?_
                                    refine va_get (D := (dC, dI)) (ci := 5) (v := .ref aN) (C := RX4) (T := TX4) (N := 20) hx hb hts inn_X4_field_X4 hown hK hP 0 rfl rfl 7 (by decide) (hts (.fieldLink RX4 24 "DoorKeysModel" "near" "[Z") (by decide +kernel)) (fun _ h9 => h9) rfl dX4_field_278 ?_
                                    refine lv_iload_n hx hb dX4_field_281 rfl (lv_at hl 3 rfl) ?_
                                    refine va_zald hx hb hK hP 5 2 rfl rfl (md_none_in hn c_5) dX4_field_282 ?_
                                    refine lv_if_ne (tgt := 295) hx hb dX4_field_283 (by decide) (fun c_283 => absurd c_247 c_283) (fun c_283 => ?_)
                                    refine lv_aload_n hx hb dX4_field_286 rfl (lv_at hl 2 rfl) ?_
                                    refine va_get (D := (dC, dI)) (ci := 5) (v := .ref aI) (C := RX4) (T := TX4) (N := 20) hx hb hts inn_X4_field_X4 hown hK hP 0 rfl rfl 8 (by decide) (hts (.fieldLink RX4 27 "DoorKeysModel" "inside" "[Z") (by decide +kernel)) (fun _ h9 => h9) rfl dX4_field_287 ?_
                                    refine lv_iload_n hx hb dX4_field_290 rfl (lv_at hl 3 rfl) ?_
                                    refine va_zald hx hb hK hP 6 2 rfl rfl (md_none_in hn c_5) dX4_field_291 ?_
                                    refine lv_if_eq (tgt := 299) hx hb dX4_field_292 (by decide) (fun c_292 => ?_) (fun c_292 => ?_)
                                    · refine lv_iconst (v := 0) hx hb dX4_field_299 (by decide) ?_
                                      have e_ : md_field_l le ne ins dd nw cs x y u v rl_ 0 j b = ((0 : Int32), rl_, (upd ne x.toNatClampNeg 1), (upd ins x.toNatClampNeg 0), dd, cs) := (md_field_l.eq_1 ..).trans ((if_neg c_145).trans ((if_pos c_150).trans ((if_neg c_182).trans ((if_neg c_206).trans ((if_neg c_214).trans ((if_neg c_223).trans ((if_pos c_232).trans ((if_pos c_247).trans ((if_pos c_292).trans rfl)))))))))
                                      rw [e_]
                                      exact W.iret (v := 0) hx hb hr (fun t ht hW => ⟨rfl, by rw [ht]; exact hP, hS.F ht⟩) hS.2.2 dX4_field_300
                                    · refine lv_iconst (v := 1) hx hb dX4_field_295 (by decide) ?_
                                      refine lv_goto (tgt := 300) hx hb dX4_field_296 (by decide) ?_
                                      have e_ : md_field_l le ne ins dd nw cs x y u v rl_ 0 j b = ((1 : Int32), rl_, (upd ne x.toNatClampNeg 1), (upd ins x.toNatClampNeg 0), dd, cs) := (md_field_l.eq_1 ..).trans ((if_neg c_145).trans ((if_pos c_150).trans ((if_neg c_182).trans ((if_neg c_206).trans ((if_neg c_214).trans ((if_neg c_223).trans ((if_pos c_232).trans ((if_pos c_247).trans ((if_neg c_292).trans rfl)))))))))
                                      rw [e_]
                                      exact W.iret (v := 1) hx hb hr (fun t ht hW => ⟨rfl, by rw [ht]; exact hP, hS.F ht⟩) hS.2.2 dX4_field_300
                                  · refine lv_aload_n hx hb dX4_field_250 rfl (lv_at hl 1 rfl) ?_
                                    refine va_get (D := (dC, dI)) (ci := 5) (v := .ref aI) (C := RX4) (T := TX4) (N := 20) hx hb hts inn_X4_field_X4 hown hK hP 0 rfl rfl 8 (by decide) (hts (.fieldLink RX4 27 "DoorKeysModel" "inside" "[Z") (by decide +kernel)) (fun _ h9 => h9) rfl dX4_field_251 ?_
                                    refine lv_iload_n hx hb dX4_field_254 rfl (lv_at hl 2 rfl) ?_
                                    refine va_zald hx hb hK hP 6 2 rfl rfl (md_none_in hn c_5) dX4_field_255 ?_
                                    refine lv_if_ne (tgt := 274) hx hb dX4_field_256 (by decide) (fun c_256 => ?_) (fun c_256 => ?_)
                                    · refine lv_iconst (v := 0) hx hb dX4_field_274 (by decide) ?_
                                      refine lv_istore (lv' := [(11, .int 0), (10, .int 1), (0, .ref q), (1, .int x), (2, .long y), (4, .long u), (8, .int v), (9, .int (nI b))]) hx hb dX4_field_275 hl (by decide) rfl (fun ls hl => ?_)
                                      refine lv_aload_n hx hb dX4_field_277 rfl (lv_at hl 2 rfl) ?_
                                      refine va_get (D := (dC, dI)) (ci := 5) (v := .ref aN) (C := RX4) (T := TX4) (N := 20) hx hb hts inn_X4_field_X4 hown hK hP 0 rfl rfl 7 (by decide) (hts (.fieldLink RX4 24 "DoorKeysModel" "near" "[Z") (by decide +kernel)) (fun _ h9 => h9) rfl dX4_field_278 ?_
                                      refine lv_iload_n hx hb dX4_field_281 rfl (lv_at hl 3 rfl) ?_
                                      refine va_zald hx hb hK hP 5 2 rfl rfl (md_none_in hn c_5) dX4_field_282 ?_
                                      refine lv_if_ne (tgt := 295) hx hb dX4_field_283 (by decide) (fun c_283 => ?_) (fun c_283 => absurd c_283 c_247)
                                      refine lv_iconst (v := 1) hx hb dX4_field_295 (by decide) ?_
                                      refine lv_goto (tgt := 300) hx hb dX4_field_296 (by decide) ?_
                                      have e_ : md_field_l le ne ins dd nw cs x y u v rl_ 0 j b = ((1 : Int32), rl_, (upd ne x.toNatClampNeg 1), (upd ins x.toNatClampNeg 0), dd, cs) := (md_field_l.eq_1 ..).trans ((if_neg c_145).trans ((if_pos c_150).trans ((if_neg c_182).trans ((if_neg c_206).trans ((if_neg c_214).trans ((if_neg c_223).trans ((if_pos c_232).trans ((if_neg c_247).trans ((if_neg c_256).trans rfl)))))))))
                                      rw [e_]
                                      exact W.iret (v := 1) hx hb hr (fun t ht hW => ⟨rfl, by rw [ht]; exact hP, hS.F ht⟩) hS.2.2 dX4_field_300
                                    · refine lv_aload_n hx hb dX4_field_259 rfl (lv_at hl 1 rfl) ?_
                                      refine lv_iload hx hb dX4_field_260 (lv_at hl 6 rfl) ?_
                                      refine lv_iload hx hb dX4_field_262 (lv_at hl 6 rfl) ?_
                                      refine lv_iconst (v := 1) hx hb dX4_field_264 (by decide) ?_
                                      refine lv_iadd hx hb dX4_field_265 ?_
                                      rw [nI_1]
                                      refine lv_iconst (v := 3) hx hb dX4_field_266 (by decide) ?_
                                      refine lv_iconst (v := 0) hx hb dX4_field_267 (by decide) ?_
                                      refine up_call (W.runV (As := [.int (nI b), .int (nI (b + 1)), .int 3, .int 0]) (rest := []) ⟨hx, hb, hml, hown, hts⟩ (c_X4_turn l dC dI cI cJ cZ q aS aC aW aL aN aI aB aD aU aF n gv sz 0 sp se ct aw le (upd ne x.toNatClampNeg 1) (upd ins x.toNatClampNeg 0) ba dd cr nw cs un fr rl_ qs b (b + 1) 3 0 (by omega) (by omega)) (cwV 4 hts gX4_field_X4_turn rfl rfl rfl (by decide +kernel) ⟨Nat.le_of_ble_eq_true rfl, Nat.le_of_ble_eq_true rfl⟩) (up_preV (q0 := 0) (ci := 5) hP hK hD rfl rfl) rfl rfl hl.1 rfl (lv_room (Nat.le_of_ble_eq_true rfl)) dX4_field_268 ⟨Nat.le_of_ble_eq_true rfl, Nat.le_of_ble_eq_true rfl⟩) hD hS ((md_fst ..).trans (md_fst ..).symm) (fun H locs hP hD hS _ _ => ?_)
                                      have hP : va_P (dC, dI) vwCl (mdW cI cJ cZ q aS aC aW aL aN aI aB aD aU aF n gv sz 0 sp se ct aw le (upd ne x.toNatClampNeg 1) (upd ins x.toNatClampNeg 0) ba ((md_turn dd nw cs b (b + 1) 3 0).2.1) cr nw ((md_turn dd nw cs b (b + 1) 3 0).2.2) un fr rl_ qs) H := hP
                                      have hD : va_D (up_c (mdW cI cJ cZ q aS aC aW aL aN aI aB aD aU aF n gv sz cd sp se ct aw le ne ins ba dd cr nw cs un fr rl qs)) (mdW cI cJ cZ q aS aC aW aL aN aI aB aD aU aF n gv sz 0 sp se ct aw le (upd ne x.toNatClampNeg 1) (upd ins x.toNatClampNeg 0) ba ((md_turn dd nw cs b (b + 1) 3 0).2.1) cr nw ((md_turn dd nw cs b (b + 1) 3 0).2.2) un fr rl_ qs) := hD
                                      refine lv_goto (tgt := 275) hx hb dX4_field_271 (by decide) ?_
                                      refine lv_istore (lv' := [(11, .int ((md_turn dd nw cs b (b + 1) 3 0).1)), (10, .int 1), (0, .ref q), (1, .int x), (2, .long y), (4, .long u), (8, .int v), (9, .int (nI b))]) hx hb dX4_field_275 hl (by decide) rfl (fun ls hl => ?_)
                                      refine lv_aload_n hx hb dX4_field_277 rfl (lv_at hl 2 rfl) ?_
                                      refine va_get (D := (dC, dI)) (ci := 5) (v := .ref aN) (C := RX4) (T := TX4) (N := 20) hx hb hts inn_X4_field_X4 hown hK hP 0 rfl rfl 7 (by decide) (hts (.fieldLink RX4 24 "DoorKeysModel" "near" "[Z") (by decide +kernel)) (fun _ h9 => h9) rfl dX4_field_278 ?_
                                      refine lv_iload_n hx hb dX4_field_281 rfl (lv_at hl 3 rfl) ?_
                                      refine va_zald hx hb hK hP 5 2 rfl rfl (md_none_in hn c_5) dX4_field_282 ?_
                                      refine lv_if_ne (tgt := 295) hx hb dX4_field_283 (by decide) (fun c_283 => ?_) (fun c_283 => absurd c_283 c_247)
                                      refine lv_iconst (v := 1) hx hb dX4_field_295 (by decide) ?_
                                      refine lv_goto (tgt := 300) hx hb dX4_field_296 (by decide) ?_
                                      have e_ : md_field_l le ne ins dd nw cs x y u v rl_ 0 j b = ((1 : Int32), rl_, (upd ne x.toNatClampNeg 1), (upd ins x.toNatClampNeg 0), (md_turn dd nw cs b (b + 1) 3 0).2.1, (md_turn dd nw cs b (b + 1) 3 0).2.2) := (md_field_l.eq_1 ..).trans ((if_neg c_145).trans ((if_pos c_150).trans ((if_neg c_182).trans ((if_neg c_206).trans ((if_neg c_214).trans ((if_neg c_223).trans ((if_pos c_232).trans ((if_neg c_247).trans ((if_pos c_256).trans rfl)))))))))
                                      rw [e_]
                                      exact W.iret (v := 1) hx hb hr (fun t ht hW => ⟨rfl, by rw [ht]; exact hP, hS.F ht⟩) hS.2.2 dX4_field_300
                                · refine lv_iconst (v := 1) hx hb dX4_field_235 (by decide) ?_
                                  refine lv_goto (tgt := 240) hx hb dX4_field_236 (by decide) ?_
                                  refine va_zast hx hb hK hP hD hS 6 2 rfl rfl (md_none_in hn c_5) dX4_field_240 (fun H locs hP hD hS => ?_)
                                  have hP : va_P (dC, dI) vwCl (mdW cI cJ cZ q aS aC aW aL aN aI aB aD aU aF n gv sz 0 sp se ct aw le (upd ne x.toNatClampNeg 1) (upd ins x.toNatClampNeg 1) ba dd cr nw cs un fr rl_ qs) H := hP
                                  have hD : va_D (up_c (mdW cI cJ cZ q aS aC aW aL aN aI aB aD aU aF n gv sz cd sp se ct aw le ne ins ba dd cr nw cs un fr rl qs)) (mdW cI cJ cZ q aS aC aW aL aN aI aB aD aU aF n gv sz 0 sp se ct aw le (upd ne x.toNatClampNeg 1) (upd ins x.toNatClampNeg 1) ba dd cr nw cs un fr rl_ qs) := hD
                                  refine lv_aload_n hx hb dX4_field_241 rfl (lv_at hl 1 rfl) ?_
                                  refine va_get (D := (dC, dI)) (ci := 5) (v := .ref aN) (C := RX4) (T := TX4) (N := 20) hx hb hts inn_X4_field_X4 hown hK hP 0 rfl rfl 7 (by decide) (hts (.fieldLink RX4 24 "DoorKeysModel" "near" "[Z") (by decide +kernel)) (fun _ h9 => h9) rfl dX4_field_242 ?_
                                  refine lv_iload_n hx hb dX4_field_245 rfl (lv_at hl 2 rfl) ?_
                                  refine va_zald hx hb hK hP 5 2 rfl rfl (md_none_in hn c_5) dX4_field_246 ?_
                                  refine lv_if_eq (tgt := 274) hx hb dX4_field_247 (by decide) (fun c_247 => ?_) (fun c_247 => ?_)
                                  · refine lv_iconst (v := 0) hx hb dX4_field_274 (by decide) ?_
                                    refine lv_istore (lv' := [(11, .int 0), (10, .int 1), (0, .ref q), (1, .int x), (2, .long y), (4, .long u), (8, .int v), (9, .int (nI b))]) hx hb dX4_field_275 hl (by decide) rfl (fun ls hl => ?_)
                                    refine lv_aload_n hx hb dX4_field_277 rfl (lv_at hl 2 rfl) ?_
                                    refine va_get (D := (dC, dI)) (ci := 5) (v := .ref aN) (C := RX4) (T := TX4) (N := 20) hx hb hts inn_X4_field_X4 hown hK hP 0 rfl rfl 7 (by decide) (hts (.fieldLink RX4 24 "DoorKeysModel" "near" "[Z") (by decide +kernel)) (fun _ h9 => h9) rfl dX4_field_278 ?_
                                    refine lv_iload_n hx hb dX4_field_281 rfl (lv_at hl 3 rfl) ?_
                                    refine va_zald hx hb hK hP 5 2 rfl rfl (md_none_in hn c_5) dX4_field_282 ?_
                                    refine lv_if_ne (tgt := 295) hx hb dX4_field_283 (by decide) (fun c_283 => absurd c_247 c_283) (fun c_283 => ?_)
                                    refine lv_aload_n hx hb dX4_field_286 rfl (lv_at hl 2 rfl) ?_
                                    refine va_get (D := (dC, dI)) (ci := 5) (v := .ref aI) (C := RX4) (T := TX4) (N := 20) hx hb hts inn_X4_field_X4 hown hK hP 0 rfl rfl 8 (by decide) (hts (.fieldLink RX4 27 "DoorKeysModel" "inside" "[Z") (by decide +kernel)) (fun _ h9 => h9) rfl dX4_field_287 ?_
                                    refine lv_iload_n hx hb dX4_field_290 rfl (lv_at hl 3 rfl) ?_
                                    refine va_zald hx hb hK hP 6 2 rfl rfl (md_none_in hn c_5) dX4_field_291 ?_
                                    refine lv_if_eq (tgt := 299) hx hb dX4_field_292 (by decide) (fun c_292 => ?_) (fun c_292 => ?_)
                                    · refine lv_iconst (v := 0) hx hb dX4_field_299 (by decide) ?_
                                      have e_ : md_field_l le ne ins dd nw cs x y u v rl_ 0 j b = ((0 : Int32), rl_, (upd ne x.toNatClampNeg 1), (upd ins x.toNatClampNeg 1), dd, cs) := (md_field_l.eq_1 ..).trans ((if_neg c_145).trans ((if_pos c_150).trans ((if_neg c_182).trans ((if_neg c_206).trans ((if_neg c_214).trans ((if_neg c_223).trans ((if_neg c_232).trans ((if_pos c_247).trans ((if_pos c_292).trans rfl)))))))))
                                      rw [e_]
                                      exact W.iret (v := 0) hx hb hr (fun t ht hW => ⟨rfl, by rw [ht]; exact hP, hS.F ht⟩) hS.2.2 dX4_field_300
                                    · refine lv_iconst (v := 1) hx hb dX4_field_295 (by decide) ?_
                                      refine lv_goto (tgt := 300) hx hb dX4_field_296 (by decide) ?_
                                      have e_ : md_field_l le ne ins dd nw cs x y u v rl_ 0 j b = ((1 : Int32), rl_, (upd ne x.toNatClampNeg 1), (upd ins x.toNatClampNeg 1), dd, cs) := (md_field_l.eq_1 ..).trans ((if_neg c_145).trans ((if_pos c_150).trans ((if_neg c_182).trans ((if_neg c_206).trans ((if_neg c_214).trans ((if_neg c_223).trans ((if_neg c_232).trans ((if_pos c_247).trans ((if_neg c_292).trans rfl)))))))))
                                      rw [e_]
                                      exact W.iret (v := 1) hx hb hr (fun t ht hW => ⟨rfl, by rw [ht]; exact hP, hS.F ht⟩) hS.2.2 dX4_field_300
                                  · refine lv_aload_n hx hb dX4_field_250 rfl (lv_at hl 1 rfl) ?_
                                    refine va_get (D := (dC, dI)) (ci := 5) (v := .ref aI) (C := RX4) (T := TX4) (N := 20) hx hb hts inn_X4_field_X4 hown hK hP 0 rfl rfl 8 (by decide) (hts (.fieldLink RX4 27 "DoorKeysModel" "inside" "[Z") (by decide +kernel)) (fun _ h9 => h9) rfl dX4_field_251 ?_
                                    refine lv_iload_n hx hb dX4_field_254 rfl (lv_at hl 2 rfl) ?_
                                    refine va_zald hx hb hK hP 6 2 rfl rfl (md_none_in hn c_5) dX4_field_255 ?_
                                    refine lv_if_ne (tgt := 274) hx hb dX4_field_256 (by decide) (fun c_256 => ?_) (fun c_256 => ?_)
                                    · refine lv_iconst (v := 0) hx hb dX4_field_274 (by decide) ?_
                                      refine lv_istore (lv' := [(11, .int 0), (10, .int 1), (0, .ref q), (1, .int x), (2, .long y), (4, .long u), (8, .int v), (9, .int (nI b))]) hx hb dX4_field_275 hl (by decide) rfl (fun ls hl => ?_)
                                      refine lv_aload_n hx hb dX4_field_277 rfl (lv_at hl 2 rfl) ?_
                                      refine va_get (D := (dC, dI)) (ci := 5) (v := .ref aN) (C := RX4) (T := TX4) (N := 20) hx hb hts inn_X4_field_X4 hown hK hP 0 rfl rfl 7 (by decide) (hts (.fieldLink RX4 24 "DoorKeysModel" "near" "[Z") (by decide +kernel)) (fun _ h9 => h9) rfl dX4_field_278 ?_
                                      refine lv_iload_n hx hb dX4_field_281 rfl (lv_at hl 3 rfl) ?_
                                      refine va_zald hx hb hK hP 5 2 rfl rfl (md_none_in hn c_5) dX4_field_282 ?_
                                      refine lv_if_ne (tgt := 295) hx hb dX4_field_283 (by decide) (fun c_283 => ?_) (fun c_283 => absurd c_283 c_247)
                                      refine lv_iconst (v := 1) hx hb dX4_field_295 (by decide) ?_
                                      refine lv_goto (tgt := 300) hx hb dX4_field_296 (by decide) ?_
                                      have e_ : md_field_l le ne ins dd nw cs x y u v rl_ 0 j b = ((1 : Int32), rl_, (upd ne x.toNatClampNeg 1), (upd ins x.toNatClampNeg 1), dd, cs) := (md_field_l.eq_1 ..).trans ((if_neg c_145).trans ((if_pos c_150).trans ((if_neg c_182).trans ((if_neg c_206).trans ((if_neg c_214).trans ((if_neg c_223).trans ((if_neg c_232).trans ((if_neg c_247).trans ((if_neg c_256).trans rfl)))))))))
                                      rw [e_]
                                      exact W.iret (v := 1) hx hb hr (fun t ht hW => ⟨rfl, by rw [ht]; exact hP, hS.F ht⟩) hS.2.2 dX4_field_300
                                    · refine lv_aload_n hx hb dX4_field_259 rfl (lv_at hl 1 rfl) ?_
                                      refine lv_iload hx hb dX4_field_260 (lv_at hl 6 rfl) ?_
                                      refine lv_iload hx hb dX4_field_262 (lv_at hl 6 rfl) ?_
                                      refine lv_iconst (v := 1) hx hb dX4_field_264 (by decide) ?_
                                      refine lv_iadd hx hb dX4_field_265 ?_
                                      rw [nI_1]
                                      refine lv_iconst (v := 3) hx hb dX4_field_266 (by decide) ?_
                                      refine lv_iconst (v := 0) hx hb dX4_field_267 (by decide) ?_
                                      refine up_call (W.runV (As := [.int (nI b), .int (nI (b + 1)), .int 3, .int 0]) (rest := []) ⟨hx, hb, hml, hown, hts⟩ (c_X4_turn l dC dI cI cJ cZ q aS aC aW aL aN aI aB aD aU aF n gv sz 0 sp se ct aw le (upd ne x.toNatClampNeg 1) (upd ins x.toNatClampNeg 1) ba dd cr nw cs un fr rl_ qs b (b + 1) 3 0 (by omega) (by omega)) (cwV 4 hts gX4_field_X4_turn rfl rfl rfl (by decide +kernel) ⟨Nat.le_of_ble_eq_true rfl, Nat.le_of_ble_eq_true rfl⟩) (up_preV (q0 := 0) (ci := 5) hP hK hD rfl rfl) rfl rfl hl.1 rfl (lv_room (Nat.le_of_ble_eq_true rfl)) dX4_field_268 ⟨Nat.le_of_ble_eq_true rfl, Nat.le_of_ble_eq_true rfl⟩) hD hS ((md_fst ..).trans (md_fst ..).symm) (fun H locs hP hD hS _ _ => ?_)
                                      have hP : va_P (dC, dI) vwCl (mdW cI cJ cZ q aS aC aW aL aN aI aB aD aU aF n gv sz 0 sp se ct aw le (upd ne x.toNatClampNeg 1) (upd ins x.toNatClampNeg 1) ba ((md_turn dd nw cs b (b + 1) 3 0).2.1) cr nw ((md_turn dd nw cs b (b + 1) 3 0).2.2) un fr rl_ qs) H := hP
                                      have hD : va_D (up_c (mdW cI cJ cZ q aS aC aW aL aN aI aB aD aU aF n gv sz cd sp se ct aw le ne ins ba dd cr nw cs un fr rl qs)) (mdW cI cJ cZ q aS aC aW aL aN aI aB aD aU aF n gv sz 0 sp se ct aw le (upd ne x.toNatClampNeg 1) (upd ins x.toNatClampNeg 1) ba ((md_turn dd nw cs b (b + 1) 3 0).2.1) cr nw ((md_turn dd nw cs b (b + 1) 3 0).2.2) un fr rl_ qs) := hD
                                      refine lv_goto (tgt := 275) hx hb dX4_field_271 (by decide) ?_
                                      refine lv_istore (lv' := [(11, .int ((md_turn dd nw cs b (b + 1) 3 0).1)), (10, .int 1), (0, .ref q), (1, .int x), (2, .long y), (4, .long u), (8, .int v), (9, .int (nI b))]) hx hb dX4_field_275 hl (by decide) rfl (fun ls hl => ?_)
                                      refine lv_aload_n hx hb dX4_field_277 rfl (lv_at hl 2 rfl) ?_
                                      refine va_get (D := (dC, dI)) (ci := 5) (v := .ref aN) (C := RX4) (T := TX4) (N := 20) hx hb hts inn_X4_field_X4 hown hK hP 0 rfl rfl 7 (by decide) (hts (.fieldLink RX4 24 "DoorKeysModel" "near" "[Z") (by decide +kernel)) (fun _ h9 => h9) rfl dX4_field_278 ?_
                                      refine lv_iload_n hx hb dX4_field_281 rfl (lv_at hl 3 rfl) ?_
                                      refine va_zald hx hb hK hP 5 2 rfl rfl (md_none_in hn c_5) dX4_field_282 ?_
                                      refine lv_if_ne (tgt := 295) hx hb dX4_field_283 (by decide) (fun c_283 => ?_) (fun c_283 => absurd c_283 c_247)
                                      refine lv_iconst (v := 1) hx hb dX4_field_295 (by decide) ?_
                                      refine lv_goto (tgt := 300) hx hb dX4_field_296 (by decide) ?_
                                      have e_ : md_field_l le ne ins dd nw cs x y u v rl_ 0 j b = ((1 : Int32), rl_, (upd ne x.toNatClampNeg 1), (upd ins x.toNatClampNeg 1), (md_turn dd nw cs b (b + 1) 3 0).2.1, (md_turn dd nw cs b (b + 1) 3 0).2.2) := (md_field_l.eq_1 ..).trans ((if_neg c_145).trans ((if_pos c_150).trans ((if_neg c_182).trans ((if_neg c_206).trans ((if_neg c_214).trans ((if_neg c_223).trans ((if_neg c_232).trans ((if_neg c_247).trans ((if_pos c_256).trans rfl)))))))))
                                      rw [e_]
                                      exact W.iret (v := 1) hx hb hr (fun t ht hW => ⟨rfl, by rw [ht]; exact hP, hS.F ht⟩) hS.2.2 dX4_field_300
                  | succ r ih =>
                    intro j b hj hy ls hl
                    refine lv_iload hx hb dX4_field_98 (lv_at hl 5 rfl) ?_
                    refine lv_iconst (v := 5) hx hb dX4_field_100 (by decide) ?_
                    refine lv_icmp_ge (tgt := 139) hx hb dX4_field_101 (by decide) (fun c_101 => (nI_ge (a := (j + 1)) (b := 5) (by omega) (by omega) c_101).elim) (fun c_101 => ?_)
                    refine lv_iload hx hb dX4_field_104 (lv_at hl 5 rfl) ?_
                    refine lv_lload_n hx hb dX4_field_106 rfl (lv_at hl 2 rfl) ?_
                    refine lv_lload hx hb dX4_field_107 (lv_at hl 3 rfl) ?_
                    refine up_read (W.runS (As := [.int (nI (j + 1)), .long y, .long u]) (rest := []) ⟨hx, hb, hml, hown, hts⟩ (c_X4_far l dC dI cI cJ cZ q aS aC aW aL aN aI aB aD aU aF n gv sz 0 sp se ct aw le ne ins ba dd cr nw cs un fr rl_ qs (nI (j + 1)) y u) (va_cwS 3 hts gX4_field_X4_far rfl rfl rfl (by decide +kernel) ⟨Nat.le_of_ble_eq_true rfl, Nat.le_of_ble_eq_true rfl⟩) (up_preS hP hK hD) rfl rfl hl.1 rfl (lv_room (Nat.le_of_ble_eq_true rfl)) dX4_field_109 ⟨Nat.le_of_ble_eq_true rfl, Nat.le_of_ble_eq_true rfl⟩) ?_
                    refine lv_iload hx hb dX4_field_112 (lv_at hl 6 rfl) ?_
                    refine lv_lload_n hx hb dX4_field_114 rfl (lv_at hl 2 rfl) ?_
                    refine lv_lload hx hb dX4_field_115 (lv_at hl 3 rfl) ?_
                    refine up_read (W.runS (As := [.int (nI b), .long y, .long u]) (rest := [.long (md_far (nI (j + 1)) y u)]) ⟨hx, hb, hml, hown, hts⟩ (c_X4_far l dC dI cI cJ cZ q aS aC aW aL aN aI aB aD aU aF n gv sz 0 sp se ct aw le ne ins ba dd cr nw cs un fr rl_ qs (nI b) y u) (va_cwS 3 hts gX4_field_X4_far rfl rfl rfl (by decide +kernel) ⟨Nat.le_of_ble_eq_true rfl, Nat.le_of_ble_eq_true rfl⟩) (up_preS hP hK hD) rfl rfl hl.1 rfl (lv_room (Nat.le_of_ble_eq_true rfl)) dX4_field_117 ⟨Nat.le_of_ble_eq_true rfl, Nat.le_of_ble_eq_true rfl⟩) ?_
                    refine W.lcmp hx hb dX4_field_120 ?_
                    refine lv_if_ge (tgt := 129) hx hb dX4_field_121 (by decide) (fun c_121 => ?_) (fun c_121 => ?_)
                    · refine lv_iload hx hb dX4_field_129 (lv_at hl 6 rfl) ?_
                      refine lv_istore (lv' := [(9, .int (nI b)), (0, .ref q), (1, .int x), (2, .long y), (4, .long u), (8, .int v), (10, .int (nI (j + 1)))]) hx hb dX4_field_131 hl (by decide) rfl (fun ls hl => ?_)
                      refine lv_iinc (v := (nI ((j + 1) + 1))) (lv' := [(10, .int (nI ((j + 1) + 1))), (9, .int (nI b)), (0, .ref q), (1, .int x), (2, .long y), (4, .long u), (8, .int v)]) hx hb dX4_field_133 hl (k := 6) rfl (nI_1 _) (by decide) rfl (fun ls hl => ?_)
                      refine lv_goto (tgt := 98) hx hb dX4_field_136 (by decide) ?_
                      have e_ : md_field_l le ne ins dd nw cs x y u v rl_ (r + 1) j b = md_field_l le ne ins dd nw cs x y u v rl_ r (j + 1) b := (md_field_l.eq_2 ..).trans ((if_pos c_121).trans rfl)
                      rw [e_]
                      exact ih (j + 1) b (by omega) (by omega) ls (lv_sub hl [2, 3, 4, 5, 6, 0, 1] rfl)
                    · refine lv_iload hx hb dX4_field_124 (lv_at hl 5 rfl) ?_
                      refine lv_goto (tgt := 131) hx hb dX4_field_126 (by decide) ?_
                      refine lv_istore (lv' := [(9, .int (nI (j + 1))), (0, .ref q), (1, .int x), (2, .long y), (4, .long u), (8, .int v), (10, .int (nI (j + 1)))]) hx hb dX4_field_131 hl (by decide) rfl (fun ls hl => ?_)
                      refine lv_iinc (v := (nI ((j + 1) + 1))) (lv' := [(10, .int (nI ((j + 1) + 1))), (9, .int (nI (j + 1))), (0, .ref q), (1, .int x), (2, .long y), (4, .long u), (8, .int v)]) hx hb dX4_field_133 hl (k := 6) rfl (nI_1 _) (by decide) rfl (fun ls hl => ?_)
                      refine lv_goto (tgt := 98) hx hb dX4_field_136 (by decide) ?_
                      have e_ : md_field_l le ne ins dd nw cs x y u v rl_ (r + 1) j b = md_field_l le ne ins dd nw cs x y u v rl_ r (j + 1) (j + 1) := (md_field_l.eq_2 ..).trans ((if_neg c_121).trans rfl)
                      rw [e_]
                      exact ih (j + 1) (j + 1) (by omega) (by omega) ls (lv_sub hl [2, 3, 4, 5, 6, 0, 1] rfl)
                have e_ : md_field_c le ne ins dd nw cs x y u v rl_ = md_field_l le ne ins dd nw cs x y u v rl_ 4 0 0 := by unfold md_field_c; exact rfl
                rw [e_]
                exact lp 4 0 0 (by omega) (by omega) ls (lv_sub hl [2, 3, 4, 5, 6, 0, 1] rfl)
              refine lv_lload hx hb dX4_field_54 (lv_at hl 4 rfl) ?_
              refine lv_ldc2 (v := 2000) hx hb hown (hts (.constantLong RX4 121 2000) (by decide +kernel)) dX4_field_56 ?_
              refine W.lcmp hx hb dX4_field_59 ?_
              refine lv_if_le (tgt := 67) hx hb dX4_field_60 (by decide) (fun c_60 => ?_) (fun c_60 => ?_)
              · refine lv_iconst (v := 0) hx hb dX4_field_67 (by decide) ?_
                refine lv_istore (lv' := [(8, .int 0), (0, .ref q), (1, .int x), (2, .long y), (4, .long u), (6, .long w)]) hx hb dX4_field_68 hl (by decide) rfl (fun ls hl => ?_)
                refine lv_aload_n hx hb dX4_field_70 rfl (lv_at hl 1 rfl) ?_
                refine lv_iload hx hb dX4_field_71 (lv_at hl 0 rfl) ?_
                refine lv_if_eq (tgt := 85) hx hb dX4_field_73 (by decide) (fun c_73 => ?_) (fun c_73 => absurd c_73 (by decide))
                refine lv_aload_n hx hb dX4_field_85 rfl (lv_at hl 1 rfl) ?_
                refine va_get (D := (dC, dI)) (ci := 5) (v := .int rl) (C := RX4) (T := TX4) (N := 20) hx hb hts inn_X4_field_X4 hown hK hP 0 rfl rfl 18 (by decide) (hts (.fieldLink RX4 123 "DoorKeysModel" "relays" "I") (by decide +kernel)) (fun _ h9 => h9) rfl dX4_field_86 ?_
                refine va_put (D := (dC, dI)) (ci := 5) (v := .int rl) (ty := .int) (C := RX4) (T := TX4) (N := 20) hx hb hts inn_X4_field_X4 tyX4 tyX4_ok nmX4 hown hK hP hD hS 0 rfl rfl 18 (by decide) (hts (.fieldLink RX4 123 "DoorKeysModel" "relays" "I") (by decide +kernel)) (fun _ h9 => h9) rfl (by decide +kernel) rfl rfl (Nat.le_of_ble_eq_true rfl) dX4_field_89 (fun H locs hP hD hS => ?_)
                have hP : va_P (dC, dI) vwCl (mdW cI cJ cZ q aS aC aW aL aN aI aB aD aU aF n gv sz 0 sp se ct aw le ne ins ba dd cr nw cs un fr rl qs) H := hP
                have hD : va_D (up_c (mdW cI cJ cZ q aS aC aW aL aN aI aB aD aU aF n gv sz cd sp se ct aw le ne ins ba dd cr nw cs un fr rl qs)) (mdW cI cJ cZ q aS aC aW aL aN aI aB aD aU aF n gv sz 0 sp se ct aw le ne ins ba dd cr nw cs un fr rl qs) := hD
                have e_ : md_field n le ne ins dd nw cs rl x y u w = md_field_c le ne ins dd nw cs x y u 0 rl := by unfold md_field; exact (if_pos c_5).trans ((if_neg c_15).trans ((if_neg c_23).trans ((if_neg c_32).trans ((if_neg c_41).trans ((if_pos c_48).trans ((if_pos c_60).trans rfl))))))
                rw [e_]
                exact ct_92 0 rl _ _ hP hD hS ls (lv_sub hl [1, 2, 3, 4, 0] rfl)
              · refine lv_iconst (v := 1) hx hb dX4_field_63 (by decide) ?_
                refine lv_goto (tgt := 68) hx hb dX4_field_64 (by decide) ?_
                refine lv_istore (lv' := [(8, .int 1), (0, .ref q), (1, .int x), (2, .long y), (4, .long u), (6, .long w)]) hx hb dX4_field_68 hl (by decide) rfl (fun ls hl => ?_)
                refine lv_aload_n hx hb dX4_field_70 rfl (lv_at hl 1 rfl) ?_
                refine lv_iload hx hb dX4_field_71 (lv_at hl 0 rfl) ?_
                refine lv_if_eq (tgt := 85) hx hb dX4_field_73 (by decide) (fun c_73 => absurd c_73 (by decide)) (fun c_73 => ?_)
                refine lv_aload_n hx hb dX4_field_76 rfl (lv_at hl 1 rfl) ?_
                refine va_get (D := (dC, dI)) (ci := 5) (v := .int rl) (C := RX4) (T := TX4) (N := 20) hx hb hts inn_X4_field_X4 hown hK hP 0 rfl rfl 18 (by decide) (hts (.fieldLink RX4 123 "DoorKeysModel" "relays" "I") (by decide +kernel)) (fun _ h9 => h9) rfl dX4_field_77 ?_
                refine lv_iconst (v := 1) hx hb dX4_field_80 (by decide) ?_
                refine lv_iadd hx hb dX4_field_81 ?_
                refine lv_goto (tgt := 89) hx hb dX4_field_82 (by decide) ?_
                refine va_put (D := (dC, dI)) (ci := 5) (v := .int (rl + 1)) (ty := .int) (C := RX4) (T := TX4) (N := 20) hx hb hts inn_X4_field_X4 tyX4 tyX4_ok nmX4 hown hK hP hD hS 0 rfl rfl 18 (by decide) (hts (.fieldLink RX4 123 "DoorKeysModel" "relays" "I") (by decide +kernel)) (fun _ h9 => h9) rfl (by decide +kernel) rfl rfl (Nat.le_of_ble_eq_true rfl) dX4_field_89 (fun H locs hP hD hS => ?_)
                have hP : va_P (dC, dI) vwCl (mdW cI cJ cZ q aS aC aW aL aN aI aB aD aU aF n gv sz 0 sp se ct aw le ne ins ba dd cr nw cs un fr (rl + 1) qs) H := hP
                have hD : va_D (up_c (mdW cI cJ cZ q aS aC aW aL aN aI aB aD aU aF n gv sz cd sp se ct aw le ne ins ba dd cr nw cs un fr rl qs)) (mdW cI cJ cZ q aS aC aW aL aN aI aB aD aU aF n gv sz 0 sp se ct aw le ne ins ba dd cr nw cs un fr (rl + 1) qs) := hD
                have e_ : md_field n le ne ins dd nw cs rl x y u w = md_field_c le ne ins dd nw cs x y u 1 (rl + 1) := by unfold md_field; exact (if_pos c_5).trans ((if_neg c_15).trans ((if_neg c_23).trans ((if_neg c_32).trans ((if_neg c_41).trans ((if_pos c_48).trans ((if_neg c_60).trans rfl))))))
                rw [e_]
                exact ct_92 1 (rl + 1) _ _ hP hD hS ls (lv_sub hl [1, 2, 3, 4, 0] rfl)
            · refine lv_bipush (v := (-2)) hx hb dX4_field_51 (by decide) ?_
              have e_ : md_field n le ne ins dd nw cs rl x y u w = (((-2) : Int32), rl, ne, ins, dd, cs) := by unfold md_field; exact (if_pos c_5).trans ((if_neg c_15).trans ((if_neg c_23).trans ((if_neg c_32).trans ((if_neg c_41).trans ((if_neg c_48).trans rfl)))))
              rw [e_]
              exact W.iret (v := (-2)) hx hb hr (fun t ht hW => ⟨rfl, by rw [ht]; exact hP, hS.F ht⟩) hS.2.2 dX4_field_53
  · refine lv_iconst (v := (-1)) hx hb dX4_field_8 (by decide) ?_
    have e_ : md_field n le ne ins dd nw cs rl x y u w = (((-1) : Int32), rl, ne, ins, dd, cs) := by unfold md_field; exact (if_neg c_5).trans rfl
    rw [e_]
    exact W.iret (v := (-1)) hx hb hr (fun t ht hW => ⟨rfl, by rw [ht]; exact hP, hS.F ht⟩) hS.2.2 dX4_field_9
