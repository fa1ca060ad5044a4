/-! a key (laid by wip/gen.py) -/
set_option maxRecDepth 20000 in
theorem inn_X2_isAtHand_X2 : ∀ w ∈ wsX20, w ∈ wsX2_isAtHand := by decide +kernel
set_option maxRecDepth 20000 in
theorem inn_X2_mayTeach_X2 : ∀ w ∈ wsX20, w ∈ wsX2_mayTeach := by decide +kernel
set_option maxRecDepth 20000 in
theorem inn_X2_roll_X2 : ∀ w ∈ wsX20, w ∈ wsX2_roll := by decide +kernel
set_option maxRecDepth 20000 in
theorem inn_X2_part_X2 : ∀ w ∈ wsX20, w ∈ wsX2_part := by decide +kernel
def dk_hand (k : KR) : Int32 :=
  if k.2.2.2.2.1 = 0 then
    if k.2.2.2.2.2.1 = 0 then
      (0 : Int32)
    else
      (1 : Int32)
  else
    (1 : Int32)
def rm_X2_isAtHand : Room := { frames := 0, cells := 0, slots := 0, locals := 0 }
set_option maxHeartbeats 4000000 in
set_option maxRecDepth 100000 in
theorem c_X2_isAtHand (l : Launch) (dC : Nat → ClassId) (dI : Nat → Nat → Nat) (cK : ClassId) (cB : ClassId) (cI : ClassId) (o : Nat) (ks : Nat) (fa : Nat) (oa : Nat) (fb : Nat) (ob : Nat) (dr : Nat) (ds : Nat) (L : Nat → Nat) (n : Nat) (sp : Int32) (co : Nat) (en : Nat) (cr : Int32) (rl : Int32) (qs : Int32) (kA : Int32) (oA : Nat → Int8) (kB : Int32) (oB : Nat → Int8) (tt : Int64) (ss : Int64) (st : Nat → Int32) (K : Nat → KR) (i : Nat) (k : KR) (hi : i < n) (hk : K i = k) : Met l yX2_isAtHand wsX2_isAtHand rm_X2_isAtHand (up_P (dC, dI) vwCl (dkT cK cB cI) (dkW cK cB cI o ks fa oa fb ob dr ds L n sp co en cr rl qs kA oA kB oB tt ss st K) [.ref (L i)]) (k2_QcV (.int (dk_hand k))) 0 0 (fun _ => False) := by
  refine Met.ofW (cc := cX2_isAtHand) (maxL := 1) (ret := (some .boolean)) (by decide) rfl ?_
  intro p e s m args below meth c s₁ B hml hv
  obtain ⟨rfl, hP, hK, hD0⟩ := hv
  have hx := B.exec
  have hb := B.bytes
  have hr := B.returns
  have hts := atoms_spec (ws := wsX2_isAtHand) B.pre
  have hown : s.vm.findClass RX2 = some m.cls := findClass_of_methodNamed B.named
  have hlocks := B.notSynchronized
  have hD := up_self hD0
  have hS : va_S (up_c (dkW cK cB cI o ks fa oa fb ob dr ds L n sp co en cr rl qs kA oA kB oB tt ss st K)) s.heap s.heap [] := va_S.rf
  have hl := lv_entry ([.ref (L i)]) (n := 1) (Nat.le_of_ble_eq_true rfl)
  rw [lg_entry_eq]
  generalize (lg_sl ([.ref (L i)]) ++ List.replicate (1 - (lg_sl ([.ref (L i)])).length) Slot.unset).toArray = ls at hl ⊢
  have hl : lv_has ls 1 [(0, .ref (L i))] := hl
  refine lv_aload_n hx hb dX2_isAtHand_0 rfl (lv_at hl 0 rfl) ?_
  refine va_get (D := (dC, dI)) (ci := 3) (v := .int k.2.2.2.2.1) (C := RX2) (T := TX2) (N := 7) hx hb hts inn_X2_isAtHand_X2 hown hK hP (i + 8) (dk_keyk hi hk) rfl 4 (by decide) (hts (.fieldLink RX2 26 "DoorKeys$Key" "near" "Z") (by decide +kernel)) (fun _ h9 => h9) rfl dX2_isAtHand_1 ?_
  refine lv_if_ne (tgt := 14) hx hb dX2_isAtHand_4 (by decide) (fun c_4 => ?_) (fun c_4 => ?_)
  · refine lv_iconst (v := 1) hx hb dX2_isAtHand_14 (by decide) ?_
    refine lv_goto (tgt := 19) hx hb dX2_isAtHand_15 (by decide) ?_
    have e_ : dk_hand k = (1 : Int32) := by unfold dk_hand; exact (if_neg c_4).trans rfl
    rw [e_]
    exact W.zret (v := 1) hx hb hr (by decide) (fun t ht hW => ⟨rfl, ht⟩) (fun q h => absurd h List.not_mem_nil) dX2_isAtHand_19
  · refine lv_aload_n hx hb dX2_isAtHand_7 rfl (lv_at hl 0 rfl) ?_
    refine va_get (D := (dC, dI)) (ci := 3) (v := .int k.2.2.2.2.2.1) (C := RX2) (T := TX2) (N := 7) hx hb hts inn_X2_isAtHand_X2 hown hK hP (i + 8) (dk_keyk hi hk) rfl 5 (by decide) (hts (.fieldLink RX2 29 "DoorKeys$Key" "inside" "Z") (by decide +kernel)) (fun _ h9 => h9) rfl dX2_isAtHand_8 ?_
    refine lv_if_eq (tgt := 18) hx hb dX2_isAtHand_11 (by decide) (fun c_11 => ?_) (fun c_11 => ?_)
    · refine lv_iconst (v := 0) hx hb dX2_isAtHand_18 (by decide) ?_
      have e_ : dk_hand k = (0 : Int32) := by unfold dk_hand; exact (if_pos c_4).trans ((if_pos c_11).trans rfl)
      rw [e_]
      exact W.zret (v := 0) hx hb hr (by decide) (fun t ht hW => ⟨rfl, ht⟩) (fun q h => absurd h List.not_mem_nil) dX2_isAtHand_19
    · refine lv_iconst (v := 1) hx hb dX2_isAtHand_14 (by decide) ?_
      refine lv_goto (tgt := 19) hx hb dX2_isAtHand_15 (by decide) ?_
      have e_ : dk_hand k = (1 : Int32) := by unfold dk_hand; exact (if_pos c_4).trans ((if_neg c_11).trans rfl)
      rw [e_]
      exact W.zret (v := 1) hx hb hr (by decide) (fun t ht hW => ⟨rfl, ht⟩) (fun q h => absurd h List.not_mem_nil) dX2_isAtHand_19
def dk_teach (k : KR) : Int32 :=
  if k.2.2.2.1 = 0 then
    (0 : Int32)
  else
    if dk_hand k = 0 then
      (0 : Int32)
    else
      (1 : Int32)
def rm_X2_mayTeach : Room := { frames := 1, cells := 0, slots := 0, locals := 20 }
set_option maxHeartbeats 4000000 in
set_option maxRecDepth 100000 in
theorem c_X2_mayTeach (l : Launch) (dC : Nat → ClassId) (dI : Nat → Nat → Nat) (cK : ClassId) (cB : ClassId) (cI : ClassId) (o : Nat) (ks : Nat) (fa : Nat) (oa : Nat) (fb : Nat) (ob : Nat) (dr : Nat) (ds : Nat) (L : Nat → Nat) (n : Nat) (sp : Int32) (co : Nat) (en : Nat) (cr : Int32) (rl : Int32) (qs : Int32) (kA : Int32) (oA : Nat → Int8) (kB : Int32) (oB : Nat → Int8) (tt : Int64) (ss : Int64) (st : Nat → Int32) (K : Nat → KR) (i : Nat) (k : KR) (hi : i < n) (hk : K i = k) : Met l yX2_mayTeach wsX2_mayTeach rm_X2_mayTeach (up_P (dC, dI) vwCl (dkT cK cB cI) (dkW cK cB cI o ks fa oa fb ob dr ds L n sp co en cr rl qs kA oA kB oB tt ss st K) [.ref (L i)]) (k2_QcV (.int (dk_teach k))) 0 0 (fun _ => False) := by
  refine Met.ofW (cc := cX2_mayTeach) (maxL := 1) (ret := (some .boolean)) (by decide) rfl ?_
  intro p e s m args below meth c s₁ B hml hv
  obtain ⟨rfl, hP, hK, hD0⟩ := hv
  have hx := B.exec
  have hb := B.bytes
  have hr := B.returns
  have hts := atoms_spec (ws := wsX2_mayTeach) B.pre
  have hown : s.vm.findClass RX2 = some m.cls := findClass_of_methodNamed B.named
  have hlocks := B.notSynchronized
  have hD := up_self hD0
  have hS : va_S (up_c (dkW cK cB cI o ks fa oa fb ob dr ds L n sp co en cr rl qs kA oA kB oB tt ss st K)) s.heap s.heap [] := va_S.rf
  have hl := lv_entry ([.ref (L i)]) (n := 1) (Nat.le_of_ble_eq_true rfl)
  rw [lg_entry_eq]
  generalize (lg_sl ([.ref (L i)]) ++ List.replicate (1 - (lg_sl ([.ref (L i)])).length) Slot.unset).toArray = ls at hl ⊢
  have hl : lv_has ls 1 [(0, .ref (L i))] := hl
  refine lv_aload_n hx hb dX2_mayTeach_0 rfl (lv_at hl 0 rfl) ?_
  refine va_get (D := (dC, dI)) (ci := 3) (v := .int k.2.2.2.1) (C := RX2) (T := TX2) (N := 7) hx hb hts inn_X2_mayTeach_X2 hown hK hP (i + 8) (dk_keyk hi hk) rfl 3 (by decide) (hts (.fieldLink RX2 22 "DoorKeys$Key" "learned" "Z") (by decide +kernel)) (fun _ h9 => h9) rfl dX2_mayTeach_1 ?_
  refine lv_if_eq (tgt := 18) hx hb dX2_mayTeach_4 (by decide) (fun c_4 => ?_) (fun c_4 => ?_)
  · refine lv_iconst (v := 0) hx hb dX2_mayTeach_18 (by decide) ?_
    have e_ : dk_teach k = (0 : Int32) := by unfold dk_teach; exact (if_pos c_4).trans rfl
    rw [e_]
    exact W.zret (v := 0) hx hb hr (by decide) (fun t ht hW => ⟨rfl, ht⟩) (fun q h => absurd h List.not_mem_nil) dX2_mayTeach_19
  · refine lv_aload_n hx hb dX2_mayTeach_7 rfl (lv_at hl 0 rfl) ?_
    refine up_read (W.runV (As := []) (rest := []) ⟨hx, hb, hml, hown, hts⟩ (c_X2_isAtHand l dC dI cK cB cI o ks fa oa fb ob dr ds L n sp co en cr rl qs kA oA kB oB tt ss st K i k hi hk) (cwV 0 hts gX2_mayTeach_X2_isAtHand rfl rfl rfl (by decide +kernel) ⟨Nat.le_of_ble_eq_true rfl, Nat.le_of_ble_eq_true rfl⟩) (up_preV (q0 := (i + 8)) (ci := 3) hP hK hD rfl (dk_keyk hi hk)) rfl rfl hl.1 rfl (lv_room (Nat.le_of_ble_eq_true rfl)) dX2_mayTeach_8 ⟨Nat.le_of_ble_eq_true rfl, Nat.le_of_ble_eq_true rfl⟩) ?_
    refine lv_if_eq (tgt := 18) hx hb dX2_mayTeach_11 (by decide) (fun c_11 => ?_) (fun c_11 => ?_)
    · refine lv_iconst (v := 0) hx hb dX2_mayTeach_18 (by decide) ?_
      have e_ : dk_teach k = (0 : Int32) := by unfold dk_teach; exact (if_neg c_4).trans ((if_pos c_11).trans rfl)
      rw [e_]
      exact W.zret (v := 0) hx hb hr (by decide) (fun t ht hW => ⟨rfl, ht⟩) (fun q h => absurd h List.not_mem_nil) dX2_mayTeach_19
    · refine lv_iconst (v := 1) hx hb dX2_mayTeach_14 (by decide) ?_
      refine lv_goto (tgt := 19) hx hb dX2_mayTeach_15 (by decide) ?_
      have e_ : dk_teach k = (1 : Int32) := by unfold dk_teach; exact (if_neg c_4).trans ((if_neg c_11).trans rfl)
      rw [e_]
      exact W.zret (v := 1) hx hb hr (by decide) (fun t ht hW => ⟨rfl, ht⟩) (fun q h => absurd h List.not_mem_nil) dX2_mayTeach_19
def dk_roll (k : KR) (x : Int32) (y : Int32) : Int32 × KR :=
  if ((x - k.2.1) &&& 65535) = 0 then
    ((0 : Int32), (k.1, k.2.1, (-1), k.2.2.2.1, k.2.2.2.2.1, k.2.2.2.2.2.1, k.2.2.2.2.2.2))
  else
    if ((x - k.2.1) &&& 65535) ≤ 32768 then
      if ((x - k.2.1) &&& 65535) ≤ y then
        ((1 : Int32), (k.1, x, (-1), k.2.2.2.1, k.2.2.2.2.1, k.2.2.2.2.2.1, k.2.2.2.2.2.2))
      else
        if x = k.2.2.1 then
          ((1 : Int32), (k.1, x, (-1), k.2.2.2.1, k.2.2.2.2.1, k.2.2.2.2.2.1, k.2.2.2.2.2.2))
        else
          ((2 : Int32), (k.1, k.2.1, ((x + 1) &&& 65535), k.2.2.2.1, k.2.2.2.2.1, k.2.2.2.2.2.1, k.2.2.2.2.2.2))
    else
      ((0 : Int32), (k.1, k.2.1, (-1), k.2.2.2.1, k.2.2.2.2.1, k.2.2.2.2.2.1, k.2.2.2.2.2.2))
def rm_X2_roll : Room := { frames := 0, cells := 0, slots := 0, locals := 0 }
set_option maxHeartbeats 4000000 in
set_option maxRecDepth 100000 in
theorem c_X2_roll (l : Launch) (dC : Nat → ClassId) (dI : Nat → Nat → Nat) (cK : ClassId) (cB : ClassId) (cI : ClassId) (o : Nat) (ks : Nat) (fa : Nat) (oa : Nat) (fb : Nat) (ob : Nat) (dr : Nat) (ds : Nat) (L : Nat → Nat) (n : Nat) (sp : Int32) (co : Nat) (en : Nat) (cr : Int32) (rl : Int32) (qs : Int32) (kA : Int32) (oA : Nat → Int8) (kB : Int32) (oB : Nat → Int8) (tt : Int64) (ss : Int64) (st : Nat → Int32) (K : Nat → KR) (i : Nat) (k : KR) (x : Int32) (y : Int32) (hi : i < n) (hk : K i = k) : Met l yX2_roll wsX2_roll rm_X2_roll (up_P (dC, dI) vwCl (dkT cK cB cI) (dkW cK cB cI o ks fa oa fb ob dr ds L n sp co en cr rl qs kA oA kB oB tt ss st K) [.ref (L i), .int x, .int y]) (up_Q (dC, dI) vwCl (some (.int ((dk_roll k x y).1))) (dkW cK cB cI o ks fa oa fb ob dr ds L n sp co en cr rl qs kA oA kB oB tt ss st K) (dkW cK cB cI o ks fa oa fb ob dr ds L n sp co en cr rl qs kA oA kB oB tt ss st (va_up K i ((dk_roll k x y).2)))) 0 0 (up_c (dkW cK cB cI o ks fa oa fb ob dr ds L n sp co en cr rl qs kA oA kB oB tt ss st K)) := by
  refine Met.ofW (cc := cX2_roll) (maxL := 4) (ret := (some .int)) (by decide) rfl ?_
  intro p e s m args below meth c s₁ B hml hv
  obtain ⟨rfl, hP, hK, hD0⟩ := hv
  have hx := B.exec
  have hb := B.bytes
  have hr := B.returns
  have hts := atoms_spec (ws := wsX2_roll) B.pre
  have hown : s.vm.findClass RX2 = some m.cls := findClass_of_methodNamed B.named
  have hlocks := B.notSynchronized
  have hD := up_self hD0
  have hS : va_S (up_c (dkW cK cB cI o ks fa oa fb ob dr ds L n sp co en cr rl qs kA oA kB oB tt ss st K)) s.heap s.heap [] := va_S.rf
  have hl := lv_entry ([.ref (L i), .int x, .int y]) (n := 4) (Nat.le_of_ble_eq_true rfl)
  rw [lg_entry_eq]
  generalize (lg_sl ([.ref (L i), .int x, .int y]) ++ List.replicate (4 - (lg_sl ([.ref (L i), .int x, .int y])).length) Slot.unset).toArray = ls at hl ⊢
  have hl : lv_has ls 4 [(0, .ref (L i)), (1, .int x), (2, .int y)] := hl
  refine lv_iload_n hx hb dX2_roll_0 rfl (lv_at hl 1 rfl) ?_
  refine lv_aload_n hx hb dX2_roll_1 rfl (lv_at hl 0 rfl) ?_
  refine va_get (D := (dC, dI)) (ci := 3) (v := .int k.2.1) (C := RX2) (T := TX2) (N := 7) hx hb hts inn_X2_roll_X2 hown hK hP (i + 8) (dk_keyk hi hk) rfl 1 (by decide) (hts (.fieldLink RX2 15 "DoorKeys$Key" "counter" "I") (by decide +kernel)) (fun _ h9 => h9) rfl dX2_roll_2 ?_
  refine lv_isub hx hb dX2_roll_5 ?_
  refine lv_ldc (v := 65535) hx hb hown (hts (.constant RX2 36 65535) (by decide +kernel)) dX2_roll_6 ?_
  refine lv_iand hx hb dX2_roll_8 ?_
  refine lv_istore_n (lv' := [(3, .int ((x - k.2.1) &&& 65535)), (0, .ref (L i)), (1, .int x), (2, .int y)]) hx hb dX2_roll_9 rfl hl (by decide) rfl (fun ls hl => ?_)
  refine lv_iload_n hx hb dX2_roll_10 rfl (lv_at hl 0 rfl) ?_
  refine lv_if_eq (tgt := 20) hx hb dX2_roll_11 (by decide) (fun c_11 => ?_) (fun c_11 => ?_)
  · refine lv_aload_n hx hb dX2_roll_20 rfl (lv_at hl 1 rfl) ?_
    refine lv_iconst (v := (-1)) hx hb dX2_roll_21 (by decide) ?_
    refine va_put (D := (dC, dI)) (ci := 3) (v := .int (-1)) (ty := .int) (C := RX2) (T := TX2) (N := 7) hx hb hts inn_X2_roll_X2 tyX2 tyX2_ok nmX2 hown hK hP hD hS (i + 8) (dk_keyk hi hk) rfl 2 (by decide) (hts (.fieldLink RX2 19 "DoorKeys$Key" "awaited" "I") (by decide +kernel)) (fun _ h9 => h9) rfl (by decide +kernel) rfl rfl (Nat.le_of_ble_eq_true rfl) dX2_roll_22 (fun H locs hP hD hS => ?_)
    have hP : va_P (dC, dI) vwCl (dkW cK cB cI o ks fa oa fb ob dr ds L n sp co en cr rl qs kA oA kB oB tt ss st (va_up K i (k.1, k.2.1, (-1), k.2.2.2.1, k.2.2.2.2.1, k.2.2.2.2.2.1, k.2.2.2.2.2.2))) H := up_cast (dk_put hi) hP
    have hD : va_D (up_c (dkW cK cB cI o ks fa oa fb ob dr ds L n sp co en cr rl qs kA oA kB oB tt ss st K)) (dkW cK cB cI o ks fa oa fb ob dr ds L n sp co en cr rl qs kA oA kB oB tt ss st (va_up K i (k.1, k.2.1, (-1), k.2.2.2.1, k.2.2.2.2.1, k.2.2.2.2.2.1, k.2.2.2.2.2.2))) := up_castD (dk_put hi) hD
    have hP : va_P (dC, dI) vwCl (dkW cK cB cI o ks fa oa fb ob dr ds L n sp co en cr rl qs kA oA kB oB tt ss st (va_up K i (k.1, k.2.1, (-1), k.2.2.2.1, k.2.2.2.2.1, k.2.2.2.2.2.1, k.2.2.2.2.2.2))) H := hP
    have hD : va_D (up_c (dkW cK cB cI o ks fa oa fb ob dr ds L n sp co en cr rl qs kA oA kB oB tt ss st K)) (dkW cK cB cI o ks fa oa fb ob dr ds L n sp co en cr rl qs kA oA kB oB tt ss st (va_up K i (k.1, k.2.1, (-1), k.2.2.2.1, k.2.2.2.2.1, k.2.2.2.2.2.1, k.2.2.2.2.2.2))) := hD
    refine lv_iconst (v := 0) hx hb dX2_roll_25 (by decide) ?_
    have e_ : dk_roll k x y = ((0 : Int32), (k.1, k.2.1, (-1), k.2.2.2.1, k.2.2.2.2.1, k.2.2.2.2.2.1, k.2.2.2.2.2.2)) := by unfold dk_roll; exact (if_pos c_11).trans rfl
    rw [e_]
    exact W.iret (v := 0) hx hb hr (fun t ht hW => ⟨rfl, by rw [ht]; exact hP, hS.F ht⟩) hS.2.2 dX2_roll_26
  · refine lv_iload_n hx hb dX2_roll_14 rfl (lv_at hl 0 rfl) ?_
    refine lv_ldc (v := 32768) hx hb hown (hts (.constant RX2 37 32768) (by decide +kernel)) dX2_roll_15 ?_
    refine lv_icmp_le (tgt := 27) hx hb dX2_roll_17 (by decide) (fun c_17 => ?_) (fun c_17 => ?_)
    · refine lv_iload_n hx hb dX2_roll_27 rfl (lv_at hl 0 rfl) ?_
      refine lv_iload_n hx hb dX2_roll_28 rfl (lv_at hl 3 rfl) ?_
      refine lv_icmp_le (tgt := 52) hx hb dX2_roll_29 (by decide) (fun c_29 => ?_) (fun c_29 => ?_)
      · refine lv_aload_n hx hb dX2_roll_52 rfl (lv_at hl 1 rfl) ?_
        refine lv_iload_n hx hb dX2_roll_53 rfl (lv_at hl 2 rfl) ?_
        refine va_put (D := (dC, dI)) (ci := 3) (v := .int x) (ty := .int) (C := RX2) (T := TX2) (N := 7) hx hb hts inn_X2_roll_X2 tyX2 tyX2_ok nmX2 hown hK hP hD hS (i + 8) (dk_keyk hi hk) rfl 1 (by decide) (hts (.fieldLink RX2 15 "DoorKeys$Key" "counter" "I") (by decide +kernel)) (fun _ h9 => h9) rfl (by decide +kernel) rfl rfl (Nat.le_of_ble_eq_true rfl) dX2_roll_54 (fun H locs hP hD hS => ?_)
        have hP : va_P (dC, dI) vwCl (dkW cK cB cI o ks fa oa fb ob dr ds L n sp co en cr rl qs kA oA kB oB tt ss st (va_up K i (k.1, x, k.2.2.1, k.2.2.2.1, k.2.2.2.2.1, k.2.2.2.2.2.1, k.2.2.2.2.2.2))) H := up_cast (dk_put hi) hP
        have hD : va_D (up_c (dkW cK cB cI o ks fa oa fb ob dr ds L n sp co en cr rl qs kA oA kB oB tt ss st K)) (dkW cK cB cI o ks fa oa fb ob dr ds L n sp co en cr rl qs kA oA kB oB tt ss st (va_up K i (k.1, x, k.2.2.1, k.2.2.2.1, k.2.2.2.2.1, k.2.2.2.2.2.1, k.2.2.2.2.2.2))) := up_castD (dk_put hi) hD
        have hP : va_P (dC, dI) vwCl (dkW cK cB cI o ks fa oa fb ob dr ds L n sp co en cr rl qs kA oA kB oB tt ss st (va_up K i (k.1, x, k.2.2.1, k.2.2.2.1, k.2.2.2.2.1, k.2.2.2.2.2.1, k.2.2.2.2.2.2))) H := hP
        have hD : va_D (up_c (dkW cK cB cI o ks fa oa fb ob dr ds L n sp co en cr rl qs kA oA kB oB tt ss st K)) (dkW cK cB cI o ks fa oa fb ob dr ds L n sp co en cr rl qs kA oA kB oB tt ss st (va_up K i (k.1, x, k.2.2.1, k.2.2.2.1, k.2.2.2.2.1, k.2.2.2.2.2.1, k.2.2.2.2.2.2))) := hD
        refine lv_aload_n hx hb dX2_roll_57 rfl (lv_at hl 1 rfl) ?_
        refine lv_iconst (v := (-1)) hx hb dX2_roll_58 (by decide) ?_
        refine va_put (D := (dC, dI)) (ci := 3) (v := .int (-1)) (ty := .int) (C := RX2) (T := TX2) (N := 7) hx hb hts inn_X2_roll_X2 tyX2 tyX2_ok nmX2 hown hK hP hD hS (i + 8) (dk_keyk hi (va_up_self _ _ _)) rfl 2 (by decide) (hts (.fieldLink RX2 19 "DoorKeys$Key" "awaited" "I") (by decide +kernel)) (fun _ h9 => h9) rfl (by decide +kernel) rfl rfl (Nat.le_of_ble_eq_true rfl) dX2_roll_59 (fun H locs hP hD hS => ?_)
        have hP : va_P (dC, dI) vwCl (dkW cK cB cI o ks fa oa fb ob dr ds L n sp co en cr rl qs kA oA kB oB tt ss st (va_up K i (k.1, x, (-1), k.2.2.2.1, k.2.2.2.2.1, k.2.2.2.2.2.1, k.2.2.2.2.2.2))) H := up_cast (dk_putU hi) hP
        have hD : va_D (up_c (dkW cK cB cI o ks fa oa fb ob dr ds L n sp co en cr rl qs kA oA kB oB tt ss st K)) (dkW cK cB cI o ks fa oa fb ob dr ds L n sp co en cr rl qs kA oA kB oB tt ss st (va_up K i (k.1, x, (-1), k.2.2.2.1, k.2.2.2.2.1, k.2.2.2.2.2.1, k.2.2.2.2.2.2))) := up_castD (dk_putU hi) hD
        have hP : va_P (dC, dI) vwCl (dkW cK cB cI o ks fa oa fb ob dr ds L n sp co en cr rl qs kA oA kB oB tt ss st (va_up K i (k.1, x, (-1), k.2.2.2.1, k.2.2.2.2.1, k.2.2.2.2.2.1, k.2.2.2.2.2.2))) H := hP
        have hD : va_D (up_c (dkW cK cB cI o ks fa oa fb ob dr ds L n sp co en cr rl qs kA oA kB oB tt ss st K)) (dkW cK cB cI o ks fa oa fb ob dr ds L n sp co en cr rl qs kA oA kB oB tt ss st (va_up K i (k.1, x, (-1), k.2.2.2.1, k.2.2.2.2.1, k.2.2.2.2.2.1, k.2.2.2.2.2.2))) := hD
        refine lv_iconst (v := 1) hx hb dX2_roll_62 (by decide) ?_
        have e_ : dk_roll k x y = ((1 : Int32), (k.1, x, (-1), k.2.2.2.1, k.2.2.2.2.1, k.2.2.2.2.2.1, k.2.2.2.2.2.2)) := by unfold dk_roll; exact (if_neg c_11).trans ((if_pos c_17).trans ((if_pos c_29).trans rfl))
        rw [e_]
        exact W.iret (v := 1) hx hb hr (fun t ht hW => ⟨rfl, by rw [ht]; exact hP, hS.F ht⟩) hS.2.2 dX2_roll_63
      · refine lv_iload_n hx hb dX2_roll_32 rfl (lv_at hl 2 rfl) ?_
        refine lv_aload_n hx hb dX2_roll_33 rfl (lv_at hl 1 rfl) ?_
        refine va_get (D := (dC, dI)) (ci := 3) (v := .int k.2.2.1) (C := RX2) (T := TX2) (N := 7) hx hb hts inn_X2_roll_X2 hown hK hP (i + 8) (dk_keyk hi hk) rfl 2 (by decide) (hts (.fieldLink RX2 19 "DoorKeys$Key" "awaited" "I") (by decide +kernel)) (fun _ h9 => h9) rfl dX2_roll_34 ?_
        refine lv_icmp_eq (tgt := 52) hx hb dX2_roll_37 (by decide) (fun c_37 => ?_) (fun c_37 => ?_)
        · refine lv_aload_n hx hb dX2_roll_52 rfl (lv_at hl 1 rfl) ?_
          refine lv_iload_n hx hb dX2_roll_53 rfl (lv_at hl 2 rfl) ?_
          refine va_put (D := (dC, dI)) (ci := 3) (v := .int x) (ty := .int) (C := RX2) (T := TX2) (N := 7) hx hb hts inn_X2_roll_X2 tyX2 tyX2_ok nmX2 hown hK hP hD hS (i + 8) (dk_keyk hi hk) rfl 1 (by decide) (hts (.fieldLink RX2 15 "DoorKeys$Key" "counter" "I") (by decide +kernel)) (fun _ h9 => h9) rfl (by decide +kernel) rfl rfl (Nat.le_of_ble_eq_true rfl) dX2_roll_54 (fun H locs hP hD hS => ?_)
          have hP : va_P (dC, dI) vwCl (dkW cK cB cI o ks fa oa fb ob dr ds L n sp co en cr rl qs kA oA kB oB tt ss st (va_up K i (k.1, x, k.2.2.1, k.2.2.2.1, k.2.2.2.2.1, k.2.2.2.2.2.1, k.2.2.2.2.2.2))) H := up_cast (dk_put hi) hP
          have hD : va_D (up_c (dkW cK cB cI o ks fa oa fb ob dr ds L n sp co en cr rl qs kA oA kB oB tt ss st K)) (dkW cK cB cI o ks fa oa fb ob dr ds L n sp co en cr rl qs kA oA kB oB tt ss st (va_up K i (k.1, x, k.2.2.1, k.2.2.2.1, k.2.2.2.2.1, k.2.2.2.2.2.1, k.2.2.2.2.2.2))) := up_castD (dk_put hi) hD
          have hP : va_P (dC, dI) vwCl (dkW cK cB cI o ks fa oa fb ob dr ds L n sp co en cr rl qs kA oA kB oB tt ss st (va_up K i (k.1, x, k.2.2.1, k.2.2.2.1, k.2.2.2.2.1, k.2.2.2.2.2.1, k.2.2.2.2.2.2))) H := hP
          have hD : va_D (up_c (dkW cK cB cI o ks fa oa fb ob dr ds L n sp co en cr rl qs kA oA kB oB tt ss st K)) (dkW cK cB cI o ks fa oa fb ob dr ds L n sp co en cr rl qs kA oA kB oB tt ss st (va_up K i (k.1, x, k.2.2.1, k.2.2.2.1, k.2.2.2.2.1, k.2.2.2.2.2.1, k.2.2.2.2.2.2))) := hD
          refine lv_aload_n hx hb dX2_roll_57 rfl (lv_at hl 1 rfl) ?_
          refine lv_iconst (v := (-1)) hx hb dX2_roll_58 (by decide) ?_
          refine va_put (D := (dC, dI)) (ci := 3) (v := .int (-1)) (ty := .int) (C := RX2) (T := TX2) (N := 7) hx hb hts inn_X2_roll_X2 tyX2 tyX2_ok nmX2 hown hK hP hD hS (i + 8) (dk_keyk hi (va_up_self _ _ _)) rfl 2 (by decide) (hts (.fieldLink RX2 19 "DoorKeys$Key" "awaited" "I") (by decide +kernel)) (fun _ h9 => h9) rfl (by decide +kernel) rfl rfl (Nat.le_of_ble_eq_true rfl) dX2_roll_59 (fun H locs hP hD hS => ?_)
          have hP : va_P (dC, dI) vwCl (dkW cK cB cI o ks fa oa fb ob dr ds L n sp co en cr rl qs kA oA kB oB tt ss st (va_up K i (k.1, x, (-1), k.2.2.2.1, k.2.2.2.2.1, k.2.2.2.2.2.1, k.2.2.2.2.2.2))) H := up_cast (dk_putU hi) hP
          have hD : va_D (up_c (dkW cK cB cI o ks fa oa fb ob dr ds L n sp co en cr rl qs kA oA kB oB tt ss st K)) (dkW cK cB cI o ks fa oa fb ob dr ds L n sp co en cr rl qs kA oA kB oB tt ss st (va_up K i (k.1, x, (-1), k.2.2.2.1, k.2.2.2.2.1, k.2.2.2.2.2.1, k.2.2.2.2.2.2))) := up_castD (dk_putU hi) hD
          have hP : va_P (dC, dI) vwCl (dkW cK cB cI o ks fa oa fb ob dr ds L n sp co en cr rl qs kA oA kB oB tt ss st (va_up K i (k.1, x, (-1), k.2.2.2.1, k.2.2.2.2.1, k.2.2.2.2.2.1, k.2.2.2.2.2.2))) H := hP
          have hD : va_D (up_c (dkW cK cB cI o ks fa oa fb ob dr ds L n sp co en cr rl qs kA oA kB oB tt ss st K)) (dkW cK cB cI o ks fa oa fb ob dr ds L n sp co en cr rl qs kA oA kB oB tt ss st (va_up K i (k.1, x, (-1), k.2.2.2.1, k.2.2.2.2.1, k.2.2.2.2.2.1, k.2.2.2.2.2.2))) := hD
          refine lv_iconst (v := 1) hx hb dX2_roll_62 (by decide) ?_
          have e_ : dk_roll k x y = ((1 : Int32), (k.1, x, (-1), k.2.2.2.1, k.2.2.2.2.1, k.2.2.2.2.2.1, k.2.2.2.2.2.2)) := by unfold dk_roll; exact (if_neg c_11).trans ((if_pos c_17).trans ((if_neg c_29).trans ((if_pos c_37).trans rfl)))
          rw [e_]
          exact W.iret (v := 1) hx hb hr (fun t ht hW => ⟨rfl, by rw [ht]; exact hP, hS.F ht⟩) hS.2.2 dX2_roll_63
        · refine lv_aload_n hx hb dX2_roll_40 rfl (lv_at hl 1 rfl) ?_
          refine lv_iload_n hx hb dX2_roll_41 rfl (lv_at hl 2 rfl) ?_
          refine lv_iconst (v := 1) hx hb dX2_roll_42 (by decide) ?_
          refine lv_iadd hx hb dX2_roll_43 ?_
          refine lv_ldc (v := 65535) hx hb hown (hts (.constant RX2 36 65535) (by decide +kernel)) dX2_roll_44 ?_
          refine lv_iand hx hb dX2_roll_46 ?_
          refine va_put (D := (dC, dI)) (ci := 3) (v := .int ((x + 1) &&& 65535)) (ty := .int) (C := RX2) (T := TX2) (N := 7) hx hb hts inn_X2_roll_X2 tyX2 tyX2_ok nmX2 hown hK hP hD hS (i + 8) (dk_keyk hi hk) rfl 2 (by decide) (hts (.fieldLink RX2 19 "DoorKeys$Key" "awaited" "I") (by decide +kernel)) (fun _ h9 => h9) rfl (by decide +kernel) rfl rfl (Nat.le_of_ble_eq_true rfl) dX2_roll_47 (fun H locs hP hD hS => ?_)
          have hP : va_P (dC, dI) vwCl (dkW cK cB cI o ks fa oa fb ob dr ds L n sp co en cr rl qs kA oA kB oB tt ss st (va_up K i (k.1, k.2.1, ((x + 1) &&& 65535), k.2.2.2.1, k.2.2.2.2.1, k.2.2.2.2.2.1, k.2.2.2.2.2.2))) H := up_cast (dk_put hi) hP
          have hD : va_D (up_c (dkW cK cB cI o ks fa oa fb ob dr ds L n sp co en cr rl qs kA oA kB oB tt ss st K)) (dkW cK cB cI o ks fa oa fb ob dr ds L n sp co en cr rl qs kA oA kB oB tt ss st (va_up K i (k.1, k.2.1, ((x + 1) &&& 65535), k.2.2.2.1, k.2.2.2.2.1, k.2.2.2.2.2.1, k.2.2.2.2.2.2))) := up_castD (dk_put hi) hD
          have hP : va_P (dC, dI) vwCl (dkW cK cB cI o ks fa oa fb ob dr ds L n sp co en cr rl qs kA oA kB oB tt ss st (va_up K i (k.1, k.2.1, ((x + 1) &&& 65535), k.2.2.2.1, k.2.2.2.2.1, k.2.2.2.2.2.1, k.2.2.2.2.2.2))) H := hP
          have hD : va_D (up_c (dkW cK cB cI o ks fa oa fb ob dr ds L n sp co en cr rl qs kA oA kB oB tt ss st K)) (dkW cK cB cI o ks fa oa fb ob dr ds L n sp co en cr rl qs kA oA kB oB tt ss st (va_up K i (k.1, k.2.1, ((x + 1) &&& 65535), k.2.2.2.1, k.2.2.2.2.1, k.2.2.2.2.2.1, k.2.2.2.2.2.2))) := hD
          refine lv_iconst (v := 2) hx hb dX2_roll_50 (by decide) ?_
          have e_ : dk_roll k x y = ((2 : Int32), (k.1, k.2.1, ((x + 1) &&& 65535), k.2.2.2.1, k.2.2.2.2.1, k.2.2.2.2.2.1, k.2.2.2.2.2.2)) := by unfold dk_roll; exact (if_neg c_11).trans ((if_pos c_17).trans ((if_neg c_29).trans ((if_neg c_37).trans rfl)))
          rw [e_]
          exact W.iret (v := 2) hx hb hr (fun t ht hW => ⟨rfl, by rw [ht]; exact hP, hS.F ht⟩) hS.2.2 dX2_roll_51
    · refine lv_aload_n hx hb dX2_roll_20 rfl (lv_at hl 1 rfl) ?_
      refine lv_iconst (v := (-1)) hx hb dX2_roll_21 (by decide) ?_
      refine va_put (D := (dC, dI)) (ci := 3) (v := .int (-1)) (ty := .int) (C := RX2) (T := TX2) (N := 7) hx hb hts inn_X2_roll_X2 tyX2 tyX2_ok nmX2 hown hK hP hD hS (i + 8) (dk_keyk hi hk) rfl 2 (by decide) (hts (.fieldLink RX2 19 "DoorKeys$Key" "awaited" "I") (by decide +kernel)) (fun _ h9 => h9) rfl (by decide +kernel) rfl rfl (Nat.le_of_ble_eq_true rfl) dX2_roll_22 (fun H locs hP hD hS => ?_)
      have hP : va_P (dC, dI) vwCl (dkW cK cB cI o ks fa oa fb ob dr ds L n sp co en cr rl qs kA oA kB oB tt ss st (va_up K i (k.1, k.2.1, (-1), k.2.2.2.1, k.2.2.2.2.1, k.2.2.2.2.2.1, k.2.2.2.2.2.2))) H := up_cast (dk_put hi) hP
      have hD : va_D (up_c (dkW cK cB cI o ks fa oa fb ob dr ds L n sp co en cr rl qs kA oA kB oB tt ss st K)) (dkW cK cB cI o ks fa oa fb ob dr ds L n sp co en cr rl qs kA oA kB oB tt ss st (va_up K i (k.1, k.2.1, (-1), k.2.2.2.1, k.2.2.2.2.1, k.2.2.2.2.2.1, k.2.2.2.2.2.2))) := up_castD (dk_put hi) hD
      have hP : va_P (dC, dI) vwCl (dkW cK cB cI o ks fa oa fb ob dr ds L n sp co en cr rl qs kA oA kB oB tt ss st (va_up K i (k.1, k.2.1, (-1), k.2.2.2.1, k.2.2.2.2.1, k.2.2.2.2.2.1, k.2.2.2.2.2.2))) H := hP
      have hD : va_D (up_c (dkW cK cB cI o ks fa oa fb ob dr ds L n sp co en cr rl qs kA oA kB oB tt ss st K)) (dkW cK cB cI o ks fa oa fb ob dr ds L n sp co en cr rl qs kA oA kB oB tt ss st (va_up K i (k.1, k.2.1, (-1), k.2.2.2.1, k.2.2.2.2.1, k.2.2.2.2.2.1, k.2.2.2.2.2.2))) := hD
      refine lv_iconst (v := 0) hx hb dX2_roll_25 (by decide) ?_
      have e_ : dk_roll k x y = ((0 : Int32), (k.1, k.2.1, (-1), k.2.2.2.1, k.2.2.2.2.1, k.2.2.2.2.2.1, k.2.2.2.2.2.2)) := by unfold dk_roll; exact (if_neg c_11).trans ((if_neg c_17).trans rfl)
      rw [e_]
      exact W.iret (v := 0) hx hb hr (fun t ht hW => ⟨rfl, by rw [ht]; exact hP, hS.F ht⟩) hS.2.2 dX2_roll_26
def dk_part (k : KR) (x : Int32) : Int32 :=
  (((k.1.toUInt64 >>> (((16 * (x &&& 3)) : Int32).toInt64.toUInt64 &&& Int64.toUInt64 63)).toInt64).toInt32 &&& 65535)
def rm_X2_part : Room := { frames := 0, cells := 0, slots := 0, locals := 0 }
set_option maxHeartbeats 4000000 in
set_option maxRecDepth 100000 in
theorem c_X2_part (l : Launch) (dC : Nat → ClassId) (dI : Nat → Nat → Nat) (cK : ClassId) (cB : ClassId) (cI : ClassId) (o : Nat) (ks : Nat) (fa : Nat) (oa : Nat) (fb : Nat) (ob : Nat) (dr : Nat) (ds : Nat) (L : Nat → Nat) (n : Nat) (sp : Int32) (co : Nat) (en : Nat) (cr : Int32) (rl : Int32) (qs : Int32) (kA : Int32) (oA : Nat → Int8) (kB : Int32) (oB : Nat → Int8) (tt : Int64) (ss : Int64) (st : Nat → Int32) (K : Nat → KR) (i : Nat) (k : KR) (x : Int32) (hi : i < n) (hk : K i = k) : Met l yX2_part wsX2_part rm_X2_part (up_P (dC, dI) vwCl (dkT cK cB cI) (dkW cK cB cI o ks fa oa fb ob dr ds L n sp co en cr rl qs kA oA kB oB tt ss st K) [.ref (L i), .int x]) (k2_QcV (.int (dk_part k x))) 0 0 (fun _ => False) := by
  refine Met.ofW (cc := cX2_part) (maxL := 2) (ret := (some .int)) (by decide) rfl ?_
  intro p e s m args below meth c s₁ B hml hv
  obtain ⟨rfl, hP, hK, hD0⟩ := hv
  have hx := B.exec
  have hb := B.bytes
  have hr := B.returns
  have hts := atoms_spec (ws := wsX2_part) B.pre
  have hown : s.vm.findClass RX2 = some m.cls := findClass_of_methodNamed B.named
  have hlocks := B.notSynchronized
  have hD := up_self hD0
  have hS : va_S (up_c (dkW cK cB cI o ks fa oa fb ob dr ds L n sp co en cr rl qs kA oA kB oB tt ss st K)) s.heap s.heap [] := va_S.rf
  have hl := lv_entry ([.ref (L i), .int x]) (n := 2) (Nat.le_of_ble_eq_true rfl)
  rw [lg_entry_eq]
  generalize (lg_sl ([.ref (L i), .int x]) ++ List.replicate (2 - (lg_sl ([.ref (L i), .int x])).length) Slot.unset).toArray = ls at hl ⊢
  have hl : lv_has ls 2 [(0, .ref (L i)), (1, .int x)] := hl
  refine lv_aload_n hx hb dX2_part_0 rfl (lv_at hl 0 rfl) ?_
  refine va_get (D := (dC, dI)) (ci := 3) (v := .long k.1) (C := RX2) (T := TX2) (N := 7) hx hb hts inn_X2_part_X2 hown hK hP (i + 8) (dk_keyk hi hk) rfl 0 (by decide) (hts (.fieldLink RX2 9 "DoorKeys$Key" "secret" "J") (by decide +kernel)) (fun _ h9 => h9) rfl dX2_part_1 ?_
  refine lv_bipush (v := 16) hx hb dX2_part_4 (by decide) ?_
  refine lv_iload_n hx hb dX2_part_6 rfl (lv_at hl 1 rfl) ?_
  refine lv_iconst (v := 3) hx hb dX2_part_7 (by decide) ?_
  refine lv_iand hx hb dX2_part_8 ?_
  refine lv_imul hx hb dX2_part_9 ?_
  refine lv_lushr (v := (k.1.toUInt64 >>> (((16 * (x &&& 3)) : Int32).toInt64.toUInt64 &&& Int64.toUInt64 63)).toInt64) hx hb dX2_part_10 rfl ?_
  refine lv_l2i (v := ((k.1.toUInt64 >>> (((16 * (x &&& 3)) : Int32).toInt64.toUInt64 &&& Int64.toUInt64 63)).toInt64).toInt32) hx hb dX2_part_11 rfl ?_
  refine lv_ldc (v := 65535) hx hb hown (hts (.constant RX2 36 65535) (by decide +kernel)) dX2_part_12 ?_
  refine lv_iand hx hb dX2_part_14 ?_
  have e_ : dk_part k x = (((k.1.toUInt64 >>> (((16 * (x &&& 3)) : Int32).toInt64.toUInt64 &&& Int64.toUInt64 63)).toInt64).toInt32 &&& 65535) := by unfold dk_part; exact rfl
  rw [e_]
  exact W.iret (v := (((k.1.toUInt64 >>> (((16 * (x &&& 3)) : Int32).toInt64.toUInt64 &&& Int64.toUInt64 63)).toInt64).toInt32 &&& 65535)) hx hb hr (fun t ht hW => ⟨rfl, ht⟩) (fun q h => absurd h List.not_mem_nil) dX2_part_15
def dk_sign (k : KR) : Int32 :=
  (((dk_part k 0 ^^^ dk_part k 1) ^^^ dk_part k 2) ^^^ dk_part k 3)
def rm_X2_sign : Room := { frames := 1, cells := 0, slots := 0, locals := 21 }
set_option maxHeartbeats 4000000 in
set_option maxRecDepth 100000 in
theorem c_X2_sign (l : Launch) (dC : Nat → ClassId) (dI : Nat → Nat → Nat) (cK : ClassId) (cB : ClassId) (cI : ClassId) (o : Nat) (ks : Nat) (fa : Nat) (oa : Nat) (fb : Nat) (ob : Nat) (dr : Nat) (ds : Nat) (L : Nat → Nat) (n : Nat) (sp : Int32) (co : Nat) (en : Nat) (cr : Int32) (rl : Int32) (qs : Int32) (kA : Int32) (oA : Nat → Int8) (kB : Int32) (oB : Nat → Int8) (tt : Int64) (ss : Int64) (st : Nat → Int32) (K : Nat → KR) (i : Nat) (k : KR) (hi : i < n) (hk : K i = k) : Met l yX2_sign wsX2_sign rm_X2_sign (up_P (dC, dI) vwCl (dkT cK cB cI) (dkW cK cB cI o ks fa oa fb ob dr ds L n sp co en cr rl qs kA oA kB oB tt ss st K) [.ref (L i)]) (k2_QcV (.int (dk_sign k))) 0 0 (fun _ => False) := by
  refine Met.ofW (cc := cX2_sign) (maxL := 1) (ret := (some .int)) (by decide) rfl ?_
  intro p e s m args below meth c s₁ B hml hv
  obtain ⟨rfl, hP, hK, hD0⟩ := hv
  have hx := B.exec
  have hb := B.bytes
  have hr := B.returns
  have hts := atoms_spec (ws := wsX2_sign) B.pre
  have hown : s.vm.findClass RX2 = some m.cls := findClass_of_methodNamed B.named
  have hlocks := B.notSynchronized
  have hD := up_self hD0
  have hS : va_S (up_c (dkW cK cB cI o ks fa oa fb ob dr ds L n sp co en cr rl qs kA oA kB oB tt ss st K)) s.heap s.heap [] := va_S.rf
  have hl := lv_entry ([.ref (L i)]) (n := 1) (Nat.le_of_ble_eq_true rfl)
  rw [lg_entry_eq]
  generalize (lg_sl ([.ref (L i)]) ++ List.replicate (1 - (lg_sl ([.ref (L i)])).length) Slot.unset).toArray = ls at hl ⊢
  have hl : lv_has ls 1 [(0, .ref (L i))] := hl
  refine lv_aload_n hx hb dX2_sign_0 rfl (lv_at hl 0 rfl) ?_
  refine lv_iconst (v := 0) hx hb dX2_sign_1 (by decide) ?_
  refine up_read (W.runV (As := [.int 0]) (rest := []) ⟨hx, hb, hml, hown, hts⟩ (c_X2_part l dC dI cK cB cI o ks fa oa fb ob dr ds L n sp co en cr rl qs kA oA kB oB tt ss st K i k 0 hi hk) (cwV 1 hts gX2_sign_X2_part rfl rfl rfl (by decide +kernel) ⟨Nat.le_of_ble_eq_true rfl, Nat.le_of_ble_eq_true rfl⟩) (up_preV (q0 := (i + 8)) (ci := 3) hP hK hD rfl (dk_keyk hi hk)) rfl rfl hl.1 rfl (lv_room (Nat.le_of_ble_eq_true rfl)) dX2_sign_2 ⟨Nat.le_of_ble_eq_true rfl, Nat.le_of_ble_eq_true rfl⟩) ?_
  refine lv_aload_n hx hb dX2_sign_5 rfl (lv_at hl 0 rfl) ?_
  refine lv_iconst (v := 1) hx hb dX2_sign_6 (by decide) ?_
  refine up_read (W.runV (As := [.int 1]) (rest := [.int (dk_part k 0)]) ⟨hx, hb, hml, hown, hts⟩ (c_X2_part l dC dI cK cB cI o ks fa oa fb ob dr ds L n sp co en cr rl qs kA oA kB oB tt ss st K i k 1 hi hk) (cwV 1 hts gX2_sign_X2_part rfl rfl rfl (by decide +kernel) ⟨Nat.le_of_ble_eq_true rfl, Nat.le_of_ble_eq_true rfl⟩) (up_preV (q0 := (i + 8)) (ci := 3) hP hK hD rfl (dk_keyk hi hk)) rfl rfl hl.1 rfl (lv_room (Nat.le_of_ble_eq_true rfl)) dX2_sign_7 ⟨Nat.le_of_ble_eq_true rfl, Nat.le_of_ble_eq_true rfl⟩) ?_
  refine lv_ixor hx hb dX2_sign_10 ?_
  refine lv_aload_n hx hb dX2_sign_11 rfl (lv_at hl 0 rfl) ?_
  refine lv_iconst (v := 2) hx hb dX2_sign_12 (by decide) ?_
  refine up_read (W.runV (As := [.int 2]) (rest := [.int (dk_part k 0 ^^^ dk_part k 1)]) ⟨hx, hb, hml, hown, hts⟩ (c_X2_part l dC dI cK cB cI o ks fa oa fb ob dr ds L n sp co en cr rl qs kA oA kB oB tt ss st K i k 2 hi hk) (cwV 1 hts gX2_sign_X2_part rfl rfl rfl (by decide +kernel) ⟨Nat.le_of_ble_eq_true rfl, Nat.le_of_ble_eq_true rfl⟩) (up_preV (q0 := (i + 8)) (ci := 3) hP hK hD rfl (dk_keyk hi hk)) rfl rfl hl.1 rfl (lv_room (Nat.le_of_ble_eq_true rfl)) dX2_sign_13 ⟨Nat.le_of_ble_eq_true rfl, Nat.le_of_ble_eq_true rfl⟩) ?_
  refine lv_ixor hx hb dX2_sign_16 ?_
  refine lv_aload_n hx hb dX2_sign_17 rfl (lv_at hl 0 rfl) ?_
  refine lv_iconst (v := 3) hx hb dX2_sign_18 (by decide) ?_
  refine up_read (W.runV (As := [.int 3]) (rest := [.int ((dk_part k 0 ^^^ dk_part k 1) ^^^ dk_part k 2)]) ⟨hx, hb, hml, hown, hts⟩ (c_X2_part l dC dI cK cB cI o ks fa oa fb ob dr ds L n sp co en cr rl qs kA oA kB oB tt ss st K i k 3 hi hk) (cwV 1 hts gX2_sign_X2_part rfl rfl rfl (by decide +kernel) ⟨Nat.le_of_ble_eq_true rfl, Nat.le_of_ble_eq_true rfl⟩) (up_preV (q0 := (i + 8)) (ci := 3) hP hK hD rfl (dk_keyk hi hk)) rfl rfl hl.1 rfl (lv_room (Nat.le_of_ble_eq_true rfl)) dX2_sign_19 ⟨Nat.le_of_ble_eq_true rfl, Nat.le_of_ble_eq_true rfl⟩) ?_
  refine lv_ixor hx hb dX2_sign_22 ?_
  have e_ : dk_sign k = (((dk_part k 0 ^^^ dk_part k 1) ^^^ dk_part k 2) ^^^ dk_part k 3) := by unfold dk_sign; exact rfl
  rw [e_]
  exact W.iret (v := (((dk_part k 0 ^^^ dk_part k 1) ^^^ dk_part k 2) ^^^ dk_part k 3)) hx hb hr (fun t ht hW => ⟨rfl, ht⟩) (fun q h => absurd h List.not_mem_nil) dX2_sign_23
def dk_mix (k : KR) (x : Int32) (y : Int32) : Int32 :=
  (((((x * 40503) + (dk_part k y * ((2 * y) + 1))) ^^^ (x / 32)) ^^^ (dk_part k y * 8)) &&& 65535)
def rm_X2_mix : Room := { frames := 1, cells := 0, slots := 0, locals := 21 }
set_option maxHeartbeats 4000000 in
set_option maxRecDepth 100000 in
theorem c_X2_mix (l : Launch) (dC : Nat → ClassId) (dI : Nat → Nat → Nat) (cK : ClassId) (cB : ClassId) (cI : ClassId) (o : Nat) (ks : Nat) (fa : Nat) (oa : Nat) (fb : Nat) (ob : Nat) (dr : Nat) (ds : Nat) (L : Nat → Nat) (n : Nat) (sp : Int32) (co : Nat) (en : Nat) (cr : Int32) (rl : Int32) (qs : Int32) (kA : Int32) (oA : Nat → Int8) (kB : Int32) (oB : Nat → Int8) (tt : Int64) (ss : Int64) (st : Nat → Int32) (K : Nat → KR) (i : Nat) (k : KR) (x : Int32) (y : Int32) (hi : i < n) (hk : K i = k) : Met l yX2_mix wsX2_mix rm_X2_mix (up_P (dC, dI) vwCl (dkT cK cB cI) (dkW cK cB cI o ks fa oa fb ob dr ds L n sp co en cr rl qs kA oA kB oB tt ss st K) [.ref (L i), .int x, .int y]) (k2_QcV (.int (dk_mix k x y))) 0 0 (fun _ => False) := by
  refine Met.ofW (cc := cX2_mix) (maxL := 5) (ret := (some .int)) (by decide) rfl ?_
  intro p e s m args below meth c s₁ B hml hv
  obtain ⟨rfl, hP, hK, hD0⟩ := hv
  have hx := B.exec
  have hb := B.bytes
  have hr := B.returns
  have hts := atoms_spec (ws := wsX2_mix) B.pre
  have hown : s.vm.findClass RX2 = some m.cls := findClass_of_methodNamed B.named
  have hlocks := B.notSynchronized
  have hD := up_self hD0
  have hS : va_S (up_c (dkW cK cB cI o ks fa oa fb ob dr ds L n sp co en cr rl qs kA oA kB oB tt ss st K)) s.heap s.heap [] := va_S.rf
  have hl := lv_entry ([.ref (L i), .int x, .int y]) (n := 5) (Nat.le_of_ble_eq_true rfl)
  rw [lg_entry_eq]
  generalize (lg_sl ([.ref (L i), .int x, .int y]) ++ List.replicate (5 - (lg_sl ([.ref (L i), .int x, .int y])).length) Slot.unset).toArray = ls at hl ⊢
  have hl : lv_has ls 5 [(0, .ref (L i)), (1, .int x), (2, .int y)] := hl
  refine lv_aload_n hx hb dX2_mix_0 rfl (lv_at hl 0 rfl) ?_
  refine lv_iload_n hx hb dX2_mix_1 rfl (lv_at hl 2 rfl) ?_
  refine up_read (W.runV (As := [.int y]) (rest := []) ⟨hx, hb, hml, hown, hts⟩ (c_X2_part l dC dI cK cB cI o ks fa oa fb ob dr ds L n sp co en cr rl qs kA oA kB oB tt ss st K i k y hi hk) (cwV 1 hts gX2_mix_X2_part rfl rfl rfl (by decide +kernel) ⟨Nat.le_of_ble_eq_true rfl, Nat.le_of_ble_eq_true rfl⟩) (up_preV (q0 := (i + 8)) (ci := 3) hP hK hD rfl (dk_keyk hi hk)) rfl rfl hl.1 rfl (lv_room (Nat.le_of_ble_eq_true rfl)) dX2_mix_2 ⟨Nat.le_of_ble_eq_true rfl, Nat.le_of_ble_eq_true rfl⟩) ?_
  refine lv_istore_n (lv' := [(3, .int (dk_part k y)), (0, .ref (L i)), (1, .int x), (2, .int y)]) hx hb dX2_mix_5 rfl hl (by decide) rfl (fun ls hl => ?_)
  refine lv_iload_n hx hb dX2_mix_6 rfl (lv_at hl 2 rfl) ?_
  refine lv_ldc (v := 40503) hx hb hown (hts (.constant RX2 50 40503) (by decide +kernel)) dX2_mix_7 ?_
  refine lv_imul hx hb dX2_mix_9 ?_
  refine lv_iload_n hx hb dX2_mix_10 rfl (lv_at hl 0 rfl) ?_
  refine lv_iconst (v := 2) hx hb dX2_mix_11 (by decide) ?_
  refine lv_iload_n hx hb dX2_mix_12 rfl (lv_at hl 3 rfl) ?_
  refine lv_imul hx hb dX2_mix_13 ?_
  refine lv_iconst (v := 1) hx hb dX2_mix_14 (by decide) ?_
  refine lv_iadd hx hb dX2_mix_15 ?_
  refine lv_imul hx hb dX2_mix_16 ?_
  refine lv_iadd hx hb dX2_mix_17 ?_
  refine lv_iload_n hx hb dX2_mix_18 rfl (lv_at hl 2 rfl) ?_
  refine lv_bipush (v := 32) hx hb dX2_mix_19 (by decide) ?_
  refine lv_idiv hx hb dX2_mix_21 (by decide) ?_
  refine lv_ixor hx hb dX2_mix_22 ?_
  refine lv_iload_n hx hb dX2_mix_23 rfl (lv_at hl 0 rfl) ?_
  refine lv_bipush (v := 8) hx hb dX2_mix_24 (by decide) ?_
  refine lv_imul hx hb dX2_mix_26 ?_
  refine lv_ixor hx hb dX2_mix_27 ?_
  refine lv_istore (lv' := [(4, .int ((((x * 40503) + (dk_part k y * ((2 * y) + 1))) ^^^ (x / 32)) ^^^ (dk_part k y * 8))), (3, .int (dk_part k y)), (0, .ref (L i)), (1, .int x), (2, .int y)]) hx hb dX2_mix_28 hl (by decide) rfl (fun ls hl => ?_)
  refine lv_iload hx hb dX2_mix_30 (lv_at hl 0 rfl) ?_
  refine lv_ldc (v := 65535) hx hb hown (hts (.constant RX2 36 65535) (by decide +kernel)) dX2_mix_32 ?_
  refine lv_iand hx hb dX2_mix_34 ?_
  have e_ : dk_mix k x y = (((((x * 40503) + (dk_part k y * ((2 * y) + 1))) ^^^ (x / 32)) ^^^ (dk_part k y * 8)) &&& 65535) := by unfold dk_mix; exact rfl
  rw [e_]
  exact W.iret (v := (((((x * 40503) + (dk_part k y * ((2 * y) + 1))) ^^^ (x / 32)) ^^^ (dk_part k y * 8)) &&& 65535)) hx hb hr (fun t ht hW => ⟨rfl, ht⟩) (fun q h => absurd h List.not_mem_nil) dX2_mix_35
def dk_join (x : Int32) (y : Int32) : Int64 :=
  ((x.toInt64 * 65536) + y.toInt64)
def rm_X2_joined : Room := { frames := 0, cells := 0, slots := 0, locals := 0 }
set_option maxHeartbeats 4000000 in
set_option maxRecDepth 100000 in
theorem c_X2_joined (l : Launch) (dC : Nat → ClassId) (dI : Nat → Nat → Nat) (cK : ClassId) (cB : ClassId) (cI : ClassId) (o : Nat) (ks : Nat) (fa : Nat) (oa : Nat) (fb : Nat) (ob : Nat) (dr : Nat) (ds : Nat) (L : Nat → Nat) (n : Nat) (sp : Int32) (co : Nat) (en : Nat) (cr : Int32) (rl : Int32) (qs : Int32) (kA : Int32) (oA : Nat → Int8) (kB : Int32) (oB : Nat → Int8) (tt : Int64) (ss : Int64) (st : Nat → Int32) (K : Nat → KR) (x : Int32) (y : Int32) : Met l yX2_joined wsX2_joined rm_X2_joined (up_P (dC, dI) vwCl (dkT cK cB cI) (dkW cK cB cI o ks fa oa fb ob dr ds L n sp co en cr rl qs kA oA kB oB tt ss st K) [.int x, .int y]) (k2_QcV (.long (dk_join x y))) 0 0 (fun _ => False) := by
  refine Met.ofW (cc := cX2_joined) (maxL := 2) (ret := (some .long)) (by decide) rfl ?_
  intro p e s m args below meth c s₁ B hml hv
  obtain ⟨rfl, hP, hK, hD0⟩ := hv
  have hx := B.exec
  have hb := B.bytes
  have hr := B.returns
  have hts := atoms_spec (ws := wsX2_joined) B.pre
  have hown : s.vm.findClass RX2 = some m.cls := findClass_of_methodNamed B.named
  have hlocks := B.notSynchronized
  have hD := up_self hD0
  have hS : va_S (up_c (dkW cK cB cI o ks fa oa fb ob dr ds L n sp co en cr rl qs kA oA kB oB tt ss st K)) s.heap s.heap [] := va_S.rf
  have hl := lv_entry ([.int x, .int y]) (n := 2) (Nat.le_of_ble_eq_true rfl)
  rw [lg_entry_eq]
  generalize (lg_sl ([.int x, .int y]) ++ List.replicate (2 - (lg_sl ([.int x, .int y])).length) Slot.unset).toArray = ls at hl ⊢
  have hl : lv_has ls 2 [(0, .int x), (1, .int y)] := hl
  refine lv_iload_n hx hb dX2_joined_0 rfl (lv_at hl 0 rfl) ?_
  refine lv_i2l (v := x.toInt64) hx hb dX2_joined_1 rfl ?_
  refine lv_ldc2 (v := 65536) hx hb hown (hts (.constantLong RX2 51 65536) (by decide +kernel)) dX2_joined_2 ?_
  refine lv_lmul hx hb dX2_joined_5 ?_
  refine lv_iload_n hx hb dX2_joined_6 rfl (lv_at hl 1 rfl) ?_
  refine lv_i2l (v := y.toInt64) hx hb dX2_joined_7 rfl ?_
  refine lv_ladd hx hb dX2_joined_8 ?_
  have e_ : dk_join x y = ((x.toInt64 * 65536) + y.toInt64) := by unfold dk_join; exact rfl
  rw [e_]
  exact W.lret (v := ((x.toInt64 * 65536) + y.toInt64)) hx hb hr (fun t ht hW => ⟨rfl, ht⟩) (fun q h => absurd h List.not_mem_nil) dX2_joined_9
def dk_enc_l (k : KR) : Nat → Nat → Int32 → Int32 → Int64
  | 0, _, a, b =>
    dk_join a b
  | r + 1, j, a, b =>
    dk_enc_l k r (j + 1) b (a ^^^ dk_mix k b (nI j))
def dk_enc (k : KR) (x : Int64) : Int64 :=
  dk_enc_l k 16 0 (((x.toUInt64 >>> ((16 : Int32).toInt64.toUInt64 &&& Int64.toUInt64 63)).toInt64).toInt32 &&& 65535) (x.toInt32 &&& 65535)
def rm_X2_encipher : Room := { frames := 2, cells := 0, slots := 0, locals := 45 }
set_option maxHeartbeats 4000000 in
set_option maxRecDepth 100000 in
theorem c_X2_encipher (l : Launch) (dC : Nat → ClassId) (dI : Nat → Nat → Nat) (cK : ClassId) (cB : ClassId) (cI : ClassId) (o : Nat) (ks : Nat) (fa : Nat) (oa : Nat) (fb : Nat) (ob : Nat) (dr : Nat) (ds : Nat) (L : Nat → Nat) (n : Nat) (sp : Int32) (co : Nat) (en : Nat) (cr : Int32) (rl : Int32) (qs : Int32) (kA : Int32) (oA : Nat → Int8) (kB : Int32) (oB : Nat → Int8) (tt : Int64) (ss : Int64) (st : Nat → Int32) (K : Nat → KR) (i : Nat) (k : KR) (x : Int64) (hi : i < n) (hk : K i = k) : Met l yX2_encipher wsX2_encipher rm_X2_encipher (up_P (dC, dI) vwCl (dkT cK cB cI) (dkW cK cB cI o ks fa oa fb ob dr ds L n sp co en cr rl qs kA oA kB oB tt ss st K) [.ref (L i), .long x]) (k2_QcV (.long (dk_enc k x))) 0 0 (fun _ => False) := by
  refine Met.ofW (cc := cX2_encipher) (maxL := 7) (ret := (some .long)) (by decide) rfl ?_
  intro p e s m args below meth c s₁ B hml hv
  obtain ⟨rfl, hP, hK, hD0⟩ := hv
  have hx := B.exec
  have hb := B.bytes
  have hr := B.returns
  have hts := atoms_spec (ws := wsX2_encipher) B.pre
  have hown : s.vm.findClass RX2 = some m.cls := findClass_of_methodNamed B.named
  have hlocks := B.notSynchronized
  have hD := up_self hD0
  have hS : va_S (up_c (dkW cK cB cI o ks fa oa fb ob dr ds L n sp co en cr rl qs kA oA kB oB tt ss st K)) s.heap s.heap [] := va_S.rf
  have hl := lv_entry ([.ref (L i), .long x]) (n := 7) (Nat.le_of_ble_eq_true rfl)
  rw [lg_entry_eq]
  generalize (lg_sl ([.ref (L i), .long x]) ++ List.replicate (7 - (lg_sl ([.ref (L i), .long x])).length) Slot.unset).toArray = ls at hl ⊢
  have hl : lv_has ls 7 [(0, .ref (L i)), (1, .long x)] := hl
  refine lv_lload_n hx hb dX2_encipher_0 rfl (lv_at hl 1 rfl) ?_
  refine lv_bipush (v := 16) hx hb dX2_encipher_1 (by decide) ?_
  refine lv_lushr (v := (x.toUInt64 >>> ((16 : Int32).toInt64.toUInt64 &&& Int64.toUInt64 63)).toInt64) hx hb dX2_encipher_3 rfl ?_
  refine lv_l2i (v := ((x.toUInt64 >>> ((16 : Int32).toInt64.toUInt64 &&& Int64.toUInt64 63)).toInt64).toInt32) hx hb dX2_encipher_4 rfl ?_
  refine lv_ldc (v := 65535) hx hb hown (hts (.constant RX2 36 65535) (by decide +kernel)) dX2_encipher_5 ?_
  refine lv_iand hx hb dX2_encipher_7 ?_
  refine lv_istore_n (lv' := [(3, .int (((x.toUInt64 >>> ((16 : Int32).toInt64.toUInt64 &&& Int64.toUInt64 63)).toInt64).toInt32 &&& 65535)), (0, .ref (L i)), (1, .long x)]) hx hb dX2_encipher_8 rfl hl (by decide) rfl (fun ls hl => ?_)
  refine lv_lload_n hx hb dX2_encipher_9 rfl (lv_at hl 2 rfl) ?_
  refine lv_l2i (v := x.toInt32) hx hb dX2_encipher_10 rfl ?_
  refine lv_ldc (v := 65535) hx hb hown (hts (.constant RX2 36 65535) (by decide +kernel)) dX2_encipher_11 ?_
  refine lv_iand hx hb dX2_encipher_13 ?_
  refine lv_istore (lv' := [(4, .int (x.toInt32 &&& 65535)), (3, .int (((x.toUInt64 >>> ((16 : Int32).toInt64.toUInt64 &&& Int64.toUInt64 63)).toInt64).toInt32 &&& 65535)), (0, .ref (L i)), (1, .long x)]) hx hb dX2_encipher_14 hl (by decide) rfl (fun ls hl => ?_)
  refine lv_iconst (v := 0) hx hb dX2_encipher_16 (by decide) ?_
  refine lv_istore (lv' := [(5, .int 0), (4, .int (x.toInt32 &&& 65535)), (3, .int (((x.toUInt64 >>> ((16 : Int32).toInt64.toUInt64 &&& Int64.toUInt64 63)).toInt64).toInt32 &&& 65535)), (0, .ref (L i)), (1, .long x)]) hx hb dX2_encipher_17 hl (by decide) rfl (fun ls hl => ?_)
  have lp : ∀ (r j : Nat) (a : Int32) (b : Int32) , j + r = 16 → ∀ ls : Array Slot, lv_has ls 7 [(0, .ref (L i)), (5, .int (nI j)), (3, .int a), (4, .int b)] → W p l e (headSpec wsX2_encipher rm_X2_encipher).room s m ([.ref (L i), .long x] : List Value).toArray below meth c s.heap [] 0 0 (MQ below (k2_QcV (.long (dk_enc_l k r j a b))) ([.ref (L i), .long x] : List Value).toArray s 0 0 (fun _ => False)) (F0 m 19 ls []) := by
    intro r
    induction r with
    | zero =>
      intro j a b hj ls hl
      refine lv_iload hx hb dX2_encipher_19 (lv_at hl 1 rfl) ?_
      refine lv_bipush (v := 16) hx hb dX2_encipher_21 (by decide) ?_
      refine lv_icmp_ge (tgt := 51) hx hb dX2_encipher_23 (by decide) (fun c_23 => ?_) (fun c_23 => (c_23 (nI_le (a := 16) (b := j) (by omega) (by omega))).elim)
      refine lv_iload_n hx hb dX2_encipher_51 rfl (lv_at hl 2 rfl) ?_
      refine lv_iload hx hb dX2_encipher_52 (lv_at hl 3 rfl) ?_
      refine up_read (W.runS (As := [.int a, .int b]) (rest := []) ⟨hx, hb, hml, hown, hts⟩ (c_X2_joined l dC dI cK cB cI o ks fa oa fb ob dr ds L n sp co en cr rl qs kA oA kB oB tt ss st K a b) (va_cwS 2 hts gX2_encipher_X2_joined rfl rfl rfl (by decide +kernel) ⟨Nat.le_of_ble_eq_true rfl, Nat.le_of_ble_eq_true rfl⟩) (up_preS hP hK hD) rfl rfl hl.1 rfl (lv_room (Nat.le_of_ble_eq_true rfl)) dX2_encipher_54 ⟨Nat.le_of_ble_eq_true rfl, Nat.le_of_ble_eq_true rfl⟩) ?_
      have e_ : dk_enc_l k 0 j a b = dk_join a b := (dk_enc_l.eq_1 ..).trans rfl
      rw [e_]
      exact W.lret (v := dk_join a b) hx hb hr (fun t ht hW => ⟨rfl, ht⟩) (fun q h => absurd h List.not_mem_nil) dX2_encipher_57
    | succ r ih =>
      intro j a b hj ls hl
      refine lv_iload hx hb dX2_encipher_19 (lv_at hl 1 rfl) ?_
      refine lv_bipush (v := 16) hx hb dX2_encipher_21 (by decide) ?_
      refine lv_icmp_ge (tgt := 51) hx hb dX2_encipher_23 (by decide) (fun c_23 => (nI_ge (a := j) (b := 16) (by omega) (by omega) c_23).elim) (fun c_23 => ?_)
      refine lv_iload_n hx hb dX2_encipher_26 rfl (lv_at hl 2 rfl) ?_
      refine lv_aload_n hx hb dX2_encipher_27 rfl (lv_at hl 0 rfl) ?_
      refine lv_iload hx hb dX2_encipher_28 (lv_at hl 3 rfl) ?_
      refine lv_iload hx hb dX2_encipher_30 (lv_at hl 1 rfl) ?_
      refine up_read (W.runV (As := [.int b, .int (nI j)]) (rest := [.int a]) ⟨hx, hb, hml, hown, hts⟩ (c_X2_mix l dC dI cK cB cI o ks fa oa fb ob dr ds L n sp co en cr rl qs kA oA kB oB tt ss st K i k b (nI j) hi hk) (cwV 2 hts gX2_encipher_X2_mix rfl rfl rfl (by decide +kernel) ⟨Nat.le_of_ble_eq_true rfl, Nat.le_of_ble_eq_true rfl⟩) (up_preV (q0 := (i + 8)) (ci := 3) hP hK hD rfl (dk_keyk hi hk)) rfl rfl hl.1 rfl (lv_room (Nat.le_of_ble_eq_true rfl)) dX2_encipher_32 ⟨Nat.le_of_ble_eq_true rfl, Nat.le_of_ble_eq_true rfl⟩) ?_
      refine lv_ixor hx hb dX2_encipher_35 ?_
      refine lv_istore (lv' := [(6, .int (a ^^^ dk_mix k b (nI j))), (0, .ref (L i)), (5, .int (nI j)), (3, .int a), (4, .int b)]) hx hb dX2_encipher_36 hl (by decide) rfl (fun ls hl => ?_)
      refine lv_iload hx hb dX2_encipher_38 (lv_at hl 4 rfl) ?_
      refine lv_istore_n (lv' := [(3, .int b), (6, .int (a ^^^ dk_mix k b (nI j))), (0, .ref (L i)), (5, .int (nI j)), (4, .int b)]) hx hb dX2_encipher_40 rfl hl (by decide) rfl (fun ls hl => ?_)
      refine lv_iload hx hb dX2_encipher_41 (lv_at hl 1 rfl) ?_
      refine lv_istore (lv' := [(4, .int (a ^^^ dk_mix k b (nI j))), (3, .int b), (6, .int (a ^^^ dk_mix k b (nI j))), (0, .ref (L i)), (5, .int (nI j))]) hx hb dX2_encipher_43 hl (by decide) rfl (fun ls hl => ?_)
      refine lv_iinc (v := (nI (j + 1))) (lv' := [(5, .int (nI (j + 1))), (4, .int (a ^^^ dk_mix k b (nI j))), (3, .int b), (6, .int (a ^^^ dk_mix k b (nI j))), (0, .ref (L i))]) hx hb dX2_encipher_45 hl (k := 4) rfl (nI_1 _) (by decide) rfl (fun ls hl => ?_)
      refine lv_goto (tgt := 19) hx hb dX2_encipher_48 (by decide) ?_
      have e_ : dk_enc_l k (r + 1) j a b = dk_enc_l k r (j + 1) b (a ^^^ dk_mix k b (nI j)) := (dk_enc_l.eq_2 ..).trans rfl
      rw [e_]
      exact ih (j + 1) b (a ^^^ dk_mix k b (nI j)) (by omega) ls (lv_sub hl [4, 0, 2, 1] rfl)
  have e_ : dk_enc k x = dk_enc_l k 16 0 (((x.toUInt64 >>> ((16 : Int32).toInt64.toUInt64 &&& Int64.toUInt64 63)).toInt64).toInt32 &&& 65535) (x.toInt32 &&& 65535) := by unfold dk_enc; exact rfl
  rw [e_]
  exact lp 16 0 (((x.toUInt64 >>> ((16 : Int32).toInt64.toUInt64 &&& Int64.toUInt64 63)).toInt64).toInt32 &&& 65535) (x.toInt32 &&& 65535) (by omega) ls (lv_sub hl [3, 0, 2, 1] rfl)
def dk_dec_l (k : KR) : Nat → Int32 → Int32 → Int64
  | 0, a, b =>
    dk_join a b
  | r + 1, a, b =>
    dk_dec_l k r (b ^^^ dk_mix k a (nI r)) a
def dk_dec (k : KR) (x : Int64) : Int64 :=
  dk_dec_l k 16 (((x.toUInt64 >>> ((16 : Int32).toInt64.toUInt64 &&& Int64.toUInt64 63)).toInt64).toInt32 &&& 65535) (x.toInt32 &&& 65535)
def rm_X2_decipher : Room := { frames := 2, cells := 0, slots := 0, locals := 45 }
set_option maxHeartbeats 4000000 in
set_option maxRecDepth 100000 in
theorem c_X2_decipher (l : Launch) (dC : Nat → ClassId) (dI : Nat → Nat → Nat) (cK : ClassId) (cB : ClassId) (cI : ClassId) (o : Nat) (ks : Nat) (fa : Nat) (oa : Nat) (fb : Nat) (ob : Nat) (dr : Nat) (ds : Nat) (L : Nat → Nat) (n : Nat) (sp : Int32) (co : Nat) (en : Nat) (cr : Int32) (rl : Int32) (qs : Int32) (kA : Int32) (oA : Nat → Int8) (kB : Int32) (oB : Nat → Int8) (tt : Int64) (ss : Int64) (st : Nat → Int32) (K : Nat → KR) (i : Nat) (k : KR) (x : Int64) (hi : i < n) (hk : K i = k) : Met l yX2_decipher wsX2_decipher rm_X2_decipher (up_P (dC, dI) vwCl (dkT cK cB cI) (dkW cK cB cI o ks fa oa fb ob dr ds L n sp co en cr rl qs kA oA kB oB tt ss st K) [.ref (L i), .long x]) (k2_QcV (.long (dk_dec k x))) 0 0 (fun _ => False) := by
  refine Met.ofW (cc := cX2_decipher) (maxL := 7) (ret := (some .long)) (by decide) rfl ?_
  intro p e s m args below meth c s₁ B hml hv
  obtain ⟨rfl, hP, hK, hD0⟩ := hv
  have hx := B.exec
  have hb := B.bytes
  have hr := B.returns
  have hts := atoms_spec (ws := wsX2_decipher) B.pre
  have hown : s.vm.findClass RX2 = some m.cls := findClass_of_methodNamed B.named
  have hlocks := B.notSynchronized
  have hD := up_self hD0
  have hS : va_S (up_c (dkW cK cB cI o ks fa oa fb ob dr ds L n sp co en cr rl qs kA oA kB oB tt ss st K)) s.heap s.heap [] := va_S.rf
  have hl := lv_entry ([.ref (L i), .long x]) (n := 7) (Nat.le_of_ble_eq_true rfl)
  rw [lg_entry_eq]
  generalize (lg_sl ([.ref (L i), .long x]) ++ List.replicate (7 - (lg_sl ([.ref (L i), .long x])).length) Slot.unset).toArray = ls at hl ⊢
  have hl : lv_has ls 7 [(0, .ref (L i)), (1, .long x)] := hl
  refine lv_lload_n hx hb dX2_decipher_0 rfl (lv_at hl 1 rfl) ?_
  refine lv_bipush (v := 16) hx hb dX2_decipher_1 (by decide) ?_
  refine lv_lushr (v := (x.toUInt64 >>> ((16 : Int32).toInt64.toUInt64 &&& Int64.toUInt64 63)).toInt64) hx hb dX2_decipher_3 rfl ?_
  refine lv_l2i (v := ((x.toUInt64 >>> ((16 : Int32).toInt64.toUInt64 &&& Int64.toUInt64 63)).toInt64).toInt32) hx hb dX2_decipher_4 rfl ?_
  refine lv_ldc (v := 65535) hx hb hown (hts (.constant RX2 36 65535) (by decide +kernel)) dX2_decipher_5 ?_
  refine lv_iand hx hb dX2_decipher_7 ?_
  refine lv_istore_n (lv' := [(3, .int (((x.toUInt64 >>> ((16 : Int32).toInt64.toUInt64 &&& Int64.toUInt64 63)).toInt64).toInt32 &&& 65535)), (0, .ref (L i)), (1, .long x)]) hx hb dX2_decipher_8 rfl hl (by decide) rfl (fun ls hl => ?_)
  refine lv_lload_n hx hb dX2_decipher_9 rfl (lv_at hl 2 rfl) ?_
  refine lv_l2i (v := x.toInt32) hx hb dX2_decipher_10 rfl ?_
  refine lv_ldc (v := 65535) hx hb hown (hts (.constant RX2 36 65535) (by decide +kernel)) dX2_decipher_11 ?_
  refine lv_iand hx hb dX2_decipher_13 ?_
  refine lv_istore (lv' := [(4, .int (x.toInt32 &&& 65535)), (3, .int (((x.toUInt64 >>> ((16 : Int32).toInt64.toUInt64 &&& Int64.toUInt64 63)).toInt64).toInt32 &&& 65535)), (0, .ref (L i)), (1, .long x)]) hx hb dX2_decipher_14 hl (by decide) rfl (fun ls hl => ?_)
  refine lv_bipush (v := 15) hx hb dX2_decipher_16 (by decide) ?_
  refine lv_istore (lv' := [(5, .int 15), (4, .int (x.toInt32 &&& 65535)), (3, .int (((x.toUInt64 >>> ((16 : Int32).toInt64.toUInt64 &&& Int64.toUInt64 63)).toInt64).toInt32 &&& 65535)), (0, .ref (L i)), (1, .long x)]) hx hb dX2_decipher_18 hl (by decide) rfl (fun ls hl => ?_)
  have lp : ∀ (r : Nat) (a : Int32) (b : Int32) , r ≤ 16 → ∀ ls : Array Slot, lv_has ls 7 [(0, .ref (L i)), (5, .int (nI r - 1)), (3, .int a), (4, .int b)] → W p l e (headSpec wsX2_decipher rm_X2_decipher).room s m ([.ref (L i), .long x] : List Value).toArray below meth c s.heap [] 0 0 (MQ below (k2_QcV (.long (dk_dec_l k r a b))) ([.ref (L i), .long x] : List Value).toArray s 0 0 (fun _ => False)) (F0 m 20 ls []) := by
    intro r
    induction r with
    | zero =>
      intro a b hj ls hl
      refine lv_iload hx hb dX2_decipher_20 (lv_at hl 1 rfl) ?_
      refine lv_if_lt (tgt := 49) hx hb dX2_decipher_22 (by decide) (fun c_22 => ?_) (fun c_22 => (c_22 (by decide)).elim)
      refine lv_iload_n hx hb dX2_decipher_49 rfl (lv_at hl 2 rfl) ?_
      refine lv_iload hx hb dX2_decipher_50 (lv_at hl 3 rfl) ?_
      refine up_read (W.runS (As := [.int a, .int b]) (rest := []) ⟨hx, hb, hml, hown, hts⟩ (c_X2_joined l dC dI cK cB cI o ks fa oa fb ob dr ds L n sp co en cr rl qs kA oA kB oB tt ss st K a b) (va_cwS 2 hts gX2_decipher_X2_joined rfl rfl rfl (by decide +kernel) ⟨Nat.le_of_ble_eq_true rfl, Nat.le_of_ble_eq_true rfl⟩) (up_preS hP hK hD) rfl rfl hl.1 rfl (lv_room (Nat.le_of_ble_eq_true rfl)) dX2_decipher_52 ⟨Nat.le_of_ble_eq_true rfl, Nat.le_of_ble_eq_true rfl⟩) ?_
      have e_ : dk_dec_l k 0 a b = dk_join a b := (dk_dec_l.eq_1 ..).trans rfl
      rw [e_]
      exact W.lret (v := dk_join a b) hx hb hr (fun t ht hW => ⟨rfl, ht⟩) (fun q h => absurd h List.not_mem_nil) dX2_decipher_55
    | succ r ih =>
      intro a b hj ls hl
      rw [nI_pred] at hl
      refine lv_iload hx hb dX2_decipher_20 (lv_at hl 1 rfl) ?_
      refine lv_if_lt (tgt := 49) hx hb dX2_decipher_22 (by decide) (fun c_22 => (nI_pos (n := r) (by omega) c_22).elim) (fun c_22 => ?_)
      refine lv_iload hx hb dX2_decipher_25 (lv_at hl 3 rfl) ?_
      refine lv_aload_n hx hb dX2_decipher_27 rfl (lv_at hl 0 rfl) ?_
      refine lv_iload_n hx hb dX2_decipher_28 rfl (lv_at hl 2 rfl) ?_
      refine lv_iload hx hb dX2_decipher_29 (lv_at hl 1 rfl) ?_
      refine up_read (W.runV (As := [.int a, .int (nI r)]) (rest := [.int b]) ⟨hx, hb, hml, hown, hts⟩ (c_X2_mix l dC dI cK cB cI o ks fa oa fb ob dr ds L n sp co en cr rl qs kA oA kB oB tt ss st K i k a (nI r) hi hk) (cwV 2 hts gX2_decipher_X2_mix rfl rfl rfl (by decide +kernel) ⟨Nat.le_of_ble_eq_true rfl, Nat.le_of_ble_eq_true rfl⟩) (up_preV (q0 := (i + 8)) (ci := 3) hP hK hD rfl (dk_keyk hi hk)) rfl rfl hl.1 rfl (lv_room (Nat.le_of_ble_eq_true rfl)) dX2_decipher_31 ⟨Nat.le_of_ble_eq_true rfl, Nat.le_of_ble_eq_true rfl⟩) ?_
      refine lv_ixor hx hb dX2_decipher_34 ?_
      refine lv_istore (lv' := [(6, .int (b ^^^ dk_mix k a (nI r))), (0, .ref (L i)), (5, .int (nI r)), (3, .int a), (4, .int b)]) hx hb dX2_decipher_35 hl (by decide) rfl (fun ls hl => ?_)
      refine lv_iload_n hx hb dX2_decipher_37 rfl (lv_at hl 3 rfl) ?_
      refine lv_istore (lv' := [(4, .int a), (6, .int (b ^^^ dk_mix k a (nI r))), (0, .ref (L i)), (5, .int (nI r)), (3, .int a)]) hx hb dX2_decipher_38 hl (by decide) rfl (fun ls hl => ?_)
      refine lv_iload hx hb dX2_decipher_40 (lv_at hl 1 rfl) ?_
      refine lv_istore_n (lv' := [(3, .int (b ^^^ dk_mix k a (nI r))), (4, .int a), (6, .int (b ^^^ dk_mix k a (nI r))), (0, .ref (L i)), (5, .int (nI r))]) hx hb dX2_decipher_42 rfl hl (by decide) rfl (fun ls hl => ?_)
      refine lv_iinc (v := (nI r - 1)) (lv' := [(5, .int (nI r - 1)), (3, .int (b ^^^ dk_mix k a (nI r))), (4, .int a), (6, .int (b ^^^ dk_mix k a (nI r))), (0, .ref (L i))]) hx hb dX2_decipher_43 hl (k := 4) rfl (up_dec _) (by decide) rfl (fun ls hl => ?_)
      refine lv_goto (tgt := 20) hx hb dX2_decipher_46 (by decide) ?_
      have e_ : dk_dec_l k (r + 1) a b = dk_dec_l k r (b ^^^ dk_mix k a (nI r)) a := (dk_dec_l.eq_2 ..).trans rfl
      rw [e_]
      exact ih (b ^^^ dk_mix k a (nI r)) a (by omega) ls (lv_sub hl [4, 0, 1, 2] rfl)
  have e_ : dk_dec k x = dk_dec_l k 16 (((x.toUInt64 >>> ((16 : Int32).toInt64.toUInt64 &&& Int64.toUInt64 63)).toInt64).toInt32 &&& 65535) (x.toInt32 &&& 65535) := by unfold dk_dec; exact rfl
  rw [e_]
  exact lp 16 (((x.toUInt64 >>> ((16 : Int32).toInt64.toUInt64 &&& Int64.toUInt64 63)).toInt64).toInt32 &&& 65535) (x.toInt32 &&& 65535) (by omega) ls (lv_sub hl [3, 0, 2, 1] rfl)
