/-! a frame (laid by wip/gen.py) -/
set_option maxRecDepth 20000 in
theorem inn_X1_clear_X1 : ∀ w ∈ wsX10, w ∈ wsX1_clear := by decide +kernel
set_option maxRecDepth 20000 in
theorem inn_X1_keep_X1 : ∀ w ∈ wsX10, w ∈ wsX1_keep := by decide +kernel
set_option maxRecDepth 20000 in
theorem inn_X1_has_X1 : ∀ w ∈ wsX10, w ∈ wsX1_has := by decide +kernel
set_option maxRecDepth 20000 in
theorem inn_X1_unsigned_X1 : ∀ w ∈ wsX10, w ∈ wsX1_unsigned := by decide +kernel
set_option maxRecDepth 20000 in
theorem inn_X1_isSound_X1 : ∀ w ∈ wsX10, w ∈ wsX1_isSound := by decide +kernel
def dk_clear  : Int32 :=
  0
def rm_X1_clear : Room := { frames := 0, cells := 0, slots := 0, locals := 0 }
set_option maxHeartbeats 4000000 in
set_option maxRecDepth 100000 in
theorem c_X1_clear (l : Launch) (dC : Nat → ClassId) (dI : Nat → Nat → Nat) (cK : ClassId) (cB : ClassId) (cI : ClassId) (o : Nat) (ks : Nat) (fa : Nat) (oa : Nat) (fb : Nat) (ob : Nat) (dr : Nat) (ds : Nat) (L : Nat → Nat) (n : Nat) (sp : Int32) (co : Nat) (en : Nat) (cr : Int32) (rl : Int32) (qs : Int32) (kA : Int32) (oA : Nat → Int8) (kB : Int32) (oB : Nat → Int8) (tt : Int64) (ss : Int64) (st : Nat → Int32) (K : Nat → KR) : Met l yX1_clear wsX1_clear rm_X1_clear (up_P (dC, dI) vwCl (dkT cK cB cI) (dkW cK cB cI o ks fa oa fb ob dr ds L n sp co en cr rl qs kA oA kB oB tt ss st K) [.ref fa]) (up_Q (dC, dI) vwCl none (dkW cK cB cI o ks fa oa fb ob dr ds L n sp co en cr rl qs kA oA kB oB tt ss st K) (dkW cK cB cI o ks fa oa fb ob dr ds L n sp co en cr rl qs dk_clear oA kB oB tt ss st K)) 0 0 (up_c (dkW cK cB cI o ks fa oa fb ob dr ds L n sp co en cr rl qs kA oA kB oB tt ss st K)) := by
  refine Met.ofW (cc := cX1_clear) (maxL := 1) (ret := none) (by decide) rfl ?_
  intro p e s m args below meth c s₁ B hml hv
  obtain ⟨rfl, hP, hK, hD0⟩ := hv
  have hx := B.exec
  have hb := B.bytes
  have hr := B.returns
  have hts := atoms_spec (ws := wsX1_clear) B.pre
  have hown : s.vm.findClass RX1 = some m.cls := findClass_of_methodNamed B.named
  have hlocks := B.notSynchronized
  have hD := up_self hD0
  have hS : va_S (up_c (dkW cK cB cI o ks fa oa fb ob dr ds L n sp co en cr rl qs kA oA kB oB tt ss st K)) s.heap s.heap [] := va_S.rf
  have hl := lv_entry ([.ref fa]) (n := 1) (Nat.le_of_ble_eq_true rfl)
  rw [lg_entry_eq]
  generalize (lg_sl ([.ref fa]) ++ List.replicate (1 - (lg_sl ([.ref fa])).length) Slot.unset).toArray = ls at hl ⊢
  have hl : lv_has ls 1 [(0, .ref fa)] := hl
  refine lv_aload_n hx hb dX1_clear_0 rfl (lv_at hl 0 rfl) ?_
  refine lv_iconst (v := 0) hx hb dX1_clear_1 (by decide) ?_
  refine va_put (D := (dC, dI)) (ci := 2) (v := .int 0) (ty := .int) (C := RX1) (T := TX1) (N := 2) hx hb hts inn_X1_clear_X1 tyX1 tyX1_ok nmX1 hown hK hP hD hS 2 rfl rfl 1 (by decide) (hts (.fieldLink RX1 13 "DoorKeys$Frame" "kept" "I") (by decide +kernel)) (fun _ h9 => h9) rfl (by decide +kernel) rfl rfl (Nat.le_of_ble_eq_true rfl) dX1_clear_2 (fun H locs hP hD hS => ?_)
  have hP : va_P (dC, dI) vwCl (dkW cK cB cI o ks fa oa fb ob dr ds L n sp co en cr rl qs 0 oA kB oB tt ss st K) H := hP
  have hD : va_D (up_c (dkW cK cB cI o ks fa oa fb ob dr ds L n sp co en cr rl qs kA oA kB oB tt ss st K)) (dkW cK cB cI o ks fa oa fb ob dr ds L n sp co en cr rl qs 0 oA kB oB tt ss st K) := hD
  have e_ : dk_clear = 0 := by unfold dk_clear; exact rfl
  rw [e_]
  exact W.vret hx hb hr (fun t ht hW => ⟨rfl, by rw [ht]; exact hP, hS.F ht⟩) hS.2.2 dX1_clear_5
def dk_keep (kA : Int32) (oA : Nat → Int8) (b : Int8) : Int32 × (Nat → Int8) :=
  if kA < 0 then
    (kA, oA)
  else
    if 16 ≤ kA then
      (kA, oA)
    else
      ((kA + 1), (va_up oA kA.toNatClampNeg b))
def rm_X1_keep : Room := { frames := 0, cells := 0, slots := 0, locals := 0 }
set_option maxHeartbeats 4000000 in
set_option maxRecDepth 100000 in
theorem c_X1_keep (l : Launch) (dC : Nat → ClassId) (dI : Nat → Nat → Nat) (cK : ClassId) (cB : ClassId) (cI : ClassId) (o : Nat) (ks : Nat) (fa : Nat) (oa : Nat) (fb : Nat) (ob : Nat) (dr : Nat) (ds : Nat) (L : Nat → Nat) (n : Nat) (sp : Int32) (co : Nat) (en : Nat) (cr : Int32) (rl : Int32) (qs : Int32) (kA : Int32) (oA : Nat → Int8) (kB : Int32) (oB : Nat → Int8) (tt : Int64) (ss : Int64) (st : Nat → Int32) (K : Nat → KR) (b : Int8) : Met l yX1_keep wsX1_keep rm_X1_keep (up_P (dC, dI) vwCl (dkT cK cB cI) (dkW cK cB cI o ks fa oa fb ob dr ds L n sp co en cr rl qs kA oA kB oB tt ss st K) [.ref fa, .int b.toInt32]) (up_Q (dC, dI) vwCl none (dkW cK cB cI o ks fa oa fb ob dr ds L n sp co en cr rl qs kA oA kB oB tt ss st K) (dkW cK cB cI o ks fa oa fb ob dr ds L n sp co en cr rl qs ((dk_keep kA oA b).1) ((dk_keep kA oA b).2) kB oB tt ss st K)) 0 0 (up_c (dkW cK cB cI o ks fa oa fb ob dr ds L n sp co en cr rl qs kA oA kB oB tt ss st K)) := by
  refine Met.ofW (cc := cX1_keep) (maxL := 2) (ret := none) (by decide) rfl ?_
  intro p e s m args below meth c s₁ B hml hv
  obtain ⟨rfl, hP, hK, hD0⟩ := hv
  have hx := B.exec
  have hb := B.bytes
  have hr := B.returns
  have hts := atoms_spec (ws := wsX1_keep) B.pre
  have hown : s.vm.findClass RX1 = some m.cls := findClass_of_methodNamed B.named
  have hlocks := B.notSynchronized
  have hD := up_self hD0
  have hS : va_S (up_c (dkW cK cB cI o ks fa oa fb ob dr ds L n sp co en cr rl qs kA oA kB oB tt ss st K)) s.heap s.heap [] := va_S.rf
  have hl := lv_entry ([.ref fa, .int b.toInt32]) (n := 2) (Nat.le_of_ble_eq_true rfl)
  rw [lg_entry_eq]
  generalize (lg_sl ([.ref fa, .int b.toInt32]) ++ List.replicate (2 - (lg_sl ([.ref fa, .int b.toInt32])).length) Slot.unset).toArray = ls at hl ⊢
  have hl : lv_has ls 2 [(0, .ref fa), (1, .int b.toInt32)] := hl
  refine lv_aload_n hx hb dX1_keep_0 rfl (lv_at hl 0 rfl) ?_
  refine va_get (D := (dC, dI)) (ci := 2) (v := .int kA) (C := RX1) (T := TX1) (N := 2) hx hb hts inn_X1_keep_X1 hown hK hP 2 rfl rfl 1 (by decide) (hts (.fieldLink RX1 13 "DoorKeys$Frame" "kept" "I") (by decide +kernel)) (fun _ h9 => h9) rfl dX1_keep_1 ?_
  refine lv_if_lt (tgt := 39) hx hb dX1_keep_4 (by decide) (fun c_4 => ?_) (fun c_4 => ?_)
  · have e_ : dk_keep kA oA b = (kA, oA) := by unfold dk_keep; exact (if_pos c_4).trans rfl
    rw [e_]
    exact W.vret hx hb hr (fun t ht hW => ⟨rfl, by rw [ht]; exact hP, hS.F ht⟩) hS.2.2 dX1_keep_39
  · refine lv_aload_n hx hb dX1_keep_7 rfl (lv_at hl 0 rfl) ?_
    refine va_get (D := (dC, dI)) (ci := 2) (v := .int kA) (C := RX1) (T := TX1) (N := 2) hx hb hts inn_X1_keep_X1 hown hK hP 2 rfl rfl 1 (by decide) (hts (.fieldLink RX1 13 "DoorKeys$Frame" "kept" "I") (by decide +kernel)) (fun _ h9 => h9) rfl dX1_keep_8 ?_
    refine lv_aload_n hx hb dX1_keep_11 rfl (lv_at hl 0 rfl) ?_
    refine va_get (D := (dC, dI)) (ci := 2) (v := .ref oa) (C := RX1) (T := TX1) (N := 2) hx hb hts inn_X1_keep_X1 hown hK hP 2 rfl rfl 0 (by decide) (hts (.fieldLink RX1 9 "DoorKeys$Frame" "octets" "[B") (by decide +kernel)) (fun _ h9 => h9) rfl dX1_keep_12 ?_
    refine va_alen (v := 16) hx hb hK hP 3 1 rfl rfl rfl dX1_keep_15 ?_
    refine lv_icmp_ge (tgt := 39) hx hb dX1_keep_16 (by decide) (fun c_16 => ?_) (fun c_16 => ?_)
    · have e_ : dk_keep kA oA b = (kA, oA) := by unfold dk_keep; exact (if_neg c_4).trans ((if_pos c_16).trans rfl)
      rw [e_]
      exact W.vret hx hb hr (fun t ht hW => ⟨rfl, by rw [ht]; exact hP, hS.F ht⟩) hS.2.2 dX1_keep_39
    · refine lv_aload_n hx hb dX1_keep_19 rfl (lv_at hl 0 rfl) ?_
      refine va_get (D := (dC, dI)) (ci := 2) (v := .ref oa) (C := RX1) (T := TX1) (N := 2) hx hb hts inn_X1_keep_X1 hown hK hP 2 rfl rfl 0 (by decide) (hts (.fieldLink RX1 9 "DoorKeys$Frame" "octets" "[B") (by decide +kernel)) (fun _ h9 => h9) rfl dX1_keep_20 ?_
      refine lv_aload_n hx hb dX1_keep_23 rfl (lv_at hl 0 rfl) ?_
      refine va_get (D := (dC, dI)) (ci := 2) (v := .int kA) (C := RX1) (T := TX1) (N := 2) hx hb hts inn_X1_keep_X1 hown hK hP 2 rfl rfl 1 (by decide) (hts (.fieldLink RX1 13 "DoorKeys$Frame" "kept" "I") (by decide +kernel)) (fun _ h9 => h9) rfl dX1_keep_24 ?_
      refine lv_iload_n hx hb dX1_keep_27 rfl (lv_at hl 1 rfl) ?_
      refine va_bast hx hb hK hP hD hS 3 1 rfl rfl (up_in (N := 16) (by decide) c_4 c_16) dX1_keep_28 (fun H locs hP hD hS => ?_)
      rw [up_b8] at hP hD
      have hP : va_P (dC, dI) vwCl (dkW cK cB cI o ks fa oa fb ob dr ds L n sp co en cr rl qs kA (va_up oA kA.toNatClampNeg b) kB oB tt ss st K) H := hP
      have hD : va_D (up_c (dkW cK cB cI o ks fa oa fb ob dr ds L n sp co en cr rl qs kA oA kB oB tt ss st K)) (dkW cK cB cI o ks fa oa fb ob dr ds L n sp co en cr rl qs kA (va_up oA kA.toNatClampNeg b) kB oB tt ss st K) := hD
      refine lv_aload_n hx hb dX1_keep_29 rfl (lv_at hl 0 rfl) ?_
      refine lv_dup hx hb dX1_keep_30 rfl ?_
      refine va_get (D := (dC, dI)) (ci := 2) (v := .int kA) (C := RX1) (T := TX1) (N := 2) hx hb hts inn_X1_keep_X1 hown hK hP 2 rfl rfl 1 (by decide) (hts (.fieldLink RX1 13 "DoorKeys$Frame" "kept" "I") (by decide +kernel)) (fun _ h9 => h9) rfl dX1_keep_31 ?_
      refine lv_iconst (v := 1) hx hb dX1_keep_34 (by decide) ?_
      refine lv_iadd hx hb dX1_keep_35 ?_
      refine va_put (D := (dC, dI)) (ci := 2) (v := .int (kA + 1)) (ty := .int) (C := RX1) (T := TX1) (N := 2) hx hb hts inn_X1_keep_X1 tyX1 tyX1_ok nmX1 hown hK hP hD hS 2 rfl rfl 1 (by decide) (hts (.fieldLink RX1 13 "DoorKeys$Frame" "kept" "I") (by decide +kernel)) (fun _ h9 => h9) rfl (by decide +kernel) rfl rfl (Nat.le_of_ble_eq_true rfl) dX1_keep_36 (fun H locs hP hD hS => ?_)
      have hP : va_P (dC, dI) vwCl (dkW cK cB cI o ks fa oa fb ob dr ds L n sp co en cr rl qs (kA + 1) (va_up oA kA.toNatClampNeg b) kB oB tt ss st K) H := hP
      have hD : va_D (up_c (dkW cK cB cI o ks fa oa fb ob dr ds L n sp co en cr rl qs kA oA kB oB tt ss st K)) (dkW cK cB cI o ks fa oa fb ob dr ds L n sp co en cr rl qs (kA + 1) (va_up oA kA.toNatClampNeg b) kB oB tt ss st K) := hD
      have e_ : dk_keep kA oA b = ((kA + 1), (va_up oA kA.toNatClampNeg b)) := by unfold dk_keep; exact (if_neg c_4).trans ((if_neg c_16).trans rfl)
      rw [e_]
      exact W.vret hx hb hr (fun t ht hW => ⟨rfl, by rw [ht]; exact hP, hS.F ht⟩) hS.2.2 dX1_keep_39
def dk_fhas (kB : Int32) (x : Int32) : Int32 :=
  if x < 0 then
    (0 : Int32)
  else
    if kB ≤ x then
      (0 : Int32)
    else
      if 16 ≤ x then
        (0 : Int32)
      else
        (1 : Int32)
theorem dk_fhas_in {k x : Int32} (h : ¬ dk_fhas k x = 0) : vp_in x 16 := by
  unfold dk_fhas at h
  by_cases h0 : x < 0
  · rw [if_pos h0] at h; exact absurd rfl h
  · rw [if_neg h0] at h
    by_cases h2 : k ≤ x
    · rw [if_pos h2] at h; exact absurd rfl h
    · rw [if_neg h2] at h
      by_cases h1 : 16 ≤ x
      · rw [if_pos h1] at h; exact absurd rfl h
      · exact up_in (N := 16) (by decide) h0 h1
def rm_X1_has : Room := { frames := 0, cells := 0, slots := 0, locals := 0 }
set_option maxHeartbeats 4000000 in
set_option maxRecDepth 100000 in
theorem c_X1_has (l : Launch) (dC : Nat → ClassId) (dI : Nat → Nat → Nat) (cK : ClassId) (cB : ClassId) (cI : ClassId) (o : Nat) (ks : Nat) (fa : Nat) (oa : Nat) (fb : Nat) (ob : Nat) (dr : Nat) (ds : Nat) (L : Nat → Nat) (n : Nat) (sp : Int32) (co : Nat) (en : Nat) (cr : Int32) (rl : Int32) (qs : Int32) (kA : Int32) (oA : Nat → Int8) (kB : Int32) (oB : Nat → Int8) (tt : Int64) (ss : Int64) (st : Nat → Int32) (K : Nat → KR) (x : Int32) : Met l yX1_has wsX1_has rm_X1_has (up_P (dC, dI) vwCl (dkT cK cB cI) (dkW cK cB cI o ks fa oa fb ob dr ds L n sp co en cr rl qs kA oA kB oB tt ss st K) [.ref fb, .int x]) (k2_QcV (.int (dk_fhas kB x))) 0 0 (fun _ => False) := by
  refine Met.ofW (cc := cX1_has) (maxL := 2) (ret := (some .boolean)) (by decide) rfl ?_
  intro p e s m args below meth c s₁ B hml hv
  obtain ⟨rfl, hP, hK, hD0⟩ := hv
  have hx := B.exec
  have hb := B.bytes
  have hr := B.returns
  have hts := atoms_spec (ws := wsX1_has) B.pre
  have hown : s.vm.findClass RX1 = some m.cls := findClass_of_methodNamed B.named
  have hlocks := B.notSynchronized
  have hD := up_self hD0
  have hS : va_S (up_c (dkW cK cB cI o ks fa oa fb ob dr ds L n sp co en cr rl qs kA oA kB oB tt ss st K)) s.heap s.heap [] := va_S.rf
  have hl := lv_entry ([.ref fb, .int x]) (n := 2) (Nat.le_of_ble_eq_true rfl)
  rw [lg_entry_eq]
  generalize (lg_sl ([.ref fb, .int x]) ++ List.replicate (2 - (lg_sl ([.ref fb, .int x])).length) Slot.unset).toArray = ls at hl ⊢
  have hl : lv_has ls 2 [(0, .ref fb), (1, .int x)] := hl
  refine lv_iload_n hx hb dX1_has_0 rfl (lv_at hl 1 rfl) ?_
  refine lv_if_lt (tgt := 25) hx hb dX1_has_1 (by decide) (fun c_1 => ?_) (fun c_1 => ?_)
  · refine lv_iconst (v := 0) hx hb dX1_has_25 (by decide) ?_
    have e_ : dk_fhas kB x = (0 : Int32) := by unfold dk_fhas; exact (if_pos c_1).trans rfl
    rw [e_]
    exact W.zret (v := 0) hx hb hr (by decide) (fun t ht hW => ⟨rfl, ht⟩) (fun q h => absurd h List.not_mem_nil) dX1_has_26
  · refine lv_iload_n hx hb dX1_has_4 rfl (lv_at hl 1 rfl) ?_
    refine lv_aload_n hx hb dX1_has_5 rfl (lv_at hl 0 rfl) ?_
    refine va_get (D := (dC, dI)) (ci := 2) (v := .int kB) (C := RX1) (T := TX1) (N := 2) hx hb hts inn_X1_has_X1 hown hK hP 4 rfl rfl 1 (by decide) (hts (.fieldLink RX1 13 "DoorKeys$Frame" "kept" "I") (by decide +kernel)) (fun _ h9 => h9) rfl dX1_has_6 ?_
    refine lv_icmp_ge (tgt := 25) hx hb dX1_has_9 (by decide) (fun c_9 => ?_) (fun c_9 => ?_)
    · refine lv_iconst (v := 0) hx hb dX1_has_25 (by decide) ?_
      have e_ : dk_fhas kB x = (0 : Int32) := by unfold dk_fhas; exact (if_neg c_1).trans ((if_pos c_9).trans rfl)
      rw [e_]
      exact W.zret (v := 0) hx hb hr (by decide) (fun t ht hW => ⟨rfl, ht⟩) (fun q h => absurd h List.not_mem_nil) dX1_has_26
    · refine lv_iload_n hx hb dX1_has_12 rfl (lv_at hl 1 rfl) ?_
      refine lv_aload_n hx hb dX1_has_13 rfl (lv_at hl 0 rfl) ?_
      refine va_get (D := (dC, dI)) (ci := 2) (v := .ref ob) (C := RX1) (T := TX1) (N := 2) hx hb hts inn_X1_has_X1 hown hK hP 4 rfl rfl 0 (by decide) (hts (.fieldLink RX1 9 "DoorKeys$Frame" "octets" "[B") (by decide +kernel)) (fun _ h9 => h9) rfl dX1_has_14 ?_
      refine va_alen (v := 16) hx hb hK hP 5 1 rfl rfl rfl dX1_has_17 ?_
      refine lv_icmp_ge (tgt := 25) hx hb dX1_has_18 (by decide) (fun c_18 => ?_) (fun c_18 => ?_)
      · refine lv_iconst (v := 0) hx hb dX1_has_25 (by decide) ?_
        have e_ : dk_fhas kB x = (0 : Int32) := by unfold dk_fhas; exact (if_neg c_1).trans ((if_neg c_9).trans ((if_pos c_18).trans rfl))
        rw [e_]
        exact W.zret (v := 0) hx hb hr (by decide) (fun t ht hW => ⟨rfl, ht⟩) (fun q h => absurd h List.not_mem_nil) dX1_has_26
      · refine lv_iconst (v := 1) hx hb dX1_has_21 (by decide) ?_
        refine lv_goto (tgt := 26) hx hb dX1_has_22 (by decide) ?_
        have e_ : dk_fhas kB x = (1 : Int32) := by unfold dk_fhas; exact (if_neg c_1).trans ((if_neg c_9).trans ((if_neg c_18).trans rfl))
        rw [e_]
        exact W.zret (v := 1) hx hb hr (by decide) (fun t ht hW => ⟨rfl, ht⟩) (fun q h => absurd h List.not_mem_nil) dX1_has_26
def dk_uns (kB : Int32) (oB : Nat → Int8) (x : Int32) : Int32 :=
  if dk_fhas kB x = 0 then
    (0 : Int32)
  else
    ((oB x.toNatClampNeg).toInt32 &&& 255)
def rm_X1_unsigned : Room := { frames := 1, cells := 0, slots := 0, locals := 21 }
set_option maxHeartbeats 4000000 in
set_option maxRecDepth 100000 in
theorem c_X1_unsigned (l : Launch) (dC : Nat → ClassId) (dI : Nat → Nat → Nat) (cK : ClassId) (cB : ClassId) (cI : ClassId) (o : Nat) (ks : Nat) (fa : Nat) (oa : Nat) (fb : Nat) (ob : Nat) (dr : Nat) (ds : Nat) (L : Nat → Nat) (n : Nat) (sp : Int32) (co : Nat) (en : Nat) (cr : Int32) (rl : Int32) (qs : Int32) (kA : Int32) (oA : Nat → Int8) (kB : Int32) (oB : Nat → Int8) (tt : Int64) (ss : Int64) (st : Nat → Int32) (K : Nat → KR) (x : Int32) : Met l yX1_unsigned wsX1_unsigned rm_X1_unsigned (up_P (dC, dI) vwCl (dkT cK cB cI) (dkW cK cB cI o ks fa oa fb ob dr ds L n sp co en cr rl qs kA oA kB oB tt ss st K) [.ref fb, .int x]) (k2_QcV (.int (dk_uns kB oB x))) 0 0 (fun _ => False) := by
  refine Met.ofW (cc := cX1_unsigned) (maxL := 2) (ret := (some .int)) (by decide) rfl ?_
  intro p e s m args below meth c s₁ B hml hv
  obtain ⟨rfl, hP, hK, hD0⟩ := hv
  have hx := B.exec
  have hb := B.bytes
  have hr := B.returns
  have hts := atoms_spec (ws := wsX1_unsigned) B.pre
  have hown : s.vm.findClass RX1 = some m.cls := findClass_of_methodNamed B.named
  have hlocks := B.notSynchronized
  have hD := up_self hD0
  have hS : va_S (up_c (dkW cK cB cI o ks fa oa fb ob dr ds L n sp co en cr rl qs kA oA kB oB tt ss st K)) s.heap s.heap [] := va_S.rf
  have hl := lv_entry ([.ref fb, .int x]) (n := 2) (Nat.le_of_ble_eq_true rfl)
  rw [lg_entry_eq]
  generalize (lg_sl ([.ref fb, .int x]) ++ List.replicate (2 - (lg_sl ([.ref fb, .int x])).length) Slot.unset).toArray = ls at hl ⊢
  have hl : lv_has ls 2 [(0, .ref fb), (1, .int x)] := hl
  refine lv_aload_n hx hb dX1_unsigned_0 rfl (lv_at hl 0 rfl) ?_
  refine lv_iload_n hx hb dX1_unsigned_1 rfl (lv_at hl 1 rfl) ?_
  refine up_read (W.runV (As := [.int x]) (rest := []) ⟨hx, hb, hml, hown, hts⟩ (c_X1_has l dC dI cK cB cI o ks fa oa fb ob dr ds L n sp co en cr rl qs kA oA kB oB tt ss st K x) (cwV 1 hts gX1_unsigned_X1_has rfl rfl rfl (by decide +kernel) ⟨Nat.le_of_ble_eq_true rfl, Nat.le_of_ble_eq_true rfl⟩) (up_preV (q0 := 4) (ci := 2) hP hK hD rfl rfl) rfl rfl hl.1 rfl (lv_room (Nat.le_of_ble_eq_true rfl)) dX1_unsigned_2 ⟨Nat.le_of_ble_eq_true rfl, Nat.le_of_ble_eq_true rfl⟩) ?_
  refine lv_if_eq (tgt := 21) hx hb dX1_unsigned_5 (by decide) (fun c_5 => ?_) (fun c_5 => ?_)
  · refine lv_iconst (v := 0) hx hb dX1_unsigned_21 (by decide) ?_
    have e_ : dk_uns kB oB x = (0 : Int32) := by unfold dk_uns; exact (if_pos c_5).trans rfl
    rw [e_]
    exact W.iret (v := 0) hx hb hr (fun t ht hW => ⟨rfl, ht⟩) (fun q h => absurd h List.not_mem_nil) dX1_unsigned_22
  · refine lv_aload_n hx hb dX1_unsigned_8 rfl (lv_at hl 0 rfl) ?_
    refine va_get (D := (dC, dI)) (ci := 2) (v := .ref ob) (C := RX1) (T := TX1) (N := 2) hx hb hts inn_X1_unsigned_X1 hown hK hP 4 rfl rfl 0 (by decide) (hts (.fieldLink RX1 9 "DoorKeys$Frame" "octets" "[B") (by decide +kernel)) (fun _ h9 => h9) rfl dX1_unsigned_9 ?_
    refine lv_iload_n hx hb dX1_unsigned_12 rfl (lv_at hl 1 rfl) ?_
    refine va_bald hx hb hK hP 5 1 rfl rfl (dk_fhas_in c_5) dX1_unsigned_13 ?_
    refine lv_sipush (v := 255) hx hb dX1_unsigned_14 (by decide) ?_
    refine lv_iand hx hb dX1_unsigned_17 ?_
    refine lv_goto (tgt := 22) hx hb dX1_unsigned_18 (by decide) ?_
    have e_ : dk_uns kB oB x = ((oB x.toNatClampNeg).toInt32 &&& 255) := by unfold dk_uns; exact (if_neg c_5).trans rfl
    rw [e_]
    exact W.iret (v := ((oB x.toNatClampNeg).toInt32 &&& 255)) hx hb hr (fun t ht hW => ⟨rfl, ht⟩) (fun q h => absurd h List.not_mem_nil) dX1_unsigned_22
def dk_sound_l (kB : Int32) (oB : Nat → Int8) : Nat → Nat → Int32 → Int32
  | 0, _, ac =>
    if ac = 0 then
      (1 : Int32)
    else
      (0 : Int32)
  | r + 1, j, ac =>
    dk_sound_l kB oB r (j + 1) (ac ^^^ dk_uns kB oB (nI j))
def dk_sound (kB : Int32) (oB : Nat → Int8) : Int32 :=
  if kB = 8 then
    dk_sound_l kB oB 8 0 0
  else
    (0 : Int32)
def rm_X1_isSound : Room := { frames := 2, cells := 0, slots := 0, locals := 42 }
set_option maxHeartbeats 4000000 in
set_option maxRecDepth 100000 in
theorem c_X1_isSound (l : Launch) (dC : Nat → ClassId) (dI : Nat → Nat → Nat) (cK : ClassId) (cB : ClassId) (cI : ClassId) (o : Nat) (ks : Nat) (fa : Nat) (oa : Nat) (fb : Nat) (ob : Nat) (dr : Nat) (ds : Nat) (L : Nat → Nat) (n : Nat) (sp : Int32) (co : Nat) (en : Nat) (cr : Int32) (rl : Int32) (qs : Int32) (kA : Int32) (oA : Nat → Int8) (kB : Int32) (oB : Nat → Int8) (tt : Int64) (ss : Int64) (st : Nat → Int32) (K : Nat → KR) : Met l yX1_isSound wsX1_isSound rm_X1_isSound (up_P (dC, dI) vwCl (dkT cK cB cI) (dkW cK cB cI o ks fa oa fb ob dr ds L n sp co en cr rl qs kA oA kB oB tt ss st K) [.ref fb]) (k2_QcV (.int (dk_sound kB oB))) 0 0 (fun _ => False) := by
  refine Met.ofW (cc := cX1_isSound) (maxL := 3) (ret := (some .boolean)) (by decide) rfl ?_
  intro p e s m args below meth c s₁ B hml hv
  obtain ⟨rfl, hP, hK, hD0⟩ := hv
  have hx := B.exec
  have hb := B.bytes
  have hr := B.returns
  have hts := atoms_spec (ws := wsX1_isSound) B.pre
  have hown : s.vm.findClass RX1 = some m.cls := findClass_of_methodNamed B.named
  have hlocks := B.notSynchronized
  have hD := up_self hD0
  have hS : va_S (up_c (dkW cK cB cI o ks fa oa fb ob dr ds L n sp co en cr rl qs kA oA kB oB tt ss st K)) s.heap s.heap [] := va_S.rf
  have hl := lv_entry ([.ref fb]) (n := 3) (Nat.le_of_ble_eq_true rfl)
  rw [lg_entry_eq]
  generalize (lg_sl ([.ref fb]) ++ List.replicate (3 - (lg_sl ([.ref fb])).length) Slot.unset).toArray = ls at hl ⊢
  have hl : lv_has ls 3 [(0, .ref fb)] := hl
  refine lv_aload_n hx hb dX1_isSound_0 rfl (lv_at hl 0 rfl) ?_
  refine va_get (D := (dC, dI)) (ci := 2) (v := .int kB) (C := RX1) (T := TX1) (N := 2) hx hb hts inn_X1_isSound_X1 hown hK hP 4 rfl rfl 1 (by decide) (hts (.fieldLink RX1 13 "DoorKeys$Frame" "kept" "I") (by decide +kernel)) (fun _ h9 => h9) rfl dX1_isSound_1 ?_
  refine lv_bipush (v := 8) hx hb dX1_isSound_4 (by decide) ?_
  refine lv_icmp_eq (tgt := 11) hx hb dX1_isSound_6 (by decide) (fun c_6 => ?_) (fun c_6 => ?_)
  · refine lv_iconst (v := 0) hx hb dX1_isSound_11 (by decide) ?_
    refine lv_istore_n (lv' := [(1, .int 0), (0, .ref fb)]) hx hb dX1_isSound_12 rfl hl (by decide) rfl (fun ls hl => ?_)
    refine lv_iconst (v := 0) hx hb dX1_isSound_13 (by decide) ?_
    refine lv_istore_n (lv' := [(2, .int 0), (1, .int 0), (0, .ref fb)]) hx hb dX1_isSound_14 rfl hl (by decide) rfl (fun ls hl => ?_)
    have lp : ∀ (r j : Nat) (ac : Int32) , j + r = 8 → ∀ ls : Array Slot, lv_has ls 3 [(0, .ref fb), (2, .int (nI j)), (1, .int ac)] → W p l e (headSpec wsX1_isSound rm_X1_isSound).room s m ([.ref fb] : List Value).toArray below meth c s.heap [] 0 0 (MQ below (k2_QcV (.int (dk_sound_l kB oB r j ac))) ([.ref fb] : List Value).toArray s 0 0 (fun _ => False)) (F0 m 15 ls []) := by
      intro r
      induction r with
      | zero =>
        intro j ac hj ls hl
        refine lv_iload_n hx hb dX1_isSound_15 rfl (lv_at hl 1 rfl) ?_
        refine lv_bipush (v := 8) hx hb dX1_isSound_16 (by decide) ?_
        refine lv_icmp_ge (tgt := 35) hx hb dX1_isSound_18 (by decide) (fun c_18 => ?_) (fun c_18 => (c_18 (nI_le (a := 8) (b := j) (by omega) (by omega))).elim)
        refine lv_iload_n hx hb dX1_isSound_35 rfl (lv_at hl 2 rfl) ?_
        refine lv_if_ne (tgt := 43) hx hb dX1_isSound_36 (by decide) (fun c_36 => ?_) (fun c_36 => ?_)
        · refine lv_iconst (v := 0) hx hb dX1_isSound_43 (by decide) ?_
          have e_ : dk_sound_l kB oB 0 j ac = (0 : Int32) := (dk_sound_l.eq_1 ..).trans ((if_neg c_36).trans rfl)
          rw [e_]
          exact W.zret (v := 0) hx hb hr (by decide) (fun t ht hW => ⟨rfl, ht⟩) (fun q h => absurd h List.not_mem_nil) dX1_isSound_44
        · refine lv_iconst (v := 1) hx hb dX1_isSound_39 (by decide) ?_
          refine lv_goto (tgt := 44) hx hb dX1_isSound_40 (by decide) ?_
          have e_ : dk_sound_l kB oB 0 j ac = (1 : Int32) := (dk_sound_l.eq_1 ..).trans ((if_pos c_36).trans rfl)
          rw [e_]
          exact W.zret (v := 1) hx hb hr (by decide) (fun t ht hW => ⟨rfl, ht⟩) (fun q h => absurd h List.not_mem_nil) dX1_isSound_44
      | succ r ih =>
        intro j ac hj ls hl
        refine lv_iload_n hx hb dX1_isSound_15 rfl (lv_at hl 1 rfl) ?_
        refine lv_bipush (v := 8) hx hb dX1_isSound_16 (by decide) ?_
        refine lv_icmp_ge (tgt := 35) hx hb dX1_isSound_18 (by decide) (fun c_18 => (nI_ge (a := j) (b := 8) (by omega) (by omega) c_18).elim) (fun c_18 => ?_)
        refine lv_iload_n hx hb dX1_isSound_21 rfl (lv_at hl 2 rfl) ?_
        refine lv_aload_n hx hb dX1_isSound_22 rfl (lv_at hl 0 rfl) ?_
        refine lv_iload_n hx hb dX1_isSound_23 rfl (lv_at hl 1 rfl) ?_
        refine up_read (W.runV (As := [.int (nI j)]) (rest := [.int ac]) ⟨hx, hb, hml, hown, hts⟩ (c_X1_unsigned l dC dI cK cB cI o ks fa oa fb ob dr ds L n sp co en cr rl qs kA oA kB oB tt ss st K (nI j)) (cwV 1 hts gX1_isSound_X1_unsigned rfl rfl rfl (by decide +kernel) ⟨Nat.le_of_ble_eq_true rfl, Nat.le_of_ble_eq_true rfl⟩) (up_preV (q0 := 4) (ci := 2) hP hK hD rfl rfl) rfl rfl hl.1 rfl (lv_room (Nat.le_of_ble_eq_true rfl)) dX1_isSound_24 ⟨Nat.le_of_ble_eq_true rfl, Nat.le_of_ble_eq_true rfl⟩) ?_
        refine lv_ixor hx hb dX1_isSound_27 ?_
        refine lv_istore_n (lv' := [(1, .int (ac ^^^ dk_uns kB oB (nI j))), (0, .ref fb), (2, .int (nI j))]) hx hb dX1_isSound_28 rfl hl (by decide) rfl (fun ls hl => ?_)
        refine lv_iinc (v := (nI (j + 1))) (lv' := [(2, .int (nI (j + 1))), (1, .int (ac ^^^ dk_uns kB oB (nI j))), (0, .ref fb)]) hx hb dX1_isSound_29 hl (k := 2) rfl (nI_1 _) (by decide) rfl (fun ls hl => ?_)
        refine lv_goto (tgt := 15) hx hb dX1_isSound_32 (by decide) ?_
        have e_ : dk_sound_l kB oB (r + 1) j ac = dk_sound_l kB oB r (j + 1) (ac ^^^ dk_uns kB oB (nI j)) := (dk_sound_l.eq_2 ..).trans rfl
        rw [e_]
        exact ih (j + 1) (ac ^^^ dk_uns kB oB (nI j)) (by omega) ls (lv_sub hl [2, 0, 1] rfl)
    have e_ : dk_sound kB oB = dk_sound_l kB oB 8 0 0 := by unfold dk_sound; exact (if_pos c_6).trans rfl
    rw [e_]
    exact lp 8 0 0 (by omega) ls (lv_sub hl [2, 0, 1] rfl)
  · refine lv_iconst (v := 0) hx hb dX1_isSound_9 (by decide) ?_
    have e_ : dk_sound kB oB = (0 : Int32) := by unfold dk_sound; exact (if_neg c_6).trans rfl
    rw [e_]
    exact W.zret (v := 0) hx hb hr (by decide) (fun t ht hW => ⟨rfl, ht⟩) (fun q h => absurd h List.not_mem_nil) dX1_isSound_10
def dk_sender (kB : Int32) (oB : Nat → Int8) : Int32 :=
  dk_uns kB oB 0
def rm_X1_sender : Room := { frames := 2, cells := 0, slots := 0, locals := 42 }
set_option maxHeartbeats 4000000 in
set_option maxRecDepth 100000 in
theorem c_X1_sender (l : Launch) (dC : Nat → ClassId) (dI : Nat → Nat → Nat) (cK : ClassId) (cB : ClassId) (cI : ClassId) (o : Nat) (ks : Nat) (fa : Nat) (oa : Nat) (fb : Nat) (ob : Nat) (dr : Nat) (ds : Nat) (L : Nat → Nat) (n : Nat) (sp : Int32) (co : Nat) (en : Nat) (cr : Int32) (rl : Int32) (qs : Int32) (kA : Int32) (oA : Nat → Int8) (kB : Int32) (oB : Nat → Int8) (tt : Int64) (ss : Int64) (st : Nat → Int32) (K : Nat → KR) : Met l yX1_sender wsX1_sender rm_X1_sender (up_P (dC, dI) vwCl (dkT cK cB cI) (dkW cK cB cI o ks fa oa fb ob dr ds L n sp co en cr rl qs kA oA kB oB tt ss st K) [.ref fb]) (k2_QcV (.int (dk_sender kB oB))) 0 0 (fun _ => False) := by
  refine Met.ofW (cc := cX1_sender) (maxL := 1) (ret := (some .int)) (by decide) rfl ?_
  intro p e s m args below meth c s₁ B hml hv
  obtain ⟨rfl, hP, hK, hD0⟩ := hv
  have hx := B.exec
  have hb := B.bytes
  have hr := B.returns
  have hts := atoms_spec (ws := wsX1_sender) B.pre
  have hown : s.vm.findClass RX1 = some m.cls := findClass_of_methodNamed B.named
  have hlocks := B.notSynchronized
  have hD := up_self hD0
  have hS : va_S (up_c (dkW cK cB cI o ks fa oa fb ob dr ds L n sp co en cr rl qs kA oA kB oB tt ss st K)) s.heap s.heap [] := va_S.rf
  have hl := lv_entry ([.ref fb]) (n := 1) (Nat.le_of_ble_eq_true rfl)
  rw [lg_entry_eq]
  generalize (lg_sl ([.ref fb]) ++ List.replicate (1 - (lg_sl ([.ref fb])).length) Slot.unset).toArray = ls at hl ⊢
  have hl : lv_has ls 1 [(0, .ref fb)] := hl
  refine lv_aload_n hx hb dX1_sender_0 rfl (lv_at hl 0 rfl) ?_
  refine lv_iconst (v := 0) hx hb dX1_sender_1 (by decide) ?_
  refine up_read (W.runV (As := [.int 0]) (rest := []) ⟨hx, hb, hml, hown, hts⟩ (c_X1_unsigned l dC dI cK cB cI o ks fa oa fb ob dr ds L n sp co en cr rl qs kA oA kB oB tt ss st K 0) (cwV 1 hts gX1_sender_X1_unsigned rfl rfl rfl (by decide +kernel) ⟨Nat.le_of_ble_eq_true rfl, Nat.le_of_ble_eq_true rfl⟩) (up_preV (q0 := 4) (ci := 2) hP hK hD rfl rfl) rfl rfl hl.1 rfl (lv_room (Nat.le_of_ble_eq_true rfl)) dX1_sender_2 ⟨Nat.le_of_ble_eq_true rfl, Nat.le_of_ble_eq_true rfl⟩) ?_
  have e_ : dk_sender kB oB = dk_uns kB oB 0 := by unfold dk_sender; exact rfl
  rw [e_]
  exact W.iret (v := dk_uns kB oB 0) hx hb hr (fun t ht hW => ⟨rfl, ht⟩) (fun q h => absurd h List.not_mem_nil) dX1_sender_5
def dk_command (kB : Int32) (oB : Nat → Int8) : Int32 :=
  dk_uns kB oB 1
def rm_X1_command : Room := { frames := 2, cells := 0, slots := 0, locals := 42 }
set_option maxHeartbeats 4000000 in
set_option maxRecDepth 100000 in
theorem c_X1_command (l : Launch) (dC : Nat → ClassId) (dI : Nat → Nat → Nat) (cK : ClassId) (cB : ClassId) (cI : ClassId) (o : Nat) (ks : Nat) (fa : Nat) (oa : Nat) (fb : Nat) (ob : Nat) (dr : Nat) (ds : Nat) (L : Nat → Nat) (n : Nat) (sp : Int32) (co : Nat) (en : Nat) (cr : Int32) (rl : Int32) (qs : Int32) (kA : Int32) (oA : Nat → Int8) (kB : Int32) (oB : Nat → Int8) (tt : Int64) (ss : Int64) (st : Nat → Int32) (K : Nat → KR) : Met l yX1_command wsX1_command rm_X1_command (up_P (dC, dI) vwCl (dkT cK cB cI) (dkW cK cB cI o ks fa oa fb ob dr ds L n sp co en cr rl qs kA oA kB oB tt ss st K) [.ref fb]) (k2_QcV (.int (dk_command kB oB))) 0 0 (fun _ => False) := by
  refine Met.ofW (cc := cX1_command) (maxL := 1) (ret := (some .int)) (by decide) rfl ?_
  intro p e s m args below meth c s₁ B hml hv
  obtain ⟨rfl, hP, hK, hD0⟩ := hv
  have hx := B.exec
  have hb := B.bytes
  have hr := B.returns
  have hts := atoms_spec (ws := wsX1_command) B.pre
  have hown : s.vm.findClass RX1 = some m.cls := findClass_of_methodNamed B.named
  have hlocks := B.notSynchronized
  have hD := up_self hD0
  have hS : va_S (up_c (dkW cK cB cI o ks fa oa fb ob dr ds L n sp co en cr rl qs kA oA kB oB tt ss st K)) s.heap s.heap [] := va_S.rf
  have hl := lv_entry ([.ref fb]) (n := 1) (Nat.le_of_ble_eq_true rfl)
  rw [lg_entry_eq]
  generalize (lg_sl ([.ref fb]) ++ List.replicate (1 - (lg_sl ([.ref fb])).length) Slot.unset).toArray = ls at hl ⊢
  have hl : lv_has ls 1 [(0, .ref fb)] := hl
  refine lv_aload_n hx hb dX1_command_0 rfl (lv_at hl 0 rfl) ?_
  refine lv_iconst (v := 1) hx hb dX1_command_1 (by decide) ?_
  refine up_read (W.runV (As := [.int 1]) (rest := []) ⟨hx, hb, hml, hown, hts⟩ (c_X1_unsigned l dC dI cK cB cI o ks fa oa fb ob dr ds L n sp co en cr rl qs kA oA kB oB tt ss st K 1) (cwV 1 hts gX1_command_X1_unsigned rfl rfl rfl (by decide +kernel) ⟨Nat.le_of_ble_eq_true rfl, Nat.le_of_ble_eq_true rfl⟩) (up_preV (q0 := 4) (ci := 2) hP hK hD rfl rfl) rfl rfl hl.1 rfl (lv_room (Nat.le_of_ble_eq_true rfl)) dX1_command_2 ⟨Nat.le_of_ble_eq_true rfl, Nat.le_of_ble_eq_true rfl⟩) ?_
  have e_ : dk_command kB oB = dk_uns kB oB 1 := by unfold dk_command; exact rfl
  rw [e_]
  exact W.iret (v := dk_uns kB oB 1) hx hb hr (fun t ht hW => ⟨rfl, ht⟩) (fun q h => absurd h List.not_mem_nil) dX1_command_5
def dk_flags (kB : Int32) (oB : Nat → Int8) : Int32 :=
  dk_uns kB oB 6
def rm_X1_flags : Room := { frames := 2, cells := 0, slots := 0, locals := 42 }
set_option maxHeartbeats 4000000 in
set_option maxRecDepth 100000 in
theorem c_X1_flags (l : Launch) (dC : Nat → ClassId) (dI : Nat → Nat → Nat) (cK : ClassId) (cB : ClassId) (cI : ClassId) (o : Nat) (ks : Nat) (fa : Nat) (oa : Nat) (fb : Nat) (ob : Nat) (dr : Nat) (ds : Nat) (L : Nat → Nat) (n : Nat) (sp : Int32) (co : Nat) (en : Nat) (cr : Int32) (rl : Int32) (qs : Int32) (kA : Int32) (oA : Nat → Int8) (kB : Int32) (oB : Nat → Int8) (tt : Int64) (ss : Int64) (st : Nat → Int32) (K : Nat → KR) : Met l yX1_flags wsX1_flags rm_X1_flags (up_P (dC, dI) vwCl (dkT cK cB cI) (dkW cK cB cI o ks fa oa fb ob dr ds L n sp co en cr rl qs kA oA kB oB tt ss st K) [.ref fb]) (k2_QcV (.int (dk_flags kB oB))) 0 0 (fun _ => False) := by
  refine Met.ofW (cc := cX1_flags) (maxL := 1) (ret := (some .int)) (by decide) rfl ?_
  intro p e s m args below meth c s₁ B hml hv
  obtain ⟨rfl, hP, hK, hD0⟩ := hv
  have hx := B.exec
  have hb := B.bytes
  have hr := B.returns
  have hts := atoms_spec (ws := wsX1_flags) B.pre
  have hown : s.vm.findClass RX1 = some m.cls := findClass_of_methodNamed B.named
  have hlocks := B.notSynchronized
  have hD := up_self hD0
  have hS : va_S (up_c (dkW cK cB cI o ks fa oa fb ob dr ds L n sp co en cr rl qs kA oA kB oB tt ss st K)) s.heap s.heap [] := va_S.rf
  have hl := lv_entry ([.ref fb]) (n := 1) (Nat.le_of_ble_eq_true rfl)
  rw [lg_entry_eq]
  generalize (lg_sl ([.ref fb]) ++ List.replicate (1 - (lg_sl ([.ref fb])).length) Slot.unset).toArray = ls at hl ⊢
  have hl : lv_has ls 1 [(0, .ref fb)] := hl
  refine lv_aload_n hx hb dX1_flags_0 rfl (lv_at hl 0 rfl) ?_
  refine lv_bipush (v := 6) hx hb dX1_flags_1 (by decide) ?_
  refine up_read (W.runV (As := [.int 6]) (rest := []) ⟨hx, hb, hml, hown, hts⟩ (c_X1_unsigned l dC dI cK cB cI o ks fa oa fb ob dr ds L n sp co en cr rl qs kA oA kB oB tt ss st K 6) (cwV 1 hts gX1_flags_X1_unsigned rfl rfl rfl (by decide +kernel) ⟨Nat.le_of_ble_eq_true rfl, Nat.le_of_ble_eq_true rfl⟩) (up_preV (q0 := 4) (ci := 2) hP hK hD rfl rfl) rfl rfl hl.1 rfl (lv_room (Nat.le_of_ble_eq_true rfl)) dX1_flags_3 ⟨Nat.le_of_ble_eq_true rfl, Nat.le_of_ble_eq_true rfl⟩) ?_
  have e_ : dk_flags kB oB = dk_uns kB oB 6 := by unfold dk_flags; exact rfl
  rw [e_]
  exact W.iret (v := dk_uns kB oB 6) hx hb hr (fun t ht hW => ⟨rfl, ht⟩) (fun q h => absurd h List.not_mem_nil) dX1_flags_6
def dk_code_l (kB : Int32) (oB : Nat → Int8) : Nat → Nat → Int64 → Int64
  | 0, _, ac =>
    ac
  | r + 1, j, ac =>
    dk_code_l kB oB r (j + 1) ((ac * 256) + (dk_uns kB oB (nI (j + 2))).toInt64)
def dk_code (kB : Int32) (oB : Nat → Int8) : Int64 :=
  dk_code_l kB oB 4 0 0
def rm_X1_code : Room := { frames := 2, cells := 0, slots := 0, locals := 42 }
set_option maxHeartbeats 4000000 in
set_option maxRecDepth 100000 in
theorem c_X1_code (l : Launch) (dC : Nat → ClassId) (dI : Nat → Nat → Nat) (cK : ClassId) (cB : ClassId) (cI : ClassId) (o : Nat) (ks : Nat) (fa : Nat) (oa : Nat) (fb : Nat) (ob : Nat) (dr : Nat) (ds : Nat) (L : Nat → Nat) (n : Nat) (sp : Int32) (co : Nat) (en : Nat) (cr : Int32) (rl : Int32) (qs : Int32) (kA : Int32) (oA : Nat → Int8) (kB : Int32) (oB : Nat → Int8) (tt : Int64) (ss : Int64) (st : Nat → Int32) (K : Nat → KR) : Met l yX1_code wsX1_code rm_X1_code (up_P (dC, dI) vwCl (dkT cK cB cI) (dkW cK cB cI o ks fa oa fb ob dr ds L n sp co en cr rl qs kA oA kB oB tt ss st K) [.ref fb]) (k2_QcV (.long (dk_code kB oB))) 0 0 (fun _ => False) := by
  refine Met.ofW (cc := cX1_code) (maxL := 4) (ret := (some .long)) (by decide) rfl ?_
  intro p e s m args below meth c s₁ B hml hv
  obtain ⟨rfl, hP, hK, hD0⟩ := hv
  have hx := B.exec
  have hb := B.bytes
  have hr := B.returns
  have hts := atoms_spec (ws := wsX1_code) B.pre
  have hown : s.vm.findClass RX1 = some m.cls := findClass_of_methodNamed B.named
  have hlocks := B.notSynchronized
  have hD := up_self hD0
  have hS : va_S (up_c (dkW cK cB cI o ks fa oa fb ob dr ds L n sp co en cr rl qs kA oA kB oB tt ss st K)) s.heap s.heap [] := va_S.rf
  have hl := lv_entry ([.ref fb]) (n := 4) (Nat.le_of_ble_eq_true rfl)
  rw [lg_entry_eq]
  generalize (lg_sl ([.ref fb]) ++ List.replicate (4 - (lg_sl ([.ref fb])).length) Slot.unset).toArray = ls at hl ⊢
  have hl : lv_has ls 4 [(0, .ref fb)] := hl
  refine lv_lconst (v := 0) hx hb dX1_code_0 (by decide) ?_
  refine lv_lstore_n (lv' := [(1, .long 0), (0, .ref fb)]) hx hb dX1_code_1 rfl hl (by decide) rfl (fun ls hl => ?_)
  refine lv_iconst (v := 2) hx hb dX1_code_2 (by decide) ?_
  refine lv_istore_n (lv' := [(3, .int 2), (1, .long 0), (0, .ref fb)]) hx hb dX1_code_3 rfl hl (by decide) rfl (fun ls hl => ?_)
  have lp : ∀ (r j : Nat) (ac : Int64) , j + r = 4 → ∀ ls : Array Slot, lv_has ls 4 [(0, .ref fb), (3, .int (nI (j + 2))), (1, .long ac)] → W p l e (headSpec wsX1_code rm_X1_code).room s m ([.ref fb] : List Value).toArray below meth c s.heap [] 0 0 (MQ below (k2_QcV (.long (dk_code_l kB oB r j ac))) ([.ref fb] : List Value).toArray s 0 0 (fun _ => False)) (F0 m 4 ls []) := by
    intro r
    induction r with
    | zero =>
      intro j ac hj ls hl
      refine lv_iload_n hx hb dX1_code_4 rfl (lv_at hl 1 rfl) ?_
      refine lv_iconst (v := 5) hx hb dX1_code_5 (by decide) ?_
      refine lv_icmp_gt (tgt := 28) hx hb dX1_code_6 (by decide) (fun c_6 => ?_) (fun c_6 => (c_6 (nI_lt (a := 5) (b := (j + 2)) (by omega) (by omega))).elim)
      refine lv_lload_n hx hb dX1_code_28 rfl (lv_at hl 2 rfl) ?_
      have e_ : dk_code_l kB oB 0 j ac = ac := (dk_code_l.eq_1 ..).trans rfl
      rw [e_]
      exact W.lret (v := ac) hx hb hr (fun t ht hW => ⟨rfl, ht⟩) (fun q h => absurd h List.not_mem_nil) dX1_code_29
    | succ r ih =>
      intro j ac hj ls hl
      refine lv_iload_n hx hb dX1_code_4 rfl (lv_at hl 1 rfl) ?_
      refine lv_iconst (v := 5) hx hb dX1_code_5 (by decide) ?_
      refine lv_icmp_gt (tgt := 28) hx hb dX1_code_6 (by decide) (fun c_6 => (nI_nlt (a := 5) (b := (j + 2)) (by omega) (by omega) c_6).elim) (fun c_6 => ?_)
      refine lv_lload_n hx hb dX1_code_9 rfl (lv_at hl 2 rfl) ?_
      refine lv_ldc2 (v := 256) hx hb hown (hts (.constantLong RX1 21 256) (by decide +kernel)) dX1_code_10 ?_
      refine lv_lmul hx hb dX1_code_13 ?_
      refine lv_aload_n hx hb dX1_code_14 rfl (lv_at hl 0 rfl) ?_
      refine lv_iload_n hx hb dX1_code_15 rfl (lv_at hl 1 rfl) ?_
      refine up_read (W.runV (As := [.int (nI (j + 2))]) (rest := [.long (ac * 256)]) ⟨hx, hb, hml, hown, hts⟩ (c_X1_unsigned l dC dI cK cB cI o ks fa oa fb ob dr ds L n sp co en cr rl qs kA oA kB oB tt ss st K (nI (j + 2))) (cwV 1 hts gX1_code_X1_unsigned rfl rfl rfl (by decide +kernel) ⟨Nat.le_of_ble_eq_true rfl, Nat.le_of_ble_eq_true rfl⟩) (up_preV (q0 := 4) (ci := 2) hP hK hD rfl rfl) rfl rfl hl.1 rfl (lv_room (Nat.le_of_ble_eq_true rfl)) dX1_code_16 ⟨Nat.le_of_ble_eq_true rfl, Nat.le_of_ble_eq_true rfl⟩) ?_
      refine lv_i2l (v := (dk_uns kB oB (nI (j + 2))).toInt64) hx hb dX1_code_19 rfl ?_
      refine lv_ladd hx hb dX1_code_20 ?_
      refine lv_lstore_n (lv' := [(1, .long ((ac * 256) + (dk_uns kB oB (nI (j + 2))).toInt64)), (0, .ref fb), (3, .int (nI (j + 2)))]) hx hb dX1_code_21 rfl hl (by decide) rfl (fun ls hl => ?_)
      refine lv_iinc (v := (nI ((j + 2) + 1))) (lv' := [(3, .int (nI ((j + 2) + 1))), (1, .long ((ac * 256) + (dk_uns kB oB (nI (j + 2))).toInt64)), (0, .ref fb)]) hx hb dX1_code_22 hl (k := 2) rfl (nI_1 _) (by decide) rfl (fun ls hl => ?_)
      refine lv_goto (tgt := 4) hx hb dX1_code_25 (by decide) ?_
      have e_ : dk_code_l kB oB (r + 1) j ac = dk_code_l kB oB r (j + 1) ((ac * 256) + (dk_uns kB oB (nI (j + 2))).toInt64) := (dk_code_l.eq_2 ..).trans rfl
      rw [e_]
      exact ih (j + 1) ((ac * 256) + (dk_uns kB oB (nI (j + 2))).toInt64) (by omega) ls (lv_sub hl [2, 0, 1] rfl)
  have e_ : dk_code kB oB = dk_code_l kB oB 4 0 0 := by unfold dk_code; exact rfl
  rw [e_]
  exact lp 4 0 0 (by omega) ls (lv_sub hl [2, 0, 1] rfl)
