/-! Class and reference: the same key, and the small calls. -/
theorem pu_none {n : Nat} {x : Int32} : md_none n x = 0 ↔ dk_fkP n x := by
  unfold md_none dk_fkP
  by_cases h1 : x < 1
  · rw [if_pos h1]
    exact ⟨fun h => absurd h (by decide), fun h => absurd h1 h.1⟩
  · rw [if_neg h1]
    by_cases h2 : x ≤ nI n
    · rw [if_pos h2]
      exact ⟨fun _ => ⟨h1, Int32.not_lt.mpr h2⟩, fun _ => rfl⟩
    · rw [if_neg h2]
      exact ⟨fun h => absurd h (by decide), fun h => absurd (Int32.not_lt.mp h.2) h2⟩
theorem pu_key {n : Nat} {K : Nat → KR} {se : Nat → Int64} {ct aw le ne ins ba : Nat → Int32} (hn : n ≤ 8) (h : rl_K n K se ct aw le ne ins ba) {x : Int32} (hx : dk_fkP n x) :
    ∃ j : Nat, j < n ∧ x = nI (j + 1) ∧ dk_fki x = j ∧ x.toNatClampNeg = j + 1 ∧ K j = (se (j + 1), ct (j + 1), aw (j + 1), le (j + 1), ne (j + 1), ins (j + 1), ba (j + 1)) ∧ ∃ c : Nat, c < 65536 ∧ ct (j + 1) = nI c := by
  obtain ⟨j, hj, e⟩ := dk_fk_ex hn hx
  refine ⟨j, hj, e, ?_, ?_, (h.1 j hj).1, (h.1 j hj).2⟩
  · rw [e]; exact dk_fki_nI (by omega)
  · rw [e]; exact nI_clamp (by omega)
theorem pu_Kset {n : Nat} {K : Nat → KR} {se se' : Nat → Int64} {ct aw le ne ins ba ct' aw' le' ne' ins' ba' : Nat → Int32} (h : rl_K n K se ct aw le ne ins ba) {j : Nat} (hj : j < n) {v : KR}
    (hv : v = (se' (j + 1), ct' (j + 1), aw' (j + 1), le' (j + 1), ne' (j + 1), ins' (j + 1), ba' (j + 1))) (hc : ∃ c : Nat, c < 65536 ∧ ct' (j + 1) = nI c)
    (ho : ∀ i, i ≠ j + 1 → se' i = se i ∧ ct' i = ct i ∧ aw' i = aw i ∧ le' i = le i ∧ ne' i = ne i ∧ ins' i = ins i ∧ ba' i = ba i) : rl_K n (va_up K j v) se' ct' aw' le' ne' ins' ba' := by
  refine ⟨fun i hi => ?_, fun i hi => ?_⟩
  · by_cases e : i = j
    · subst e
      refine ⟨?_, hc⟩
      show va_up K i v i = _
      unfold va_up
      rw [if_pos rfl]
      exact hv
    · obtain ⟨a1, a2, a3, a4, a5, a6, a7⟩ := ho (i + 1) (by omega)
      rw [a1, a2, a3, a4, a5, a6, a7]
      refine ⟨?_, (h.1 i hi).2⟩
      rw [← (h.1 i hi).1]
      unfold va_up
      rw [if_neg e]
  · obtain ⟨a1, a2, a3, a4, a5, a6, a7⟩ := ho (i + 1) (by omega)
    rw [a5, a6, a7]
    exact h.2 i hi
theorem pr_counter {n N : Nat} {st dd : Nat → Int32} {K : Nat → KR} {se : Nat → Int64} {ct aw le ne ins ba : Nat → Int32} {kA : Int32} {oA : Nat → Int8} {gv : Nat} {un : Nat → Int32} {kB : Int32} {oB : Nat → Int8} {sz : Nat} {fr : Nat → Int32} (hR : lw_R n N st dd K se ct aw le ne ins ba kA oA gv un kB oB sz fr) (x : Int32)  : (dk_counter n K x) = (md_counter n ct x) ∧ lw_R n (N + 1) st dd K se ct aw le ne ins ba kA oA gv un kB oB sz fr := by
  refine ⟨?_, hR.up (by omega)⟩
  unfold dk_counter md_counter
  by_cases hx : dk_fkP n x
  · rw [if_pos hx, if_pos (pu_none.mpr hx)]
    obtain ⟨j, hj, e, e1, e2, e3, _⟩ := pu_key hR.1 hR.2.2.2.1 hx
    rw [e1, e2, e3]
  · rw [if_neg hx, if_neg (fun h => hx (pu_none.mp h))]
theorem pr_battery {n N : Nat} {st dd : Nat → Int32} {K : Nat → KR} {se : Nat → Int64} {ct aw le ne ins ba : Nat → Int32} {kA : Int32} {oA : Nat → Int8} {gv : Nat} {un : Nat → Int32} {kB : Int32} {oB : Nat → Int8} {sz : Nat} {fr : Nat → Int32} (hR : lw_R n N st dd K se ct aw le ne ins ba kA oA gv un kB oB sz fr) (x : Int32)  : (dk_battery n K x) = (md_battery n ba x) ∧ lw_R n (N + 1) st dd K se ct aw le ne ins ba kA oA gv un kB oB sz fr := by
  refine ⟨?_, hR.up (by omega)⟩
  unfold dk_battery md_battery
  by_cases hx : dk_fkP n x
  · rw [if_pos hx, if_pos (pu_none.mpr hx)]
    obtain ⟨j, hj, e, e1, e2, e3, _⟩ := pu_key hR.1 hR.2.2.2.1 hx
    rw [e1, e2, e3]
  · rw [if_neg hx, if_neg (fun h => hx (pu_none.mp h))]
theorem pu_dhas {x : Int32} (h0 : ¬ x < 0) (h5 : x ≤ 6) (h1 : ¬ x = 5) (h2 : ¬ x = 6) : ∃ j : Nat, j < 5 ∧ x = nI j := by
  obtain ⟨j, hj, e⟩ := nI_of2 (M := 6) (n := 6) (by decide) h0 h5
  subst e
  refine ⟨j, ?_, rfl⟩
  have a1 : j ≠ 5 := fun h => h1 (by rw [h]; rfl)
  have a2 : j ≠ 6 := fun h => h2 (by rw [h]; rfl)
  omega
theorem pr_state {n N : Nat} {st dd : Nat → Int32} {K : Nat → KR} {se : Nat → Int64} {ct aw le ne ins ba : Nat → Int32} {kA : Int32} {oA : Nat → Int8} {gv : Nat} {un : Nat → Int32} {kB : Int32} {oB : Nat → Int8} {sz : Nat} {fr : Nat → Int32} (hR : lw_R n N st dd K se ct aw le ne ins ba kA oA gv un kB oB sz fr) (rl qs : Int32) (x : Int32)  : (dk_state rl qs st x) = (md_state dd rl qs x) ∧ lw_R n (N + 1) st dd K se ct aw le ne ins ba kA oA gv un kB oB sz fr := by
  refine ⟨?_, hR.up (by omega)⟩
  unfold dk_state md_state
  by_cases h0 : x < 0
  · have h5 : ¬ x = 5 := fun h => by subst h; exact absurd h0 (by decide)
    have h6 : ¬ x = 6 := fun h => by subst h; exact absurd h0 (by decide)
    have hd : dk_dhas x = 0 := by unfold dk_dhas; rw [if_pos h0]
    rw [if_neg h5, if_neg h6, if_pos hd, if_pos h0]
  · rw [if_neg h0]
    by_cases h5 : x = 5
    · rw [if_pos h5, if_pos (by subst h5; decide), if_pos h5]
    · rw [if_neg h5]
      by_cases h6 : x = 6
      · rw [if_pos h6, if_pos (by subst h6; decide), if_neg h5, if_pos h6]
      · rw [if_neg h6]
        by_cases hl : x ≤ 6
        · rw [if_pos hl, if_neg h5, if_neg h6]
          obtain ⟨j, hj, e⟩ := pu_dhas h0 hl h5 h6
          have hd : ¬ dk_dhas x = 0 := by
            unfold dk_dhas
            rw [if_neg h0, if_neg (by rw [e]; exact nI_ge (b := 5) hj (by decide))]
            decide
          rw [if_neg hd, e, nI_clamp (by omega)]
          exact (hR.2.2.1 j hj).1
        · rw [if_neg hl]
          have hd : dk_dhas x = 0 := by
            unfold dk_dhas
            rw [if_neg h0]
            have h7 : (5 : Int32) ≤ x := by
              have := Int32.not_le.mp hl
              rw [Int32.lt_iff_toInt_lt] at this
              rw [Int32.le_iff_toInt_le]
              have a1 : (6 : Int32).toInt = 6 := by decide
              have a2 : (5 : Int32).toInt = 5 := by decide
              omega
            rw [if_pos h7]
          rw [if_pos hd]
theorem pu_any_eq {st dd : Nat → Int32} (h : ∀ j, j < 5 → st j = dd j) (x : Int32) : dk_any st x = md_some dd x := by
  have e0 : (nI 0).toNatClampNeg = 0 := nI_clamp (by omega)
  have e1 : (nI 1).toNatClampNeg = 1 := nI_clamp (by omega)
  have e2 : (nI 2).toNatClampNeg = 2 := nI_clamp (by omega)
  have e3 : (nI 3).toNatClampNeg = 3 := nI_clamp (by omega)
  have e4 : (nI 4).toNatClampNeg = 4 := nI_clamp (by omega)
  unfold dk_any md_some
  simp only [dk_any_l, md_some_l, e0, e1, e2, e3, e4, Nat.zero_add, Nat.reduceAdd, h 0 (by omega), h 1 (by omega), h 2 (by omega), h 3 (by omega), h 4 (by omega)]
  have z0 : nI 0 = 0 := rfl
  have z1 : ¬ nI 1 = 0 := by decide
  simp only [z0, z1, if_true, if_false]
  by_cases a0 : dd 0 = x
  · simp only [if_pos a0]; rfl
  · by_cases a1 : dd 1 = x
    · simp only [if_neg a0, if_pos a1]; rfl
    · by_cases a2 : dd 2 = x
      · simp only [if_neg a0, if_neg a1, if_pos a2]; rfl
      · by_cases a3 : dd 3 = x
        · simp only [if_neg a0, if_neg a1, if_neg a2, if_pos a3]; rfl
        · simp only [if_neg a0, if_neg a1, if_neg a2, if_neg a3]; rfl
theorem pu_2930 (z : Int64) : lg_cmp z 30 < 0 ↔ lg_cmp z 29 ≤ 0 := by
  rw [lg_cmp_lt, lg_cmp_le, Int64.lt_iff_toInt_lt, Int64.le_iff_toInt_le]
  have a1 : (30 : Int64).toInt = 30 := by decide
  have a2 : (29 : Int64).toInt = 29 := by decide
  omega
theorem pr_alarm {n N : Nat} {st dd : Nat → Int32} {K : Nat → KR} {se : Nat → Int64} {ct aw le ne ins ba : Nat → Int32} {kA : Int32} {oA : Nat → Int8} {gv : Nat} {un : Nat → Int32} {kB : Int32} {oB : Nat → Int8} {sz : Nat} {fr : Nat → Int32} (hR : lw_R n N st dd K se ct aw le ne ins ba kA oA gv un kB oB sz fr) (tt ss : Int64) (x : Int32) (y : Int64)  : (dk_alarm st tt ss x y).1 = (md_alarm dd tt ss x y).1 ∧ (dk_alarm st tt ss x y).2 = (md_alarm dd tt ss x y).2 ∧ lw_R n (N + 1) st dd K se ct aw le ne ins ba kA oA gv un kB oB sz fr := by
  have ha : dk_any st 0 = md_some dd 0 := pu_any_eq (fun j hj => (hR.2.2.1 j hj).1) 0
  have hh : dk_alarm st tt ss x y = md_alarm dd tt ss x y := by
    unfold dk_alarm md_alarm
    by_cases h0 : x < 0
    · rw [if_pos h0, if_pos h0]
    · rw [if_neg h0, if_neg h0]
      by_cases h7 : x ≤ 7
      · rw [if_pos h7, if_pos h7]
        by_cases h8 : 0 ≤ lg_cmp y tt
        · rw [if_pos h8, if_pos h8]
          unfold dk_guard
          rw [ha]
          by_cases h9 : md_some dd 0 = 0
          · rw [if_pos h9, if_pos h9]
            by_cases h10 : lg_cmp (y - ss) 30 < 0
            · rw [if_pos h10, if_pos ((pu_2930 _).mp h10), if_pos rfl]
            · rw [if_neg h10, if_neg (fun h => h10 ((pu_2930 _).mpr h)), if_neg (by decide)]
          · rw [if_neg h9, if_neg h9, if_pos rfl]
        · rw [if_neg h8, if_neg h8]
      · rw [if_neg h7, if_neg h7]
  rw [hh]
  exact ⟨rfl, rfl, hR.up (by omega)⟩
theorem pu_fhas {kB x : Int32} {sz : Nat} (hs : sz ≤ 16) (hk : kB = nI (min sz 16)) : dk_fhas kB x = 0 ↔ (x < 0 ∨ ¬ x < nI sz) := by
  rw [Nat.min_eq_left hs] at hk
  subst hk
  unfold dk_fhas
  by_cases h0 : x < 0
  · simp [h0]
  · rw [if_neg h0]
    obtain ⟨j, hj, e⟩ := nI_of h0
    subst e
    by_cases h1 : sz ≤ j
    · rw [if_pos (nI_le h1 hj)]
      exact ⟨fun _ => Or.inr (nI_nlt h1 hj), fun _ => rfl⟩
    · rw [if_neg (nI_ge (by omega) (by omega)), if_neg (show ¬ (16 : Int32) ≤ nI j from nI_ge (a := j) (b := 16) (by omega) (by decide))]
      refine ⟨fun h => absurd h (by decide), fun h => ?_⟩
      rcases h with h | h
      · exact absurd h h0
      · exact absurd (nI_lt (by omega) (by omega)) h
theorem pr_octN {n N : Nat} {st dd : Nat → Int32} {K : Nat → KR} {se : Nat → Int64} {ct aw le ne ins ba : Nat → Int32} {kA : Int32} {oA : Nat → Int8} {gv : Nat} {un : Nat → Int32} {kB : Int32} {oB : Nat → Int8} {sz : Nat} {fr : Nat → Int32} (hR : lw_R n N st dd K se ct aw le ne ins ba kA oA gv un kB oB sz fr) (x : Int32) (hf : dk_fhas kB x = 0) : (md_octet sz fr x).2 = 1 := by
  unfold md_octet
  rcases (pu_fhas hR.2.2.2.2.2.1 hR.2.2.2.2.2.2.1).mp hf with h | h
  · rw [if_pos h]
  · by_cases h0 : x < 0
    · rw [if_pos h0]
    · rw [if_neg h0, if_neg h]
theorem pu_b8 : ∀ b : Int8, ((b.toInt32 &&& 255).toInt8.toInt32) = b.toInt32 := by
  intro b
  have h : b = Int8.ofNat b.toBitVec.toNat := by
    apply Int8.toBitVec_inj.mp
    simp [Int8.ofNat]
  rw [h]
  exact sc_b8 _ b.toBitVec.isLt
theorem pr_octY {n N : Nat} {st dd : Nat → Int32} {K : Nat → KR} {se : Nat → Int64} {ct aw le ne ins ba : Nat → Int32} {kA : Int32} {oA : Nat → Int8} {gv : Nat} {un : Nat → Int32} {kB : Int32} {oB : Nat → Int8} {sz : Nat} {fr : Nat → Int32} (hR : lw_R n N st dd K se ct aw le ne ins ba kA oA gv un kB oB sz fr) (x : Int32) (hf : ¬ dk_fhas kB x = 0) : (md_octet sz fr x).2 = 0 ∧ (dk_oct oB x).toInt64 = ((md_octet sz fr x).1).toInt64 := by
  have h9 : ¬ (x < 0 ∨ ¬ x < nI sz) := fun h => hf ((pu_fhas hR.2.2.2.2.2.1 hR.2.2.2.2.2.2.1).mpr h)
  have h0 : ¬ x < 0 := fun h => h9 (Or.inl h)
  have h1 : x < nI sz := Classical.byContradiction fun h => h9 (Or.inr h)
  unfold md_octet dk_oct
  rw [if_neg h0, if_pos h1]
  refine ⟨rfl, ?_⟩
  obtain ⟨j, hj, e⟩ := nI_of h0
  have hs := hR.2.2.2.2.2.1
  subst e
  have hjs : j < sz := Classical.byContradiction fun h => nI_nlt (by omega) hj h1
  rw [nI_clamp hj]
  show _ = ((fr j).toInt8.toInt32).toInt64
  rw [hR.2.2.2.2.2.2.2 j hjs (by omega), pu_b8]
