/-! Class and reference: learn, erase, key, an octet that ends nothing. -/
theorem pu_here {K : Nat → KR} {se : Nat → Int64} {ct aw le ne ins ba : Nat → Int32} {j : Nat} (hK : K j = (se (j + 1), ct (j + 1), aw (j + 1), le (j + 1), ne (j + 1), ins (j + 1), ba (j + 1))) {x : Int32} (hx : x.toNatClampNeg = j + 1) : dk_teach (K j) = md_here le ne ins x := by
  unfold dk_teach md_here dk_hand
  rw [hK, hx]
  by_cases h1 : le (j + 1) = 0
  · simp only [h1, if_true]
  · simp only [h1, if_false]
    by_cases h2 : ne (j + 1) = 0
    · simp only [h2, if_true]
      by_cases h3 : ins (j + 1) = 0
      · simp only [h3, if_true]
      · simp only [h3, if_false]; rfl
    · simp only [h2, if_false]; rfl
theorem pr_learn {n N : Nat} {st dd : Nat → Int32} {K : Nat → KR} {se : Nat → Int64} {ct aw le ne ins ba : Nat → Int32} {kA : Int32} {oA : Nat → Int8} {gv : Nat} {un : Nat → Int32} {kB : Int32} {oB : Nat → Int8} {sz : Nat} {fr : Nat → Int32} (hR : lw_R n N st dd K se ct aw le ne ins ba kA oA gv un kB oB sz fr) (x y u : Int32)  : (dk_learn n K x y u).1 = (md_learn n le ne ins x y u).1 ∧ lw_R n (N + 1) st dd ((dk_learn n K x y u).2) se ct aw ((md_learn n le ne ins x y u).2) ne ins ba kA oA gv un kB oB sz fr := by
  have hn := hR.1
  have hK := hR.2.2.2.1
  unfold dk_learn md_learn
  by_cases hx : dk_fkP n x
  · rw [if_pos hx, if_pos (pu_none.mpr hx)]
    by_cases hy : dk_fkP n y
    · rw [if_pos hy, if_pos (pu_none.mpr hy)]
      by_cases hu : dk_fkP n u
      · rw [if_pos hu, if_pos (pu_none.mpr hu)]
        obtain ⟨j, hj, e, e1, e2, e3, e4⟩ := pu_key hn hK hx
        obtain ⟨j2, hj2, e', e1', e2', e3', e4'⟩ := pu_key hn hK hy
        obtain ⟨j3, hj3, e'', e1'', e2'', e3'', e4''⟩ := pu_key hn hK hu
        rw [e1, e1', e1'', e2, pu_here e3' e2', pu_here e3'' e2'', e3]
        show _ ∧ _
        by_cases c1 : le (j + 1) = 0
        · simp only [c1, if_true]
          by_cases c2 : y = u
          · simp only [if_pos c2]
            exact ⟨by trivial, hR.up (by omega)⟩
          · simp only [if_neg c2]
            by_cases c3 : md_here le ne ins y = 0
            · simp only [if_pos c3]
              exact ⟨by trivial, hR.up (by omega)⟩
            · simp only [if_neg c3]
              by_cases c4 : md_here le ne ins u = 0
              · simp only [if_pos c4]
                exact ⟨by trivial, hR.up (by omega)⟩
              · simp only [if_neg c4]
                refine ⟨by trivial, hn, by have := hR.2.1; omega, hR.2.2.1, ?_, hR.2.2.2.2⟩
                refine pu_Kset hK hj (by rw [pk_us]) e4 (fun i hi => ⟨rfl, rfl, rfl, pk_un hi, rfl, rfl, rfl⟩)
        · simp only [if_neg c1]
          exact ⟨by trivial, hR.up (by omega)⟩
      · rw [if_neg hu, if_neg (fun h => hu (pu_none.mp h))]
        exact ⟨by trivial, hR.up (by omega)⟩
    · rw [if_neg hy, if_neg (fun h => hy (pu_none.mp h))]
      simp only [ite_self]
      exact ⟨by trivial, hR.up (by omega)⟩
  · rw [if_neg hx, if_neg (fun h => hx (pu_none.mp h))]
    simp only [ite_self]
    exact ⟨by trivial, hR.up (by omega)⟩
theorem pu_erase {n : Nat} {K : Nat → KR} {se : Nat → Int64} {ct aw le ne ins ba : Nat → Int32} (hn : n ≤ 8) (hK : rl_K n K se ct aw le ne ins ba) (x : Int32) : ∀ (r j : Nat) (ac : Int32), j + r = n → md_erase_l le ne ins x r j ac = md_erase_l le ne ins x 0 0 (dk_lk_l n K r j ac)
  | 0, j, ac, _ => rfl
  | r + 1, j, ac, h => by
    conv => lhs; rw [md_erase_l]
    rw [dk_lk_l, dk_fki_nI (by omega), nI_clamp (by omega), (hK.1 j (by omega)).1]
    by_cases c : le (j + 1) = 0
    · rw [if_pos c, if_pos c]
      exact pu_erase hn hK x r (j + 1) ac (by omega)
    · rw [if_neg c, if_neg c]
      exact pu_erase hn hK x r (j + 1) (ac + 1) (by omega)
theorem pr_erase {n N : Nat} {st dd : Nat → Int32} {K : Nat → KR} {se : Nat → Int64} {ct aw le ne ins ba : Nat → Int32} {kA : Int32} {oA : Nat → Int8} {gv : Nat} {un : Nat → Int32} {kB : Int32} {oB : Nat → Int8} {sz : Nat} {fr : Nat → Int32} (hR : lw_R n N st dd K se ct aw le ne ins ba kA oA gv un kB oB sz fr) (x : Int32)  : (dk_erase n K x).1 = (md_erase n le ne ins x).1 ∧ lw_R n (N + 1) st dd ((dk_erase n K x).2) se ct aw ((md_erase n le ne ins x).2.1) ((md_erase n le ne ins x).2.2.1) ((md_erase n le ne ins x).2.2.2) ba kA oA gv un kB oB sz fr := by
  have hn := hR.1
  have hK := hR.2.2.2.1
  unfold dk_erase md_erase
  by_cases hx : dk_fkP n x
  · rw [if_pos hx, if_pos (pu_none.mpr hx)]
    rw [pu_erase hn hK x n 0 0 (by omega)]
    obtain ⟨j, hj, e, e1, e2, e3, e4⟩ := pu_key hn hK hx
    rw [show dk_lk_l n K n 0 0 = dk_lk n K from rfl, md_erase_l, e1, e2, e3]
    by_cases c1 : le (j + 1) = 0
    · simp only [if_pos c1]
      exact ⟨by trivial, hR.up (by omega)⟩
    · simp only [if_neg c1]
      by_cases c2 : dk_lk n K = 1
      · simp only [if_pos c2]
        exact ⟨by trivial, hR.up (by omega)⟩
      · simp only [if_neg c2]
        refine ⟨by trivial, hn, by have := hR.2.1; omega, hR.2.2.1, ?_, hR.2.2.2.2⟩
        refine pu_Kset hK hj (by rw [pk_us, pk_us, pk_us]) e4 (fun i hi => ⟨rfl, rfl, rfl, pk_un hi, pk_un hi, pk_un hi, rfl⟩)
  · rw [if_neg hx, if_neg (fun h => hx (pu_none.mp h))]
    exact ⟨by trivial, hR.up (by omega)⟩
theorem pu_sec01 (n : Nat) (K : Nat → KR) (x : Int64) : ∀ (r j : Nat), ¬ dk_isSec_l n K x r j = 0 → dk_isSec_l n K x r j = 1
  | 0, j, h => absurd rfl h
  | r + 1, j, h => by
    rw [dk_isSec_l] at h ⊢
    by_cases c : lg_cmp ((K (dk_fki (nI (j + 1)))).1) x = 0
    · rw [if_pos c]
    · rw [if_neg c] at h ⊢
      exact pu_sec01 n K x r (j + 1) h
theorem pu_keyl {n : Nat} {K : Nat → KR} {se : Nat → Int64} {ct aw le ne ins ba : Nat → Int32} (hn : n ≤ 8) (hK : rl_K n K se ct aw le ne ins ba) (x y : Int64) : ∀ (r j : Nat), j + r = n → md_key_l n se ct aw le x y r j = if dk_isSec_l n K x r j = 0 then md_key_l n se ct aw le x y 0 0 else (((-3) : Int32), n, se, ct, aw, le)
  | 0, j, _ => by
    rw [dk_isSec_l, if_pos rfl]
    simp only [md_key_l]
  | r + 1, j, h => by
    conv => lhs; rw [md_key_l]
    rw [dk_isSec_l, dk_fki_nI (by omega), nI_clamp (by omega), (hK.1 j (by omega)).1]
    by_cases c : lg_cmp (se (j + 1)) x = 0
    · rw [if_pos c, if_pos c, if_neg (by decide)]
    · rw [if_neg c, if_neg c]
      exact pu_keyl hn hK x y r (j + 1) (by omega)
theorem pu_n8 {n : Nat} (hn : n ≤ 8) : nI n < 8 ↔ n ≠ 8 :=
  ⟨fun h e => by subst e; exact absurd h (by decide), fun h => nI_lt (b := 8) (by omega) (by decide)⟩
theorem pu_n8' {n : Nat} (hn : n ≤ 8) : nI n = 8 ↔ n = 8 := nI_eq (b := 8) (by omega) (by decide)
theorem pr_keyN {n N : Nat} {st dd : Nat → Int32} {K : Nat → KR} {se : Nat → Int64} {ct aw le ne ins ba : Nat → Int32} {kA : Int32} {oA : Nat → Int8} {gv : Nat} {un : Nat → Int32} {kB : Int32} {oB : Nat → Int8} {sz : Nat} {fr : Nat → Int32} (hR : lw_R n N st dd K se ct aw le ne ins ba kA oA gv un kB oB sz fr) (x y : Int64) (hok : ¬ dk_keyOK n K x y) : dk_keyN n K x y = (md_key n se ct aw le x y).1 ∧ n = (md_key n se ct aw le x y).2.1 ∧ lw_R n (N + 1) st dd K ((md_key n se ct aw le x y).2.2.1) ((md_key n se ct aw le x y).2.2.2.1) ((md_key n se ct aw le x y).2.2.2.2.1) ((md_key n se ct aw le x y).2.2.2.2.2) ne ins ba kA oA gv un kB oB sz fr := by
  have hn := hR.1
  have hK := hR.2.2.2.1
  have hU := hR.up (N' := N + 1) (by omega)
  unfold dk_keyN md_key
  by_cases c1 : lg_cmp y 0 < 0
  · simp only [if_pos c1]
    exact ⟨by trivial, by trivial, hU⟩
  · simp only [if_neg c1]
    by_cases c2 : lg_cmp y 65535 ≤ 0
    · simp only [if_pos c2]
      rw [pu_keyl hn hK x y n 0 (by omega), show dk_isSec_l n K x n 0 = dk_isSec n K x from rfl]
      by_cases c3 : dk_isSec n K x = 0
      · simp only [if_pos c3, md_key_l]
        have h8 : n = 8 := Classical.byContradiction fun h => hok ⟨c1, c2, c3, (pu_n8 hn).mpr h⟩
        simp only [if_pos ((pu_n8' hn).mpr h8)]
        exact ⟨by trivial, by trivial, hU⟩
      · simp only [if_neg c3]
        exact ⟨by trivial, by trivial, hU⟩
    · simp only [if_neg c2]
      exact ⟨by trivial, by trivial, hU⟩
theorem pu_y16 {y : Int64} (h0 : ¬ lg_cmp y 0 < 0) (h1 : lg_cmp y 65535 ≤ 0) : ∃ c : Nat, c < 65536 ∧ y.toInt32 = nI c := by
  rw [lg_cmp_lt, Int64.lt_iff_toInt_lt] at h0
  rw [lg_cmp_le, Int64.le_iff_toInt_le] at h1
  have a1 : (0 : Int64).toInt = 0 := by decide
  have a2 : (65535 : Int64).toInt = 65535 := by decide
  rw [a1] at h0
  rw [a2] at h1
  refine ⟨y.toInt.toNat, by omega, ?_⟩
  have : y = lN y.toInt.toNat := by
    apply Int64.toInt_inj.mp
    rw [lN_toInt (by omega)]
    omega
  conv => lhs; rw [this]
  exact lN_i _
theorem pr_keyY {n N : Nat} {st dd : Nat → Int32} {K : Nat → KR} {se : Nat → Int64} {ct aw le ne ins ba : Nat → Int32} {kA : Int32} {oA : Nat → Int8} {gv : Nat} {un : Nat → Int32} {kB : Int32} {oB : Nat → Int8} {sz : Nat} {fr : Nat → Int32} (hR : lw_R n N st dd K se ct aw le ne ins ba kA oA gv un kB oB sz fr) (x y : Int64) (hok : dk_keyOK n K x y) : nI (n + 1) = (md_key n se ct aw le x y).1 ∧ n + 1 = (md_key n se ct aw le x y).2.1 ∧ lw_R (n + 1) (N + 1) st dd (va_up K n (x, y.toInt32, -1, dk_l2 n, 0, 0, 0)) ((md_key n se ct aw le x y).2.2.1) ((md_key n se ct aw le x y).2.2.2.1) ((md_key n se ct aw le x y).2.2.2.2.1) ((md_key n se ct aw le x y).2.2.2.2.2) ne ins ba kA oA gv un kB oB sz fr := by
  have hn := hR.1
  have hK := hR.2.2.2.1
  obtain ⟨c1, c2, c3, c4⟩ := hok
  have h8 : n ≠ 8 := (pu_n8 hn).mp c4
  have e3 : dk_isSec_l n K x n 0 = 0 := c3
  unfold md_key
  simp only [if_neg c1, if_pos c2]
  rw [pu_keyl hn hK x y n 0 (by omega), if_pos e3, md_key_l, if_neg (fun h => h8 ((pu_n8' hn).mp h)), nI_clamp (by omega)]
  have hk : ∀ v : Int32, dk_l2 n = v → rl_K (n + 1) (va_up K n (x, y.toInt32, -1, dk_l2 n, 0, 0, 0)) (vp_updL se (n + 1) x) (upd ct (n + 1) y.toInt32) (upd aw (n + 1) (-1)) (upd le (n + 1) v) ne ins ba := by
    intro v hv
    refine ⟨fun i hi => ?_, fun i hi => hK.2 i (by omega)⟩
    by_cases e : i = n
    · subst e
      rw [pk_uLs, pk_us, pk_us, pk_us, (hK.2 i (by omega)).1, (hK.2 i (by omega)).2.1, (hK.2 i (by omega)).2.2]
      refine ⟨?_, pu_y16 c1 c2⟩
      unfold va_up
      rw [if_pos rfl, hv]
    · rw [pk_uLn (by omega), pk_un (by omega), pk_un (by omega), pk_un (by omega)]
      refine ⟨?_, (hK.1 i (by omega)).2⟩
      unfold va_up
      rw [if_neg e]
      exact (hK.1 i (by omega)).1
  have hb := hR.2.1
  by_cases c5 : 3 ≤ nI (n + 1)
  · rw [if_pos c5]
    have h3 : 3 ≤ n + 1 := (nI_leI (a := 3) (by omega) (by omega)).mp c5
    refine ⟨rfl, rfl, by omega, by omega, hR.2.2.1, hk 0 ?_, hR.2.2.2.2⟩
    unfold dk_l2
    rw [if_pos (show (2 : Int32) ≤ nI n from nI_le (a := 2) (by omega) (by omega))]
  · rw [if_neg c5]
    have h3 : ¬ 3 ≤ n + 1 := fun h => c5 ((nI_leI (a := 3) (by omega) (by omega)).mpr h)
    refine ⟨rfl, rfl, by omega, by omega, hR.2.2.1, hk 1 ?_, hR.2.2.2.2⟩
    unfold dk_l2
    rw [if_neg (show ¬ (2 : Int32) ≤ nI n from nI_ge (b := 2) (by omega) (by omega))]
theorem pu_keep {kA : Int32} {oA : Nat → Int8} {gv N : Nat} {un : Nat → Int32} (h : rl_F kA oA gv un) (b : Int8) : rl_F (dk_keep kA oA b).1 (dk_keep kA oA b).2 (gv + 1) (if 16 ≤ gv then un else upd un gv (b.toInt32 &&& 255)) := by
  obtain ⟨e, h1⟩ := h
  unfold dk_keep
  have hk : min gv 16 ≤ 16 := Nat.min_le_right _ _
  rw [if_neg (by rw [e]; exact nI_pos (by omega))]
  by_cases c : 16 ≤ gv
  · have e2 : min gv 16 = 16 := Nat.min_eq_right c
    rw [if_pos (show (16 : Int32) ≤ kA by rw [e, e2]; decide), if_pos c]
    refine ⟨?_, fun j hj h16 => h1 j (by omega) h16⟩
    rw [e, e2, Nat.min_eq_right (by omega)]
  · have e2 : min gv 16 = gv := Nat.min_eq_left (by omega)
    rw [e2] at e
    rw [if_neg (show ¬ (16 : Int32) ≤ kA by rw [e]; exact nI_ge (b := 16) (by omega) (by omega)), if_neg c]
    refine ⟨?_, fun j hj h16 => ?_⟩
    · show kA + 1 = _
      rw [e, nI_1, Nat.min_eq_left (by omega)]
    · show upd un gv _ j = ((va_up oA kA.toNatClampNeg b) j).toInt32 &&& 255
      rw [e, nI_clamp (by omega)]
      by_cases ej : j = gv
      · subst ej
        rw [pk_us]
        unfold va_up
        rw [if_pos rfl]
      · rw [pk_un ej]
        unfold va_up
        rw [if_neg ej]
        exact h1 j (by omega) h16
theorem pr_rem0 {n N : Nat} {st dd : Nat → Int32} {K : Nat → KR} {se : Nat → Int64} {ct aw le ne ins ba : Nat → Int32} {kA : Int32} {oA : Nat → Int8} {gv : Nat} {un : Nat → Int32} {kB : Int32} {oB : Nat → Int8} {sz : Nat} {fr : Nat → Int32} (hR : lw_R n N st dd K se ct aw le ne ins ba kA oA gv un kB oB sz fr) (sp cr : Int32) (tt ss : Int64) (x : Int8) (hN : N ≤ 600) : (dk_rem0 kA oA x).1 = (md_remote n gv sz sp se ct aw le ba dd cr tt ss un fr x 0).1 ∧ ss = (md_remote n gv sz sp se ct aw le ba dd cr tt ss un fr x 0).2.2.2.2.2.2.2.2.2 ∧ lw_R n (N + 1) st ((md_remote n gv sz sp se ct aw le ba dd cr tt ss un fr x 0).2.2.2.2.2.2.2.2.1) K se ((md_remote n gv sz sp se ct aw le ba dd cr tt ss un fr x 0).2.2.2.2.2.2.1) ((md_remote n gv sz sp se ct aw le ba dd cr tt ss un fr x 0).2.2.2.2.2.1) le ne ins ((md_remote n gv sz sp se ct aw le ba dd cr tt ss un fr x 0).2.2.2.2.2.2.2.1) ((dk_rem0 kA oA x).2.1) ((dk_rem0 kA oA x).2.2) ((md_remote n gv sz sp se ct aw le ba dd cr tt ss un fr x 0).2.1) ((md_remote n gv sz sp se ct aw le ba dd cr tt ss un fr x 0).2.2.1) kB oB ((md_remote n gv sz sp se ct aw le ba dd cr tt ss un fr x 0).2.2.2.1) ((md_remote n gv sz sp se ct aw le ba dd cr tt ss un fr x 0).2.2.2.2.1) := by
  have hb := hR.2.1
  have hF := pu_keep (N := N) hR.2.2.2.2.1 x
  unfold md_remote dk_rem0
  rw [nI_clamp (by omega)]
  by_cases c : 16 ≤ gv
  · simp only [if_pos (show (16 : Int32) ≤ nI gv from nI_le (a := 16) c (by omega)), if_true]
    rw [if_pos c] at hF
    exact ⟨by trivial, by trivial, hR.1, by omega, hR.2.2.1, hR.2.2.2.1, hF, hR.2.2.2.2.2⟩
  · simp only [if_neg (show ¬ (16 : Int32) ≤ nI gv from nI_ge (b := 16) (by omega) (by omega)), if_true]
    rw [if_neg c] at hF
    exact ⟨by trivial, by trivial, hR.1, by omega, hR.2.2.1, hR.2.2.2.1, hF, hR.2.2.2.2.2⟩
