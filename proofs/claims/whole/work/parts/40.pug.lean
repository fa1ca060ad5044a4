/-! Class and reference: a frame is judged. -/
theorem pu_uns {kB : Int32} {oB : Nat → Int8} {sz : Nat} {fr : Nat → Int32} (hs : sz ≤ 16) (h : rl_F kB oB sz fr) {j : Nat} (hj : j < sz) : dk_uns kB oB (nI j) = fr j := by
  unfold dk_uns
  have hf : ¬ dk_fhas kB (nI j) = 0 := by
    rw [pu_fhas hs h.1]
    intro z
    rcases z with z | z
    · exact nI_pos (by omega) z
    · exact z (nI_lt hj (by omega))
  rw [if_neg hf, nI_clamp (by omega)]
  exact (h.2 j hj (by omega)).symm
def pu_x (F : Nat → Int32) : Nat → Nat → Int32 → Int32
  | 0, _, ac => ac
  | r + 1, j, ac => pu_x F r (j + 1) (ac ^^^ F j)
theorem pu_soundl {kB : Int32} {oB : Nat → Int8} {fr : Nat → Int32} (u : ∀ j, j < 8 → dk_uns kB oB (nI j) = fr j) : ∀ (r j : Nat) (ac : Int32), j + r ≤ 8 → dk_sound_l kB oB r j ac = if pu_x fr r j ac = 0 then (1 : Int32) else (0 : Int32)
  | 0, j, ac, _ => rfl
  | r + 1, j, ac, h => by
    rw [dk_sound_l, u j (by omega), pu_soundl u r (j + 1) _ (by omega)]
    rfl
theorem pu_rems (n : Nat) (sp : Int32) (se : Nat → Int64) (ct aw le ba dd : Nat → Int32) (cr : Int32) (nw cs : Int64) (un_ : Nat → Int32) (sz_ : Nat) (fr_ : Nat → Int32) (v : Int32) : ∀ (r j : Nat) (ac : Int32), j + r ≤ 8 → md_rem_s n sp se ct aw le ba dd cr nw cs un_ sz_ fr_ v r j ac = md_rem_s n sp se ct aw le ba dd cr nw cs un_ sz_ fr_ v 0 0 (pu_x fr_ r j ac)
  | 0, j, ac, _ => rfl
  | r + 1, j, ac, h => by
    have e : md_rem_s n sp se ct aw le ba dd cr nw cs un_ sz_ fr_ v (r + 1) j ac = md_rem_s n sp se ct aw le ba dd cr nw cs un_ sz_ fr_ v r (j + 1) (ac ^^^ fr_ ((nI j).toNatClampNeg)) := rfl
    rw [e, nI_clamp (by omega), pu_rems n sp se ct aw le ba dd cr nw cs un_ sz_ fr_ v r (j + 1) _ (by omega)]
    rfl
theorem pu_sub {a b : Nat} (h : b ≤ a) : nI a - nI b = nI (a - b) := by
  have e : nI a = nI (a - b) + nI b := by rw [nI_add]; congr 1; omega
  rw [e, Int32.add_sub_cancel]
theorem pu_diff {q c : Nat} (hq : q < 65536) (hc : c < 65536) : (nI q - nI c) &&& 65535 = nI ((q + 65536 - c) % 65536) := by
  rw [pk_and _ (m := 65535) 16 (by decide)]
  congr 1
  show ((nI q).toBitVec - (nI c).toBitVec).toNat % 2 ^ 16 = _
  rw [BitVec.toNat_sub, pk_tn (by omega), pk_tn (by omega)]
  omega
theorem pu_mdd {q c : Nat} (hq : q < 65536) (hc : c < 65536) (h : q < c) : nI q + 65536 - nI c = nI ((q + 65536 - c) % 65536) := by
  rw [show (65536 : Int32) = nI 65536 from rfl, nI_add, pu_sub (by omega)]
  congr 1
  omega
theorem pu_mde {q c : Nat} (hq : q < 65536) (hc : c < 65536) (h : ¬ q < c) : nI q - nI c = nI ((q + 65536 - c) % 65536) := by
  rw [pu_sub (by omega)]
  congr 1
  omega
theorem pu_codeA {kB : Int32} {oB : Nat → Int8} {fr : Nat → Int32} (u : ∀ j, j < 8 → dk_uns kB oB (nI j) = fr j) {f2 f3 f4 f5 : Nat} (h2 : f2 < 256) (h3 : f3 < 256) (h4 : f4 < 256) (h5 : f5 < 256) (e2 : fr 2 = nI f2) (e3 : fr 3 = nI f3) (e4 : fr 4 = nI f4) (e5 : fr 5 = nI f5) : dk_code kB oB = lN (((f2 * 256 + f3) * 256 + f4) * 256 + f5) := by
  unfold dk_code
  rw [dk_code_l, dk_code_l, dk_code_l, dk_code_l, dk_code_l, u (0 + 2) (by omega), u (0 + 1 + 2) (by omega), u (0 + 1 + 1 + 2) (by omega), u (0 + 1 + 1 + 1 + 2) (by omega)]
  show (((0 * 256 + (fr 2).toInt64) * 256 + (fr 3).toInt64) * 256 + (fr 4).toInt64) * 256 + (fr 5).toInt64 = _
  rw [e2, e3, e4, e5, nI_l (by omega), nI_l (by omega), nI_l (by omega), nI_l (by omega), show (256 : Int64) = lN 256 from rfl, show (0 : Int64) = lN 0 from rfl, lN_mul, lN_add, lN_mul, lN_add, lN_mul, lN_add, lN_mul, lN_add, Nat.zero_mul, Nat.zero_add]
theorem pu_codeB {f2 f3 f4 f5 : Nat} (h2 : f2 < 256) (h3 : f3 < 256) (h4 : f4 < 256) (h5 : f5 < 256) : ((((nI f2 <<< (24 &&& 31)) ||| (nI f3 <<< (16 &&& 31))) ||| (nI f4 <<< (8 &&& 31))) ||| nI f5) = nI (((f2 * 256 + f3) * 256 + f4) * 256 + f5) := by
  rw [pk_shlN (24 &&& 31) 24 (by decide) (by omega), pk_shlN (16 &&& 31) 16 (by decide) (by omega), pk_shlN (8 &&& 31) 8 (by decide) (by omega)]
  rw [pu_or (k := 24) (by omega), show f2 * 2 ^ 24 + f3 * 2 ^ 16 = (f2 * 256 + f3) * 2 ^ 16 by omega, pu_or (k := 16) (by omega), show (f2 * 256 + f3) * 2 ^ 16 + f4 * 2 ^ 8 = ((f2 * 256 + f3) * 256 + f4) * 2 ^ 8 by omega, pu_or (k := 8) (by omega)]
abbrev pu_T : Type := Int32 × Nat × (Nat → Int32) × Nat × (Nat → Int32) × (Nat → Int32) × (Nat → Int32) × (Nat → Int32) × (Nat → Int32) × Int64
abbrev pu_J (n : Nat) (se : Nat → Int64) (le ne ins : Nat → Int32) (un_ : Nat → Int32) (sz_ : Nat) (fr_ : Nat → Int32) (a : Int32 × (Nat → KR) × (Nat → Int32) × Int64) (b : pu_T) : Prop :=
  a.1 = b.1 ∧ b.2.1 = 0 ∧ b.2.2.1 = un_ ∧ b.2.2.2.1 = sz_ ∧ b.2.2.2.2.1 = fr_ ∧ a.2.2.2 = b.2.2.2.2.2.2.2.2.2 ∧ rl_D a.2.2.1 b.2.2.2.2.2.2.2.2.1 ∧ rl_K n a.2.1 se (b.2.2.2.2.2.2.1) (b.2.2.2.2.2.1) le ne ins (b.2.2.2.2.2.2.2.1)
theorem pu_leaf {n : Nat} {se : Nat → Int64} {le ne ins un_ fr_ aw' ct' ba' st' dd' : Nat → Int32} {sz_ : Nat} {r : Int32} {K' : Nat → KR} {s1 s2 : Int64} (h : s1 = s2) (hD : rl_D st' dd') (hK : rl_K n K' se ct' aw' le ne ins ba') : pu_J n se le ne ins un_ sz_ fr_ (r, K', st', s1) (r, 0, un_, sz_, fr_, aw', ct', ba', dd', s2) := ⟨rfl, rfl, rfl, rfl, rfl, h, hD, hK⟩
theorem pu_nx {q : Nat} (hq : q < 65536) (h : nI q = 65535) : (nI q + 1) &&& 65535 = 0 := by
  rw [h]
  decide
theorem pu_nx' {q : Nat} (hq : q < 65536) (h : ¬ nI q = 65535) : (nI q + 1) &&& 65535 = nI q + 1 := by
  have h2 : q ≠ 65535 := fun e => h (by rw [e]; rfl)
  rw [nI_1, pu_nmod, Nat.mod_eq_of_lt (by omega)]
theorem pu_judge {n : Nat} {st dd : Nat → Int32} {K : Nat → KR} {se : Nat → Int64} {ct aw le ne ins ba : Nat → Int32} (hn : n ≤ 8) (hD : rl_D st dd) (hK : rl_K n K se ct aw le ne ins ba) {kB : Int32} {oB : Nat → Int8} {fr_ : Nat → Int32} (hk : kB = 8) (hF : rl_F kB oB 8 fr_) (sp cr : Int32) (tt ss : Int64) (un_ : Nat → Int32) (sz_ : Nat) :
    pu_J n se le ne ins un_ sz_ fr_ (dk_judge n sp cr kB oB tt ss st K) (md_rem_s n sp se ct aw le ba dd cr tt ss un_ sz_ fr_ 1 8 0 0) := by
  have u : ∀ j, j < 8 → dk_uns kB oB (nI j) = fr_ j := fun j hj => pu_uns (by omega) hF hj
  have f : ∀ j, j < 8 → ∃ x : Nat, x < 256 ∧ fr_ j = nI x := fun j hj => by
    rw [hF.2 j hj (by omega)]
    exact pk_andE _ 8 (by decide)
  obtain ⟨f1, l1, g1⟩ := f 1 (by omega)
  obtain ⟨f2, l2, g2⟩ := f 2 (by omega)
  obtain ⟨f3, l3, g3⟩ := f 3 (by omega)
  obtain ⟨f4, l4, g4⟩ := f 4 (by omega)
  obtain ⟨f5, l5, g5⟩ := f 5 (by omega)
  have uS : dk_sender kB oB = fr_ 0 := u 0 (by omega)
  have uC : dk_command kB oB = fr_ 1 := u 1 (by omega)
  have uF : dk_flags kB oB = fr_ 6 := u 6 (by omega)
  have hs : dk_sound kB oB = if pu_x fr_ 8 0 0 = 0 then (1 : Int32) else (0 : Int32) := by
    unfold dk_sound
    rw [if_pos hk]
    exact pu_soundl u 8 0 0 (by omega)
  have z0 : (0 : Int32).toNatClampNeg = 0 := by decide
  have z1 : (1 : Int32).toNatClampNeg = 1 := by decide
  have z2 : (2 : Int32).toNatClampNeg = 2 := by decide
  have z3 : (3 : Int32).toNatClampNeg = 3 := by decide
  have z4 : (4 : Int32).toNatClampNeg = 4 := by decide
  have z5 : (5 : Int32).toNatClampNeg = 5 := by decide
  have z6 : (6 : Int32).toNatClampNeg = 6 := by decide
  have fail : pu_J n se le ne ins un_ sz_ fr_ ((0 : Int32), K, st, ss) ((0 : Int32), 0, un_, sz_, fr_, aw, ct, ba, dd, ss) := ⟨rfl, rfl, rfl, rfl, rfl, rfl, hD, hK⟩
  rw [pu_rems n sp se ct aw le ba dd cr tt ss un_ sz_ fr_ 1 8 0 0 (by omega), md_rem_s, z0, z1, z2, z3, z4, z5, z6, if_neg pu_n10]
  unfold dk_judge
  rw [uS, uC, uF]
  by_cases c0 : pu_x fr_ 8 0 0 = 0
  · rw [if_pos c0] at hs
    rw [if_pos c0, if_neg (by rw [hs]; decide)]
    by_cases c1 : fr_ 1 ≤ 3
    · rw [if_pos c1]
      by_cases hx : dk_fkP n (fr_ 0)
      · rw [if_pos hx, if_neg hx.1, if_neg hx.2]
        obtain ⟨j, hj, e, e1, e2, e3, c, hc, e4⟩ := pu_key hn hK hx
        rw [e1, e2]
        have cA := pu_codeA u l2 l3 l4 l5 g2 g3 g4 g5
        have cB := pu_codeB l2 l3 l4 l5
        obtain ⟨p, q, hp, hq, d1, d2⟩ := pu_code (K j) (m := ((f2 * 256 + f3) * 256 + f4) * 256 + f5) (by omega)
        obtain ⟨s, hs1, hs2, hs3⟩ := pu_sign (K j)
        have kl : (K j).2.2.2.1 = le (j + 1) := by rw [e3]
        have k1 : (K j).1 = se (j + 1) := by rw [e3]
        rw [k1] at d2 hs3
        rw [g2, g3, g4, g5, cB, cA, d1, d2, hs2, hs3, kl]
        by_cases c2 : le (j + 1) = 0
        · rw [if_pos c2, if_pos c2]
          exact fail
        · rw [if_neg c2, if_neg c2, if_pos c1, pu_hi (by omega), show (p * 65536 + q) / 65536 = p by omega, pu_nmod, show (p * 65536 + q) % 65536 = q by omega]
          have w1 : ((lN (p * 65536 + q)).toUInt64 >>> ((16 : Int32).toInt64.toUInt64 &&& Int64.toUInt64 63)).toInt64 = lN p := by
            have w2 : ((lN (p * 65536 + q)).toUInt64 >>> ((16 : Int32).toInt64.toUInt64 &&& Int64.toUInt64 63)).toInt64 = lN ((p * 65536 + q) / 2 ^ 16) := wb_shr (k := 16) (by omega) (by decide)
            rw [w2]
            congr 1
            omega
          rw [w1, lN_i, pu_nmod, show (p * 65536 + q) % 65536 = q by omega, nI_l (by omega)]
          by_cases c3 : p = s
          · rw [if_pos (by rw [c3]; exact lw_cmp0 rfl), if_pos (show nI p = nI s by rw [c3])]
            have hr : dk_roll (K j) (nI q) sp = if nI ((q + 65536 - c) % 65536) = 0 then ((0 : Int32), (se (j + 1), nI c, (-1 : Int32), le (j + 1), ne (j + 1), ins (j + 1), ba (j + 1))) else if nI ((q + 65536 - c) % 65536) ≤ 32768 then (if nI ((q + 65536 - c) % 65536) ≤ sp then ((1 : Int32), (se (j + 1), nI q, (-1 : Int32), le (j + 1), ne (j + 1), ins (j + 1), ba (j + 1))) else if nI q = aw (j + 1) then ((1 : Int32), (se (j + 1), nI q, (-1 : Int32), le (j + 1), ne (j + 1), ins (j + 1), ba (j + 1))) else ((2 : Int32), (se (j + 1), nI c, ((nI q + 1) &&& 65535), le (j + 1), ne (j + 1), ins (j + 1), ba (j + 1)))) else ((0 : Int32), (se (j + 1), nI c, (-1 : Int32), le (j + 1), ne (j + 1), ins (j + 1), ba (j + 1))) := by
              unfold dk_roll
              rw [e3]
              simp only [e4, pu_diff hq hc]
            have R0 : ∀ i, i ≠ j + 1 → se i = se i ∧ ct i = ct i ∧ upd aw (j + 1) (-1) i = aw i ∧ le i = le i ∧ ne i = ne i ∧ ins i = ins i ∧ ba i = ba i := fun i hi => ⟨rfl, rfl, pk_un hi, rfl, rfl, rfl, rfl⟩
            have K0 : rl_K n (va_up K j (se (j + 1), nI c, (-1 : Int32), le (j + 1), ne (j + 1), ins (j + 1), ba (j + 1))) se ct (upd aw (j + 1) (-1)) le ne ins ba := pu_Kset hK hj (by rw [pk_us, e4]) ⟨c, hc, e4⟩ R0
            have K1 : rl_K n (va_up K j (se (j + 1), nI q, (-1 : Int32), le (j + 1), ne (j + 1), ins (j + 1), (fr_ 6 &&& 1))) se (upd ct (j + 1) (nI q)) (upd aw (j + 1) (-1)) le ne ins (upd ba (j + 1) (fr_ 6 &&& 1)) := pu_Kset hK hj (by rw [pk_us, pk_us, pk_us]) ⟨q, hq, pk_us⟩ (fun i hi => ⟨rfl, pk_un hi, pk_un hi, rfl, rfl, rfl, pk_un hi⟩)
            have K2 : ∀ v : Int32, rl_K n (va_up K j (se (j + 1), nI c, v, le (j + 1), ne (j + 1), ins (j + 1), ba (j + 1))) se ct (upd (upd aw (j + 1) (-1)) (j + 1) v) le ne ins ba := fun v => pu_Kset hK hj (by rw [pk_us, e4]) ⟨c, hc, e4⟩ (fun i hi => ⟨rfl, rfl, by rw [pk_un hi, pk_un hi], rfl, rfl, rfl, rfl⟩)
            obtain ⟨o1, o2⟩ := pu_cmd hD cr tt ss (x := fr_ 1) (by rw [g1]; exact nI_pos (by omega)) c1
            have n01 := pu_n01
            have n21 := pu_n21
            rw [e4]
            by_cases hqc : q < c
            · rw [if_pos (nI_lt hqc (by omega)), pu_mdd hq hc hqc]
              generalize hd : (q + 65536 - c) % 65536 = d at hr ⊢
              by_cases a1 : nI d = 0
              · rw [if_pos a1] at hr
                simp only [hr, if_pos a1, if_neg pu_n01, ite_self]
                exact pu_leaf rfl hD K0
              · rw [if_neg a1] at hr
                by_cases a2 : nI d ≤ 32768
                · rw [if_pos a2] at hr
                  by_cases a3 : nI d ≤ sp
                  · rw [if_pos a3] at hr
                    simp only [hr, if_neg a1, if_pos a2, if_pos a3, ite_self, ↓reduceIte]
                    exact pu_leaf o1 o2 K1
                  · rw [if_neg a3] at hr
                    by_cases a4 : nI q = aw (j + 1)
                    · rw [if_pos a4] at hr
                      simp only [hr, if_neg a1, if_pos a2, if_neg a3, if_pos a4.symm, ↓reduceIte]
                      exact pu_leaf o1 o2 K1
                    · rw [if_neg a4] at hr
                      simp only [hr, if_neg a1, if_pos a2, if_neg a3, if_neg (fun z : aw (j + 1) = nI q => a4 z.symm), if_neg pu_n21]
                      by_cases a5 : nI q = 65535
                      · simp only [if_pos a5, pu_nx hq a5]
                        exact pu_leaf rfl hD (K2 _)
                      · simp only [if_neg a5, pu_nx' hq a5]
                        exact pu_leaf rfl hD (K2 _)
                · rw [if_neg a2] at hr
                  simp only [hr, if_neg a1, if_neg a2, if_neg pu_n01, ite_self]
                  exact pu_leaf rfl hD K0
            · rw [if_neg (nI_nlt (by omega) (by omega)), pu_mde hq hc hqc]
              generalize hd : (q + 65536 - c) % 65536 = d at hr ⊢
              by_cases a1 : nI d = 0
              · rw [if_pos a1] at hr
                simp only [hr, if_pos a1, if_neg pu_n01, ite_self]
                exact pu_leaf rfl hD K0
              · rw [if_neg a1] at hr
                by_cases a2 : nI d ≤ 32768
                · rw [if_pos a2] at hr
                  by_cases a3 : nI d ≤ sp
                  · rw [if_pos a3] at hr
                    simp only [hr, if_neg a1, if_pos a2, if_pos a3, ite_self, ↓reduceIte]
                    exact pu_leaf o1 o2 K1
                  · rw [if_neg a3] at hr
                    by_cases a4 : nI q = aw (j + 1)
                    · rw [if_pos a4] at hr
                      simp only [hr, if_neg a1, if_pos a2, if_neg a3, if_pos a4.symm, ↓reduceIte]
                      exact pu_leaf o1 o2 K1
                    · rw [if_neg a4] at hr
                      simp only [hr, if_neg a1, if_pos a2, if_neg a3, if_neg (fun z : aw (j + 1) = nI q => a4 z.symm), if_neg pu_n21]
                      by_cases a5 : nI q = 65535
                      · simp only [if_pos a5, pu_nx hq a5]
                        exact pu_leaf rfl hD (K2 _)
                      · simp only [if_neg a5, pu_nx' hq a5]
                        exact pu_leaf rfl hD (K2 _)
                · rw [if_neg a2] at hr
                  simp only [hr, if_neg a1, if_neg a2, if_neg pu_n01, ite_self]
                  exact pu_leaf rfl hD K0
          · rw [if_neg (fun z => c3 ((lN_eq (by omega) (by omega)).mp ((lg_cmp_eq _ _).mp z))), if_neg (fun z => c3 ((nI_eq (by omega) (by omega)).mp z))]
            exact fail
      · rw [if_neg hx]
        by_cases c2 : fr_ 0 < 1
        · rw [if_pos c2]
          exact fail
        · rw [if_neg c2, if_pos (Classical.byContradiction fun z => hx ⟨c2, z⟩)]
          exact fail
    · simp only [if_neg c1, ite_self]
      exact fail
  · rw [if_neg c0] at hs
    rw [if_neg c0, if_pos hs]
    exact fail
theorem pu_reml (n : Nat) (sp : Int32) (se : Nat → Int64) (ct aw le ba dd : Nat → Int32) (cr : Int32) (nw cs : Int64) (g : Nat) (un_ : Nat → Int32) (sz_ : Nat) : ∀ (r j : Nat) (fr_ : Nat → Int32), j + r ≤ 16 → md_rem_l n sp se ct aw le ba dd cr nw cs g un_ sz_ r j fr_ = md_rem_l n sp se ct aw le ba dd cr nw cs g un_ sz_ 0 0 (fun i => if j ≤ i ∧ i < j + r then un_ i else fr_ i)
  | 0, j, fr_, _ => by
    have e : (fun i => if j ≤ i ∧ i < j + 0 then un_ i else fr_ i) = fr_ := by
      funext i
      rw [if_neg (by omega)]
    rw [e]
    rfl
  | r + 1, j, fr_, h => by
    have e : md_rem_l n sp se ct aw le ba dd cr nw cs g un_ sz_ (r + 1) j fr_ = md_rem_l n sp se ct aw le ba dd cr nw cs g un_ sz_ r (j + 1) (upd fr_ ((nI j).toNatClampNeg) (un_ ((nI j).toNatClampNeg))) := rfl
    rw [e, nI_clamp (by omega), pu_reml n sp se ct aw le ba dd cr nw cs g un_ sz_ r (j + 1) _ (by omega)]
    congr 1
    funext i
    by_cases e2 : i = j
    · subst e2
      rw [if_neg (by omega), pk_us, if_pos (by omega)]
    · rw [pk_un e2]
      by_cases c : j + 1 ≤ i ∧ i < j + 1 + r
      · rw [if_pos c, if_pos (by omega)]
      · rw [if_neg c, if_neg (by omega)]
theorem pu_rem {n gv N sz : Nat} (sp : Int32) (se : Nat → Int64) (ct aw le ba dd : Nat → Int32) (cr : Int32) (nw cs : Int64) (un fr : Nat → Int32) (b : Int8) (hg : gv ≤ N) (hN : N ≤ 600) : md_remote n gv sz sp se ct aw le ba dd cr nw cs un fr b 1 = md_rem_s n sp se ct aw le ba dd cr nw cs (if 16 ≤ gv then un else upd un gv (b.toInt32 &&& 255)) (min (gv + 1) 16) (fun i => if i < min (gv + 1) 16 then (if 16 ≤ gv then un else upd un gv (b.toInt32 &&& 255)) i else fr i) (if gv + 1 = 8 then 1 else 0) 8 0 0 := by
  have key : ∀ (u : Nat → Int32), md_rem_c n sp se ct aw le ba dd cr nw cs fr (gv + 1) u (min (gv + 1) 16) = md_rem_s n sp se ct aw le ba dd cr nw cs u (min (gv + 1) 16) (fun i => if i < min (gv + 1) 16 then u i else fr i) (if gv + 1 = 8 then 1 else 0) 8 0 0 := by
    intro u
    unfold md_rem_c
    rw [pu_reml n sp se ct aw le ba dd cr nw cs (gv + 1) u _ _ 0 fr (by omega), md_rem_l]
    have e : (fun i => if 0 ≤ i ∧ i < 0 + min (gv + 1) 16 then u i else fr i) = fun i => if i < min (gv + 1) 16 then u i else fr i := by
      funext i
      by_cases c : i < min (gv + 1) 16
      · rw [if_pos c, if_pos (by omega)]
      · rw [if_neg c, if_neg (by omega)]
    rw [e]
    by_cases c : gv + 1 = 8
    · rw [if_pos c, if_pos (by rw [c]; rfl)]
      rfl
    · rw [if_neg c, if_neg (fun z : nI (gv + 1) = 8 => c ((nI_eq (a := gv + 1) (b := 8) (by omega) (by omega)).mp z))]
      rfl
  unfold md_remote
  rw [nI_clamp (by omega)]
  by_cases c : 16 ≤ gv
  · rw [if_pos (show (16 : Int32) ≤ nI gv from nI_le (a := 16) c (by omega)), if_neg pu_n10, if_neg (show ¬ nI (gv + 1) ≤ 16 from nI_ge (a := 16) (by omega) (by omega)), if_pos c, ← key un]
    rw [Nat.min_eq_right (by omega)]
  · rw [if_neg (show ¬ (16 : Int32) ≤ nI gv from nI_ge (b := 16) (by omega) (by omega)), if_neg pu_n10, if_pos (show nI (gv + 1) ≤ 16 from nI_le (b := 16) (by omega) (by omega)), if_neg c, ← key]
    rw [Nat.min_eq_left (by omega)]
theorem pr_rem1 {n N : Nat} {st dd : Nat → Int32} {K : Nat → KR} {se : Nat → Int64} {ct aw le ne ins ba : Nat → Int32} {kA : Int32} {oA : Nat → Int8} {gv : Nat} {un : Nat → Int32} {kB : Int32} {oB : Nat → Int8} {sz : Nat} {fr : Nat → Int32} (hR : lw_R n N st dd K se ct aw le ne ins ba kA oA gv un kB oB sz fr) (sp cr : Int32) (tt ss : Int64) (x : Int8) (hN : N ≤ 600) : (dk_rem1 n sp cr kA oA tt ss st K x).1 = (md_remote n gv sz sp se ct aw le ba dd cr tt ss un fr x 1).1 ∧ (dk_rem1 n sp cr kA oA tt ss st K x).2.2.2.2.2.2 = (md_remote n gv sz sp se ct aw le ba dd cr tt ss un fr x 1).2.2.2.2.2.2.2.2.2 ∧ lw_R n (N + 1) ((dk_rem1 n sp cr kA oA tt ss st K x).2.2.2.2.2.1) ((md_remote n gv sz sp se ct aw le ba dd cr tt ss un fr x 1).2.2.2.2.2.2.2.2.1) ((dk_rem1 n sp cr kA oA tt ss st K x).2.2.2.2.1) se ((md_remote n gv sz sp se ct aw le ba dd cr tt ss un fr x 1).2.2.2.2.2.2.1) ((md_remote n gv sz sp se ct aw le ba dd cr tt ss un fr x 1).2.2.2.2.2.1) le ne ins ((md_remote n gv sz sp se ct aw le ba dd cr tt ss un fr x 1).2.2.2.2.2.2.2.1) ((dk_rem1 n sp cr kA oA tt ss st K x).2.2.2.1) oB ((md_remote n gv sz sp se ct aw le ba dd cr tt ss un fr x 1).2.1) ((md_remote n gv sz sp se ct aw le ba dd cr tt ss un fr x 1).2.2.1) ((dk_rem1 n sp cr kA oA tt ss st K x).2.1) ((dk_rem1 n sp cr kA oA tt ss st K x).2.2.1) ((md_remote n gv sz sp se ct aw le ba dd cr tt ss un fr x 1).2.2.2.1) ((md_remote n gv sz sp se ct aw le ba dd cr tt ss un fr x 1).2.2.2.2.1) := by
  have hb := hR.2.1
  have hn := hR.1
  have hF := pu_keep (N := N) hR.2.2.2.2.1 x
  rw [pu_rem sp se ct aw le ba dd cr tt ss un fr x hb hN]
  unfold dk_rem1
  generalize hu : (if 16 ≤ gv then un else upd un gv (x.toInt32 &&& 255)) = u at hF ⊢
  have hF2 : rl_F (dk_keep kA oA x).1 (dk_keep kA oA x).2 (min (gv + 1) 16) (fun i => if i < min (gv + 1) 16 then u i else fr i) := by
    refine ⟨?_, fun j hj h16 => ?_⟩
    · rw [hF.1, Nat.min_assoc, Nat.min_self]
    · show (if j < min (gv + 1) 16 then u j else fr j) = _
      rw [if_pos hj]
      exact hF.2 j (by omega) h16
  have hZ : rl_F dk_clear oB 0 u := ⟨rfl, fun j hj => absurd hj (Nat.not_lt_zero j)⟩
  by_cases c : gv + 1 = 8
  · rw [if_pos c]
    have hk : (dk_keep kA oA x).1 = 8 := by
      rw [hF.1, c]
      rfl
    have e8 : min (gv + 1) 16 = 8 := by omega
    have hF3 := hF2
    rw [e8] at hF3 ⊢
    obtain ⟨j1, j2, j3, j4, j5, j6, j7, j8⟩ := pu_judge hn hR.2.2.1 hR.2.2.2.1 hk hF3 sp cr tt ss u 8
    refine ⟨j1, j6, hn, ?_, j7, j8, ?_, ?_, ?_⟩
    · rw [j2]; omega
    · rw [j2, j3]; exact hZ
    · rw [j4]; omega
    · rw [j4, j5]; exact hF3
  · rw [if_neg c, pu_rems n sp se ct aw le ba dd cr tt ss u _ _ 0 8 0 0 (by omega), md_rem_s, if_pos rfl]
    have hs : dk_sound (dk_keep kA oA x).1 (dk_keep kA oA x).2 = 0 := by
      unfold dk_sound
      rw [if_neg]
      rw [hF.1]
      intro z
      have := (nI_eq (b := 8) (by omega) (by omega)).mp z
      omega
    have hj : dk_judge n sp cr (dk_keep kA oA x).1 (dk_keep kA oA x).2 tt ss st K = ((0 : Int32), K, st, ss) := by
      unfold dk_judge
      rw [if_pos hs]
    rw [hj]
    exact ⟨rfl, rfl, hn, Nat.zero_le _, hR.2.2.1, hR.2.2.2.1, hZ, Nat.min_le_right _ _, hF2⟩
