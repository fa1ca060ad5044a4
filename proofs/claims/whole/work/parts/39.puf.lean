/-! Class and reference: the cipher. -/
theorem wb_tb (n : Nat) : (lN n).toBitVec = BitVec.ofNat 64 n := rfl
theorem wb_inj {a b : Int64} (h : a.toBitVec = b.toBitVec) : a = b := Int64.toBitVec_inj.mp h
theorem wb_tn {n : Nat} (h : n < 2 ^ 64) : (lN n).toBitVec.toNat = n := by rw [wb_tb, BitVec.toNat_ofNat, Nat.mod_eq_of_lt h]
theorem wb_of (x : Int64) : ∃ n, n < 2 ^ 64 ∧ x = lN n := ⟨x.toBitVec.toNat, x.toBitVec.isLt, wb_inj (by rw [wb_tb]; simp)⟩
theorem wb_of32 (x : Int32) : ∃ n, n < 2 ^ 32 ∧ x = nI n := ⟨x.toBitVec.toNat, x.toBitVec.isLt, Int32.toBitVec_inj.mp (by show _ = BitVec.ofNat 32 _; simp)⟩
theorem wb_c : ∀ k, k < 64 → ((nI k).toInt64 &&& 63) = lN k := by decide +kernel
theorem wb_cu : ∀ k, k < 64 → ((nI k).toInt64.toUInt64 &&& Int64.toUInt64 63) = UInt64.ofNat k := by decide +kernel
theorem wb_sm : ∀ k, k < 64 → (BitVec.ofNat 64 k).smod 64 = BitVec.ofNat 64 k := by decide +kernel
theorem wb_lt2 {a b : Nat} (h : a < b) : 2 ^ a < 2 ^ b := Nat.pow_lt_pow_right (by decide) h
theorem wb_shr {n k : Nat} (hn : n < 2 ^ 64) (hk : k < 64) : ((lN n).toUInt64 >>> ((nI k).toInt64.toUInt64 &&& Int64.toUInt64 63)).toInt64 = lN (n / 2 ^ k) := by
  rw [wb_cu k hk]
  apply wb_inj
  apply BitVec.eq_of_toNat_eq
  show ((lN n).toUInt64 >>> UInt64.ofNat k).toNat = (BitVec.ofNat 64 _).toNat
  have h1 : (UInt64.ofNat k).toNat = k := by
    show (BitVec.ofNat 64 k).toNat = k
    rw [BitVec.toNat_ofNat, Nat.mod_eq_of_lt (by omega)]
  have h2 : (lN n).toUInt64.toNat = n := wb_tn hn
  rw [UInt64.toNat_shiftRight, h1, h2, Nat.mod_eq_of_lt hk, Nat.shiftRight_eq_div_pow, BitVec.toNat_ofNat, Nat.mod_eq_of_lt (Nat.lt_of_le_of_lt (Nat.div_le_self _ _) hn)]
theorem wb_and {a b : Nat} (ha : a < 2 ^ 64) (hb : b < 2 ^ 64) : lN a &&& lN b = lN (a &&& b) := by
  apply wb_inj
  rw [Int64.toBitVec_and, wb_tb, wb_tb, wb_tb]
  apply BitVec.eq_of_toNat_eq
  rw [BitVec.toNat_and, BitVec.toNat_ofNat, BitVec.toNat_ofNat, BitVec.toNat_ofNat, Nat.mod_eq_of_lt ha, Nat.mod_eq_of_lt hb, Nat.mod_eq_of_lt (Nat.and_lt_two_pow _ hb)]
theorem wb_mask {n k : Nat} (hn : n < 2 ^ 64) (hk : k < 64) : lN n &&& lN (2 ^ k - 1) = lN (n % 2 ^ k) := by
  rw [wb_and hn (by have := wb_lt2 hk; omega), Nat.and_two_pow_sub_one_eq_mod]
theorem nx_xor (a b : Nat) : nI a ^^^ nI b = nI (a ^^^ b) := by
  apply Int32.toBitVec_inj.1
  show BitVec.ofNat 32 a ^^^ BitVec.ofNat 32 b = BitVec.ofNat 32 (a ^^^ b)
  apply BitVec.eq_of_getLsbD_eq
  intro i hi
  simp [hi]
theorem pf_lI {a : Nat} (h : a < 2 ^ 63) : (lN a).toInt = (a : Int) := lg_ofNat_toInt h
theorem pf_shr {a d : Nat} {D : Int64} (hD : (D.toBitVec.smod 64).toNat = d) (h : a < 2 ^ 62) : lN a >>> D = lN (a / 2 ^ d) := by
  have hd : a / 2 ^ d ≤ a := Nat.div_le_self _ _
  apply Int64.toInt_inj.mp
  have e : (lN a >>> D).toInt = (lN a).toInt >>> d := by
    rw [← hD]
    exact BitVec.toInt_sshiftRight ..
  rw [e, Int.shiftRight_eq_div_pow, pf_lI (by omega), pf_lI (by omega)]
  rfl
theorem pf_andw (x : Int64) : ∃ m, m < 2 ^ 32 ∧ x &&& 4294967295 = lN m := ⟨x.toBitVec.toNat % 2 ^ 32, Nat.mod_lt _ (by decide), Int64.toBitVec_inj.mp (BitVec.eq_of_toNat_eq (by
  show (x.toBitVec &&& 4294967295#64).toNat = (BitVec.ofNat 64 (x.toBitVec.toNat % 2 ^ 32)).toNat
  rw [BitVec.toNat_and, show (4294967295#64).toNat = 2 ^ 32 - 1 from by decide, Nat.and_two_pow_sub_one_eq_mod, BitVec.toNat_ofNat]
  omega))⟩
theorem lN_bv (n : Nat) : (lN n).toBitVec = BitVec.ofNat 64 n := rfl
theorem lN_nat {n : Nat} (h : n < 2 ^ 64) : (lN n).toBitVec.toNat = n := by rw [lN_bv, BitVec.toNat_ofNat]; exact Nat.mod_eq_of_lt h
theorem lN_xor (a b : Nat) : lN a ^^^ lN b = lN (a ^^^ b) := by
  apply Int64.toBitVec_inj.mp; rw [Int64.toBitVec_xor, lN_bv, lN_bv, lN_bv]; apply BitVec.eq_of_getLsbD_eq; intro i hi; simp [BitVec.getLsbD_ofNat, Nat.testBit_xor, hi]

theorem pu_m64 : ∀ i, i < 64 → ¬ i < 16 → (65535#64).getLsbD i = false := by decide +kernel
theorem pu_m32 : ∀ i, i < 32 → (65535#32).getLsbD i = decide (i < 16) := by decide +kernel
theorem pu_mw : ∀ i, i < 64 → (4294967295#64).getLsbD i = decide (i < 32) := by decide +kernel
theorem pu_bv (S : BitVec 64) (k : Nat) (hk : k ≤ 48) : S.sshiftRight k &&& 65535#64 = (S >>> k) &&& 65535#64 := by
  apply BitVec.eq_of_getLsbD_eq
  intro i hi
  rw [BitVec.getLsbD_and, BitVec.getLsbD_and, BitVec.getLsbD_sshiftRight, BitVec.getLsbD_ushiftRight]
  by_cases h : i < 16
  · rw [if_pos (by omega), decide_eq_false (show ¬ 64 ≤ i by omega)]
    simp
  · rw [pu_m64 i hi h, Bool.and_false, Bool.and_false]
theorem pu_bv32 (S : BitVec 32) : S.sshiftRight 16 &&& 65535#32 = S >>> 16 := by
  apply BitVec.eq_of_getLsbD_eq
  intro i hi
  rw [BitVec.getLsbD_and, BitVec.getLsbD_sshiftRight, BitVec.getLsbD_ushiftRight, pu_m32 i hi]
  by_cases h : i < 16
  · rw [if_pos (by omega), decide_eq_false (show ¬ 32 ≤ i by omega), decide_eq_true h]
    simp
  · rw [decide_eq_false h, Bool.and_false]
    exact (BitVec.getLsbD_of_ge _ _ (by omega)).symm
/-- sixteen bits of a long, from bit k on -/
def pu_q (S : Int64) (k : Nat) : Nat := S.toBitVec.toNat / 2 ^ k % 65536
theorem pu_q_lt (S : Int64) (k : Nat) : pu_q S k < 65536 := Nat.mod_lt _ (by decide)
theorem pu_shr64 (S : Int64) {k : Nat} (hk : k ≤ 48) : (S >>> ((nI k).toInt64 &&& 63)) &&& 65535 = lN (pu_q S k) := by
  apply Int64.toBitVec_inj.mp
  have e1 : (((nI k).toInt64 &&& 63).toBitVec.smod 64).toNat = k := by
    rw [wb_c k (by omega), wb_tb, wb_sm k (by omega), BitVec.toNat_ofNat, Nat.mod_eq_of_lt (by omega)]
  show S.toBitVec.sshiftRight (((nI k).toInt64 &&& 63).toBitVec.smod 64).toNat &&& 65535#64 = _
  rw [e1, pu_bv _ _ hk]
  apply BitVec.eq_of_toNat_eq
  rw [BitVec.toNat_and, BitVec.toNat_ushiftRight, Nat.shiftRight_eq_div_pow, show (65535#64).toNat = 2 ^ 16 - 1 from by decide, Nat.and_two_pow_sub_one_eq_mod, wb_tn (Nat.lt_trans (pu_q_lt S k) (by decide))]
  rfl
theorem pu_nmod (m : Nat) : nI m &&& 65535 = nI (m % 65536) := by
  rw [pk_and (nI m) (m := 65535) 16 (by decide)]
  show nI ((BitVec.ofNat 32 m).toNat % 2 ^ 16) = _
  rw [BitVec.toNat_ofNat]
  congr 1
  omega
theorem pu_ushr64 (S : Int64) {k : Nat} (hk : k < 64) : ((S.toUInt64 >>> ((nI k).toInt64.toUInt64 &&& Int64.toUInt64 63)).toInt64).toInt32 &&& 65535 = nI (pu_q S k) := by
  obtain ⟨m, hm, e⟩ := wb_of S
  have e2 : pu_q S k = m / 2 ^ k % 65536 := by
    unfold pu_q
    rw [e, wb_tn hm]
  rw [e2, e, wb_shr hm hk, lN_i, pu_nmod]
theorem pu_sh1 : ∀ j, j < 16 → (16 * (nI j &&& 3) : Int32) = nI (16 * (j % 4)) := by decide +kernel
theorem pu_sh2 : ∀ j, j < 16 → (16 * (nI j - nI j / 4 * 4) : Int32) = nI (16 * (j % 4)) := by decide +kernel
theorem pu_sh3 : ∀ j, j < 16 → (15 - nI j : Int32) = nI (15 - j) := by decide +kernel
theorem pu_part (k : KR) {j : Nat} (hj : j < 16) : dk_part k (nI j) = nI (pu_q k.1 (16 * (j % 4))) := by
  unfold dk_part
  rw [pu_sh1 j hj, pu_ushr64 _ (by omega)]
theorem pu_mpart (S : Int64) {j : Nat} (hj : j < 16) : ((S >>> (((16 * (nI j - nI j / 4 * 4)) : Int32).toInt64 &&& 63)) &&& 65535).toInt32 = nI (pu_q S (16 * (j % 4))) := by
  rw [pu_sh2 j hj, pu_shr64 _ (by omega), lN_i]
def pu_mx (P : Nat) (b : Int32) (j : Nat) : Int32 := (((((b * 40503) + (nI P * ((2 * nI j) + 1))) ^^^ (b / 32)) ^^^ (nI P * 8)) &&& 65535)
theorem pu_mxE (P : Nat) (b : Int32) (j : Nat) : ∃ q : Nat, q < 65536 ∧ pu_mx P b j = nI q := pk_andE _ 16 (by decide)
theorem pu_mix (k : KR) (b : Int32) {j : Nat} (hj : j < 16) : dk_mix k b (nI j) = pu_mx (pu_q k.1 (16 * (j % 4))) b j := by
  unfold dk_mix
  rw [pu_part k hj]
  rfl
theorem pu_x16 {a b : Nat} (ha : a < 65536) (hb : b < 65536) : a ^^^ b < 65536 := Nat.xor_lt_two_pow (n := 16) ha hb
theorem pu_enc (k : KR) : ∀ (r j p q : Nat), j + r = 16 → p < 65536 → q < 65536 → ∃ p' q' : Nat, p' < 65536 ∧ q' < 65536 ∧ dk_enc_l k r j (nI p) (nI q) = dk_join (nI p') (nI q') ∧ md_rounds_l k.1 0 r j (nI p) (nI q) = ((nI p' <<< (16 &&& 31)) ||| nI q')
  | 0, j, p, q, _, hp, hq => ⟨p, q, hp, hq, rfl, rfl⟩
  | r + 1, j, p, q, h, hp, hq => by
    obtain ⟨x, hx, e⟩ := pu_mxE (pu_q k.1 (16 * (j % 4))) (nI q) j
    rw [dk_enc_l, md_rounds_l, if_pos rfl, pu_mix k _ (by omega), pu_mpart k.1 (by omega)]
    show ∃ p' q' : Nat, p' < 65536 ∧ q' < 65536 ∧ dk_enc_l k r (j + 1) (nI q) (nI p ^^^ pu_mx (pu_q k.1 (16 * (j % 4))) (nI q) j) = dk_join (nI p') (nI q') ∧ md_rounds_l k.1 0 r (j + 1) (nI q) (nI p ^^^ pu_mx (pu_q k.1 (16 * (j % 4))) (nI q) j) = ((nI p' <<< (16 &&& 31)) ||| nI q')
    rw [e, nx_xor]
    exact pu_enc k r (j + 1) q (p ^^^ x) (by omega) hq (pu_x16 hp hx)
theorem pu_dec (k : KR) : ∀ (r j p q : Nat), j + r = 16 → p < 65536 → q < 65536 → ∃ p' q' : Nat, p' < 65536 ∧ q' < 65536 ∧ dk_dec_l k r (nI p) (nI q) = dk_join (nI p') (nI q') ∧ md_rounds_l k.1 1 r j (nI q) (nI p) = ((nI q' <<< (16 &&& 31)) ||| nI p')
  | 0, j, p, q, _, hp, hq => ⟨p, q, hp, hq, rfl, rfl⟩
  | r + 1, j, p, q, h, hp, hq => by
    obtain ⟨x, hx, e⟩ := pu_mxE (pu_q k.1 (16 * (r % 4))) (nI p) r
    rw [dk_dec_l, md_rounds_l, if_neg (by decide), pu_mix k _ (by omega), pu_sh3 j (by omega), show 15 - j = r by omega, pu_mpart k.1 (by omega)]
    show ∃ p' q' : Nat, p' < 65536 ∧ q' < 65536 ∧ dk_dec_l k r (nI q ^^^ pu_mx (pu_q k.1 (16 * (r % 4))) (nI p) r) (nI p) = dk_join (nI p') (nI q') ∧ md_rounds_l k.1 1 r (j + 1) (nI p) (nI q ^^^ pu_mx (pu_q k.1 (16 * (r % 4))) (nI p) r) = ((nI q' <<< (16 &&& 31)) ||| nI p')
    rw [e, nx_xor]
    exact pu_dec k r (j + 1) (q ^^^ x) p (by omega) (pu_x16 hq hx) hp
theorem pu_join {p q : Nat} (hp : p < 65536) (hq : q < 65536) : dk_join (nI p) (nI q) = lN (p * 65536 + q) := by
  unfold dk_join
  rw [nI_l (by omega), nI_l (by omega), show (65536 : Int64) = lN 65536 from rfl, lN_mul, lN_add]
theorem pu_or {a b k : Nat} (hb : b < 2 ^ k) : nI (a * 2 ^ k) ||| nI b = nI (a * 2 ^ k + b) := by
  have h1 : a * 2 ^ k ||| b = a * 2 ^ k + b := by rw [← Nat.shiftLeft_eq, Nat.shiftLeft_add_eq_or_of_lt hb]
  rw [← h1]
  apply Int32.toBitVec_inj.mp
  show BitVec.ofNat 32 _ ||| BitVec.ofNat 32 _ = BitVec.ofNat 32 _
  apply BitVec.eq_of_getLsbD_eq
  intro i hi
  simp [hi]
theorem pu_word {p q : Nat} (hp : p < 65536) (hq : q < 65536) : ((nI p <<< (16 &&& 31)) ||| nI q) = nI (p * 65536 + q) := by
  rw [pk_shlN (16 &&& 31) 16 (by decide) (by omega)]
  exact pu_or (k := 16) hq
theorem pu_w32 {n : Nat} (h : n < 2 ^ 32) : (nI n).toInt64 &&& 4294967295 = lN n := by
  apply Int64.toBitVec_inj.mp
  show (BitVec.signExtend 64 (BitVec.ofNat 32 n)) &&& 4294967295#64 = BitVec.ofNat 64 n
  apply BitVec.eq_of_getLsbD_eq
  intro i hi
  rw [BitVec.getLsbD_and, BitVec.getLsbD_signExtend, pu_mw i hi, BitVec.getLsbD_ofNat, BitVec.getLsbD_ofNat]
  by_cases c : i < 32
  · rw [if_pos c, decide_eq_true c, decide_eq_true hi]
    simp
  · rw [decide_eq_false c, Bool.and_false, Nat.testBit_lt_two_pow (Nat.lt_of_lt_of_le h (Nat.pow_le_pow_right (by decide) (by omega))), Bool.and_false]
theorem pu_hi {m : Nat} (h : m < 2 ^ 32) : (nI m >>> (16 &&& 31)) &&& 65535 = nI (m / 65536) := by
  apply Int32.toBitVec_inj.mp
  show (nI m).toBitVec.sshiftRight 16 &&& 65535#32 = _
  rw [pu_bv32]
  apply BitVec.eq_of_toNat_eq
  rw [BitVec.toNat_ushiftRight, pk_tn h, pk_tn (by omega), Nat.shiftRight_eq_div_pow]
theorem pu_q0 {m : Nat} (hm : m < 2 ^ 32) : pu_q (lN m) 16 = m / 65536 := by
  unfold pu_q
  rw [wb_tn (by omega)]
  omega
theorem pu_halves {m : Nat} (hm : m < 2 ^ 32) : ((((lN m).toUInt64 >>> ((16 : Int32).toInt64.toUInt64 &&& Int64.toUInt64 63)).toInt64).toInt32 &&& 65535) = nI (m / 65536) ∧ ((lN m).toInt32 &&& 65535) = nI (m % 65536) := by
  refine ⟨?_, ?_⟩
  · rw [← pu_q0 hm]
    exact pu_ushr64 (lN m) (k := 16) (by decide)
  · rw [lN_i, pu_nmod]
/-- the answer to a question -/
theorem pu_answer (k : KR) {m : Nat} (hm : m < 2 ^ 32) : dk_enc k (lN m) = (md_rounds k.1 ((lN m >>> ((16 : Int32).toInt64 &&& 63)).toInt32) ((lN m &&& 65535).toInt32) 0).toInt64 &&& 4294967295 := by
  unfold dk_enc md_rounds
  have e1 : lN m >>> ((16 : Int32).toInt64 &&& 63) = lN (m / 2 ^ 16) := pf_shr (by decide) (by omega)
  have e2 : lN m &&& 65535 = lN (m % 2 ^ 16) := wb_mask (k := 16) (by omega) (by decide)
  rw [(pu_halves hm).1, (pu_halves hm).2, e1, e2, lN_i, lN_i]
  obtain ⟨p, q, hp, hq, g1, g2⟩ := pu_enc k 16 0 (m / 65536) (m % 65536) (by omega) (by omega) (by omega)
  rw [g1, show m / 2 ^ 16 = m / 65536 from rfl, show m % 2 ^ 16 = m % 65536 from rfl, g2, pu_join hp hq, pu_word hp hq, pu_w32 (by omega)]
theorem pr_start {n N : Nat} {st dd : Nat → Int32} {K : Nat → KR} {se : Nat → Int64} {ct aw le ne ins ba : Nat → Int32} {kA : Int32} {oA : Nat → Int8} {gv : Nat} {un : Nat → Int32} {kB : Int32} {oB : Nat → Int8} {sz : Nat} {fr : Nat → Int32} (hR : lw_R n N st dd K se ct aw le ne ins ba kA oA gv un kB oB sz fr) (qs cr : Int32) (x : Int32) (y : Int64)  : (dk_start n K qs cr x y).1 = (md_start n se le ins cr qs x y).1 ∧ (dk_start n K qs cr x y).2.1 = (md_start n se le ins cr qs x y).2.1 ∧ (dk_start n K qs cr x y).2.2 = (md_start n se le ins cr qs x y).2.2 ∧ lw_R n (N + 1) st dd K se ct aw le ne ins ba kA oA gv un kB oB sz fr := by
  have hn := hR.1
  have hK := hR.2.2.2.1
  have hU := hR.up (N' := N + 1) (by omega)
  have hh : dk_start n K qs cr x y = md_start n se le ins cr qs x y := by
    unfold dk_start md_start
    by_cases hx : dk_fkP n x
    · rw [if_pos hx, if_pos (pu_none.mpr hx)]
      obtain ⟨j, hj, e, e1, e2, e3, _⟩ := pu_key hn hK hx
      rw [e1, e2, e3]
      obtain ⟨m, hm, em⟩ := pf_andw (2654435761 * (qs + 1).toInt64)
      rw [em, pu_answer _ hm]
    · rw [if_neg hx, if_neg (fun h => hx (pu_none.mp h))]
  rw [hh]
  exact ⟨rfl, rfl, rfl, hU⟩
/-- a code deciphered: its halves -/
theorem pu_code (k : KR) {m : Nat} (hm : m < 2 ^ 32) : ∃ p q : Nat, p < 65536 ∧ q < 65536 ∧ dk_dec k (lN m) = lN (p * 65536 + q) ∧ md_back k.1 (nI m) = nI (p * 65536 + q) := by
  unfold dk_dec md_back md_rounds
  rw [(pu_halves hm).1, (pu_halves hm).2, pu_hi hm, pu_nmod]
  obtain ⟨p, q, hp, hq, g1, g2⟩ := pu_dec k 16 0 (m / 65536) (m % 65536) (by omega) (by omega) (by omega)
  refine ⟨p, q, hp, hq, ?_, ?_⟩
  · rw [g1, pu_join hp hq]
  · rw [g2, pu_word hq hp, pu_hi (by omega), show (q * 65536 + p) / 65536 = q by omega]
    have e : nI (q * 65536 + p) <<< (16 &&& 31) = nI (p * 2 ^ 16) := by
      apply Int32.toBitVec_inj.mp
      apply BitVec.eq_of_toNat_eq
      rw [pk_shl _ _ 16 (by decide), pk_tn (by omega), pk_tn (by omega)]
      omega
    rw [e]
    exact pu_or (k := 16) hq
theorem pu_dist (a b c : Int64) : (a ^^^ b) &&& c = (a &&& c) ^^^ (b &&& c) := by
  apply Int64.toBitVec_inj.mp
  rw [Int64.toBitVec_and, Int64.toBitVec_xor, Int64.toBitVec_xor, Int64.toBitVec_and, Int64.toBitVec_and]
  apply BitVec.eq_of_getLsbD_eq
  intro i hi
  rw [BitVec.getLsbD_and, BitVec.getLsbD_xor, BitVec.getLsbD_xor, BitVec.getLsbD_and, BitVec.getLsbD_and]
  cases a.toBitVec.getLsbD i <;> cases b.toBitVec.getLsbD i <;> cases c.toBitVec.getLsbD i <;> rfl
/-- the sign of a secret -/
theorem pu_sign (k : KR) : ∃ s : Nat, s < 65536 ∧ dk_sign k = nI s ∧ md_sign k.1 = nI s := by
  refine ⟨((pu_q k.1 0 ^^^ pu_q k.1 16) ^^^ pu_q k.1 32) ^^^ pu_q k.1 48, pu_x16 (pu_x16 (pu_x16 (pu_q_lt _ _) (pu_q_lt _ _)) (pu_q_lt _ _)) (pu_q_lt _ _), ?_, ?_⟩
  · unfold dk_sign
    have e0 : dk_part k 0 = nI (pu_q k.1 0) := pu_part k (j := 0) (by decide)
    have e1 : dk_part k 1 = nI (pu_q k.1 16) := pu_part k (j := 1) (by decide)
    have e2 : dk_part k 2 = nI (pu_q k.1 32) := pu_part k (j := 2) (by decide)
    have e3 : dk_part k 3 = nI (pu_q k.1 48) := pu_part k (j := 3) (by decide)
    rw [e0, e1, e2, e3, nx_xor, nx_xor, nx_xor]
  · unfold md_sign
    have e0 : k.1 &&& 65535 = lN (pu_q k.1 0) := by
      obtain ⟨m, hm, e⟩ := wb_of k.1
      have e2 : pu_q k.1 0 = m % 2 ^ 16 := by
        unfold pu_q
        rw [e, wb_tn hm, Nat.pow_zero, Nat.div_one]
      rw [e2, e]
      exact wb_mask (k := 16) hm (by decide)
    have e1 : k.1 >>> ((16 : Int32).toInt64 &&& 63) &&& 65535 = lN (pu_q k.1 16) := pu_shr64 k.1 (k := 16) (by decide)
    have e2 : k.1 >>> ((32 : Int32).toInt64 &&& 63) &&& 65535 = lN (pu_q k.1 32) := pu_shr64 k.1 (k := 32) (by decide)
    have e3 : k.1 >>> ((48 : Int32).toInt64 &&& 63) &&& 65535 = lN (pu_q k.1 48) := pu_shr64 k.1 (k := 48) (by decide)
    rw [pu_dist, pu_dist, pu_dist, e0, e1, e2, e3, lN_xor, lN_xor, lN_xor, lN_i]
