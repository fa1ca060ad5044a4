/-! The class's world: DoorKeys, its keys' row, two frames with their octets, the doors with their states, and n keys. -/
abbrev KR : Type := Int64 × Int32 × Int32 × Int32 × Int32 × Int32 × Int32
abbrev kcell (k : KR) : va_E := .inr (3, [.long k.1, .int k.2.1, .int k.2.2.1, .int k.2.2.2.1, .int k.2.2.2.2.1, .int k.2.2.2.2.2.1, .int k.2.2.2.2.2.2])
def kpool (L : Nat → Nat) (K : Nat → KR) (n : Nat) : va_W := (List.range n).map (fun i => (L i, kcell (K i)))
def dkW (cK cB cI : ClassId) (o ks fa oa fb ob dr ds : Nat) (L : Nat → Nat) (n : Nat) (sp : Int32) (co en : Nat) (cr rl qs kA : Int32) (oA : Nat → Int8) (kB : Int32) (oB : Nat → Int8) (tt ss : Int64) (st : Nat → Int32) (K : Nat → KR) : va_W :=
  (o, .inr (4, [.int sp, .ref ks, .int (nI n), .ref co, .ref en, .ref dr, .int cr, .int rl, .int qs])) :: (ks, .inl (cK, 8, .inr (.inr (.inr (.inr (fun i => if i < n then some (L i) else none)))))) :: (fa, .inr (2, [.ref oa, .int kA])) :: (oa, .inl (cB, 16, .inl (fun j => (oA j).toInt32))) :: (fb, .inr (2, [.ref ob, .int kB])) :: (ob, .inl (cB, 16, .inl (fun j => (oB j).toInt32))) :: (dr, .inr (1, [.ref ds, .long tt, .long ss])) :: (ds, .inl (cI, 5, .inl st)) :: kpool L K n
abbrev dkT (cK cB cI : ClassId) : List (ClassId × FieldType) := [(cK, .object "DoorKeys$Key"), (cB, .byte), (cI, .int)]
theorem kpool_get {L : Nat → Nat} {K : Nat → KR} {n i : Nat} (hi : i < n) : (kpool L K n)[i]? = some (L i, kcell (K i)) := by
  simp [kpool, hi]
theorem kpool_set {L : Nat → Nat} {K : Nat → KR} {n i : Nat} {r : KR} : (kpool L K n).set i (L i, kcell r) = kpool L (va_up K i r) n := by
  apply List.ext_getElem?
  intro j
  by_cases hj : j < n
  · by_cases h : i = j
    · subst h
      simp [kpool, hj, va_up]
    · have h2 : ¬ j = i := fun z => h z.symm
      simp [kpool, hj, va_up, List.getElem?_set, h, h2]
  · have hl : ¬ i = j ∨ ¬ j < n := Or.inr hj
    by_cases h : i = j
    · subst h
      simp [kpool, hj, List.getElem?_set]
    · simp [kpool, hj, List.getElem?_set, h]
theorem kpool_fst {L : Nat → Nat} {K : Nat → KR} {n : Nat} : (kpool L K n).map Prod.fst = (List.range n).map L := by
  simp [kpool, Function.comp_def]
section DKW
variable {cK cB cI : ClassId} {o ks fa oa fb ob dr ds : Nat} {L : Nat → Nat} {n : Nat} {sp : Int32} {co en : Nat} {cr rl qs kA : Int32} {oA : Nat → Int8} {kB : Int32} {oB : Nat → Int8} {tt ss : Int64} {st : Nat → Int32} {K : Nat → KR} {i : Nat} {k r r0 : KR} {x : Int32}
theorem dk_keyk (hi : i < n) (hk : K i = k) : (dkW cK cB cI o ks fa oa fb ob dr ds L n sp co en cr rl qs kA oA kB oB tt ss st K)[i + 8]? = some (L i, kcell k) := by
  subst hk
  exact kpool_get hi
theorem dk_put (_hi : i < n) : (dkW cK cB cI o ks fa oa fb ob dr ds L n sp co en cr rl qs kA oA kB oB tt ss st K).set (i + 8) (L i, kcell r) = dkW cK cB cI o ks fa oa fb ob dr ds L n sp co en cr rl qs kA oA kB oB tt ss st (va_up K i r) := by
  unfold dkW
  rw [← kpool_set]
  rfl
theorem dk_putU (hi : i < n) : (dkW cK cB cI o ks fa oa fb ob dr ds L n sp co en cr rl qs kA oA kB oB tt ss st (va_up K i r0)).set (i + 8) (L i, kcell r) = dkW cK cB cI o ks fa oa fb ob dr ds L n sp co en cr rl qs kA oA kB oB tt ss st (va_up K i r) := by
  rw [dk_put hi, bx_uu]
theorem dk_fst : (dkW cK cB cI o ks fa oa fb ob dr ds L n sp co en cr rl qs kA oA kB oB tt ss st K).map Prod.fst = o :: ks :: fa :: oa :: fb :: ob :: dr :: ds :: (List.range n).map L := by
  unfold dkW
  simp only [List.map_cons, kpool_fst]
/-- the two frames change their places in the list -/
theorem dk_swapP {D : va_G} {cl : List vw_C} {H : Heap} (h : va_P D cl (dkW cK cB cI o ks fa oa fb ob dr ds L n sp co en cr rl qs kA oA kB oB tt ss st K) H) : va_P D cl (dkW cK cB cI o ks fb ob fa oa dr ds L n sp co en cr rl qs kB oB kA oA tt ss st K) H := by
  refine va_P.by h (fun k => match k with | 2 => 4 | 3 => 5 | 4 => 2 | 5 => 3 | k => k) ?_
  intro k q hk
  match k, hk with
  | 0, hk => exact hk
  | 1, hk => exact hk
  | 2, hk => exact hk
  | 3, hk => exact hk
  | 4, hk => exact hk
  | 5, hk => exact hk
  | 6, hk => exact hk
  | 7, hk => exact hk
  | k + 8, hk => exact hk
theorem dk_swapD {A : Nat → Prop} (h : va_D A (dkW cK cB cI o ks fa oa fb ob dr ds L n sp co en cr rl qs kA oA kB oB tt ss st K)) : va_D A (dkW cK cB cI o ks fb ob fa oa dr ds L n sp co en cr rl qs kB oB kA oA tt ss st K) := by
  refine va_D.by h (fun k => match k with | 2 => 4 | 3 => 5 | 4 => 2 | 5 => 3 | k => k) ?_ ?_
  · intro k q hk
    match k, hk with
    | 0, hk => exact hk
    | 1, hk => exact hk
    | 2, hk => exact hk
    | 3, hk => exact hk
    | 4, hk => exact hk
    | 5, hk => exact hk
    | 6, hk => exact hk
    | 7, hk => exact hk
    | k + 8, hk => exact hk
  · intro i j _ _ hij
    match i, j, hij with
    | 0, 0, _ | 1, 1, _ | 2, 2, _ | 3, 3, _ | 4, 4, _ | 5, 5, _ | 6, 6, _ | 7, 7, _ => rfl
    | i + 6, j + 6, hij => exact hij
    | 0, j + 6, hij | 1, j + 6, hij | 2, j + 6, hij | 3, j + 6, hij | 4, j + 6, hij | 5, j + 6, hij => simp at hij; try omega
    | i + 6, 0, hij | i + 6, 1, hij | i + 6, 2, hij | i + 6, 3, hij | i + 6, 4, hij | i + 6, 5, hij => simp at hij; try omega
    | 0, 1, hij | 0, 2, hij | 0, 3, hij | 0, 4, hij | 0, 5, hij | 1, 0, hij | 1, 2, hij | 1, 3, hij | 1, 4, hij | 1, 5, hij | 2, 0, hij | 2, 1, hij | 2, 3, hij | 2, 4, hij | 2, 5, hij | 3, 0, hij | 3, 1, hij | 3, 2, hij | 3, 4, hij | 3, 5, hij | 4, 0, hij | 4, 1, hij | 4, 2, hij | 4, 3, hij | 4, 5, hij | 5, 0, hij | 5, 1, hij | 5, 2, hij | 5, 3, hij | 5, 4, hij => simp at hij
/-- a number of a key -/
abbrev dk_fkP (n : Nat) (x : Int32) : Prop := ¬ x < 1 ∧ ¬ nI n < x
/-- its place -/
def dk_fki (x : Int32) : Nat := (x - 1).toNatClampNeg
theorem dk_fk_ex (hn : n ≤ 8) (h : dk_fkP n x) : ∃ j : Nat, j < n ∧ x = nI (j + 1) := by
  obtain ⟨h1, h2⟩ := h
  have h0 : ¬ x < 0 := by
    simp only [Int32.lt_iff_toInt_lt] at h1 ⊢
    have z : (0 : Int32).toInt = 0 := rfl
    have o : (1 : Int32).toInt = 1 := rfl
    omega
  obtain ⟨j, hj, rfl⟩ := nI_of h0
  have e2 := (nI_ltI (a := n) (b := j) (by omega) hj)
  have e1 := (nI_ltI (a := j) (b := 1) hj (by omega))
  have h1' : ¬ j < 1 := fun z => h1 (e1.mpr z)
  have h2' : ¬ n < j := fun z => h2 (e2.mpr z)
  exact ⟨j - 1, by omega, by congr 1; omega⟩
theorem dk_fki_nI {j : Nat} (hj : j < 8) : dk_fki (nI (j + 1)) = j := by
  unfold dk_fki
  rw [nI_pred]
  exact nI_clamp (by omega)
theorem dk_fk_lt (hn : n ≤ 8) (h : dk_fkP n x) : dk_fki x < n := by
  obtain ⟨j, hj, rfl⟩ := dk_fk_ex hn h
  rw [dk_fki_nI (by omega)]
  exact hj
theorem dk_fk_in (hn : n ≤ 8) (h : dk_fkP n x) : vp_in (x - 1) 8 := by
  obtain ⟨j, hj, rfl⟩ := dk_fk_ex hn h
  rw [nI_pred]
  exact vp_in_nI (by omega) (by decide)
theorem dk_fk_8 (hn : n ≤ 8) (h : dk_fkP n x) : ¬ 8 < x := by
  obtain ⟨j, hj, rfl⟩ := dk_fk_ex hn h
  exact nI_nlt (a := 8) (b := j + 1) (by omega) (by decide)
theorem dk_fkv (hn : n ≤ 8) (h : dk_fkP n x) : va_rf ((fun i => if i < n then some (L i) else none) (x - 1).toNatClampNeg) = .ref (L (dk_fki x)) := by
  have := dk_fk_lt hn h
  unfold dk_fki at this ⊢
  simp only [this, if_true]
  rfl
theorem dk_fk_nI {j : Nat} (hj : j < n) (hn : n ≤ 8) : dk_fkP n (nI (j + 1)) := ⟨nI_nlt (a := j + 1) (b := 1) (by omega) (by omega), nI_nlt (a := n) (b := j + 1) (by omega) (by omega)⟩
end DKW
