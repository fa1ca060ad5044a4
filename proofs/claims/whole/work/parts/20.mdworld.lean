/-! The reference's world: one object and ten arrays. -/
def mdW (cI cJ cZ : ClassId) (q aS aC aW aL aN aI aB aD aU aF : Nat) (n gv sz : Nat) (cd sp : Int32) (se : Nat → Int64) (ct aw le ne ins ba dd : Nat → Int32) (cr : Int32) (nw cs : Int64) (un fr : Nat → Int32) (rl qs : Int32) : va_W :=
  [(q, .inr (5, [.int cd, .int sp, .int (nI n), .ref aS, .ref aC, .ref aW, .ref aL, .ref aN, .ref aI, .ref aB, .ref aD, .int cr, .long nw, .long cs, .int (nI gv), .ref aU, .int (nI sz), .ref aF, .int rl, .int qs])), (aS, .inl (cJ, 9, .inr (.inl se))), (aC, .inl (cI, 9, .inl ct)), (aW, .inl (cI, 9, .inl aw)), (aL, .inl (cZ, 9, .inl le)), (aN, .inl (cZ, 9, .inl ne)), (aI, .inl (cZ, 9, .inl ins)), (aB, .inl (cI, 9, .inl ba)), (aD, .inl (cI, 5, .inl dd)), (aU, .inl (cI, 16, .inl un)), (aF, .inl (cI, 16, .inl fr))]
abbrev mdT (cI cJ cZ : ClassId) : List (ClassId × FieldType) := [(cI, .int), (cJ, .long), (cZ, .boolean)]
theorem md_fst {cI cJ cZ : ClassId} {q aS aC aW aL aN aI aB aD aU aF : Nat} {n gv sz : Nat} {cd sp : Int32} {se : Nat → Int64} {ct aw le ne ins ba dd : Nat → Int32} {cr : Int32} {nw cs : Int64} {un fr : Nat → Int32} {rl qs : Int32} : (mdW cI cJ cZ q aS aC aW aL aN aI aB aD aU aF n gv sz cd sp se ct aw le ne ins ba dd cr nw cs un fr rl qs).map Prod.fst = [q, aS, aC, aW, aL, aN, aI, aB, aD, aU, aF] := rfl
theorem md_in9 {n : Nat} (hn : n ≤ 8) {x : Int32} (h1 : ¬ x < 1) (h2 : ¬ nI n < x) : vp_in x 9 := by
  obtain ⟨j, hj, rfl⟩ := dk_fk_ex hn ⟨h1, h2⟩
  exact vp_in_nI (by omega) (by decide)
theorem md_n8 {n : Nat} (hn : n ≤ 8) (h : ¬ nI n = 8) : n + 1 < 9 := by
  have e := nI_eq (a := n) (b := 8) (by omega) (by decide)
  have : ¬ n = 8 := fun z => h (e.mpr z)
  omega
theorem md_nar1 {a : Nat} (h : a ≤ 1) : narrow .boolean (.int (nI a)) = .int (nI a) := by
  rcases (show a = 0 ∨ a = 1 by omega) with rfl | rfl <;> rfl
theorem md_lt16 {g : Nat} (hg : g < 100000) (h : ¬ 16 ≤ nI g) : g < 16 := by
  have e := nI_leI (a := 16) (b := g) (by decide) (by omega)
  have : ¬ 16 ≤ g := fun z => h (e.mpr z)
  omega
theorem md_le16 {g : Nat} (hg : g < 100000) (h : nI (g + 1) ≤ 16) : g + 1 ≤ 16 :=
  (nI_leI (a := g + 1) (b := 16) (by omega) (by decide)).mp h
theorem md_in16 {z : Nat} (hz : z ≤ 16) {x : Int32} (h1 : ¬ x < 0) (h2 : x < nI z) : vp_in x 16 := by
  obtain ⟨j, hj, rfl⟩ := nI_of h1
  have := (nI_ltI (a := j) (b := z) hj (by omega)).mp h2
  exact vp_in_nI (by omega) (by decide)
theorem md_in5 {x : Int32} (h1 : ¬ x < 0) (h2 : x ≤ 6) (h3 : ¬ x = 5) (h4 : ¬ x = 6) : vp_in x 5 := by
  obtain ⟨j, hj, rfl⟩ := nI_of h1
  have e2 := (nI_leI (a := j) (b := 6) hj (by decide)).mp h2
  have e3 : ¬ j = 5 := fun z => h3 ((nI_eq (a := j) (b := 5) hj (by decide)).mpr z)
  have e4 : ¬ j = 6 := fun z => h4 ((nI_eq (a := j) (b := 6) hj (by decide)).mpr z)
  exact vp_in_nI (by omega) (by decide)
