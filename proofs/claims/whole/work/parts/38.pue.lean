/-! Class and reference: the field. -/
def pu_D (x y : Int64) (j : Nat) : Int64 := ((x - (dk_px j).toInt64) * (x - (dk_px j).toInt64)) + ((y - (dk_py j).toInt64) * (y - (dk_py j).toInt64))
theorem pu_far (x y : Int64) {j : Nat} (hj : j < 5) : md_far (nI j) x y = pu_D x y j := by
  have : j = 0 ∨ j = 1 ∨ j = 2 ∨ j = 3 ∨ j = 4 := by omega
  unfold pu_D
  rcases this with e | e | e | e | e <;> subst e
  · have p1 : (dk_px 0).toInt64 = 1000 := by decide
    have p2 : (dk_py 0).toInt64 = 900 := by decide
    rw [p1, p2]
    show md_far 0 x y = _
    unfold md_far
    rw [if_neg (by decide), if_neg (by decide), if_pos (by decide)]
  · have p1 : (dk_px 1).toInt64 = 1000 := by decide
    have p2 : (dk_py 1).toInt64 = -900 := by decide
    rw [p1, p2]
    show md_far 1 x y = _
    unfold md_far
    rw [if_neg (by decide), if_neg (by decide), if_neg (by decide)]
  · have p1 : (dk_px 2).toInt64 = -500 := by decide
    have p2 : (dk_py 2).toInt64 = 900 := by decide
    rw [p1, p2]
    show md_far 2 x y = _
    unfold md_far
    rw [if_pos (by decide), if_neg (by decide), if_neg (by decide), if_pos (by decide)]
  · have p1 : (dk_px 3).toInt64 = -500 := by decide
    have p2 : (dk_py 3).toInt64 = -900 := by decide
    rw [p1, p2]
    show md_far 3 x y = _
    unfold md_far
    rw [if_pos (by decide), if_neg (by decide), if_neg (by decide), if_neg (by decide)]
  · have p1 : (dk_px 4).toInt64 = -2200 := by decide
    have p2 : (dk_py 4).toInt64 = 0 := by decide
    rw [p1, p2]
    show md_far 4 x y = _
    unfold md_far
    rw [if_pos (by decide), if_pos (by decide), if_pos (by decide)]
def pu_NP (x y : Int64) (bi : Nat) (a : Int32) (b : Int64) : Prop := (pu_D x y bi < 2250001 ∧ a = nI bi ∧ b = pu_D x y bi) ∨ (2250001 ≤ pu_D x y bi ∧ a = -1 ∧ b = 2250001)
theorem pu_nearl (x y : Int64) {a : Int32} {b : Int64} {r j : Nat} (hj : j < 5) : dk_near_l x y (r + 1) j a b = if 0 ≤ lg_cmp (pu_D x y j) b then dk_near_l x y r (j + 1) a b else dk_near_l x y r (j + 1) (nI j) (pu_D x y j) := by
  rw [dk_near_l, nI_clamp (by omega)]
  rfl
theorem pu_near (le ne ins dd : Nat → Int32) (nw cs : Int64) (z : Int32) (x y : Int64) (v rl : Int32) : ∀ (r j bi : Nat) (a : Int32) (b : Int64), j + r = 4 → bi ≤ j → pu_NP x y bi a b →
    ∃ bi' : Nat, bi' < 5 ∧ md_field_l le ne ins dd nw cs z x y v rl r j bi = md_field_l le ne ins dd nw cs z x y v rl 0 0 bi' ∧ ∃ b' : Int64, pu_NP x y bi' (dk_near_l x y r (j + 1) a b) b'
  | 0, j, bi, a, b, h, hb, hp => ⟨bi, by omega, rfl, b, hp⟩
  | r + 1, j, bi, a, b, h, hb, hp => by
    rw [pu_nearl x y (by omega)]
    have e : md_field_l le ne ins dd nw cs z x y v rl (r + 1) j bi = if 0 ≤ lg_cmp (md_far (nI (j + 1)) x y) (md_far (nI bi) x y) then md_field_l le ne ins dd nw cs z x y v rl r (j + 1) bi else md_field_l le ne ins dd nw cs z x y v rl r (j + 1) (j + 1) := by
      conv => lhs; rw [md_field_l]
    rw [e, pu_far x y (by omega), pu_far x y (by omega)]
    simp only [lg_cmp_ge]
    have a1 : (2250001 : Int64).toInt = 2250001 := by decide
    by_cases c : pu_D x y bi ≤ pu_D x y (j + 1)
    · rw [if_pos c]
      have c2 : b ≤ pu_D x y (j + 1) := by
        rcases hp with ⟨h1, h2, h3⟩ | ⟨h1, h2, h3⟩
        · rw [h3]; exact c
        · rw [h3]
          rw [Int64.le_iff_toInt_le] at *
          omega
      rw [if_pos c2]
      exact pu_near le ne ins dd nw cs z x y v rl r (j + 1) bi a b (by omega) (by omega) hp
    · rw [if_neg c]
      by_cases c2 : b ≤ pu_D x y (j + 1)
      · rw [if_pos c2]
        refine pu_near le ne ins dd nw cs z x y v rl r (j + 1) (j + 1) a b (by omega) (by omega) ?_
        rcases hp with ⟨h1, h2, h3⟩ | ⟨h1, h2, h3⟩
        · rw [h3] at c2; exact absurd c2 c
        · rw [h3] at c2
          exact Or.inr ⟨c2, h2, h3⟩
      · rw [if_neg c2]
        refine pu_near le ne ins dd nw cs z x y v rl r (j + 1) (j + 1) _ _ (by omega) (by omega) ?_
        refine Or.inl ⟨?_, rfl, rfl⟩
        rcases hp with ⟨h1, h2, h3⟩ | ⟨h1, h2, h3⟩
        · rw [h3] at c2
          rw [Int64.lt_iff_toInt_lt] at *
          rw [Int64.le_iff_toInt_le] at *
          omega
        · rw [h3] at c2
          exact Int64.not_le.mp c2
theorem pu_near5 (le ne ins dd : Nat → Int32) (nw cs : Int64) (z : Int32) (x y : Int64) (v rl : Int32) :
    ∃ bi : Nat, bi < 5 ∧ md_field_c le ne ins dd nw cs z x y v rl = md_field_l le ne ins dd nw cs z x y v rl 0 0 bi ∧ ((¬ 0 < lg_cmp (md_far (nI bi) x y) 2250000 ∧ dk_near x y = nI bi) ∨ (0 < lg_cmp (md_far (nI bi) x y) 2250000 ∧ dk_near x y = -1)) := by
  unfold md_field_c dk_near
  have a1 : (2250001 : Int64).toInt = 2250001 := by decide
  have a2 : (2250000 : Int64).toInt = 2250000 := by decide
  rw [pu_nearl x y (by omega)]
  have key : ∀ (a : Int32) (b : Int64), pu_NP x y 0 a b → ∃ bi : Nat, bi < 5 ∧ md_field_l le ne ins dd nw cs z x y v rl 4 0 0 = md_field_l le ne ins dd nw cs z x y v rl 0 0 bi ∧ ((¬ 0 < lg_cmp (md_far (nI bi) x y) 2250000 ∧ dk_near_l x y 4 (0 + 1) a b = nI bi) ∨ (0 < lg_cmp (md_far (nI bi) x y) 2250000 ∧ dk_near_l x y 4 (0 + 1) a b = -1)) := by
    intro a b hp
    obtain ⟨bi, h1, h2, b', h3⟩ := pu_near le ne ins dd nw cs z x y v rl 4 0 0 a b (by omega) (by omega) hp
    refine ⟨bi, h1, h2, ?_⟩
    rw [pu_far x y h1, lg_cmp_gt]
    rcases h3 with ⟨g1, g2, g3⟩ | ⟨g1, g2, g3⟩
    · refine Or.inl ⟨?_, g2⟩
      rw [Int64.lt_iff_toInt_lt] at *
      omega
    · refine Or.inr ⟨?_, g2⟩
      rw [Int64.lt_iff_toInt_lt]
      rw [Int64.le_iff_toInt_le] at g1
      omega
  by_cases c : 0 ≤ lg_cmp (pu_D x y 0) 2250001
  · rw [if_pos c]
    exact key _ _ (Or.inr ⟨(lg_cmp_ge _ _).mp c, rfl, rfl⟩)
  · rw [if_neg c]
    refine key _ _ (Or.inl ⟨?_, rfl, rfl⟩)
    rw [lg_cmp_ge] at c
    exact Int64.not_le.mp c
theorem pu_within (x y : Int64) : dk_within x y = 0 ↔ (lg_cmp x (-y) < 0 ∨ 0 < lg_cmp x y) := by
  unfold dk_within
  by_cases c1 : lg_cmp x (-y) < 0
  · rw [if_pos c1]
    exact ⟨fun _ => Or.inl c1, fun _ => rfl⟩
  · rw [if_neg c1]
    by_cases c2 : 0 < lg_cmp x y
    · rw [if_pos c2]
      exact ⟨fun _ => Or.inr c2, fun _ => rfl⟩
    · rw [if_neg c2]
      exact ⟨fun h => absurd h (by decide), fun h => by rcases h with h | h <;> contradiction⟩
theorem pu_nn1 {b : Nat} (hb : b < 5) : ¬ nI b = -1 := by
  intro h
  have : (nI b).toInt = (-1 : Int32).toInt := by rw [h]
  rw [nI_toInt (by omega)] at this
  have a : (-1 : Int32).toInt = -1 := by decide
  omega
/-- what both do with a field whose numbers are in their spans -/
theorem pu_fieldw (n : Nat) (le ne ins dd : Nat → Int32) (nw cs : Int64) (rl x : Int32) (y u w : Int64) (hx : dk_fkP n x) (h1 : ¬ dk_within y 1000000 = 0) (h2 : ¬ dk_within u 1000000 = 0) (h3 : 0 ≤ lg_cmp w 1) : md_field n le ne ins dd nw cs rl x y u w = if 0 < lg_cmp w 2000 then md_field_c le ne ins dd nw cs x y u 1 (rl + 1) else md_field_c le ne ins dd nw cs x y u 0 rl := by
  unfold md_field
  rw [pu_within] at h1 h2
  rw [if_pos (pu_none.mpr hx), if_neg (fun z => h1 (Or.inl z)), if_neg (fun z => h1 (Or.inr z)), if_neg (fun z => h2 (Or.inl z)), if_neg (fun z => h2 (Or.inr z)), if_pos h3]
  by_cases c : 0 < lg_cmp w 2000
  · rw [if_pos c, if_neg]
    rw [lg_cmp_gt] at c
    rw [lg_cmp_le]
    exact Int64.not_le.mpr c
  · rw [if_neg c, if_pos]
    rw [lg_cmp_gt] at c
    rw [lg_cmp_le]
    exact Int64.not_lt.mp c
theorem pu_fieldn (n : Nat) (le ne ins dd : Nat → Int32) (nw cs : Int64) (rl x : Int32) (y u w : Int64) (hx : dk_fkP n x) (h : dk_within y 1000000 = 0 ∨ dk_within u 1000000 = 0 ∨ ¬ 0 ≤ lg_cmp w 1) : md_field n le ne ins dd nw cs rl x y u w = (((-2) : Int32), rl, ne, ins, dd, cs) := by
  unfold md_field
  rw [pu_within, pu_within] at h
  rw [if_pos (pu_none.mpr hx)]
  by_cases c1 : lg_cmp y (-1000000) < 0
  · rw [if_pos c1]
  · rw [if_neg c1]
    by_cases c2 : 0 < lg_cmp y 1000000
    · rw [if_pos c2]
    · rw [if_neg c2]
      by_cases c3 : lg_cmp u (-1000000) < 0
      · rw [if_pos c3]
      · rw [if_neg c3]
        by_cases c4 : 0 < lg_cmp u 1000000
        · rw [if_pos c4]
        · rw [if_neg c4]
          have c5 : ¬ 0 ≤ lg_cmp w 1 := by
            rcases h with (h | h) | (h | h) | h
            · exact absurd h c1
            · exact absurd h c2
            · exact absurd h c3
            · exact absurd h c4
            · exact h
          rw [if_neg c5]
theorem pr_field {n N : Nat} {st dd : Nat → Int32} {K : Nat → KR} {se : Nat → Int64} {ct aw le ne ins ba : Nat → Int32} {kA : Int32} {oA : Nat → Int8} {gv : Nat} {un : Nat → Int32} {kB : Int32} {oB : Nat → Int8} {sz : Nat} {fr : Nat → Int32} (hR : lw_R n N st dd K se ct aw le ne ins ba kA oA gv un kB oB sz fr) (rl : Int32) (tt ss : Int64) (x : Int32) (y u w : Int64)  : (dk_field n rl st K x y u w).1 = (md_field n le ne ins dd tt ss rl x y u w).1 ∧ (dk_field n rl st K x y u w).2.2.1 = (md_field n le ne ins dd tt ss rl x y u w).2.1 ∧ ss = (md_field n le ne ins dd tt ss rl x y u w).2.2.2.2.2 ∧ lw_R n (N + 1) ((dk_field n rl st K x y u w).2.2.2) ((md_field n le ne ins dd tt ss rl x y u w).2.2.2.2.1) ((dk_field n rl st K x y u w).2.1) se ct aw le ((md_field n le ne ins dd tt ss rl x y u w).2.2.1) ((md_field n le ne ins dd tt ss rl x y u w).2.2.2.1) ba kA oA gv un kB oB sz fr := by
  have hn := hR.1
  have hK := hR.2.2.2.1
  have hD := hR.2.2.1
  have hU := hR.up (N' := N + 1) (by omega)
  by_cases hx : dk_fkP n x
  · by_cases c1 : dk_within y 1000000 = 0
    · rw [pu_fieldn n le ne ins dd tt ss rl x y u w hx (Or.inl c1)]
      unfold dk_field
      simp only [if_pos hx, if_pos c1]
      exact ⟨by trivial, by trivial, by trivial, hU⟩
    · by_cases c2 : dk_within u 1000000 = 0
      · rw [pu_fieldn n le ne ins dd tt ss rl x y u w hx (Or.inr (Or.inl c2))]
        unfold dk_field
        simp only [if_pos hx, if_neg c1, if_pos c2]
        exact ⟨by trivial, by trivial, by trivial, hU⟩
      · by_cases c3 : 0 ≤ lg_cmp w 1
        · rw [pu_fieldw n le ne ins dd tt ss rl x y u w hx c1 c2 c3]
          obtain ⟨j, hj, e, e1, e2, e3, e4⟩ := pu_key hn hK hx
          have fin : ∀ (st' dd' : Nat → Int32) (a b : Int32), rl_D st' dd' → lw_R n (N + 1) st' dd' (va_up K j (se (j + 1), ct (j + 1), aw (j + 1), le (j + 1), a, b, ba (j + 1))) se ct aw le (upd ne (j + 1) a) (upd ins (j + 1) b) ba kA oA gv un kB oB sz fr := by
            intro st' dd' a b hd
            refine ⟨hn, by have := hR.2.1; omega, hd, ?_, hR.2.2.2.2⟩
            exact pu_Kset hK hj (by rw [pk_us, pk_us]) e4 (fun i hi => ⟨rfl, rfl, rfl, rfl, pk_un hi, pk_un hi, rfl⟩)
          unfold dk_field
          rw [if_pos hx, if_neg c1, if_neg c2, if_pos c3, e1, e3]
          by_cases c4 : 0 < lg_cmp w 2000
          · rw [if_pos c4, if_pos c4]
            obtain ⟨bi, b1, b2, b3⟩ := pu_near5 le ne ins dd tt ss x y u 1 (rl + 1)
            rw [b2, md_field_l, e2]
            simp only [pk_us, dk_hand, pu_n10, ↓reduceIte, ite_self]
            exact ⟨by trivial, by trivial, by trivial, fin _ _ _ _ hD⟩
          · rw [if_neg c4, if_neg c4]
            obtain ⟨bi, b1, b2, b3⟩ := pu_near5 le ne ins dd tt ss x y u 0 rl
            rw [b2, md_field_l, e2]
            by_cases c5 : le (j + 1) = 0
            · simp only [if_pos c5, pk_us, dk_hand, pu_n10, ↓reduceIte, ite_self]
              exact ⟨by trivial, by trivial, by trivial, fin _ _ _ _ hD⟩
            · simp only [if_neg c5, pk_us, dk_hand, pu_n10, ↓reduceIte]
              have hw1 := pu_within y 2000
              have hw2 := pu_within u 800
              rcases b3 with ⟨g1, g2⟩ | ⟨g1, g2⟩
              · simp only [if_neg g1, g2, pu_nn1 b1, ↓reduceIte]
                obtain ⟨o1, o2⟩ := pu_one hD tt ss b1
                by_cases c6 : lg_cmp y (-2000) < 0
                · simp only [hw1.mpr (Or.inl c6), c6, ↓reduceIte]
                  exact ⟨by trivial, by trivial, o2.symm, fin _ _ _ _ o1⟩
                · by_cases c7 : 0 < lg_cmp y 2000
                  · simp only [hw1.mpr (Or.inr c7), c6, c7, ↓reduceIte]
                    exact ⟨by trivial, by trivial, o2.symm, fin _ _ _ _ o1⟩
                  · have c8 : ¬ dk_within y 2000 = 0 := fun z => (hw1.mp z).elim c6 c7
                    by_cases c9 : lg_cmp u (-800) < 0
                    · simp only [hw2.mpr (Or.inl c9), c6, c7, c8, c9, ↓reduceIte]
                      exact ⟨by trivial, by trivial, o2.symm, fin _ _ _ _ o1⟩
                    · by_cases c10 : 0 < lg_cmp u 800
                      · simp only [hw2.mpr (Or.inr c10), c6, c7, c8, c9, c10, ↓reduceIte]
                        exact ⟨by trivial, by trivial, o2.symm, fin _ _ _ _ o1⟩
                      · have c11 : ¬ dk_within u 800 = 0 := fun z => (hw2.mp z).elim c9 c10
                        simp only [c6, c7, c8, c9, c10, c11, ↓reduceIte]
                        exact ⟨by trivial, by trivial, by trivial, fin _ _ _ _ hD⟩
              · simp only [if_pos g1, g2, ↓reduceIte]
                by_cases c6 : lg_cmp y (-2000) < 0
                · simp only [hw1.mpr (Or.inl c6), c6, ↓reduceIte]
                  exact ⟨by trivial, by trivial, by trivial, fin _ _ _ _ hD⟩
                · by_cases c7 : 0 < lg_cmp y 2000
                  · simp only [hw1.mpr (Or.inr c7), c6, c7, ↓reduceIte]
                    exact ⟨by trivial, by trivial, by trivial, fin _ _ _ _ hD⟩
                  · have c8 : ¬ dk_within y 2000 = 0 := fun z => (hw1.mp z).elim c6 c7
                    by_cases c9 : lg_cmp u (-800) < 0
                    · simp only [hw2.mpr (Or.inl c9), c6, c7, c8, c9, ↓reduceIte]
                      exact ⟨by trivial, by trivial, by trivial, fin _ _ _ _ hD⟩
                    · by_cases c10 : 0 < lg_cmp u 800
                      · simp only [hw2.mpr (Or.inr c10), c6, c7, c8, c9, c10, ↓reduceIte]
                        exact ⟨by trivial, by trivial, by trivial, fin _ _ _ _ hD⟩
                      · have c11 : ¬ dk_within u 800 = 0 := fun z => (hw2.mp z).elim c9 c10
                        simp only [c6, c7, c8, c9, c10, c11, ↓reduceIte]
                        exact ⟨by trivial, by trivial, by trivial, fin _ _ _ _ hD⟩
        · rw [pu_fieldn n le ne ins dd tt ss rl x y u w hx (Or.inr (Or.inr c3))]
          unfold dk_field
          simp only [if_pos hx, if_neg c1, if_neg c2, if_neg c3]
          exact ⟨by trivial, by trivial, by trivial, hU⟩
  · unfold dk_field md_field
    simp only [if_neg hx, if_neg (fun h => hx (pu_none.mp h))]
    exact ⟨by trivial, by trivial, by trivial, hU⟩
