/-! Class and reference: locks, crash, what a command does. -/
theorem pu_new_in {dd : Nat → Int32} {u w : Int32} {a b i : Nat} (h1 : a ≤ i) (h2 : i < b) (hc : pu_ch dd u w i) : pu_new dd u w a b i = w := by
  unfold pu_new
  rw [if_pos ⟨h1, h2, hc⟩]
theorem pu_new_out {dd : Nat → Int32} {u w : Int32} {a b i : Nat} (h : ¬ (a ≤ i ∧ i < b ∧ pu_ch dd u w i)) : pu_new dd u w a b i = dd i := by
  unfold pu_new
  rw [if_neg h]
theorem pu_time0 {dd : Nat → Int32} {u : Int32} {a b : Nat} {nw cs : Int64} : pu_time dd (pu_new dd u 0 a b) nw cs = cs := by
  unfold pu_time
  by_cases c : md_some dd 0 = 0
  · rw [if_pos c]
  · rw [if_neg c, if_neg]
    intro h
    apply c
    rw [pu_some0] at h ⊢
    intro i hi e
    exact h i hi (by rw [pu_new_out (fun z => z.2.2.1 e)]; exact e)
theorem pu_timeN {d0 d1 : Nat → Int32} {nw cs : Int64} (h : md_some d0 0 = 0) : pu_time d0 d1 nw cs = cs := by
  unfold pu_time
  rw [if_pos h]
theorem pu_n01 : ¬ (0 : Int32) = 1 := by decide
theorem pu_n02 : ¬ (0 : Int32) = 2 := by decide
theorem pu_n03 : ¬ (0 : Int32) = 3 := by decide
theorem pu_n10 : ¬ (1 : Int32) = 0 := by decide
theorem pu_n12 : ¬ (1 : Int32) = 2 := by decide
theorem pu_n13 : ¬ (1 : Int32) = 3 := by decide
theorem pu_n20 : ¬ (2 : Int32) = 0 := by decide
theorem pu_n21 : ¬ (2 : Int32) = 1 := by decide
theorem pu_n23 : ¬ (2 : Int32) = 3 := by decide
theorem pu_n30 : ¬ (3 : Int32) = 0 := by decide
theorem pu_n31 : ¬ (3 : Int32) = 1 := by decide
theorem pu_n32 : ¬ (3 : Int32) = 2 := by decide
theorem pu_l30 : ¬ (3 : Int32) ≤ 0 := by decide
theorem pu_l31 : ¬ (3 : Int32) ≤ 1 := by decide
theorem pu_l32 : ¬ (3 : Int32) ≤ 2 := by decide
theorem pu_l33 : (3 : Int32) ≤ 3 := by decide
/-- all doors opened -/
theorem pu_openAll {st dd : Nat → Int32} (h : rl_D st dd) (nw cs : Int64) : (dk_openAll st).1 = (md_turn dd nw cs 0 5 3 0).1 ∧ rl_D (dk_openAll st).2 (md_turn dd nw cs 0 5 3 0).2.1 ∧ (md_turn dd nw cs 0 5 3 0).2.2 = cs := by
  unfold dk_openAll
  rw [pu_turn dd nw cs 0 5 (by omega) (by omega), pu_dturn st 1 0, pu_dturn]
  refine ⟨?_, ?_, pu_time0⟩
  · show nI _ + nI _ = nI _
    rw [nI_add]
    congr 1
    refine pu_cs 5 0 (fun i h1 h2 => ?_)
    obtain ⟨a1, a2⟩ := h i (by omega)
    have hi : i < 5 := by omega
    simp only [a1, decide_eq_true_eq, pu_ch]
    rcases a2 with a | a | a <;> simp [a, hi] <;> decide
  · intro i hi
    obtain ⟨a1, a2⟩ := h i hi
    show (if i < 5 ∧ (if i < 5 ∧ st i = 1 then 0 else st i) = 2 then (0 : Int32) else if i < 5 ∧ st i = 1 then 0 else st i) = pu_new dd 3 0 0 5 i ∧ (pu_new dd 3 0 0 5 i = 0 ∨ _)
    have e : pu_new dd 3 0 0 5 i = 0 := by
      by_cases c : dd i = 0
      · rw [pu_new_out (fun z => z.2.2.1 c)]; exact c
      · exact pu_new_in (by omega) hi ⟨c, Or.inl rfl⟩
    refine ⟨?_, Or.inl e⟩
    rw [e, a1]
    rcases a2 with a | a | a <;> simp [a, hi]
/-- all doors shut -/
theorem pu_shutAll {st dd : Nat → Int32} (h : rl_D st dd) (nw cs : Int64) : (dk_shutAll st nw cs).1 = (md_turn dd nw cs 0 5 0 1).1 ∧ rl_D (dk_shutAll st nw cs).2.1 (md_turn dd nw cs 0 5 0 1).2.1 ∧ (dk_shutAll st nw cs).2.2 = (md_turn dd nw cs 0 5 0 1).2.2 := by
  unfold dk_shutAll
  rw [pu_turn dd nw cs 0 5 (by omega) (by omega), pu_dturn st 0 1]
  have hc : pu_c (fun i => decide (st i = 0)) 5 0 = pu_c (fun i => decide (pu_ch dd 0 1 i)) 5 0 := by
    refine pu_cc 5 0 (fun i h1 h2 => ?_)
    obtain ⟨a1, a2⟩ := h i (by omega)
    simp only [a1, pu_ch]
    rcases a2 with a | a | a <;> rw [a] <;> decide
  have hst : ∀ i, i < 5 → (if i < 5 ∧ st i = 0 then (1 : Int32) else st i) = pu_new dd 0 1 0 5 i ∧ (pu_new dd 0 1 0 5 i = 1 ∨ pu_new dd 0 1 0 5 i = 2) := by
    intro i hi
    obtain ⟨a1, a2⟩ := h i hi
    rw [a1]
    rcases a2 with a | a | a
    · rw [pu_new_in (by omega) hi ⟨by rw [a]; decide, Or.inr a⟩, if_pos ⟨hi, a⟩]
      exact ⟨rfl, Or.inl rfl⟩
    · rw [pu_new_out (fun z => z.2.2.1 a), if_neg (fun z => by rw [a] at z; exact absurd z.2 (by decide)), a]
      exact ⟨rfl, Or.inl rfl⟩
    · rw [pu_new_out (fun z => by have := z.2.2.2; rw [a] at this; revert this; decide), if_neg (fun z => by rw [a] at z; exact absurd z.2 (by decide)), a]
      exact ⟨rfl, Or.inr rfl⟩
  refine ⟨?_, ?_, ?_⟩
  · show nI _ = nI _
    rw [hc]
  · intro i hi
    refine ⟨(hst i hi).1, ?_⟩
    rcases (hst i hi).2 with a | a
    · exact Or.inr (Or.inl a)
    · exact Or.inr (Or.inr a)
  · show dk_note (fun i => if i < 5 ∧ st i = 0 then (1 : Int32) else st i) nw cs (nI (pu_c (fun i => decide (st i = 0)) 5 0)) = pu_time dd (pu_new dd 0 1 0 5) nw cs
    unfold dk_note pu_time
    have hn : md_some (pu_new dd 0 1 0 5) 0 = 0 := (pu_some0 _ _).mpr (fun i hi e => by
      rcases (hst i hi).2 with a | a <;> rw [a] at e <;> exact absurd e (by decide))
    have hn2 : dk_any (fun i => if i < 5 ∧ st i = 0 then (1 : Int32) else st i) 0 = 0 := by
      rw [pu_any_eq (fun j hj => (hst j hj).1)]
      exact hn
    rw [if_pos hn, if_pos hn2]
    have hl := pu_cle (p := fun i => decide (st i = 0)) 5 0
    by_cases c : pu_c (fun i => decide (st i = 0)) 5 0 = 0
    · rw [if_pos (by rw [c]; decide), if_pos]
      rw [pu_some0]
      intro i hi e
      have := (pu_c0 5 0).mp c i (by omega) (by omega)
      rw [(h i hi).1, e] at this
      exact absurd this (by decide)
    · rw [if_neg (nI_nle (by omega) (by omega)), if_neg]
      intro hz
      apply c
      refine (pu_c0 5 0).mpr (fun i h1 h2 => ?_)
      have := (pu_some0 _ _).mp hz i (by omega)
      rw [(h i (by omega)).1]
      exact decide_eq_false this
/-- doors made dead -/
theorem pu_deaden {st dd : Nat → Int32} (h : rl_D st dd) (nw cs : Int64) (h0 : md_some dd 0 = 0) : (dk_deaden st).1 = (md_turn dd nw cs 0 5 3 2).1 ∧ rl_D (dk_deaden st).2 (md_turn dd nw cs 0 5 3 2).2.1 ∧ (md_turn dd nw cs 0 5 3 2).2.2 = cs := by
  unfold dk_deaden
  have ha : dk_any st 0 = 0 := by rw [pu_any_eq (fun j hj => (h j hj).1)]; exact h0
  rw [if_pos ha, pu_turn dd nw cs 0 5 (by omega) (by omega), pu_dturn st 1 2]
  have hz := (pu_some0 _ _).mp h0
  refine ⟨?_, ?_, pu_timeN h0⟩
  · show nI _ = nI _
    congr 1
    refine pu_cc 5 0 (fun i h1 h2 => ?_)
    obtain ⟨a1, a2⟩ := h i (by omega)
    simp only [a1, pu_ch]
    rcases a2 with a | a | a
    · exact absurd a (hz i (by omega))
    · rw [a]; decide
    · rw [a]; decide
  · intro i hi
    obtain ⟨a1, a2⟩ := h i hi
    show (if i < 5 ∧ st i = 1 then (2 : Int32) else st i) = pu_new dd 3 2 0 5 i ∧ _
    have e : pu_new dd 3 2 0 5 i = 2 := by
      by_cases c : dd i = 2
      · rw [pu_new_out (fun z => z.2.2.1 c)]; exact c
      · exact pu_new_in (by omega) hi ⟨c, Or.inl rfl⟩
    refine ⟨?_, Or.inr (Or.inr e)⟩
    rw [e, a1]
    rcases a2 with a | a | a
    · exact absurd a (hz i hi)
    · rw [if_pos ⟨hi, a⟩]
    · rw [if_neg (fun z => by rw [a] at z; exact absurd z.2 (by decide)), a]
theorem pu_i4 : (4 : Int32).toNatClampNeg = 4 := by decide
theorem pu_h4 : ¬ dk_dhas 4 = 0 := by decide
theorem pu_put4 (st : Nat → Int32) (y : Int32) : dk_dput st 4 y = upd st 4 y := by
  unfold dk_dput
  rw [if_neg pu_h4, pu_i4]
theorem pu_is4 (st : Nat → Int32) (y : Int32) : dk_dis st 4 y = 0 ↔ ¬ st 4 = y := by
  unfold dk_dis
  rw [if_neg pu_h4, pu_i4]
  by_cases h : st 4 = y
  · rw [if_pos h]; exact ⟨fun z => absurd z (by decide), fun z => absurd h z⟩
  · rw [if_neg h]; exact ⟨fun _ => h, fun _ => rfl⟩
/-- one door opened -/
theorem pu_one {st dd : Nat → Int32} (h : rl_D st dd) (nw cs : Int64) {b : Nat} (hb : b < 5) : rl_D (dk_openOne st (nI b)) (md_turn dd nw cs b (b + 1) 3 0).2.1 ∧ (md_turn dd nw cs b (b + 1) 3 0).2.2 = cs := by
  rw [pu_turn dd nw cs b (b + 1) (by omega) (by omega)]
  refine ⟨?_, pu_time0⟩
  have hd : ¬ dk_dhas (nI b) = 0 := by
    unfold dk_dhas
    rw [if_neg (nI_pos (by omega)), if_neg (show ¬ (5 : Int32) ≤ nI b from nI_ge (b := 5) hb (by decide))]
    decide
  unfold dk_openOne dk_dput
  rw [if_neg hd, nI_clamp (by omega)]
  intro i hi
  obtain ⟨a1, a2⟩ := h i hi
  show upd st b 0 i = pu_new dd 3 0 b (b + 1) i ∧ (pu_new dd 3 0 b (b + 1) i = 0 ∨ pu_new dd 3 0 b (b + 1) i = 1 ∨ pu_new dd 3 0 b (b + 1) i = 2)
  by_cases e : i = b
  · subst e
    rw [pk_us]
    have e : pu_new dd 3 0 i (i + 1) i = 0 := by
      by_cases c : dd i = 0
      · rw [pu_new_out (fun z => z.2.2.1 c)]; exact c
      · exact pu_new_in (by omega) (by omega) ⟨c, Or.inl rfl⟩
    rw [e]
    exact ⟨rfl, Or.inl rfl⟩
  · rw [pk_un e, pu_new_out (by omega)]
    exact ⟨a1, a2⟩
/-- the boot opened, unless it is dead -/
theorem pu_boot {st dd : Nat → Int32} (h : rl_D st dd) (nw cs : Int64) : rl_D (dk_boot st) (md_turn dd nw cs 4 5 1 0).2.1 ∧ (md_turn dd nw cs 4 5 1 0).2.2 = cs := by
  rw [pu_turn dd nw cs 4 5 (by omega) (by omega)]
  refine ⟨?_, pu_time0⟩
  have e0 : dk_boot st = if dd 4 = 2 then st else upd st 4 0 := by
    unfold dk_boot
    rw [pu_put4]
    by_cases c : dd 4 = 2
    · rw [if_pos c, if_neg (fun z => (pu_is4 st 2).mp z ((h 4 (by omega)).1.trans c))]
    · rw [if_neg c, if_pos ((pu_is4 st 2).mpr (fun z => c ((h 4 (by omega)).1.symm.trans z)))]
  rw [e0]
  intro i hi
  obtain ⟨a1, a2⟩ := h i hi
  show (if dd 4 = 2 then st else upd st 4 0) i = pu_new dd 1 0 4 5 i ∧ (pu_new dd 1 0 4 5 i = 0 ∨ pu_new dd 1 0 4 5 i = 1 ∨ pu_new dd 1 0 4 5 i = 2)
  by_cases e : i = 4
  · subst e
    rcases a2 with a | a | a
    · rw [pu_new_out (fun z => z.2.2.1 a), a, if_neg (by decide), pk_us]
      exact ⟨rfl, Or.inl rfl⟩
    · rw [pu_new_in (by omega) (by omega) ⟨by rw [a]; decide, Or.inr a⟩, a, if_neg (by decide), pk_us]
      exact ⟨rfl, Or.inl rfl⟩
    · rw [pu_new_out (fun z => by have := z.2.2.2; rw [a] at this; revert this; decide), if_pos a, a1, a]
      exact ⟨rfl, Or.inr (Or.inr rfl)⟩
  · rw [pu_new_out (by omega)]
    refine ⟨?_, a2⟩
    by_cases c : dd 4 = 2
    · rw [if_pos c]; exact a1
    · rw [if_neg c, pk_un e]; exact a1
/-- the boot shut -/
theorem pu_shutBoot {st dd : Nat → Int32} (h : rl_D st dd) (nw cs : Int64) : (dk_shutBoot st nw cs).1 = (md_turn dd nw cs 4 5 0 1).1 ∧ rl_D (dk_shutBoot st nw cs).2.1 (md_turn dd nw cs 4 5 0 1).2.1 ∧ (dk_shutBoot st nw cs).2.2 = (md_turn dd nw cs 4 5 0 1).2.2 := by
  rw [pu_turn dd nw cs 4 5 (by omega) (by omega)]
  by_cases c : dd 4 = 0
  · have e0 : dk_shutBoot st nw cs = (1, upd st 4 1, dk_note (upd st 4 1) nw cs 1) := by
      unfold dk_shutBoot
      rw [pu_put4, if_neg (fun z => (pu_is4 st 0).mp z ((h 4 (by omega)).1.trans c))]
    rw [e0]
    have hc : pu_ch dd 0 1 4 := ⟨by rw [c]; decide, Or.inr c⟩
    have hst : ∀ i, i < 5 → upd st 4 1 i = pu_new dd 0 1 4 5 i ∧ (pu_new dd 0 1 4 5 i = 0 ∨ pu_new dd 0 1 4 5 i = 1 ∨ pu_new dd 0 1 4 5 i = 2) := by
      intro i hi
      by_cases e : i = 4
      · subst e
        rw [pk_us, pu_new_in (by omega) (by omega) hc]
        exact ⟨rfl, Or.inr (Or.inl rfl)⟩
      · rw [pk_un e, pu_new_out (by omega)]
        exact h i hi
    refine ⟨?_, hst, ?_⟩
    · show (1 : Int32) = nI (pu_c (fun i => decide (pu_ch dd 0 1 i)) 1 4)
      rw [pu_c, if_pos (decide_eq_true hc), pu_c]
      rfl
    · show dk_note (upd st 4 1) nw cs 1 = pu_time dd (pu_new dd 0 1 4 5) nw cs
      unfold dk_note pu_time
      rw [if_neg (by decide), pu_any_eq (fun j hj => (hst j hj).1), if_neg (fun z => (pu_some0 _ _).mp z 4 (by omega) c)]
  · have e0 : dk_shutBoot st nw cs = (0, st, cs) := by
      unfold dk_shutBoot
      rw [if_pos ((pu_is4 st 0).mpr (fun z => c ((h 4 (by omega)).1.symm.trans z)))]
    rw [e0]
    have hn : ¬ pu_ch dd 0 1 4 := fun z => z.2.elim (by decide) c
    have hst : ∀ i, i < 5 → pu_new dd 0 1 4 5 i = dd i := by
      intro i hi
      by_cases e : i = 4
      · subst e
        exact pu_new_out (fun z => hn z.2.2)
      · exact pu_new_out (by omega)
    refine ⟨?_, ?_, ?_⟩
    · show (0 : Int32) = nI (pu_c (fun i => decide (pu_ch dd 0 1 i)) 1 4)
      rw [pu_c, if_neg (by rw [decide_eq_true_iff]; exact hn), pu_c]
      rfl
    · intro i hi
      show st i = pu_new dd 0 1 4 5 i ∧ (pu_new dd 0 1 4 5 i = 0 ∨ pu_new dd 0 1 4 5 i = 1 ∨ pu_new dd 0 1 4 5 i = 2)
      rw [hst i hi]
      exact h i hi
    · show cs = pu_time dd (pu_new dd 0 1 4 5) nw cs
      unfold pu_time
      by_cases c1 : md_some dd 0 = 0
      · rw [if_pos c1]
      · rw [if_neg c1, if_neg]
        intro z
        apply c1
        rw [pu_some0] at z ⊢
        intro i hi
        rw [← hst i hi]
        exact z i hi
theorem pr_crash {n N : Nat} {st dd : Nat → Int32} {K : Nat → KR} {se : Nat → Int64} {ct aw le ne ins ba : Nat → Int32} {kA : Int32} {oA : Nat → Int8} {gv : Nat} {un : Nat → Int32} {kB : Int32} {oB : Nat → Int8} {sz : Nat} {fr : Nat → Int32} (hR : lw_R n N st dd K se ct aw le ne ins ba kA oA gv un kB oB sz fr) (tt ss : Int64)  : (dk_crash st).1 = (md_crash dd tt ss).1 ∧ (dk_crash st).2.1 = (md_crash dd tt ss).2.1 ∧ ss = (md_crash dd tt ss).2.2.2 ∧ lw_R n (N + 1) ((dk_crash st).2.2) ((md_crash dd tt ss).2.2.1) K se ct aw le ne ins ba kA oA gv un kB oB sz fr := by
  obtain ⟨a1, a2, a3⟩ := pu_openAll hR.2.2.1 tt ss
  unfold dk_crash md_crash
  exact ⟨a1, rfl, a3.symm, hR.1, by have := hR.2.1; omega, a2, hR.2.2.2⟩
theorem pu_lock {st dd : Nat → Int32} (h : rl_D st dd) (cr : Int32) (tt ss : Int64) (x : Int32) : (dk_lock cr st tt ss x).1 = (md_lock dd cr tt ss x).1 ∧ (dk_lock cr st tt ss x).2.2 = (md_lock dd cr tt ss x).2.2 ∧ rl_D (dk_lock cr st tt ss x).2.1 (md_lock dd cr tt ss x).2.1 := by
  have hs : ∀ v, dk_any st v = md_some dd v := fun v => pu_any_eq (fun j hj => (h j hj).1) v
  unfold dk_lock md_lock
  by_cases h0 : x < 0
  · rw [if_pos h0, if_pos h0]
    exact ⟨rfl, rfl, h⟩
  · rw [if_neg h0, if_neg h0]
    by_cases h3 : x ≤ 3
    · rw [if_pos h3, if_pos h3]
      obtain ⟨j, hj, e⟩ := nI_of2 (M := 3) (n := 3) (by decide) h0 h3
      have : j = 0 ∨ j = 1 ∨ j = 2 ∨ j = 3 := by omega
      rcases this with e2 | e2 | e2 | e2
      · have ex : x = 0 := by rw [e, e2]; rfl
        subst ex
        simp only [pu_n01, pu_n02, pu_n03, pu_n10, pu_n12, pu_n13, pu_n20, pu_n21, pu_n23, pu_n30, pu_n31, pu_n32, pu_l30, pu_l31, pu_l32, pu_l33, ↓reduceIte]
        by_cases c : cr = 0
        · simp only [pu_n01, pu_n02, pu_n03, pu_n10, pu_n12, pu_n13, pu_n20, pu_n21, pu_n23, pu_n30, pu_n31, pu_n32, pu_l30, pu_l31, pu_l32, pu_l33, ↓reduceIte, c]
          obtain ⟨a1, a2, a3⟩ := pu_shutAll h tt ss
          exact ⟨a1, a3, a2⟩
        · simp only [pu_n01, pu_n02, pu_n03, pu_n10, pu_n12, pu_n13, pu_n20, pu_n21, pu_n23, pu_n30, pu_n31, pu_n32, pu_l30, pu_l31, pu_l32, pu_l33, ↓reduceIte, c]
          exact ⟨by trivial, by trivial, h⟩
      · have ex : x = 1 := by rw [e, e2]; rfl
        subst ex
        simp only [pu_n01, pu_n02, pu_n03, pu_n10, pu_n12, pu_n13, pu_n20, pu_n21, pu_n23, pu_n30, pu_n31, pu_n32, pu_l30, pu_l31, pu_l32, pu_l33, ↓reduceIte]
        by_cases c : cr = 0
        · simp only [pu_n01, pu_n02, pu_n03, pu_n10, pu_n12, pu_n13, pu_n20, pu_n21, pu_n23, pu_n30, pu_n31, pu_n32, pu_l30, pu_l31, pu_l32, pu_l33, ↓reduceIte, c]
          by_cases c1 : md_some dd 0 = 0
          · rw [if_pos c1]
            obtain ⟨a1, a2, a3⟩ := pu_deaden h tt ss c1
            exact ⟨a1, a3.symm, a2⟩
          · rw [if_neg c1]
            unfold dk_deaden
            rw [hs, if_neg c1]
            exact ⟨rfl, rfl, h⟩
        · simp only [pu_n01, pu_n02, pu_n03, pu_n10, pu_n12, pu_n13, pu_n20, pu_n21, pu_n23, pu_n30, pu_n31, pu_n32, pu_l30, pu_l31, pu_l32, pu_l33, ↓reduceIte, c]
          exact ⟨by trivial, by trivial, h⟩
      · have ex : x = 2 := by rw [e, e2]; rfl
        subst ex
        simp only [pu_n01, pu_n02, pu_n03, pu_n10, pu_n12, pu_n13, pu_n20, pu_n21, pu_n23, pu_n30, pu_n31, pu_n32, pu_l30, pu_l31, pu_l32, pu_l33, ↓reduceIte]
        by_cases c : cr = 0
        · simp only [pu_n01, pu_n02, pu_n03, pu_n10, pu_n12, pu_n13, pu_n20, pu_n21, pu_n23, pu_n30, pu_n31, pu_n32, pu_l30, pu_l31, pu_l32, pu_l33, ↓reduceIte, c]
          obtain ⟨a1, a2, a3⟩ := pu_shutBoot h tt ss
          exact ⟨a1, a3, a2⟩
        · simp only [pu_n01, pu_n02, pu_n03, pu_n10, pu_n12, pu_n13, pu_n20, pu_n21, pu_n23, pu_n30, pu_n31, pu_n32, pu_l30, pu_l31, pu_l32, pu_l33, ↓reduceIte, c]
          exact ⟨by trivial, by trivial, h⟩
      · have ex : x = 3 := by rw [e, e2]; rfl
        subst ex
        simp only [pu_n01, pu_n02, pu_n03, pu_n10, pu_n12, pu_n13, pu_n20, pu_n21, pu_n23, pu_n30, pu_n31, pu_n32, pu_l30, pu_l31, pu_l32, pu_l33, ↓reduceIte, hs]
        by_cases c1 : md_some dd 2 = 0
        · rw [if_pos c1, if_pos c1]
          obtain ⟨a1, a2, a3⟩ := pu_openAll h tt ss
          exact ⟨a1, a3.symm, a2⟩
        · rw [if_neg c1, if_neg c1]
          exact ⟨rfl, rfl, h⟩
    · rw [if_neg h3, if_neg h3]
      exact ⟨rfl, rfl, h⟩
theorem pr_lock {n N : Nat} {st dd : Nat → Int32} {K : Nat → KR} {se : Nat → Int64} {ct aw le ne ins ba : Nat → Int32} {kA : Int32} {oA : Nat → Int8} {gv : Nat} {un : Nat → Int32} {kB : Int32} {oB : Nat → Int8} {sz : Nat} {fr : Nat → Int32} (hR : lw_R n N st dd K se ct aw le ne ins ba kA oA gv un kB oB sz fr) (cr : Int32) (tt ss : Int64) (x : Int32)  : (dk_lock cr st tt ss x).1 = (md_lock dd cr tt ss x).1 ∧ (dk_lock cr st tt ss x).2.2 = (md_lock dd cr tt ss x).2.2 ∧ lw_R n (N + 1) ((dk_lock cr st tt ss x).2.1) ((md_lock dd cr tt ss x).2.1) K se ct aw le ne ins ba kA oA gv un kB oB sz fr := by
  obtain ⟨a1, a2, a3⟩ := pu_lock hR.2.2.1 cr tt ss x
  exact ⟨a1, a2, hR.1, by have := hR.2.1; omega, a3, hR.2.2.2⟩
/-- what a command does -/
theorem pu_cmd {st dd : Nat → Int32} (h : rl_D st dd) (cr : Int32) (tt ss : Int64) {x : Int32} (h0 : ¬ x < 0) (h3 : x ≤ 3) : (dk_obey cr st tt ss x).2 = (md_command dd cr tt ss x).2 ∧ rl_D (dk_obey cr st tt ss x).1 (md_command dd cr tt ss x).1 := by
  have hs : ∀ v, dk_any st v = md_some dd v := fun v => pu_any_eq (fun j hj => (h j hj).1) v
  obtain ⟨j, hj, e⟩ := nI_of2 (M := 3) (n := 3) (by decide) h0 h3
  unfold dk_obey md_command
  have : j = 0 ∨ j = 1 ∨ j = 2 ∨ j = 3 := by omega
  rcases this with e2 | e2 | e2 | e2
  · have ex : x = 0 := by rw [e, e2]; rfl
    subst ex
    simp only [pu_n01, pu_n02, pu_n03, pu_n10, pu_n12, pu_n13, pu_n20, pu_n21, pu_n23, pu_n30, pu_n31, pu_n32, pu_l30, pu_l31, pu_l32, pu_l33, ↓reduceIte]
    obtain ⟨a1, a2, a3⟩ := pu_openAll h tt ss
    exact ⟨a3.symm, a2⟩
  · have ex : x = 1 := by rw [e, e2]; rfl
    subst ex
    simp only [pu_n01, pu_n02, pu_n03, pu_n10, pu_n12, pu_n13, pu_n20, pu_n21, pu_n23, pu_n30, pu_n31, pu_n32, pu_l30, pu_l31, pu_l32, pu_l33, ↓reduceIte]
    by_cases c : cr = 0
    · simp only [pu_n01, pu_n02, pu_n03, pu_n10, pu_n12, pu_n13, pu_n20, pu_n21, pu_n23, pu_n30, pu_n31, pu_n32, pu_l30, pu_l31, pu_l32, pu_l33, ↓reduceIte, c]
      obtain ⟨a1, a2, a3⟩ := pu_shutAll h tt ss
      exact ⟨a3, a2⟩
    · simp only [pu_n01, pu_n02, pu_n03, pu_n10, pu_n12, pu_n13, pu_n20, pu_n21, pu_n23, pu_n30, pu_n31, pu_n32, pu_l30, pu_l31, pu_l32, pu_l33, ↓reduceIte, c]
      exact ⟨by trivial, h⟩
  · have ex : x = 2 := by rw [e, e2]; rfl
    subst ex
    simp only [pu_n01, pu_n02, pu_n03, pu_n10, pu_n12, pu_n13, pu_n20, pu_n21, pu_n23, pu_n30, pu_n31, pu_n32, pu_l30, pu_l31, pu_l32, pu_l33, ↓reduceIte]
    obtain ⟨a2, a3⟩ := pu_boot h tt ss
    exact ⟨a3.symm, a2⟩
  · have ex : x = 3 := by rw [e, e2]; rfl
    subst ex
    simp only [pu_n01, pu_n02, pu_n03, pu_n10, pu_n12, pu_n13, pu_n20, pu_n21, pu_n23, pu_n30, pu_n31, pu_n32, pu_l30, pu_l31, pu_l32, pu_l33, ↓reduceIte]
    by_cases c : cr = 0
    · simp only [pu_n01, pu_n02, pu_n03, pu_n10, pu_n12, pu_n13, pu_n20, pu_n21, pu_n23, pu_n30, pu_n31, pu_n32, pu_l30, pu_l31, pu_l32, pu_l33, ↓reduceIte, c]
      by_cases c1 : md_some dd 0 = 0
      · rw [if_pos c1]
        obtain ⟨a1, a2, a3⟩ := pu_deaden h tt ss c1
        exact ⟨a3.symm, a2⟩
      · rw [if_neg c1]
        unfold dk_deaden
        rw [hs, if_neg c1]
        exact ⟨rfl, h⟩
    · simp only [pu_n01, pu_n02, pu_n03, pu_n10, pu_n12, pu_n13, pu_n20, pu_n21, pu_n23, pu_n30, pu_n31, pu_n32, pu_l30, pu_l31, pu_l32, pu_l33, ↓reduceIte, c]
      exact ⟨by trivial, h⟩
