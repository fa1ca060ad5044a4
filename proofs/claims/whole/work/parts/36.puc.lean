/-! Class and reference: the doors. -/
def pu_c (p : Nat → Bool) : Nat → Nat → Nat
  | 0, _ => 0
  | r + 1, j => (if p j = true then 1 else 0) + pu_c p r (j + 1)
theorem pu_cc {p q : Nat → Bool} : ∀ (r j : Nat), (∀ i, j ≤ i → i < j + r → p i = q i) → pu_c p r j = pu_c q r j
  | 0, j, _ => rfl
  | r + 1, j, h => by
    rw [pu_c, pu_c, h j (by omega) (by omega), pu_cc r (j + 1) (fun i h1 h2 => h i (by omega) (by omega))]
theorem pu_cs {p q s : Nat → Bool} : ∀ (r j : Nat), (∀ i, j ≤ i → i < j + r → (if p i = true then 1 else 0) + (if q i = true then 1 else 0) = (if s i = true then 1 else 0)) → pu_c p r j + pu_c q r j = pu_c s r j
  | 0, j, _ => rfl
  | r + 1, j, h => by
    have h1 := h j (by omega) (by omega)
    have h2 := pu_cs r (j + 1) (fun i h1 h2 => h i (by omega) (by omega))
    rw [pu_c, pu_c, pu_c, ← h1, ← h2]
    omega
theorem pu_cle {p : Nat → Bool} : ∀ (r j : Nat), pu_c p r j ≤ r
  | 0, j => Nat.le_refl 0
  | r + 1, j => by
    have h := pu_cle (p := p) r (j + 1)
    rw [pu_c]
    split <;> omega
theorem pu_c0 {p : Nat → Bool} : ∀ (r j : Nat), pu_c p r j = 0 ↔ ∀ i, j ≤ i → i < j + r → p i = false
  | 0, j => ⟨fun _ i h1 h2 => absurd h1 (by omega), fun _ => rfl⟩
  | r + 1, j => by
    have h := pu_c0 (p := p) r (j + 1)
    rw [pu_c]
    constructor
    · intro h0 i h1 h2
      by_cases e : i = j
      · subst e
        cases hp : p i
        · rfl
        · rw [hp, if_pos rfl] at h0; omega
      · exact h.mp (by omega) i (by omega) (by omega)
    · intro h0
      rw [h0 j (by omega) (by omega), if_neg (by decide), h.mpr (fun i h1 h2 => h0 i (by omega) (by omega))]
theorem pu_dkt (x y : Int32) : ∀ (r j : Nat) (ac : Int32) (st : Nat → Int32), j + r ≤ 5 → dk_turn_l x y r j ac st = (ac + nI (pu_c (fun i => decide (st i = x)) r j), fun i => if j ≤ i ∧ i < j + r ∧ st i = x then y else st i)
  | 0, j, ac, st, _ => by
    rw [dk_turn_l]
    refine Prod.ext ?_ (funext fun i => ?_)
    · show ac = ac + nI 0
      rw [nI_0, Int32.add_zero]
    · show st i = if _ then _ else _
      rw [if_neg (by omega)]
  | r + 1, j, ac, st, h => by
    rw [dk_turn_l, nI_clamp (by omega)]
    by_cases c : st j = x
    · rw [if_pos c, pu_dkt x y r (j + 1) _ _ (by omega)]
      refine Prod.ext ?_ (funext fun i => ?_)
      · show ac + 1 + nI _ = ac + nI (pu_c _ (r + 1) j)
        rw [pu_c, if_pos (decide_eq_true c), ← nI_add, ← Int32.add_assoc, pu_cc (q := fun i => decide (st i = x)) r (j + 1) (fun i h1 h2 => by rw [pk_un (by omega)])]
        rfl
      · show (if j + 1 ≤ i ∧ i < j + 1 + r ∧ upd st j y i = x then y else upd st j y i) = if j ≤ i ∧ i < j + (r + 1) ∧ st i = x then y else st i
        by_cases e : i = j
        · subst e
          rw [if_neg (by omega), pk_us, if_pos ⟨by omega, by omega, c⟩]
        · rw [pk_un e]
          have hh : (j + 1 ≤ i ∧ i < j + 1 + r ∧ st i = x) ↔ (j ≤ i ∧ i < j + (r + 1) ∧ st i = x) := ⟨fun h => ⟨by omega, by omega, h.2.2⟩, fun h => ⟨by omega, by omega, h.2.2⟩⟩
          simp only [hh]
    · rw [if_neg c, pu_dkt x y r (j + 1) _ _ (by omega)]
      refine Prod.ext ?_ (funext fun i => ?_)
      · show ac + nI _ = ac + nI (pu_c _ (r + 1) j)
        rw [pu_c, if_neg (by simp [c]), Nat.zero_add]
      · show (if j + 1 ≤ i ∧ i < j + 1 + r ∧ st i = x then y else st i) = if j ≤ i ∧ i < j + (r + 1) ∧ st i = x then y else st i
        by_cases e : i = j
        · subst e
          rw [if_neg (by omega), if_neg (fun h => c h.2.2)]
        · have hh : (j + 1 ≤ i ∧ i < j + 1 + r ∧ st i = x) ↔ (j ≤ i ∧ i < j + (r + 1) ∧ st i = x) := ⟨fun h => ⟨by omega, by omega, h.2.2⟩, fun h => ⟨by omega, by omega, h.2.2⟩⟩
          simp only [hh]
abbrev pu_ch (dd : Nat → Int32) (u w : Int32) (i : Nat) : Prop := ¬ dd i = w ∧ (u = 3 ∨ dd i = u)
def pu_new (dd : Nat → Int32) (u w : Int32) (a b : Nat) : Nat → Int32 := fun i => if a ≤ i ∧ i < b ∧ pu_ch dd u w i then w else dd i
def pu_time (d0 d1 : Nat → Int32) (nw cs : Int64) : Int64 := if md_some d0 0 = 0 then cs else if md_some d1 0 = 0 then nw else cs
theorem pu_mdt (d0 : Nat → Int32) (nw cs : Int64) (f : Nat) (u w : Int32) : ∀ (r j : Nat) (ac : Int32) (dd : Nat → Int32), f + j + r ≤ 5 → md_turn_l d0 nw cs f u w r j ac dd = (ac + nI (pu_c (fun i => decide (pu_ch dd u w i)) r (f + j)), pu_new dd u w (f + j) (f + j + r), pu_time d0 (pu_new dd u w (f + j) (f + j + r)) nw cs)
  | 0, j, ac, dd, _ => by
    have e : pu_new dd u w (f + j) (f + j + 0) = dd := by
      funext i
      unfold pu_new
      rw [if_neg (by omega)]
    rw [md_turn_l, e, pu_c, nI_0, Int32.add_zero]
    unfold pu_time
    by_cases c1 : md_some d0 0 = 0
    · rw [if_pos c1, if_pos c1]
    · rw [if_neg c1, if_neg c1]
      by_cases c2 : md_some dd 0 = 0
      · rw [if_pos c2, if_pos c2]
      · rw [if_neg c2, if_neg c2]
  | r + 1, j, ac, dd, h => by
    have key : ∀ (c : pu_ch dd u w (f + j)), md_turn_l d0 nw cs f u w r (j + 1) (ac + 1) (upd dd (f + j) w) = (ac + nI (pu_c (fun i => decide (pu_ch dd u w i)) (r + 1) (f + j)), pu_new dd u w (f + j) (f + j + (r + 1)), pu_time d0 (pu_new dd u w (f + j) (f + j + (r + 1))) nw cs) := by
      intro c
      rw [pu_mdt d0 nw cs f u w r (j + 1) _ _ (by omega)]
      have e1 : pu_new (upd dd (f + j) w) u w (f + (j + 1)) (f + (j + 1) + r) = pu_new dd u w (f + j) (f + j + (r + 1)) := by
        funext i
        unfold pu_new
        by_cases e : i = f + j
        · subst e
          rw [if_neg (by omega), pk_us, if_pos ⟨by omega, by omega, c⟩]
        · have hh : (f + (j + 1) ≤ i ∧ i < f + (j + 1) + r ∧ pu_ch (upd dd (f + j) w) u w i) ↔ (f + j ≤ i ∧ i < f + j + (r + 1) ∧ pu_ch dd u w i) := by
            unfold pu_ch
            rw [pk_un e]
            exact ⟨fun h => ⟨by omega, by omega, h.2.2⟩, fun h => ⟨by omega, by omega, h.2.2⟩⟩
          by_cases q : (f + j ≤ i ∧ i < f + j + (r + 1) ∧ pu_ch dd u w i)
          · rw [if_pos q, if_pos (hh.mpr q)]
          · rw [if_neg q, if_neg (fun z => q (hh.mp z)), pk_un e]
      have e2 : ac + 1 + nI (pu_c (fun i => decide (pu_ch (upd dd (f + j) w) u w i)) r (f + (j + 1))) = ac + nI (pu_c (fun i => decide (pu_ch dd u w i)) (r + 1) (f + j)) := by
        rw [pu_c, if_pos (decide_eq_true c), ← nI_add, ← Int32.add_assoc, pu_cc (q := fun i => decide (pu_ch dd u w i)) r (f + (j + 1)) (fun i h1 h2 => by unfold pu_ch; rw [pk_un (by omega)])]
        rfl
      rw [e1, e2]
    have keyN : ∀ (c : ¬ pu_ch dd u w (f + j)), md_turn_l d0 nw cs f u w r (j + 1) ac dd = (ac + nI (pu_c (fun i => decide (pu_ch dd u w i)) (r + 1) (f + j)), pu_new dd u w (f + j) (f + j + (r + 1)), pu_time d0 (pu_new dd u w (f + j) (f + j + (r + 1))) nw cs) := by
      intro c
      rw [pu_mdt d0 nw cs f u w r (j + 1) _ _ (by omega)]
      have e1 : pu_new dd u w (f + (j + 1)) (f + (j + 1) + r) = pu_new dd u w (f + j) (f + j + (r + 1)) := by
        funext i
        unfold pu_new
        by_cases e : i = f + j
        · subst e
          rw [if_neg (by omega), if_neg (fun h => c h.2.2)]
        · have hh : (f + (j + 1) ≤ i ∧ i < f + (j + 1) + r ∧ pu_ch dd u w i) ↔ (f + j ≤ i ∧ i < f + j + (r + 1) ∧ pu_ch dd u w i) := ⟨fun h => ⟨by omega, by omega, h.2.2⟩, fun h => ⟨by omega, by omega, h.2.2⟩⟩
          simp only [hh]
      have e2 : ac + nI (pu_c (fun i => decide (pu_ch dd u w i)) r (f + (j + 1))) = ac + nI (pu_c (fun i => decide (pu_ch dd u w i)) (r + 1) (f + j)) := by
        rw [pu_c, if_neg (by rw [decide_eq_true_iff]; exact c), Nat.zero_add]
        rfl
      rw [e1, e2]
    rw [md_turn_l, nI_clamp (by omega)]
    by_cases c1 : dd (f + j) = w
    · rw [if_pos c1]
      exact keyN (fun h => h.1 c1)
    · rw [if_neg c1]
      by_cases c2 : u = 3
      · rw [if_pos c2]
        exact key ⟨c1, Or.inl c2⟩
      · rw [if_neg c2]
        by_cases c3 : dd (f + j) = u
        · rw [if_pos c3]
          exact key ⟨c1, Or.inr c3⟩
        · rw [if_neg c3]
          exact keyN (fun h => h.2.elim c2 c3)
theorem pu_turn (dd : Nat → Int32) (nw cs : Int64) (f t : Nat) (h : f ≤ t) (ht : t ≤ 5) (u w : Int32) : md_turn dd nw cs f t u w = (nI (pu_c (fun i => decide (pu_ch dd u w i)) (t - f) f), pu_new dd u w f t, pu_time dd (pu_new dd u w f t) nw cs) := by
  unfold md_turn
  rw [pu_mdt dd nw cs f u w (t - f) 0 0 dd (by omega), Nat.add_zero, show f + (t - f) = t by omega, Int32.zero_add]
theorem pu_dturn (st : Nat → Int32) (x y : Int32) : dk_turn st x y = (nI (pu_c (fun i => decide (st i = x)) 5 0), fun i => if i < 5 ∧ st i = x then y else st i) := by
  unfold dk_turn
  rw [pu_dkt x y 5 0 0 st (by omega), Int32.zero_add]
  refine Prod.ext rfl (funext fun i => ?_)
  show (if 0 ≤ i ∧ i < 0 + 5 ∧ st i = x then y else st i) = _
  have hh : (0 ≤ i ∧ i < 0 + 5 ∧ st i = x) ↔ (i < 5 ∧ st i = x) := ⟨fun h => ⟨by omega, h.2.2⟩, fun h => ⟨by omega, by omega, h.2⟩⟩
  simp only [hh]
theorem pu_some0 (dd : Nat → Int32) (x : Int32) : md_some dd x = 0 ↔ ∀ i, i < 5 → ¬ dd i = x := by
  have e0 : (nI 0).toNatClampNeg = 0 := nI_clamp (by omega)
  have e1 : (nI 1).toNatClampNeg = 1 := nI_clamp (by omega)
  have e2 : (nI 2).toNatClampNeg = 2 := nI_clamp (by omega)
  have e3 : (nI 3).toNatClampNeg = 3 := nI_clamp (by omega)
  have e4 : (nI 4).toNatClampNeg = 4 := nI_clamp (by omega)
  rw [← pu_any_eq (st := dd) (fun j _ => rfl)]
  unfold dk_any
  simp only [dk_any_l, e0, e1, e2, e3, e4, Nat.zero_add, Nat.reduceAdd]
  constructor
  · intro h i hi
    by_cases a0 : dd 0 = x
    · rw [if_pos a0] at h; exact absurd h (by decide)
    · rw [if_neg a0] at h
      by_cases a1 : dd 1 = x
      · rw [if_pos a1] at h; exact absurd h (by decide)
      · rw [if_neg a1] at h
        by_cases a2 : dd 2 = x
        · rw [if_pos a2] at h; exact absurd h (by decide)
        · rw [if_neg a2] at h
          by_cases a3 : dd 3 = x
          · rw [if_pos a3] at h; exact absurd h (by decide)
          · rw [if_neg a3] at h
            by_cases a4 : dd 4 = x
            · rw [if_pos a4] at h; exact absurd h (by decide)
            · have : i = 0 ∨ i = 1 ∨ i = 2 ∨ i = 3 ∨ i = 4 := by omega
              rcases this with e | e | e | e | e <;> subst e <;> assumption
  · intro h
    rw [if_neg (h 0 (by omega)), if_neg (h 1 (by omega)), if_neg (h 2 (by omega)), if_neg (h 3 (by omega)), if_neg (h 4 (by omega))]
