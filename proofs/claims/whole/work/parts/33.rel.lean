/-! Class and reference side by side: the relation between their states; calls of one while the other stays. -/
def rl_D (st dd : Nat → Int32) : Prop := ∀ j, j < 5 → st j = dd j ∧ (dd j = 0 ∨ dd j = 1 ∨ dd j = 2)
def rl_K (n : Nat) (K : Nat → KR) (se : Nat → Int64) (ct aw le ne ins ba : Nat → Int32) : Prop := (∀ i, i < n → K i = (se (i + 1), ct (i + 1), aw (i + 1), le (i + 1), ne (i + 1), ins (i + 1), ba (i + 1)) ∧ ∃ c : Nat, c < 65536 ∧ ct (i + 1) = nI c) ∧ ∀ i, n ≤ i → ne (i + 1) = 0 ∧ ins (i + 1) = 0 ∧ ba (i + 1) = 0
def rl_F (k : Int32) (o : Nat → Int8) (g : Nat) (u : Nat → Int32) : Prop := k = nI (min g 16) ∧ ∀ j, j < g → j < 16 → u j = (o j).toInt32 &&& 255
def lw_R (n N : Nat) (st dd : Nat → Int32) (K : Nat → KR) (se : Nat → Int64) (ct aw le ne ins ba : Nat → Int32) (kA : Int32) (oA : Nat → Int8) (gv : Nat) (un : Nat → Int32) (kB : Int32) (oB : Nat → Int8) (sz : Nat) (fr : Nat → Int32) : Prop :=
  n ≤ 8 ∧ gv ≤ N ∧ rl_D st dd ∧ rl_K n K se ct aw le ne ins ba ∧ rl_F kA oA gv un ∧ sz ≤ 16 ∧ rl_F kB oB sz fr
theorem lw_R.up {n N N' : Nat} {st dd : Nat → Int32} {K : Nat → KR} {se : Nat → Int64} {ct aw le ne ins ba : Nat → Int32} {kA : Int32} {oA : Nat → Int8} {gv : Nat} {un : Nat → Int32} {kB : Int32} {oB : Nat → Int8} {sz : Nat} {fr : Nat → Int32} (h : lw_R n N st dd K se ct aw le ne ins ba kA oA gv un kB oB sz fr) (hN : N ≤ N') : lw_R n N' st dd K se ct aw le ne ins ba kA oA gv un kB oB sz fr := ⟨h.1, Nat.le_trans h.2.1 hN, h.2.2⟩
/-- what the law's loop keeps: both worlds, the array for an octet, all apart, and the relation -/
def lw_I (dC : Nat → ClassId) (dI : Nat → Nat → Nat) (A : Nat → Prop) (cK cB cI cJ cZ : ClassId) (o q ou N : Nat) (H : Heap) : Prop :=
  ∃ (ks fa oa fb ob dr ds : Nat) (L : Nat → Nat) (n : Nat) (sp cr rl qs kA : Int32) (oA : Nat → Int8) (kB : Int32) (oB : Nat → Int8) (tt ss : Int64) (st : Nat → Int32) (K : Nat → KR) (aS aC aW aL aN aI aB aD aU aF : Nat) (gv sz : Nat) (cd : Int32) (se : Nat → Int64) (ct aw le ne ins ba dd un fr : Nat → Int32) (ov : Nat → Int64),
    va_P (dC, dI) vwCl (dkW cK cB cI o ks fa oa fb ob dr ds L n sp fa fb cr rl qs kA oA kB oB tt ss st K) H ∧ va_P (dC, dI) vwCl (mdW cI cJ cZ q aS aC aW aL aN aI aB aD aU aF n gv sz cd sp se ct aw le ne ins ba dd cr tt ss un fr rl qs) H ∧ va_P (dC, dI) vwCl [(ou, .inl (cJ, 1, .inr (.inl ov)))] H ∧
    va_D A (dkW cK cB cI o ks fa oa fb ob dr ds L n sp fa fb cr rl qs kA oA kB oB tt ss st K ++ (mdW cI cJ cZ q aS aC aW aL aN aI aB aD aU aF n gv sz cd sp se ct aw le ne ins ba dd cr tt ss un fr rl qs ++ [(ou, .inl (cJ, 1, .inr (.inl ov)))])) ∧
    lw_R n N st dd K se ct aw le ne ins ba kA oA gv un kB oB sz fr
abbrev lw_T (cK cB cI cJ cZ : ClassId) : List (ClassId × FieldType) := [(cK, .object "DoorKeys$Key"), (cB, .byte), (cI, .int), (cJ, .long), (cZ, .boolean)]
/-- three worlds apart, in another order -/
theorem up_3 {A : Nat → Prop} {w1 w2 w3 : va_W} (h : va_D A (w1 ++ (w2 ++ w3))) : va_D A (w2 ++ (w1 ++ w3)) := by
  have e : ∀ (k : Nat) (q : Nat × va_E), (w2 ++ (w1 ++ w3))[k]? = some q → (w1 ++ (w2 ++ w3))[if k < w2.length then k + w1.length else if k < w2.length + w1.length then k - w2.length else k]? = some q := by
    intro k q hk
    by_cases h1 : k < w2.length
    · rw [if_pos h1]
      rw [List.getElem?_append_left h1] at hk
      rw [List.getElem?_append_right (by omega), Nat.add_sub_cancel, List.getElem?_append_left h1]
      exact hk
    · rw [if_neg h1]
      rw [List.getElem?_append_right (by omega)] at hk
      by_cases h2 : k < w2.length + w1.length
      · rw [if_pos h2]
        rw [List.getElem?_append_left (by omega)] at hk
        rw [List.getElem?_append_left (by omega)]
        exact hk
      · rw [if_neg h2]
        rw [List.getElem?_append_right (by omega)] at hk
        rw [List.getElem?_append_right (by omega), List.getElem?_append_right (by omega)]
        rw [show k - w1.length - w2.length = k - w2.length - w1.length by omega]
        exact hk
  refine va_D.by h _ e (fun i j hi hj hij => ?_)
  simp only [List.length_append] at hi hj
  split at hij <;> split at hij <;> first | omega | (split at hij <;> first | omega | (split at hij <;> omega))
theorem lw_apart {A : Nat → Prop} {w1 w2 : va_W} (hD : va_D A (w1 ++ w2)) (k : Nat) (q : Nat × va_E) (hk : w2[k]? = some q) : ¬ up_c w1 q.1 := by
  intro hz
  obtain ⟨i, e9, h9⟩ := hz
  have h1 : (w1 ++ w2)[i]? = some (q.1, e9) := by rw [List.getElem?_append_left (List.getElem?_eq_some_iff.mp h9).1]; exact h9
  have h2 : (w1 ++ w2)[k + w1.length]? = some q := by rw [List.getElem?_append_right (by omega), Nat.add_sub_cancel]; exact hk
  have := hD.1 _ _ _ _ h1 h2 rfl
  have := (List.getElem?_eq_some_iff.mp h9).1
  omega
theorem lw_fst {A : Nat → Prop} {w1 w1' w2 : va_W} (h : w1'.map Prod.fst = w1.map Prod.fst) (hD : va_D A (w1 ++ w2)) : va_D A (w1' ++ w2) := up_Dfst (by rw [List.map_append, List.map_append, h]) hD
section LW
variable {p : Program} {l : Launch} {e : Env} {R : Room} {s : State} {m : MethodId} {args : Array Value} {below : List Frame} {meth : Method} {c : Code} {H : Heap} {locs : List Loc} {cells slots : Nat} {Q : State → Prop} {pc : Nat} {ls : Array Slot} {st0 rest : List Value} {D : va_G} {cl : List vw_C} {A : Nat → Prop} {w1 w1' w2 w3 : va_W} {H0 : Heap} {a : Array Value}
/-- a call over one world: the other two stay -/
theorem lw_call1 {v : Option Value} (hr : CallRun p l e R s m args below meth c H locs cells slots 0 0 (F0 m pc ls st0) rest (up_Q D cl v w1 w1' a) (up_c w1)) (hP2 : va_P D cl w2 H) (hP3 : va_P D cl w3 H) (hD : va_D A (w1 ++ (w2 ++ w3))) (hS : va_S A H0 H locs) (hf : w1'.map Prod.fst = w1.map Prod.fst)
    (kk : ∀ (H1 : Heap) (locs1 : List Loc), va_P D cl w1' H1 → va_P D cl w2 H1 → va_P D cl w3 H1 → va_D A (w1' ++ (w2 ++ w3)) → va_S A H0 H1 locs1 → W p l e R s m args below meth c H1 locs1 cells slots Q (F0 m (pc + 3) ls (v.toList ++ rest))) : W p l e R s m args below meth c H locs cells slots Q (F0 m pc ls st0) := by
  refine up_call hr (up_leftD hD) hS hf (fun H1 locs1 hP1 _ hS1 hz hk => ?_)
  have hPr : va_P D cl (w2 ++ w3) H1 := (hP2.app hP3).kept (fun k q hq => hk q.1 ((hP2.app hP3) k q hq).lt (lw_apart hD k q hq))
  exact kk H1 locs1 hP1 (up_left hPr) (up_right hPr) (lw_fst hf hD) hS1
end LW
theorem lw_cmp0 {a b : Int64} (h : a = b) : lg_cmp a b = 0 := by
  subst h
  unfold lg_cmp
  simp [Int64.lt_irrefl]
