/-! THE LAW, from its entry. -/
theorem lw_X {b L : Nat} {xs : Nat → Int32} {s : State} {H : Heap} {locs : List Loc} (hX : va_X b L xs s s.heap) (hbl : b < s.heap.size) (hS : va_S (lw_A s) s.heap H locs) : va_X b L xs s H := by
  obtain ⟨scr, h1, h2⟩ := hX
  exact ⟨scr, by rw [hS.2.1 b hbl (Nat.not_le.mpr hbl)]; exact h1, h2⟩
theorem lw_R0 {st dd : Nat → Int32} (h1 : ∀ j, j < 5 → st j = 1) (h2 : ∀ j, j < 5 → dd j = 1) : lw_R 0 0 st dd (fun _ => (0, 0, 0, 0, 0, 0, 0)) (fun _ => 0) (fun _ => 0) (fun _ => 0) (fun _ => 0) (fun _ => 0) (fun _ => 0) (fun _ => 0) 0 (fun _ => 0) 0 (fun _ => 0) 0 (fun _ => 0) 0 (fun _ => 0) :=
  ⟨by decide, Nat.le_refl 0, fun j hj => ⟨by rw [h1 j hj, h2 j hj], Or.inr (Or.inl (h2 j hj))⟩, ⟨fun i hi => absurd hi (Nat.not_lt_zero i), fun _ _ => ⟨rfl, rfl, rfl⟩⟩, ⟨rfl, fun j hj => absurd hj (Nat.not_lt_zero j)⟩, by decide, ⟨rfl, fun j hj => absurd hj (Nat.not_lt_zero j)⟩⟩
theorem lw_N0 {s : State} {b : Nat} (hts0 : ∀ w ∈ lw_tbl, w.before #[Value.ref b] s = true) (hgv : (Jvm.Cond.and given_1 narrow_1).before #[Value.ref b] s = true) : tk_N s := by
  have hs := flat_of_before _ hgv
  intro w hw a
  rw [tk_ng_eq] at hw
  simp only [List.mem_cons, List.not_mem_nil, or_false] at hw
  have l1 := hts0 (.laysStatic Bundle.tN "UNASSIGNED_STACK" Bundle.steD) (by decide +kernel)
  have l2 := hts0 (.laysStatic Bundle.tN "SUPPRESSED_SENTINEL" Bundle.listD) (by decide +kernel)
  rcases hw with rfl | rfl | rfl | rfl | rfl | rfl | rfl | rfl | rfl
  · exact tk_ls (State.WarmedH.refl s) (fun _ _ => rfl) l1
  · exact tk_ls (State.WarmedH.refl s) (fun _ _ => rfl) l2
  · exact tk_tab (State.WarmedH.refl s) rfl rfl (hts0 _ (by decide +kernel))
  · exact tk_tab (State.WarmedH.refl s) rfl rfl (hts0 _ (by decide +kernel))
  · exact tk_tab (State.WarmedH.refl s) rfl rfl (hts0 _ (by decide +kernel))
  · exact tk_tab (State.WarmedH.refl s) rfl rfl (hts0 _ (by decide +kernel))
  · exact tk_cast (State.WarmedH.refl s) (hts0 _ (by decide +kernel))
  · exact tk_rs (State.WarmedH.refl s) (fun _ _ => rfl) l1 (hs _ (by decide +kernel))
  · exact tk_rs (State.WarmedH.refl s) (fun _ _ => rfl) l2 (hs _ (by decide +kernel))
theorem lw_Z0 {s : State} {b : Nat} (hts0 : ∀ w ∈ lw_tbl, w.before #[Value.ref b] s = true) (hgv : (Jvm.Cond.and given_1 narrow_1).before #[Value.ref b] s = true) : ∃ tX tY : Nat, dk_S tX tY (lw_A s) s s.heap := by
  have hs := flat_of_before _ hgv
  have hA : ∀ a : Nat, a < s.heap.size → ¬ lw_A s a := fun a h => Nat.not_le.mpr h
  obtain ⟨tX, ex, hTx⟩ := va_Tof (A := lw_A s) (tm := .static "DoorKeys$Doors" "PLACE_X" "[I") (ty := .int) (N := 5) (f := fun j => .int (dk_px j)) (by decide) (hs _ (by decide +kernel)) (va_eqt (z := 5) (hs _ (by decide +kernel))) (fun j hj => by
    rcases (show j = 0 ∨ j = 1 ∨ j = 2 ∨ j = 3 ∨ j = 4 by omega) with rfl | rfl | rfl | rfl | rfl
    · exact va_eqt (z := 1000) (hs _ (by decide +kernel))
    · exact va_eqt (z := 1000) (hs _ (by decide +kernel))
    · exact va_eqt (z := -500) (hs _ (by decide +kernel))
    · exact va_eqt (z := -500) (hs _ (by decide +kernel))
    · exact va_eqt (z := -2200) (hs _ (by decide +kernel))) hA
  obtain ⟨tY, ey, hTy⟩ := va_Tof (A := lw_A s) (tm := .static "DoorKeys$Doors" "PLACE_Y" "[I") (ty := .int) (N := 5) (f := fun j => .int (dk_py j)) (by decide) (hs _ (by decide +kernel)) (va_eqt (z := 5) (hs _ (by decide +kernel))) (fun j hj => by
    rcases (show j = 0 ∨ j = 1 ∨ j = 2 ∨ j = 3 ∨ j = 4 by omega) with rfl | rfl | rfl | rfl | rfl
    · exact va_eqt (z := 900) (hs _ (by decide +kernel))
    · exact va_eqt (z := -900) (hs _ (by decide +kernel))
    · exact va_eqt (z := 900) (hs _ (by decide +kernel))
    · exact va_eqt (z := -900) (hs _ (by decide +kernel))
    · exact va_eqt (z := 0) (hs _ (by decide +kernel))) hA
  exact ⟨tX, tY, va_Zof (hts0 _ (by decide +kernel)) (hts0 _ (by decide +kernel)) ex hA, va_Zof (hts0 _ (by decide +kernel)) (hts0 _ (by decide +kernel)) ey hA, hTx, hTy⟩
set_option maxHeartbeats 4000000 in
set_option maxRecDepth 100000 in
theorem whole_start {p : Program} {e : Env} {s : State} {m : MethodId} {below : List Frame} {meth : Method} {c : Code} (l : Launch) (hfl : l.flags = flags0) {b Ln : Nat} {xs : Nat → Int32} (hL : Ln ≤ 4097) (C0 : lw_At p s m meth c b Ln xs) : W p l e room_1 s m #[Value.ref b] below meth c s.heap [] 0 0 (lw_Z below #[Value.ref b] s) (entryFrame m ([Value.ref b] : List Value).toArray 7) := by
  obtain ⟨hx, hb, hr, hml, hown, hts0, hX, hbl, hlocks, hgv⟩ := id C0
  have hown : s.vm.findClass RL = some m.cls := hown
  have hts := fun w h => hts0 w (wsL_law_in w h)
  have hA : ∀ z : Nat, s.heap.size ≤ z → lw_A s z := fun _ h => h
  have hbA : ¬ lw_A s b := Nat.not_le.mpr hbl
  have hN := lw_N0 hts0 hgv
  obtain ⟨tX, tY, hZ⟩ := lw_Z0 hts0 hgv
  have hO : va_AO RX2 s := va_AO.of (hts0 (.arrayOver (.object RX2)) (by decide +kernel))
  obtain ⟨k0, j0, hn0⟩ := u_known (C := RJx00060) (T := TJx00060) (N := 6) (n := 6) hts0 inJx00060 (hts0 (.instantiable RJx00060 6) (by decide +kernel))
  obtain ⟨k1, j1, hn1⟩ := u_known (C := RX0) (T := TX0) (N := 3) (n := 3) hts0 inX0 (hts0 (.instantiable RX0 3) (by decide +kernel))
  obtain ⟨k2, j2, hn2⟩ := u_known (C := RX1) (T := TX1) (N := 2) (n := 2) hts0 inX1 (hts0 (.instantiable RX1 2) (by decide +kernel))
  obtain ⟨k3, j3, hn3⟩ := u_known (C := RX2) (T := TX2) (N := 7) (n := 7) hts0 inX2 (hts0 (.instantiable RX2 7) (by decide +kernel))
  obtain ⟨k4, j4, hn4⟩ := u_known (C := RX3) (T := TX3) (N := 9) (n := 9) hts0 inX3 (hts0 (.instantiable RX3 9) (by decide +kernel))
  obtain ⟨k5, j5, hn5⟩ := u_known (C := RX4) (T := TX4) (N := 20) (n := 20) hts0 inX4 (hts0 (.instantiable RX4 20) (by decide +kernel))
  obtain ⟨dC, dI, hKc⟩ : ∃ (dC : Nat → ClassId) (dI : Nat → Nat → Nat), ∀ (k : Nat) (q : vw_C), vwCl[k]? = some q → u_Kn s q.1 q.2.1 q.2.2 (dC k) (dI k) := by
    refine ⟨fun k => if k = 0 then k0 else if k = 1 then k1 else if k = 2 then k2 else if k = 3 then k3 else if k = 4 then k4 else k5, fun k => if k = 0 then j0 else if k = 1 then j1 else if k = 2 then j2 else if k = 3 then j3 else if k = 4 then j4 else j5, ?_⟩
    intro k q hq
    match k, hq with
    | 0, hq => cases hq; exact hn0
    | 1, hq => cases hq; exact hn1
    | 2, hq => cases hq; exact hn2
    | 3, hq => cases hq; exact hn3
    | 4, hq => cases hq; exact hn4
    | 5, hq => cases hq; exact hn5
    | k + 6, hq => simp [vwCl] at hq
  have hS : va_S (lw_A s) s.heap s.heap [] := va_S.rf
  have hK : va_K (dC, dI) vwCl [] s := ⟨hKc, fun k q h => by simp at h⟩
  have hP : va_P (dC, dI) vwCl [] s.heap := fun k q h => by simp at h
  have hD : va_D (lw_A s) [] := ⟨fun i j p q h => by simp at h, fun k q h => by simp at h⟩
  have hl := lv_entry ([.ref b]) (n := 7) (Nat.le_of_ble_eq_true rfl)
  rw [lg_entry_eq]
  generalize (lg_sl ([.ref b]) ++ List.replicate (7 - (lg_sl ([.ref b])).length) Slot.unset).toArray = ls at hl ⊢
  have hl : lv_has ls 7 [(0, .ref b)] := hl
  refine va_new (ci := 4) (fs := [.int 0, .null, .int 0, .null, .null, .null, .int 0, .int 0, .int 0]) (C := RX3) (T := TX3) (N := 9) hx hb hts0 inX3 tyX3 tyX3_ok hown (hts (.classLink RL 8 RX3) (by decide +kernel)) (hts (.instantiable RX3 9) (by decide +kernel)) (hts (.initialized RX3) (by decide +kernel)) hK hP hD hS hA rfl (fun j hj => by rcases (show j = 0 ∨ j = 1 ∨ j = 2 ∨ j = 3 ∨ j = 4 ∨ j = 5 ∨ j = 6 ∨ j = 7 ∨ j = 8 by omega) with rfl | rfl | rfl | rfl | rfl | rfl | rfl | rfl | rfl <;> rfl) (Nat.le_of_ble_eq_true rfl) (Nat.le_of_ble_eq_true rfl) dL_law_0 (fun o H hP hD hS => ?_)
  have hP : va_P (dC, dI) vwCl [(o, .inr (4, [.int 0, .null, .int 0, .null, .null, .null, .int 0, .int 0, .int 0]))] H := hP
  have hD : va_D (lw_A s) [(o, .inr (4, [.int 0, .null, .int 0, .null, .null, .null, .int 0, .int 0, .int 0]))] := hD
  refine W.widen (k := 1) (n := 9) (by omega) (by omega) ?_
  refine lv_dup hx hb dL_law_3 rfl ?_
  refine lv_aload_n hx hb dL_law_4 rfl (lv_at hl 0 rfl) ?_
  refine lv_iconst (v := 0) hx hb dL_law_5 (by decide) ?_
  refine W.callV (W.runS (As := [.ref b, .int 0]) (rest := [.ref o, .ref o]) ⟨hx, hb, hml, hown, hts⟩ (c_cell l b Ln xs hL) (va_cwS 2 hts gL_law_L_cell rfl rfl rfl (by decide +kernel) ⟨Nat.le_of_ble_eq_true rfl, Nat.le_of_ble_eq_true rfl⟩) ⟨fun a U g mk q => ⟨q.1, va_X.moved (u := U) (U := U.calling g mk a) (Vm.Alike.refl U.vm) q.2⟩, fun U hU hW => ⟨rfl, by show va_X b Ln xs U U.heap; rw [hU]; exact va_X.moved hW.alike (lw_X hX hbl hS)⟩⟩ rfl rfl hl.1 rfl (lv_room (Nat.le_of_ble_eq_true rfl)) dL_law_6 ⟨Nat.le_of_ble_eq_true rfl, Nat.le_of_ble_eq_true rfl⟩) ?_
  refine W.eq (g2 := F0 m 9 ls (.int (lw_c0 Ln xs) :: [.ref o, .ref o])) rfl ?_
  have hFc := va_free (wc := [(o, .inr (4, [.int 0, .null, .int 0, .null, .null, .null, .int 0, .int 0, .int 0]))]) hD hS hA [0] rfl
  refine va_callv (va_runI (As := [.int (lw_c0 Ln xs)]) (rest := [.ref o]) ⟨hx, hb, hml, hown, hts⟩ (c_X3_init l dC dI o H.size (lw_c0 Ln xs)) (cwI 1 hts gL_law_X3_init rfl rfl rfl (hts (.initialized RX3) (by decide +kernel)) (hts (.methodLink RL 21 yX3_init) (by decide +kernel)) (hts (.instanceMethod yX3_init) (by decide +kernel)) rfl (by decide +kernel) ⟨Nat.le_of_ble_eq_true rfl, Nat.le_of_ble_eq_true rfl⟩) ⟨fun a U g mk q => by obtain ⟨q0, q1, qP, qK, qD, qO⟩ := q; exact ⟨q0, q1, qP, va_K.moved (u := U) (U := U.calling g mk a) (Vm.Alike.refl U.vm) qK, qD, va_AO.moved (u := U) (U := U.calling g mk a) (Vm.Alike.refl U.vm) qO⟩, fun U hU hW => ⟨rfl, by rw [hU], by rw [hU]; exact hP, va_K.moved hW.alike hK, hD.weaken (fun _ _ _ _ => trivial), va_AO.moved hW.alike hO⟩⟩ rfl rfl hl.1 rfl (lv_room (Nat.le_of_ble_eq_true rfl)) dL_law_9 ⟨Nat.le_of_ble_eq_true rfl, Nat.le_of_ble_eq_true rfl⟩) hS (fun q _ h => hFc q h) hFc (fun u t H1 locs ht hvm hw hB hz1 hk1 hS => ?_)
  obtain ⟨cK, cB, cI, ks, fa, oa, fb, ob, dr, ds, st⟩ := u
  obtain ⟨hP1, hK1, hD1⟩ := hB
  rw [ht] at hP1
  have hK1 := va_K.moved hvm.symm hK1
  have hwx : ∀ j, j < 5 → st j = 1 := hw
  have hPx : va_P (dC, dI) vwCl (dkW0 cK cB cI o ks fa oa fb ob dr ds (dk_span (lw_c0 Ln xs)) st) H1 := hP1
  have hDx : va_D (lw_A s) (dkW0 cK cB cI o ks fa oa fb ob dr ds (dk_span (lw_c0 Ln xs)) st) := hD1.weaken (fun k q _ h => hFc q.1 h)
  generalize H1 = H at hPx hS ⊢
  have hKx : va_K (dC, dI) vwCl (dkT cK cB cI) s := hK1
  refine W.widen (k := 8) (n := 61) (by omega) (by omega) ?_
  refine lv_astore_n (lv' := [(1, .ref o), (0, .ref b)]) hx hb dL_law_12 rfl hl (by decide) rfl (fun ls hl => ?_)
  refine va_new (ci := 5) (fs := [.int 0, .int 0, .int 0, .null, .null, .null, .null, .null, .null, .null, .null, .int 0, .long 0, .long 0, .int 0, .null, .int 0, .null, .int 0, .int 0]) (C := RX4) (T := TX4) (N := 20) hx hb hts0 inX4 tyX4 tyX4_ok hown (hts (.classLink RL 24 RX4) (by decide +kernel)) (hts (.instantiable RX4 20) (by decide +kernel)) (hts (.initialized RX4) (by decide +kernel)) hKx hPx hDx hS hA rfl (fun j hj => by
      rcases (show j = 0 ∨ j = 1 ∨ j = 2 ∨ j = 3 ∨ j = 4 ∨ j = 5 ∨ j = 6 ∨ j = 7 ∨ j = 8 ∨ j = 9 ∨ j = 10 ∨ j = 11 ∨ j = 12 ∨ j = 13 ∨ j = 14 ∨ j = 15 ∨ j = 16 ∨ j = 17 ∨ j = 18 ∨ j = 19 by omega) with rfl | rfl | rfl | rfl | rfl | rfl | rfl | rfl | rfl | rfl | rfl | rfl | rfl | rfl | rfl | rfl | rfl | rfl | rfl | rfl <;> rfl) (Nat.le_of_ble_eq_true rfl) (Nat.le_of_ble_eq_true rfl) dL_law_13 (fun q H hP hD hS => ?_)
  have hPx := up_left hP
  have hPq := up_right hP
  refine W.widen (k := 9) (n := 81) (by omega) (by omega) ?_
  refine lv_dup hx hb dL_law_16 rfl ?_
  refine lv_aload_n hx hb dL_law_17 rfl (lv_at hl 1 rfl) ?_
  refine lv_iconst (v := 0) hx hb dL_law_18 (by decide) ?_
  refine W.callV (W.runS (As := [.ref b, .int 0]) (rest := [.ref q, .ref q]) ⟨hx, hb, hml, hown, hts⟩ (c_cell l b Ln xs hL) (va_cwS 2 hts gL_law_L_cell rfl rfl rfl (by decide +kernel) ⟨Nat.le_of_ble_eq_true rfl, Nat.le_of_ble_eq_true rfl⟩) ⟨fun a U g mk q => ⟨q.1, va_X.moved (u := U) (U := U.calling g mk a) (Vm.Alike.refl U.vm) q.2⟩, fun U hU hW => ⟨rfl, by show va_X b Ln xs U U.heap; rw [hU]; exact va_X.moved hW.alike (lw_X hX hbl hS)⟩⟩ rfl rfl hl.1 rfl (lv_room (Nat.le_of_ble_eq_true rfl)) dL_law_19 ⟨Nat.le_of_ble_eq_true rfl, Nat.le_of_ble_eq_true rfl⟩) ?_
  refine W.eq (g2 := F0 m 22 ls (.int (lw_c0 Ln xs) :: [.ref q, .ref q])) rfl ?_
  have hD2 : va_D (lw_A s) ([(q, .inr (5, [.int 0, .int 0, .int 0, .null, .null, .null, .null, .null, .null, .null, .null, .int 0, .long 0, .long 0, .int 0, .null, .int 0, .null, .int 0, .int 0]))] ++ ((dkW0 cK cB cI o ks fa oa fb ob dr ds (dk_span (lw_c0 Ln xs)) st) ++ [])) := up_3 (by rw [List.append_nil]; exact hD)
  have hFc2 : ∀ z, va_A [(q, .inr (5, [.int 0, .int 0, .int 0, .null, .null, .null, .null, .null, .null, .null, .null, .int 0, .long 0, .long 0, .int 0, .null, .int 0, .null, .int 0, .int 0]))] H.size z → lw_A s z := lw_free hD2 hS
  refine va_callv (va_runI (As := [.int (lw_c0 Ln xs)]) (rest := [.ref q]) ⟨hx, hb, hml, hown, hts⟩ (c_X4_init l dC dI q H.size (lw_c0 Ln xs)) (cwI 1 hts gL_law_X4_init rfl rfl rfl (hts (.initialized RX4) (by decide +kernel)) (hts (.methodLink RL 26 yX4_init) (by decide +kernel)) (hts (.instanceMethod yX4_init) (by decide +kernel)) rfl (by decide +kernel) ⟨Nat.le_of_ble_eq_true rfl, Nat.le_of_ble_eq_true rfl⟩) ⟨fun a U g mk q => by obtain ⟨q0, q1, qP, qK, qD⟩ := q; exact ⟨q0, q1, qP, va_K.moved (u := U) (U := U.calling g mk a) (Vm.Alike.refl U.vm) qK, qD⟩, fun U hU hW => ⟨rfl, by rw [hU], by rw [hU]; exact hPq, va_K.moved hW.alike hK, (up_rightD hD).weaken (fun _ _ _ _ => trivial)⟩⟩ rfl rfl hl.1 rfl (lv_room (Nat.le_of_ble_eq_true rfl)) dL_law_22 ⟨Nat.le_of_ble_eq_true rfl, Nat.le_of_ble_eq_true rfl⟩) hS (fun z _ h => hFc2 z h) hFc2 (fun u t H1 locs ht hvm hw hB hz1 hk1 hS => ?_)
  obtain ⟨cI2, cJ, cZ, aS, aC, aW, aL, aN, aI, aB, aD, aU, aF, dd⟩ := u
  obtain ⟨hP1, hK1, hD1⟩ := hB
  rw [ht] at hP1
  have hK1 := va_K.moved hvm.symm hK1
  have hwm : ∀ j, j < 5 → dd j = 1 := hw
  obtain ⟨hPr, hD⟩ := lw_joinN hPx (fun k q h => by simp at h) hD2 hk1 hFc2 hD1
  have hPx : va_P (dC, dI) vwCl (dkW0 cK cB cI o ks fa oa fb ob dr ds (dk_span (lw_c0 Ln xs)) st) H1 := up_left hPr
  have hPm : va_P (dC, dI) vwCl (mdW0 cI2 cJ cZ q aS aC aW aL aN aI aB aD aU aF (dk_span (lw_c0 Ln xs)) dd) H1 := hP1
  have hD : va_D (lw_A s) ((dkW0 cK cB cI o ks fa oa fb ob dr ds (dk_span (lw_c0 Ln xs)) st) ++ (mdW0 cI2 cJ cZ q aS aC aW aL aN aI aB aD aU aF (dk_span (lw_c0 Ln xs)) dd)) := by
    have h9 := up_3 hD
    rw [List.append_nil] at h9
    exact h9
  generalize H1 = H at hPx hPm hS ⊢
  have hKm : va_K (dC, dI) vwCl (mdT cI2 cJ cZ) s := hK1
  have eI : cI2 = cI := Option.some.inj ((hKm.2 0 _ rfl).2.symm.trans (hKx.2 2 _ rfl).2)
  subst eI
  refine W.widen (k := 19) (n := 181) (by omega) (by omega) ?_
  refine lv_astore_n (lv' := [(2, .ref q), (1, .ref o), (0, .ref b)]) hx hb dL_law_25 rfl hl (by decide) rfl (fun ls hl => ?_)
  refine lv_iconst (v := 1) hx hb dL_law_26 (by decide) ?_
  refine va_newa (atype := .long) (N' := 1) (a0 := (1, .inr (.inl (fun _ => 0)))) (ty := .long) (n := 1) hx hb (hts (.arrayClass .long) (by decide +kernel)) rfl (hKx.app hKm) (up_2 hPx hPm) hD hS hA (fun _ => rfl) (by decide) (by decide) (by decide) (Nat.le_of_ble_eq_true rfl) (Nat.le_of_ble_eq_true rfl) dL_law_27 (fun ou cJ2 H hK2 hP hD hS => ?_)
  have eJ : cJ2 = cJ := Option.some.inj ((hK2.2 6 _ rfl).2.symm.trans (hKm.2 1 _ rfl).2)
  subst eJ
  refine W.widen (k := 20) (n := 182) (by omega) (by omega) ?_
  refine lv_astore_n (lv' := [(3, .ref ou), (2, .ref q), (1, .ref o), (0, .ref b)]) hx hb dL_law_29 rfl hl (by decide) rfl (fun ls hl => ?_)
  refine lv_iconst (v := 1) hx hb dL_law_30 (by decide) ?_
  refine lv_istore (lv' := [(4, .int 1), (3, .ref ou), (2, .ref q), (1, .ref o), (0, .ref b)]) hx hb dL_law_31 hl (by decide) rfl (fun ls hl => ?_)
  have hKa : va_K (dC, dI) vwCl (lw_T cK cB cI2 cJ2 cZ) s := hK2.sub [0, 1, 2, 4, 5] rfl
  have hE : lw_E p l s m c dC dI b Ln xs cK cB cI2 cJ2 cZ tX tY := ⟨hx, hb, hml, hown, hts0, hX, hbl, hbA, hKa, hN, hZ, hfl, hL⟩
  have hI : lw_I dC dI (lw_A s) cK cB cI2 cJ2 cZ o q ou 0 H := ⟨ks, fa, oa, fb, ob, dr, ds, _, _, _, _, _, _, _, _, _, _, _, _, st, _, aS, aC, aW, aL, aN, aI, aB, aD, aU, aF, _, _, _, _, _, _, _, _, _, _, dd, _, _, _, up_left (up_left hP), up_right (up_left hP), up_right hP, by rw [List.append_assoc] at hD; exact hD, lw_R0 hwx hwm⟩
  exact lw_loop hE hr hlocks 513 0 (by omega) H locs ls hI hS (lv_sub hl [0, 4, 3, 2, 1] rfl)
