/-! The law's calls, one by one (printed by law.py). -/
set_option maxHeartbeats 4000000 in
set_option maxRecDepth 100000 in
theorem law_pass {p : Program} {l : Launch} {e : Env} {s : State} {m : MethodId} {args : Array Value} {below : List Frame} {meth : Method} {c : Code} {H : Heap} {locs : List Loc} {cells slots : Nat} {Q : State → Prop} {G : Gt} {a b : Nat → Nat} {A : Nat → Prop} {b0 L : Nat} {xs : Nat → Int32} {ls : Array Slot} {i : Nat} (C : LC p s m args c G A b0 L xs) {v : DV} {hs : List HD} {sl : Nat → Option HD} {k : Nat} {m0 : DV} (h : LSt G a b A s H locs v hs sl k m0) (hl : lv_has ls 4 [(0, .ref b0), (1, .ref (a 21)), (2, .ref (b 0)), (3, .int (nI i))]) (hi : i + 4 ≤ L) (hL : L ≤ 2048) (hc : cells + 15 ≤ room_1.cells) (hsl : slots + 253 ≤ room_1.slots) (kk : LK p l e room_1 s m args below meth c Q G a b A ls (cells + 15) (slots + 253) 758) : W p l e room_1 s m args below meth c H locs cells slots Q (F0 m 342 ls []) := by
  obtain ⟨hx, hb, hml, hown, hts, hamb, hX, hbl, hbA, hA, hHS⟩ := C
  obtain ⟨hSim, hP, hD, hS⟩ := h
  have hK := hamb.1
  have hc0 : cells + 0 ≤ room_1.cells := Nat.le_trans (Nat.le_add_right cells 15) hc
  have hs0 : slots + 0 ≤ room_1.slots := Nat.le_trans (Nat.le_add_right slots 253) hsl
  have h1 : vp_in (nI i + 1) L := vp_in_add 1 (by decide) (by omega) (by omega)
  refine lv_aload_n hx hb dL_law_342 rfl (lv_at hl 1 rfl) ?_
  refine lv_aload_n hx hb dL_law_343 rfl (lv_at hl 0 rfl) ?_
  refine lv_iload_n hx hb dL_law_344 rfl (lv_at hl 3 rfl) ?_
  refine lv_iconst (v := 1) hx hb dL_law_345 (by decide) ?_
  refine lv_iadd hx hb dL_law_346 ?_
  refine va_sld hx hb hX hbl hbA hS h1 dL_law_347 ?_
  obtain ⟨r0, u0, lu0, m2, k2, e1, e2, hS2⟩ := pass_eq hSim (n := 5000) (n' := 5000) (by decide) (by decide) (xs (nI i + 1).toNatClampNeg)
  have hne := chgK_ne e1
  refine cwiP (wr := modelC G.2 b m0) (w1 := fun u : DV × List HD => xW G.2 a u.1 (rowsF u.2) (slotF sl) (u.2 ++ esF sl)) (ws1 := fun u : DV × List HD => LW G a b u.1 u.2 sl m0) (va_runV (As := [.int (xs (nI i + 1).toNatClampNeg)]) (rest := []) ⟨hx, hb, hml, hown, hts⟩ (ok_X6_pass l G a _ 5000 v hs (esF sl) (slotF sl) k hSim.2.2.1 hSim.2.2.2.1.2.1 (by have := hSim.2.2.2.1.2.2.1; rwa [List.length_map] at this) (by have := hSim.2.2.2.1.2.2.2.1; rwa [List.length_map] at this) copyFrom_ne (xs (nI i + 1).toNatClampNeg) hne) (cwV 1 hts gL_law_X6_pass rfl rfl rfl (by decide +kernel) ⟨Nat.le_of_ble_eq_true rfl, Nat.le_of_ble_eq_true rfl⟩) ⟨pcW_blind, va_recv hK (va_P_left hP) (ci := 6) (q0 := 0) rfl rfl, pcW_pre (va_P_left hP) (va_D_left hD) hamb⟩ rfl rfl hl.1 rfl (lv_room (Nat.le_of_ble_eq_true rfl)) dL_law_348 ⟨hc, hsl⟩) hP hD hS hA (List.Perm.refl _) (fun _ => List.Perm.refl _) (fun r u H locs hw hP hD hS => ?_)
  obtain ⟨g1, g2, g3⟩ := trip_inj (e1.symm.trans hw)
  subst g1
  rw [g2, g3] at hS2
  refine lv_aload_n hx hb dL_law_351 rfl (lv_at hl 2 rfl) ?_
  refine lv_aload_n hx hb dL_law_352 rfl (lv_at hl 0 rfl) ?_
  refine lv_iload_n hx hb dL_law_353 rfl (lv_at hl 3 rfl) ?_
  refine lv_iconst (v := 1) hx hb dL_law_354 (by decide) ?_
  refine lv_iadd hx hb dL_law_355 ?_
  refine va_sld hx hb hX hbl hbA hS h1 dL_law_356 ?_
  have hpq : (LW G a b u.1 u.2 sl m0).Perm (modelC G.2 b m0 ++ xW G.2 a u.1 (rowsF u.2) (slotF sl) (u.2 ++ esF sl)) := List.perm_append_comm
  have hPm := va_P_left (va_P_perm hP hpq)
  have hDm := va_D_left (va_D_perm hD hpq)
  have hne2 : f_X7_pass 5000 m0 (xs (nI i + 1).toNatClampNeg) ≠ none := by rw [e2]; exact fun e => nomatch e
  refine cwiP (w1 := fun y : DV => modelC G.2 b y) (ws1 := fun y : DV => LW G a b u.1 u.2 sl y) (va_runV (As := [.int (xs (nI i + 1).toNatClampNeg)]) (rest := [.int r0]) ⟨hx, hb, hml, hown, hts⟩ (ok_X7_pass l G b _ 5000 m0 (xs (nI i + 1).toNatClampNeg) hne2) (cwV 1 hts gL_law_X7_pass rfl rfl rfl (by decide +kernel) ⟨Nat.le_of_ble_eq_true rfl, Nat.le_of_ble_eq_true rfl⟩) ⟨pcW_blind, va_recv hK hPm (ci := 7) (q0 := 0) rfl rfl, pcW_pre hPm hDm hamb⟩ rfl rfl hl.1 rfl (lv_room (Nat.le_of_ble_eq_true rfl)) dL_law_357 ⟨hc, hsl⟩) hP hD hS hA hpq (fun _ => List.perm_append_comm) (fun r9 m9 H locs hw9 hP hD hS => ?_)
  obtain ⟨g8, g9⟩ := pair_inj (e2.symm.trans hw9)
  subst g8 g9
  exact lv_icmp_eq (tgt := 758) hx hb dL_law_360 (by decide) (fun _ => (kk u.1 u.2 sl k2 m2 H locs ⟨hS2, hP, hD, hS⟩)) (fun e => absurd rfl e)
set_option maxHeartbeats 4000000 in
set_option maxRecDepth 100000 in
theorem law_ofLetter {p : Program} {l : Launch} {e : Env} {s : State} {m : MethodId} {args : Array Value} {below : List Frame} {meth : Method} {c : Code} {H : Heap} {locs : List Loc} {cells slots : Nat} {Q : State → Prop} {G : Gt} {a b : Nat → Nat} {A : Nat → Prop} {b0 L : Nat} {xs : Nat → Int32} {ls : Array Slot} {i : Nat} (C : LC p s m args c G A b0 L xs) {v : DV} {hs : List HD} {sl : Nat → Option HD} {k : Nat} {m0 : DV} (h : LSt G a b A s H locs v hs sl k m0) (hl : lv_has ls 4 [(0, .ref b0), (1, .ref (a 21)), (2, .ref (b 0)), (3, .int (nI i))]) (hi : i + 4 ≤ L) (hL : L ≤ 2048) (hc : cells + 15 ≤ room_1.cells) (hsl : slots + 253 ≤ room_1.slots) (kk : LK p l e room_1 s m args below meth c Q G a b A ls (cells + 15) (slots + 253) 758) : W p l e room_1 s m args below meth c H locs cells slots Q (F0 m 365 ls []) := by
  obtain ⟨hx, hb, hml, hown, hts, hamb, hX, hbl, hbA, hA, hHS⟩ := C
  obtain ⟨hSim, hP, hD, hS⟩ := h
  have hK := hamb.1
  have hc0 : cells + 0 ≤ room_1.cells := Nat.le_trans (Nat.le_add_right cells 15) hc
  have hs0 : slots + 0 ≤ room_1.slots := Nat.le_trans (Nat.le_add_right slots 253) hsl
  have h1 : vp_in (nI i + 1) L := vp_in_add 1 (by decide) (by omega) (by omega)
  have h2 : vp_in (nI i + 2) L := vp_in_add 2 (by decide) (by omega) (by omega)
  refine lv_aload_n hx hb dL_law_365 rfl (lv_at hl 1 rfl) ?_
  refine lv_aload_n hx hb dL_law_366 rfl (lv_at hl 0 rfl) ?_
  refine lv_iload_n hx hb dL_law_367 rfl (lv_at hl 3 rfl) ?_
  refine lv_iconst (v := 1) hx hb dL_law_368 (by decide) ?_
  refine lv_iadd hx hb dL_law_369 ?_
  refine va_sld hx hb hX hbl hbA hS h1 dL_law_370 ?_
  refine lv_aload_n hx hb dL_law_371 rfl (lv_at hl 0 rfl) ?_
  refine lv_iload_n hx hb dL_law_372 rfl (lv_at hl 3 rfl) ?_
  refine lv_iconst (v := 2) hx hb dL_law_373 (by decide) ?_
  refine lv_iadd hx hb dL_law_374 ?_
  refine va_sld hx hb hX hbl hbA hS h2 dL_law_375 ?_
  obtain ⟨N, w, hI, hN, hR⟩ := id hSim.1
  obtain ⟨r0, u0, m2, e1, e2, f1, f2⟩ := ofLetter_eq hI hR (n := 5000) (by decide) (xs (nI i + 1).toNatClampNeg) (xs (nI i + 2).toNatClampNeg)
  have hS2 := hSim.look f1 (fun j _ => by rw [f2 0 (by decide) (by decide)]) (fun i _ _ h6 h7 => f2 i h6 h7)
  have hne : f_X6_ofLetter 5000 v (xs (nI i + 1).toNatClampNeg) (xs (nI i + 2).toNatClampNeg) ≠ none := by rw [e1]; exact fun e => nomatch e
  have hpm := LW_x G a b v hs sl m0
  have hPc := va_P_left (va_P_perm hP hpm)
  have hDc := va_D_left (va_D_perm hD hpm)
  refine cwiP (w1 := fun u : DV => xcoreC G.2 a u) (ws1 := fun u : DV => LW G a b u hs sl m0) (va_runV (As := [.int (xs (nI i + 1).toNatClampNeg), .int (xs (nI i + 2).toNatClampNeg)]) (rest := []) ⟨hx, hb, hml, hown, hts⟩ (ok_X6_ofLetter l G a _ 5000 v (xs (nI i + 1).toNatClampNeg) (xs (nI i + 2).toNatClampNeg) hne) (cwV 2 hts gL_law_X6_ofLetter rfl rfl rfl (by decide +kernel) ⟨Nat.le_of_ble_eq_true rfl, Nat.le_of_ble_eq_true rfl⟩) ⟨pcW_blind, va_recv hK hPc (ci := 6) (q0 := 0) rfl rfl, pcW_pre hPc hDc hamb⟩ rfl rfl hl.1 rfl (lv_room (Nat.le_of_ble_eq_true rfl)) dL_law_376 ⟨hc0, hs0⟩) hP hD hS hA hpm (fun u => (LW_x G a b u hs sl m0).symm) (fun r u H locs hw hP hD hS => ?_)
  obtain ⟨g1, g2⟩ := pair_inj (e1.symm.trans hw)
  subst g1 g2
  refine lv_aload_n hx hb dL_law_379 rfl (lv_at hl 2 rfl) ?_
  refine lv_aload_n hx hb dL_law_380 rfl (lv_at hl 0 rfl) ?_
  refine lv_iload_n hx hb dL_law_381 rfl (lv_at hl 3 rfl) ?_
  refine lv_iconst (v := 1) hx hb dL_law_382 (by decide) ?_
  refine lv_iadd hx hb dL_law_383 ?_
  refine va_sld hx hb hX hbl hbA hS h1 dL_law_384 ?_
  refine lv_aload_n hx hb dL_law_385 rfl (lv_at hl 0 rfl) ?_
  refine lv_iload_n hx hb dL_law_386 rfl (lv_at hl 3 rfl) ?_
  refine lv_iconst (v := 2) hx hb dL_law_387 (by decide) ?_
  refine lv_iadd hx hb dL_law_388 ?_
  refine va_sld hx hb hX hbl hbA hS h2 dL_law_389 ?_
  have hpq : (LW G a b u0 hs sl m0).Perm (modelC G.2 b m0 ++ xW G.2 a u0 (rowsF hs) (slotF sl) (hs ++ esF sl)) := List.perm_append_comm
  have hPm := va_P_left (va_P_perm hP hpq)
  have hDm := va_D_left (va_D_perm hD hpq)
  have hne2 : f_X7_ofLetter 5000 m0 (xs (nI i + 1).toNatClampNeg) (xs (nI i + 2).toNatClampNeg) ≠ none := by rw [e2]; exact fun e => nomatch e
  refine cwiP (w1 := fun y : DV => modelC G.2 b y) (ws1 := fun y : DV => LW G a b u0 hs sl y) (va_runV (As := [.int (xs (nI i + 1).toNatClampNeg), .int (xs (nI i + 2).toNatClampNeg)]) (rest := [.int r0]) ⟨hx, hb, hml, hown, hts⟩ (ok_X7_ofLetter l G b _ 5000 m0 (xs (nI i + 1).toNatClampNeg) (xs (nI i + 2).toNatClampNeg) hne2) (cwV 2 hts gL_law_X7_ofLetter rfl rfl rfl (by decide +kernel) ⟨Nat.le_of_ble_eq_true rfl, Nat.le_of_ble_eq_true rfl⟩) ⟨pcW_blind, va_recv hK hPm (ci := 7) (q0 := 0) rfl rfl, pcW_pre hPm hDm hamb⟩ rfl rfl hl.1 rfl (lv_room (Nat.le_of_ble_eq_true rfl)) dL_law_390 ⟨hc0, hs0⟩) hP hD hS hA hpq (fun _ => List.perm_append_comm) (fun r9 m9 H locs hw9 hP hD hS => ?_)
  obtain ⟨g8, g9⟩ := pair_inj (e2.symm.trans hw9)
  subst g8 g9
  exact lv_icmp_eq (tgt := 758) hx hb dL_law_393 (by decide) (fun _ => W.widen (Nat.le_add_right cells 15) (Nat.le_add_right slots 253) (kk u0 hs sl k m2 H locs ⟨hS2, hP, hD, hS⟩)) (fun e => absurd rfl e)
set_option maxHeartbeats 4000000 in
set_option maxRecDepth 100000 in
theorem law_ofDrawer {p : Program} {l : Launch} {e : Env} {s : State} {m : MethodId} {args : Array Value} {below : List Frame} {meth : Method} {c : Code} {H : Heap} {locs : List Loc} {cells slots : Nat} {Q : State → Prop} {G : Gt} {a b : Nat → Nat} {A : Nat → Prop} {b0 L : Nat} {xs : Nat → Int32} {ls : Array Slot} {i : Nat} (C : LC p s m args c G A b0 L xs) {v : DV} {hs : List HD} {sl : Nat → Option HD} {k : Nat} {m0 : DV} (h : LSt G a b A s H locs v hs sl k m0) (hl : lv_has ls 4 [(0, .ref b0), (1, .ref (a 21)), (2, .ref (b 0)), (3, .int (nI i))]) (hi : i + 4 ≤ L) (hL : L ≤ 2048) (hc : cells + 15 ≤ room_1.cells) (hsl : slots + 253 ≤ room_1.slots) (kk : LK p l e room_1 s m args below meth c Q G a b A ls (cells + 15) (slots + 253) 758) : W p l e room_1 s m args below meth c H locs cells slots Q (F0 m 398 ls []) := by
  obtain ⟨hx, hb, hml, hown, hts, hamb, hX, hbl, hbA, hA, hHS⟩ := C
  obtain ⟨hSim, hP, hD, hS⟩ := h
  have hK := hamb.1
  have hc0 : cells + 0 ≤ room_1.cells := Nat.le_trans (Nat.le_add_right cells 15) hc
  have hs0 : slots + 0 ≤ room_1.slots := Nat.le_trans (Nat.le_add_right slots 253) hsl
  have h1 : vp_in (nI i + 1) L := vp_in_add 1 (by decide) (by omega) (by omega)
  have h2 : vp_in (nI i + 2) L := vp_in_add 2 (by decide) (by omega) (by omega)
  refine lv_aload_n hx hb dL_law_398 rfl (lv_at hl 1 rfl) ?_
  refine lv_aload_n hx hb dL_law_399 rfl (lv_at hl 0 rfl) ?_
  refine lv_iload_n hx hb dL_law_400 rfl (lv_at hl 3 rfl) ?_
  refine lv_iconst (v := 1) hx hb dL_law_401 (by decide) ?_
  refine lv_iadd hx hb dL_law_402 ?_
  refine va_sld hx hb hX hbl hbA hS h1 dL_law_403 ?_
  refine lv_aload_n hx hb dL_law_404 rfl (lv_at hl 0 rfl) ?_
  refine lv_iload_n hx hb dL_law_405 rfl (lv_at hl 3 rfl) ?_
  refine lv_iconst (v := 2) hx hb dL_law_406 (by decide) ?_
  refine lv_iadd hx hb dL_law_407 ?_
  refine va_sld hx hb hX hbl hbA hS h2 dL_law_408 ?_
  obtain ⟨N, w, hI, hN, hR⟩ := id hSim.1
  obtain ⟨r0, e1, e2⟩ := ofDrawer_eq hI hR (xs (nI i + 1).toNatClampNeg) (xs (nI i + 2).toNatClampNeg) (n := 5000) (by decide)
  have hne : f_X6_ofDrawer 5000 v (xs (nI i + 1).toNatClampNeg) (xs (nI i + 2).toNatClampNeg) ≠ none := by rw [e1]; exact fun e => nomatch e
  have hPc := va_P_left (va_P_perm hP (LW_x G a b v hs sl m0))
  refine vp_callSi (W.runV (As := [.int (xs (nI i + 1).toNatClampNeg), .int (xs (nI i + 2).toNatClampNeg)]) (rest := []) ⟨hx, hb, hml, hown, hts⟩ (ok_X6_ofDrawer l G a 5000 v (xs (nI i + 1).toNatClampNeg) (xs (nI i + 2).toNatClampNeg) hne) (cwV 2 hts gL_law_X6_ofDrawer rfl rfl rfl (by decide +kernel) ⟨Nat.le_of_ble_eq_true rfl, Nat.le_of_ble_eq_true rfl⟩) ⟨pcR_blind, va_recv hK hPc (ci := 6) (q0 := 0) rfl rfl, pcR_pre hPc hamb⟩ rfl rfl hl.1 rfl (lv_room (Nat.le_of_ble_eq_true rfl)) dL_law_409 ⟨hc0, hs0⟩) (fun r hw => ?_)
  have g1 := Option.some.inj (e1.symm.trans hw)
  subst g1
  refine lv_aload_n hx hb dL_law_412 rfl (lv_at hl 2 rfl) ?_
  refine lv_aload_n hx hb dL_law_413 rfl (lv_at hl 0 rfl) ?_
  refine lv_iload_n hx hb dL_law_414 rfl (lv_at hl 3 rfl) ?_
  refine lv_iconst (v := 1) hx hb dL_law_415 (by decide) ?_
  refine lv_iadd hx hb dL_law_416 ?_
  refine va_sld hx hb hX hbl hbA hS h1 dL_law_417 ?_
  refine lv_aload_n hx hb dL_law_418 rfl (lv_at hl 0 rfl) ?_
  refine lv_iload_n hx hb dL_law_419 rfl (lv_at hl 3 rfl) ?_
  refine lv_iconst (v := 2) hx hb dL_law_420 (by decide) ?_
  refine lv_iadd hx hb dL_law_421 ?_
  refine va_sld hx hb hX hbl hbA hS h2 dL_law_422 ?_
  have hpq : (LW G a b v hs sl m0).Perm (modelC G.2 b m0 ++ xW G.2 a v (rowsF hs) (slotF sl) (hs ++ esF sl)) := List.perm_append_comm
  have hPm := va_P_left (va_P_perm hP hpq)
  have hDm := va_D_left (va_D_perm hD hpq)
  have hne2 : f_X7_ofDrawer 5000 m0 (xs (nI i + 1).toNatClampNeg) (xs (nI i + 2).toNatClampNeg) ≠ none := by rw [e2]; exact fun e => nomatch e
  refine vp_callSi (W.runV (As := [.int (xs (nI i + 1).toNatClampNeg), .int (xs (nI i + 2).toNatClampNeg)]) (rest := [.int r0]) ⟨hx, hb, hml, hown, hts⟩ (ok_X7_ofDrawer l G b 5000 m0 (xs (nI i + 1).toNatClampNeg) (xs (nI i + 2).toNatClampNeg) hne2) (cwV 2 hts gL_law_X7_ofDrawer rfl rfl rfl (by decide +kernel) ⟨Nat.le_of_ble_eq_true rfl, Nat.le_of_ble_eq_true rfl⟩) ⟨pcR_blind, va_recv hK hPm (ci := 7) (q0 := 0) rfl rfl, pcR_pre hPm hamb⟩ rfl rfl hl.1 rfl (lv_room (Nat.le_of_ble_eq_true rfl)) dL_law_423 ⟨hc0, hs0⟩) (fun r9 hw9 => ?_)
  have g9 := Option.some.inj (e2.symm.trans hw9)
  subst g9
  exact lv_icmp_eq (tgt := 758) hx hb dL_law_426 (by decide) (fun _ => W.widen (Nat.le_add_right cells 15) (Nat.le_add_right slots 253) (kk v hs sl k m0 H locs ⟨hSim, hP, hD, hS⟩)) (fun e => absurd rfl e)
set_option maxHeartbeats 4000000 in
set_option maxRecDepth 100000 in
theorem law_letters {p : Program} {l : Launch} {e : Env} {s : State} {m : MethodId} {args : Array Value} {below : List Frame} {meth : Method} {c : Code} {H : Heap} {locs : List Loc} {cells slots : Nat} {Q : State → Prop} {G : Gt} {a b : Nat → Nat} {A : Nat → Prop} {b0 L : Nat} {xs : Nat → Int32} {ls : Array Slot} {i : Nat} (C : LC p s m args c G A b0 L xs) {v : DV} {hs : List HD} {sl : Nat → Option HD} {k : Nat} {m0 : DV} (h : LSt G a b A s H locs v hs sl k m0) (hl : lv_has ls 4 [(0, .ref b0), (1, .ref (a 21)), (2, .ref (b 0)), (3, .int (nI i))]) (hi : i + 4 ≤ L) (hL : L ≤ 2048) (hc : cells + 15 ≤ room_1.cells) (hsl : slots + 253 ≤ room_1.slots) (kk : LK p l e room_1 s m args below meth c Q G a b A ls (cells + 15) (slots + 253) 758) : W p l e room_1 s m args below meth c H locs cells slots Q (F0 m 431 ls []) := by
  obtain ⟨hx, hb, hml, hown, hts, hamb, hX, hbl, hbA, hA, hHS⟩ := C
  obtain ⟨hSim, hP, hD, hS⟩ := h
  have hK := hamb.1
  have hc0 : cells + 0 ≤ room_1.cells := Nat.le_trans (Nat.le_add_right cells 15) hc
  have hs0 : slots + 0 ≤ room_1.slots := Nat.le_trans (Nat.le_add_right slots 253) hsl
  have h1 : vp_in (nI i + 1) L := vp_in_add 1 (by decide) (by omega) (by omega)
  refine lv_aload_n hx hb dL_law_431 rfl (lv_at hl 1 rfl) ?_
  refine lv_aload_n hx hb dL_law_432 rfl (lv_at hl 0 rfl) ?_
  refine lv_iload_n hx hb dL_law_433 rfl (lv_at hl 3 rfl) ?_
  refine lv_iconst (v := 1) hx hb dL_law_434 (by decide) ?_
  refine lv_iadd hx hb dL_law_435 ?_
  refine va_sld hx hb hX hbl hbA hS h1 dL_law_436 ?_
  obtain ⟨N, w, hI, hN, hR⟩ := id hSim.1
  obtain ⟨r0, e1, e2⟩ := letters_eq hI hR (xs (nI i + 1).toNatClampNeg) (n := 5000) (by decide)
  have hne : f_X6_letters 5000 v (xs (nI i + 1).toNatClampNeg) ≠ none := by rw [e1]; exact fun e => nomatch e
  have hPc := va_P_left (va_P_perm hP (LW_x G a b v hs sl m0))
  refine vp_callSl (W.runV (As := [.int (xs (nI i + 1).toNatClampNeg)]) (rest := []) ⟨hx, hb, hml, hown, hts⟩ (ok_X6_letters l G a 5000 v (xs (nI i + 1).toNatClampNeg) hne) (cwV 1 hts gL_law_X6_letters rfl rfl rfl (by decide +kernel) ⟨Nat.le_of_ble_eq_true rfl, Nat.le_of_ble_eq_true rfl⟩) ⟨pcR_blind, va_recv hK hPc (ci := 6) (q0 := 0) rfl rfl, pcR_pre hPc hamb⟩ rfl rfl hl.1 rfl (lv_room (Nat.le_of_ble_eq_true rfl)) dL_law_437 ⟨hc0, hs0⟩) (fun r hw => ?_)
  have g1 := Option.some.inj (e1.symm.trans hw)
  subst g1
  refine lv_aload_n hx hb dL_law_440 rfl (lv_at hl 2 rfl) ?_
  refine lv_aload_n hx hb dL_law_441 rfl (lv_at hl 0 rfl) ?_
  refine lv_iload_n hx hb dL_law_442 rfl (lv_at hl 3 rfl) ?_
  refine lv_iconst (v := 1) hx hb dL_law_443 (by decide) ?_
  refine lv_iadd hx hb dL_law_444 ?_
  refine va_sld hx hb hX hbl hbA hS h1 dL_law_445 ?_
  have hpq : (LW G a b v hs sl m0).Perm (modelC G.2 b m0 ++ xW G.2 a v (rowsF hs) (slotF sl) (hs ++ esF sl)) := List.perm_append_comm
  have hPm := va_P_left (va_P_perm hP hpq)
  have hDm := va_D_left (va_D_perm hD hpq)
  have hne2 : f_X7_letters 5000 m0 (xs (nI i + 1).toNatClampNeg) ≠ none := by rw [e2]; exact fun e => nomatch e
  refine vp_callSl (W.runV (As := [.int (xs (nI i + 1).toNatClampNeg)]) (rest := [.long r0]) ⟨hx, hb, hml, hown, hts⟩ (ok_X7_letters l G b 5000 m0 (xs (nI i + 1).toNatClampNeg) hne2) (cwV 1 hts gL_law_X7_letters rfl rfl rfl (by decide +kernel) ⟨Nat.le_of_ble_eq_true rfl, Nat.le_of_ble_eq_true rfl⟩) ⟨pcR_blind, va_recv hK hPm (ci := 7) (q0 := 0) rfl rfl, pcR_pre hPm hamb⟩ rfl rfl hl.1 rfl (lv_room (Nat.le_of_ble_eq_true rfl)) dL_law_446 ⟨hc0, hs0⟩) (fun r9 hw9 => ?_)
  have g9 := Option.some.inj (e2.symm.trans hw9)
  subst g9
  refine W.lcmp hx hb dL_law_449 ?_
  exact lv_if_eq (tgt := 758) hx hb dL_law_450 (by decide) (fun _ => W.widen (Nat.le_add_right cells 15) (Nat.le_add_right slots 253) (kk v hs sl k m0 H locs ⟨hSim, hP, hD, hS⟩)) (fun e => absurd (lg_cmp_self _) e)
set_option maxHeartbeats 4000000 in
set_option maxRecDepth 100000 in
theorem law_count {p : Program} {l : Launch} {e : Env} {s : State} {m : MethodId} {args : Array Value} {below : List Frame} {meth : Method} {c : Code} {H : Heap} {locs : List Loc} {cells slots : Nat} {Q : State → Prop} {G : Gt} {a b : Nat → Nat} {A : Nat → Prop} {b0 L : Nat} {xs : Nat → Int32} {ls : Array Slot} {i : Nat} (C : LC p s m args c G A b0 L xs) {v : DV} {hs : List HD} {sl : Nat → Option HD} {k : Nat} {m0 : DV} (h : LSt G a b A s H locs v hs sl k m0) (hl : lv_has ls 4 [(0, .ref b0), (1, .ref (a 21)), (2, .ref (b 0)), (3, .int (nI i))]) (hi : i + 4 ≤ L) (hL : L ≤ 2048) (hc : cells + 15 ≤ room_1.cells) (hsl : slots + 253 ≤ room_1.slots) (kk : LK p l e room_1 s m args below meth c Q G a b A ls (cells + 15) (slots + 253) 758) : W p l e room_1 s m args below meth c H locs cells slots Q (F0 m 455 ls []) := by
  obtain ⟨hx, hb, hml, hown, hts, hamb, hX, hbl, hbA, hA, hHS⟩ := C
  obtain ⟨hSim, hP, hD, hS⟩ := h
  have hK := hamb.1
  have hc0 : cells + 0 ≤ room_1.cells := Nat.le_trans (Nat.le_add_right cells 15) hc
  have hs0 : slots + 0 ≤ room_1.slots := Nat.le_trans (Nat.le_add_right slots 253) hsl
  have h1 : vp_in (nI i + 1) L := vp_in_add 1 (by decide) (by omega) (by omega)
  refine lv_aload_n hx hb dL_law_455 rfl (lv_at hl 1 rfl) ?_
  refine lv_aload_n hx hb dL_law_456 rfl (lv_at hl 0 rfl) ?_
  refine lv_iload_n hx hb dL_law_457 rfl (lv_at hl 3 rfl) ?_
  refine lv_iconst (v := 1) hx hb dL_law_458 (by decide) ?_
  refine lv_iadd hx hb dL_law_459 ?_
  refine va_sld hx hb hX hbl hbA hS h1 dL_law_460 ?_
  obtain ⟨N, w, hI, hN, hR⟩ := id hSim.1
  have hpd : m0 9 0 = v 16 0 := by obtain ⟨L2, -, q1, q2, -⟩ := hSim.2.1; rw [q1, q2]
  have hkk : m0 8 0 = v 22 0 := by rw [hSim.2.2.1, hSim.2.2.2.1.1]
  obtain ⟨r0, e1, e2⟩ := count_eq hI hR hpd hkk (xs (nI i + 1).toNatClampNeg) (n := 5000) (by decide)
  have hne : f_X6_count 5000 v (xs (nI i + 1).toNatClampNeg) ≠ none := by rw [e1]; exact fun e => nomatch e
  have hPc := va_P_left (va_P_perm hP (LW_x G a b v hs sl m0))
  refine vp_callSi (W.runV (As := [.int (xs (nI i + 1).toNatClampNeg)]) (rest := []) ⟨hx, hb, hml, hown, hts⟩ (ok_X6_count l G a 5000 v (xs (nI i + 1).toNatClampNeg) hne) (cwV 1 hts gL_law_X6_count rfl rfl rfl (by decide +kernel) ⟨Nat.le_of_ble_eq_true rfl, Nat.le_of_ble_eq_true rfl⟩) ⟨pcR_blind, va_recv hK hPc (ci := 6) (q0 := 0) rfl rfl, pcR_pre hPc hamb⟩ rfl rfl hl.1 rfl (lv_room (Nat.le_of_ble_eq_true rfl)) dL_law_461 ⟨hc0, hs0⟩) (fun r hw => ?_)
  have g1 := Option.some.inj (e1.symm.trans hw)
  subst g1
  refine lv_aload_n hx hb dL_law_464 rfl (lv_at hl 2 rfl) ?_
  refine lv_aload_n hx hb dL_law_465 rfl (lv_at hl 0 rfl) ?_
  refine lv_iload_n hx hb dL_law_466 rfl (lv_at hl 3 rfl) ?_
  refine lv_iconst (v := 1) hx hb dL_law_467 (by decide) ?_
  refine lv_iadd hx hb dL_law_468 ?_
  refine va_sld hx hb hX hbl hbA hS h1 dL_law_469 ?_
  have hpq : (LW G a b v hs sl m0).Perm (modelC G.2 b m0 ++ xW G.2 a v (rowsF hs) (slotF sl) (hs ++ esF sl)) := List.perm_append_comm
  have hPm := va_P_left (va_P_perm hP hpq)
  have hDm := va_D_left (va_D_perm hD hpq)
  have hne2 : f_X7_count 5000 m0 (xs (nI i + 1).toNatClampNeg) ≠ none := by rw [e2]; exact fun e => nomatch e
  refine vp_callSi (W.runV (As := [.int (xs (nI i + 1).toNatClampNeg)]) (rest := [.int r0]) ⟨hx, hb, hml, hown, hts⟩ (ok_X7_count l G b 5000 m0 (xs (nI i + 1).toNatClampNeg) hne2) (cwV 1 hts gL_law_X7_count rfl rfl rfl (by decide +kernel) ⟨Nat.le_of_ble_eq_true rfl, Nat.le_of_ble_eq_true rfl⟩) ⟨pcR_blind, va_recv hK hPm (ci := 7) (q0 := 0) rfl rfl, pcR_pre hPm hamb⟩ rfl rfl hl.1 rfl (lv_room (Nat.le_of_ble_eq_true rfl)) dL_law_470 ⟨hc0, hs0⟩) (fun r9 hw9 => ?_)
  have g9 := Option.some.inj (e2.symm.trans hw9)
  subst g9
  exact lv_icmp_eq (tgt := 758) hx hb dL_law_473 (by decide) (fun _ => W.widen (Nat.le_add_right cells 15) (Nat.le_add_right slots 253) (kk v hs sl k m0 H locs ⟨hSim, hP, hD, hS⟩)) (fun e => absurd rfl e)
set_option maxHeartbeats 4000000 in
set_option maxRecDepth 100000 in
theorem law_meanHeat {p : Program} {l : Launch} {e : Env} {s : State} {m : MethodId} {args : Array Value} {below : List Frame} {meth : Method} {c : Code} {H : Heap} {locs : List Loc} {cells slots : Nat} {Q : State → Prop} {G : Gt} {a b : Nat → Nat} {A : Nat → Prop} {b0 L : Nat} {xs : Nat → Int32} {ls : Array Slot} {i : Nat} (C : LC p s m args c G A b0 L xs) {v : DV} {hs : List HD} {sl : Nat → Option HD} {k : Nat} {m0 : DV} (h : LSt G a b A s H locs v hs sl k m0) (hl : lv_has ls 4 [(0, .ref b0), (1, .ref (a 21)), (2, .ref (b 0)), (3, .int (nI i))]) (hi : i + 4 ≤ L) (hL : L ≤ 2048) (hc : cells + 15 ≤ room_1.cells) (hsl : slots + 253 ≤ room_1.slots) (kk : LK p l e room_1 s m args below meth c Q G a b A ls (cells + 15) (slots + 253) 758) : W p l e room_1 s m args below meth c H locs cells slots Q (F0 m 478 ls []) := by
  obtain ⟨hx, hb, hml, hown, hts, hamb, hX, hbl, hbA, hA, hHS⟩ := C
  obtain ⟨hSim, hP, hD, hS⟩ := h
  have hK := hamb.1
  have hc0 : cells + 0 ≤ room_1.cells := Nat.le_trans (Nat.le_add_right cells 15) hc
  have hs0 : slots + 0 ≤ room_1.slots := Nat.le_trans (Nat.le_add_right slots 253) hsl
  refine lv_aload_n hx hb dL_law_478 rfl (lv_at hl 1 rfl) ?_
  obtain ⟨N, w, hI, hN, hR⟩ := id hSim.1
  obtain ⟨r0, e1, e2⟩ := meanHeat_eq hI hR (by omega) (n := 5000) (n' := 5000) (by decide) (by decide)
  have hne : f_X6_meanHeat 5000 v ≠ none := by rw [e1]; exact fun e => nomatch e
  have hPc := va_P_left (va_P_perm hP (LW_x G a b v hs sl m0))
  refine vp_callSl (W.runV (As := []) (rest := []) ⟨hx, hb, hml, hown, hts⟩ (ok_X6_meanHeat l G a 5000 v hne) (cwV 0 hts gL_law_X6_meanHeat rfl rfl rfl (by decide +kernel) ⟨Nat.le_of_ble_eq_true rfl, Nat.le_of_ble_eq_true rfl⟩) ⟨pcR_blind, va_recv hK hPc (ci := 6) (q0 := 0) rfl rfl, pcR_pre hPc hamb⟩ rfl rfl hl.1 rfl (lv_room (Nat.le_of_ble_eq_true rfl)) dL_law_479 ⟨hc0, hs0⟩) (fun r hw => ?_)
  have g1 := Option.some.inj (e1.symm.trans hw)
  subst g1
  refine lv_aload_n hx hb dL_law_482 rfl (lv_at hl 2 rfl) ?_
  have hpq : (LW G a b v hs sl m0).Perm (modelC G.2 b m0 ++ xW G.2 a v (rowsF hs) (slotF sl) (hs ++ esF sl)) := List.perm_append_comm
  have hPm := va_P_left (va_P_perm hP hpq)
  have hDm := va_D_left (va_D_perm hD hpq)
  have hne2 : f_X7_meanHeat 5000 m0 ≠ none := by rw [e2]; exact fun e => nomatch e
  refine vp_callSl (W.runV (As := []) (rest := [.long r0]) ⟨hx, hb, hml, hown, hts⟩ (ok_X7_meanHeat l G b 5000 m0 hne2) (cwV 0 hts gL_law_X7_meanHeat rfl rfl rfl (by decide +kernel) ⟨Nat.le_of_ble_eq_true rfl, Nat.le_of_ble_eq_true rfl⟩) ⟨pcR_blind, va_recv hK hPm (ci := 7) (q0 := 0) rfl rfl, pcR_pre hPm hamb⟩ rfl rfl hl.1 rfl (lv_room (Nat.le_of_ble_eq_true rfl)) dL_law_483 ⟨hc0, hs0⟩) (fun r9 hw9 => ?_)
  have g9 := Option.some.inj (e2.symm.trans hw9)
  subst g9
  refine W.lcmp hx hb dL_law_486 ?_
  exact lv_if_eq (tgt := 758) hx hb dL_law_487 (by decide) (fun _ => W.widen (Nat.le_add_right cells 15) (Nat.le_add_right slots 253) (kk v hs sl k m0 H locs ⟨hSim, hP, hD, hS⟩)) (fun e => absurd (lg_cmp_self _) e)
