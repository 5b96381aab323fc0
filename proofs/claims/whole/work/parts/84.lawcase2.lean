/-! The law's calls, one by one (printed by law.py). -/
set_option maxHeartbeats 4000000 in
set_option maxRecDepth 100000 in
theorem law_share {p : Program} {l : Launch} {e : Env} {s : State} {m : MethodId} {args : Array Value} {below : List Frame} {meth : Method} {c : Code} {H : Heap} {locs : List Loc} {cells slots : Nat} {Q : State → Prop} {G : Gt} {a b : Nat → Nat} {A : Nat → Prop} {b0 L : Nat} {xs : Nat → Int32} {ls : Array Slot} {i : Nat} (C : LC p s m args c G A b0 L xs) {v : DV} {hs : List HD} {sl : Nat → Option HD} {k : Nat} {m0 : DV} (h : LSt G a b A s H locs v hs sl k m0) (hl : lv_has ls 4 [(0, .ref b0), (1, .ref (a 21)), (2, .ref (b 0)), (3, .int (nI i))]) (hi : i + 4 ≤ L) (hL : L ≤ 2048) (hc : cells + 15 ≤ room_1.cells) (hsl : slots + 253 ≤ room_1.slots) (kk : LK p l e room_1 s m args below meth c Q G a b A ls (cells + 15) (slots + 253) 758) : W p l e room_1 s m args below meth c H locs cells slots Q (F0 m 492 ls []) := by
  obtain ⟨hx, hb, hml, hown, hts, hamb, hX, hbl, hbA, hA, hHS⟩ := C
  obtain ⟨hSim, hP, hD, hS⟩ := h
  have hK := hamb.1
  have hc0 : cells + 0 ≤ room_1.cells := Nat.le_trans (Nat.le_add_right cells 15) hc
  have hs0 : slots + 0 ≤ room_1.slots := Nat.le_trans (Nat.le_add_right slots 253) hsl
  refine lv_aload_n hx hb dL_law_492 rfl (lv_at hl 1 rfl) ?_
  obtain ⟨N, w, hI, hN, hR⟩ := id hSim.1
  obtain ⟨r0, e1, e2⟩ := share_eq hI hR (n := 5000) (n' := 5000) (by decide) (by decide)
  have hne : f_X6_share 5000 v ≠ none := by rw [e1]; exact fun e => nomatch e
  have hPc := va_P_left (va_P_perm hP (LW_x G a b v hs sl m0))
  refine vp_callSi (W.runV (As := []) (rest := []) ⟨hx, hb, hml, hown, hts⟩ (ok_X6_share l G a 5000 v hne) (cwV 0 hts gL_law_X6_share rfl rfl rfl (by decide +kernel) ⟨Nat.le_of_ble_eq_true rfl, Nat.le_of_ble_eq_true rfl⟩) ⟨pcR_blind, va_recv hK hPc (ci := 6) (q0 := 0) rfl rfl, pcR_pre hPc hamb⟩ rfl rfl hl.1 rfl (lv_room (Nat.le_of_ble_eq_true rfl)) dL_law_493 ⟨hc0, hs0⟩) (fun r hw => ?_)
  have g1 := Option.some.inj (e1.symm.trans hw)
  subst g1
  refine lv_aload_n hx hb dL_law_496 rfl (lv_at hl 2 rfl) ?_
  have hpq : (LW G a b v hs sl m0).Perm (modelC G.2 b m0 ++ xW G.2 a v (rowsF hs) (slotF sl) (hs ++ esF sl)) := List.perm_append_comm
  have hPm := va_P_left (va_P_perm hP hpq)
  have hDm := va_D_left (va_D_perm hD hpq)
  have hne2 : f_X7_share 5000 m0 ≠ none := by rw [e2]; exact fun e => nomatch e
  refine vp_callSi (W.runV (As := []) (rest := [.int r0]) ⟨hx, hb, hml, hown, hts⟩ (ok_X7_share l G b 5000 m0 hne2) (cwV 0 hts gL_law_X7_share rfl rfl rfl (by decide +kernel) ⟨Nat.le_of_ble_eq_true rfl, Nat.le_of_ble_eq_true rfl⟩) ⟨pcR_blind, va_recv hK hPm (ci := 7) (q0 := 0) rfl rfl, pcR_pre hPm hamb⟩ rfl rfl hl.1 rfl (lv_room (Nat.le_of_ble_eq_true rfl)) dL_law_497 ⟨hc0, hs0⟩) (fun r9 hw9 => ?_)
  have g9 := Option.some.inj (e2.symm.trans hw9)
  subst g9
  exact lv_icmp_eq (tgt := 758) hx hb dL_law_500 (by decide) (fun _ => W.widen (Nat.le_add_right cells 15) (Nat.le_add_right slots 253) (kk v hs sl k m0 H locs ⟨hSim, hP, hD, hS⟩)) (fun e => absurd rfl e)
set_option maxHeartbeats 4000000 in
set_option maxRecDepth 100000 in
theorem law_goesIn {p : Program} {l : Launch} {e : Env} {s : State} {m : MethodId} {args : Array Value} {below : List Frame} {meth : Method} {c : Code} {H : Heap} {locs : List Loc} {cells slots : Nat} {Q : State → Prop} {G : Gt} {a b : Nat → Nat} {A : Nat → Prop} {b0 L : Nat} {xs : Nat → Int32} {ls : Array Slot} {i : Nat} (C : LC p s m args c G A b0 L xs) {v : DV} {hs : List HD} {sl : Nat → Option HD} {k : Nat} {m0 : DV} (h : LSt G a b A s H locs v hs sl k m0) (hl : lv_has ls 4 [(0, .ref b0), (1, .ref (a 21)), (2, .ref (b 0)), (3, .int (nI i))]) (hi : i + 4 ≤ L) (hL : L ≤ 2048) (hc : cells + 15 ≤ room_1.cells) (hsl : slots + 253 ≤ room_1.slots) (kk : LK p l e room_1 s m args below meth c Q G a b A ls (cells + 15) (slots + 253) 758) : W p l e room_1 s m args below meth c H locs cells slots Q (F0 m 505 ls []) := by
  obtain ⟨hx, hb, hml, hown, hts, hamb, hX, hbl, hbA, hA, hHS⟩ := C
  obtain ⟨hSim, hP, hD, hS⟩ := h
  have hK := hamb.1
  have hc0 : cells + 0 ≤ room_1.cells := Nat.le_trans (Nat.le_add_right cells 15) hc
  have hs0 : slots + 0 ≤ room_1.slots := Nat.le_trans (Nat.le_add_right slots 253) hsl
  have h1 : vp_in (nI i + 1) L := vp_in_add 1 (by decide) (by omega) (by omega)
  refine lv_aload_n hx hb dL_law_505 rfl (lv_at hl 1 rfl) ?_
  refine lv_aload_n hx hb dL_law_506 rfl (lv_at hl 0 rfl) ?_
  refine lv_iload_n hx hb dL_law_507 rfl (lv_at hl 3 rfl) ?_
  refine lv_iconst (v := 1) hx hb dL_law_508 (by decide) ?_
  refine lv_iadd hx hb dL_law_509 ?_
  refine va_sld hx hb hX hbl hbA hS h1 dL_law_510 ?_
  obtain ⟨N, w, hI, hN, hR⟩ := id hSim.1
  obtain ⟨r0, m2, e1, e2, f0, f1⟩ := goesIn_eq hI hN hR (n := 5000) (n' := 5000) (by decide) (by decide) (xs (nI i + 1).toNatClampNeg)
  have hS2 := hSim.look (u := v) (fun _ _ => rfl) f0 (fun i h0 h1 _ _ => f1 i h0 h1)
  have hne : f_X6_goesIn 5000 v (xs (nI i + 1).toNatClampNeg) ≠ none := by rw [e1]; exact fun e => nomatch e
  have hPc := va_P_left (va_P_perm hP (LW_x G a b v hs sl m0))
  refine vp_callSi (W.runV (As := [.int (xs (nI i + 1).toNatClampNeg)]) (rest := []) ⟨hx, hb, hml, hown, hts⟩ (ok_X6_goesIn l G a 5000 v (xs (nI i + 1).toNatClampNeg) hne) (cwV 1 hts gL_law_X6_goesIn rfl rfl rfl (by decide +kernel) ⟨Nat.le_of_ble_eq_true rfl, Nat.le_of_ble_eq_true rfl⟩) ⟨pcR_blind, va_recv hK hPc (ci := 6) (q0 := 0) rfl rfl, pcR_pre hPc hamb⟩ rfl rfl hl.1 rfl (lv_room (Nat.le_of_ble_eq_true rfl)) dL_law_511 ⟨hc0, hs0⟩) (fun r hw => ?_)
  have g1 := Option.some.inj (e1.symm.trans hw)
  subst g1
  refine lv_aload_n hx hb dL_law_514 rfl (lv_at hl 2 rfl) ?_
  refine lv_aload_n hx hb dL_law_515 rfl (lv_at hl 0 rfl) ?_
  refine lv_iload_n hx hb dL_law_516 rfl (lv_at hl 3 rfl) ?_
  refine lv_iconst (v := 1) hx hb dL_law_517 (by decide) ?_
  refine lv_iadd hx hb dL_law_518 ?_
  refine va_sld hx hb hX hbl hbA hS h1 dL_law_519 ?_
  have hpq : (LW G a b v hs sl m0).Perm (modelC G.2 b m0 ++ xW G.2 a v (rowsF hs) (slotF sl) (hs ++ esF sl)) := List.perm_append_comm
  have hPm := va_P_left (va_P_perm hP hpq)
  have hDm := va_D_left (va_D_perm hD hpq)
  have hne2 : f_X7_goesIn 5000 m0 (xs (nI i + 1).toNatClampNeg) ≠ none := by rw [e2]; exact fun e => nomatch e
  refine cwiP (w1 := fun y : DV => modelC G.2 b y) (ws1 := fun y : DV => LW G a b v hs sl y) (va_runV (As := [.int (xs (nI i + 1).toNatClampNeg)]) (rest := [.int r0]) ⟨hx, hb, hml, hown, hts⟩ (ok_X7_goesIn l G b _ 5000 m0 (xs (nI i + 1).toNatClampNeg) hne2) (cwV 1 hts gL_law_X7_goesIn rfl rfl rfl (by decide +kernel) ⟨Nat.le_of_ble_eq_true rfl, Nat.le_of_ble_eq_true rfl⟩) ⟨pcW_blind, va_recv hK hPm (ci := 7) (q0 := 0) rfl rfl, pcW_pre hPm hDm hamb⟩ rfl rfl hl.1 rfl (lv_room (Nat.le_of_ble_eq_true rfl)) dL_law_520 ⟨hc0, hs0⟩) hP hD hS hA hpq (fun _ => List.perm_append_comm) (fun r9 m9 H locs hw9 hP hD hS => ?_)
  obtain ⟨g8, g9⟩ := pair_inj (e2.symm.trans hw9)
  subst g8 g9
  exact lv_icmp_eq (tgt := 758) hx hb dL_law_523 (by decide) (fun _ => W.widen (Nat.le_add_right cells 15) (Nat.le_add_right slots 253) (kk v hs sl k m2 H locs ⟨hS2, hP, hD, hS⟩)) (fun e => absurd rfl e)
set_option maxHeartbeats 4000000 in
set_option maxRecDepth 100000 in
theorem law_bestPost {p : Program} {l : Launch} {e : Env} {s : State} {m : MethodId} {args : Array Value} {below : List Frame} {meth : Method} {c : Code} {H : Heap} {locs : List Loc} {cells slots : Nat} {Q : State → Prop} {G : Gt} {a b : Nat → Nat} {A : Nat → Prop} {b0 L : Nat} {xs : Nat → Int32} {ls : Array Slot} {i : Nat} (C : LC p s m args c G A b0 L xs) {v : DV} {hs : List HD} {sl : Nat → Option HD} {k : Nat} {m0 : DV} (h : LSt G a b A s H locs v hs sl k m0) (hl : lv_has ls 4 [(0, .ref b0), (1, .ref (a 21)), (2, .ref (b 0)), (3, .int (nI i))]) (hi : i + 4 ≤ L) (hL : L ≤ 2048) (hc : cells + 15 ≤ room_1.cells) (hsl : slots + 253 ≤ room_1.slots) (kk : LK p l e room_1 s m args below meth c Q G a b A ls (cells + 15) (slots + 253) 758) : W p l e room_1 s m args below meth c H locs cells slots Q (F0 m 528 ls []) := by
  obtain ⟨hx, hb, hml, hown, hts, hamb, hX, hbl, hbA, hA, hHS⟩ := C
  obtain ⟨hSim, hP, hD, hS⟩ := h
  have hK := hamb.1
  have hc0 : cells + 0 ≤ room_1.cells := Nat.le_trans (Nat.le_add_right cells 15) hc
  have hs0 : slots + 0 ≤ room_1.slots := Nat.le_trans (Nat.le_add_right slots 253) hsl
  have h1 : vp_in (nI i + 1) L := vp_in_add 1 (by decide) (by omega) (by omega)
  have h2 : vp_in (nI i + 2) L := vp_in_add 2 (by decide) (by omega) (by omega)
  refine lv_aload_n hx hb dL_law_528 rfl (lv_at hl 1 rfl) ?_
  refine lv_aload_n hx hb dL_law_529 rfl (lv_at hl 0 rfl) ?_
  refine lv_iload_n hx hb dL_law_530 rfl (lv_at hl 3 rfl) ?_
  refine lv_iconst (v := 1) hx hb dL_law_531 (by decide) ?_
  refine lv_iadd hx hb dL_law_532 ?_
  refine va_sld hx hb hX hbl hbA hS h1 dL_law_533 ?_
  refine lv_aload_n hx hb dL_law_534 rfl (lv_at hl 0 rfl) ?_
  refine lv_iload_n hx hb dL_law_535 rfl (lv_at hl 3 rfl) ?_
  refine lv_iconst (v := 2) hx hb dL_law_536 (by decide) ?_
  refine lv_iadd hx hb dL_law_537 ?_
  refine va_sld hx hb hX hbl hbA hS h2 dL_law_538 ?_
  obtain ⟨N, w, hI, hN, hR⟩ := id hSim.1
  obtain ⟨r0, m2, e1, e2, f0, f1⟩ := bestPost_eq hI hN hR (n := 5000) (n' := 5000) (by decide) (by decide) (xs (nI i + 1).toNatClampNeg) (xs (nI i + 2).toNatClampNeg)
  have hS2 := hSim.look (u := v) (fun _ _ => rfl) f0 (fun i h0 h1 _ _ => f1 i h0 h1)
  have hne : f_X6_bestPost 5000 v (xs (nI i + 1).toNatClampNeg) (xs (nI i + 2).toNatClampNeg) ≠ none := by rw [e1]; exact fun e => nomatch e
  have hPc := va_P_left (va_P_perm hP (LW_x G a b v hs sl m0))
  refine vp_callSi (W.runV (As := [.int (xs (nI i + 1).toNatClampNeg), .int (xs (nI i + 2).toNatClampNeg)]) (rest := []) ⟨hx, hb, hml, hown, hts⟩ (ok_X6_bestPost l G a 5000 v (xs (nI i + 1).toNatClampNeg) (xs (nI i + 2).toNatClampNeg) hne) (cwV 2 hts gL_law_X6_bestPost rfl rfl rfl (by decide +kernel) ⟨Nat.le_of_ble_eq_true rfl, Nat.le_of_ble_eq_true rfl⟩) ⟨pcR_blind, va_recv hK hPc (ci := 6) (q0 := 0) rfl rfl, pcR_pre hPc hamb⟩ rfl rfl hl.1 rfl (lv_room (Nat.le_of_ble_eq_true rfl)) dL_law_539 ⟨hc0, hs0⟩) (fun r hw => ?_)
  have g1 := Option.some.inj (e1.symm.trans hw)
  subst g1
  refine lv_aload_n hx hb dL_law_542 rfl (lv_at hl 2 rfl) ?_
  refine lv_aload_n hx hb dL_law_543 rfl (lv_at hl 0 rfl) ?_
  refine lv_iload_n hx hb dL_law_544 rfl (lv_at hl 3 rfl) ?_
  refine lv_iconst (v := 1) hx hb dL_law_545 (by decide) ?_
  refine lv_iadd hx hb dL_law_546 ?_
  refine va_sld hx hb hX hbl hbA hS h1 dL_law_547 ?_
  refine lv_aload_n hx hb dL_law_548 rfl (lv_at hl 0 rfl) ?_
  refine lv_iload_n hx hb dL_law_549 rfl (lv_at hl 3 rfl) ?_
  refine lv_iconst (v := 2) hx hb dL_law_550 (by decide) ?_
  refine lv_iadd hx hb dL_law_551 ?_
  refine va_sld hx hb hX hbl hbA hS h2 dL_law_552 ?_
  have hpq : (LW G a b v hs sl m0).Perm (modelC G.2 b m0 ++ xW G.2 a v (rowsF hs) (slotF sl) (hs ++ esF sl)) := List.perm_append_comm
  have hPm := va_P_left (va_P_perm hP hpq)
  have hDm := va_D_left (va_D_perm hD hpq)
  have hne2 : f_X7_bestPost 5000 m0 (xs (nI i + 1).toNatClampNeg) (xs (nI i + 2).toNatClampNeg) ≠ none := by rw [e2]; exact fun e => nomatch e
  refine cwiP (w1 := fun y : DV => modelC G.2 b y) (ws1 := fun y : DV => LW G a b v hs sl y) (va_runV (As := [.int (xs (nI i + 1).toNatClampNeg), .int (xs (nI i + 2).toNatClampNeg)]) (rest := [.int r0]) ⟨hx, hb, hml, hown, hts⟩ (ok_X7_bestPost l G b _ 5000 m0 (xs (nI i + 1).toNatClampNeg) (xs (nI i + 2).toNatClampNeg) hne2) (cwV 2 hts gL_law_X7_bestPost rfl rfl rfl (by decide +kernel) ⟨Nat.le_of_ble_eq_true rfl, Nat.le_of_ble_eq_true rfl⟩) ⟨pcW_blind, va_recv hK hPm (ci := 7) (q0 := 0) rfl rfl, pcW_pre hPm hDm hamb⟩ rfl rfl hl.1 rfl (lv_room (Nat.le_of_ble_eq_true rfl)) dL_law_553 ⟨hc0, hs0⟩) hP hD hS hA hpq (fun _ => List.perm_append_comm) (fun r9 m9 H locs hw9 hP hD hS => ?_)
  obtain ⟨g8, g9⟩ := pair_inj (e2.symm.trans hw9)
  subst g8 g9
  exact lv_icmp_eq (tgt := 758) hx hb dL_law_556 (by decide) (fun _ => W.widen (Nat.le_add_right cells 15) (Nat.le_add_right slots 253) (kk v hs sl k m2 H locs ⟨hS2, hP, hD, hS⟩)) (fun e => absurd rfl e)
set_option maxHeartbeats 4000000 in
set_option maxRecDepth 100000 in
theorem law_mostRegretted {p : Program} {l : Launch} {e : Env} {s : State} {m : MethodId} {args : Array Value} {below : List Frame} {meth : Method} {c : Code} {H : Heap} {locs : List Loc} {cells slots : Nat} {Q : State → Prop} {G : Gt} {a b : Nat → Nat} {A : Nat → Prop} {b0 L : Nat} {xs : Nat → Int32} {ls : Array Slot} {i : Nat} (C : LC p s m args c G A b0 L xs) {v : DV} {hs : List HD} {sl : Nat → Option HD} {k : Nat} {m0 : DV} (h : LSt G a b A s H locs v hs sl k m0) (hl : lv_has ls 4 [(0, .ref b0), (1, .ref (a 21)), (2, .ref (b 0)), (3, .int (nI i))]) (hi : i + 4 ≤ L) (hL : L ≤ 2048) (hc : cells + 15 ≤ room_1.cells) (hsl : slots + 253 ≤ room_1.slots) (kk : LK p l e room_1 s m args below meth c Q G a b A ls (cells + 15) (slots + 253) 758) : W p l e room_1 s m args below meth c H locs cells slots Q (F0 m 561 ls []) := by
  obtain ⟨hx, hb, hml, hown, hts, hamb, hX, hbl, hbA, hA, hHS⟩ := C
  obtain ⟨hSim, hP, hD, hS⟩ := h
  have hK := hamb.1
  have hc0 : cells + 0 ≤ room_1.cells := Nat.le_trans (Nat.le_add_right cells 15) hc
  have hs0 : slots + 0 ≤ room_1.slots := Nat.le_trans (Nat.le_add_right slots 253) hsl
  refine lv_aload_n hx hb dL_law_561 rfl (lv_at hl 1 rfl) ?_
  obtain ⟨N, w, hI, hN, hR⟩ := id hSim.1
  obtain ⟨r0, u0, m2, e1, e2, f1, f2⟩ := mostRegretted_eq hI hR (n := 5000) (by decide)
  have hS2 := hSim.look f1 (fun j _ => by rw [f2 0 (by decide) (by decide)]) (fun i _ _ h6 h7 => f2 i h6 h7)
  have hne : f_X6_mostRegretted 5000 v ≠ none := by rw [e1]; exact fun e => nomatch e
  have hpm := LW_x G a b v hs sl m0
  have hPc := va_P_left (va_P_perm hP hpm)
  have hDc := va_D_left (va_D_perm hD hpm)
  refine cwiP (w1 := fun u : DV => xcoreC G.2 a u) (ws1 := fun u : DV => LW G a b u hs sl m0) (va_runV (As := []) (rest := []) ⟨hx, hb, hml, hown, hts⟩ (ok_X6_mostRegretted l G a _ 5000 v hne) (cwV 0 hts gL_law_X6_mostRegretted rfl rfl rfl (by decide +kernel) ⟨Nat.le_of_ble_eq_true rfl, Nat.le_of_ble_eq_true rfl⟩) ⟨pcW_blind, va_recv hK hPc (ci := 6) (q0 := 0) rfl rfl, pcW_pre hPc hDc hamb⟩ rfl rfl hl.1 rfl (lv_room (Nat.le_of_ble_eq_true rfl)) dL_law_562 ⟨hc0, hs0⟩) hP hD hS hA hpm (fun u => (LW_x G a b u hs sl m0).symm) (fun r u H locs hw hP hD hS => ?_)
  obtain ⟨g1, g2⟩ := pair_inj (e1.symm.trans hw)
  subst g1 g2
  refine lv_aload_n hx hb dL_law_565 rfl (lv_at hl 2 rfl) ?_
  have hpq : (LW G a b u0 hs sl m0).Perm (modelC G.2 b m0 ++ xW G.2 a u0 (rowsF hs) (slotF sl) (hs ++ esF sl)) := List.perm_append_comm
  have hPm := va_P_left (va_P_perm hP hpq)
  have hDm := va_D_left (va_D_perm hD hpq)
  have hne2 : f_X7_mostRegretted 5000 m0 ≠ none := by rw [e2]; exact fun e => nomatch e
  refine cwiP (w1 := fun y : DV => modelC G.2 b y) (ws1 := fun y : DV => LW G a b u0 hs sl y) (va_runV (As := []) (rest := [.int r0]) ⟨hx, hb, hml, hown, hts⟩ (ok_X7_mostRegretted l G b _ 5000 m0 hne2) (cwV 0 hts gL_law_X7_mostRegretted rfl rfl rfl (by decide +kernel) ⟨Nat.le_of_ble_eq_true rfl, Nat.le_of_ble_eq_true rfl⟩) ⟨pcW_blind, va_recv hK hPm (ci := 7) (q0 := 0) rfl rfl, pcW_pre hPm hDm hamb⟩ rfl rfl hl.1 rfl (lv_room (Nat.le_of_ble_eq_true rfl)) dL_law_566 ⟨hc0, hs0⟩) hP hD hS hA hpq (fun _ => List.perm_append_comm) (fun r9 m9 H locs hw9 hP hD hS => ?_)
  obtain ⟨g8, g9⟩ := pair_inj (e2.symm.trans hw9)
  subst g8 g9
  exact lv_icmp_eq (tgt := 758) hx hb dL_law_569 (by decide) (fun _ => W.widen (Nat.le_add_right cells 15) (Nat.le_add_right slots 253) (kk u0 hs sl k m2 H locs ⟨hS2, hP, hD, hS⟩)) (fun e => absurd rfl e)
set_option maxHeartbeats 4000000 in
set_option maxRecDepth 100000 in
theorem law_ifSent {p : Program} {l : Launch} {e : Env} {s : State} {m : MethodId} {args : Array Value} {below : List Frame} {meth : Method} {c : Code} {H : Heap} {locs : List Loc} {cells slots : Nat} {Q : State → Prop} {G : Gt} {a b : Nat → Nat} {A : Nat → Prop} {b0 L : Nat} {xs : Nat → Int32} {ls : Array Slot} {i : Nat} (C : LC p s m args c G A b0 L xs) {v : DV} {hs : List HD} {sl : Nat → Option HD} {k : Nat} {m0 : DV} (h : LSt G a b A s H locs v hs sl k m0) (hl : lv_has ls 4 [(0, .ref b0), (1, .ref (a 21)), (2, .ref (b 0)), (3, .int (nI i))]) (hi : i + 4 ≤ L) (hL : L ≤ 2048) (hc : cells + 15 ≤ room_1.cells) (hsl : slots + 253 ≤ room_1.slots) (kk : LK p l e room_1 s m args below meth c Q G a b A ls (cells + 15) (slots + 253) 758) : W p l e room_1 s m args below meth c H locs cells slots Q (F0 m 574 ls []) := by
  obtain ⟨hx, hb, hml, hown, hts, hamb, hX, hbl, hbA, hA, hHS⟩ := C
  obtain ⟨hSim, hP, hD, hS⟩ := h
  have hK := hamb.1
  have hc0 : cells + 0 ≤ room_1.cells := Nat.le_trans (Nat.le_add_right cells 15) hc
  have hs0 : slots + 0 ≤ room_1.slots := Nat.le_trans (Nat.le_add_right slots 253) hsl
  have h1 : vp_in (nI i + 1) L := vp_in_add 1 (by decide) (by omega) (by omega)
  have h2 : vp_in (nI i + 2) L := vp_in_add 2 (by decide) (by omega) (by omega)
  refine lv_aload_n hx hb dL_law_574 rfl (lv_at hl 1 rfl) ?_
  refine lv_aload_n hx hb dL_law_575 rfl (lv_at hl 0 rfl) ?_
  refine lv_iload_n hx hb dL_law_576 rfl (lv_at hl 3 rfl) ?_
  refine lv_iconst (v := 1) hx hb dL_law_577 (by decide) ?_
  refine lv_iadd hx hb dL_law_578 ?_
  refine va_sld hx hb hX hbl hbA hS h1 dL_law_579 ?_
  refine lv_aload_n hx hb dL_law_580 rfl (lv_at hl 0 rfl) ?_
  refine lv_iload_n hx hb dL_law_581 rfl (lv_at hl 3 rfl) ?_
  refine lv_iconst (v := 2) hx hb dL_law_582 (by decide) ?_
  refine lv_iadd hx hb dL_law_583 ?_
  refine va_sld hx hb hX hbl hbA hS h2 dL_law_584 ?_
  obtain ⟨N, w, hI, hN, hR⟩ := id hSim.1
  obtain ⟨r0, u0, m2, e1, e2, f1, f0, f2⟩ := ifSent_eq hI hR (n := 5000) (by decide) (xs (nI i + 1).toNatClampNeg) (xs (nI i + 2).toNatClampNeg)
  have hS2 := hSim.look f1 f0 f2
  have hne : f_X6_ifSent 5000 v (xs (nI i + 1).toNatClampNeg) (xs (nI i + 2).toNatClampNeg) ≠ none := by rw [e1]; exact fun e => nomatch e
  have hpm := LW_x G a b v hs sl m0
  have hPc := va_P_left (va_P_perm hP hpm)
  have hDc := va_D_left (va_D_perm hD hpm)
  refine cwiP (w1 := fun u : DV => xcoreC G.2 a u) (ws1 := fun u : DV => LW G a b u hs sl m0) (va_runV (As := [.int (xs (nI i + 1).toNatClampNeg), .int (xs (nI i + 2).toNatClampNeg)]) (rest := []) ⟨hx, hb, hml, hown, hts⟩ (ok_X6_ifSent l G a _ 5000 v (xs (nI i + 1).toNatClampNeg) (xs (nI i + 2).toNatClampNeg) hne) (cwV 2 hts gL_law_X6_ifSent rfl rfl rfl (by decide +kernel) ⟨Nat.le_of_ble_eq_true rfl, Nat.le_of_ble_eq_true rfl⟩) ⟨pcW_blind, va_recv hK hPc (ci := 6) (q0 := 0) rfl rfl, pcW_pre hPc hDc hamb⟩ rfl rfl hl.1 rfl (lv_room (Nat.le_of_ble_eq_true rfl)) dL_law_585 ⟨hc0, hs0⟩) hP hD hS hA hpm (fun u => (LW_x G a b u hs sl m0).symm) (fun r u H locs hw hP hD hS => ?_)
  obtain ⟨g1, g2⟩ := pair_inj (e1.symm.trans hw)
  subst g1 g2
  refine lv_aload_n hx hb dL_law_588 rfl (lv_at hl 2 rfl) ?_
  refine lv_aload_n hx hb dL_law_589 rfl (lv_at hl 0 rfl) ?_
  refine lv_iload_n hx hb dL_law_590 rfl (lv_at hl 3 rfl) ?_
  refine lv_iconst (v := 1) hx hb dL_law_591 (by decide) ?_
  refine lv_iadd hx hb dL_law_592 ?_
  refine va_sld hx hb hX hbl hbA hS h1 dL_law_593 ?_
  refine lv_aload_n hx hb dL_law_594 rfl (lv_at hl 0 rfl) ?_
  refine lv_iload_n hx hb dL_law_595 rfl (lv_at hl 3 rfl) ?_
  refine lv_iconst (v := 2) hx hb dL_law_596 (by decide) ?_
  refine lv_iadd hx hb dL_law_597 ?_
  refine va_sld hx hb hX hbl hbA hS h2 dL_law_598 ?_
  have hpq : (LW G a b u0 hs sl m0).Perm (modelC G.2 b m0 ++ xW G.2 a u0 (rowsF hs) (slotF sl) (hs ++ esF sl)) := List.perm_append_comm
  have hPm := va_P_left (va_P_perm hP hpq)
  have hDm := va_D_left (va_D_perm hD hpq)
  have hne2 : f_X7_ifSent 5000 m0 (xs (nI i + 1).toNatClampNeg) (xs (nI i + 2).toNatClampNeg) ≠ none := by rw [e2]; exact fun e => nomatch e
  refine cwiP (w1 := fun y : DV => modelC G.2 b y) (ws1 := fun y : DV => LW G a b u0 hs sl y) (va_runV (As := [.int (xs (nI i + 1).toNatClampNeg), .int (xs (nI i + 2).toNatClampNeg)]) (rest := [.int r0]) ⟨hx, hb, hml, hown, hts⟩ (ok_X7_ifSent l G b _ 5000 m0 (xs (nI i + 1).toNatClampNeg) (xs (nI i + 2).toNatClampNeg) hne2) (cwV 2 hts gL_law_X7_ifSent rfl rfl rfl (by decide +kernel) ⟨Nat.le_of_ble_eq_true rfl, Nat.le_of_ble_eq_true rfl⟩) ⟨pcW_blind, va_recv hK hPm (ci := 7) (q0 := 0) rfl rfl, pcW_pre hPm hDm hamb⟩ rfl rfl hl.1 rfl (lv_room (Nat.le_of_ble_eq_true rfl)) dL_law_599 ⟨hc0, hs0⟩) hP hD hS hA hpq (fun _ => List.perm_append_comm) (fun r9 m9 H locs hw9 hP hD hS => ?_)
  obtain ⟨g8, g9⟩ := pair_inj (e2.symm.trans hw9)
  subst g8 g9
  exact lv_icmp_eq (tgt := 758) hx hb dL_law_602 (by decide) (fun _ => W.widen (Nat.le_add_right cells 15) (Nat.le_add_right slots 253) (kk u0 hs sl k m2 H locs ⟨hS2, hP, hD, hS⟩)) (fun e => absurd rfl e)
set_option maxHeartbeats 4000000 in
set_option maxRecDepth 100000 in
theorem law_put {p : Program} {l : Launch} {e : Env} {s : State} {m : MethodId} {args : Array Value} {below : List Frame} {meth : Method} {c : Code} {H : Heap} {locs : List Loc} {cells slots : Nat} {Q : State → Prop} {G : Gt} {a b : Nat → Nat} {A : Nat → Prop} {b0 L : Nat} {xs : Nat → Int32} {ls : Array Slot} {i : Nat} (C : LC p s m args c G A b0 L xs) {v : DV} {hs : List HD} {sl : Nat → Option HD} {k : Nat} {m0 : DV} (h : LSt G a b A s H locs v hs sl k m0) (hl : lv_has ls 4 [(0, .ref b0), (1, .ref (a 21)), (2, .ref (b 0)), (3, .int (nI i))]) (hi : i + 4 ≤ L) (hL : L ≤ 2048) (hc : cells + 15 ≤ room_1.cells) (hsl : slots + 253 ≤ room_1.slots) (kk : LK p l e room_1 s m args below meth c Q G a b A ls (cells + 15) (slots + 253) 758) : W p l e room_1 s m args below meth c H locs cells slots Q (F0 m 607 ls []) := by
  obtain ⟨hx, hb, hml, hown, hts, hamb, hX, hbl, hbA, hA, hHS⟩ := C
  obtain ⟨hSim, hP, hD, hS⟩ := h
  have hK := hamb.1
  have hc0 : cells + 0 ≤ room_1.cells := Nat.le_trans (Nat.le_add_right cells 15) hc
  have hs0 : slots + 0 ≤ room_1.slots := Nat.le_trans (Nat.le_add_right slots 253) hsl
  have h1 : vp_in (nI i + 1) L := vp_in_add 1 (by decide) (by omega) (by omega)
  have h2 : vp_in (nI i + 2) L := vp_in_add 2 (by decide) (by omega) (by omega)
  refine lv_aload_n hx hb dL_law_607 rfl (lv_at hl 1 rfl) ?_
  refine lv_aload_n hx hb dL_law_608 rfl (lv_at hl 0 rfl) ?_
  refine lv_iload_n hx hb dL_law_609 rfl (lv_at hl 3 rfl) ?_
  refine lv_iconst (v := 1) hx hb dL_law_610 (by decide) ?_
  refine lv_iadd hx hb dL_law_611 ?_
  refine va_sld hx hb hX hbl hbA hS h1 dL_law_612 ?_
  refine lv_i2l hx hb dL_law_613 rfl ?_
  refine lv_bipush (v := 32) hx hb dL_law_614 (by decide) ?_
  refine lv_lshl hx hb dL_law_616 rfl ?_
  refine lv_aload_n hx hb dL_law_617 rfl (lv_at hl 0 rfl) ?_
  refine lv_iload_n hx hb dL_law_618 rfl (lv_at hl 3 rfl) ?_
  refine lv_iconst (v := 2) hx hb dL_law_619 (by decide) ?_
  refine lv_iadd hx hb dL_law_620 ?_
  refine va_sld hx hb hX hbl hbA hS h2 dL_law_621 ?_
  refine lv_i2l hx hb dL_law_622 rfl ?_
  refine lv_ldc2 (v := 4294967295) hx hb hown (hts (.constantLong RL 87 (4294967295)) (by decide +kernel)) dL_law_623 ?_
  refine lv_land hx hb dL_law_626 ?_
  refine lv_lor hx hb dL_law_627 ?_
  obtain ⟨r0, u0, m2, e1, e2, hS2⟩ := put_eq hSim (n := 5000) (n' := 5000) (by decide) (by decide) (((xs (nI i + 1).toNatClampNeg).toInt64 <<< ((32 : Int32).toInt64 &&& 63)) ||| ((xs (nI i + 2).toNatClampNeg).toInt64 &&& 4294967295))
  have hne : f_X6_put 5000 v (((xs (nI i + 1).toNatClampNeg).toInt64 <<< ((32 : Int32).toInt64 &&& 63)) ||| ((xs (nI i + 2).toNatClampNeg).toInt64 &&& 4294967295)) ≠ none := by rw [e1]; exact fun e => nomatch e
  have hpm := LW_x G a b v hs sl m0
  have hPc := va_P_left (va_P_perm hP hpm)
  have hDc := va_D_left (va_D_perm hD hpm)
  refine cwiP (w1 := fun u : DV => xcoreC G.2 a u) (ws1 := fun u : DV => LW G a b u hs sl m0) (va_runV (As := [.long (((xs (nI i + 1).toNatClampNeg).toInt64 <<< ((32 : Int32).toInt64 &&& 63)) ||| ((xs (nI i + 2).toNatClampNeg).toInt64 &&& 4294967295))]) (rest := []) ⟨hx, hb, hml, hown, hts⟩ (ok_X6_put l G a _ 5000 v (((xs (nI i + 1).toNatClampNeg).toInt64 <<< ((32 : Int32).toInt64 &&& 63)) ||| ((xs (nI i + 2).toNatClampNeg).toInt64 &&& 4294967295)) hne) (cwV 1 hts gL_law_X6_put rfl rfl rfl (by decide +kernel) ⟨Nat.le_of_ble_eq_true rfl, Nat.le_of_ble_eq_true rfl⟩) ⟨pcW_blind, va_recv hK hPc (ci := 6) (q0 := 0) rfl rfl, pcW_pre hPc hDc hamb⟩ rfl rfl hl.1 rfl (lv_room (Nat.le_of_ble_eq_true rfl)) dL_law_628 ⟨hc0, hs0⟩) hP hD hS hA hpm (fun u => (LW_x G a b u hs sl m0).symm) (fun r u H locs hw hP hD hS => ?_)
  obtain ⟨g1, g2⟩ := pair_inj (e1.symm.trans hw)
  subst g1 g2
  refine lv_aload_n hx hb dL_law_631 rfl (lv_at hl 2 rfl) ?_
  refine lv_aload_n hx hb dL_law_632 rfl (lv_at hl 0 rfl) ?_
  refine lv_iload_n hx hb dL_law_633 rfl (lv_at hl 3 rfl) ?_
  refine lv_iconst (v := 1) hx hb dL_law_634 (by decide) ?_
  refine lv_iadd hx hb dL_law_635 ?_
  refine va_sld hx hb hX hbl hbA hS h1 dL_law_636 ?_
  refine lv_i2l hx hb dL_law_637 rfl ?_
  refine lv_bipush (v := 32) hx hb dL_law_638 (by decide) ?_
  refine lv_lshl hx hb dL_law_640 rfl ?_
  refine lv_aload_n hx hb dL_law_641 rfl (lv_at hl 0 rfl) ?_
  refine lv_iload_n hx hb dL_law_642 rfl (lv_at hl 3 rfl) ?_
  refine lv_iconst (v := 2) hx hb dL_law_643 (by decide) ?_
  refine lv_iadd hx hb dL_law_644 ?_
  refine va_sld hx hb hX hbl hbA hS h2 dL_law_645 ?_
  refine lv_i2l hx hb dL_law_646 rfl ?_
  refine lv_ldc2 (v := 4294967295) hx hb hown (hts (.constantLong RL 87 (4294967295)) (by decide +kernel)) dL_law_647 ?_
  refine lv_land hx hb dL_law_650 ?_
  refine lv_lor hx hb dL_law_651 ?_
  have hpq : (LW G a b u0 hs sl m0).Perm (modelC G.2 b m0 ++ xW G.2 a u0 (rowsF hs) (slotF sl) (hs ++ esF sl)) := List.perm_append_comm
  have hPm := va_P_left (va_P_perm hP hpq)
  have hDm := va_D_left (va_D_perm hD hpq)
  have hne2 : f_X7_put 5000 m0 (((xs (nI i + 1).toNatClampNeg).toInt64 <<< ((32 : Int32).toInt64 &&& 63)) ||| ((xs (nI i + 2).toNatClampNeg).toInt64 &&& 4294967295)) ≠ none := by rw [e2]; exact fun e => nomatch e
  refine cwiP (w1 := fun y : DV => modelC G.2 b y) (ws1 := fun y : DV => LW G a b u0 hs sl y) (va_runV (As := [.long (((xs (nI i + 1).toNatClampNeg).toInt64 <<< ((32 : Int32).toInt64 &&& 63)) ||| ((xs (nI i + 2).toNatClampNeg).toInt64 &&& 4294967295))]) (rest := [.int r0]) ⟨hx, hb, hml, hown, hts⟩ (ok_X7_put l G b _ 5000 m0 (((xs (nI i + 1).toNatClampNeg).toInt64 <<< ((32 : Int32).toInt64 &&& 63)) ||| ((xs (nI i + 2).toNatClampNeg).toInt64 &&& 4294967295)) hne2) (cwV 1 hts gL_law_X7_put rfl rfl rfl (by decide +kernel) ⟨Nat.le_of_ble_eq_true rfl, Nat.le_of_ble_eq_true rfl⟩) ⟨pcW_blind, va_recv hK hPm (ci := 7) (q0 := 0) rfl rfl, pcW_pre hPm hDm hamb⟩ rfl rfl hl.1 rfl (lv_room (Nat.le_of_ble_eq_true rfl)) dL_law_652 ⟨hc0, hs0⟩) hP hD hS hA hpq (fun _ => List.perm_append_comm) (fun r9 m9 H locs hw9 hP hD hS => ?_)
  obtain ⟨g8, g9⟩ := pair_inj (e2.symm.trans hw9)
  subst g8 g9
  exact lv_icmp_eq (tgt := 758) hx hb dL_law_655 (by decide) (fun _ => W.widen (Nat.le_add_right cells 15) (Nat.le_add_right slots 253) (kk u0 hs sl k m2 H locs ⟨hS2, hP, hD, hS⟩)) (fun e => absurd rfl e)
