/-! The law's calls, one by one (printed by law.py). -/
set_option maxHeartbeats 4000000 in
set_option maxRecDepth 100000 in
theorem law_wipe {p : Program} {l : Launch} {e : Env} {s : State} {m : MethodId} {args : Array Value} {below : List Frame} {meth : Method} {c : Code} {H : Heap} {locs : List Loc} {cells slots : Nat} {Q : State → Prop} {G : Gt} {a b : Nat → Nat} {A : Nat → Prop} {b0 L : Nat} {xs : Nat → Int32} {ls : Array Slot} {i : Nat} (C : LC p s m args c G A b0 L xs) {v : DV} {hs : List HD} {sl : Nat → Option HD} {k : Nat} {m0 : DV} (h : LSt G a b A s H locs v hs sl k m0) (hl : lv_has ls 4 [(0, .ref b0), (1, .ref (a 21)), (2, .ref (b 0)), (3, .int (nI i))]) (hi : i + 4 ≤ L) (hL : L ≤ 2048) (hc : cells + 15 ≤ room_1.cells) (hsl : slots + 253 ≤ room_1.slots) (kk : LK p l e room_1 s m args below meth c Q G a b A ls (cells + 15) (slots + 253) 758) : W p l e room_1 s m args below meth c H locs cells slots Q (F0 m 660 ls []) := by
  obtain ⟨hx, hb, hml, hown, hts, hamb, hX, hbl, hbA, hA, hHS⟩ := C
  obtain ⟨hSim, hP, hD, hS⟩ := h
  have hK := hamb.1
  have hc0 : cells + 0 ≤ room_1.cells := Nat.le_trans (Nat.le_add_right cells 15) hc
  have hs0 : slots + 0 ≤ room_1.slots := Nat.le_trans (Nat.le_add_right slots 253) hsl
  refine lv_aload_n hx hb dL_law_660 rfl (lv_at hl 1 rfl) ?_
  obtain ⟨r0, u0, m2, e1, e2, hS2⟩ := wipe_eq hSim
  have hne : f_X6_wipe v ≠ none := by rw [e1]; exact fun e => nomatch e
  have hpm := LW_x G a b v hs sl m0
  have hPc := va_P_left (va_P_perm hP hpm)
  have hDc := va_D_left (va_D_perm hD hpm)
  refine cwiP (w1 := fun u : DV => xcoreC G.2 a u) (ws1 := fun u : DV => LW G a b u hs sl m0) (va_runV (As := []) (rest := []) ⟨hx, hb, hml, hown, hts⟩ (ok_X6_wipe l G a _ v hne) (cwV 0 hts gL_law_X6_wipe rfl rfl rfl (by decide +kernel) ⟨Nat.le_of_ble_eq_true rfl, Nat.le_of_ble_eq_true rfl⟩) ⟨pcW_blind, va_recv hK hPc (ci := 6) (q0 := 0) rfl rfl, pcW_pre hPc hDc hamb⟩ rfl rfl hl.1 rfl (lv_room (Nat.le_of_ble_eq_true rfl)) dL_law_661 ⟨hc0, hs0⟩) hP hD hS hA hpm (fun u => (LW_x G a b u hs sl m0).symm) (fun r u H locs hw hP hD hS => ?_)
  obtain ⟨g1, g2⟩ := pair_inj (e1.symm.trans hw)
  subst g1 g2
  refine lv_aload_n hx hb dL_law_664 rfl (lv_at hl 2 rfl) ?_
  have hpq : (LW G a b u0 hs sl m0).Perm (modelC G.2 b m0 ++ xW G.2 a u0 (rowsF hs) (slotF sl) (hs ++ esF sl)) := List.perm_append_comm
  have hPm := va_P_left (va_P_perm hP hpq)
  have hDm := va_D_left (va_D_perm hD hpq)
  have hne2 : f_X7_wipe m0 ≠ none := by rw [e2]; exact fun e => nomatch e
  refine cwiP (w1 := fun y : DV => modelC G.2 b y) (ws1 := fun y : DV => LW G a b u0 hs sl y) (va_runV (As := []) (rest := [.int r0]) ⟨hx, hb, hml, hown, hts⟩ (ok_X7_wipe l G b _ m0 hne2) (cwV 0 hts gL_law_X7_wipe rfl rfl rfl (by decide +kernel) ⟨Nat.le_of_ble_eq_true rfl, Nat.le_of_ble_eq_true rfl⟩) ⟨pcW_blind, va_recv hK hPm (ci := 7) (q0 := 0) rfl rfl, pcW_pre hPm hDm hamb⟩ rfl rfl hl.1 rfl (lv_room (Nat.le_of_ble_eq_true rfl)) dL_law_665 ⟨hc0, hs0⟩) hP hD hS hA hpq (fun _ => List.perm_append_comm) (fun r9 m9 H locs hw9 hP hD hS => ?_)
  obtain ⟨g8, g9⟩ := pair_inj (e2.symm.trans hw9)
  subst g8 g9
  exact lv_icmp_eq (tgt := 758) hx hb dL_law_668 (by decide) (fun _ => W.widen (Nat.le_add_right cells 15) (Nat.le_add_right slots 253) (kk u0 hs sl k m2 H locs ⟨hS2, hP, hD, hS⟩)) (fun e => absurd rfl e)
set_option maxHeartbeats 4000000 in
set_option maxRecDepth 100000 in
theorem law_fault {p : Program} {l : Launch} {e : Env} {s : State} {m : MethodId} {args : Array Value} {below : List Frame} {meth : Method} {c : Code} {H : Heap} {locs : List Loc} {cells slots : Nat} {Q : State → Prop} {G : Gt} {a b : Nat → Nat} {A : Nat → Prop} {b0 L : Nat} {xs : Nat → Int32} {ls : Array Slot} {i : Nat} (C : LC p s m args c G A b0 L xs) {v : DV} {hs : List HD} {sl : Nat → Option HD} {k : Nat} {m0 : DV} (h : LSt G a b A s H locs v hs sl k m0) (hl : lv_has ls 4 [(0, .ref b0), (1, .ref (a 21)), (2, .ref (b 0)), (3, .int (nI i))]) (hi : i + 4 ≤ L) (hL : L ≤ 2048) (hc : cells + 15 ≤ room_1.cells) (hsl : slots + 253 ≤ room_1.slots) (kk : LK p l e room_1 s m args below meth c Q G a b A ls (cells + 15) (slots + 253) 758) : W p l e room_1 s m args below meth c H locs cells slots Q (F0 m 673 ls []) := by
  obtain ⟨hx, hb, hml, hown, hts, hamb, hX, hbl, hbA, hA, hHS⟩ := C
  obtain ⟨hSim, hP, hD, hS⟩ := h
  have hK := hamb.1
  have hc0 : cells + 0 ≤ room_1.cells := Nat.le_trans (Nat.le_add_right cells 15) hc
  have hs0 : slots + 0 ≤ room_1.slots := Nat.le_trans (Nat.le_add_right slots 253) hsl
  refine lv_aload_n hx hb dL_law_673 rfl (lv_at hl 1 rfl) ?_
  obtain ⟨r0, u0, m2, e1, e2, hS2⟩ := fault_eq hSim (n := 5000) (n' := 5000) (by decide) (by decide)
  have hne : f_X6_fault 5000 v ≠ none := by rw [e1]; exact fun e => nomatch e
  have hpm := LW_x G a b v hs sl m0
  have hPc := va_P_left (va_P_perm hP hpm)
  have hDc := va_D_left (va_D_perm hD hpm)
  refine cwiP (w1 := fun u : DV => xcoreC G.2 a u) (ws1 := fun u : DV => LW G a b u hs sl m0) (va_runV (As := []) (rest := []) ⟨hx, hb, hml, hown, hts⟩ (ok_X6_fault l G a _ 5000 v hne) (cwV 0 hts gL_law_X6_fault rfl rfl rfl (by decide +kernel) ⟨Nat.le_of_ble_eq_true rfl, Nat.le_of_ble_eq_true rfl⟩) ⟨pcW_blind, va_recv hK hPc (ci := 6) (q0 := 0) rfl rfl, pcW_pre hPc hDc hamb⟩ rfl rfl hl.1 rfl (lv_room (Nat.le_of_ble_eq_true rfl)) dL_law_674 ⟨hc0, hs0⟩) hP hD hS hA hpm (fun u => (LW_x G a b u hs sl m0).symm) (fun r u H locs hw hP hD hS => ?_)
  obtain ⟨g1, g2⟩ := pair_inj (e1.symm.trans hw)
  subst g1 g2
  refine lv_aload_n hx hb dL_law_677 rfl (lv_at hl 2 rfl) ?_
  have hpq : (LW G a b u0 hs sl m0).Perm (modelC G.2 b m0 ++ xW G.2 a u0 (rowsF hs) (slotF sl) (hs ++ esF sl)) := List.perm_append_comm
  have hPm := va_P_left (va_P_perm hP hpq)
  have hDm := va_D_left (va_D_perm hD hpq)
  have hne2 : f_X7_fault 5000 m0 ≠ none := by rw [e2]; exact fun e => nomatch e
  refine cwiP (w1 := fun y : DV => modelC G.2 b y) (ws1 := fun y : DV => LW G a b u0 hs sl y) (va_runV (As := []) (rest := [.int r0]) ⟨hx, hb, hml, hown, hts⟩ (ok_X7_fault l G b _ 5000 m0 hne2) (cwV 0 hts gL_law_X7_fault rfl rfl rfl (by decide +kernel) ⟨Nat.le_of_ble_eq_true rfl, Nat.le_of_ble_eq_true rfl⟩) ⟨pcW_blind, va_recv hK hPm (ci := 7) (q0 := 0) rfl rfl, pcW_pre hPm hDm hamb⟩ rfl rfl hl.1 rfl (lv_room (Nat.le_of_ble_eq_true rfl)) dL_law_678 ⟨hc0, hs0⟩) hP hD hS hA hpq (fun _ => List.perm_append_comm) (fun r9 m9 H locs hw9 hP hD hS => ?_)
  obtain ⟨g8, g9⟩ := pair_inj (e2.symm.trans hw9)
  subst g8 g9
  exact lv_icmp_eq (tgt := 758) hx hb dL_law_681 (by decide) (fun _ => W.widen (Nat.le_add_right cells 15) (Nat.le_add_right slots 253) (kk u0 hs sl k m2 H locs ⟨hS2, hP, hD, hS⟩)) (fun e => absurd rfl e)
set_option maxHeartbeats 4000000 in
set_option maxRecDepth 100000 in
theorem law_carryOut {p : Program} {l : Launch} {e : Env} {s : State} {m : MethodId} {args : Array Value} {below : List Frame} {meth : Method} {c : Code} {H : Heap} {locs : List Loc} {cells slots : Nat} {Q : State → Prop} {G : Gt} {a b : Nat → Nat} {A : Nat → Prop} {b0 L : Nat} {xs : Nat → Int32} {ls : Array Slot} {i : Nat} (C : LC p s m args c G A b0 L xs) {v : DV} {hs : List HD} {sl : Nat → Option HD} {k : Nat} {m0 : DV} (h : LSt G a b A s H locs v hs sl k m0) (hl : lv_has ls 4 [(0, .ref b0), (1, .ref (a 21)), (2, .ref (b 0)), (3, .int (nI i))]) (hi : i + 4 ≤ L) (hL : L ≤ 2048) (hc : cells + 15 ≤ room_1.cells) (hsl : slots + 253 ≤ room_1.slots) (kk : LK p l e room_1 s m args below meth c Q G a b A ls (cells + 15) (slots + 253) 758) : W p l e room_1 s m args below meth c H locs cells slots Q (F0 m 686 ls []) := by
  obtain ⟨hx, hb, hml, hown, hts, hamb, hX, hbl, hbA, hA, hHS⟩ := C
  obtain ⟨hSim, hP, hD, hS⟩ := h
  have hK := hamb.1
  have hc0 : cells + 0 ≤ room_1.cells := Nat.le_trans (Nat.le_add_right cells 15) hc
  have hs0 : slots + 0 ≤ room_1.slots := Nat.le_trans (Nat.le_add_right slots 253) hsl
  refine lv_aload_n hx hb dL_law_686 rfl (lv_at hl 1 rfl) ?_
  obtain ⟨r0, u0, lu0, m2, k2, e1, e2, hS2⟩ := carry_eq hSim (n := 5000) (n' := 5000) (by decide) (by decide)
  have hne : coF 5000 k v (hs.map Prod.snd) ≠ none := by rw [e1]; exact fun e => nomatch e
  refine cwiP (wr := modelC G.2 b m0) (w1 := fun u : DV × List HD => xW G.2 a u.1 (rowsF u.2) (slotF sl) (u.2 ++ esF sl)) (ws1 := fun u : DV × List HD => LW G a b u.1 u.2 sl m0) (va_runV (As := []) (rest := []) ⟨hx, hb, hml, hown, hts⟩ (ok_X6_carryOut l G a _ 5000 v hs (esF sl) (slotF sl) k hSim.2.2.1 hSim.2.2.2.1.2.1 (by have := hSim.2.2.2.1.2.2.1; rwa [List.length_map] at this) (by have := hSim.2.2.2.1.2.2.2.1; rwa [List.length_map] at this) copyFrom_ne hne (carry_kp 5000 v)) (cwV 0 hts gL_law_X6_carryOut rfl rfl rfl (by decide +kernel) ⟨Nat.le_of_ble_eq_true rfl, Nat.le_of_ble_eq_true rfl⟩) ⟨pcW_blind, va_recv hK (va_P_left hP) (ci := 6) (q0 := 0) rfl rfl, pcW_pre (va_P_left hP) (va_D_left hD) hamb⟩ rfl rfl hl.1 rfl (lv_room (Nat.le_of_ble_eq_true rfl)) dL_law_687 ⟨hc, hsl⟩) hP hD hS hA (List.Perm.refl _) (fun _ => List.Perm.refl _) (fun r u H locs hw hP hD hS => ?_)
  obtain ⟨g1, g2, g3⟩ := trip_inj (e1.symm.trans hw)
  subst g1
  rw [g2, g3] at hS2
  refine lv_aload_n hx hb dL_law_690 rfl (lv_at hl 2 rfl) ?_
  have hpq : (LW G a b u.1 u.2 sl m0).Perm (modelC G.2 b m0 ++ xW G.2 a u.1 (rowsF u.2) (slotF sl) (u.2 ++ esF sl)) := List.perm_append_comm
  have hPm := va_P_left (va_P_perm hP hpq)
  have hDm := va_D_left (va_D_perm hD hpq)
  have hne2 : f_X7_carryOut 5000 m0 ≠ none := by rw [e2]; exact fun e => nomatch e
  refine cwiP (w1 := fun y : DV => modelC G.2 b y) (ws1 := fun y : DV => LW G a b u.1 u.2 sl y) (va_runV (As := []) (rest := [.int r0]) ⟨hx, hb, hml, hown, hts⟩ (ok_X7_carryOut l G b _ 5000 m0 hne2) (cwV 0 hts gL_law_X7_carryOut rfl rfl rfl (by decide +kernel) ⟨Nat.le_of_ble_eq_true rfl, Nat.le_of_ble_eq_true rfl⟩) ⟨pcW_blind, va_recv hK hPm (ci := 7) (q0 := 0) rfl rfl, pcW_pre hPm hDm hamb⟩ rfl rfl hl.1 rfl (lv_room (Nat.le_of_ble_eq_true rfl)) dL_law_691 ⟨hc, hsl⟩) hP hD hS hA hpq (fun _ => List.perm_append_comm) (fun r9 m9 H locs hw9 hP hD hS => ?_)
  obtain ⟨g8, g9⟩ := pair_inj (e2.symm.trans hw9)
  subst g8 g9
  exact lv_icmp_eq (tgt := 758) hx hb dL_law_694 (by decide) (fun _ => (kk u.1 u.2 sl k2 m2 H locs ⟨hS2, hP, hD, hS⟩)) (fun e => absurd rfl e)
set_option maxHeartbeats 4000000 in
set_option maxRecDepth 100000 in
theorem law_undo {p : Program} {l : Launch} {e : Env} {s : State} {m : MethodId} {args : Array Value} {below : List Frame} {meth : Method} {c : Code} {H : Heap} {locs : List Loc} {cells slots : Nat} {Q : State → Prop} {G : Gt} {a b : Nat → Nat} {A : Nat → Prop} {b0 L : Nat} {xs : Nat → Int32} {ls : Array Slot} {i : Nat} (C : LC p s m args c G A b0 L xs) {v : DV} {hs : List HD} {sl : Nat → Option HD} {k : Nat} {m0 : DV} (h : LSt G a b A s H locs v hs sl k m0) (hl : lv_has ls 4 [(0, .ref b0), (1, .ref (a 21)), (2, .ref (b 0)), (3, .int (nI i))]) (hi : i + 4 ≤ L) (hL : L ≤ 2048) (hc : cells + 15 ≤ room_1.cells) (hsl : slots + 253 ≤ room_1.slots) (kk : LK p l e room_1 s m args below meth c Q G a b A ls (cells + 15) (slots + 253) 758) : W p l e room_1 s m args below meth c H locs cells slots Q (F0 m 699 ls []) := by
  obtain ⟨hx, hb, hml, hown, hts, hamb, hX, hbl, hbA, hA, hHS⟩ := C
  obtain ⟨hSim, hP, hD, hS⟩ := h
  have hK := hamb.1
  have hc0 : cells + 0 ≤ room_1.cells := Nat.le_trans (Nat.le_add_right cells 15) hc
  have hs0 : slots + 0 ≤ room_1.slots := Nat.le_trans (Nat.le_add_right slots 253) hsl
  refine lv_aload_n hx hb dL_law_699 rfl (lv_at hl 1 rfl) ?_
  refine cwiP (wr := modelC G.2 b m0) (w1 := fun u : DV => xW G.2 a u (rowsF hs) (slotF sl) (hs ++ esF sl)) (ws1 := fun u : DV => LW G a b u hs sl m0) (va_runV (As := []) (rest := []) ⟨hx, hb, hml, hown, hts⟩ (ok_X6_undo l G a _ v hs (esF sl) (slotF sl) k hSim.2.2.1 hSim.2.2.2.1.2.1 (by have := hSim.2.2.2.1.2.2.1; rwa [List.length_map] at this) copyFrom_ne) (cwV 0 hts gL_law_X6_undo rfl rfl rfl (by decide +kernel) ⟨Nat.le_of_ble_eq_true rfl, Nat.le_of_ble_eq_true rfl⟩) ⟨pcW_blind, va_recv hK (va_P_left hP) (ci := 6) (q0 := 0) rfl rfl, pcW_pre (va_P_left hP) (va_D_left hD) hamb⟩ rfl rfl hl.1 rfl (lv_room (Nat.le_of_ble_eq_true rfl)) dL_law_700 ⟨hc0, hs0⟩) hP hD hS hA (List.Perm.refl _) (fun _ => List.Perm.refl _) (fun r0 u H locs hw hP hD hS => ?_)
  obtain ⟨r1, hw1, hw2⟩ := hw
  obtain ⟨m2, k2, e2, hS2⟩ := undo_eq hSim (n := 5000) (by decide) hw1 hw2
  refine lv_aload_n hx hb dL_law_703 rfl (lv_at hl 2 rfl) ?_
  have hpq : (LW G a b u hs sl m0).Perm (modelC G.2 b m0 ++ xW G.2 a u (rowsF hs) (slotF sl) (hs ++ esF sl)) := List.perm_append_comm
  have hPm := va_P_left (va_P_perm hP hpq)
  have hDm := va_D_left (va_D_perm hD hpq)
  have hne2 : f_X7_undo 5000 m0 ≠ none := by rw [e2]; exact fun e => nomatch e
  refine cwiP (w1 := fun y : DV => modelC G.2 b y) (ws1 := fun y : DV => LW G a b u hs sl y) (va_runV (As := []) (rest := [.int r0]) ⟨hx, hb, hml, hown, hts⟩ (ok_X7_undo l G b _ 5000 m0 hne2) (cwV 0 hts gL_law_X7_undo rfl rfl rfl (by decide +kernel) ⟨Nat.le_of_ble_eq_true rfl, Nat.le_of_ble_eq_true rfl⟩) ⟨pcW_blind, va_recv hK hPm (ci := 7) (q0 := 0) rfl rfl, pcW_pre hPm hDm hamb⟩ rfl rfl hl.1 rfl (lv_room (Nat.le_of_ble_eq_true rfl)) dL_law_704 ⟨hc0, hs0⟩) hP hD hS hA hpq (fun _ => List.perm_append_comm) (fun r9 m9 H locs hw9 hP hD hS => ?_)
  obtain ⟨g8, g9⟩ := pair_inj (e2.symm.trans hw9)
  subst g8 g9
  exact lv_icmp_eq (tgt := 758) hx hb dL_law_707 (by decide) (fun _ => W.widen (Nat.le_add_right cells 15) (Nat.le_add_right slots 253) (kk u hs sl k2 m2 H locs ⟨hS2, hP, hD, hS⟩)) (fun e => absurd rfl e)
set_option maxHeartbeats 4000000 in
set_option maxRecDepth 100000 in
theorem law_save {p : Program} {l : Launch} {e : Env} {s : State} {m : MethodId} {args : Array Value} {below : List Frame} {meth : Method} {c : Code} {H : Heap} {locs : List Loc} {cells slots : Nat} {Q : State → Prop} {G : Gt} {a b : Nat → Nat} {A : Nat → Prop} {b0 L : Nat} {xs : Nat → Int32} {ls : Array Slot} {i : Nat} (C : LC p s m args c G A b0 L xs) {v : DV} {hs : List HD} {sl : Nat → Option HD} {k : Nat} {m0 : DV} (h : LSt G a b A s H locs v hs sl k m0) (hl : lv_has ls 4 [(0, .ref b0), (1, .ref (a 21)), (2, .ref (b 0)), (3, .int (nI i))]) (hi : i + 4 ≤ L) (hL : L ≤ 2048) (hc : cells + 15 ≤ room_1.cells) (hsl : slots + 253 ≤ room_1.slots) (kk : LK p l e room_1 s m args below meth c Q G a b A ls (cells + 15) (slots + 253) 758) : W p l e room_1 s m args below meth c H locs cells slots Q (F0 m 712 ls []) := by
  obtain ⟨hx, hb, hml, hown, hts, hamb, hX, hbl, hbA, hA, hHS⟩ := C
  obtain ⟨hSim, hP, hD, hS⟩ := h
  have hK := hamb.1
  have hc0 : cells + 0 ≤ room_1.cells := Nat.le_trans (Nat.le_add_right cells 15) hc
  have hs0 : slots + 0 ≤ room_1.slots := Nat.le_trans (Nat.le_add_right slots 253) hsl
  have h1 : vp_in (nI i + 1) L := vp_in_add 1 (by decide) (by omega) (by omega)
  refine lv_aload_n hx hb dL_law_712 rfl (lv_at hl 1 rfl) ?_
  refine lv_aload_n hx hb dL_law_713 rfl (lv_at hl 0 rfl) ?_
  refine lv_iload_n hx hb dL_law_714 rfl (lv_at hl 3 rfl) ?_
  refine lv_iconst (v := 1) hx hb dL_law_715 (by decide) ?_
  refine lv_iadd hx hb dL_law_716 ?_
  refine va_sld hx hb hX hbl hbA hS h1 dL_law_717 ?_
  refine cwiP (wr := modelC G.2 b m0) (w1 := fun u : Nat → Option HD => xW G.2 a v (rowsF hs) (slotF u) (hs ++ esF u)) (ws1 := fun u : Nat → Option HD => LW G a b v hs u m0) (va_runV (As := [.int (xs (nI i + 1).toNatClampNeg)]) (rest := []) ⟨hx, hb, hml, hown, hts⟩ (ok_X6_save l G a _ v hs sl (xs (nI i + 1).toNatClampNeg) copyFrom_ne) (cwV 1 hts gL_law_X6_save rfl rfl rfl (by decide +kernel) ⟨Nat.le_of_ble_eq_true rfl, Nat.le_of_ble_eq_true rfl⟩) ⟨pcW_blind, va_recv hK (va_P_left hP) (ci := 6) (q0 := 0) rfl rfl, pcW_pre (va_P_left hP) (va_D_left hD) hamb⟩ rfl rfl hl.1 rfl (lv_room (Nat.le_of_ble_eq_true rfl)) dL_law_718 ⟨hc, hsl⟩) hP hD hS hA (List.Perm.refl _) (fun _ => List.Perm.refl _) (fun r0 u H locs hw hP hD hS => ?_)
  obtain ⟨m2, e2, hS2⟩ := save_eq hSim (n := 5000) (by decide) hw
  refine lv_aload_n hx hb dL_law_721 rfl (lv_at hl 2 rfl) ?_
  refine lv_aload_n hx hb dL_law_722 rfl (lv_at hl 0 rfl) ?_
  refine lv_iload_n hx hb dL_law_723 rfl (lv_at hl 3 rfl) ?_
  refine lv_iconst (v := 1) hx hb dL_law_724 (by decide) ?_
  refine lv_iadd hx hb dL_law_725 ?_
  refine va_sld hx hb hX hbl hbA hS h1 dL_law_726 ?_
  have hpq : (LW G a b v hs u m0).Perm (modelC G.2 b m0 ++ xW G.2 a v (rowsF hs) (slotF u) (hs ++ esF u)) := List.perm_append_comm
  have hPm := va_P_left (va_P_perm hP hpq)
  have hDm := va_D_left (va_D_perm hD hpq)
  have hne2 : f_X7_save 5000 m0 (xs (nI i + 1).toNatClampNeg) ≠ none := by rw [e2]; exact fun e => nomatch e
  refine cwiP (w1 := fun y : DV => modelC G.2 b y) (ws1 := fun y : DV => LW G a b v hs u y) (va_runV (As := [.int (xs (nI i + 1).toNatClampNeg)]) (rest := [.int r0]) ⟨hx, hb, hml, hown, hts⟩ (ok_X7_save l G b _ 5000 m0 (xs (nI i + 1).toNatClampNeg) hne2) (cwV 1 hts gL_law_X7_save rfl rfl rfl (by decide +kernel) ⟨Nat.le_of_ble_eq_true rfl, Nat.le_of_ble_eq_true rfl⟩) ⟨pcW_blind, va_recv hK hPm (ci := 7) (q0 := 0) rfl rfl, pcW_pre hPm hDm hamb⟩ rfl rfl hl.1 rfl (lv_room (Nat.le_of_ble_eq_true rfl)) dL_law_727 ⟨hc, hsl⟩) hP hD hS hA hpq (fun _ => List.perm_append_comm) (fun r9 m9 H locs hw9 hP hD hS => ?_)
  obtain ⟨g8, g9⟩ := pair_inj (e2.symm.trans hw9)
  subst g8 g9
  exact lv_icmp_eq (tgt := 758) hx hb dL_law_730 (by decide) (fun _ => (kk v hs u k m2 H locs ⟨hS2, hP, hD, hS⟩)) (fun e => absurd rfl e)
set_option maxHeartbeats 4000000 in
set_option maxRecDepth 100000 in
theorem law_restore {p : Program} {l : Launch} {e : Env} {s : State} {m : MethodId} {args : Array Value} {below : List Frame} {meth : Method} {c : Code} {H : Heap} {locs : List Loc} {cells slots : Nat} {Q : State → Prop} {G : Gt} {a b : Nat → Nat} {A : Nat → Prop} {b0 L : Nat} {xs : Nat → Int32} {ls : Array Slot} {i : Nat} (C : LC p s m args c G A b0 L xs) {v : DV} {hs : List HD} {sl : Nat → Option HD} {k : Nat} {m0 : DV} (h : LSt G a b A s H locs v hs sl k m0) (hl : lv_has ls 4 [(0, .ref b0), (1, .ref (a 21)), (2, .ref (b 0)), (3, .int (nI i))]) (hi : i + 4 ≤ L) (hL : L ≤ 2048) (hc : cells + 15 ≤ room_1.cells) (hsl : slots + 253 ≤ room_1.slots) (kk : LK p l e room_1 s m args below meth c Q G a b A ls (cells + 15) (slots + 253) 758) : W p l e room_1 s m args below meth c H locs cells slots Q (F0 m 735 ls []) := by
  obtain ⟨hx, hb, hml, hown, hts, hamb, hX, hbl, hbA, hA, hHS⟩ := C
  obtain ⟨hSim, hP, hD, hS⟩ := h
  have hK := hamb.1
  have hc0 : cells + 0 ≤ room_1.cells := Nat.le_trans (Nat.le_add_right cells 15) hc
  have hs0 : slots + 0 ≤ room_1.slots := Nat.le_trans (Nat.le_add_right slots 253) hsl
  have h1 : vp_in (nI i + 1) L := vp_in_add 1 (by decide) (by omega) (by omega)
  refine lv_aload_n hx hb dL_law_735 rfl (lv_at hl 1 rfl) ?_
  refine lv_aload_n hx hb dL_law_736 rfl (lv_at hl 0 rfl) ?_
  refine lv_iload_n hx hb dL_law_737 rfl (lv_at hl 3 rfl) ?_
  refine lv_iconst (v := 1) hx hb dL_law_738 (by decide) ?_
  refine lv_iadd hx hb dL_law_739 ?_
  refine va_sld hx hb hX hbl hbA hS h1 dL_law_740 ?_
  refine cwiP (wr := modelC G.2 b m0) (w1 := fun u : DV × List HD => xW G.2 a u.1 (rowsF u.2) (slotF sl) (u.2 ++ esF sl)) (ws1 := fun u : DV × List HD => LW G a b u.1 u.2 sl m0) (va_runV (As := [.int (xs (nI i + 1).toNatClampNeg)]) (rest := []) ⟨hx, hb, hml, hown, hts⟩ (ok_X6_restore l G a _ v hs sl k hSim.2.2.1 hSim.2.2.2.1.2.1 (by have := hSim.2.2.2.1.2.2.1; rwa [List.length_map] at this) (by have := hSim.2.2.2.1.2.2.2.1; rwa [List.length_map] at this) (xs (nI i + 1).toNatClampNeg) copyFrom_ne) (cwV 1 hts gL_law_X6_restore rfl rfl rfl (by decide +kernel) ⟨Nat.le_of_ble_eq_true rfl, Nat.le_of_ble_eq_true rfl⟩) ⟨pcW_blind, va_recv hK (va_P_left hP) (ci := 6) (q0 := 0) rfl rfl, pcW_pre (va_P_left hP) (va_D_left hD) hamb⟩ rfl rfl hl.1 rfl (lv_room (Nat.le_of_ble_eq_true rfl)) dL_law_741 ⟨hc, hsl⟩) hP hD hS hA (List.Perm.refl _) (fun _ => List.Perm.refl _) (fun r0 u H locs hw hP hD hS => ?_)
  obtain ⟨m2, k2, e2, hS2⟩ := restore_eq hSim (n := 5000) (by decide) hw
  refine lv_aload_n hx hb dL_law_744 rfl (lv_at hl 2 rfl) ?_
  refine lv_aload_n hx hb dL_law_745 rfl (lv_at hl 0 rfl) ?_
  refine lv_iload_n hx hb dL_law_746 rfl (lv_at hl 3 rfl) ?_
  refine lv_iconst (v := 1) hx hb dL_law_747 (by decide) ?_
  refine lv_iadd hx hb dL_law_748 ?_
  refine va_sld hx hb hX hbl hbA hS h1 dL_law_749 ?_
  have hpq : (LW G a b u.1 u.2 sl m0).Perm (modelC G.2 b m0 ++ xW G.2 a u.1 (rowsF u.2) (slotF sl) (u.2 ++ esF sl)) := List.perm_append_comm
  have hPm := va_P_left (va_P_perm hP hpq)
  have hDm := va_D_left (va_D_perm hD hpq)
  have hne2 : f_X7_restore 5000 m0 (xs (nI i + 1).toNatClampNeg) ≠ none := by rw [e2]; exact fun e => nomatch e
  refine cwiP (w1 := fun y : DV => modelC G.2 b y) (ws1 := fun y : DV => LW G a b u.1 u.2 sl y) (va_runV (As := [.int (xs (nI i + 1).toNatClampNeg)]) (rest := [.int r0]) ⟨hx, hb, hml, hown, hts⟩ (ok_X7_restore l G b _ 5000 m0 (xs (nI i + 1).toNatClampNeg) hne2) (cwV 1 hts gL_law_X7_restore rfl rfl rfl (by decide +kernel) ⟨Nat.le_of_ble_eq_true rfl, Nat.le_of_ble_eq_true rfl⟩) ⟨pcW_blind, va_recv hK hPm (ci := 7) (q0 := 0) rfl rfl, pcW_pre hPm hDm hamb⟩ rfl rfl hl.1 rfl (lv_room (Nat.le_of_ble_eq_true rfl)) dL_law_750 ⟨hc, hsl⟩) hP hD hS hA hpq (fun _ => List.perm_append_comm) (fun r9 m9 H locs hw9 hP hD hS => ?_)
  obtain ⟨g8, g9⟩ := pair_inj (e2.symm.trans hw9)
  subst g8 g9
  exact lv_icmp_eq (tgt := 758) hx hb dL_law_753 (by decide) (fun _ => (kk u.1 u.2 sl k2 m2 H locs ⟨hS2, hP, hD, hS⟩)) (fun e => absurd rfl e)
