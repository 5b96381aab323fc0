/-! The law's calls, one by one (printed by law.py). -/
set_option maxHeartbeats 4000000 in
set_option maxRecDepth 100000 in
theorem law_set {p : Program} {l : Launch} {e : Env} {s : State} {m : MethodId} {args : Array Value} {below : List Frame} {meth : Method} {c : Code} {H : Heap} {locs : List Loc} {cells slots : Nat} {Q : State → Prop} {G : Gt} {a b : Nat → Nat} {A : Nat → Prop} {b0 L : Nat} {xs : Nat → Int32} {ls : Array Slot} {i : Nat} (C : LC p s m args c G A b0 L xs) {v : DV} {hs : List HD} {sl : Nat → Option HD} {k : Nat} {m0 : DV} (h : LSt G a b A s H locs v hs sl k m0) (hl : lv_has ls 4 [(0, .ref b0), (1, .ref (a 21)), (2, .ref (b 0)), (3, .int (nI i))]) (hi : i + 4 ≤ L) (hL : L ≤ 2048) (hc : cells + 15 ≤ room_1.cells) (hsl : slots + 253 ≤ room_1.slots) (kk : LK p l e room_1 s m args below meth c Q G a b A ls (cells + 15) (slots + 253) 758) : W p l e room_1 s m args below meth c H locs cells slots Q (F0 m 144 ls []) := by
  obtain ⟨hx, hb, hml, hown, hts, hamb, hX, hbl, hbA, hA, hHS⟩ := C
  obtain ⟨hSim, hP, hD, hS⟩ := h
  have hK := hamb.1
  have hc0 : cells + 0 ≤ room_1.cells := Nat.le_trans (Nat.le_add_right cells 15) hc
  have hs0 : slots + 0 ≤ room_1.slots := Nat.le_trans (Nat.le_add_right slots 253) hsl
  have h1 : vp_in (nI i + 1) L := vp_in_add 1 (by decide) (by omega) (by omega)
  have h2 : vp_in (nI i + 2) L := vp_in_add 2 (by decide) (by omega) (by omega)
  refine lv_aload_n hx hb dL_law_144 rfl (lv_at hl 1 rfl) ?_
  refine lv_aload_n hx hb dL_law_145 rfl (lv_at hl 0 rfl) ?_
  refine lv_iload_n hx hb dL_law_146 rfl (lv_at hl 3 rfl) ?_
  refine lv_iconst (v := 1) hx hb dL_law_147 (by decide) ?_
  refine lv_iadd hx hb dL_law_148 ?_
  refine va_sld hx hb hX hbl hbA hS h1 dL_law_149 ?_
  refine lv_aload_n hx hb dL_law_150 rfl (lv_at hl 0 rfl) ?_
  refine lv_iload_n hx hb dL_law_151 rfl (lv_at hl 3 rfl) ?_
  refine lv_iconst (v := 2) hx hb dL_law_152 (by decide) ?_
  refine lv_iadd hx hb dL_law_153 ?_
  refine va_sld hx hb hX hbl hbA hS h2 dL_law_154 ?_
  obtain ⟨r0, u0, lu0, m2, k2, e1, e2, hS2⟩ := set_eq hSim (n := 5000) (by decide) (xs (nI i + 1).toNatClampNeg) (xs (nI i + 2).toNatClampNeg)
  have hne := chgK_ne e1
  refine cwiP (wr := modelC G.2 b m0) (w1 := fun u : DV × List HD => xW G.2 a u.1 (rowsF u.2) (slotF sl) (u.2 ++ esF sl)) (ws1 := fun u : DV × List HD => LW G a b u.1 u.2 sl m0) (va_runV (As := [.int (xs (nI i + 1).toNatClampNeg), .int (xs (nI i + 2).toNatClampNeg)]) (rest := []) ⟨hx, hb, hml, hown, hts⟩ (ok_X6_set l G a _ v hs (esF sl) (slotF sl) k hSim.2.2.1 hSim.2.2.2.1.2.1 (by have := hSim.2.2.2.1.2.2.1; rwa [List.length_map] at this) (by have := hSim.2.2.2.1.2.2.2.1; rwa [List.length_map] at this) copyFrom_ne (xs (nI i + 1).toNatClampNeg) (xs (nI i + 2).toNatClampNeg) hne) (cwV 2 hts gL_law_X6_set rfl rfl rfl (by decide +kernel) ⟨Nat.le_of_ble_eq_true rfl, Nat.le_of_ble_eq_true rfl⟩) ⟨pcH_blind, va_recv hK (va_P_left hP) (ci := 6) (q0 := 0) rfl rfl, pcH_pre (va_P_left hP) (va_D_left hD) hamb hHS hS (va_freeA hD hS hA)⟩ rfl rfl hl.1 rfl (lv_room (Nat.le_of_ble_eq_true rfl)) dL_law_155 ⟨hc, hsl⟩) hP hD hS hA (List.Perm.refl _) (fun _ => List.Perm.refl _) (fun r u H locs hw hP hD hS => ?_)
  obtain ⟨g1, g2, g3⟩ := trip_inj (e1.symm.trans hw)
  subst g1
  rw [g2, g3] at hS2
  refine lv_aload_n hx hb dL_law_158 rfl (lv_at hl 2 rfl) ?_
  refine lv_aload_n hx hb dL_law_159 rfl (lv_at hl 0 rfl) ?_
  refine lv_iload_n hx hb dL_law_160 rfl (lv_at hl 3 rfl) ?_
  refine lv_iconst (v := 1) hx hb dL_law_161 (by decide) ?_
  refine lv_iadd hx hb dL_law_162 ?_
  refine va_sld hx hb hX hbl hbA hS h1 dL_law_163 ?_
  refine lv_aload_n hx hb dL_law_164 rfl (lv_at hl 0 rfl) ?_
  refine lv_iload_n hx hb dL_law_165 rfl (lv_at hl 3 rfl) ?_
  refine lv_iconst (v := 2) hx hb dL_law_166 (by decide) ?_
  refine lv_iadd hx hb dL_law_167 ?_
  refine va_sld hx hb hX hbl hbA hS h2 dL_law_168 ?_
  have hpq : (LW G a b u.1 u.2 sl m0).Perm (modelC G.2 b m0 ++ xW G.2 a u.1 (rowsF u.2) (slotF sl) (u.2 ++ esF sl)) := List.perm_append_comm
  have hPm := va_P_left (va_P_perm hP hpq)
  have hDm := va_D_left (va_D_perm hD hpq)
  have hne2 : f_X7_set 5000 m0 (xs (nI i + 1).toNatClampNeg) (xs (nI i + 2).toNatClampNeg) ≠ none := by rw [e2]; exact fun e => nomatch e
  refine cwiP (w1 := fun y : DV => modelC G.2 b y) (ws1 := fun y : DV => LW G a b u.1 u.2 sl y) (va_runV (As := [.int (xs (nI i + 1).toNatClampNeg), .int (xs (nI i + 2).toNatClampNeg)]) (rest := [.int r0]) ⟨hx, hb, hml, hown, hts⟩ (ok_X7_set l G b _ 5000 m0 (xs (nI i + 1).toNatClampNeg) (xs (nI i + 2).toNatClampNeg) hne2) (cwV 2 hts gL_law_X7_set rfl rfl rfl (by decide +kernel) ⟨Nat.le_of_ble_eq_true rfl, Nat.le_of_ble_eq_true rfl⟩) ⟨pcW_blind, va_recv hK hPm (ci := 7) (q0 := 0) rfl rfl, pcW_pre hPm hDm hamb⟩ rfl rfl hl.1 rfl (lv_room (Nat.le_of_ble_eq_true rfl)) dL_law_169 ⟨hc, hsl⟩) hP hD hS hA hpq (fun _ => List.perm_append_comm) (fun r9 m9 H locs hw9 hP hD hS => ?_)
  obtain ⟨g8, g9⟩ := pair_inj (e2.symm.trans hw9)
  subst g8 g9
  exact lv_icmp_eq (tgt := 758) hx hb dL_law_172 (by decide) (fun _ => (kk u.1 u.2 sl k2 m2 H locs ⟨hS2, hP, hD, hS⟩)) (fun e => absurd rfl e)
set_option maxHeartbeats 4000000 in
set_option maxRecDepth 100000 in
theorem law_write {p : Program} {l : Launch} {e : Env} {s : State} {m : MethodId} {args : Array Value} {below : List Frame} {meth : Method} {c : Code} {H : Heap} {locs : List Loc} {cells slots : Nat} {Q : State → Prop} {G : Gt} {a b : Nat → Nat} {A : Nat → Prop} {b0 L : Nat} {xs : Nat → Int32} {ls : Array Slot} {i : Nat} (C : LC p s m args c G A b0 L xs) {v : DV} {hs : List HD} {sl : Nat → Option HD} {k : Nat} {m0 : DV} (h : LSt G a b A s H locs v hs sl k m0) (hl : lv_has ls 4 [(0, .ref b0), (1, .ref (a 21)), (2, .ref (b 0)), (3, .int (nI i))]) (hi : i + 4 ≤ L) (hL : L ≤ 2048) (hc : cells + 15 ≤ room_1.cells) (hsl : slots + 253 ≤ room_1.slots) (kk : LK p l e room_1 s m args below meth c Q G a b A ls (cells + 15) (slots + 253) 758) : W p l e room_1 s m args below meth c H locs cells slots Q (F0 m 177 ls []) := by
  obtain ⟨hx, hb, hml, hown, hts, hamb, hX, hbl, hbA, hA, hHS⟩ := C
  obtain ⟨hSim, hP, hD, hS⟩ := h
  have hK := hamb.1
  have hc0 : cells + 0 ≤ room_1.cells := Nat.le_trans (Nat.le_add_right cells 15) hc
  have hs0 : slots + 0 ≤ room_1.slots := Nat.le_trans (Nat.le_add_right slots 253) hsl
  have h1 : vp_in (nI i + 1) L := vp_in_add 1 (by decide) (by omega) (by omega)
  have h2 : vp_in (nI i + 2) L := vp_in_add 2 (by decide) (by omega) (by omega)
  have h3 : vp_in (nI i + 3) L := vp_in_add 3 (by decide) (by omega) (by omega)
  refine lv_aload_n hx hb dL_law_177 rfl (lv_at hl 1 rfl) ?_
  refine lv_aload_n hx hb dL_law_178 rfl (lv_at hl 0 rfl) ?_
  refine lv_iload_n hx hb dL_law_179 rfl (lv_at hl 3 rfl) ?_
  refine lv_iconst (v := 1) hx hb dL_law_180 (by decide) ?_
  refine lv_iadd hx hb dL_law_181 ?_
  refine va_sld hx hb hX hbl hbA hS h1 dL_law_182 ?_
  refine lv_aload_n hx hb dL_law_183 rfl (lv_at hl 0 rfl) ?_
  refine lv_iload_n hx hb dL_law_184 rfl (lv_at hl 3 rfl) ?_
  refine lv_iconst (v := 2) hx hb dL_law_185 (by decide) ?_
  refine lv_iadd hx hb dL_law_186 ?_
  refine va_sld hx hb hX hbl hbA hS h2 dL_law_187 ?_
  refine lv_aload_n hx hb dL_law_188 rfl (lv_at hl 0 rfl) ?_
  refine lv_iload_n hx hb dL_law_189 rfl (lv_at hl 3 rfl) ?_
  refine lv_iconst (v := 3) hx hb dL_law_190 (by decide) ?_
  refine lv_iadd hx hb dL_law_191 ?_
  refine va_sld hx hb hX hbl hbA hS h3 dL_law_192 ?_
  obtain ⟨r0, u0, lu0, m2, k2, e1, e2, hS2⟩ := write_eq hSim (n := 5000) (by decide) (xs (nI i + 1).toNatClampNeg) (xs (nI i + 2).toNatClampNeg) (xs (nI i + 3).toNatClampNeg)
  have hne := chgK_ne e1
  refine cwiP (wr := modelC G.2 b m0) (w1 := fun u : DV × List HD => xW G.2 a u.1 (rowsF u.2) (slotF sl) (u.2 ++ esF sl)) (ws1 := fun u : DV × List HD => LW G a b u.1 u.2 sl m0) (va_runV (As := [.int (xs (nI i + 1).toNatClampNeg), .int (xs (nI i + 2).toNatClampNeg), .int (xs (nI i + 3).toNatClampNeg)]) (rest := []) ⟨hx, hb, hml, hown, hts⟩ (ok_X6_write l G a _ 5000 v hs (esF sl) (slotF sl) k hSim.2.2.1 hSim.2.2.2.1.2.1 (by have := hSim.2.2.2.1.2.2.1; rwa [List.length_map] at this) (by have := hSim.2.2.2.1.2.2.2.1; rwa [List.length_map] at this) copyFrom_ne (xs (nI i + 1).toNatClampNeg) (xs (nI i + 2).toNatClampNeg) (xs (nI i + 3).toNatClampNeg) hne) (cwV 3 hts gL_law_X6_write rfl rfl rfl (by decide +kernel) ⟨Nat.le_of_ble_eq_true rfl, Nat.le_of_ble_eq_true rfl⟩) ⟨pcW_blind, va_recv hK (va_P_left hP) (ci := 6) (q0 := 0) rfl rfl, pcW_pre (va_P_left hP) (va_D_left hD) hamb⟩ rfl rfl hl.1 rfl (lv_room (Nat.le_of_ble_eq_true rfl)) dL_law_193 ⟨hc, hsl⟩) hP hD hS hA (List.Perm.refl _) (fun _ => List.Perm.refl _) (fun r u H locs hw hP hD hS => ?_)
  obtain ⟨g1, g2, g3⟩ := trip_inj (e1.symm.trans hw)
  subst g1
  rw [g2, g3] at hS2
  refine lv_aload_n hx hb dL_law_196 rfl (lv_at hl 2 rfl) ?_
  refine lv_aload_n hx hb dL_law_197 rfl (lv_at hl 0 rfl) ?_
  refine lv_iload_n hx hb dL_law_198 rfl (lv_at hl 3 rfl) ?_
  refine lv_iconst (v := 1) hx hb dL_law_199 (by decide) ?_
  refine lv_iadd hx hb dL_law_200 ?_
  refine va_sld hx hb hX hbl hbA hS h1 dL_law_201 ?_
  refine lv_aload_n hx hb dL_law_202 rfl (lv_at hl 0 rfl) ?_
  refine lv_iload_n hx hb dL_law_203 rfl (lv_at hl 3 rfl) ?_
  refine lv_iconst (v := 2) hx hb dL_law_204 (by decide) ?_
  refine lv_iadd hx hb dL_law_205 ?_
  refine va_sld hx hb hX hbl hbA hS h2 dL_law_206 ?_
  refine lv_aload_n hx hb dL_law_207 rfl (lv_at hl 0 rfl) ?_
  refine lv_iload_n hx hb dL_law_208 rfl (lv_at hl 3 rfl) ?_
  refine lv_iconst (v := 3) hx hb dL_law_209 (by decide) ?_
  refine lv_iadd hx hb dL_law_210 ?_
  refine va_sld hx hb hX hbl hbA hS h3 dL_law_211 ?_
  have hpq : (LW G a b u.1 u.2 sl m0).Perm (modelC G.2 b m0 ++ xW G.2 a u.1 (rowsF u.2) (slotF sl) (u.2 ++ esF sl)) := List.perm_append_comm
  have hPm := va_P_left (va_P_perm hP hpq)
  have hDm := va_D_left (va_D_perm hD hpq)
  have hne2 : f_X7_write 5000 m0 (xs (nI i + 1).toNatClampNeg) (xs (nI i + 2).toNatClampNeg) (xs (nI i + 3).toNatClampNeg) ≠ none := by rw [e2]; exact fun e => nomatch e
  refine cwiP (w1 := fun y : DV => modelC G.2 b y) (ws1 := fun y : DV => LW G a b u.1 u.2 sl y) (va_runV (As := [.int (xs (nI i + 1).toNatClampNeg), .int (xs (nI i + 2).toNatClampNeg), .int (xs (nI i + 3).toNatClampNeg)]) (rest := [.int r0]) ⟨hx, hb, hml, hown, hts⟩ (ok_X7_write l G b _ 5000 m0 (xs (nI i + 1).toNatClampNeg) (xs (nI i + 2).toNatClampNeg) (xs (nI i + 3).toNatClampNeg) hne2) (cwV 3 hts gL_law_X7_write rfl rfl rfl (by decide +kernel) ⟨Nat.le_of_ble_eq_true rfl, Nat.le_of_ble_eq_true rfl⟩) ⟨pcW_blind, va_recv hK hPm (ci := 7) (q0 := 0) rfl rfl, pcW_pre hPm hDm hamb⟩ rfl rfl hl.1 rfl (lv_room (Nat.le_of_ble_eq_true rfl)) dL_law_212 ⟨hc, hsl⟩) hP hD hS hA hpq (fun _ => List.perm_append_comm) (fun r9 m9 H locs hw9 hP hD hS => ?_)
  obtain ⟨g8, g9⟩ := pair_inj (e2.symm.trans hw9)
  subst g8 g9
  exact lv_icmp_eq (tgt := 758) hx hb dL_law_215 (by decide) (fun _ => (kk u.1 u.2 sl k2 m2 H locs ⟨hS2, hP, hD, hS⟩)) (fun e => absurd rfl e)
set_option maxHeartbeats 4000000 in
set_option maxRecDepth 100000 in
theorem law_turn {p : Program} {l : Launch} {e : Env} {s : State} {m : MethodId} {args : Array Value} {below : List Frame} {meth : Method} {c : Code} {H : Heap} {locs : List Loc} {cells slots : Nat} {Q : State → Prop} {G : Gt} {a b : Nat → Nat} {A : Nat → Prop} {b0 L : Nat} {xs : Nat → Int32} {ls : Array Slot} {i : Nat} (C : LC p s m args c G A b0 L xs) {v : DV} {hs : List HD} {sl : Nat → Option HD} {k : Nat} {m0 : DV} (h : LSt G a b A s H locs v hs sl k m0) (hl : lv_has ls 4 [(0, .ref b0), (1, .ref (a 21)), (2, .ref (b 0)), (3, .int (nI i))]) (hi : i + 4 ≤ L) (hL : L ≤ 2048) (hc : cells + 15 ≤ room_1.cells) (hsl : slots + 253 ≤ room_1.slots) (kk : LK p l e room_1 s m args below meth c Q G a b A ls (cells + 15) (slots + 253) 758) : W p l e room_1 s m args below meth c H locs cells slots Q (F0 m 220 ls []) := by
  obtain ⟨hx, hb, hml, hown, hts, hamb, hX, hbl, hbA, hA, hHS⟩ := C
  obtain ⟨hSim, hP, hD, hS⟩ := h
  have hK := hamb.1
  have hc0 : cells + 0 ≤ room_1.cells := Nat.le_trans (Nat.le_add_right cells 15) hc
  have hs0 : slots + 0 ≤ room_1.slots := Nat.le_trans (Nat.le_add_right slots 253) hsl
  have h1 : vp_in (nI i + 1) L := vp_in_add 1 (by decide) (by omega) (by omega)
  refine lv_aload_n hx hb dL_law_220 rfl (lv_at hl 1 rfl) ?_
  refine lv_aload_n hx hb dL_law_221 rfl (lv_at hl 0 rfl) ?_
  refine lv_iload_n hx hb dL_law_222 rfl (lv_at hl 3 rfl) ?_
  refine lv_iconst (v := 1) hx hb dL_law_223 (by decide) ?_
  refine lv_iadd hx hb dL_law_224 ?_
  refine va_sld hx hb hX hbl hbA hS h1 dL_law_225 ?_
  obtain ⟨r0, u0, lu0, m2, k2, e1, e2, hS2⟩ := turn_eq hSim (n := 5000) (by decide) (xs (nI i + 1).toNatClampNeg)
  have hne := chgK_ne e1
  refine cwiP (wr := modelC G.2 b m0) (w1 := fun u : DV × List HD => xW G.2 a u.1 (rowsF u.2) (slotF sl) (u.2 ++ esF sl)) (ws1 := fun u : DV × List HD => LW G a b u.1 u.2 sl m0) (va_runV (As := [.int (xs (nI i + 1).toNatClampNeg)]) (rest := []) ⟨hx, hb, hml, hown, hts⟩ (ok_X6_turn l G a _ v hs (esF sl) (slotF sl) k hSim.2.2.1 hSim.2.2.2.1.2.1 (by have := hSim.2.2.2.1.2.2.1; rwa [List.length_map] at this) (by have := hSim.2.2.2.1.2.2.2.1; rwa [List.length_map] at this) copyFrom_ne (xs (nI i + 1).toNatClampNeg) hne) (cwV 1 hts gL_law_X6_turn rfl rfl rfl (by decide +kernel) ⟨Nat.le_of_ble_eq_true rfl, Nat.le_of_ble_eq_true rfl⟩) ⟨pcW_blind, va_recv hK (va_P_left hP) (ci := 6) (q0 := 0) rfl rfl, pcW_pre (va_P_left hP) (va_D_left hD) hamb⟩ rfl rfl hl.1 rfl (lv_room (Nat.le_of_ble_eq_true rfl)) dL_law_226 ⟨hc, hsl⟩) hP hD hS hA (List.Perm.refl _) (fun _ => List.Perm.refl _) (fun r u H locs hw hP hD hS => ?_)
  obtain ⟨g1, g2, g3⟩ := trip_inj (e1.symm.trans hw)
  subst g1
  rw [g2, g3] at hS2
  refine lv_aload_n hx hb dL_law_229 rfl (lv_at hl 2 rfl) ?_
  refine lv_aload_n hx hb dL_law_230 rfl (lv_at hl 0 rfl) ?_
  refine lv_iload_n hx hb dL_law_231 rfl (lv_at hl 3 rfl) ?_
  refine lv_iconst (v := 1) hx hb dL_law_232 (by decide) ?_
  refine lv_iadd hx hb dL_law_233 ?_
  refine va_sld hx hb hX hbl hbA hS h1 dL_law_234 ?_
  have hpq : (LW G a b u.1 u.2 sl m0).Perm (modelC G.2 b m0 ++ xW G.2 a u.1 (rowsF u.2) (slotF sl) (u.2 ++ esF sl)) := List.perm_append_comm
  have hPm := va_P_left (va_P_perm hP hpq)
  have hDm := va_D_left (va_D_perm hD hpq)
  have hne2 : f_X7_turn 5000 m0 (xs (nI i + 1).toNatClampNeg) ≠ none := by rw [e2]; exact fun e => nomatch e
  refine cwiP (w1 := fun y : DV => modelC G.2 b y) (ws1 := fun y : DV => LW G a b u.1 u.2 sl y) (va_runV (As := [.int (xs (nI i + 1).toNatClampNeg)]) (rest := [.int r0]) ⟨hx, hb, hml, hown, hts⟩ (ok_X7_turn l G b _ 5000 m0 (xs (nI i + 1).toNatClampNeg) hne2) (cwV 1 hts gL_law_X7_turn rfl rfl rfl (by decide +kernel) ⟨Nat.le_of_ble_eq_true rfl, Nat.le_of_ble_eq_true rfl⟩) ⟨pcW_blind, va_recv hK hPm (ci := 7) (q0 := 0) rfl rfl, pcW_pre hPm hDm hamb⟩ rfl rfl hl.1 rfl (lv_room (Nat.le_of_ble_eq_true rfl)) dL_law_235 ⟨hc, hsl⟩) hP hD hS hA hpq (fun _ => List.perm_append_comm) (fun r9 m9 H locs hw9 hP hD hS => ?_)
  obtain ⟨g8, g9⟩ := pair_inj (e2.symm.trans hw9)
  subst g8 g9
  exact lv_icmp_eq (tgt := 758) hx hb dL_law_238 (by decide) (fun _ => (kk u.1 u.2 sl k2 m2 H locs ⟨hS2, hP, hD, hS⟩)) (fun e => absurd rfl e)
set_option maxHeartbeats 4000000 in
set_option maxRecDepth 100000 in
theorem law_rest {p : Program} {l : Launch} {e : Env} {s : State} {m : MethodId} {args : Array Value} {below : List Frame} {meth : Method} {c : Code} {H : Heap} {locs : List Loc} {cells slots : Nat} {Q : State → Prop} {G : Gt} {a b : Nat → Nat} {A : Nat → Prop} {b0 L : Nat} {xs : Nat → Int32} {ls : Array Slot} {i : Nat} (C : LC p s m args c G A b0 L xs) {v : DV} {hs : List HD} {sl : Nat → Option HD} {k : Nat} {m0 : DV} (h : LSt G a b A s H locs v hs sl k m0) (hl : lv_has ls 4 [(0, .ref b0), (1, .ref (a 21)), (2, .ref (b 0)), (3, .int (nI i))]) (hi : i + 4 ≤ L) (hL : L ≤ 2048) (hc : cells + 15 ≤ room_1.cells) (hsl : slots + 253 ≤ room_1.slots) (kk : LK p l e room_1 s m args below meth c Q G a b A ls (cells + 15) (slots + 253) 758) : W p l e room_1 s m args below meth c H locs cells slots Q (F0 m 243 ls []) := by
  obtain ⟨hx, hb, hml, hown, hts, hamb, hX, hbl, hbA, hA, hHS⟩ := C
  obtain ⟨hSim, hP, hD, hS⟩ := h
  have hK := hamb.1
  have hc0 : cells + 0 ≤ room_1.cells := Nat.le_trans (Nat.le_add_right cells 15) hc
  have hs0 : slots + 0 ≤ room_1.slots := Nat.le_trans (Nat.le_add_right slots 253) hsl
  have h1 : vp_in (nI i + 1) L := vp_in_add 1 (by decide) (by omega) (by omega)
  have h2 : vp_in (nI i + 2) L := vp_in_add 2 (by decide) (by omega) (by omega)
  refine lv_aload_n hx hb dL_law_243 rfl (lv_at hl 1 rfl) ?_
  refine lv_aload_n hx hb dL_law_244 rfl (lv_at hl 0 rfl) ?_
  refine lv_iload_n hx hb dL_law_245 rfl (lv_at hl 3 rfl) ?_
  refine lv_iconst (v := 1) hx hb dL_law_246 (by decide) ?_
  refine lv_iadd hx hb dL_law_247 ?_
  refine va_sld hx hb hX hbl hbA hS h1 dL_law_248 ?_
  refine lv_aload_n hx hb dL_law_249 rfl (lv_at hl 0 rfl) ?_
  refine lv_iload_n hx hb dL_law_250 rfl (lv_at hl 3 rfl) ?_
  refine lv_iconst (v := 2) hx hb dL_law_251 (by decide) ?_
  refine lv_iadd hx hb dL_law_252 ?_
  refine va_sld hx hb hX hbl hbA hS h2 dL_law_253 ?_
  obtain ⟨r0, u0, lu0, m2, k2, e1, e2, hS2⟩ := rest_eq hSim (n := 5000) (by decide) (xs (nI i + 1).toNatClampNeg) (xs (nI i + 2).toNatClampNeg)
  have hne := chgK_ne e1
  refine cwiP (wr := modelC G.2 b m0) (w1 := fun u : DV × List HD => xW G.2 a u.1 (rowsF u.2) (slotF sl) (u.2 ++ esF sl)) (ws1 := fun u : DV × List HD => LW G a b u.1 u.2 sl m0) (va_runV (As := [.int (xs (nI i + 1).toNatClampNeg), .int (xs (nI i + 2).toNatClampNeg)]) (rest := []) ⟨hx, hb, hml, hown, hts⟩ (ok_X6_rest l G a _ v hs (esF sl) (slotF sl) k hSim.2.2.1 hSim.2.2.2.1.2.1 (by have := hSim.2.2.2.1.2.2.1; rwa [List.length_map] at this) (by have := hSim.2.2.2.1.2.2.2.1; rwa [List.length_map] at this) copyFrom_ne (xs (nI i + 1).toNatClampNeg) (xs (nI i + 2).toNatClampNeg) hne) (cwV 2 hts gL_law_X6_rest rfl rfl rfl (by decide +kernel) ⟨Nat.le_of_ble_eq_true rfl, Nat.le_of_ble_eq_true rfl⟩) ⟨pcW_blind, va_recv hK (va_P_left hP) (ci := 6) (q0 := 0) rfl rfl, pcW_pre (va_P_left hP) (va_D_left hD) hamb⟩ rfl rfl hl.1 rfl (lv_room (Nat.le_of_ble_eq_true rfl)) dL_law_254 ⟨hc, hsl⟩) hP hD hS hA (List.Perm.refl _) (fun _ => List.Perm.refl _) (fun r u H locs hw hP hD hS => ?_)
  obtain ⟨g1, g2, g3⟩ := trip_inj (e1.symm.trans hw)
  subst g1
  rw [g2, g3] at hS2
  refine lv_aload_n hx hb dL_law_257 rfl (lv_at hl 2 rfl) ?_
  refine lv_aload_n hx hb dL_law_258 rfl (lv_at hl 0 rfl) ?_
  refine lv_iload_n hx hb dL_law_259 rfl (lv_at hl 3 rfl) ?_
  refine lv_iconst (v := 1) hx hb dL_law_260 (by decide) ?_
  refine lv_iadd hx hb dL_law_261 ?_
  refine va_sld hx hb hX hbl hbA hS h1 dL_law_262 ?_
  refine lv_aload_n hx hb dL_law_263 rfl (lv_at hl 0 rfl) ?_
  refine lv_iload_n hx hb dL_law_264 rfl (lv_at hl 3 rfl) ?_
  refine lv_iconst (v := 2) hx hb dL_law_265 (by decide) ?_
  refine lv_iadd hx hb dL_law_266 ?_
  refine va_sld hx hb hX hbl hbA hS h2 dL_law_267 ?_
  have hpq : (LW G a b u.1 u.2 sl m0).Perm (modelC G.2 b m0 ++ xW G.2 a u.1 (rowsF u.2) (slotF sl) (u.2 ++ esF sl)) := List.perm_append_comm
  have hPm := va_P_left (va_P_perm hP hpq)
  have hDm := va_D_left (va_D_perm hD hpq)
  have hne2 : f_X7_rest 5000 m0 (xs (nI i + 1).toNatClampNeg) (xs (nI i + 2).toNatClampNeg) ≠ none := by rw [e2]; exact fun e => nomatch e
  refine cwiP (w1 := fun y : DV => modelC G.2 b y) (ws1 := fun y : DV => LW G a b u.1 u.2 sl y) (va_runV (As := [.int (xs (nI i + 1).toNatClampNeg), .int (xs (nI i + 2).toNatClampNeg)]) (rest := [.int r0]) ⟨hx, hb, hml, hown, hts⟩ (ok_X7_rest l G b _ 5000 m0 (xs (nI i + 1).toNatClampNeg) (xs (nI i + 2).toNatClampNeg) hne2) (cwV 2 hts gL_law_X7_rest rfl rfl rfl (by decide +kernel) ⟨Nat.le_of_ble_eq_true rfl, Nat.le_of_ble_eq_true rfl⟩) ⟨pcW_blind, va_recv hK hPm (ci := 7) (q0 := 0) rfl rfl, pcW_pre hPm hDm hamb⟩ rfl rfl hl.1 rfl (lv_room (Nat.le_of_ble_eq_true rfl)) dL_law_268 ⟨hc, hsl⟩) hP hD hS hA hpq (fun _ => List.perm_append_comm) (fun r9 m9 H locs hw9 hP hD hS => ?_)
  obtain ⟨g8, g9⟩ := pair_inj (e2.symm.trans hw9)
  subst g8 g9
  exact lv_icmp_eq (tgt := 758) hx hb dL_law_271 (by decide) (fun _ => (kk u.1 u.2 sl k2 m2 H locs ⟨hS2, hP, hD, hS⟩)) (fun e => absurd rfl e)
set_option maxHeartbeats 4000000 in
set_option maxRecDepth 100000 in
theorem law_hours {p : Program} {l : Launch} {e : Env} {s : State} {m : MethodId} {args : Array Value} {below : List Frame} {meth : Method} {c : Code} {H : Heap} {locs : List Loc} {cells slots : Nat} {Q : State → Prop} {G : Gt} {a b : Nat → Nat} {A : Nat → Prop} {b0 L : Nat} {xs : Nat → Int32} {ls : Array Slot} {i : Nat} (C : LC p s m args c G A b0 L xs) {v : DV} {hs : List HD} {sl : Nat → Option HD} {k : Nat} {m0 : DV} (h : LSt G a b A s H locs v hs sl k m0) (hl : lv_has ls 4 [(0, .ref b0), (1, .ref (a 21)), (2, .ref (b 0)), (3, .int (nI i))]) (hi : i + 4 ≤ L) (hL : L ≤ 2048) (hc : cells + 15 ≤ room_1.cells) (hsl : slots + 253 ≤ room_1.slots) (kk : LK p l e room_1 s m args below meth c Q G a b A ls (cells + 15) (slots + 253) 758) : W p l e room_1 s m args below meth c H locs cells slots Q (F0 m 276 ls []) := by
  obtain ⟨hx, hb, hml, hown, hts, hamb, hX, hbl, hbA, hA, hHS⟩ := C
  obtain ⟨hSim, hP, hD, hS⟩ := h
  have hK := hamb.1
  have hc0 : cells + 0 ≤ room_1.cells := Nat.le_trans (Nat.le_add_right cells 15) hc
  have hs0 : slots + 0 ≤ room_1.slots := Nat.le_trans (Nat.le_add_right slots 253) hsl
  have h1 : vp_in (nI i + 1) L := vp_in_add 1 (by decide) (by omega) (by omega)
  have h2 : vp_in (nI i + 2) L := vp_in_add 2 (by decide) (by omega) (by omega)
  have h3 : vp_in (nI i + 3) L := vp_in_add 3 (by decide) (by omega) (by omega)
  refine lv_aload_n hx hb dL_law_276 rfl (lv_at hl 1 rfl) ?_
  refine lv_aload_n hx hb dL_law_277 rfl (lv_at hl 0 rfl) ?_
  refine lv_iload_n hx hb dL_law_278 rfl (lv_at hl 3 rfl) ?_
  refine lv_iconst (v := 1) hx hb dL_law_279 (by decide) ?_
  refine lv_iadd hx hb dL_law_280 ?_
  refine va_sld hx hb hX hbl hbA hS h1 dL_law_281 ?_
  refine lv_aload_n hx hb dL_law_282 rfl (lv_at hl 0 rfl) ?_
  refine lv_iload_n hx hb dL_law_283 rfl (lv_at hl 3 rfl) ?_
  refine lv_iconst (v := 2) hx hb dL_law_284 (by decide) ?_
  refine lv_iadd hx hb dL_law_285 ?_
  refine va_sld hx hb hX hbl hbA hS h2 dL_law_286 ?_
  refine lv_aload_n hx hb dL_law_287 rfl (lv_at hl 0 rfl) ?_
  refine lv_iload_n hx hb dL_law_288 rfl (lv_at hl 3 rfl) ?_
  refine lv_iconst (v := 3) hx hb dL_law_289 (by decide) ?_
  refine lv_iadd hx hb dL_law_290 ?_
  refine va_sld hx hb hX hbl hbA hS h3 dL_law_291 ?_
  obtain ⟨r0, u0, lu0, m2, k2, e1, e2, hS2⟩ := hours_eq hSim (n := 5000) (by decide) (xs (nI i + 1).toNatClampNeg) (xs (nI i + 2).toNatClampNeg) (xs (nI i + 3).toNatClampNeg)
  have hne := chgK_ne e1
  refine cwiP (wr := modelC G.2 b m0) (w1 := fun u : DV × List HD => xW G.2 a u.1 (rowsF u.2) (slotF sl) (u.2 ++ esF sl)) (ws1 := fun u : DV × List HD => LW G a b u.1 u.2 sl m0) (va_runV (As := [.int (xs (nI i + 1).toNatClampNeg), .int (xs (nI i + 2).toNatClampNeg), .int (xs (nI i + 3).toNatClampNeg)]) (rest := []) ⟨hx, hb, hml, hown, hts⟩ (ok_X6_hours l G a _ v hs (esF sl) (slotF sl) k hSim.2.2.1 hSim.2.2.2.1.2.1 (by have := hSim.2.2.2.1.2.2.1; rwa [List.length_map] at this) (by have := hSim.2.2.2.1.2.2.2.1; rwa [List.length_map] at this) copyFrom_ne (xs (nI i + 1).toNatClampNeg) (xs (nI i + 2).toNatClampNeg) (xs (nI i + 3).toNatClampNeg) hne) (cwV 3 hts gL_law_X6_hours rfl rfl rfl (by decide +kernel) ⟨Nat.le_of_ble_eq_true rfl, Nat.le_of_ble_eq_true rfl⟩) ⟨pcW_blind, va_recv hK (va_P_left hP) (ci := 6) (q0 := 0) rfl rfl, pcW_pre (va_P_left hP) (va_D_left hD) hamb⟩ rfl rfl hl.1 rfl (lv_room (Nat.le_of_ble_eq_true rfl)) dL_law_292 ⟨hc, hsl⟩) hP hD hS hA (List.Perm.refl _) (fun _ => List.Perm.refl _) (fun r u H locs hw hP hD hS => ?_)
  obtain ⟨g1, g2, g3⟩ := trip_inj (e1.symm.trans hw)
  subst g1
  rw [g2, g3] at hS2
  refine lv_aload_n hx hb dL_law_295 rfl (lv_at hl 2 rfl) ?_
  refine lv_aload_n hx hb dL_law_296 rfl (lv_at hl 0 rfl) ?_
  refine lv_iload_n hx hb dL_law_297 rfl (lv_at hl 3 rfl) ?_
  refine lv_iconst (v := 1) hx hb dL_law_298 (by decide) ?_
  refine lv_iadd hx hb dL_law_299 ?_
  refine va_sld hx hb hX hbl hbA hS h1 dL_law_300 ?_
  refine lv_aload_n hx hb dL_law_301 rfl (lv_at hl 0 rfl) ?_
  refine lv_iload_n hx hb dL_law_302 rfl (lv_at hl 3 rfl) ?_
  refine lv_iconst (v := 2) hx hb dL_law_303 (by decide) ?_
  refine lv_iadd hx hb dL_law_304 ?_
  refine va_sld hx hb hX hbl hbA hS h2 dL_law_305 ?_
  refine lv_aload_n hx hb dL_law_306 rfl (lv_at hl 0 rfl) ?_
  refine lv_iload_n hx hb dL_law_307 rfl (lv_at hl 3 rfl) ?_
  refine lv_iconst (v := 3) hx hb dL_law_308 (by decide) ?_
  refine lv_iadd hx hb dL_law_309 ?_
  refine va_sld hx hb hX hbl hbA hS h3 dL_law_310 ?_
  have hpq : (LW G a b u.1 u.2 sl m0).Perm (modelC G.2 b m0 ++ xW G.2 a u.1 (rowsF u.2) (slotF sl) (u.2 ++ esF sl)) := List.perm_append_comm
  have hPm := va_P_left (va_P_perm hP hpq)
  have hDm := va_D_left (va_D_perm hD hpq)
  have hne2 : f_X7_hours 5000 m0 (xs (nI i + 1).toNatClampNeg) (xs (nI i + 2).toNatClampNeg) (xs (nI i + 3).toNatClampNeg) ≠ none := by rw [e2]; exact fun e => nomatch e
  refine cwiP (w1 := fun y : DV => modelC G.2 b y) (ws1 := fun y : DV => LW G a b u.1 u.2 sl y) (va_runV (As := [.int (xs (nI i + 1).toNatClampNeg), .int (xs (nI i + 2).toNatClampNeg), .int (xs (nI i + 3).toNatClampNeg)]) (rest := [.int r0]) ⟨hx, hb, hml, hown, hts⟩ (ok_X7_hours l G b _ 5000 m0 (xs (nI i + 1).toNatClampNeg) (xs (nI i + 2).toNatClampNeg) (xs (nI i + 3).toNatClampNeg) hne2) (cwV 3 hts gL_law_X7_hours rfl rfl rfl (by decide +kernel) ⟨Nat.le_of_ble_eq_true rfl, Nat.le_of_ble_eq_true rfl⟩) ⟨pcW_blind, va_recv hK hPm (ci := 7) (q0 := 0) rfl rfl, pcW_pre hPm hDm hamb⟩ rfl rfl hl.1 rfl (lv_room (Nat.le_of_ble_eq_true rfl)) dL_law_311 ⟨hc, hsl⟩) hP hD hS hA hpq (fun _ => List.perm_append_comm) (fun r9 m9 H locs hw9 hP hD hS => ?_)
  obtain ⟨g8, g9⟩ := pair_inj (e2.symm.trans hw9)
  subst g8 g9
  exact lv_icmp_eq (tgt := 758) hx hb dL_law_314 (by decide) (fun _ => (kk u.1 u.2 sl k2 m2 H locs ⟨hS2, hP, hD, hS⟩)) (fun e => absurd rfl e)
set_option maxHeartbeats 4000000 in
set_option maxRecDepth 100000 in
theorem law_burn {p : Program} {l : Launch} {e : Env} {s : State} {m : MethodId} {args : Array Value} {below : List Frame} {meth : Method} {c : Code} {H : Heap} {locs : List Loc} {cells slots : Nat} {Q : State → Prop} {G : Gt} {a b : Nat → Nat} {A : Nat → Prop} {b0 L : Nat} {xs : Nat → Int32} {ls : Array Slot} {i : Nat} (C : LC p s m args c G A b0 L xs) {v : DV} {hs : List HD} {sl : Nat → Option HD} {k : Nat} {m0 : DV} (h : LSt G a b A s H locs v hs sl k m0) (hl : lv_has ls 4 [(0, .ref b0), (1, .ref (a 21)), (2, .ref (b 0)), (3, .int (nI i))]) (hi : i + 4 ≤ L) (hL : L ≤ 2048) (hc : cells + 15 ≤ room_1.cells) (hsl : slots + 253 ≤ room_1.slots) (kk : LK p l e room_1 s m args below meth c Q G a b A ls (cells + 15) (slots + 253) 758) : W p l e room_1 s m args below meth c H locs cells slots Q (F0 m 319 ls []) := by
  obtain ⟨hx, hb, hml, hown, hts, hamb, hX, hbl, hbA, hA, hHS⟩ := C
  obtain ⟨hSim, hP, hD, hS⟩ := h
  have hK := hamb.1
  have hc0 : cells + 0 ≤ room_1.cells := Nat.le_trans (Nat.le_add_right cells 15) hc
  have hs0 : slots + 0 ≤ room_1.slots := Nat.le_trans (Nat.le_add_right slots 253) hsl
  have h1 : vp_in (nI i + 1) L := vp_in_add 1 (by decide) (by omega) (by omega)
  refine lv_aload_n hx hb dL_law_319 rfl (lv_at hl 1 rfl) ?_
  refine lv_aload_n hx hb dL_law_320 rfl (lv_at hl 0 rfl) ?_
  refine lv_iload_n hx hb dL_law_321 rfl (lv_at hl 3 rfl) ?_
  refine lv_iconst (v := 1) hx hb dL_law_322 (by decide) ?_
  refine lv_iadd hx hb dL_law_323 ?_
  refine va_sld hx hb hX hbl hbA hS h1 dL_law_324 ?_
  obtain ⟨r0, u0, lu0, m2, k2, e1, e2, hS2⟩ := burn_eq hSim (n := 5000) (by decide) (xs (nI i + 1).toNatClampNeg)
  have hne := chgK_ne e1
  refine cwiP (wr := modelC G.2 b m0) (w1 := fun u : DV × List HD => xW G.2 a u.1 (rowsF u.2) (slotF sl) (u.2 ++ esF sl)) (ws1 := fun u : DV × List HD => LW G a b u.1 u.2 sl m0) (va_runV (As := [.int (xs (nI i + 1).toNatClampNeg)]) (rest := []) ⟨hx, hb, hml, hown, hts⟩ (ok_X6_burn l G a _ v hs (esF sl) (slotF sl) k hSim.2.2.1 hSim.2.2.2.1.2.1 (by have := hSim.2.2.2.1.2.2.1; rwa [List.length_map] at this) (by have := hSim.2.2.2.1.2.2.2.1; rwa [List.length_map] at this) copyFrom_ne (xs (nI i + 1).toNatClampNeg) hne) (cwV 1 hts gL_law_X6_burn rfl rfl rfl (by decide +kernel) ⟨Nat.le_of_ble_eq_true rfl, Nat.le_of_ble_eq_true rfl⟩) ⟨pcW_blind, va_recv hK (va_P_left hP) (ci := 6) (q0 := 0) rfl rfl, pcW_pre (va_P_left hP) (va_D_left hD) hamb⟩ rfl rfl hl.1 rfl (lv_room (Nat.le_of_ble_eq_true rfl)) dL_law_325 ⟨hc, hsl⟩) hP hD hS hA (List.Perm.refl _) (fun _ => List.Perm.refl _) (fun r u H locs hw hP hD hS => ?_)
  obtain ⟨g1, g2, g3⟩ := trip_inj (e1.symm.trans hw)
  subst g1
  rw [g2, g3] at hS2
  refine lv_aload_n hx hb dL_law_328 rfl (lv_at hl 2 rfl) ?_
  refine lv_aload_n hx hb dL_law_329 rfl (lv_at hl 0 rfl) ?_
  refine lv_iload_n hx hb dL_law_330 rfl (lv_at hl 3 rfl) ?_
  refine lv_iconst (v := 1) hx hb dL_law_331 (by decide) ?_
  refine lv_iadd hx hb dL_law_332 ?_
  refine va_sld hx hb hX hbl hbA hS h1 dL_law_333 ?_
  have hpq : (LW G a b u.1 u.2 sl m0).Perm (modelC G.2 b m0 ++ xW G.2 a u.1 (rowsF u.2) (slotF sl) (u.2 ++ esF sl)) := List.perm_append_comm
  have hPm := va_P_left (va_P_perm hP hpq)
  have hDm := va_D_left (va_D_perm hD hpq)
  have hne2 : f_X7_burn 5000 m0 (xs (nI i + 1).toNatClampNeg) ≠ none := by rw [e2]; exact fun e => nomatch e
  refine cwiP (w1 := fun y : DV => modelC G.2 b y) (ws1 := fun y : DV => LW G a b u.1 u.2 sl y) (va_runV (As := [.int (xs (nI i + 1).toNatClampNeg)]) (rest := [.int r0]) ⟨hx, hb, hml, hown, hts⟩ (ok_X7_burn l G b _ 5000 m0 (xs (nI i + 1).toNatClampNeg) hne2) (cwV 1 hts gL_law_X7_burn rfl rfl rfl (by decide +kernel) ⟨Nat.le_of_ble_eq_true rfl, Nat.le_of_ble_eq_true rfl⟩) ⟨pcW_blind, va_recv hK hPm (ci := 7) (q0 := 0) rfl rfl, pcW_pre hPm hDm hamb⟩ rfl rfl hl.1 rfl (lv_room (Nat.le_of_ble_eq_true rfl)) dL_law_334 ⟨hc, hsl⟩) hP hD hS hA hpq (fun _ => List.perm_append_comm) (fun r9 m9 H locs hw9 hP hD hS => ?_)
  obtain ⟨g8, g9⟩ := pair_inj (e2.symm.trans hw9)
  subst g8 g9
  exact lv_icmp_eq (tgt := 758) hx hb dL_law_337 (by decide) (fun _ => (kk u.1 u.2 sl k2 m2 H locs ⟨hS2, hP, hD, hS⟩)) (fun e => absurd rfl e)
