/-! The law from its entry. -/
set_option maxHeartbeats 4000000 in
set_option maxRecDepth 100000 in
theorem whole_go {p : Program} {e : Env} {s : State} {m : MethodId} {below : List Frame} {meth : Method} {c : Code} (l : Launch) {b L : Nat} {xs : Nat → Int32} (hL : L ≤ 2048) (hx : p.tables.exec = Jvm.exec) (hb : c.code = cL_law) (hr : meth.sig.returnType = ret) (hml : c.maxLocals = 4) (hown : s.vm.findClass RL = some m.cls) (htw : ∀ w ∈ lw_tbl, w.before #[Value.ref b] s = true) (hX : va_X b L xs s s.heap) (hbl : b < s.heap.size) (hlocks : meth.locks = false) (hgv : (Jvm.Cond.and given_1 narrow_1).before #[Value.ref b] s = true) : W p l e room_1 s m #[Value.ref b] below meth c s.heap [] 0 0 (lw_Z below #[Value.ref b] s) (entryFrame m ([Value.ref b] : List Value).toArray 4) := by
  have hA : ∀ q : Nat, s.heap.size ≤ q → (fun q : Nat => s.heap.size ≤ q) q := fun _ h => h
  have hbA : ¬ (fun q : Nat => s.heap.size ≤ q) b := Nat.not_le.mpr hbl
  have hts : ∀ w ∈ wsL_law, w.before #[Value.ref b] s = true := fun w h => htw w (wsL_law_in w h)
  obtain ⟨G, hamb⟩ := amb_entry htw
  have hHS : hsOK (fun q : Nat => s.heap.size ≤ q) s := hs_entry htw hgv (fun a h => Nat.not_le.mpr h)
  have C : LC p s m #[Value.ref b] c G (fun q : Nat => s.heap.size ≤ q) b L xs := ⟨hx, hb, hml, hown, hts, hamb, hX, hbl, hbA, hA, hHS⟩
  have hK := hamb.1
  have hS : va_S (fun q : Nat => s.heap.size ≤ q) s.heap s.heap [] := va_S.rf
  have hP : va_P G.1 vwCl [] s.heap := fun k q h => by simp at h
  have hD : va_D (fun q : Nat => s.heap.size ≤ q) [] := ⟨fun i j p q h => by simp at h, fun k q h => by simp at h⟩
  have hl := lv_entry ([.ref b]) (n := 4) (Nat.le_of_ble_eq_true rfl)
  rw [lg_entry_eq]
  generalize (lg_sl ([.ref b]) ++ List.replicate (4 - (lg_sl ([.ref b])).length) Slot.unset).toArray = ls at hl ⊢
  have hl : lv_has ls 4 [(0, .ref b)] := hl
  refine va_new (ci := 6) (fs := [.null, .null, .null, .null, .null]) (C := RX6) (T := TX6) (N := 5) hx hb htw inX6 tyX6 tyX6_ok hown (hts (.classLink RL 7 RX6) (by decide +kernel)) (hts (.instantiable RX6 5) (by decide +kernel)) (hts (.initialized RX6) (by decide +kernel)) hK hP hD hS hA rfl (fun j hj => by rcases (show j = 0 ∨ j = 1 ∨ j = 2 ∨ j = 3 ∨ j = 4 by omega) with rfl | rfl | rfl | rfl | rfl <;> rfl) (Nat.le_of_ble_eq_true rfl) (Nat.le_of_ble_eq_true rfl) dL_law_0 (fun q0 H hP hD hS => ?_)
  have hP : va_P G.1 vwCl [(q0, .inr (6, [.null, .null, .null, .null, .null]))] H := hP
  have hD : va_D (fun q : Nat => s.heap.size ≤ q) [(q0, .inr (6, [.null, .null, .null, .null, .null]))] := hD
  refine lv_dup hx hb dL_law_3 rfl ?_
  refine cwv (va_runI (As := []) (rest := [.ref q0]) ⟨hx, hb, hml, hown, hts⟩ (ok_X6_init l G q0 H.size) (cwI 0 hts gL_law_X6_init rfl rfl rfl (hts (.initialized RX6) (by decide +kernel)) (hts (.methodLink RL 9 yX6_init) (by decide +kernel)) (hts (.instanceMethod yX6_init) (by decide +kernel)) rfl (by decide +kernel) ⟨Nat.le_of_ble_eq_true rfl, Nat.le_of_ble_eq_true rfl⟩) ⟨pcW_blind, pcW_pre hP hD hamb⟩ rfl rfl hl.1 rfl (lv_room (Nat.le_of_ble_eq_true rfl)) dL_law_4 ⟨Nat.le_of_ble_eq_true rfl, Nat.le_of_ble_eq_true rfl⟩) (wr := []) hP hD hS hA [0] [] rfl rfl (by decide) (by decide) (fun a H2 locs2 hw hP2 hD2 hS2 => ?_)
  have hw : a 21 = q0 := hw
  subst hw
  generalize H2 = H, locs2 = locs at hP2 hD2 hS2 ⊢
  have hP : va_P G.1 vwCl (xW G.2 a iv_X6_init (rowsF []) (slotF (fun _ => none)) ([] ++ esF (fun _ => none))) H := hP2
  have hD : va_D (fun q : Nat => s.heap.size ≤ q) (xW G.2 a iv_X6_init (rowsF []) (slotF (fun _ => none)) ([] ++ esF (fun _ => none))) := hD2
  have hS : va_S (fun q : Nat => s.heap.size ≤ q) s.heap H locs := hS2
  refine lv_astore_n (lv' := [(1, .ref (a 21)), (0, .ref b)]) hx hb dL_law_7 rfl hl (by decide) rfl (fun ls hl => ?_)
  refine va_new (ci := 7) (fs := [.null, .null, .null, .int 0, .null, .null, .null, .int 0, .null, .null, .int 0, .int 0, .int 0, .int 0, .int 0, .int 0]) (C := RX7) (T := TX7) (N := 16) hx hb htw inX7 tyX7 tyX7_ok hown (hts (.classLink RL 10 RX7) (by decide +kernel)) (hts (.instantiable RX7 16) (by decide +kernel)) (hts (.initialized RX7) (by decide +kernel)) hK hP hD hS hA rfl (fun j hj => by rcases (show j = 0 ∨ j = 1 ∨ j = 2 ∨ j = 3 ∨ j = 4 ∨ j = 5 ∨ j = 6 ∨ j = 7 ∨ j = 8 ∨ j = 9 ∨ j = 10 ∨ j = 11 ∨ j = 12 ∨ j = 13 ∨ j = 14 ∨ j = 15 by omega) with rfl | rfl | rfl | rfl | rfl | rfl | rfl | rfl | rfl | rfl | rfl | rfl | rfl | rfl | rfl | rfl <;> rfl) (Nat.le_of_ble_eq_true rfl) (Nat.le_of_ble_eq_true rfl) dL_law_8 (fun q1 H hP hD hS => ?_)
  refine lv_dup hx hb dL_law_11 rfl ?_
  have hne : f_X7_init 20 ≠ none := by
    have h := init_some
    intro e; rw [e] at h; exact absurd h (by decide)
  have hpm := List.perm_append_comm (l₁ := xW G.2 a iv_X6_init (rowsF []) (slotF (fun _ => none)) ([] ++ esF (fun _ => none))) (l₂ := ([(q1, .inr (7, [.null, .null, .null, .int 0, .null, .null, .null, .int 0, .null, .null, .int 0, .int 0, .int 0, .int 0, .int 0, .int 0]))] : va_W))
  have hPc := va_P_left (va_P_perm hP hpm)
  have hDc := va_D_left (va_D_perm hD hpm)
  refine cwvP (w1 := fun u : (Nat → Nat) × DV => modelC G.2 u.1 u.2) (ws1 := fun u : (Nat → Nat) × DV => LW G a u.1 iv_X6_init [] (fun _ => none) u.2) (va_runI (As := []) (rest := [.ref q1]) ⟨hx, hb, hml, hown, hts⟩ (ok_X7_init l G 20 q1 H.size hne) (cwI 0 hts gL_law_X7_init rfl rfl rfl (hts (.initialized RX7) (by decide +kernel)) (hts (.methodLink RL 12 yX7_init) (by decide +kernel)) (hts (.instanceMethod yX7_init) (by decide +kernel)) rfl (by decide +kernel) ⟨Nat.le_of_ble_eq_true rfl, Nat.le_of_ble_eq_true rfl⟩) ⟨pcW_blind, pcW_pre hPc hDc hamb⟩ rfl rfl hl.1 rfl (lv_room (Nat.le_of_ble_eq_true rfl)) dL_law_12 ⟨Nat.le_of_ble_eq_true rfl, Nat.le_of_ble_eq_true rfl⟩) hP hD hS hA hpm (fun _ => List.perm_append_comm) (fun u H3 locs3 hw hP3 hD3 hS3 => ?_)
  obtain ⟨bm, m0⟩ := u
  obtain ⟨hw1, hw2⟩ := hw
  have hw1 : bm 0 = q1 := hw1
  subst hw1
  refine lv_astore_n (lv' := [(2, .ref (bm 0)), (1, .ref (a 21)), (0, .ref b)]) hx hb dL_law_15 rfl hl (by decide) rfl (fun ls hl => ?_)
  refine lv_iconst (v := 0) hx hb dL_law_16 (by decide) ?_
  refine lv_istore_n (lv' := [(3, .int 0), (2, .ref (bm 0)), (1, .ref (a 21)), (0, .ref b)]) hx hb dL_law_17 rfl hl (by decide) rfl (fun ls hl => ?_)
  exact law_loop C hr hlocks hL 600 0 iv_X6_init [] (fun _ => none) 0 m0 H3 locs3 _ _ ls (by omega) (Nat.zero_le L) (Nat.le_of_ble_eq_true rfl) (Nat.le_of_ble_eq_true rfl) ⟨sim0 hw2, hP3, hD3, hS3⟩ (lv_sub hl [3, 2, 1, 0] rfl)
