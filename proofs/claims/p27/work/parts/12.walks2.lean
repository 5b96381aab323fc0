set_option maxHeartbeats 4000000 in
set_option maxRecDepth 100000 in
theorem ok_X0_copyFrom (l : Launch) (G : Gt) (a b : Nat → Nat) (sz : Nat) (v0 w : DV) (hne : f_X0_copyFrom v0 w ≠ none) : Met l yX0_copyFrom wsX0_copyFrom ({ frames := 3, cells := 0, slots := 0, locals := 82 } : Room) (pcW G [.ref (a 0), .ref (b 0)] (deskC G.2 a v0 ++ deskC G.2 b w) sz) (va_Qv (fun (u : DV) => f_X0_copyFrom v0 w = some u) (fun u t => atW G (deskC G.2 a u ++ deskC G.2 b w) (va_A (deskC G.2 a v0 ++ deskC G.2 b w) sz) t) (va_A (deskC G.2 a v0 ++ deskC G.2 b w) sz)) 0 0 (va_A (deskC G.2 a v0 ++ deskC G.2 b w) sz) := by
  refine Met.ofW (cc := cX0_copyFrom) (maxL := 2) (ret := none) (by decide) rfl ?_
  intro p e s m args below meth c s₁ B hml hv
  obtain ⟨rfl, hsz, hP, hD0, hamb⟩ := hv
  have hx := B.exec
  have hb := B.bytes
  have hr := B.returns
  have hts := atoms_spec (ws := wsX0_copyFrom) B.pre
  have hown : s.vm.findClass RX0 = some m.cls := findClass_of_methodNamed B.named
  have hlocks := B.notSynchronized
  have hK := hamb.1
  subst hsz
  have hD := hD0.self (sz := s.heap.size)
  generalize hAe : va_A (deskC G.2 a v0 ++ deskC G.2 b w) s.heap.size = A at hD ⊢
  have hA : ∀ q : Nat, s.heap.size ≤ q → A q := fun q h => by rw [← hAe]; exact Or.inr h
  have hS : va_S A s.heap s.heap [] := va_S.rf
  obtain ⟨res, hf0⟩ : ∃ res, f_X0_copyFrom v0 w = res := ⟨_, rfl⟩
  have hne : res ≠ none := hf0 ▸ hne
  have hf := hf0
  rw [f_X0_copyFrom] at hf
  have hinX0 : ∀ w ∈ u_ws RX0 TX0 4, w ∈ wsX0_copyFrom := by decide +kernel
  have lk9 := hts (.fieldLink RX0 9 "MoodDrawers$Desk" "settings" "[I") (by decide +kernel)
  have lw1 := hts (.initialized RX6) (by decide +kernel)
  have lw2 := hts (.static yX6_copy) (by decide +kernel)
  have lk33 := hts (.fieldLink RX0 33 "MoodDrawers$Desk" "now" "I") (by decide +kernel)
  have lk18 := hts (.fieldLink RX0 18 "MoodDrawers$Desk" "drawers" "LMoodDrawers$Drawers;") (by decide +kernel)
  have lk25 := hts (.fieldLink RX0 25 "MoodDrawers$Desk" "letters" "LMoodDrawers$Letters;") (by decide +kernel)
  have hl := lv_entry ([.ref (a 0), .ref (b 0)]) (n := 2) (Nat.le_of_ble_eq_true rfl)
  rw [lg_entry_eq]
  generalize (lg_sl ([.ref (a 0), .ref (b 0)]) ++ List.replicate (2 - (lg_sl ([.ref (a 0), .ref (b 0)])).length) Slot.unset).toArray = ls at hl ⊢
  have hl : lv_has ls 2 [(0, .ref (a 0)), (1, .ref (b 0))] := hl
  refine lv_aload_n hx hb dX0_copyFrom_0 rfl (lv_at hl 1 rfl) ?_
  refine va_get (D := G.1) (ci := 0) (v := .ref (b 1)) (C := RX0) (T := TX0) (N := 4) hx hb hts hinX0 hown hK hP 15 rfl rfl 0 (by decide) lk9 (fun _ h9 => h9) rfl dX0_copyFrom_1 ?_
  refine lv_aload_n hx hb dX0_copyFrom_4 rfl (lv_at hl 0 rfl) ?_
  refine va_get (D := G.1) (ci := 0) (v := .ref (a 1)) (C := RX0) (T := TX0) (N := 4) hx hb hts hinX0 hown hK hP 0 rfl rfl 0 (by decide) lk9 (fun _ h9 => h9) rfl dX0_copyFrom_5 ?_
  refine cwv (va_runSN (As := [.ref (b 1), .ref (a 1)]) (rest := []) ⟨hx, hb, hml, hown, hts⟩ (ok_X6_copy l G (b 1) (a 1) 3 (w 2) (v0 2) s.heap.size (by decide)) ⟨va_cnB 2 hts gX0_copyFrom_X6_copy_n29 rfl rfl rfl (hamb.2.1 (.methodLinkNest RX0 29 yX6_copy RX6) (List.mem_of_getElem? (i := 7) rfl)) lw1 (by decide +kernel) ⟨Nat.le_of_ble_eq_true rfl, Nat.le_of_ble_eq_true rfl⟩, lw2, trivial⟩ ⟨pcW_blind, pcW_pre (hP.sub (ws' := [(b 1, .inl (G.2 0, 3, .inl (w 2))), (a 1, .inl (G.2 0, 3, .inl (v0 2)))]) [16, 1] rfl) (hD.sub (ws' := [(b 1, .inl (G.2 0, 3, .inl (w 2))), (a 1, .inl (G.2 0, 3, .inl (v0 2)))]) [16, 1] (by decide) rfl) hamb⟩ rfl rfl hl.1 rfl (lv_room (Nat.le_of_ble_eq_true rfl)) dX0_copyFrom_8 ⟨Nat.zero_le _, Nat.zero_le _⟩) (wr := [(a 0, .inr (0, [.ref (a 1), .int (v0 0 0), .ref (a 2), .ref (a 7)])), (a 2, .inr (1, [.ref (a 3), .ref (a 4), .ref (a 5), .ref (a 6)])), (a 3, .inl (G.2 0, 6, .inl (v0 3))), (a 4, .inl (G.2 0, 6, .inl (v0 4))), (a 5, .inl (G.2 0, 6, .inl (v0 5))), (a 6, .inl (G.2 0, 6, .inl (v0 6))), (a 7, .inr (3, [.int (v0 1 0), .ref (a 8), .ref (a 9), .ref (a 10), .ref (a 11), .ref (a 12), .ref (a 13), .ref (a 14)])), (a 8, .inl (G.2 0, 30, .inl (v0 7))), (a 9, .inl (G.2 0, 30, .inl (v0 8))), (a 10, .inl (G.2 0, 30, .inl (v0 9))), (a 11, .inl (G.2 0, 30, .inl (v0 10))), (a 12, .inl (G.2 0, 30, .inl (v0 11))), (a 13, .inl (G.2 0, 30, .inl (v0 12))), (a 14, .inl (G.2 0, 30, .inl (v0 13))), (b 0, .inr (0, [.ref (b 1), .int (w 0 0), .ref (b 2), .ref (b 7)])), (b 2, .inr (1, [.ref (b 3), .ref (b 4), .ref (b 5), .ref (b 6)])), (b 3, .inl (G.2 0, 6, .inl (w 3))), (b 4, .inl (G.2 0, 6, .inl (w 4))), (b 5, .inl (G.2 0, 6, .inl (w 5))), (b 6, .inl (G.2 0, 6, .inl (w 6))), (b 7, .inr (3, [.int (w 1 0), .ref (b 8), .ref (b 9), .ref (b 10), .ref (b 11), .ref (b 12), .ref (b 13), .ref (b 14)])), (b 8, .inl (G.2 0, 30, .inl (w 7))), (b 9, .inl (G.2 0, 30, .inl (w 8))), (b 10, .inl (G.2 0, 30, .inl (w 9))), (b 11, .inl (G.2 0, 30, .inl (w 10))), (b 12, .inl (G.2 0, 30, .inl (w 11))), (b 13, .inl (G.2 0, 30, .inl (w 12))), (b 14, .inl (G.2 0, 30, .inl (w 13)))]) hP hD hS hA [16, 1] [0, 2, 3, 4, 5, 6, 7, 8, 9, 10, 11, 12, 13, 14, 15, 17, 18, 19, 20, 21, 22, 23, 24, 25, 26, 27, 28, 29] rfl rfl (by decide) (by decide) (fun _ H locs _ hP hD hS => ?_)
  have hP : va_P G.1 vwCl (deskC G.2 a (vs v0 2 (va_cpy (w 2) (v0 2) 0 0 3)) ++ deskC G.2 b w) H := hP.sub [0, 29, 1, 2, 3, 4, 5, 6, 7, 8, 9, 10, 11, 12, 13, 14, 28, 15, 16, 17, 18, 19, 20, 21, 22, 23, 24, 25, 26, 27] rfl
  have hD : va_D A (deskC G.2 a (vs v0 2 (va_cpy (w 2) (v0 2) 0 0 3)) ++ deskC G.2 b w) := hD.sub [0, 29, 1, 2, 3, 4, 5, 6, 7, 8, 9, 10, 11, 12, 13, 14, 28, 15, 16, 17, 18, 19, 20, 21, 22, 23, 24, 25, 26, 27] (by decide) rfl
  refine lv_aload_n hx hb dX0_copyFrom_11 rfl (lv_at hl 0 rfl) ?_
  refine lv_aload_n hx hb dX0_copyFrom_12 rfl (lv_at hl 1 rfl) ?_
  refine va_get (D := G.1) (ci := 0) (v := .int (w 0 0)) (C := RX0) (T := TX0) (N := 4) hx hb hts hinX0 hown hK hP 15 rfl rfl 1 (by decide) lk33 (fun _ h9 => h9) rfl dX0_copyFrom_13 ?_
  refine va_put (D := G.1) (ci := 0) (v := .int (w 0 0)) (ty := .int) (C := RX0) (T := TX0) (N := 4) hx hb hts hinX0 tyX0 tyX0_ok nmX0 hown hK hP hD hS 0 rfl rfl 1 (by decide) lk33 (fun _ h9 => h9) rfl (by decide +kernel) rfl rfl (Nat.le_of_ble_eq_true rfl) dX0_copyFrom_16 (fun H locs hP hD hS => ?_)
  have hP : va_P G.1 vwCl (deskC G.2 a (vs (vs v0 2 (va_cpy (w 2) (v0 2) 0 0 3)) 0 (fun _ => (w 0 0))) ++ deskC G.2 b w) H := hP
  have hD : va_D A (deskC G.2 a (vs (vs v0 2 (va_cpy (w 2) (v0 2) 0 0 3)) 0 (fun _ => (w 0 0))) ++ deskC G.2 b w) := hD
  refine lv_aload_n hx hb dX0_copyFrom_19 rfl (lv_at hl 0 rfl) ?_
  refine va_get (D := G.1) (ci := 0) (v := .ref (a 2)) (C := RX0) (T := TX0) (N := 4) hx hb hts hinX0 hown hK hP 0 rfl rfl 2 (by decide) lk18 (fun _ h9 => h9) rfl dX0_copyFrom_20 ?_
  refine lv_aload_n hx hb dX0_copyFrom_23 rfl (lv_at hl 1 rfl) ?_
  refine va_get (D := G.1) (ci := 0) (v := .ref (b 2)) (C := RX0) (T := TX0) (N := 4) hx hb hts hinX0 hown hK hP 15 rfl rfl 2 (by decide) lk18 (fun _ h9 => h9) rfl dX0_copyFrom_24 ?_
  have hn := bd1_1 hf hne
  refine cwv (va_runV (As := [.ref (b 2)]) (rest := []) ⟨hx, hb, hml, hown, hts⟩ (ok_X1_copyFrom l G a b H.size (vs (vs v0 2 (va_cpy (w 2) (v0 2) 0 0 3)) 0 (fun _ => (w 0 0))) w hn) (cwV 1 hts gX0_copyFrom_X1_copyFrom rfl rfl rfl (by decide +kernel) ⟨Nat.le_of_ble_eq_true rfl, Nat.le_of_ble_eq_true rfl⟩) ⟨pcW_blind, va_recv hK (hP.sub (ws' := (drawersC G.2 a (vs (vs v0 2 (va_cpy (w 2) (v0 2) 0 0 3)) 0 (fun _ => (w 0 0))) ++ drawersC G.2 b w)) [2, 3, 4, 5, 6, 17, 18, 19, 20, 21] rfl) (ci := 1) (q0 := 0) rfl rfl, pcW_pre (hP.sub (ws' := (drawersC G.2 a (vs (vs v0 2 (va_cpy (w 2) (v0 2) 0 0 3)) 0 (fun _ => (w 0 0))) ++ drawersC G.2 b w)) [2, 3, 4, 5, 6, 17, 18, 19, 20, 21] rfl) (hD.sub (ws' := (drawersC G.2 a (vs (vs v0 2 (va_cpy (w 2) (v0 2) 0 0 3)) 0 (fun _ => (w 0 0))) ++ drawersC G.2 b w)) [2, 3, 4, 5, 6, 17, 18, 19, 20, 21] (by decide) rfl) hamb⟩ rfl rfl hl.1 rfl (lv_room (Nat.le_of_ble_eq_true rfl)) dX0_copyFrom_27 ⟨Nat.zero_le _, Nat.zero_le _⟩) (wr := [(a 0, .inr (0, [.ref (a 1), .int ((vs (vs v0 2 (va_cpy (w 2) (v0 2) 0 0 3)) 0 (fun _ => (w 0 0))) 0 0), .ref (a 2), .ref (a 7)])), (a 1, .inl (G.2 0, 3, .inl ((vs (vs v0 2 (va_cpy (w 2) (v0 2) 0 0 3)) 0 (fun _ => (w 0 0))) 2))), (a 7, .inr (3, [.int ((vs (vs v0 2 (va_cpy (w 2) (v0 2) 0 0 3)) 0 (fun _ => (w 0 0))) 1 0), .ref (a 8), .ref (a 9), .ref (a 10), .ref (a 11), .ref (a 12), .ref (a 13), .ref (a 14)])), (a 8, .inl (G.2 0, 30, .inl ((vs (vs v0 2 (va_cpy (w 2) (v0 2) 0 0 3)) 0 (fun _ => (w 0 0))) 7))), (a 9, .inl (G.2 0, 30, .inl ((vs (vs v0 2 (va_cpy (w 2) (v0 2) 0 0 3)) 0 (fun _ => (w 0 0))) 8))), (a 10, .inl (G.2 0, 30, .inl ((vs (vs v0 2 (va_cpy (w 2) (v0 2) 0 0 3)) 0 (fun _ => (w 0 0))) 9))), (a 11, .inl (G.2 0, 30, .inl ((vs (vs v0 2 (va_cpy (w 2) (v0 2) 0 0 3)) 0 (fun _ => (w 0 0))) 10))), (a 12, .inl (G.2 0, 30, .inl ((vs (vs v0 2 (va_cpy (w 2) (v0 2) 0 0 3)) 0 (fun _ => (w 0 0))) 11))), (a 13, .inl (G.2 0, 30, .inl ((vs (vs v0 2 (va_cpy (w 2) (v0 2) 0 0 3)) 0 (fun _ => (w 0 0))) 12))), (a 14, .inl (G.2 0, 30, .inl ((vs (vs v0 2 (va_cpy (w 2) (v0 2) 0 0 3)) 0 (fun _ => (w 0 0))) 13))), (b 0, .inr (0, [.ref (b 1), .int (w 0 0), .ref (b 2), .ref (b 7)])), (b 1, .inl (G.2 0, 3, .inl (w 2))), (b 7, .inr (3, [.int (w 1 0), .ref (b 8), .ref (b 9), .ref (b 10), .ref (b 11), .ref (b 12), .ref (b 13), .ref (b 14)])), (b 8, .inl (G.2 0, 30, .inl (w 7))), (b 9, .inl (G.2 0, 30, .inl (w 8))), (b 10, .inl (G.2 0, 30, .inl (w 9))), (b 11, .inl (G.2 0, 30, .inl (w 10))), (b 12, .inl (G.2 0, 30, .inl (w 11))), (b 13, .inl (G.2 0, 30, .inl (w 12))), (b 14, .inl (G.2 0, 30, .inl (w 13)))]) hP hD hS hA [2, 3, 4, 5, 6, 17, 18, 19, 20, 21] [0, 1, 7, 8, 9, 10, 11, 12, 13, 14, 15, 16, 22, 23, 24, 25, 26, 27, 28, 29] rfl rfl (by decide) (by decide) (fun v27 H locs hw hP hD hS => ?_)
  have hf := bd1_2 hf hw
  have hP : va_P G.1 vwCl (deskC G.2 a (mx [3, 4, 5, 6] (vs (vs v0 2 (va_cpy (w 2) (v0 2) 0 0 3)) 0 (fun _ => (w 0 0))) v27) ++ deskC G.2 b w) H := hP.sub [0, 1, 20, 21, 22, 23, 24, 2, 3, 4, 5, 6, 7, 8, 9, 10, 11, 25, 26, 27, 28, 29, 12, 13, 14, 15, 16, 17, 18, 19] rfl
  have hD : va_D A (deskC G.2 a (mx [3, 4, 5, 6] (vs (vs v0 2 (va_cpy (w 2) (v0 2) 0 0 3)) 0 (fun _ => (w 0 0))) v27) ++ deskC G.2 b w) := hD.sub [0, 1, 20, 21, 22, 23, 24, 2, 3, 4, 5, 6, 7, 8, 9, 10, 11, 25, 26, 27, 28, 29, 12, 13, 14, 15, 16, 17, 18, 19] (by decide) rfl
  refine lv_aload_n hx hb dX0_copyFrom_30 rfl (lv_at hl 0 rfl) ?_
  refine va_get (D := G.1) (ci := 0) (v := .ref (a 7)) (C := RX0) (T := TX0) (N := 4) hx hb hts hinX0 hown hK hP 0 rfl rfl 3 (by decide) lk25 (fun _ h9 => h9) rfl dX0_copyFrom_31 ?_
  refine lv_aload_n hx hb dX0_copyFrom_34 rfl (lv_at hl 1 rfl) ?_
  refine va_get (D := G.1) (ci := 0) (v := .ref (b 7)) (C := RX0) (T := TX0) (N := 4) hx hb hts hinX0 hown hK hP 15 rfl rfl 3 (by decide) lk25 (fun _ h9 => h9) rfl dX0_copyFrom_35 ?_
  have hn := bd1_1 hf hne
  refine cwv (va_runV (As := [.ref (b 7)]) (rest := []) ⟨hx, hb, hml, hown, hts⟩ (ok_X3_copyFrom l G a b H.size (mx [3, 4, 5, 6] (vs (vs v0 2 (va_cpy (w 2) (v0 2) 0 0 3)) 0 (fun _ => (w 0 0))) v27) w hn) (cwV 1 hts gX0_copyFrom_X3_copyFrom rfl rfl rfl (by decide +kernel) ⟨Nat.le_of_ble_eq_true rfl, Nat.le_of_ble_eq_true rfl⟩) ⟨pcW_blind, va_recv hK (hP.sub (ws' := (lettersC G.2 a (mx [3, 4, 5, 6] (vs (vs v0 2 (va_cpy (w 2) (v0 2) 0 0 3)) 0 (fun _ => (w 0 0))) v27) ++ lettersC G.2 b w)) [7, 8, 9, 10, 11, 12, 13, 14, 22, 23, 24, 25, 26, 27, 28, 29] rfl) (ci := 3) (q0 := 0) rfl rfl, pcW_pre (hP.sub (ws' := (lettersC G.2 a (mx [3, 4, 5, 6] (vs (vs v0 2 (va_cpy (w 2) (v0 2) 0 0 3)) 0 (fun _ => (w 0 0))) v27) ++ lettersC G.2 b w)) [7, 8, 9, 10, 11, 12, 13, 14, 22, 23, 24, 25, 26, 27, 28, 29] rfl) (hD.sub (ws' := (lettersC G.2 a (mx [3, 4, 5, 6] (vs (vs v0 2 (va_cpy (w 2) (v0 2) 0 0 3)) 0 (fun _ => (w 0 0))) v27) ++ lettersC G.2 b w)) [7, 8, 9, 10, 11, 12, 13, 14, 22, 23, 24, 25, 26, 27, 28, 29] (by decide) rfl) hamb⟩ rfl rfl hl.1 rfl (lv_room (Nat.le_of_ble_eq_true rfl)) dX0_copyFrom_38 ⟨Nat.zero_le _, Nat.zero_le _⟩) (wr := [(a 0, .inr (0, [.ref (a 1), .int ((mx [3, 4, 5, 6] (vs (vs v0 2 (va_cpy (w 2) (v0 2) 0 0 3)) 0 (fun _ => (w 0 0))) v27) 0 0), .ref (a 2), .ref (a 7)])), (a 1, .inl (G.2 0, 3, .inl ((mx [3, 4, 5, 6] (vs (vs v0 2 (va_cpy (w 2) (v0 2) 0 0 3)) 0 (fun _ => (w 0 0))) v27) 2))), (a 2, .inr (1, [.ref (a 3), .ref (a 4), .ref (a 5), .ref (a 6)])), (a 3, .inl (G.2 0, 6, .inl ((mx [3, 4, 5, 6] (vs (vs v0 2 (va_cpy (w 2) (v0 2) 0 0 3)) 0 (fun _ => (w 0 0))) v27) 3))), (a 4, .inl (G.2 0, 6, .inl ((mx [3, 4, 5, 6] (vs (vs v0 2 (va_cpy (w 2) (v0 2) 0 0 3)) 0 (fun _ => (w 0 0))) v27) 4))), (a 5, .inl (G.2 0, 6, .inl ((mx [3, 4, 5, 6] (vs (vs v0 2 (va_cpy (w 2) (v0 2) 0 0 3)) 0 (fun _ => (w 0 0))) v27) 5))), (a 6, .inl (G.2 0, 6, .inl ((mx [3, 4, 5, 6] (vs (vs v0 2 (va_cpy (w 2) (v0 2) 0 0 3)) 0 (fun _ => (w 0 0))) v27) 6))), (b 0, .inr (0, [.ref (b 1), .int (w 0 0), .ref (b 2), .ref (b 7)])), (b 1, .inl (G.2 0, 3, .inl (w 2))), (b 2, .inr (1, [.ref (b 3), .ref (b 4), .ref (b 5), .ref (b 6)])), (b 3, .inl (G.2 0, 6, .inl (w 3))), (b 4, .inl (G.2 0, 6, .inl (w 4))), (b 5, .inl (G.2 0, 6, .inl (w 5))), (b 6, .inl (G.2 0, 6, .inl (w 6)))]) hP hD hS hA [7, 8, 9, 10, 11, 12, 13, 14, 22, 23, 24, 25, 26, 27, 28, 29] [0, 1, 2, 3, 4, 5, 6, 15, 16, 17, 18, 19, 20, 21] rfl rfl (by decide) (by decide) (fun v38 H locs hw hP hD hS => ?_)
  have hf := bd1_2 hf hw
  have hP : va_P G.1 vwCl (deskC G.2 a (mx [1, 7, 8, 9, 10, 11, 12, 13] (mx [3, 4, 5, 6] (vs (vs v0 2 (va_cpy (w 2) (v0 2) 0 0 3)) 0 (fun _ => (w 0 0))) v27) v38) ++ deskC G.2 b w) H := hP.sub [0, 1, 2, 3, 4, 5, 6, 14, 15, 16, 17, 18, 19, 20, 21, 7, 8, 9, 10, 11, 12, 13, 22, 23, 24, 25, 26, 27, 28, 29] rfl
  have hD : va_D A (deskC G.2 a (mx [1, 7, 8, 9, 10, 11, 12, 13] (mx [3, 4, 5, 6] (vs (vs v0 2 (va_cpy (w 2) (v0 2) 0 0 3)) 0 (fun _ => (w 0 0))) v27) v38) ++ deskC G.2 b w) := hD.sub [0, 1, 2, 3, 4, 5, 6, 14, 15, 16, 17, 18, 19, 20, 21, 7, 8, 9, 10, 11, 12, 13, 22, 23, 24, 25, 26, 27, 28, 29] (by decide) rfl
  exact W.vret hx hb hr (fun t ht hW => ⟨⟨(mx [1, 7, 8, 9, 10, 11, 12, 13] (mx [3, 4, 5, 6] (vs (vs v0 2 (va_cpy (w 2) (v0 2) 0 0 3)) 0 (fun _ => (w 0 0))) v27) v38), rfl, hf0.trans hf.symm, by rw [ht]; exact hP, hD⟩, hS.F ht⟩) hS.2.2 dX0_copyFrom_41
set_option maxHeartbeats 4000000 in
set_option maxRecDepth 100000 in
theorem ok_X0_today (l : Launch) (G : Gt) (a : Nat → Nat) (v0 : DV) : Met l yX0_today wsX0_today ({ frames := 0, cells := 0, slots := 0, locals := 0 } : Room) (pcR G [.ref (a 0)] (deskC G.2 a v0)) (vp_Si (fun r => r = f_X0_today v0)) 0 0 (fun _ => False) := by
  refine Met.ofW (cc := cX0_today) (maxL := 1) (ret := (some .int)) (by decide) rfl ?_
  intro p e s m args below meth c s₁ B hml hv
  obtain ⟨rfl, hP, hamb⟩ := hv
  have hx := B.exec
  have hb := B.bytes
  have hr := B.returns
  have hts := atoms_spec (ws := wsX0_today) B.pre
  have hown : s.vm.findClass RX0 = some m.cls := findClass_of_methodNamed B.named
  have hlocks := B.notSynchronized
  have hK := hamb.1
  obtain ⟨res, hf0⟩ : ∃ res, f_X0_today v0 = res := ⟨_, rfl⟩
  have hf := hf0
  rw [f_X0_today] at hf
  have hinX0 : ∀ w ∈ u_ws RX0 TX0 4, w ∈ wsX0_today := by decide +kernel
  have lk33 := hts (.fieldLink RX0 33 "MoodDrawers$Desk" "now" "I") (by decide +kernel)
  have hl := lv_entry ([.ref (a 0)]) (n := 1) (Nat.le_of_ble_eq_true rfl)
  rw [lg_entry_eq]
  generalize (lg_sl ([.ref (a 0)]) ++ List.replicate (1 - (lg_sl ([.ref (a 0)])).length) Slot.unset).toArray = ls at hl ⊢
  have hl : lv_has ls 1 [(0, .ref (a 0))] := hl
  refine lv_aload_n hx hb dX0_today_0 rfl (lv_at hl 0 rfl) ?_
  refine va_get (D := G.1) (ci := 0) (v := .int (v0 0 0)) (C := RX0) (T := TX0) (N := 4) hx hb hts hinX0 hown hK hP 0 rfl rfl 1 (by decide) lk33 (fun _ h9 => h9) rfl dX0_today_1 ?_
  refine lv_bipush (v := 24) hx hb dX0_today_4 (by decide) ?_
  refine lv_idiv hx hb dX0_today_6 (by decide) ?_
  exact W.iret (v := ((v0 0 0) / 24)) hx hb hr (fun t ht hW => ⟨((v0 0 0) / 24), rfl, hf.trans hf0.symm, ht⟩) (fun _ hq => absurd hq List.not_mem_nil) dX0_today_7
set_option maxHeartbeats 4000000 in
set_option maxRecDepth 100000 in
theorem ok_X0_hourOfDay (l : Launch) (G : Gt) (a : Nat → Nat) (v0 : DV) : Met l yX0_hourOfDay wsX0_hourOfDay ({ frames := 0, cells := 0, slots := 0, locals := 0 } : Room) (pcR G [.ref (a 0)] (deskC G.2 a v0)) (vp_Si (fun r => r = f_X0_hourOfDay v0)) 0 0 (fun _ => False) := by
  refine Met.ofW (cc := cX0_hourOfDay) (maxL := 1) (ret := (some .int)) (by decide) rfl ?_
  intro p e s m args below meth c s₁ B hml hv
  obtain ⟨rfl, hP, hamb⟩ := hv
  have hx := B.exec
  have hb := B.bytes
  have hr := B.returns
  have hts := atoms_spec (ws := wsX0_hourOfDay) B.pre
  have hown : s.vm.findClass RX0 = some m.cls := findClass_of_methodNamed B.named
  have hlocks := B.notSynchronized
  have hK := hamb.1
  obtain ⟨res, hf0⟩ : ∃ res, f_X0_hourOfDay v0 = res := ⟨_, rfl⟩
  have hf := hf0
  rw [f_X0_hourOfDay] at hf
  have hinX0 : ∀ w ∈ u_ws RX0 TX0 4, w ∈ wsX0_hourOfDay := by decide +kernel
  have lk33 := hts (.fieldLink RX0 33 "MoodDrawers$Desk" "now" "I") (by decide +kernel)
  have hl := lv_entry ([.ref (a 0)]) (n := 1) (Nat.le_of_ble_eq_true rfl)
  rw [lg_entry_eq]
  generalize (lg_sl ([.ref (a 0)]) ++ List.replicate (1 - (lg_sl ([.ref (a 0)])).length) Slot.unset).toArray = ls at hl ⊢
  have hl : lv_has ls 1 [(0, .ref (a 0))] := hl
  refine lv_aload_n hx hb dX0_hourOfDay_0 rfl (lv_at hl 0 rfl) ?_
  refine va_get (D := G.1) (ci := 0) (v := .int (v0 0 0)) (C := RX0) (T := TX0) (N := 4) hx hb hts hinX0 hown hK hP 0 rfl rfl 1 (by decide) lk33 (fun _ h9 => h9) rfl dX0_hourOfDay_1 ?_
  refine lv_bipush (v := 24) hx hb dX0_hourOfDay_4 (by decide) ?_
  refine lv_irem hx hb dX0_hourOfDay_6 (by decide) ?_
  exact W.iret (v := ((v0 0 0) - (v0 0 0) / 24 * 24)) hx hb hr (fun t ht hW => ⟨((v0 0 0) - (v0 0 0) / 24 * 24), rfl, hf.trans hf0.symm, ht⟩) (fun _ hq => absurd hq List.not_mem_nil) dX0_hourOfDay_7
set_option maxHeartbeats 4000000 in
set_option maxRecDepth 100000 in
theorem ok_X0_changeSetting (l : Launch) (G : Gt) (a : Nat → Nat) (sz : Nat) (v0 : DV) (p1 : Int32) (p2 : Int32) (hne : f_X0_changeSetting v0 p1 p2 ≠ none) : Met l yX0_changeSetting wsX0_changeSetting ({ frames := 0, cells := 0, slots := 0, locals := 0 } : Room) (pcH G [.ref (a 0), .int p1, .int p2] (deskC G.2 a v0) sz) (va_Qi (fun r (u : DV) => f_X0_changeSetting v0 p1 p2 = some (r, u)) (fun u t => atW G (deskC G.2 a u) (va_A (deskC G.2 a v0) sz) t) (va_A (deskC G.2 a v0) sz)) 0 0 (va_A (deskC G.2 a v0) sz) := by
  refine Met.ofW (cc := cX0_changeSetting) (maxL := 4) (ret := (some .int)) (by decide) rfl ?_
  intro p e s m args below meth c s₁ B hml hv
  obtain ⟨rfl, hsz, hP, hD0, hamb, hHS⟩ := hv
  have hx := B.exec
  have hb := B.bytes
  have hr := B.returns
  have hts := atoms_spec (ws := wsX0_changeSetting) B.pre
  have hown : s.vm.findClass RX0 = some m.cls := findClass_of_methodNamed B.named
  have hlocks := B.notSynchronized
  have hK := hamb.1
  subst hsz
  have hD := hD0.self (sz := s.heap.size)
  generalize hAe : va_A (deskC G.2 a v0) s.heap.size = A at hD hHS ⊢
  have hA : ∀ q : Nat, s.heap.size ≤ q → A q := fun q h => by rw [← hAe]; exact Or.inr h
  have hS : va_S A s.heap s.heap [] := va_S.rf
  obtain ⟨hnl, th, hZ, hT⟩ := hHS
  obtain ⟨res, hf0⟩ : ∃ res, f_X0_changeSetting v0 p1 p2 = res := ⟨_, rfl⟩
  have hne : res ≠ none := hf0 ▸ hne
  have hf := hf0
  rw [f_X0_changeSetting] at hf
  have hinX0 : ∀ w ∈ u_ws RX0 TX0 4, w ∈ wsX0_changeSetting := by decide +kernel
  have lk9 := hts (.fieldLink RX0 9 "MoodDrawers$Desk" "settings" "[I") (by decide +kernel)
  have hl := lv_entry ([.ref (a 0), .int p1, .int p2]) (n := 4) (Nat.le_of_ble_eq_true rfl)
  rw [lg_entry_eq]
  generalize (lg_sl ([.ref (a 0), .int p1, .int p2]) ++ List.replicate (4 - (lg_sl ([.ref (a 0), .int p1, .int p2])).length) Slot.unset).toArray = ls at hl ⊢
  have hl : lv_has ls 4 [(0, .ref (a 0)), (1, .int p1), (2, .int p2)] := hl
  refine lv_iload_n hx hb dX0_changeSetting_0 rfl (lv_at hl 1 rfl) ?_
  refine lv_if_lt (tgt := 22) hx hb dX0_changeSetting_1 (by decide) (fun c => ?_) (fun c => ?_)
  · have hf := it_1 hf c
    refine lv_bipush (v := (-2)) hx hb dX0_changeSetting_22 (by decide) ?_
    exact W.iret (v := (-2)) hx hb hr (fun t ht hW => ⟨⟨(-2), v0, rfl, hf0.trans hf.symm, by rw [ht]; exact hP, hD⟩, hS.F ht⟩) hS.2.2 dX0_changeSetting_24
  · have hf := it_2 hf c
    refine lv_iload_n hx hb dX0_changeSetting_4 rfl (lv_at hl 1 rfl) ?_
    refine lv_iconst (v := 2) hx hb dX0_changeSetting_5 (by decide) ?_
    refine lv_icmp_gt (tgt := 22) hx hb dX0_changeSetting_6 (by decide) (fun c => ?_) (fun c => ?_)
    · have hf := it_1 hf c
      refine lv_bipush (v := (-2)) hx hb dX0_changeSetting_22 (by decide) ?_
      exact W.iret (v := (-2)) hx hb hr (fun t ht hW => ⟨⟨(-2), v0, rfl, hf0.trans hf.symm, by rw [ht]; exact hP, hD⟩, hS.F ht⟩) hS.2.2 dX0_changeSetting_24
    · have hf := it_2 hf c
      refine lv_iload_n hx hb dX0_changeSetting_9 rfl (lv_at hl 2 rfl) ?_
      refine lv_if_lt (tgt := 22) hx hb dX0_changeSetting_10 (by decide) (fun c => ?_) (fun c => ?_)
      · have hf := it_1 hf c
        refine lv_bipush (v := (-2)) hx hb dX0_changeSetting_22 (by decide) ?_
        exact W.iret (v := (-2)) hx hb hr (fun t ht hW => ⟨⟨(-2), v0, rfl, hf0.trans hf.symm, by rw [ht]; exact hP, hD⟩, hS.F ht⟩) hS.2.2 dX0_changeSetting_24
      · have hf := it_2 hf c
        refine lv_iload_n hx hb dX0_changeSetting_13 rfl (lv_at hl 2 rfl) ?_
        refine va_getsN hx hb hZ hS hown (va_Nw.use rfl hnl) (fun _ h9 => h9) dX0_changeSetting_14 ?_
        refine lv_iload_n hx hb dX0_changeSetting_17 rfl (lv_at hl 1 rfl) ?_
        obtain ⟨hi, hf⟩ := ck_1 hf hne
        refine va_ti (v := .int (hsF (Int32.toNatClampNeg p1))) hx hb hT hS (ixb_1 hi) rfl dX0_changeSetting_18 ?_
        refine lv_icmp_le (tgt := 25) hx hb dX0_changeSetting_19 (by decide) (fun c => ?_) (fun c => ?_)
        · have hf := it_1 hf c
          refine lv_aload_n hx hb dX0_changeSetting_25 rfl (lv_at hl 0 rfl) ?_
          refine va_get (D := G.1) (ci := 0) (v := .ref (a 1)) (C := RX0) (T := TX0) (N := 4) hx hb hts hinX0 hown hK hP 0 rfl rfl 0 (by decide) lk9 (fun _ h9 => h9) rfl dX0_changeSetting_26 ?_
          refine lv_iload_n hx hb dX0_changeSetting_29 rfl (lv_at hl 1 rfl) ?_
          obtain ⟨hi, hf⟩ := ck_1 hf hne
          refine va_iald (f := (v0 2)) hx hb hK hP 1 0 rfl rfl (ixb_1 hi) dX0_changeSetting_30 ?_
          refine lv_istore_n (lv' := [(3, .int ((v0 2) (Int32.toNatClampNeg p1))), (0, .ref (a 0)), (1, .int p1), (2, .int p2)]) hx hb dX0_changeSetting_31 rfl hl (by decide) rfl (fun ls hl => ?_)
          refine lv_aload_n hx hb dX0_changeSetting_32 rfl (lv_at hl 1 rfl) ?_
          refine va_get (D := G.1) (ci := 0) (v := .ref (a 1)) (C := RX0) (T := TX0) (N := 4) hx hb hts hinX0 hown hK hP 0 rfl rfl 0 (by decide) lk9 (fun _ h9 => h9) rfl dX0_changeSetting_33 ?_
          refine lv_iload_n hx hb dX0_changeSetting_36 rfl (lv_at hl 2 rfl) ?_
          refine lv_iload_n hx hb dX0_changeSetting_37 rfl (lv_at hl 3 rfl) ?_
          obtain ⟨hi, hf⟩ := ck_1 hf hne
          refine va_iast (f := (v0 2)) hx hb hK hP hD hS 1 0 rfl rfl (ixb_1 hi) dX0_changeSetting_38 (fun H locs hP hD hS => ?_)
          have hP : va_P G.1 vwCl (deskC G.2 a (vs v0 2 (upd (v0 2) (Int32.toNatClampNeg p1) p2))) H := hP
          have hD : va_D A (deskC G.2 a (vs v0 2 (upd (v0 2) (Int32.toNatClampNeg p1) p2))) := hD
          refine lv_iload_n hx hb dX0_changeSetting_39 rfl (lv_at hl 0 rfl) ?_
          exact W.iret (v := ((v0 2) (Int32.toNatClampNeg p1))) hx hb hr (fun t ht hW => ⟨⟨((v0 2) (Int32.toNatClampNeg p1)), (vs v0 2 (upd (v0 2) (Int32.toNatClampNeg p1) p2)), rfl, hf0.trans hf.symm, by rw [ht]; exact hP, hD⟩, hS.F ht⟩) hS.2.2 dX0_changeSetting_40
        · have hf := it_2 hf c
          refine lv_bipush (v := (-2)) hx hb dX0_changeSetting_22 (by decide) ?_
          exact W.iret (v := (-2)) hx hb hr (fun t ht hW => ⟨⟨(-2), v0, rfl, hf0.trans hf.symm, by rw [ht]; exact hP, hD⟩, hS.F ht⟩) hS.2.2 dX0_changeSetting_24
set_option maxHeartbeats 4000000 in
set_option maxRecDepth 100000 in
theorem ok_X0_writeLetter (l : Launch) (G : Gt) (a : Nat → Nat) (sz : Nat) (n0 : Nat) (v0 : DV) (p1 : Int32) (p2 : Int32) (p3 : Int32) (hne : f_X0_writeLetter n0 v0 p1 p2 p3 ≠ none) : Met l yX0_writeLetter wsX0_writeLetter ({ frames := 1, cells := 0, slots := 0, locals := 24 } : Room) (pcW G [.ref (a 0), .int p1, .int p2, .int p3] (deskC G.2 a v0) sz) (va_Qi (fun r (u : DV) => f_X0_writeLetter n0 v0 p1 p2 p3 = some (r, u)) (fun u t => atW G (deskC G.2 a u) (va_A (deskC G.2 a v0) sz) t) (va_A (deskC G.2 a v0) sz)) 0 0 (va_A (deskC G.2 a v0) sz) := by
  refine Met.ofW (cc := cX0_writeLetter) (maxL := 5) (ret := (some .int)) (by decide) rfl ?_
  intro p e s m args below meth c s₁ B hml hv
  obtain ⟨rfl, hsz, hP, hD0, hamb⟩ := hv
  have hx := B.exec
  have hb := B.bytes
  have hr := B.returns
  have hts := atoms_spec (ws := wsX0_writeLetter) B.pre
  have hown : s.vm.findClass RX0 = some m.cls := findClass_of_methodNamed B.named
  have hlocks := B.notSynchronized
  have hK := hamb.1
  subst hsz
  have hD := hD0.self (sz := s.heap.size)
  generalize hAe : va_A (deskC G.2 a v0) s.heap.size = A at hD ⊢
  have hA : ∀ q : Nat, s.heap.size ≤ q → A q := fun q h => by rw [← hAe]; exact Or.inr h
  have hS : va_S A s.heap s.heap [] := va_S.rf
  obtain ⟨res, hf0⟩ : ∃ res, f_X0_writeLetter n0 v0 p1 p2 p3 = res := ⟨_, rfl⟩
  have hne : res ≠ none := hf0 ▸ hne
  have hf := hf0
  rw [f_X0_writeLetter] at hf
  have hinX0 : ∀ w ∈ u_ws RX0 TX0 4, w ∈ wsX0_writeLetter := by decide +kernel
  have hinX3 : ∀ w ∈ u_ws RX3 TX3 8, w ∈ wsX0_writeLetter := by decide +kernel
  have lw0 := hts (.initialized RX6) (by decide +kernel)
  have lw1 := hts (.static yX6_isMood) (by decide +kernel)
  have lk25 := hts (.fieldLink RX0 25 "MoodDrawers$Desk" "letters" "LMoodDrawers$Letters;") (by decide +kernel)
  have lk54 := hts (.fieldLink RX0 54 "MoodDrawers$Letters" "written" "I") (by decide +kernel)
  have lk64 := hts (.fieldLink RX0 64 "MoodDrawers$Letters" "mood" "[I") (by decide +kernel)
  have lk67 := hts (.fieldLink RX0 67 "MoodDrawers$Letters" "heat" "[I") (by decide +kernel)
  have lk70 := hts (.fieldLink RX0 70 "MoodDrawers$Letters" "writtenOn" "[I") (by decide +kernel)
  have lk77 := hts (.fieldLink RX0 77 "MoodDrawers$Letters" "answered" "[I") (by decide +kernel)
  have lk61 := hts (.fieldLink RX0 61 "MoodDrawers$Letters" "how" "[I") (by decide +kernel)
  have lk80 := hts (.fieldLink RX0 80 "MoodDrawers$Letters" "sentOn" "[I") (by decide +kernel)
  have hl := lv_entry ([.ref (a 0), .int p1, .int p2, .int p3]) (n := 5) (Nat.le_of_ble_eq_true rfl)
  rw [lg_entry_eq]
  generalize (lg_sl ([.ref (a 0), .int p1, .int p2, .int p3]) ++ List.replicate (5 - (lg_sl ([.ref (a 0), .int p1, .int p2, .int p3])).length) Slot.unset).toArray = ls at hl ⊢
  have hl : lv_has ls 5 [(0, .ref (a 0)), (1, .int p1), (2, .int p2), (3, .int p3)] := hl
  have J94 : ∀ (n : Nat) (v : DV) (x1 : Int32) (x2 : Int32) (x3 : Int32) (x4 : Int32) (H : Heap) (locs : List Loc) (ls : Array Slot), va_P G.1 vwCl (deskC G.2 a v) H → va_D A (deskC G.2 a v) → va_S A s.heap H locs → lv_has ls 5 [(0, .ref (a 0)), (1, .int x1), (2, .int x2), (3, .int x3), (4, .int x4)] → f_X0_writeLetter_J94 n v x1 x2 x3 x4 = res → W p l e (headSpec wsX0_writeLetter ({ frames := 1, cells := 0, slots := 0, locals := 24 } : Room)).room s m ([.ref (a 0), .int p1, .int p2, .int p3] : List Value).toArray below meth c H locs 0 0 (MQ below (va_Qi (fun r (u : DV) => f_X0_writeLetter n0 v0 p1 p2 p3 = some (r, u)) (fun u t => atW G (deskC G.2 a u) A t) A) ([.ref (a 0), .int p1, .int p2, .int p3] : List Value).toArray s 0 0 A) (F0 m 94 ls []) := by
    intro n v x1 x2 x3 x4 H locs ls hP hD hS hl hf
    rw [f_X0_writeLetter_J94] at hf
    refine lv_aload_n hx hb dX0_writeLetter_94 rfl (lv_at hl 0 rfl) ?_
    refine va_get (D := G.1) (ci := 0) (v := .ref (a 7)) (C := RX0) (T := TX0) (N := 4) hx hb hts hinX0 hown hK hP 0 rfl rfl 3 (by decide) lk25 (fun _ h9 => h9) rfl dX0_writeLetter_95 ?_
    refine va_get (D := G.1) (ci := 3) (v := .ref (a 8)) (C := RX3) (T := TX3) (N := 8) hx hb hts hinX3 hown hK hP 7 rfl rfl 1 (by decide) lk64 (fun _ h9 => h9) rfl dX0_writeLetter_98 ?_
    refine lv_iload hx hb dX0_writeLetter_101 (lv_at hl 4 rfl) ?_
    refine lv_iload_n hx hb dX0_writeLetter_103 rfl (lv_at hl 1 rfl) ?_
    obtain ⟨hi, hf⟩ := ck_1 hf hne
    refine va_iast (f := (v 7)) hx hb hK hP hD hS 8 0 rfl rfl (ixb_1 hi) dX0_writeLetter_104 (fun H locs hP hD hS => ?_)
    have hP : va_P G.1 vwCl (deskC G.2 a (vs v 7 (upd (v 7) (Int32.toNatClampNeg x4) x1))) H := hP
    have hD : va_D A (deskC G.2 a (vs v 7 (upd (v 7) (Int32.toNatClampNeg x4) x1))) := hD
    refine lv_aload_n hx hb dX0_writeLetter_105 rfl (lv_at hl 0 rfl) ?_
    refine va_get (D := G.1) (ci := 0) (v := .ref (a 7)) (C := RX0) (T := TX0) (N := 4) hx hb hts hinX0 hown hK hP 0 rfl rfl 3 (by decide) lk25 (fun _ h9 => h9) rfl dX0_writeLetter_106 ?_
    refine va_get (D := G.1) (ci := 3) (v := .ref (a 9)) (C := RX3) (T := TX3) (N := 8) hx hb hts hinX3 hown hK hP 7 rfl rfl 2 (by decide) lk67 (fun _ h9 => h9) rfl dX0_writeLetter_109 ?_
    refine lv_iload hx hb dX0_writeLetter_112 (lv_at hl 4 rfl) ?_
    refine lv_iload_n hx hb dX0_writeLetter_114 rfl (lv_at hl 2 rfl) ?_
    obtain ⟨hi, hf⟩ := ck_1 hf hne
    refine va_iast (f := (v 8)) hx hb hK hP hD hS 9 0 rfl rfl (ixb_1 hi) dX0_writeLetter_115 (fun H locs hP hD hS => ?_)
    have hP : va_P G.1 vwCl (deskC G.2 a (vs (vs v 7 (upd (v 7) (Int32.toNatClampNeg x4) x1)) 8 (upd (v 8) (Int32.toNatClampNeg x4) x2))) H := hP
    have hD : va_D A (deskC G.2 a (vs (vs v 7 (upd (v 7) (Int32.toNatClampNeg x4) x1)) 8 (upd (v 8) (Int32.toNatClampNeg x4) x2))) := hD
    refine lv_aload_n hx hb dX0_writeLetter_116 rfl (lv_at hl 0 rfl) ?_
    refine va_get (D := G.1) (ci := 0) (v := .ref (a 7)) (C := RX0) (T := TX0) (N := 4) hx hb hts hinX0 hown hK hP 0 rfl rfl 3 (by decide) lk25 (fun _ h9 => h9) rfl dX0_writeLetter_117 ?_
    refine va_get (D := G.1) (ci := 3) (v := .ref (a 10)) (C := RX3) (T := TX3) (N := 8) hx hb hts hinX3 hown hK hP 7 rfl rfl 3 (by decide) lk70 (fun _ h9 => h9) rfl dX0_writeLetter_120 ?_
    refine lv_iload hx hb dX0_writeLetter_123 (lv_at hl 4 rfl) ?_
    refine lv_aload_n hx hb dX0_writeLetter_125 rfl (lv_at hl 0 rfl) ?_
    refine vp_callSi (W.runV (As := []) (rest := [.int x4, .ref (a 10)]) ⟨hx, hb, hml, hown, hts⟩ (ok_X0_today l G a (vs (vs v 7 (upd (v 7) (Int32.toNatClampNeg x4) x1)) 8 (upd (v 8) (Int32.toNatClampNeg x4) x2))) (cwV 0 hts gX0_writeLetter_X0_today rfl rfl rfl (by decide +kernel) ⟨Nat.le_of_ble_eq_true rfl, Nat.le_of_ble_eq_true rfl⟩) ⟨pcR_blind, va_recv hK hP (ci := 0) (q0 := 0) rfl rfl, pcR_pre hP hamb⟩ rfl rfl hl.1 rfl (lv_room (Nat.le_of_ble_eq_true rfl)) dX0_writeLetter_126 ⟨Nat.zero_le _, Nat.zero_le _⟩) (fun r126 hw => ?_)
    subst hw
    obtain ⟨hi, hf⟩ := ck_1 hf hne
    refine va_iast (f := (v 9)) hx hb hK hP hD hS 10 0 rfl rfl (ixb_1 hi) dX0_writeLetter_129 (fun H locs hP hD hS => ?_)
    have hP : va_P G.1 vwCl (deskC G.2 a (vs (vs (vs v 7 (upd (v 7) (Int32.toNatClampNeg x4) x1)) 8 (upd (v 8) (Int32.toNatClampNeg x4) x2)) 9 (upd (v 9) (Int32.toNatClampNeg x4) (f_X0_today (vs (vs v 7 (upd (v 7) (Int32.toNatClampNeg x4) x1)) 8 (upd (v 8) (Int32.toNatClampNeg x4) x2)))))) H := hP
    have hD : va_D A (deskC G.2 a (vs (vs (vs v 7 (upd (v 7) (Int32.toNatClampNeg x4) x1)) 8 (upd (v 8) (Int32.toNatClampNeg x4) x2)) 9 (upd (v 9) (Int32.toNatClampNeg x4) (f_X0_today (vs (vs v 7 (upd (v 7) (Int32.toNatClampNeg x4) x1)) 8 (upd (v 8) (Int32.toNatClampNeg x4) x2)))))) := hD
    refine lv_aload_n hx hb dX0_writeLetter_130 rfl (lv_at hl 0 rfl) ?_
    refine va_get (D := G.1) (ci := 0) (v := .ref (a 7)) (C := RX0) (T := TX0) (N := 4) hx hb hts hinX0 hown hK hP 0 rfl rfl 3 (by decide) lk25 (fun _ h9 => h9) rfl dX0_writeLetter_131 ?_
    refine va_get (D := G.1) (ci := 3) (v := .ref (a 11)) (C := RX3) (T := TX3) (N := 8) hx hb hts hinX3 hown hK hP 7 rfl rfl 4 (by decide) lk77 (fun _ h9 => h9) rfl dX0_writeLetter_134 ?_
    refine lv_iload hx hb dX0_writeLetter_137 (lv_at hl 4 rfl) ?_
    refine lv_iload_n hx hb dX0_writeLetter_139 rfl (lv_at hl 3 rfl) ?_
    obtain ⟨hi, hf⟩ := ck_1 hf hne
    refine va_iast (f := (v 10)) hx hb hK hP hD hS 11 0 rfl rfl (ixb_1 hi) dX0_writeLetter_140 (fun H locs hP hD hS => ?_)
    have hP : va_P G.1 vwCl (deskC G.2 a (vs (vs (vs (vs v 7 (upd (v 7) (Int32.toNatClampNeg x4) x1)) 8 (upd (v 8) (Int32.toNatClampNeg x4) x2)) 9 (upd (v 9) (Int32.toNatClampNeg x4) (f_X0_today (vs (vs v 7 (upd (v 7) (Int32.toNatClampNeg x4) x1)) 8 (upd (v 8) (Int32.toNatClampNeg x4) x2))))) 10 (upd (v 10) (Int32.toNatClampNeg x4) x3))) H := hP
    have hD : va_D A (deskC G.2 a (vs (vs (vs (vs v 7 (upd (v 7) (Int32.toNatClampNeg x4) x1)) 8 (upd (v 8) (Int32.toNatClampNeg x4) x2)) 9 (upd (v 9) (Int32.toNatClampNeg x4) (f_X0_today (vs (vs v 7 (upd (v 7) (Int32.toNatClampNeg x4) x1)) 8 (upd (v 8) (Int32.toNatClampNeg x4) x2))))) 10 (upd (v 10) (Int32.toNatClampNeg x4) x3))) := hD
    refine lv_aload_n hx hb dX0_writeLetter_141 rfl (lv_at hl 0 rfl) ?_
    refine va_get (D := G.1) (ci := 0) (v := .ref (a 7)) (C := RX0) (T := TX0) (N := 4) hx hb hts hinX0 hown hK hP 0 rfl rfl 3 (by decide) lk25 (fun _ h9 => h9) rfl dX0_writeLetter_142 ?_
    refine va_get (D := G.1) (ci := 3) (v := .ref (a 12)) (C := RX3) (T := TX3) (N := 8) hx hb hts hinX3 hown hK hP 7 rfl rfl 5 (by decide) lk61 (fun _ h9 => h9) rfl dX0_writeLetter_145 ?_
    refine lv_iload hx hb dX0_writeLetter_148 (lv_at hl 4 rfl) ?_
    refine lv_iconst (v := 0) hx hb dX0_writeLetter_150 (by decide) ?_
    obtain ⟨hi, hf⟩ := ck_1 hf hne
    refine va_iast (f := (v 11)) hx hb hK hP hD hS 12 0 rfl rfl (ixb_1 hi) dX0_writeLetter_151 (fun H locs hP hD hS => ?_)
    have hP : va_P G.1 vwCl (deskC G.2 a (vs (vs (vs (vs (vs v 7 (upd (v 7) (Int32.toNatClampNeg x4) x1)) 8 (upd (v 8) (Int32.toNatClampNeg x4) x2)) 9 (upd (v 9) (Int32.toNatClampNeg x4) (f_X0_today (vs (vs v 7 (upd (v 7) (Int32.toNatClampNeg x4) x1)) 8 (upd (v 8) (Int32.toNatClampNeg x4) x2))))) 10 (upd (v 10) (Int32.toNatClampNeg x4) x3)) 11 (upd (v 11) (Int32.toNatClampNeg x4) 0))) H := hP
    have hD : va_D A (deskC G.2 a (vs (vs (vs (vs (vs v 7 (upd (v 7) (Int32.toNatClampNeg x4) x1)) 8 (upd (v 8) (Int32.toNatClampNeg x4) x2)) 9 (upd (v 9) (Int32.toNatClampNeg x4) (f_X0_today (vs (vs v 7 (upd (v 7) (Int32.toNatClampNeg x4) x1)) 8 (upd (v 8) (Int32.toNatClampNeg x4) x2))))) 10 (upd (v 10) (Int32.toNatClampNeg x4) x3)) 11 (upd (v 11) (Int32.toNatClampNeg x4) 0))) := hD
    refine lv_aload_n hx hb dX0_writeLetter_152 rfl (lv_at hl 0 rfl) ?_
    refine va_get (D := G.1) (ci := 0) (v := .ref (a 7)) (C := RX0) (T := TX0) (N := 4) hx hb hts hinX0 hown hK hP 0 rfl rfl 3 (by decide) lk25 (fun _ h9 => h9) rfl dX0_writeLetter_153 ?_
    refine va_get (D := G.1) (ci := 3) (v := .ref (a 13)) (C := RX3) (T := TX3) (N := 8) hx hb hts hinX3 hown hK hP 7 rfl rfl 6 (by decide) lk80 (fun _ h9 => h9) rfl dX0_writeLetter_156 ?_
    refine lv_iload hx hb dX0_writeLetter_159 (lv_at hl 4 rfl) ?_
    refine lv_bipush (v := (-6)) hx hb dX0_writeLetter_161 (by decide) ?_
    obtain ⟨hi, hf⟩ := ck_1 hf hne
    refine va_iast (f := (v 12)) hx hb hK hP hD hS 13 0 rfl rfl (ixb_1 hi) dX0_writeLetter_163 (fun H locs hP hD hS => ?_)
    have hP : va_P G.1 vwCl (deskC G.2 a (vs (vs (vs (vs (vs (vs v 7 (upd (v 7) (Int32.toNatClampNeg x4) x1)) 8 (upd (v 8) (Int32.toNatClampNeg x4) x2)) 9 (upd (v 9) (Int32.toNatClampNeg x4) (f_X0_today (vs (vs v 7 (upd (v 7) (Int32.toNatClampNeg x4) x1)) 8 (upd (v 8) (Int32.toNatClampNeg x4) x2))))) 10 (upd (v 10) (Int32.toNatClampNeg x4) x3)) 11 (upd (v 11) (Int32.toNatClampNeg x4) 0)) 12 (upd (v 12) (Int32.toNatClampNeg x4) (-6)))) H := hP
    have hD : va_D A (deskC G.2 a (vs (vs (vs (vs (vs (vs v 7 (upd (v 7) (Int32.toNatClampNeg x4) x1)) 8 (upd (v 8) (Int32.toNatClampNeg x4) x2)) 9 (upd (v 9) (Int32.toNatClampNeg x4) (f_X0_today (vs (vs v 7 (upd (v 7) (Int32.toNatClampNeg x4) x1)) 8 (upd (v 8) (Int32.toNatClampNeg x4) x2))))) 10 (upd (v 10) (Int32.toNatClampNeg x4) x3)) 11 (upd (v 11) (Int32.toNatClampNeg x4) 0)) 12 (upd (v 12) (Int32.toNatClampNeg x4) (-6)))) := hD
    refine lv_aload_n hx hb dX0_writeLetter_164 rfl (lv_at hl 0 rfl) ?_
    refine va_get (D := G.1) (ci := 0) (v := .ref (a 7)) (C := RX0) (T := TX0) (N := 4) hx hb hts hinX0 hown hK hP 0 rfl rfl 3 (by decide) lk25 (fun _ h9 => h9) rfl dX0_writeLetter_165 ?_
    refine lv_iload hx hb dX0_writeLetter_168 (lv_at hl 4 rfl) ?_
    refine lv_iconst (v := 1) hx hb dX0_writeLetter_170 (by decide) ?_
    refine lv_iadd hx hb dX0_writeLetter_171 ?_
    refine va_put (D := G.1) (ci := 3) (v := .int (x4 + 1)) (ty := .int) (C := RX3) (T := TX3) (N := 8) hx hb hts hinX3 tyX3 tyX3_ok nmX3 hown hK hP hD hS 7 rfl rfl 0 (by decide) lk54 (fun _ h9 => h9) rfl (by decide +kernel) rfl rfl (Nat.le_of_ble_eq_true rfl) dX0_writeLetter_172 (fun H locs hP hD hS => ?_)
    have hP : va_P G.1 vwCl (deskC G.2 a (vs (vs (vs (vs (vs (vs (vs v 7 (upd (v 7) (Int32.toNatClampNeg x4) x1)) 8 (upd (v 8) (Int32.toNatClampNeg x4) x2)) 9 (upd (v 9) (Int32.toNatClampNeg x4) (f_X0_today (vs (vs v 7 (upd (v 7) (Int32.toNatClampNeg x4) x1)) 8 (upd (v 8) (Int32.toNatClampNeg x4) x2))))) 10 (upd (v 10) (Int32.toNatClampNeg x4) x3)) 11 (upd (v 11) (Int32.toNatClampNeg x4) 0)) 12 (upd (v 12) (Int32.toNatClampNeg x4) (-6))) 1 (fun _ => (x4 + 1)))) H := hP
    have hD : va_D A (deskC G.2 a (vs (vs (vs (vs (vs (vs (vs v 7 (upd (v 7) (Int32.toNatClampNeg x4) x1)) 8 (upd (v 8) (Int32.toNatClampNeg x4) x2)) 9 (upd (v 9) (Int32.toNatClampNeg x4) (f_X0_today (vs (vs v 7 (upd (v 7) (Int32.toNatClampNeg x4) x1)) 8 (upd (v 8) (Int32.toNatClampNeg x4) x2))))) 10 (upd (v 10) (Int32.toNatClampNeg x4) x3)) 11 (upd (v 11) (Int32.toNatClampNeg x4) 0)) 12 (upd (v 12) (Int32.toNatClampNeg x4) (-6))) 1 (fun _ => (x4 + 1)))) := hD
    refine lv_iload hx hb dX0_writeLetter_175 (lv_at hl 4 rfl) ?_
    exact W.iret (v := x4) hx hb hr (fun t ht hW => ⟨⟨x4, (vs (vs (vs (vs (vs (vs (vs v 7 (upd (v 7) (Int32.toNatClampNeg x4) x1)) 8 (upd (v 8) (Int32.toNatClampNeg x4) x2)) 9 (upd (v 9) (Int32.toNatClampNeg x4) (f_X0_today (vs (vs v 7 (upd (v 7) (Int32.toNatClampNeg x4) x1)) 8 (upd (v 8) (Int32.toNatClampNeg x4) x2))))) 10 (upd (v 10) (Int32.toNatClampNeg x4) x3)) 11 (upd (v 11) (Int32.toNatClampNeg x4) 0)) 12 (upd (v 12) (Int32.toNatClampNeg x4) (-6))) 1 (fun _ => (x4 + 1))), rfl, hf0.trans hf.symm, by rw [ht]; exact hP, hD⟩, hS.F ht⟩) hS.2.2 dX0_writeLetter_177
  have J26 : ∀ (n : Nat) (v : DV) (x1 : Int32) (x2 : Int32) (x3 : Int32) (H : Heap) (locs : List Loc) (ls : Array Slot), va_P G.1 vwCl (deskC G.2 a v) H → va_D A (deskC G.2 a v) → va_S A s.heap H locs → lv_has ls 5 [(0, .ref (a 0)), (1, .int x1), (2, .int x2), (3, .int x3)] → f_X0_writeLetter_J26 n v x1 x2 x3 = res → W p l e (headSpec wsX0_writeLetter ({ frames := 1, cells := 0, slots := 0, locals := 24 } : Room)).room s m ([.ref (a 0), .int p1, .int p2, .int p3] : List Value).toArray below meth c H locs 0 0 (MQ below (va_Qi (fun r (u : DV) => f_X0_writeLetter n0 v0 p1 p2 p3 = some (r, u)) (fun u t => atW G (deskC G.2 a u) A t) A) ([.ref (a 0), .int p1, .int p2, .int p3] : List Value).toArray s 0 0 A) (F0 m 26 ls []) := by
    intro n v x1 x2 x3 H locs ls hP hD hS hl hf
    rw [f_X0_writeLetter_J26] at hf
    refine lv_iload_n hx hb dX0_writeLetter_26 rfl (lv_at hl 2 rfl) ?_
    refine lv_if_lt (tgt := 36) hx hb dX0_writeLetter_27 (by decide) (fun c => ?_) (fun c => ?_)
    · have hf := it_1 hf c
      refine lv_bipush (v := (-2)) hx hb dX0_writeLetter_36 (by decide) ?_
      exact W.iret (v := (-2)) hx hb hr (fun t ht hW => ⟨⟨(-2), v, rfl, hf0.trans hf.symm, by rw [ht]; exact hP, hD⟩, hS.F ht⟩) hS.2.2 dX0_writeLetter_38
    · have hf := it_2 hf c
      refine lv_iload_n hx hb dX0_writeLetter_30 rfl (lv_at hl 2 rfl) ?_
      refine lv_bipush (v := 99) hx hb dX0_writeLetter_31 (by decide) ?_
      refine lv_icmp_le (tgt := 39) hx hb dX0_writeLetter_33 (by decide) (fun c => ?_) (fun c => ?_)
      · have hf := it_1 hf c
        refine lv_aload_n hx hb dX0_writeLetter_39 rfl (lv_at hl 0 rfl) ?_
        refine va_get (D := G.1) (ci := 0) (v := .ref (a 7)) (C := RX0) (T := TX0) (N := 4) hx hb hts hinX0 hown hK hP 0 rfl rfl 3 (by decide) lk25 (fun _ h9 => h9) rfl dX0_writeLetter_40 ?_
        refine va_get (D := G.1) (ci := 3) (v := .int (v 1 0)) (C := RX3) (T := TX3) (N := 8) hx hb hts hinX3 hown hK hP 7 rfl rfl 0 (by decide) lk54 (fun _ h9 => h9) rfl dX0_writeLetter_43 ?_
        refine lv_istore (lv' := [(4, .int (v 1 0)), (0, .ref (a 0)), (1, .int x1), (2, .int x2), (3, .int x3)]) hx hb dX0_writeLetter_46 hl (by decide) rfl (fun ls hl => ?_)
        refine lv_iload hx hb dX0_writeLetter_48 (lv_at hl 0 rfl) ?_
        refine lv_bipush (v := 30) hx hb dX0_writeLetter_50 (by decide) ?_
        refine lv_icmp_ge (tgt := 69) hx hb dX0_writeLetter_52 (by decide) (fun c => ?_) (fun c => ?_)
        · have hf := it_1 hf c
          refine lv_bipush (v := (-4)) hx hb dX0_writeLetter_69 (by decide) ?_
          exact W.iret (v := (-4)) hx hb hr (fun t ht hW => ⟨⟨(-4), v, rfl, hf0.trans hf.symm, by rw [ht]; exact hP, hD⟩, hS.F ht⟩) hS.2.2 dX0_writeLetter_71
        · have hf := it_2 hf c
          refine lv_aload_n hx hb dX0_writeLetter_55 rfl (lv_at hl 1 rfl) ?_
          refine va_get (D := G.1) (ci := 0) (v := .ref (a 7)) (C := RX0) (T := TX0) (N := 4) hx hb hts hinX0 hown hK hP 0 rfl rfl 3 (by decide) lk25 (fun _ h9 => h9) rfl dX0_writeLetter_56 ?_
          refine lv_iload_n hx hb dX0_writeLetter_59 rfl (lv_at hl 2 rfl) ?_
          refine lv_iconst (v := 0) hx hb dX0_writeLetter_60 (by decide) ?_
          have hn := bd1_1 hf hne
          refine vp_callSi (W.runV (As := [.int x1, .int 0]) (rest := []) ⟨hx, hb, hml, hown, hts⟩ (ok_X3_ofMood l G a n v x1 0 hn) (cwV 2 hts gX0_writeLetter_X3_ofMood rfl rfl rfl (by decide +kernel) ⟨Nat.le_of_ble_eq_true rfl, Nat.le_of_ble_eq_true rfl⟩) ⟨pcR_blind, va_recv hK (hP.sub (ws' := (lettersC G.2 a v)) [7, 8, 9, 10, 11, 12, 13, 14] rfl) (ci := 3) (q0 := 0) rfl rfl, pcR_pre (hP.sub (ws' := (lettersC G.2 a v)) [7, 8, 9, 10, 11, 12, 13, 14] rfl) hamb⟩ rfl rfl hl.1 rfl (lv_room (Nat.le_of_ble_eq_true rfl)) dX0_writeLetter_61 ⟨Nat.zero_le _, Nat.zero_le _⟩) (fun r61 hw => ?_)
          have hf := bd1_2 hf hw
          refine lv_bipush (v := 8) hx hb dX0_writeLetter_64 (by decide) ?_
          refine lv_icmp_lt (tgt := 72) hx hb dX0_writeLetter_66 (by decide) (fun c => ?_) (fun c => ?_)
          · have hf := it_1 hf c
            refine lv_iload_n hx hb dX0_writeLetter_72 rfl (lv_at hl 4 rfl) ?_
            refine lv_bipush (v := (-6)) hx hb dX0_writeLetter_73 (by decide) ?_
            refine lv_icmp_eq (tgt := 94) hx hb dX0_writeLetter_75 (by decide) (fun c => ?_) (fun c => ?_)
            · have hf := it_1 hf c
              exact J94 n v x1 x2 x3 (v 1 0) H locs ls hP hD hS (lv_sub hl [1, 2, 3, 4, 0] rfl) hf
            · have hf := it_2 hf c
              refine lv_aload_n hx hb dX0_writeLetter_78 rfl (lv_at hl 1 rfl) ?_
              refine va_get (D := G.1) (ci := 0) (v := .ref (a 7)) (C := RX0) (T := TX0) (N := 4) hx hb hts hinX0 hown hK hP 0 rfl rfl 3 (by decide) lk25 (fun _ h9 => h9) rfl dX0_writeLetter_79 ?_
              refine va_get (D := G.1) (ci := 3) (v := .ref (a 12)) (C := RX3) (T := TX3) (N := 8) hx hb hts hinX3 hown hK hP 7 rfl rfl 5 (by decide) lk61 (fun _ h9 => h9) rfl dX0_writeLetter_82 ?_
              refine lv_iload_n hx hb dX0_writeLetter_85 rfl (lv_at hl 4 rfl) ?_
              obtain ⟨hi, hf⟩ := ck_1 hf hne
              refine va_iald (f := (v 11)) hx hb hK hP 12 0 rfl rfl (ixb_1 hi) dX0_writeLetter_86 ?_
              refine lv_iconst (v := 1) hx hb dX0_writeLetter_87 (by decide) ?_
              refine lv_icmp_eq (tgt := 94) hx hb dX0_writeLetter_88 (by decide) (fun c => ?_) (fun c => ?_)
              · have hf := it_1 hf c
                exact J94 n v x1 x2 x3 (v 1 0) H locs ls hP hD hS (lv_sub hl [1, 2, 3, 4, 0] rfl) hf
              · have hf := it_2 hf c
                refine lv_bipush (v := (-5)) hx hb dX0_writeLetter_91 (by decide) ?_
                exact W.iret (v := (-5)) hx hb hr (fun t ht hW => ⟨⟨(-5), v, rfl, hf0.trans hf.symm, by rw [ht]; exact hP, hD⟩, hS.F ht⟩) hS.2.2 dX0_writeLetter_93
          · have hf := it_2 hf c
            refine lv_bipush (v := (-4)) hx hb dX0_writeLetter_69 (by decide) ?_
            exact W.iret (v := (-4)) hx hb hr (fun t ht hW => ⟨⟨(-4), v, rfl, hf0.trans hf.symm, by rw [ht]; exact hP, hD⟩, hS.F ht⟩) hS.2.2 dX0_writeLetter_71
      · have hf := it_2 hf c
        refine lv_bipush (v := (-2)) hx hb dX0_writeLetter_36 (by decide) ?_
        exact W.iret (v := (-2)) hx hb hr (fun t ht hW => ⟨⟨(-2), v, rfl, hf0.trans hf.symm, by rw [ht]; exact hP, hD⟩, hS.F ht⟩) hS.2.2 dX0_writeLetter_38
  refine lv_iload_n hx hb dX0_writeLetter_0 rfl (lv_at hl 1 rfl) ?_
  refine vp_callSi ((va_runSN (As := [.int p1]) (rest := []) ⟨hx, hb, hml, hown, hts⟩ (ok_X6_isMood l p1) ⟨va_cnB 1 hts gX0_writeLetter_X6_isMood_n47 rfl rfl rfl (hamb.2.1 (.methodLinkNest RX0 47 yX6_isMood RX6) (List.mem_of_getElem? (i := 10) rfl)) lw0 (by decide +kernel) ⟨Nat.le_of_ble_eq_true rfl, Nat.le_of_ble_eq_true rfl⟩, lw1, trivial⟩ ⟨fun _ _ _ _ q => q, fun _ _ _ => ⟨rfl, trivial⟩⟩ rfl rfl hl.1 rfl (lv_room (Nat.le_of_ble_eq_true rfl)) dX0_writeLetter_1 ⟨Nat.zero_le _, Nat.zero_le _⟩).run) (fun r1 hw => ?_)
  subst hw
  refine lv_if_eq (tgt := 24) hx hb dX0_writeLetter_4 (by decide) (fun c => ?_) (fun c => ?_)
  · have hf := it_1 hf c
    refine lv_iconst (v := (-1)) hx hb dX0_writeLetter_24 (by decide) ?_
    exact W.iret (v := (-1)) hx hb hr (fun t ht hW => ⟨⟨(-1), v0, rfl, hf0.trans hf.symm, by rw [ht]; exact hP, hD⟩, hS.F ht⟩) hS.2.2 dX0_writeLetter_25
  · have hf := it_2 hf c
    refine lv_iload_n hx hb dX0_writeLetter_7 rfl (lv_at hl 3 rfl) ?_
    refine lv_bipush (v := (-6)) hx hb dX0_writeLetter_8 (by decide) ?_
    refine lv_icmp_eq (tgt := 26) hx hb dX0_writeLetter_10 (by decide) (fun c => ?_) (fun c => ?_)
    · have hf := it_1 hf c
      exact J26 n0 v0 p1 p2 p3 s.heap [] ls hP hD hS (lv_sub hl [0, 1, 2, 3] rfl) hf
    · have hf := it_2 hf c
      refine lv_aload_n hx hb dX0_writeLetter_13 rfl (lv_at hl 0 rfl) ?_
      refine va_get (D := G.1) (ci := 0) (v := .ref (a 7)) (C := RX0) (T := TX0) (N := 4) hx hb hts hinX0 hown hK hP 0 rfl rfl 3 (by decide) lk25 (fun _ h9 => h9) rfl dX0_writeLetter_14 ?_
      refine lv_iload_n hx hb dX0_writeLetter_17 rfl (lv_at hl 3 rfl) ?_
      refine vp_callSi (W.runV (As := [.int p3]) (rest := []) ⟨hx, hb, hml, hown, hts⟩ (ok_X3_isLetter l G a v0 p3) (cwV 1 hts gX0_writeLetter_X3_isLetter rfl rfl rfl (by decide +kernel) ⟨Nat.le_of_ble_eq_true rfl, Nat.le_of_ble_eq_true rfl⟩) ⟨pcR_blind, va_recv hK (hP.sub (ws' := (lettersC G.2 a v0)) [7, 8, 9, 10, 11, 12, 13, 14] rfl) (ci := 3) (q0 := 0) rfl rfl, pcR_pre (hP.sub (ws' := (lettersC G.2 a v0)) [7, 8, 9, 10, 11, 12, 13, 14] rfl) hamb⟩ rfl rfl hl.1 rfl (lv_room (Nat.le_of_ble_eq_true rfl)) dX0_writeLetter_18 ⟨Nat.zero_le _, Nat.zero_le _⟩) (fun r18 hw => ?_)
      subst hw
      refine lv_if_ne (tgt := 26) hx hb dX0_writeLetter_21 (by decide) (fun c => ?_) (fun c => ?_)
      · have hf := it_2 hf c
        exact J26 n0 v0 p1 p2 p3 s.heap [] ls hP hD hS (lv_sub hl [0, 1, 2, 3] rfl) hf
      · have hf := it_1 hf c
        refine lv_iconst (v := (-1)) hx hb dX0_writeLetter_24 (by decide) ?_
        exact W.iret (v := (-1)) hx hb hr (fun t ht hW => ⟨⟨(-1), v0, rfl, hf0.trans hf.symm, by rw [ht]; exact hP, hD⟩, hS.F ht⟩) hS.2.2 dX0_writeLetter_25
set_option maxHeartbeats 4000000 in
set_option maxRecDepth 100000 in
theorem ok_X0_turnKey (l : Launch) (G : Gt) (a : Nat → Nat) (sz : Nat) (v0 : DV) (p1 : Int32) (hne : f_X0_turnKey v0 p1 ≠ none) : Met l yX0_turnKey wsX0_turnKey ({ frames := 1, cells := 0, slots := 0, locals := 20 } : Room) (pcW G [.ref (a 0), .int p1] (deskC G.2 a v0) sz) (va_Qi (fun r (u : DV) => f_X0_turnKey v0 p1 = some (r, u)) (fun u t => atW G (deskC G.2 a u) (va_A (deskC G.2 a v0) sz) t) (va_A (deskC G.2 a v0) sz)) 0 0 (va_A (deskC G.2 a v0) sz) := by
  refine Met.ofW (cc := cX0_turnKey) (maxL := 2) (ret := (some .int)) (by decide) rfl ?_
  intro p e s m args below meth c s₁ B hml hv
  obtain ⟨rfl, hsz, hP, hD0, hamb⟩ := hv
  have hx := B.exec
  have hb := B.bytes
  have hr := B.returns
  have hts := atoms_spec (ws := wsX0_turnKey) B.pre
  have hown : s.vm.findClass RX0 = some m.cls := findClass_of_methodNamed B.named
  have hlocks := B.notSynchronized
  have hK := hamb.1
  subst hsz
  have hD := hD0.self (sz := s.heap.size)
  generalize hAe : va_A (deskC G.2 a v0) s.heap.size = A at hD ⊢
  have hA : ∀ q : Nat, s.heap.size ≤ q → A q := fun q h => by rw [← hAe]; exact Or.inr h
  have hS : va_S A s.heap s.heap [] := va_S.rf
  obtain ⟨res, hf0⟩ : ∃ res, f_X0_turnKey v0 p1 = res := ⟨_, rfl⟩
  have hne : res ≠ none := hf0 ▸ hne
  have hf := hf0
  rw [f_X0_turnKey] at hf
  have hinX0 : ∀ w ∈ u_ws RX0 TX0 4, w ∈ wsX0_turnKey := by decide +kernel
  have hinX1 : ∀ w ∈ u_ws RX1 TX1 4, w ∈ wsX0_turnKey := by decide +kernel
  have lw0 := hts (.initialized RX6) (by decide +kernel)
  have lw1 := hts (.static yX6_isMood) (by decide +kernel)
  have lk18 := hts (.fieldLink RX0 18 "MoodDrawers$Desk" "drawers" "LMoodDrawers$Drawers;") (by decide +kernel)
  have lk83 := hts (.fieldLink RX0 83 "MoodDrawers$Drawers" "locked" "[I") (by decide +kernel)
  have hl := lv_entry ([.ref (a 0), .int p1]) (n := 2) (Nat.le_of_ble_eq_true rfl)
  rw [lg_entry_eq]
  generalize (lg_sl ([.ref (a 0), .int p1]) ++ List.replicate (2 - (lg_sl ([.ref (a 0), .int p1])).length) Slot.unset).toArray = ls at hl ⊢
  have hl : lv_has ls 2 [(0, .ref (a 0)), (1, .int p1)] := hl
  refine lv_iload_n hx hb dX0_turnKey_0 rfl (lv_at hl 1 rfl) ?_
  refine vp_callSi ((va_runSN (As := [.int p1]) (rest := []) ⟨hx, hb, hml, hown, hts⟩ (ok_X6_isMood l p1) ⟨va_cnB 1 hts gX0_turnKey_X6_isMood_n47 rfl rfl rfl (hamb.2.1 (.methodLinkNest RX0 47 yX6_isMood RX6) (List.mem_of_getElem? (i := 10) rfl)) lw0 (by decide +kernel) ⟨Nat.le_of_ble_eq_true rfl, Nat.le_of_ble_eq_true rfl⟩, lw1, trivial⟩ ⟨fun _ _ _ _ q => q, fun _ _ _ => ⟨rfl, trivial⟩⟩ rfl rfl hl.1 rfl (lv_room (Nat.le_of_ble_eq_true rfl)) dX0_turnKey_1 ⟨Nat.zero_le _, Nat.zero_le _⟩).run) (fun r1 hw => ?_)
  subst hw
  refine lv_if_ne (tgt := 9) hx hb dX0_turnKey_4 (by decide) (fun c => ?_) (fun c => ?_)
  · have hf := it_2 hf c
    refine lv_aload_n hx hb dX0_turnKey_9 rfl (lv_at hl 0 rfl) ?_
    refine va_get (D := G.1) (ci := 0) (v := .ref (a 2)) (C := RX0) (T := TX0) (N := 4) hx hb hts hinX0 hown hK hP 0 rfl rfl 2 (by decide) lk18 (fun _ h9 => h9) rfl dX0_turnKey_10 ?_
    refine va_get (D := G.1) (ci := 1) (v := .ref (a 4)) (C := RX1) (T := TX1) (N := 4) hx hb hts hinX1 hown hK hP 2 rfl rfl 1 (by decide) lk83 (fun _ h9 => h9) rfl dX0_turnKey_13 ?_
    refine lv_iload_n hx hb dX0_turnKey_16 rfl (lv_at hl 1 rfl) ?_
    refine lv_iconst (v := 1) hx hb dX0_turnKey_17 (by decide) ?_
    refine lv_aload_n hx hb dX0_turnKey_18 rfl (lv_at hl 0 rfl) ?_
    refine va_get (D := G.1) (ci := 0) (v := .ref (a 2)) (C := RX0) (T := TX0) (N := 4) hx hb hts hinX0 hown hK hP 0 rfl rfl 2 (by decide) lk18 (fun _ h9 => h9) rfl dX0_turnKey_19 ?_
    refine va_get (D := G.1) (ci := 1) (v := .ref (a 4)) (C := RX1) (T := TX1) (N := 4) hx hb hts hinX1 hown hK hP 2 rfl rfl 1 (by decide) lk83 (fun _ h9 => h9) rfl dX0_turnKey_22 ?_
    refine lv_iload_n hx hb dX0_turnKey_25 rfl (lv_at hl 1 rfl) ?_
    obtain ⟨hi, hf⟩ := ck_1 hf hne
    refine va_iald (f := (v0 4)) hx hb hK hP 4 0 rfl rfl (ixb_1 hi) dX0_turnKey_26 ?_
    refine lv_isub hx hb dX0_turnKey_27 ?_
    obtain ⟨hi, hf⟩ := ck_1 hf hne
    refine va_iast (f := (v0 4)) hx hb hK hP hD hS 4 0 rfl rfl (ixb_1 hi) dX0_turnKey_28 (fun H locs hP hD hS => ?_)
    have hP : va_P G.1 vwCl (deskC G.2 a (vs v0 4 (upd (v0 4) (Int32.toNatClampNeg p1) (1 - ((v0 4) (Int32.toNatClampNeg p1)))))) H := hP
    have hD : va_D A (deskC G.2 a (vs v0 4 (upd (v0 4) (Int32.toNatClampNeg p1) (1 - ((v0 4) (Int32.toNatClampNeg p1)))))) := hD
    refine lv_aload_n hx hb dX0_turnKey_29 rfl (lv_at hl 0 rfl) ?_
    refine va_get (D := G.1) (ci := 0) (v := .ref (a 2)) (C := RX0) (T := TX0) (N := 4) hx hb hts hinX0 hown hK hP 0 rfl rfl 2 (by decide) lk18 (fun _ h9 => h9) rfl dX0_turnKey_30 ?_
    refine va_get (D := G.1) (ci := 1) (v := .ref (a 4)) (C := RX1) (T := TX1) (N := 4) hx hb hts hinX1 hown hK hP 2 rfl rfl 1 (by decide) lk83 (fun _ h9 => h9) rfl dX0_turnKey_33 ?_
    refine lv_iload_n hx hb dX0_turnKey_36 rfl (lv_at hl 1 rfl) ?_
    obtain ⟨hi, hf⟩ := ck_1 hf hne
    refine va_iald (f := (upd (v0 4) (Int32.toNatClampNeg p1) (1 - ((v0 4) (Int32.toNatClampNeg p1))))) hx hb hK hP 4 0 rfl rfl (ixb_1 hi) dX0_turnKey_37 ?_
    exact W.iret (v := ((upd (v0 4) (Int32.toNatClampNeg p1) (1 - ((v0 4) (Int32.toNatClampNeg p1)))) (Int32.toNatClampNeg p1))) hx hb hr (fun t ht hW => ⟨⟨((upd (v0 4) (Int32.toNatClampNeg p1) (1 - ((v0 4) (Int32.toNatClampNeg p1)))) (Int32.toNatClampNeg p1)), (vs v0 4 (upd (v0 4) (Int32.toNatClampNeg p1) (1 - ((v0 4) (Int32.toNatClampNeg p1))))), rfl, hf0.trans hf.symm, by rw [ht]; exact hP, hD⟩, hS.F ht⟩) hS.2.2 dX0_turnKey_38
  · have hf := it_1 hf c
    refine lv_iconst (v := (-1)) hx hb dX0_turnKey_7 (by decide) ?_
    exact W.iret (v := (-1)) hx hb hr (fun t ht hW => ⟨⟨(-1), v0, rfl, hf0.trans hf.symm, by rw [ht]; exact hP, hD⟩, hS.F ht⟩) hS.2.2 dX0_turnKey_8
set_option maxHeartbeats 4000000 in
set_option maxRecDepth 100000 in
theorem ok_X0_changeRest (l : Launch) (G : Gt) (a : Nat → Nat) (sz : Nat) (v0 : DV) (p1 : Int32) (p2 : Int32) (hne : f_X0_changeRest v0 p1 p2 ≠ none) : Met l yX0_changeRest wsX0_changeRest ({ frames := 1, cells := 0, slots := 0, locals := 20 } : Room) (pcW G [.ref (a 0), .int p1, .int p2] (deskC G.2 a v0) sz) (va_Qi (fun r (u : DV) => f_X0_changeRest v0 p1 p2 = some (r, u)) (fun u t => atW G (deskC G.2 a u) (va_A (deskC G.2 a v0) sz) t) (va_A (deskC G.2 a v0) sz)) 0 0 (va_A (deskC G.2 a v0) sz) := by
  refine Met.ofW (cc := cX0_changeRest) (maxL := 4) (ret := (some .int)) (by decide) rfl ?_
  intro p e s m args below meth c s₁ B hml hv
  obtain ⟨rfl, hsz, hP, hD0, hamb⟩ := hv
  have hx := B.exec
  have hb := B.bytes
  have hr := B.returns
  have hts := atoms_spec (ws := wsX0_changeRest) B.pre
  have hown : s.vm.findClass RX0 = some m.cls := findClass_of_methodNamed B.named
  have hlocks := B.notSynchronized
  have hK := hamb.1
  subst hsz
  have hD := hD0.self (sz := s.heap.size)
  generalize hAe : va_A (deskC G.2 a v0) s.heap.size = A at hD ⊢
  have hA : ∀ q : Nat, s.heap.size ≤ q → A q := fun q h => by rw [← hAe]; exact Or.inr h
  have hS : va_S A s.heap s.heap [] := va_S.rf
  obtain ⟨res, hf0⟩ : ∃ res, f_X0_changeRest v0 p1 p2 = res := ⟨_, rfl⟩
  have hne : res ≠ none := hf0 ▸ hne
  have hf := hf0
  rw [f_X0_changeRest] at hf
  have hinX0 : ∀ w ∈ u_ws RX0 TX0 4, w ∈ wsX0_changeRest := by decide +kernel
  have hinX1 : ∀ w ∈ u_ws RX1 TX1 4, w ∈ wsX0_changeRest := by decide +kernel
  have lw0 := hts (.initialized RX6) (by decide +kernel)
  have lw1 := hts (.static yX6_isMood) (by decide +kernel)
  have lk18 := hts (.fieldLink RX0 18 "MoodDrawers$Desk" "drawers" "LMoodDrawers$Drawers;") (by decide +kernel)
  have lk86 := hts (.fieldLink RX0 86 "MoodDrawers$Drawers" "restDays" "[I") (by decide +kernel)
  have hl := lv_entry ([.ref (a 0), .int p1, .int p2]) (n := 4) (Nat.le_of_ble_eq_true rfl)
  rw [lg_entry_eq]
  generalize (lg_sl ([.ref (a 0), .int p1, .int p2]) ++ List.replicate (4 - (lg_sl ([.ref (a 0), .int p1, .int p2])).length) Slot.unset).toArray = ls at hl ⊢
  have hl : lv_has ls 4 [(0, .ref (a 0)), (1, .int p1), (2, .int p2)] := hl
  refine lv_iload_n hx hb dX0_changeRest_0 rfl (lv_at hl 1 rfl) ?_
  refine vp_callSi ((va_runSN (As := [.int p1]) (rest := []) ⟨hx, hb, hml, hown, hts⟩ (ok_X6_isMood l p1) ⟨va_cnB 1 hts gX0_changeRest_X6_isMood_n47 rfl rfl rfl (hamb.2.1 (.methodLinkNest RX0 47 yX6_isMood RX6) (List.mem_of_getElem? (i := 10) rfl)) lw0 (by decide +kernel) ⟨Nat.le_of_ble_eq_true rfl, Nat.le_of_ble_eq_true rfl⟩, lw1, trivial⟩ ⟨fun _ _ _ _ q => q, fun _ _ _ => ⟨rfl, trivial⟩⟩ rfl rfl hl.1 rfl (lv_room (Nat.le_of_ble_eq_true rfl)) dX0_changeRest_1 ⟨Nat.zero_le _, Nat.zero_le _⟩).run) (fun r1 hw => ?_)
  subst hw
  refine lv_if_ne (tgt := 9) hx hb dX0_changeRest_4 (by decide) (fun c => ?_) (fun c => ?_)
  · have hf := it_2 hf c
    refine lv_iload_n hx hb dX0_changeRest_9 rfl (lv_at hl 2 rfl) ?_
    refine lv_if_lt (tgt := 19) hx hb dX0_changeRest_10 (by decide) (fun c => ?_) (fun c => ?_)
    · have hf := it_1 hf c
      refine lv_bipush (v := (-2)) hx hb dX0_changeRest_19 (by decide) ?_
      exact W.iret (v := (-2)) hx hb hr (fun t ht hW => ⟨⟨(-2), v0, rfl, hf0.trans hf.symm, by rw [ht]; exact hP, hD⟩, hS.F ht⟩) hS.2.2 dX0_changeRest_21
    · have hf := it_2 hf c
      refine lv_iload_n hx hb dX0_changeRest_13 rfl (lv_at hl 2 rfl) ?_
      refine lv_bipush (v := 30) hx hb dX0_changeRest_14 (by decide) ?_
      refine lv_icmp_le (tgt := 22) hx hb dX0_changeRest_16 (by decide) (fun c => ?_) (fun c => ?_)
      · have hf := it_1 hf c
        refine lv_aload_n hx hb dX0_changeRest_22 rfl (lv_at hl 0 rfl) ?_
        refine va_get (D := G.1) (ci := 0) (v := .ref (a 2)) (C := RX0) (T := TX0) (N := 4) hx hb hts hinX0 hown hK hP 0 rfl rfl 2 (by decide) lk18 (fun _ h9 => h9) rfl dX0_changeRest_23 ?_
        refine va_get (D := G.1) (ci := 1) (v := .ref (a 3)) (C := RX1) (T := TX1) (N := 4) hx hb hts hinX1 hown hK hP 2 rfl rfl 0 (by decide) lk86 (fun _ h9 => h9) rfl dX0_changeRest_26 ?_
        refine lv_iload_n hx hb dX0_changeRest_29 rfl (lv_at hl 1 rfl) ?_
        obtain ⟨hi, hf⟩ := ck_1 hf hne
        refine va_iald (f := (v0 3)) hx hb hK hP 3 0 rfl rfl (ixb_1 hi) dX0_changeRest_30 ?_
        refine lv_istore_n (lv' := [(3, .int ((v0 3) (Int32.toNatClampNeg p1))), (0, .ref (a 0)), (1, .int p1), (2, .int p2)]) hx hb dX0_changeRest_31 rfl hl (by decide) rfl (fun ls hl => ?_)
        refine lv_aload_n hx hb dX0_changeRest_32 rfl (lv_at hl 1 rfl) ?_
        refine va_get (D := G.1) (ci := 0) (v := .ref (a 2)) (C := RX0) (T := TX0) (N := 4) hx hb hts hinX0 hown hK hP 0 rfl rfl 2 (by decide) lk18 (fun _ h9 => h9) rfl dX0_changeRest_33 ?_
        refine va_get (D := G.1) (ci := 1) (v := .ref (a 3)) (C := RX1) (T := TX1) (N := 4) hx hb hts hinX1 hown hK hP 2 rfl rfl 0 (by decide) lk86 (fun _ h9 => h9) rfl dX0_changeRest_36 ?_
        refine lv_iload_n hx hb dX0_changeRest_39 rfl (lv_at hl 2 rfl) ?_
        refine lv_iload_n hx hb dX0_changeRest_40 rfl (lv_at hl 3 rfl) ?_
        obtain ⟨hi, hf⟩ := ck_1 hf hne
        refine va_iast (f := (v0 3)) hx hb hK hP hD hS 3 0 rfl rfl (ixb_1 hi) dX0_changeRest_41 (fun H locs hP hD hS => ?_)
        have hP : va_P G.1 vwCl (deskC G.2 a (vs v0 3 (upd (v0 3) (Int32.toNatClampNeg p1) p2))) H := hP
        have hD : va_D A (deskC G.2 a (vs v0 3 (upd (v0 3) (Int32.toNatClampNeg p1) p2))) := hD
        refine lv_iload_n hx hb dX0_changeRest_42 rfl (lv_at hl 0 rfl) ?_
        exact W.iret (v := ((v0 3) (Int32.toNatClampNeg p1))) hx hb hr (fun t ht hW => ⟨⟨((v0 3) (Int32.toNatClampNeg p1)), (vs v0 3 (upd (v0 3) (Int32.toNatClampNeg p1) p2)), rfl, hf0.trans hf.symm, by rw [ht]; exact hP, hD⟩, hS.F ht⟩) hS.2.2 dX0_changeRest_43
      · have hf := it_2 hf c
        refine lv_bipush (v := (-2)) hx hb dX0_changeRest_19 (by decide) ?_
        exact W.iret (v := (-2)) hx hb hr (fun t ht hW => ⟨⟨(-2), v0, rfl, hf0.trans hf.symm, by rw [ht]; exact hP, hD⟩, hS.F ht⟩) hS.2.2 dX0_changeRest_21
  · have hf := it_1 hf c
    refine lv_iconst (v := (-1)) hx hb dX0_changeRest_7 (by decide) ?_
    exact W.iret (v := (-1)) hx hb hr (fun t ht hW => ⟨⟨(-1), v0, rfl, hf0.trans hf.symm, by rw [ht]; exact hP, hD⟩, hS.F ht⟩) hS.2.2 dX0_changeRest_8
set_option maxHeartbeats 4000000 in
set_option maxRecDepth 100000 in
theorem ok_X0_changeHours (l : Launch) (G : Gt) (a : Nat → Nat) (sz : Nat) (v0 : DV) (p1 : Int32) (p2 : Int32) (p3 : Int32) (hne : f_X0_changeHours v0 p1 p2 p3 ≠ none) : Met l yX0_changeHours wsX0_changeHours ({ frames := 1, cells := 0, slots := 0, locals := 20 } : Room) (pcW G [.ref (a 0), .int p1, .int p2, .int p3] (deskC G.2 a v0) sz) (va_Qi (fun r (u : DV) => f_X0_changeHours v0 p1 p2 p3 = some (r, u)) (fun u t => atW G (deskC G.2 a u) (va_A (deskC G.2 a v0) sz) t) (va_A (deskC G.2 a v0) sz)) 0 0 (va_A (deskC G.2 a v0) sz) := by
  refine Met.ofW (cc := cX0_changeHours) (maxL := 5) (ret := (some .int)) (by decide) rfl ?_
  intro p e s m args below meth c s₁ B hml hv
  obtain ⟨rfl, hsz, hP, hD0, hamb⟩ := hv
  have hx := B.exec
  have hb := B.bytes
  have hr := B.returns
  have hts := atoms_spec (ws := wsX0_changeHours) B.pre
  have hown : s.vm.findClass RX0 = some m.cls := findClass_of_methodNamed B.named
  have hlocks := B.notSynchronized
  have hK := hamb.1
  subst hsz
  have hD := hD0.self (sz := s.heap.size)
  generalize hAe : va_A (deskC G.2 a v0) s.heap.size = A at hD ⊢
  have hA : ∀ q : Nat, s.heap.size ≤ q → A q := fun q h => by rw [← hAe]; exact Or.inr h
  have hS : va_S A s.heap s.heap [] := va_S.rf
  obtain ⟨res, hf0⟩ : ∃ res, f_X0_changeHours v0 p1 p2 p3 = res := ⟨_, rfl⟩
  have hne : res ≠ none := hf0 ▸ hne
  have hf := hf0
  rw [f_X0_changeHours] at hf
  have hinX0 : ∀ w ∈ u_ws RX0 TX0 4, w ∈ wsX0_changeHours := by decide +kernel
  have hinX1 : ∀ w ∈ u_ws RX1 TX1 4, w ∈ wsX0_changeHours := by decide +kernel
  have lw0 := hts (.initialized RX6) (by decide +kernel)
  have lw1 := hts (.static yX6_isMood) (by decide +kernel)
  have lk18 := hts (.fieldLink RX0 18 "MoodDrawers$Desk" "drawers" "LMoodDrawers$Drawers;") (by decide +kernel)
  have lk92 := hts (.fieldLink RX0 92 "MoodDrawers$Drawers" "unlockHour" "[I") (by decide +kernel)
  have lk95 := hts (.fieldLink RX0 95 "MoodDrawers$Drawers" "lockHour" "[I") (by decide +kernel)
  have lw5 := hts (.static yX6_isHour) (by decide +kernel)
  have hl := lv_entry ([.ref (a 0), .int p1, .int p2, .int p3]) (n := 5) (Nat.le_of_ble_eq_true rfl)
  rw [lg_entry_eq]
  generalize (lg_sl ([.ref (a 0), .int p1, .int p2, .int p3]) ++ List.replicate (5 - (lg_sl ([.ref (a 0), .int p1, .int p2, .int p3])).length) Slot.unset).toArray = ls at hl ⊢
  have hl : lv_has ls 5 [(0, .ref (a 0)), (1, .int p1), (2, .int p2), (3, .int p3)] := hl
  have J56 : ∀ (v : DV) (x1 : Int32) (x2 : Int32) (x3 : Int32) (z0 : Int32) (H : Heap) (locs : List Loc) (ls : Array Slot), va_P G.1 vwCl (deskC G.2 a v) H → va_D A (deskC G.2 a v) → va_S A s.heap H locs → lv_has ls 5 [(0, .ref (a 0)), (1, .int x1), (2, .int x2), (3, .int x3)] → f_X0_changeHours_J56 v x1 x2 x3 z0 = res → W p l e (headSpec wsX0_changeHours ({ frames := 1, cells := 0, slots := 0, locals := 20 } : Room)).room s m ([.ref (a 0), .int p1, .int p2, .int p3] : List Value).toArray below meth c H locs 0 0 (MQ below (va_Qi (fun r (u : DV) => f_X0_changeHours v0 p1 p2 p3 = some (r, u)) (fun u t => atW G (deskC G.2 a u) A t) A) ([.ref (a 0), .int p1, .int p2, .int p3] : List Value).toArray s 0 0 A) (F0 m 56 ls [.int z0]) := by
    intro v x1 x2 x3 z0 H locs ls hP hD hS hl hf
    rw [f_X0_changeHours_J56] at hf
    refine lv_istore (lv' := [(4, .int z0), (0, .ref (a 0)), (1, .int x1), (2, .int x2), (3, .int x3)]) hx hb dX0_changeHours_56 hl (by decide) rfl (fun ls hl => ?_)
    refine lv_aload_n hx hb dX0_changeHours_58 rfl (lv_at hl 1 rfl) ?_
    refine va_get (D := G.1) (ci := 0) (v := .ref (a 2)) (C := RX0) (T := TX0) (N := 4) hx hb hts hinX0 hown hK hP 0 rfl rfl 2 (by decide) lk18 (fun _ h9 => h9) rfl dX0_changeHours_59 ?_
    refine va_get (D := G.1) (ci := 1) (v := .ref (a 5)) (C := RX1) (T := TX1) (N := 4) hx hb hts hinX1 hown hK hP 2 rfl rfl 2 (by decide) lk92 (fun _ h9 => h9) rfl dX0_changeHours_62 ?_
    refine lv_iload_n hx hb dX0_changeHours_65 rfl (lv_at hl 2 rfl) ?_
    refine lv_iload_n hx hb dX0_changeHours_66 rfl (lv_at hl 3 rfl) ?_
    obtain ⟨hi, hf⟩ := ck_1 hf hne
    refine va_iast (f := (v 5)) hx hb hK hP hD hS 5 0 rfl rfl (ixb_1 hi) dX0_changeHours_67 (fun H locs hP hD hS => ?_)
    have hP : va_P G.1 vwCl (deskC G.2 a (vs v 5 (upd (v 5) (Int32.toNatClampNeg x1) x2))) H := hP
    have hD : va_D A (deskC G.2 a (vs v 5 (upd (v 5) (Int32.toNatClampNeg x1) x2))) := hD
    refine lv_aload_n hx hb dX0_changeHours_68 rfl (lv_at hl 1 rfl) ?_
    refine va_get (D := G.1) (ci := 0) (v := .ref (a 2)) (C := RX0) (T := TX0) (N := 4) hx hb hts hinX0 hown hK hP 0 rfl rfl 2 (by decide) lk18 (fun _ h9 => h9) rfl dX0_changeHours_69 ?_
    refine va_get (D := G.1) (ci := 1) (v := .ref (a 6)) (C := RX1) (T := TX1) (N := 4) hx hb hts hinX1 hown hK hP 2 rfl rfl 3 (by decide) lk95 (fun _ h9 => h9) rfl dX0_changeHours_72 ?_
    refine lv_iload_n hx hb dX0_changeHours_75 rfl (lv_at hl 2 rfl) ?_
    refine lv_iload_n hx hb dX0_changeHours_76 rfl (lv_at hl 3 rfl) ?_
    refine lv_bipush (v := (-6)) hx hb dX0_changeHours_77 (by decide) ?_
    refine lv_icmp_ne (tgt := 87) hx hb dX0_changeHours_79 (by decide) (fun c => ?_) (fun c => ?_)
    · have hf := it_2 hf c
      refine lv_iload_n hx hb dX0_changeHours_87 rfl (lv_at hl 4 rfl) ?_
      obtain ⟨hi, hf⟩ := ck_1 hf hne
      refine va_iast (f := (v 6)) hx hb hK hP hD hS 6 0 rfl rfl (ixb_1 hi) dX0_changeHours_88 (fun H locs hP hD hS => ?_)
      have hP : va_P G.1 vwCl (deskC G.2 a (vs (vs v 5 (upd (v 5) (Int32.toNatClampNeg x1) x2)) 6 (upd (v 6) (Int32.toNatClampNeg x1) x3))) H := hP
      have hD : va_D A (deskC G.2 a (vs (vs v 5 (upd (v 5) (Int32.toNatClampNeg x1) x2)) 6 (upd (v 6) (Int32.toNatClampNeg x1) x3))) := hD
      refine lv_iload hx hb dX0_changeHours_89 (lv_at hl 0 rfl) ?_
      exact W.iret (v := z0) hx hb hr (fun t ht hW => ⟨⟨z0, (vs (vs v 5 (upd (v 5) (Int32.toNatClampNeg x1) x2)) 6 (upd (v 6) (Int32.toNatClampNeg x1) x3)), rfl, hf0.trans hf.symm, by rw [ht]; exact hP, hD⟩, hS.F ht⟩) hS.2.2 dX0_changeHours_91
    · have hf := it_1 hf c
      refine lv_bipush (v := (-6)) hx hb dX0_changeHours_82 (by decide) ?_
      refine lv_goto (tgt := 88) hx hb dX0_changeHours_84 (by decide) ?_
      obtain ⟨hi, hf⟩ := ck_1 hf hne
      refine va_iast (f := (v 6)) hx hb hK hP hD hS 6 0 rfl rfl (ixb_1 hi) dX0_changeHours_88 (fun H locs hP hD hS => ?_)
      have hP : va_P G.1 vwCl (deskC G.2 a (vs (vs v 5 (upd (v 5) (Int32.toNatClampNeg x1) x2)) 6 (upd (v 6) (Int32.toNatClampNeg x1) (-6)))) H := hP
      have hD : va_D A (deskC G.2 a (vs (vs v 5 (upd (v 5) (Int32.toNatClampNeg x1) x2)) 6 (upd (v 6) (Int32.toNatClampNeg x1) (-6)))) := hD
      refine lv_iload hx hb dX0_changeHours_89 (lv_at hl 0 rfl) ?_
      exact W.iret (v := z0) hx hb hr (fun t ht hW => ⟨⟨z0, (vs (vs v 5 (upd (v 5) (Int32.toNatClampNeg x1) x2)) 6 (upd (v 6) (Int32.toNatClampNeg x1) (-6))), rfl, hf0.trans hf.symm, by rw [ht]; exact hP, hD⟩, hS.F ht⟩) hS.2.2 dX0_changeHours_91
  have J37 : ∀ (v : DV) (x1 : Int32) (x2 : Int32) (x3 : Int32) (H : Heap) (locs : List Loc) (ls : Array Slot), va_P G.1 vwCl (deskC G.2 a v) H → va_D A (deskC G.2 a v) → va_S A s.heap H locs → lv_has ls 5 [(0, .ref (a 0)), (1, .int x1), (2, .int x2), (3, .int x3)] → f_X0_changeHours_J37 v x1 x2 x3 = res → W p l e (headSpec wsX0_changeHours ({ frames := 1, cells := 0, slots := 0, locals := 20 } : Room)).room s m ([.ref (a 0), .int p1, .int p2, .int p3] : List Value).toArray below meth c H locs 0 0 (MQ below (va_Qi (fun r (u : DV) => f_X0_changeHours v0 p1 p2 p3 = some (r, u)) (fun u t => atW G (deskC G.2 a u) A t) A) ([.ref (a 0), .int p1, .int p2, .int p3] : List Value).toArray s 0 0 A) (F0 m 37 ls []) := by
    intro v x1 x2 x3 H locs ls hP hD hS hl hf
    rw [f_X0_changeHours_J37] at hf
    refine lv_aload_n hx hb dX0_changeHours_37 rfl (lv_at hl 0 rfl) ?_
    refine va_get (D := G.1) (ci := 0) (v := .ref (a 2)) (C := RX0) (T := TX0) (N := 4) hx hb hts hinX0 hown hK hP 0 rfl rfl 2 (by decide) lk18 (fun _ h9 => h9) rfl dX0_changeHours_38 ?_
    refine va_get (D := G.1) (ci := 1) (v := .ref (a 5)) (C := RX1) (T := TX1) (N := 4) hx hb hts hinX1 hown hK hP 2 rfl rfl 2 (by decide) lk92 (fun _ h9 => h9) rfl dX0_changeHours_41 ?_
    refine lv_iload_n hx hb dX0_changeHours_44 rfl (lv_at hl 1 rfl) ?_
    obtain ⟨hi, hf⟩ := ck_1 hf hne
    refine va_iald (f := (v 5)) hx hb hK hP 5 0 rfl rfl (ixb_1 hi) dX0_changeHours_45 ?_
    refine lv_bipush (v := (-6)) hx hb dX0_changeHours_46 (by decide) ?_
    refine lv_icmp_ne (tgt := 55) hx hb dX0_changeHours_48 (by decide) (fun c => ?_) (fun c => ?_)
    · have hf := it_2 hf c
      refine lv_iconst (v := 1) hx hb dX0_changeHours_55 (by decide) ?_
      exact J56 v x1 x2 x3 1 H locs ls hP hD hS (lv_sub hl [0, 1, 2, 3] rfl) hf
    · have hf := it_1 hf c
      refine lv_iconst (v := 0) hx hb dX0_changeHours_51 (by decide) ?_
      refine lv_goto (tgt := 56) hx hb dX0_changeHours_52 (by decide) ?_
      exact J56 v x1 x2 x3 0 H locs ls hP hD hS (lv_sub hl [0, 1, 2, 3] rfl) hf
  refine lv_iload_n hx hb dX0_changeHours_0 rfl (lv_at hl 1 rfl) ?_
  refine vp_callSi ((va_runSN (As := [.int p1]) (rest := []) ⟨hx, hb, hml, hown, hts⟩ (ok_X6_isMood l p1) ⟨va_cnB 1 hts gX0_changeHours_X6_isMood_n47 rfl rfl rfl (hamb.2.1 (.methodLinkNest RX0 47 yX6_isMood RX6) (List.mem_of_getElem? (i := 10) rfl)) lw0 (by decide +kernel) ⟨Nat.le_of_ble_eq_true rfl, Nat.le_of_ble_eq_true rfl⟩, lw1, trivial⟩ ⟨fun _ _ _ _ q => q, fun _ _ _ => ⟨rfl, trivial⟩⟩ rfl rfl hl.1 rfl (lv_room (Nat.le_of_ble_eq_true rfl)) dX0_changeHours_1 ⟨Nat.zero_le _, Nat.zero_le _⟩).run) (fun r1 hw => ?_)
  subst hw
  refine lv_if_ne (tgt := 9) hx hb dX0_changeHours_4 (by decide) (fun c => ?_) (fun c => ?_)
  · have hf := it_2 hf c
    refine lv_iload_n hx hb dX0_changeHours_9 rfl (lv_at hl 2 rfl) ?_
    refine lv_bipush (v := (-6)) hx hb dX0_changeHours_10 (by decide) ?_
    refine lv_icmp_eq (tgt := 37) hx hb dX0_changeHours_12 (by decide) (fun c => ?_) (fun c => ?_)
    · have hf := it_1 hf c
      exact J37 v0 p1 p2 p3 s.heap [] ls hP hD hS (lv_sub hl [0, 1, 2, 3] rfl) hf
    · have hf := it_2 hf c
      refine lv_iload_n hx hb dX0_changeHours_15 rfl (lv_at hl 2 rfl) ?_
      refine vp_callSi ((va_runSN (As := [.int p2]) (rest := []) ⟨hx, hb, hml, hown, hts⟩ (ok_X6_isHour l p2) ⟨va_cnB 1 hts gX0_changeHours_X6_isHour_n89 rfl rfl rfl (hamb.2.1 (.methodLinkNest RX0 89 yX6_isHour RX6) (List.mem_of_getElem? (i := 11) rfl)) lw0 (by decide +kernel) ⟨Nat.le_of_ble_eq_true rfl, Nat.le_of_ble_eq_true rfl⟩, lw5, trivial⟩ ⟨fun _ _ _ _ q => q, fun _ _ _ => ⟨rfl, trivial⟩⟩ rfl rfl hl.1 rfl (lv_room (Nat.le_of_ble_eq_true rfl)) dX0_changeHours_16 ⟨Nat.zero_le _, Nat.zero_le _⟩).run) (fun r16 hw => ?_)
      subst hw
      refine lv_if_eq (tgt := 34) hx hb dX0_changeHours_19 (by decide) (fun c => ?_) (fun c => ?_)
      · have hf := it_1 hf c
        refine lv_bipush (v := (-2)) hx hb dX0_changeHours_34 (by decide) ?_
        exact W.iret (v := (-2)) hx hb hr (fun t ht hW => ⟨⟨(-2), v0, rfl, hf0.trans hf.symm, by rw [ht]; exact hP, hD⟩, hS.F ht⟩) hS.2.2 dX0_changeHours_36
      · have hf := it_2 hf c
        refine lv_iload_n hx hb dX0_changeHours_22 rfl (lv_at hl 3 rfl) ?_
        refine vp_callSi ((va_runSN (As := [.int p3]) (rest := []) ⟨hx, hb, hml, hown, hts⟩ (ok_X6_isHour l p3) ⟨va_cnB 1 hts gX0_changeHours_X6_isHour_n89 rfl rfl rfl (hamb.2.1 (.methodLinkNest RX0 89 yX6_isHour RX6) (List.mem_of_getElem? (i := 11) rfl)) lw0 (by decide +kernel) ⟨Nat.le_of_ble_eq_true rfl, Nat.le_of_ble_eq_true rfl⟩, lw5, trivial⟩ ⟨fun _ _ _ _ q => q, fun _ _ _ => ⟨rfl, trivial⟩⟩ rfl rfl hl.1 rfl (lv_room (Nat.le_of_ble_eq_true rfl)) dX0_changeHours_23 ⟨Nat.zero_le _, Nat.zero_le _⟩).run) (fun r23 hw => ?_)
        subst hw
        refine lv_if_eq (tgt := 34) hx hb dX0_changeHours_26 (by decide) (fun c => ?_) (fun c => ?_)
        · have hf := it_1 hf c
          refine lv_bipush (v := (-2)) hx hb dX0_changeHours_34 (by decide) ?_
          exact W.iret (v := (-2)) hx hb hr (fun t ht hW => ⟨⟨(-2), v0, rfl, hf0.trans hf.symm, by rw [ht]; exact hP, hD⟩, hS.F ht⟩) hS.2.2 dX0_changeHours_36
        · have hf := it_2 hf c
          refine lv_iload_n hx hb dX0_changeHours_29 rfl (lv_at hl 2 rfl) ?_
          refine lv_iload_n hx hb dX0_changeHours_30 rfl (lv_at hl 3 rfl) ?_
          refine lv_icmp_ne (tgt := 37) hx hb dX0_changeHours_31 (by decide) (fun c => ?_) (fun c => ?_)
          · have hf := it_2 hf c
            exact J37 v0 p1 p2 p3 s.heap [] ls hP hD hS (lv_sub hl [0, 1, 2, 3] rfl) hf
          · have hf := it_1 hf c
            refine lv_bipush (v := (-2)) hx hb dX0_changeHours_34 (by decide) ?_
            exact W.iret (v := (-2)) hx hb hr (fun t ht hW => ⟨⟨(-2), v0, rfl, hf0.trans hf.symm, by rw [ht]; exact hP, hD⟩, hS.F ht⟩) hS.2.2 dX0_changeHours_36
  · have hf := it_1 hf c
    refine lv_iconst (v := (-1)) hx hb dX0_changeHours_7 (by decide) ?_
    exact W.iret (v := (-1)) hx hb hr (fun t ht hW => ⟨⟨(-1), v0, rfl, hf0.trans hf.symm, by rw [ht]; exact hP, hD⟩, hS.F ht⟩) hS.2.2 dX0_changeHours_8
set_option maxHeartbeats 4000000 in
set_option maxRecDepth 100000 in
theorem ok_X0_heatNow (l : Launch) (G : Gt) (a : Nat → Nat) (v0 : DV) (p1 : Int32) (hne : f_X0_heatNow v0 p1 ≠ none) : Met l yX0_heatNow wsX0_heatNow ({ frames := 1, cells := 0, slots := 0, locals := 40 } : Room) (pcR G [.ref (a 0), .int p1] (deskC G.2 a v0)) (vp_Si (fun r => f_X0_heatNow v0 p1 = some r)) 0 0 (fun _ => False) := by
  refine Met.ofW (cc := cX0_heatNow) (maxL := 3) (ret := (some .int)) (by decide) rfl ?_
  intro p e s m args below meth c s₁ B hml hv
  obtain ⟨rfl, hP, hamb⟩ := hv
  have hx := B.exec
  have hb := B.bytes
  have hr := B.returns
  have hts := atoms_spec (ws := wsX0_heatNow) B.pre
  have hown : s.vm.findClass RX0 = some m.cls := findClass_of_methodNamed B.named
  have hlocks := B.notSynchronized
  have hK := hamb.1
  obtain ⟨res, hf0⟩ : ∃ res, f_X0_heatNow v0 p1 = res := ⟨_, rfl⟩
  have hne : res ≠ none := hf0 ▸ hne
  have hf := hf0
  rw [f_X0_heatNow] at hf
  have hinX0 : ∀ w ∈ u_ws RX0 TX0 4, w ∈ wsX0_heatNow := by decide +kernel
  have hinX3 : ∀ w ∈ u_ws RX3 TX3 8, w ∈ wsX0_heatNow := by decide +kernel
  have lk25 := hts (.fieldLink RX0 25 "MoodDrawers$Desk" "letters" "LMoodDrawers$Letters;") (by decide +kernel)
  have lk61 := hts (.fieldLink RX0 61 "MoodDrawers$Letters" "how" "[I") (by decide +kernel)
  have lk70 := hts (.fieldLink RX0 70 "MoodDrawers$Letters" "writtenOn" "[I") (by decide +kernel)
  have lk67 := hts (.fieldLink RX0 67 "MoodDrawers$Letters" "heat" "[I") (by decide +kernel)
  have lk9 := hts (.fieldLink RX0 9 "MoodDrawers$Desk" "settings" "[I") (by decide +kernel)
  have lw5 := hts (.methodLink RX0 136 Lib.Math.max.name) (by decide +kernel)
  have lw6 := hts (.static Lib.Math.max.name) (by decide +kernel)
  have lw7 := hts (.initialized "java/lang/Math") (by decide +kernel)
  have lw8 := hts (.code Lib.Math.max.name Lib.Math.max.code 2 (some .int)) (by decide +kernel)
  have lk120 := hts (.fieldLink RX0 120 "MoodDrawers$Letters" "sentHeat" "[I") (by decide +kernel)
  have hl := lv_entry ([.ref (a 0), .int p1]) (n := 3) (Nat.le_of_ble_eq_true rfl)
  rw [lg_entry_eq]
  generalize (lg_sl ([.ref (a 0), .int p1]) ++ List.replicate (3 - (lg_sl ([.ref (a 0), .int p1])).length) Slot.unset).toArray = ls at hl ⊢
  have hl : lv_has ls 3 [(0, .ref (a 0)), (1, .int p1)] := hl
  refine lv_aload_n hx hb dX0_heatNow_0 rfl (lv_at hl 0 rfl) ?_
  refine va_get (D := G.1) (ci := 0) (v := .ref (a 7)) (C := RX0) (T := TX0) (N := 4) hx hb hts hinX0 hown hK hP 0 rfl rfl 3 (by decide) lk25 (fun _ h9 => h9) rfl dX0_heatNow_1 ?_
  refine va_get (D := G.1) (ci := 3) (v := .ref (a 12)) (C := RX3) (T := TX3) (N := 8) hx hb hts hinX3 hown hK hP 7 rfl rfl 5 (by decide) lk61 (fun _ h9 => h9) rfl dX0_heatNow_4 ?_
  refine lv_iload_n hx hb dX0_heatNow_7 rfl (lv_at hl 1 rfl) ?_
  obtain ⟨hi, hf⟩ := ck_1 hf hne
  refine va_iald (f := (v0 11)) hx hb hK hP 12 0 rfl rfl (ixb_1 hi) dX0_heatNow_8 ?_
  refine lv_iconst (v := 1) hx hb dX0_heatNow_9 (by decide) ?_
  refine lv_icmp_ne (tgt := 23) hx hb dX0_heatNow_10 (by decide) (fun c => ?_) (fun c => ?_)
  · have hf := it_2 hf c
    refine lv_aload_n hx hb dX0_heatNow_23 rfl (lv_at hl 0 rfl) ?_
    refine vp_callSi (W.runV (As := []) (rest := []) ⟨hx, hb, hml, hown, hts⟩ (ok_X0_today l G a v0) (cwV 0 hts gX0_heatNow_X0_today rfl rfl rfl (by decide +kernel) ⟨Nat.le_of_ble_eq_true rfl, Nat.le_of_ble_eq_true rfl⟩) ⟨pcR_blind, va_recv hK hP (ci := 0) (q0 := 0) rfl rfl, pcR_pre hP hamb⟩ rfl rfl hl.1 rfl (lv_room (Nat.le_of_ble_eq_true rfl)) dX0_heatNow_24 ⟨Nat.zero_le _, Nat.zero_le _⟩) (fun r24 hw => ?_)
    subst hw
    refine lv_aload_n hx hb dX0_heatNow_27 rfl (lv_at hl 0 rfl) ?_
    refine va_get (D := G.1) (ci := 0) (v := .ref (a 7)) (C := RX0) (T := TX0) (N := 4) hx hb hts hinX0 hown hK hP 0 rfl rfl 3 (by decide) lk25 (fun _ h9 => h9) rfl dX0_heatNow_28 ?_
    refine va_get (D := G.1) (ci := 3) (v := .ref (a 10)) (C := RX3) (T := TX3) (N := 8) hx hb hts hinX3 hown hK hP 7 rfl rfl 3 (by decide) lk70 (fun _ h9 => h9) rfl dX0_heatNow_31 ?_
    refine lv_iload_n hx hb dX0_heatNow_34 rfl (lv_at hl 1 rfl) ?_
    obtain ⟨hi, hf⟩ := ck_1 hf hne
    refine va_iald (f := (v0 9)) hx hb hK hP 10 0 rfl rfl (ixb_1 hi) dX0_heatNow_35 ?_
    refine lv_isub hx hb dX0_heatNow_36 ?_
    refine lv_istore_n (lv' := [(2, .int ((f_X0_today v0) - ((v0 9) (Int32.toNatClampNeg p1)))), (0, .ref (a 0)), (1, .int p1)]) hx hb dX0_heatNow_37 rfl hl (by decide) rfl (fun ls hl => ?_)
    refine lv_iconst (v := 0) hx hb dX0_heatNow_38 (by decide) ?_
    refine lv_aload_n hx hb dX0_heatNow_39 rfl (lv_at hl 1 rfl) ?_
    refine va_get (D := G.1) (ci := 0) (v := .ref (a 7)) (C := RX0) (T := TX0) (N := 4) hx hb hts hinX0 hown hK hP 0 rfl rfl 3 (by decide) lk25 (fun _ h9 => h9) rfl dX0_heatNow_40 ?_
    refine va_get (D := G.1) (ci := 3) (v := .ref (a 9)) (C := RX3) (T := TX3) (N := 8) hx hb hts hinX3 hown hK hP 7 rfl rfl 2 (by decide) lk67 (fun _ h9 => h9) rfl dX0_heatNow_43 ?_
    refine lv_iload_n hx hb dX0_heatNow_46 rfl (lv_at hl 2 rfl) ?_
    obtain ⟨hi, hf⟩ := ck_1 hf hne
    refine va_iald (f := (v0 8)) hx hb hK hP 9 0 rfl rfl (ixb_1 hi) dX0_heatNow_47 ?_
    refine lv_aload_n hx hb dX0_heatNow_48 rfl (lv_at hl 1 rfl) ?_
    refine va_get (D := G.1) (ci := 0) (v := .ref (a 1)) (C := RX0) (T := TX0) (N := 4) hx hb hts hinX0 hown hK hP 0 rfl rfl 0 (by decide) lk9 (fun _ h9 => h9) rfl dX0_heatNow_49 ?_
    refine lv_iconst (v := 2) hx hb dX0_heatNow_52 (by decide) ?_
    refine va_iald (f := (v0 2)) hx hb hK hP 1 0 rfl rfl (ixb_1 (show ixb 2 3 = true from rfl)) dX0_heatNow_53 ?_
    refine lv_iload_n hx hb dX0_heatNow_54 rfl (lv_at hl 0 rfl) ?_
    refine lv_imul hx hb dX0_heatNow_55 ?_
    refine lv_isub hx hb dX0_heatNow_56 ?_
    refine va_mmax (rest := []) hx hb (hml.trans hl.1.symm) hown lw5 lw6 lw7 lw8 (Nat.le_of_ble_eq_true rfl) (Nat.le_of_ble_eq_true rfl) (Nat.zero_le _) (Nat.zero_le _) dX0_heatNow_57 ?_
    exact W.iret (v := (if 0 < (((v0 8) (Int32.toNatClampNeg p1)) - (((v0 2) (Int32.toNatClampNeg 2)) * ((f_X0_today v0) - ((v0 9) (Int32.toNatClampNeg p1))))) then (((v0 8) (Int32.toNatClampNeg p1)) - (((v0 2) (Int32.toNatClampNeg 2)) * ((f_X0_today v0) - ((v0 9) (Int32.toNatClampNeg p1))))) else 0)) hx hb hr (fun t ht hW => ⟨(if 0 < (((v0 8) (Int32.toNatClampNeg p1)) - (((v0 2) (Int32.toNatClampNeg 2)) * ((f_X0_today v0) - ((v0 9) (Int32.toNatClampNeg p1))))) then (((v0 8) (Int32.toNatClampNeg p1)) - (((v0 2) (Int32.toNatClampNeg 2)) * ((f_X0_today v0) - ((v0 9) (Int32.toNatClampNeg p1))))) else 0), rfl, hf0.trans hf.symm, ht⟩) (fun _ hq => absurd hq List.not_mem_nil) dX0_heatNow_60
  · have hf := it_1 hf c
    refine lv_aload_n hx hb dX0_heatNow_13 rfl (lv_at hl 0 rfl) ?_
    refine va_get (D := G.1) (ci := 0) (v := .ref (a 7)) (C := RX0) (T := TX0) (N := 4) hx hb hts hinX0 hown hK hP 0 rfl rfl 3 (by decide) lk25 (fun _ h9 => h9) rfl dX0_heatNow_14 ?_
    refine va_get (D := G.1) (ci := 3) (v := .ref (a 14)) (C := RX3) (T := TX3) (N := 8) hx hb hts hinX3 hown hK hP 7 rfl rfl 7 (by decide) lk120 (fun _ h9 => h9) rfl dX0_heatNow_17 ?_
    refine lv_iload_n hx hb dX0_heatNow_20 rfl (lv_at hl 1 rfl) ?_
    obtain ⟨hi, hf⟩ := ck_1 hf hne
    refine va_iald (f := (v0 13)) hx hb hK hP 14 0 rfl rfl (ixb_1 hi) dX0_heatNow_21 ?_
    exact W.iret (v := ((v0 13) (Int32.toNatClampNeg p1))) hx hb hr (fun t ht hW => ⟨((v0 13) (Int32.toNatClampNeg p1)), rfl, hf0.trans hf.symm, ht⟩) (fun _ hq => absurd hq List.not_mem_nil) dX0_heatNow_22
set_option maxHeartbeats 4000000 in
set_option maxRecDepth 100000 in
theorem ok_X0_isShut (l : Launch) (G : Gt) (a : Nat → Nat) (v0 : DV) (p1 : Int32) (hne : f_X0_isShut v0 p1 ≠ none) : Met l yX0_isShut wsX0_isShut ({ frames := 1, cells := 0, slots := 0, locals := 20 } : Room) (pcR G [.ref (a 0), .int p1] (deskC G.2 a v0)) (vp_Si (fun r => f_X0_isShut v0 p1 = some r)) 0 0 (fun _ => False) := by
  refine Met.ofW (cc := cX0_isShut) (maxL := 2) (ret := (some .boolean)) (by decide) rfl ?_
  intro p e s m args below meth c s₁ B hml hv
  obtain ⟨rfl, hP, hamb⟩ := hv
  have hx := B.exec
  have hb := B.bytes
  have hr := B.returns
  have hts := atoms_spec (ws := wsX0_isShut) B.pre
  have hown : s.vm.findClass RX0 = some m.cls := findClass_of_methodNamed B.named
  have hlocks := B.notSynchronized
  have hK := hamb.1
  obtain ⟨res, hf0⟩ : ∃ res, f_X0_isShut v0 p1 = res := ⟨_, rfl⟩
  have hne : res ≠ none := hf0 ▸ hne
  have hf := hf0
  rw [f_X0_isShut] at hf
  have hinX0 : ∀ w ∈ u_ws RX0 TX0 4, w ∈ wsX0_isShut := by decide +kernel
  have hinX1 : ∀ w ∈ u_ws RX1 TX1 4, w ∈ wsX0_isShut := by decide +kernel
  have lw0 := hts (.initialized RX6) (by decide +kernel)
  have lw1 := hts (.static yX6_isMood) (by decide +kernel)
  have lk18 := hts (.fieldLink RX0 18 "MoodDrawers$Desk" "drawers" "LMoodDrawers$Drawers;") (by decide +kernel)
  have lk83 := hts (.fieldLink RX0 83 "MoodDrawers$Drawers" "locked" "[I") (by decide +kernel)
  have hl := lv_entry ([.ref (a 0), .int p1]) (n := 2) (Nat.le_of_ble_eq_true rfl)
  rw [lg_entry_eq]
  generalize (lg_sl ([.ref (a 0), .int p1]) ++ List.replicate (2 - (lg_sl ([.ref (a 0), .int p1])).length) Slot.unset).toArray = ls at hl ⊢
  have hl : lv_has ls 2 [(0, .ref (a 0)), (1, .int p1)] := hl
  refine lv_iload_n hx hb dX0_isShut_0 rfl (lv_at hl 1 rfl) ?_
  refine vp_callSi ((va_runSN (As := [.int p1]) (rest := []) ⟨hx, hb, hml, hown, hts⟩ (ok_X6_isMood l p1) ⟨va_cnB 1 hts gX0_isShut_X6_isMood_n47 rfl rfl rfl (hamb.2.1 (.methodLinkNest RX0 47 yX6_isMood RX6) (List.mem_of_getElem? (i := 10) rfl)) lw0 (by decide +kernel) ⟨Nat.le_of_ble_eq_true rfl, Nat.le_of_ble_eq_true rfl⟩, lw1, trivial⟩ ⟨fun _ _ _ _ q => q, fun _ _ _ => ⟨rfl, trivial⟩⟩ rfl rfl hl.1 rfl (lv_room (Nat.le_of_ble_eq_true rfl)) dX0_isShut_1 ⟨Nat.zero_le _, Nat.zero_le _⟩).run) (fun r1 hw => ?_)
  subst hw
  refine lv_if_eq (tgt := 24) hx hb dX0_isShut_4 (by decide) (fun c => ?_) (fun c => ?_)
  · have hf := it_1 hf c
    refine lv_iconst (v := 0) hx hb dX0_isShut_24 (by decide) ?_
    exact W.zret (ty := .boolean) (v := 0) hx hb hr rfl (fun t ht hW => ⟨0, rfl, hf0.trans hf.symm, ht⟩) (fun _ hq => absurd hq List.not_mem_nil) dX0_isShut_25
  · have hf := it_2 hf c
    refine lv_aload_n hx hb dX0_isShut_7 rfl (lv_at hl 0 rfl) ?_
    refine va_get (D := G.1) (ci := 0) (v := .ref (a 2)) (C := RX0) (T := TX0) (N := 4) hx hb hts hinX0 hown hK hP 0 rfl rfl 2 (by decide) lk18 (fun _ h9 => h9) rfl dX0_isShut_8 ?_
    refine va_get (D := G.1) (ci := 1) (v := .ref (a 4)) (C := RX1) (T := TX1) (N := 4) hx hb hts hinX1 hown hK hP 2 rfl rfl 1 (by decide) lk83 (fun _ h9 => h9) rfl dX0_isShut_11 ?_
    refine lv_iload_n hx hb dX0_isShut_14 rfl (lv_at hl 1 rfl) ?_
    obtain ⟨hi, hf⟩ := ck_1 hf hne
    refine va_iald (f := (v0 4)) hx hb hK hP 4 0 rfl rfl (ixb_1 hi) dX0_isShut_15 ?_
    refine lv_iconst (v := 1) hx hb dX0_isShut_16 (by decide) ?_
    refine lv_icmp_ne (tgt := 24) hx hb dX0_isShut_17 (by decide) (fun c => ?_) (fun c => ?_)
    · have hf := it_2 hf c
      refine lv_iconst (v := 0) hx hb dX0_isShut_24 (by decide) ?_
      exact W.zret (ty := .boolean) (v := 0) hx hb hr rfl (fun t ht hW => ⟨0, rfl, hf0.trans hf.symm, ht⟩) (fun _ hq => absurd hq List.not_mem_nil) dX0_isShut_25
    · have hf := it_1 hf c
      refine lv_iconst (v := 1) hx hb dX0_isShut_20 (by decide) ?_
      refine lv_goto (tgt := 25) hx hb dX0_isShut_21 (by decide) ?_
      exact W.zret (ty := .boolean) (v := 1) hx hb hr rfl (fun t ht hW => ⟨1, rfl, hf0.trans hf.symm, ht⟩) (fun _ hq => absurd hq List.not_mem_nil) dX0_isShut_25
set_option maxHeartbeats 4000000 in
set_option maxRecDepth 100000 in
theorem ok_X0_burnLetter (l : Launch) (G : Gt) (a : Nat → Nat) (sz : Nat) (v0 : DV) (p1 : Int32) (hne : f_X0_burnLetter v0 p1 ≠ none) : Met l yX0_burnLetter wsX0_burnLetter ({ frames := 2, cells := 0, slots := 0, locals := 62 } : Room) (pcW G [.ref (a 0), .int p1] (deskC G.2 a v0) sz) (va_Qi (fun r (u : DV) => f_X0_burnLetter v0 p1 = some (r, u)) (fun u t => atW G (deskC G.2 a u) (va_A (deskC G.2 a v0) sz) t) (va_A (deskC G.2 a v0) sz)) 0 0 (va_A (deskC G.2 a v0) sz) := by
  refine Met.ofW (cc := cX0_burnLetter) (maxL := 2) (ret := (some .int)) (by decide) rfl ?_
  intro p e s m args below meth c s₁ B hml hv
  obtain ⟨rfl, hsz, hP, hD0, hamb⟩ := hv
  have hx := B.exec
  have hb := B.bytes
  have hr := B.returns
  have hts := atoms_spec (ws := wsX0_burnLetter) B.pre
  have hown : s.vm.findClass RX0 = some m.cls := findClass_of_methodNamed B.named
  have hlocks := B.notSynchronized
  have hK := hamb.1
  subst hsz
  have hD := hD0.self (sz := s.heap.size)
  generalize hAe : va_A (deskC G.2 a v0) s.heap.size = A at hD ⊢
  have hA : ∀ q : Nat, s.heap.size ≤ q → A q := fun q h => by rw [← hAe]; exact Or.inr h
  have hS : va_S A s.heap s.heap [] := va_S.rf
  obtain ⟨res, hf0⟩ : ∃ res, f_X0_burnLetter v0 p1 = res := ⟨_, rfl⟩
  have hne : res ≠ none := hf0 ▸ hne
  have hf := hf0
  rw [f_X0_burnLetter] at hf
  have hinX0 : ∀ w ∈ u_ws RX0 TX0 4, w ∈ wsX0_burnLetter := by decide +kernel
  have hinX3 : ∀ w ∈ u_ws RX3 TX3 8, w ∈ wsX0_burnLetter := by decide +kernel
  have lk25 := hts (.fieldLink RX0 25 "MoodDrawers$Desk" "letters" "LMoodDrawers$Letters;") (by decide +kernel)
  have lk61 := hts (.fieldLink RX0 61 "MoodDrawers$Letters" "how" "[I") (by decide +kernel)
  have lk64 := hts (.fieldLink RX0 64 "MoodDrawers$Letters" "mood" "[I") (by decide +kernel)
  have hl := lv_entry ([.ref (a 0), .int p1]) (n := 2) (Nat.le_of_ble_eq_true rfl)
  rw [lg_entry_eq]
  generalize (lg_sl ([.ref (a 0), .int p1]) ++ List.replicate (2 - (lg_sl ([.ref (a 0), .int p1])).length) Slot.unset).toArray = ls at hl ⊢
  have hl : lv_has ls 2 [(0, .ref (a 0)), (1, .int p1)] := hl
  refine lv_aload_n hx hb dX0_burnLetter_0 rfl (lv_at hl 0 rfl) ?_
  refine va_get (D := G.1) (ci := 0) (v := .ref (a 7)) (C := RX0) (T := TX0) (N := 4) hx hb hts hinX0 hown hK hP 0 rfl rfl 3 (by decide) lk25 (fun _ h9 => h9) rfl dX0_burnLetter_1 ?_
  refine lv_iload_n hx hb dX0_burnLetter_4 rfl (lv_at hl 1 rfl) ?_
  refine vp_callSi (W.runV (As := [.int p1]) (rest := []) ⟨hx, hb, hml, hown, hts⟩ (ok_X3_isLetter l G a v0 p1) (cwV 1 hts gX0_burnLetter_X3_isLetter rfl rfl rfl (by decide +kernel) ⟨Nat.le_of_ble_eq_true rfl, Nat.le_of_ble_eq_true rfl⟩) ⟨pcR_blind, va_recv hK (hP.sub (ws' := (lettersC G.2 a v0)) [7, 8, 9, 10, 11, 12, 13, 14] rfl) (ci := 3) (q0 := 0) rfl rfl, pcR_pre (hP.sub (ws' := (lettersC G.2 a v0)) [7, 8, 9, 10, 11, 12, 13, 14] rfl) hamb⟩ rfl rfl hl.1 rfl (lv_room (Nat.le_of_ble_eq_true rfl)) dX0_burnLetter_5 ⟨Nat.zero_le _, Nat.zero_le _⟩) (fun r5 hw => ?_)
  subst hw
  refine lv_if_ne (tgt := 13) hx hb dX0_burnLetter_8 (by decide) (fun c => ?_) (fun c => ?_)
  · have hf := it_2 hf c
    refine lv_aload_n hx hb dX0_burnLetter_13 rfl (lv_at hl 0 rfl) ?_
    refine va_get (D := G.1) (ci := 0) (v := .ref (a 7)) (C := RX0) (T := TX0) (N := 4) hx hb hts hinX0 hown hK hP 0 rfl rfl 3 (by decide) lk25 (fun _ h9 => h9) rfl dX0_burnLetter_14 ?_
    refine va_get (D := G.1) (ci := 3) (v := .ref (a 12)) (C := RX3) (T := TX3) (N := 8) hx hb hts hinX3 hown hK hP 7 rfl rfl 5 (by decide) lk61 (fun _ h9 => h9) rfl dX0_burnLetter_17 ?_
    refine lv_iload_n hx hb dX0_burnLetter_20 rfl (lv_at hl 1 rfl) ?_
    obtain ⟨hi, hf⟩ := ck_1 hf hne
    refine va_iald (f := (v0 11)) hx hb hK hP 12 0 rfl rfl (ixb_1 hi) dX0_burnLetter_21 ?_
    refine lv_if_ne (tgt := 41) hx hb dX0_burnLetter_22 (by decide) (fun c => ?_) (fun c => ?_)
    · have hf := it_2 hf c
      refine lv_bipush (v := (-5)) hx hb dX0_burnLetter_41 (by decide) ?_
      exact W.iret (v := (-5)) hx hb hr (fun t ht hW => ⟨⟨(-5), v0, rfl, hf0.trans hf.symm, by rw [ht]; exact hP, hD⟩, hS.F ht⟩) hS.2.2 dX0_burnLetter_43
    · have hf := it_1 hf c
      refine lv_aload_n hx hb dX0_burnLetter_25 rfl (lv_at hl 0 rfl) ?_
      refine lv_aload_n hx hb dX0_burnLetter_26 rfl (lv_at hl 0 rfl) ?_
      refine va_get (D := G.1) (ci := 0) (v := .ref (a 7)) (C := RX0) (T := TX0) (N := 4) hx hb hts hinX0 hown hK hP 0 rfl rfl 3 (by decide) lk25 (fun _ h9 => h9) rfl dX0_burnLetter_27 ?_
      refine va_get (D := G.1) (ci := 3) (v := .ref (a 8)) (C := RX3) (T := TX3) (N := 8) hx hb hts hinX3 hown hK hP 7 rfl rfl 1 (by decide) lk64 (fun _ h9 => h9) rfl dX0_burnLetter_30 ?_
      refine lv_iload_n hx hb dX0_burnLetter_33 rfl (lv_at hl 1 rfl) ?_
      obtain ⟨hi, hf⟩ := ck_1 hf hne
      refine va_iald (f := (v0 7)) hx hb hK hP 8 0 rfl rfl (ixb_1 hi) dX0_burnLetter_34 ?_
      have hn := bd1_1 hf hne
      refine vp_callSi (W.runV (As := [.int ((v0 7) (Int32.toNatClampNeg p1))]) (rest := []) ⟨hx, hb, hml, hown, hts⟩ (ok_X0_isShut l G a v0 ((v0 7) (Int32.toNatClampNeg p1)) hn) (cwV 1 hts gX0_burnLetter_X0_isShut rfl rfl rfl (by decide +kernel) ⟨Nat.le_of_ble_eq_true rfl, Nat.le_of_ble_eq_true rfl⟩) ⟨pcR_blind, va_recv hK hP (ci := 0) (q0 := 0) rfl rfl, pcR_pre hP hamb⟩ rfl rfl hl.1 rfl (lv_room (Nat.le_of_ble_eq_true rfl)) dX0_burnLetter_35 ⟨Nat.zero_le _, Nat.zero_le _⟩) (fun r35 hw => ?_)
      have hf := bd1_2 hf hw
      refine lv_if_eq (tgt := 44) hx hb dX0_burnLetter_38 (by decide) (fun c => ?_) (fun c => ?_)
      · have hf := it_1 hf c
        refine lv_aload_n hx hb dX0_burnLetter_44 rfl (lv_at hl 0 rfl) ?_
        refine va_get (D := G.1) (ci := 0) (v := .ref (a 7)) (C := RX0) (T := TX0) (N := 4) hx hb hts hinX0 hown hK hP 0 rfl rfl 3 (by decide) lk25 (fun _ h9 => h9) rfl dX0_burnLetter_45 ?_
        refine va_get (D := G.1) (ci := 3) (v := .ref (a 12)) (C := RX3) (T := TX3) (N := 8) hx hb hts hinX3 hown hK hP 7 rfl rfl 5 (by decide) lk61 (fun _ h9 => h9) rfl dX0_burnLetter_48 ?_
        refine lv_iload_n hx hb dX0_burnLetter_51 rfl (lv_at hl 1 rfl) ?_
        refine lv_iconst (v := 2) hx hb dX0_burnLetter_52 (by decide) ?_
        obtain ⟨hi, hf⟩ := ck_1 hf hne
        refine va_iast (f := (v0 11)) hx hb hK hP hD hS 12 0 rfl rfl (ixb_1 hi) dX0_burnLetter_53 (fun H locs hP hD hS => ?_)
        have hP : va_P G.1 vwCl (deskC G.2 a (vs v0 11 (upd (v0 11) (Int32.toNatClampNeg p1) 2))) H := hP
        have hD : va_D A (deskC G.2 a (vs v0 11 (upd (v0 11) (Int32.toNatClampNeg p1) 2))) := hD
        refine lv_aload_n hx hb dX0_burnLetter_54 rfl (lv_at hl 0 rfl) ?_
        refine lv_iload_n hx hb dX0_burnLetter_55 rfl (lv_at hl 1 rfl) ?_
        have hn := bd1_1 hf hne
        refine vp_callSi (W.runV (As := [.int p1]) (rest := []) ⟨hx, hb, hml, hown, hts⟩ (ok_X0_heatNow l G a (vs v0 11 (upd (v0 11) (Int32.toNatClampNeg p1) 2)) p1 hn) (cwV 1 hts gX0_burnLetter_X0_heatNow rfl rfl rfl (by decide +kernel) ⟨Nat.le_of_ble_eq_true rfl, Nat.le_of_ble_eq_true rfl⟩) ⟨pcR_blind, va_recv hK hP (ci := 0) (q0 := 0) rfl rfl, pcR_pre hP hamb⟩ rfl rfl hl.1 rfl (lv_room (Nat.le_of_ble_eq_true rfl)) dX0_burnLetter_56 ⟨Nat.zero_le _, Nat.zero_le _⟩) (fun r56 hw => ?_)
        have hf := bd1_2 hf hw
        exact W.iret (v := r56) hx hb hr (fun t ht hW => ⟨⟨r56, (vs v0 11 (upd (v0 11) (Int32.toNatClampNeg p1) 2)), rfl, hf0.trans hf.symm, by rw [ht]; exact hP, hD⟩, hS.F ht⟩) hS.2.2 dX0_burnLetter_59
      · have hf := it_2 hf c
        refine lv_bipush (v := (-5)) hx hb dX0_burnLetter_41 (by decide) ?_
        exact W.iret (v := (-5)) hx hb hr (fun t ht hW => ⟨⟨(-5), v0, rfl, hf0.trans hf.symm, by rw [ht]; exact hP, hD⟩, hS.F ht⟩) hS.2.2 dX0_burnLetter_43
  · have hf := it_1 hf c
    refine lv_iconst (v := (-1)) hx hb dX0_burnLetter_11 (by decide) ?_
    exact W.iret (v := (-1)) hx hb hr (fun t ht hW => ⟨⟨(-1), v0, rfl, hf0.trans hf.symm, by rw [ht]; exact hP, hD⟩, hS.F ht⟩) hS.2.2 dX0_burnLetter_12
set_option maxHeartbeats 4000000 in
set_option maxRecDepth 100000 in
theorem ok_X0_send (l : Launch) (G : Gt) (a : Nat → Nat) (sz : Nat) (n0 : Nat) (v0 : DV) (p1 : Int64) (hne : f_X0_send n0 v0 p1 ≠ none) : Met l yX0_send wsX0_send ({ frames := 2, cells := 0, slots := 0, locals := 62 } : Room) (pcW G [.ref (a 0), .long p1] (deskC G.2 a v0) sz) (va_Qi (fun r (u : DV) => f_X0_send n0 v0 p1 = some (r, u)) (fun u t => atW G (deskC G.2 a u) (va_A (deskC G.2 a v0) sz) t) (va_A (deskC G.2 a v0) sz)) 0 0 (va_A (deskC G.2 a v0) sz) := by
  refine Met.ofW (cc := cX0_send) (maxL := 4) (ret := (some .int)) (by decide) rfl ?_
  intro p e s m args below meth c s₁ B hml hv
  obtain ⟨rfl, hsz, hP, hD0, hamb⟩ := hv
  have hx := B.exec
  have hb := B.bytes
  have hr := B.returns
  have hts := atoms_spec (ws := wsX0_send) B.pre
  have hown : s.vm.findClass RX0 = some m.cls := findClass_of_methodNamed B.named
  have hlocks := B.notSynchronized
  have hK := hamb.1
  subst hsz
  have hD := hD0.self (sz := s.heap.size)
  generalize hAe : va_A (deskC G.2 a v0) s.heap.size = A at hD ⊢
  have hA : ∀ q : Nat, s.heap.size ≤ q → A q := fun q h => by rw [← hAe]; exact Or.inr h
  have hS : va_S A s.heap s.heap [] := va_S.rf
  obtain ⟨res, hf0⟩ : ∃ res, f_X0_send n0 v0 p1 = res := ⟨_, rfl⟩
  have hne : res ≠ none := hf0 ▸ hne
  have hf := hf0
  rw [f_X0_send] at hf
  have hinX0 : ∀ w ∈ u_ws RX0 TX0 4, w ∈ wsX0_send := by decide +kernel
  have hinX3 : ∀ w ∈ u_ws RX3 TX3 8, w ∈ wsX0_send := by decide +kernel
  have lk25 := hts (.fieldLink RX0 25 "MoodDrawers$Desk" "letters" "LMoodDrawers$Letters;") (by decide +kernel)
  have lk54 := hts (.fieldLink RX0 54 "MoodDrawers$Letters" "written" "I") (by decide +kernel)
  have lk120 := hts (.fieldLink RX0 120 "MoodDrawers$Letters" "sentHeat" "[I") (by decide +kernel)
  have lk80 := hts (.fieldLink RX0 80 "MoodDrawers$Letters" "sentOn" "[I") (by decide +kernel)
  have lk61 := hts (.fieldLink RX0 61 "MoodDrawers$Letters" "how" "[I") (by decide +kernel)
  have hl := lv_entry ([.ref (a 0), .long p1]) (n := 4) (Nat.le_of_ble_eq_true rfl)
  rw [lg_entry_eq]
  generalize (lg_sl ([.ref (a 0), .long p1]) ++ List.replicate (4 - (lg_sl ([.ref (a 0), .long p1])).length) Slot.unset).toArray = ls at hl ⊢
  have hl : lv_has ls 4 [(0, .ref (a 0)), (1, .long p1)] := hl
  have L2 : ∀ (n : Nat) (v : DV) (x1 : Int64) (x3 : Int32) (H : Heap) (locs : List Loc) (ls : Array Slot), va_P G.1 vwCl (deskC G.2 a v) H → va_D A (deskC G.2 a v) → va_S A s.heap H locs → lv_has ls 4 [(0, .ref (a 0)), (1, .long x1), (3, .int x3)] → f_X0_send_L2 n v x1 x3 = res → W p l e (headSpec wsX0_send ({ frames := 2, cells := 0, slots := 0, locals := 62 } : Room)).room s m ([.ref (a 0), .long p1] : List Value).toArray below meth c H locs 0 0 (MQ below (va_Qi (fun r (u : DV) => f_X0_send n0 v0 p1 = some (r, u)) (fun u t => atW G (deskC G.2 a u) A t) A) ([.ref (a 0), .long p1] : List Value).toArray s 0 0 A) (F0 m 2 ls []) := by
    intro n
    induction n with
    | zero => intro v x1 x3 H locs ls hP hD hS hl hf; exact (none_1 hf hne).elim
    | succ n ih =>
      intro v x1 x3 H locs ls hP hD hS hl hf
      rw [f_X0_send_L2] at hf
      refine lv_iload_n hx hb dX0_send_2 rfl (lv_at hl 2 rfl) ?_
      refine lv_aload_n hx hb dX0_send_3 rfl (lv_at hl 0 rfl) ?_
      refine va_get (D := G.1) (ci := 0) (v := .ref (a 7)) (C := RX0) (T := TX0) (N := 4) hx hb hts hinX0 hown hK hP 0 rfl rfl 3 (by decide) lk25 (fun _ h9 => h9) rfl dX0_send_4 ?_
      refine va_get (D := G.1) (ci := 3) (v := .int (v 1 0)) (C := RX3) (T := TX3) (N := 8) hx hb hts hinX3 hown hK hP 7 rfl rfl 0 (by decide) lk54 (fun _ h9 => h9) rfl dX0_send_7 ?_
      refine lv_icmp_ge (tgt := 66) hx hb dX0_send_10 (by decide) (fun c => ?_) (fun c => ?_)
      · have hf := it_1 hf c
        refine lv_lload_n hx hb dX0_send_66 rfl (lv_at hl 1 rfl) ?_
        refine vp_callSi (W.runS (As := [.long x1]) (rest := []) ⟨hx, hb, hml, hown, hts⟩ (ok_J13_bitCount_95d88 l x1) (va_cwS 1 hts gX0_send_J13_bitCount_95d88 rfl rfl rfl (by decide +kernel) ⟨Nat.le_of_ble_eq_true rfl, Nat.le_of_ble_eq_true rfl⟩) ⟨fun _ _ _ _ q => q, fun _ _ _ => ⟨rfl, trivial⟩⟩ rfl rfl hl.1 rfl (lv_room (Nat.le_of_ble_eq_true rfl)) dX0_send_67 ⟨Nat.zero_le _, Nat.zero_le _⟩) (fun r67 hw => ?_)
        subst hw
        exact W.iret (v := (f_J13_bitCount_95d88 x1)) hx hb hr (fun t ht hW => ⟨⟨(f_J13_bitCount_95d88 x1), v, rfl, hf0.trans hf.symm, by rw [ht]; exact hP, hD⟩, hS.F ht⟩) hS.2.2 dX0_send_70
      · have hf := it_2 hf c
        refine lv_lload_n hx hb dX0_send_13 rfl (lv_at hl 1 rfl) ?_
        refine lv_iload_n hx hb dX0_send_14 rfl (lv_at hl 2 rfl) ?_
        refine lv_lushr hx hb dX0_send_15 rfl ?_
        refine lv_lconst (v := 1) hx hb dX0_send_16 (by decide) ?_
        refine lv_land hx hb dX0_send_17 ?_
        refine lv_lconst (v := 1) hx hb dX0_send_18 (by decide) ?_
        refine W.lcmp hx hb dX0_send_19 ?_
        refine lv_if_ne (tgt := 60) hx hb dX0_send_20 (by decide) (fun c => ?_) (fun c => ?_)
        · have hf := it_2 hf c
          refine lv_iinc (v := (x3 + 1)) (lv' := [(3, .int (x3 + 1)), (0, .ref (a 0)), (1, .long x1)]) hx hb dX0_send_60 hl (k := 2) rfl rfl (by decide) rfl (fun ls hl => ?_)
          refine lv_goto (tgt := 2) hx hb dX0_send_63 (by decide) ?_
          exact ih v x1 (x3 + 1) H locs ls hP hD hS (lv_sub hl [1, 2, 0] rfl) hf
        · have hf := it_1 hf c
          refine lv_aload_n hx hb dX0_send_23 rfl (lv_at hl 0 rfl) ?_
          refine va_get (D := G.1) (ci := 0) (v := .ref (a 7)) (C := RX0) (T := TX0) (N := 4) hx hb hts hinX0 hown hK hP 0 rfl rfl 3 (by decide) lk25 (fun _ h9 => h9) rfl dX0_send_24 ?_
          refine va_get (D := G.1) (ci := 3) (v := .ref (a 14)) (C := RX3) (T := TX3) (N := 8) hx hb hts hinX3 hown hK hP 7 rfl rfl 7 (by decide) lk120 (fun _ h9 => h9) rfl dX0_send_27 ?_
          refine lv_iload_n hx hb dX0_send_30 rfl (lv_at hl 2 rfl) ?_
          refine lv_aload_n hx hb dX0_send_31 rfl (lv_at hl 0 rfl) ?_
          refine lv_iload_n hx hb dX0_send_32 rfl (lv_at hl 2 rfl) ?_
          have hn := bd1_1 hf hne
          refine vp_callSi (W.runV (As := [.int x3]) (rest := [.int x3, .ref (a 14)]) ⟨hx, hb, hml, hown, hts⟩ (ok_X0_heatNow l G a v x3 hn) (cwV 1 hts gX0_send_X0_heatNow rfl rfl rfl (by decide +kernel) ⟨Nat.le_of_ble_eq_true rfl, Nat.le_of_ble_eq_true rfl⟩) ⟨pcR_blind, va_recv hK hP (ci := 0) (q0 := 0) rfl rfl, pcR_pre hP hamb⟩ rfl rfl hl.1 rfl (lv_room (Nat.le_of_ble_eq_true rfl)) dX0_send_33 ⟨Nat.zero_le _, Nat.zero_le _⟩) (fun r33 hw => ?_)
          have hf := bd1_2 hf hw
          obtain ⟨hi, hf⟩ := ck_1 hf hne
          refine va_iast (f := (v 13)) hx hb hK hP hD hS 14 0 rfl rfl (ixb_1 hi) dX0_send_36 (fun H locs hP hD hS => ?_)
          have hP : va_P G.1 vwCl (deskC G.2 a (vs v 13 (upd (v 13) (Int32.toNatClampNeg x3) r33))) H := hP
          have hD : va_D A (deskC G.2 a (vs v 13 (upd (v 13) (Int32.toNatClampNeg x3) r33))) := hD
          refine lv_aload_n hx hb dX0_send_37 rfl (lv_at hl 0 rfl) ?_
          refine va_get (D := G.1) (ci := 0) (v := .ref (a 7)) (C := RX0) (T := TX0) (N := 4) hx hb hts hinX0 hown hK hP 0 rfl rfl 3 (by decide) lk25 (fun _ h9 => h9) rfl dX0_send_38 ?_
          refine va_get (D := G.1) (ci := 3) (v := .ref (a 13)) (C := RX3) (T := TX3) (N := 8) hx hb hts hinX3 hown hK hP 7 rfl rfl 6 (by decide) lk80 (fun _ h9 => h9) rfl dX0_send_41 ?_
          refine lv_iload_n hx hb dX0_send_44 rfl (lv_at hl 2 rfl) ?_
          refine lv_aload_n hx hb dX0_send_45 rfl (lv_at hl 0 rfl) ?_
          refine vp_callSi (W.runV (As := []) (rest := [.int x3, .ref (a 13)]) ⟨hx, hb, hml, hown, hts⟩ (ok_X0_today l G a (vs v 13 (upd (v 13) (Int32.toNatClampNeg x3) r33))) (cwV 0 hts gX0_send_X0_today rfl rfl rfl (by decide +kernel) ⟨Nat.le_of_ble_eq_true rfl, Nat.le_of_ble_eq_true rfl⟩) ⟨pcR_blind, va_recv hK hP (ci := 0) (q0 := 0) rfl rfl, pcR_pre hP hamb⟩ rfl rfl hl.1 rfl (lv_room (Nat.le_of_ble_eq_true rfl)) dX0_send_46 ⟨Nat.zero_le _, Nat.zero_le _⟩) (fun r46 hw => ?_)
          subst hw
          obtain ⟨hi, hf⟩ := ck_1 hf hne
          refine va_iast (f := (v 12)) hx hb hK hP hD hS 13 0 rfl rfl (ixb_1 hi) dX0_send_49 (fun H locs hP hD hS => ?_)
          have hP : va_P G.1 vwCl (deskC G.2 a (vs (vs v 13 (upd (v 13) (Int32.toNatClampNeg x3) r33)) 12 (upd (v 12) (Int32.toNatClampNeg x3) (f_X0_today (vs v 13 (upd (v 13) (Int32.toNatClampNeg x3) r33)))))) H := hP
          have hD : va_D A (deskC G.2 a (vs (vs v 13 (upd (v 13) (Int32.toNatClampNeg x3) r33)) 12 (upd (v 12) (Int32.toNatClampNeg x3) (f_X0_today (vs v 13 (upd (v 13) (Int32.toNatClampNeg x3) r33)))))) := hD
          refine lv_aload_n hx hb dX0_send_50 rfl (lv_at hl 0 rfl) ?_
          refine va_get (D := G.1) (ci := 0) (v := .ref (a 7)) (C := RX0) (T := TX0) (N := 4) hx hb hts hinX0 hown hK hP 0 rfl rfl 3 (by decide) lk25 (fun _ h9 => h9) rfl dX0_send_51 ?_
          refine va_get (D := G.1) (ci := 3) (v := .ref (a 12)) (C := RX3) (T := TX3) (N := 8) hx hb hts hinX3 hown hK hP 7 rfl rfl 5 (by decide) lk61 (fun _ h9 => h9) rfl dX0_send_54 ?_
          refine lv_iload_n hx hb dX0_send_57 rfl (lv_at hl 2 rfl) ?_
          refine lv_iconst (v := 1) hx hb dX0_send_58 (by decide) ?_
          obtain ⟨hi, hf⟩ := ck_1 hf hne
          refine va_iast (f := (v 11)) hx hb hK hP hD hS 12 0 rfl rfl (ixb_1 hi) dX0_send_59 (fun H locs hP hD hS => ?_)
          have hP : va_P G.1 vwCl (deskC G.2 a (vs (vs (vs v 13 (upd (v 13) (Int32.toNatClampNeg x3) r33)) 12 (upd (v 12) (Int32.toNatClampNeg x3) (f_X0_today (vs v 13 (upd (v 13) (Int32.toNatClampNeg x3) r33))))) 11 (upd (v 11) (Int32.toNatClampNeg x3) 1))) H := hP
          have hD : va_D A (deskC G.2 a (vs (vs (vs v 13 (upd (v 13) (Int32.toNatClampNeg x3) r33)) 12 (upd (v 12) (Int32.toNatClampNeg x3) (f_X0_today (vs v 13 (upd (v 13) (Int32.toNatClampNeg x3) r33))))) 11 (upd (v 11) (Int32.toNatClampNeg x3) 1))) := hD
          refine lv_iinc (v := (x3 + 1)) (lv' := [(3, .int (x3 + 1)), (0, .ref (a 0)), (1, .long x1)]) hx hb dX0_send_60 hl (k := 2) rfl rfl (by decide) rfl (fun ls hl => ?_)
          refine lv_goto (tgt := 2) hx hb dX0_send_63 (by decide) ?_
          exact ih (vs (vs (vs v 13 (upd (v 13) (Int32.toNatClampNeg x3) r33)) 12 (upd (v 12) (Int32.toNatClampNeg x3) (f_X0_today (vs v 13 (upd (v 13) (Int32.toNatClampNeg x3) r33))))) 11 (upd (v 11) (Int32.toNatClampNeg x3) 1)) x1 (x3 + 1) H locs ls hP hD hS (lv_sub hl [1, 2, 0] rfl) hf
  refine lv_iconst (v := 0) hx hb dX0_send_0 (by decide) ?_
  refine lv_istore_n (lv' := [(3, .int 0), (0, .ref (a 0)), (1, .long p1)]) hx hb dX0_send_1 rfl hl (by decide) rfl (fun ls hl => ?_)
  exact L2 n0 v0 p1 0 s.heap [] ls hP hD hS (lv_sub hl [1, 2, 0] rfl) hf
set_option maxHeartbeats 4000000 in
set_option maxRecDepth 100000 in
theorem ok_X0_readyDay (l : Launch) (G : Gt) (a : Nat → Nat) (v0 : DV) (p1 : Int32) (p2 : Int32) (hne : f_X0_readyDay v0 p1 p2 ≠ none) : Met l yX0_readyDay wsX0_readyDay ({ frames := 1, cells := 0, slots := 0, locals := 40 } : Room) (pcR G [.ref (a 0), .int p1, .int p2] (deskC G.2 a v0)) (vp_Si (fun r => f_X0_readyDay v0 p1 p2 = some r)) 0 0 (fun _ => False) := by
  refine Met.ofW (cc := cX0_readyDay) (maxL := 6) (ret := (some .int)) (by decide) rfl ?_
  intro p e s m args below meth c s₁ B hml hv
  obtain ⟨rfl, hP, hamb⟩ := hv
  have hx := B.exec
  have hb := B.bytes
  have hr := B.returns
  have hts := atoms_spec (ws := wsX0_readyDay) B.pre
  have hown : s.vm.findClass RX0 = some m.cls := findClass_of_methodNamed B.named
  have hlocks := B.notSynchronized
  have hK := hamb.1
  obtain ⟨res, hf0⟩ : ∃ res, f_X0_readyDay v0 p1 p2 = res := ⟨_, rfl⟩
  have hne : res ≠ none := hf0 ▸ hne
  have hf := hf0
  rw [f_X0_readyDay] at hf
  have hinX0 : ∀ w ∈ u_ws RX0 TX0 4, w ∈ wsX0_readyDay := by decide +kernel
  have hinX1 : ∀ w ∈ u_ws RX1 TX1 4, w ∈ wsX0_readyDay := by decide +kernel
  have hinX3 : ∀ w ∈ u_ws RX3 TX3 8, w ∈ wsX0_readyDay := by decide +kernel
  have lk25 := hts (.fieldLink RX0 25 "MoodDrawers$Desk" "letters" "LMoodDrawers$Letters;") (by decide +kernel)
  have lk67 := hts (.fieldLink RX0 67 "MoodDrawers$Letters" "heat" "[I") (by decide +kernel)
  have lk9 := hts (.fieldLink RX0 9 "MoodDrawers$Desk" "settings" "[I") (by decide +kernel)
  have lk70 := hts (.fieldLink RX0 70 "MoodDrawers$Letters" "writtenOn" "[I") (by decide +kernel)
  have lk18 := hts (.fieldLink RX0 18 "MoodDrawers$Desk" "drawers" "LMoodDrawers$Drawers;") (by decide +kernel)
  have lk86 := hts (.fieldLink RX0 86 "MoodDrawers$Drawers" "restDays" "[I") (by decide +kernel)
  have lw6 := hts (.methodLink RX0 136 Lib.Math.max.name) (by decide +kernel)
  have lw7 := hts (.static Lib.Math.max.name) (by decide +kernel)
  have lw8 := hts (.initialized "java/lang/Math") (by decide +kernel)
  have lw9 := hts (.code Lib.Math.max.name Lib.Math.max.code 2 (some .int)) (by decide +kernel)
  have lw10 := hts (.constant RX0 135 (1000000)) (by decide +kernel)
  have hl := lv_entry ([.ref (a 0), .int p1, .int p2]) (n := 6) (Nat.le_of_ble_eq_true rfl)
  rw [lg_entry_eq]
  generalize (lg_sl ([.ref (a 0), .int p1, .int p2]) ++ List.replicate (6 - (lg_sl ([.ref (a 0), .int p1, .int p2])).length) Slot.unset).toArray = ls at hl ⊢
  have hl : lv_has ls 6 [(0, .ref (a 0)), (1, .int p1), (2, .int p2)] := hl
  have J51 : ∀ (v : DV) (x1 : Int32) (x2 : Int32) (x5 : Int32) (ls : Array Slot), va_P G.1 vwCl (deskC G.2 a v) s.heap → lv_has ls 6 [(0, .ref (a 0)), (1, .int x1), (2, .int x2), (5, .int x5)] → f_X0_readyDay_J51 v x1 x2 x5 = res → W p l e (headSpec wsX0_readyDay ({ frames := 1, cells := 0, slots := 0, locals := 40 } : Room)).room s m ([.ref (a 0), .int p1, .int p2] : List Value).toArray below meth c s.heap [] 0 0 (MQ below (vp_Si (fun r => f_X0_readyDay v0 p1 p2 = some r)) ([.ref (a 0), .int p1, .int p2] : List Value).toArray s 0 0 (fun _ => False)) (F0 m 51 ls []) := by
    intro v x1 x2 x5 ls hP hl hf
    rw [f_X0_readyDay_J51] at hf
    refine lv_aload_n hx hb dX0_readyDay_51 rfl (lv_at hl 0 rfl) ?_
    refine va_get (D := G.1) (ci := 0) (v := .ref (a 7)) (C := RX0) (T := TX0) (N := 4) hx hb hts hinX0 hown hK hP 0 rfl rfl 3 (by decide) lk25 (fun _ h9 => h9) rfl dX0_readyDay_52 ?_
    refine va_get (D := G.1) (ci := 3) (v := .ref (a 10)) (C := RX3) (T := TX3) (N := 8) hx hb hts hinX3 hown hK hP 7 rfl rfl 3 (by decide) lk70 (fun _ h9 => h9) rfl dX0_readyDay_55 ?_
    refine lv_iload_n hx hb dX0_readyDay_58 rfl (lv_at hl 1 rfl) ?_
    obtain ⟨hi, hf⟩ := ck_1 hf hne
    refine va_iald (f := (v 9)) hx hb hK hP 10 0 rfl rfl (ixb_1 hi) dX0_readyDay_59 ?_
    refine lv_iload hx hb dX0_readyDay_60 (lv_at hl 3 rfl) ?_
    refine lv_aload_n hx hb dX0_readyDay_62 rfl (lv_at hl 0 rfl) ?_
    refine va_get (D := G.1) (ci := 0) (v := .ref (a 2)) (C := RX0) (T := TX0) (N := 4) hx hb hts hinX0 hown hK hP 0 rfl rfl 2 (by decide) lk18 (fun _ h9 => h9) rfl dX0_readyDay_63 ?_
    refine va_get (D := G.1) (ci := 1) (v := .ref (a 3)) (C := RX1) (T := TX1) (N := 4) hx hb hts hinX1 hown hK hP 2 rfl rfl 0 (by decide) lk86 (fun _ h9 => h9) rfl dX0_readyDay_66 ?_
    refine lv_iload_n hx hb dX0_readyDay_69 rfl (lv_at hl 2 rfl) ?_
    obtain ⟨hi, hf⟩ := ck_1 hf hne
    refine va_iald (f := (v 3)) hx hb hK hP 3 0 rfl rfl (ixb_1 hi) dX0_readyDay_70 ?_
    refine va_mmax (rest := [.int ((v 9) (Int32.toNatClampNeg x1))]) hx hb (hml.trans hl.1.symm) hown lw6 lw7 lw8 lw9 (Nat.le_of_ble_eq_true rfl) (Nat.le_of_ble_eq_true rfl) (Nat.zero_le _) (Nat.zero_le _) dX0_readyDay_71 ?_
    refine lv_iadd hx hb dX0_readyDay_74 ?_
    exact W.iret (v := (((v 9) (Int32.toNatClampNeg x1)) + (if x5 < ((v 3) (Int32.toNatClampNeg x2)) then ((v 3) (Int32.toNatClampNeg x2)) else x5))) hx hb hr (fun t ht hW => ⟨(((v 9) (Int32.toNatClampNeg x1)) + (if x5 < ((v 3) (Int32.toNatClampNeg x2)) then ((v 3) (Int32.toNatClampNeg x2)) else x5)), rfl, hf0.trans hf.symm, ht⟩) (fun _ hq => absurd hq List.not_mem_nil) dX0_readyDay_75
  refine lv_aload_n hx hb dX0_readyDay_0 rfl (lv_at hl 0 rfl) ?_
  refine va_get (D := G.1) (ci := 0) (v := .ref (a 7)) (C := RX0) (T := TX0) (N := 4) hx hb hts hinX0 hown hK hP 0 rfl rfl 3 (by decide) lk25 (fun _ h9 => h9) rfl dX0_readyDay_1 ?_
  refine va_get (D := G.1) (ci := 3) (v := .ref (a 9)) (C := RX3) (T := TX3) (N := 8) hx hb hts hinX3 hown hK hP 7 rfl rfl 2 (by decide) lk67 (fun _ h9 => h9) rfl dX0_readyDay_4 ?_
  refine lv_iload_n hx hb dX0_readyDay_7 rfl (lv_at hl 1 rfl) ?_
  obtain ⟨hi, hf⟩ := ck_1 hf hne
  refine va_iald (f := (v0 8)) hx hb hK hP 9 0 rfl rfl (ixb_1 hi) dX0_readyDay_8 ?_
  refine lv_aload_n hx hb dX0_readyDay_9 rfl (lv_at hl 0 rfl) ?_
  refine va_get (D := G.1) (ci := 0) (v := .ref (a 1)) (C := RX0) (T := TX0) (N := 4) hx hb hts hinX0 hown hK hP 0 rfl rfl 0 (by decide) lk9 (fun _ h9 => h9) rfl dX0_readyDay_10 ?_
  refine lv_iconst (v := 1) hx hb dX0_readyDay_13 (by decide) ?_
  refine va_iald (f := (v0 2)) hx hb hK hP 1 0 rfl rfl (ixb_1 (show ixb 1 3 = true from rfl)) dX0_readyDay_14 ?_
  refine lv_isub hx hb dX0_readyDay_15 ?_
  refine lv_istore_n (lv' := [(3, .int (((v0 8) (Int32.toNatClampNeg p1)) - ((v0 2) (Int32.toNatClampNeg 1)))), (0, .ref (a 0)), (1, .int p1), (2, .int p2)]) hx hb dX0_readyDay_16 rfl hl (by decide) rfl (fun ls hl => ?_)
  refine lv_aload_n hx hb dX0_readyDay_17 rfl (lv_at hl 1 rfl) ?_
  refine va_get (D := G.1) (ci := 0) (v := .ref (a 1)) (C := RX0) (T := TX0) (N := 4) hx hb hts hinX0 hown hK hP 0 rfl rfl 0 (by decide) lk9 (fun _ h9 => h9) rfl dX0_readyDay_18 ?_
  refine lv_iconst (v := 2) hx hb dX0_readyDay_21 (by decide) ?_
  refine va_iald (f := (v0 2)) hx hb hK hP 1 0 rfl rfl (ixb_1 (show ixb 2 3 = true from rfl)) dX0_readyDay_22 ?_
  refine lv_istore (lv' := [(4, .int ((v0 2) (Int32.toNatClampNeg 2))), (3, .int (((v0 8) (Int32.toNatClampNeg p1)) - ((v0 2) (Int32.toNatClampNeg 1)))), (0, .ref (a 0)), (1, .int p1), (2, .int p2)]) hx hb dX0_readyDay_23 hl (by decide) rfl (fun ls hl => ?_)
  refine lv_iconst (v := 0) hx hb dX0_readyDay_25 (by decide) ?_
  refine lv_istore (lv' := [(5, .int 0), (4, .int ((v0 2) (Int32.toNatClampNeg 2))), (3, .int (((v0 8) (Int32.toNatClampNeg p1)) - ((v0 2) (Int32.toNatClampNeg 1)))), (0, .ref (a 0)), (1, .int p1), (2, .int p2)]) hx hb dX0_readyDay_26 hl (by decide) rfl (fun ls hl => ?_)
  refine lv_iload_n hx hb dX0_readyDay_28 rfl (lv_at hl 2 rfl) ?_
  refine lv_if_le (tgt := 51) hx hb dX0_readyDay_29 (by decide) (fun c => ?_) (fun c => ?_)
  · have hf := it_1 hf c
    exact J51 v0 p1 p2 0 ls hP (lv_sub hl [3, 4, 5, 0] rfl) hf
  · have hf := it_2 hf c
    refine lv_iload hx hb dX0_readyDay_32 (lv_at hl 1 rfl) ?_
    refine lv_if_gt (tgt := 40) hx hb dX0_readyDay_34 (by decide) (fun c => ?_) (fun c => ?_)
    · have hf := it_1 hf c
      refine lv_iload_n hx hb dX0_readyDay_40 rfl (lv_at hl 2 rfl) ?_
      refine lv_iload hx hb dX0_readyDay_41 (lv_at hl 1 rfl) ?_
      refine lv_iadd hx hb dX0_readyDay_43 ?_
      refine lv_iconst (v := 1) hx hb dX0_readyDay_44 (by decide) ?_
      refine lv_isub hx hb dX0_readyDay_45 ?_
      refine lv_iload hx hb dX0_readyDay_46 (lv_at hl 1 rfl) ?_
      obtain ⟨hd, hf⟩ := ck_1 hf hne
      refine lv_idiv hx hb dX0_readyDay_48 (of_decide_eq_true hd) ?_
      refine lv_istore (lv' := [(5, .int ((((((v0 8) (Int32.toNatClampNeg p1)) - ((v0 2) (Int32.toNatClampNeg 1))) + ((v0 2) (Int32.toNatClampNeg 2))) - 1) / ((v0 2) (Int32.toNatClampNeg 2)))), (4, .int ((v0 2) (Int32.toNatClampNeg 2))), (3, .int (((v0 8) (Int32.toNatClampNeg p1)) - ((v0 2) (Int32.toNatClampNeg 1)))), (0, .ref (a 0)), (1, .int p1), (2, .int p2)]) hx hb dX0_readyDay_49 hl (by decide) rfl (fun ls hl => ?_)
      exact J51 v0 p1 p2 ((((((v0 8) (Int32.toNatClampNeg p1)) - ((v0 2) (Int32.toNatClampNeg 1))) + ((v0 2) (Int32.toNatClampNeg 2))) - 1) / ((v0 2) (Int32.toNatClampNeg 2))) ls hP (lv_sub hl [3, 4, 5, 0] rfl) hf
    · have hf := it_2 hf c
      refine lv_ldc (v := 1000000) hx hb hown lw10 dX0_readyDay_37 ?_
      exact W.iret (v := 1000000) hx hb hr (fun t ht hW => ⟨1000000, rfl, hf0.trans hf.symm, ht⟩) (fun _ hq => absurd hq List.not_mem_nil) dX0_readyDay_39
set_option maxHeartbeats 4000000 in
set_option maxRecDepth 100000 in
theorem ok_X0_setThatWouldGo (l : Launch) (G : Gt) (a : Nat → Nat) (n0 : Nat) (v0 : DV) (hne : f_X0_setThatWouldGo n0 v0 ≠ none) : Met l yX0_setThatWouldGo wsX0_setThatWouldGo ({ frames := 2, cells := 0, slots := 0, locals := 65 } : Room) (pcR G [.ref (a 0)] (deskC G.2 a v0)) (vp_Sl (fun r => f_X0_setThatWouldGo n0 v0 = some r)) 0 0 (fun _ => False) := by
  refine Met.ofW (cc := cX0_setThatWouldGo) (maxL := 5) (ret := (some .long)) (by decide) rfl ?_
  intro p e s m args below meth c s₁ B hml hv
  obtain ⟨rfl, hP, hamb⟩ := hv
  have hx := B.exec
  have hb := B.bytes
  have hr := B.returns
  have hts := atoms_spec (ws := wsX0_setThatWouldGo) B.pre
  have hown : s.vm.findClass RX0 = some m.cls := findClass_of_methodNamed B.named
  have hlocks := B.notSynchronized
  have hK := hamb.1
  obtain ⟨res, hf0⟩ : ∃ res, f_X0_setThatWouldGo n0 v0 = res := ⟨_, rfl⟩
  have hne : res ≠ none := hf0 ▸ hne
  have hf := hf0
  rw [f_X0_setThatWouldGo] at hf
  have hinX0 : ∀ w ∈ u_ws RX0 TX0 4, w ∈ wsX0_setThatWouldGo := by decide +kernel
  have hinX1 : ∀ w ∈ u_ws RX1 TX1 4, w ∈ wsX0_setThatWouldGo := by decide +kernel
  have hinX3 : ∀ w ∈ u_ws RX3 TX3 8, w ∈ wsX0_setThatWouldGo := by decide +kernel
  have lk25 := hts (.fieldLink RX0 25 "MoodDrawers$Desk" "letters" "LMoodDrawers$Letters;") (by decide +kernel)
  have lk54 := hts (.fieldLink RX0 54 "MoodDrawers$Letters" "written" "I") (by decide +kernel)
  have lk18 := hts (.fieldLink RX0 18 "MoodDrawers$Desk" "drawers" "LMoodDrawers$Drawers;") (by decide +kernel)
  have lk83 := hts (.fieldLink RX0 83 "MoodDrawers$Drawers" "locked" "[I") (by decide +kernel)
  have hl := lv_entry ([.ref (a 0)]) (n := 5) (Nat.le_of_ble_eq_true rfl)
  rw [lg_entry_eq]
  generalize (lg_sl ([.ref (a 0)]) ++ List.replicate (5 - (lg_sl ([.ref (a 0)])).length) Slot.unset).toArray = ls at hl ⊢
  have hl : lv_has ls 5 [(0, .ref (a 0))] := hl
  have L13 : ∀ (k4 : DV → Int64 → Int32 → Option (Int64)) (hk4 : ∀ (v : DV) (x1 : Int64) (x3 : Int32) (ls : Array Slot), va_P G.1 vwCl (deskC G.2 a v) s.heap → lv_has ls 5 [(0, .ref (a 0)), (1, .long x1), (3, .int x3)] → k4 v x1 x3 = res → W p l e (headSpec wsX0_setThatWouldGo ({ frames := 2, cells := 0, slots := 0, locals := 65 } : Room)).room s m ([.ref (a 0)] : List Value).toArray below meth c s.heap [] 0 0 (MQ below (vp_Sl (fun r => f_X0_setThatWouldGo n0 v0 = some r)) ([.ref (a 0)] : List Value).toArray s 0 0 (fun _ => False)) (F0 m 4 ls [])) (n : Nat) (v : DV) (x1 : Int64) (x3 : Int32) (x4 : Int32) (ls : Array Slot), va_P G.1 vwCl (deskC G.2 a v) s.heap → lv_has ls 5 [(0, .ref (a 0)), (1, .long x1), (3, .int x3), (4, .int x4)] → f_X0_setThatWouldGo_L13 k4 n v x1 x3 x4 = res → W p l e (headSpec wsX0_setThatWouldGo ({ frames := 2, cells := 0, slots := 0, locals := 65 } : Room)).room s m ([.ref (a 0)] : List Value).toArray below meth c s.heap [] 0 0 (MQ below (vp_Sl (fun r => f_X0_setThatWouldGo n0 v0 = some r)) ([.ref (a 0)] : List Value).toArray s 0 0 (fun _ => False)) (F0 m 13 ls []) := by
    intro k4 hk4 n
    induction n with
    | zero => intro v x1 x3 x4 ls hP hl hf; exact (none_1 hf hne).elim
    | succ n ih =>
      intro v x1 x3 x4 ls hP hl hf
      rw [f_X0_setThatWouldGo_L13] at hf
      refine lv_iload hx hb dX0_setThatWouldGo_13 (lv_at hl 3 rfl) ?_
      refine lv_aload_n hx hb dX0_setThatWouldGo_15 rfl (lv_at hl 0 rfl) ?_
      refine va_get (D := G.1) (ci := 0) (v := .ref (a 7)) (C := RX0) (T := TX0) (N := 4) hx hb hts hinX0 hown hK hP 0 rfl rfl 3 (by decide) lk25 (fun _ h9 => h9) rfl dX0_setThatWouldGo_16 ?_
      refine va_get (D := G.1) (ci := 3) (v := .int (v 1 0)) (C := RX3) (T := TX3) (N := 8) hx hb hts hinX3 hown hK hP 7 rfl rfl 0 (by decide) lk54 (fun _ h9 => h9) rfl dX0_setThatWouldGo_19 ?_
      refine lv_icmp_ge (tgt := 77) hx hb dX0_setThatWouldGo_22 (by decide) (fun c => ?_) (fun c => ?_)
      · have hf := it_1 hf c
        refine lv_iinc (v := (x3 + 1)) (lv' := [(3, .int (x3 + 1)), (0, .ref (a 0)), (1, .long x1), (4, .int x4)]) hx hb dX0_setThatWouldGo_77 hl (k := 2) rfl rfl (by decide) rfl (fun ls hl => ?_)
        refine lv_goto (tgt := 4) hx hb dX0_setThatWouldGo_80 (by decide) ?_
        exact hk4 v x1 (x3 + 1) ls hP (lv_sub hl [1, 2, 0] rfl) hf
      · have hf := it_2 hf c
        refine lv_aload_n hx hb dX0_setThatWouldGo_25 rfl (lv_at hl 0 rfl) ?_
        refine va_get (D := G.1) (ci := 0) (v := .ref (a 2)) (C := RX0) (T := TX0) (N := 4) hx hb hts hinX0 hown hK hP 0 rfl rfl 2 (by decide) lk18 (fun _ h9 => h9) rfl dX0_setThatWouldGo_26 ?_
        refine va_get (D := G.1) (ci := 1) (v := .ref (a 4)) (C := RX1) (T := TX1) (N := 4) hx hb hts hinX1 hown hK hP 2 rfl rfl 1 (by decide) lk83 (fun _ h9 => h9) rfl dX0_setThatWouldGo_29 ?_
        refine lv_iload_n hx hb dX0_setThatWouldGo_32 rfl (lv_at hl 2 rfl) ?_
        obtain ⟨hi, hf⟩ := ck_1 hf hne
        refine va_iald (f := (v 4)) hx hb hK hP 4 0 rfl rfl (ixb_1 hi) dX0_setThatWouldGo_33 ?_
        refine lv_if_ne (tgt := 71) hx hb dX0_setThatWouldGo_34 (by decide) (fun c => ?_) (fun c => ?_)
        · have hf := it_2 hf c
          refine lv_iinc (v := (x4 + 1)) (lv' := [(4, .int (x4 + 1)), (0, .ref (a 0)), (1, .long x1), (3, .int x3)]) hx hb dX0_setThatWouldGo_71 hl (k := 3) rfl rfl (by decide) rfl (fun ls hl => ?_)
          refine lv_goto (tgt := 13) hx hb dX0_setThatWouldGo_74 (by decide) ?_
          exact ih v x1 x3 (x4 + 1) ls hP (lv_sub hl [1, 2, 3, 0] rfl) hf
        · have hf := it_1 hf c
          refine lv_aload_n hx hb dX0_setThatWouldGo_37 rfl (lv_at hl 0 rfl) ?_
          refine va_get (D := G.1) (ci := 0) (v := .ref (a 7)) (C := RX0) (T := TX0) (N := 4) hx hb hts hinX0 hown hK hP 0 rfl rfl 3 (by decide) lk25 (fun _ h9 => h9) rfl dX0_setThatWouldGo_38 ?_
          refine lv_iload hx hb dX0_setThatWouldGo_41 (lv_at hl 3 rfl) ?_
          refine lv_iload_n hx hb dX0_setThatWouldGo_43 rfl (lv_at hl 2 rfl) ?_
          have hn := bd1_1 hf hne
          refine vp_callSi (W.runV (As := [.int x4, .int x3]) (rest := []) ⟨hx, hb, hml, hown, hts⟩ (ok_X3_lies l G a v x4 x3 hn) (cwV 2 hts gX0_setThatWouldGo_X3_lies rfl rfl rfl (by decide +kernel) ⟨Nat.le_of_ble_eq_true rfl, Nat.le_of_ble_eq_true rfl⟩) ⟨pcR_blind, va_recv hK (hP.sub (ws' := (lettersC G.2 a v)) [7, 8, 9, 10, 11, 12, 13, 14] rfl) (ci := 3) (q0 := 0) rfl rfl, pcR_pre (hP.sub (ws' := (lettersC G.2 a v)) [7, 8, 9, 10, 11, 12, 13, 14] rfl) hamb⟩ rfl rfl hl.1 rfl (lv_room (Nat.le_of_ble_eq_true rfl)) dX0_setThatWouldGo_44 ⟨Nat.zero_le _, Nat.zero_le _⟩) (fun r44 hw => ?_)
          have hf := bd1_2 hf hw
          refine lv_if_eq (tgt := 71) hx hb dX0_setThatWouldGo_47 (by decide) (fun c => ?_) (fun c => ?_)
          · have hf := it_1 hf c
            refine lv_iinc (v := (x4 + 1)) (lv' := [(4, .int (x4 + 1)), (0, .ref (a 0)), (1, .long x1), (3, .int x3)]) hx hb dX0_setThatWouldGo_71 hl (k := 3) rfl rfl (by decide) rfl (fun ls hl => ?_)
            refine lv_goto (tgt := 13) hx hb dX0_setThatWouldGo_74 (by decide) ?_
            exact ih v x1 x3 (x4 + 1) ls hP (lv_sub hl [1, 2, 3, 0] rfl) hf
          · have hf := it_2 hf c
            refine lv_aload_n hx hb dX0_setThatWouldGo_50 rfl (lv_at hl 0 rfl) ?_
            refine vp_callSi (W.runV (As := []) (rest := []) ⟨hx, hb, hml, hown, hts⟩ (ok_X0_today l G a v) (cwV 0 hts gX0_setThatWouldGo_X0_today rfl rfl rfl (by decide +kernel) ⟨Nat.le_of_ble_eq_true rfl, Nat.le_of_ble_eq_true rfl⟩) ⟨pcR_blind, va_recv hK hP (ci := 0) (q0 := 0) rfl rfl, pcR_pre hP hamb⟩ rfl rfl hl.1 rfl (lv_room (Nat.le_of_ble_eq_true rfl)) dX0_setThatWouldGo_51 ⟨Nat.zero_le _, Nat.zero_le _⟩) (fun r51 hw => ?_)
            subst hw
            refine lv_aload_n hx hb dX0_setThatWouldGo_54 rfl (lv_at hl 0 rfl) ?_
            refine lv_iload hx hb dX0_setThatWouldGo_55 (lv_at hl 3 rfl) ?_
            refine lv_iload_n hx hb dX0_setThatWouldGo_57 rfl (lv_at hl 2 rfl) ?_
            have hn := bd1_1 hf hne
            refine vp_callSi (W.runV (As := [.int x4, .int x3]) (rest := [.int (f_X0_today v)]) ⟨hx, hb, hml, hown, hts⟩ (ok_X0_readyDay l G a v x4 x3 hn) (cwV 2 hts gX0_setThatWouldGo_X0_readyDay rfl rfl rfl (by decide +kernel) ⟨Nat.le_of_ble_eq_true rfl, Nat.le_of_ble_eq_true rfl⟩) ⟨pcR_blind, va_recv hK hP (ci := 0) (q0 := 0) rfl rfl, pcR_pre hP hamb⟩ rfl rfl hl.1 rfl (lv_room (Nat.le_of_ble_eq_true rfl)) dX0_setThatWouldGo_58 ⟨Nat.zero_le _, Nat.zero_le _⟩) (fun r58 hw => ?_)
            have hf := bd1_2 hf hw
            refine lv_icmp_lt (tgt := 71) hx hb dX0_setThatWouldGo_61 (by decide) (fun c => ?_) (fun c => ?_)
            · have hf := it_1 hf c
              refine lv_iinc (v := (x4 + 1)) (lv' := [(4, .int (x4 + 1)), (0, .ref (a 0)), (1, .long x1), (3, .int x3)]) hx hb dX0_setThatWouldGo_71 hl (k := 3) rfl rfl (by decide) rfl (fun ls hl => ?_)
              refine lv_goto (tgt := 13) hx hb dX0_setThatWouldGo_74 (by decide) ?_
              exact ih v x1 x3 (x4 + 1) ls hP (lv_sub hl [1, 2, 3, 0] rfl) hf
            · have hf := it_2 hf c
              refine lv_lload_n hx hb dX0_setThatWouldGo_64 rfl (lv_at hl 1 rfl) ?_
              refine lv_lconst (v := 1) hx hb dX0_setThatWouldGo_65 (by decide) ?_
              refine lv_iload hx hb dX0_setThatWouldGo_66 (lv_at hl 3 rfl) ?_
              refine lv_lshl hx hb dX0_setThatWouldGo_68 rfl ?_
              refine lv_lor hx hb dX0_setThatWouldGo_69 ?_
              refine lv_lstore_n (lv' := [(1, .long (x1 ||| (1 <<< (Int32.toInt64 x4 &&& 63)))), (0, .ref (a 0)), (3, .int x3), (4, .int x4)]) hx hb dX0_setThatWouldGo_70 rfl hl (by decide) rfl (fun ls hl => ?_)
              refine lv_iinc (v := (x4 + 1)) (lv' := [(4, .int (x4 + 1)), (1, .long (x1 ||| (1 <<< (Int32.toInt64 x4 &&& 63)))), (0, .ref (a 0)), (3, .int x3)]) hx hb dX0_setThatWouldGo_71 hl (k := 3) rfl rfl (by decide) rfl (fun ls hl => ?_)
              refine lv_goto (tgt := 13) hx hb dX0_setThatWouldGo_74 (by decide) ?_
              exact ih v (x1 ||| (1 <<< (Int32.toInt64 x4 &&& 63))) x3 (x4 + 1) ls hP (lv_sub hl [2, 1, 3, 0] rfl) hf
  have L4 : ∀ (n : Nat) (v : DV) (x1 : Int64) (x3 : Int32) (ls : Array Slot), va_P G.1 vwCl (deskC G.2 a v) s.heap → lv_has ls 5 [(0, .ref (a 0)), (1, .long x1), (3, .int x3)] → f_X0_setThatWouldGo_L4 n v x1 x3 = res → W p l e (headSpec wsX0_setThatWouldGo ({ frames := 2, cells := 0, slots := 0, locals := 65 } : Room)).room s m ([.ref (a 0)] : List Value).toArray below meth c s.heap [] 0 0 (MQ below (vp_Sl (fun r => f_X0_setThatWouldGo n0 v0 = some r)) ([.ref (a 0)] : List Value).toArray s 0 0 (fun _ => False)) (F0 m 4 ls []) := by
    intro n
    induction n with
    | zero => intro v x1 x3 ls hP hl hf; exact (none_1 hf hne).elim
    | succ n ih =>
      intro v x1 x3 ls hP hl hf
      rw [f_X0_setThatWouldGo_L4] at hf
      refine lv_iload_n hx hb dX0_setThatWouldGo_4 rfl (lv_at hl 2 rfl) ?_
      refine lv_bipush (v := 6) hx hb dX0_setThatWouldGo_5 (by decide) ?_
      refine lv_icmp_ge (tgt := 83) hx hb dX0_setThatWouldGo_7 (by decide) (fun c => ?_) (fun c => ?_)
      · have hf := it_1 hf c
        refine lv_lload_n hx hb dX0_setThatWouldGo_83 rfl (lv_at hl 1 rfl) ?_
        exact W.lret (v := x1) hx hb hr (fun t ht hW => ⟨x1, rfl, hf0.trans hf.symm, ht⟩) (fun _ hq => absurd hq List.not_mem_nil) dX0_setThatWouldGo_84
      · have hf := it_2 hf c
        refine lv_iconst (v := 0) hx hb dX0_setThatWouldGo_10 (by decide) ?_
        refine lv_istore (lv' := [(4, .int 0), (0, .ref (a 0)), (1, .long x1), (3, .int x3)]) hx hb dX0_setThatWouldGo_11 hl (by decide) rfl (fun ls hl => ?_)
        exact L13 (fun v x1 x3 => f_X0_setThatWouldGo_L4 n v x1 x3) ih n v x1 x3 0 ls hP (lv_sub hl [1, 2, 3, 0] rfl) hf
  refine lv_lconst (v := 0) hx hb dX0_setThatWouldGo_0 (by decide) ?_
  refine lv_lstore_n (lv' := [(1, .long 0), (0, .ref (a 0))]) hx hb dX0_setThatWouldGo_1 rfl hl (by decide) rfl (fun ls hl => ?_)
  refine lv_iconst (v := 0) hx hb dX0_setThatWouldGo_2 (by decide) ?_
  refine lv_istore_n (lv' := [(3, .int 0), (1, .long 0), (0, .ref (a 0))]) hx hb dX0_setThatWouldGo_3 rfl hl (by decide) rfl (fun ls hl => ?_)
  exact L4 n0 v0 0 0 ls hP (lv_sub hl [2, 1, 0] rfl) hf
set_option maxHeartbeats 4000000 in
set_option maxRecDepth 100000 in
theorem ok_X0_passHours (l : Launch) (G : Gt) (a : Nat → Nat) (sz : Nat) (n0 : Nat) (v0 : DV) (p1 : Int32) (hne : f_X0_passHours n0 v0 p1 ≠ none) : Met l yX0_passHours wsX0_passHours ({ frames := 3, cells := 0, slots := 0, locals := 89 } : Room) (pcW G [.ref (a 0), .int p1] (deskC G.2 a v0) sz) (va_Qi (fun r (u : DV) => f_X0_passHours n0 v0 p1 = some (r, u)) (fun u t => atW G (deskC G.2 a u) (va_A (deskC G.2 a v0) sz) t) (va_A (deskC G.2 a v0) sz)) 0 0 (va_A (deskC G.2 a v0) sz) := by
  refine Met.ofW (cc := cX0_passHours) (maxL := 4) (ret := (some .int)) (by decide) rfl ?_
  intro p e s m args below meth c s₁ B hml hv
  obtain ⟨rfl, hsz, hP, hD0, hamb⟩ := hv
  have hx := B.exec
  have hb := B.bytes
  have hr := B.returns
  have hts := atoms_spec (ws := wsX0_passHours) B.pre
  have hown : s.vm.findClass RX0 = some m.cls := findClass_of_methodNamed B.named
  have hlocks := B.notSynchronized
  have hK := hamb.1
  subst hsz
  have hD := hD0.self (sz := s.heap.size)
  generalize hAe : va_A (deskC G.2 a v0) s.heap.size = A at hD ⊢
  have hA : ∀ q : Nat, s.heap.size ≤ q → A q := fun q h => by rw [← hAe]; exact Or.inr h
  have hS : va_S A s.heap s.heap [] := va_S.rf
  obtain ⟨res, hf0⟩ : ∃ res, f_X0_passHours n0 v0 p1 = res := ⟨_, rfl⟩
  have hne : res ≠ none := hf0 ▸ hne
  have hf := hf0
  rw [f_X0_passHours] at hf
  have hinX0 : ∀ w ∈ u_ws RX0 TX0 4, w ∈ wsX0_passHours := by decide +kernel
  have lk33 := hts (.fieldLink RX0 33 "MoodDrawers$Desk" "now" "I") (by decide +kernel)
  have lk18 := hts (.fieldLink RX0 18 "MoodDrawers$Desk" "drawers" "LMoodDrawers$Drawers;") (by decide +kernel)
  have lk9 := hts (.fieldLink RX0 9 "MoodDrawers$Desk" "settings" "[I") (by decide +kernel)
  have hl := lv_entry ([.ref (a 0), .int p1]) (n := 4) (Nat.le_of_ble_eq_true rfl)
  rw [lg_entry_eq]
  generalize (lg_sl ([.ref (a 0), .int p1]) ++ List.replicate (4 - (lg_sl ([.ref (a 0), .int p1])).length) Slot.unset).toArray = ls at hl ⊢
  have hl : lv_has ls 4 [(0, .ref (a 0)), (1, .int p1)] := hl
  have L37 : ∀ (n : Nat) (v : DV) (x1 : Int32) (x2 : Int32) (x3 : Int32) (H : Heap) (locs : List Loc) (ls : Array Slot), va_P G.1 vwCl (deskC G.2 a v) H → va_D A (deskC G.2 a v) → va_S A s.heap H locs → lv_has ls 4 [(0, .ref (a 0)), (1, .int x1), (2, .int x2), (3, .int x3)] → f_X0_passHours_L37 n v x1 x2 x3 = res → W p l e (headSpec wsX0_passHours ({ frames := 3, cells := 0, slots := 0, locals := 89 } : Room)).room s m ([.ref (a 0), .int p1] : List Value).toArray below meth c H locs 0 0 (MQ below (va_Qi (fun r (u : DV) => f_X0_passHours n0 v0 p1 = some (r, u)) (fun u t => atW G (deskC G.2 a u) A t) A) ([.ref (a 0), .int p1] : List Value).toArray s 0 0 A) (F0 m 37 ls []) := by
    intro n
    induction n with
    | zero => intro v x1 x2 x3 H locs ls hP hD hS hl hf; exact (none_1 hf hne).elim
    | succ n ih =>
      intro v x1 x2 x3 H locs ls hP hD hS hl hf
      rw [f_X0_passHours_L37] at hf
      refine lv_iload_n hx hb dX0_passHours_37 rfl (lv_at hl 3 rfl) ?_
      refine lv_iload_n hx hb dX0_passHours_38 rfl (lv_at hl 1 rfl) ?_
      refine lv_icmp_ge (tgt := 93) hx hb dX0_passHours_39 (by decide) (fun c => ?_) (fun c => ?_)
      · have hf := it_1 hf c
        refine lv_iload_n hx hb dX0_passHours_93 rfl (lv_at hl 2 rfl) ?_
        exact W.iret (v := x2) hx hb hr (fun t ht hW => ⟨⟨x2, v, rfl, hf0.trans hf.symm, by rw [ht]; exact hP, hD⟩, hS.F ht⟩) hS.2.2 dX0_passHours_94
      · have hf := it_2 hf c
        refine lv_aload_n hx hb dX0_passHours_42 rfl (lv_at hl 0 rfl) ?_
        refine va_get (D := G.1) (ci := 0) (v := .ref (a 2)) (C := RX0) (T := TX0) (N := 4) hx hb hts hinX0 hown hK hP 0 rfl rfl 2 (by decide) lk18 (fun _ h9 => h9) rfl dX0_passHours_43 ?_
        refine lv_aload_n hx hb dX0_passHours_46 rfl (lv_at hl 0 rfl) ?_
        refine vp_callSi (W.runV (As := []) (rest := [.ref (a 2)]) ⟨hx, hb, hml, hown, hts⟩ (ok_X0_hourOfDay l G a v) (cwV 0 hts gX0_passHours_X0_hourOfDay rfl rfl rfl (by decide +kernel) ⟨Nat.le_of_ble_eq_true rfl, Nat.le_of_ble_eq_true rfl⟩) ⟨pcR_blind, va_recv hK hP (ci := 0) (q0 := 0) rfl rfl, pcR_pre hP hamb⟩ rfl rfl hl.1 rfl (lv_room (Nat.le_of_ble_eq_true rfl)) dX0_passHours_47 ⟨Nat.zero_le _, Nat.zero_le _⟩) (fun r47 hw => ?_)
        subst hw
        have hn := bd1_1 hf hne
        refine cwv (va_runV (As := [.int (f_X0_hourOfDay v)]) (rest := []) ⟨hx, hb, hml, hown, hts⟩ (ok_X1_turnKeysBy l G a H.size n v (f_X0_hourOfDay v) hn) (cwV 1 hts gX0_passHours_X1_turnKeysBy rfl rfl rfl (by decide +kernel) ⟨Nat.le_of_ble_eq_true rfl, Nat.le_of_ble_eq_true rfl⟩) ⟨pcW_blind, va_recv hK (hP.sub (ws' := (drawersC G.2 a v)) [2, 3, 4, 5, 6] rfl) (ci := 1) (q0 := 0) rfl rfl, pcW_pre (hP.sub (ws' := (drawersC G.2 a v)) [2, 3, 4, 5, 6] rfl) (hD.sub (ws' := (drawersC G.2 a v)) [2, 3, 4, 5, 6] (by decide) rfl) hamb⟩ rfl rfl hl.1 rfl (lv_room (Nat.le_of_ble_eq_true rfl)) dX0_passHours_50 ⟨Nat.zero_le _, Nat.zero_le _⟩) (wr := [(a 0, .inr (0, [.ref (a 1), .int (v 0 0), .ref (a 2), .ref (a 7)])), (a 1, .inl (G.2 0, 3, .inl (v 2))), (a 7, .inr (3, [.int (v 1 0), .ref (a 8), .ref (a 9), .ref (a 10), .ref (a 11), .ref (a 12), .ref (a 13), .ref (a 14)])), (a 8, .inl (G.2 0, 30, .inl (v 7))), (a 9, .inl (G.2 0, 30, .inl (v 8))), (a 10, .inl (G.2 0, 30, .inl (v 9))), (a 11, .inl (G.2 0, 30, .inl (v 10))), (a 12, .inl (G.2 0, 30, .inl (v 11))), (a 13, .inl (G.2 0, 30, .inl (v 12))), (a 14, .inl (G.2 0, 30, .inl (v 13)))]) hP hD hS hA [2, 3, 4, 5, 6] [0, 1, 7, 8, 9, 10, 11, 12, 13, 14] rfl rfl (by decide) (by decide) (fun v50 H locs hw hP hD hS => ?_)
        have hf := bd1_2 hf hw
        have hP : va_P G.1 vwCl (deskC G.2 a (mx [3, 4, 5, 6] v v50)) H := hP.sub [0, 1, 10, 11, 12, 13, 14, 2, 3, 4, 5, 6, 7, 8, 9] rfl
        have hD : va_D A (deskC G.2 a (mx [3, 4, 5, 6] v v50)) := hD.sub [0, 1, 10, 11, 12, 13, 14, 2, 3, 4, 5, 6, 7, 8, 9] (by decide) rfl
        refine lv_aload_n hx hb dX0_passHours_53 rfl (lv_at hl 0 rfl) ?_
        refine vp_callSi (W.runV (As := []) (rest := []) ⟨hx, hb, hml, hown, hts⟩ (ok_X0_hourOfDay l G a (mx [3, 4, 5, 6] v v50)) (cwV 0 hts gX0_passHours_X0_hourOfDay rfl rfl rfl (by decide +kernel) ⟨Nat.le_of_ble_eq_true rfl, Nat.le_of_ble_eq_true rfl⟩) ⟨pcR_blind, va_recv hK hP (ci := 0) (q0 := 0) rfl rfl, pcR_pre hP hamb⟩ rfl rfl hl.1 rfl (lv_room (Nat.le_of_ble_eq_true rfl)) dX0_passHours_54 ⟨Nat.zero_le _, Nat.zero_le _⟩) (fun r54 hw => ?_)
        subst hw
        refine lv_aload_n hx hb dX0_passHours_57 rfl (lv_at hl 0 rfl) ?_
        refine va_get (D := G.1) (ci := 0) (v := .ref (a 1)) (C := RX0) (T := TX0) (N := 4) hx hb hts hinX0 hown hK hP 0 rfl rfl 0 (by decide) lk9 (fun _ h9 => h9) rfl dX0_passHours_58 ?_
        refine lv_iconst (v := 0) hx hb dX0_passHours_61 (by decide) ?_
        refine va_iald (f := ((mx [3, 4, 5, 6] v v50) 2)) hx hb hK hP 1 0 rfl rfl (ixb_1 (show ixb 0 3 = true from rfl)) dX0_passHours_62 ?_
        refine lv_icmp_ne (tgt := 77) hx hb dX0_passHours_63 (by decide) (fun c => ?_) (fun c => ?_)
        · have hf := it_2 hf c
          refine lv_aload_n hx hb dX0_passHours_77 rfl (lv_at hl 0 rfl) ?_
          refine lv_dup hx hb dX0_passHours_78 rfl ?_
          refine va_get (D := G.1) (ci := 0) (v := .int ((mx [3, 4, 5, 6] v v50) 0 0)) (C := RX0) (T := TX0) (N := 4) hx hb hts hinX0 hown hK hP 0 rfl rfl 1 (by decide) lk33 (fun _ h9 => h9) rfl dX0_passHours_79 ?_
          refine lv_iconst (v := 1) hx hb dX0_passHours_82 (by decide) ?_
          refine lv_iadd hx hb dX0_passHours_83 ?_
          refine va_put (D := G.1) (ci := 0) (v := .int (((mx [3, 4, 5, 6] v v50) 0 0) + 1)) (ty := .int) (C := RX0) (T := TX0) (N := 4) hx hb hts hinX0 tyX0 tyX0_ok nmX0 hown hK hP hD hS 0 rfl rfl 1 (by decide) lk33 (fun _ h9 => h9) rfl (by decide +kernel) rfl rfl (Nat.le_of_ble_eq_true rfl) dX0_passHours_84 (fun H locs hP hD hS => ?_)
          have hP : va_P G.1 vwCl (deskC G.2 a (vs (mx [3, 4, 5, 6] v v50) 0 (fun _ => (((mx [3, 4, 5, 6] v v50) 0 0) + 1)))) H := hP
          have hD : va_D A (deskC G.2 a (vs (mx [3, 4, 5, 6] v v50) 0 (fun _ => (((mx [3, 4, 5, 6] v v50) 0 0) + 1)))) := hD
          refine lv_iinc (v := (x3 + 1)) (lv' := [(3, .int (x3 + 1)), (0, .ref (a 0)), (1, .int x1), (2, .int x2)]) hx hb dX0_passHours_87 hl (k := 3) rfl rfl (by decide) rfl (fun ls hl => ?_)
          refine lv_goto (tgt := 37) hx hb dX0_passHours_90 (by decide) ?_
          exact ih (vs (mx [3, 4, 5, 6] v v50) 0 (fun _ => (((mx [3, 4, 5, 6] v v50) 0 0) + 1))) x1 x2 (x3 + 1) H locs ls hP hD hS (lv_sub hl [1, 2, 3, 0] rfl) hf
        · have hf := it_1 hf c
          refine lv_iload_n hx hb dX0_passHours_66 rfl (lv_at hl 2 rfl) ?_
          refine lv_aload_n hx hb dX0_passHours_67 rfl (lv_at hl 0 rfl) ?_
          refine lv_aload_n hx hb dX0_passHours_68 rfl (lv_at hl 0 rfl) ?_
          have hn := bd1_1 hf hne
          refine vp_callSl (W.runV (As := []) (rest := [.ref (a 0), .int x2]) ⟨hx, hb, hml, hown, hts⟩ (ok_X0_setThatWouldGo l G a n (mx [3, 4, 5, 6] v v50) hn) (cwV 0 hts gX0_passHours_X0_setThatWouldGo rfl rfl rfl (by decide +kernel) ⟨Nat.le_of_ble_eq_true rfl, Nat.le_of_ble_eq_true rfl⟩) ⟨pcR_blind, va_recv hK hP (ci := 0) (q0 := 0) rfl rfl, pcR_pre hP hamb⟩ rfl rfl hl.1 rfl (lv_room (Nat.le_of_ble_eq_true rfl)) dX0_passHours_69 ⟨Nat.zero_le _, Nat.zero_le _⟩) (fun r69 hw => ?_)
          have hf := bd1_2 hf hw
          have hn := bd2_1 hf hne
          refine cwi (va_runV (As := [.long r69]) (rest := [.int x2]) ⟨hx, hb, hml, hown, hts⟩ (ok_X0_send l G a H.size n (mx [3, 4, 5, 6] v v50) r69 hn) (cwV 1 hts gX0_passHours_X0_send rfl rfl rfl (by decide +kernel) ⟨Nat.le_of_ble_eq_true rfl, Nat.le_of_ble_eq_true rfl⟩) ⟨pcW_blind, va_recv hK hP (ci := 0) (q0 := 0) rfl rfl, pcW_pre hP hD hamb⟩ rfl rfl hl.1 rfl (lv_room (Nat.le_of_ble_eq_true rfl)) dX0_passHours_72 ⟨Nat.zero_le _, Nat.zero_le _⟩) (wr := []) hP hD hS hA [0, 1, 2, 3, 4, 5, 6, 7, 8, 9, 10, 11, 12, 13, 14] [] rfl rfl (by decide) (by decide) (fun r72 v72 H locs hw hP hD hS => ?_)
          have hf := bd2_2 hf hw
          have hP : va_P G.1 vwCl (deskC G.2 a v72) H := hP
          have hD : va_D A (deskC G.2 a v72) := hD
          refine lv_iadd hx hb dX0_passHours_75 ?_
          refine lv_istore_n (lv' := [(2, .int (x2 + r72)), (0, .ref (a 0)), (1, .int x1), (3, .int x3)]) hx hb dX0_passHours_76 rfl hl (by decide) rfl (fun ls hl => ?_)
          refine lv_aload_n hx hb dX0_passHours_77 rfl (lv_at hl 1 rfl) ?_
          refine lv_dup hx hb dX0_passHours_78 rfl ?_
          refine va_get (D := G.1) (ci := 0) (v := .int (v72 0 0)) (C := RX0) (T := TX0) (N := 4) hx hb hts hinX0 hown hK hP 0 rfl rfl 1 (by decide) lk33 (fun _ h9 => h9) rfl dX0_passHours_79 ?_
          refine lv_iconst (v := 1) hx hb dX0_passHours_82 (by decide) ?_
          refine lv_iadd hx hb dX0_passHours_83 ?_
          refine va_put (D := G.1) (ci := 0) (v := .int ((v72 0 0) + 1)) (ty := .int) (C := RX0) (T := TX0) (N := 4) hx hb hts hinX0 tyX0 tyX0_ok nmX0 hown hK hP hD hS 0 rfl rfl 1 (by decide) lk33 (fun _ h9 => h9) rfl (by decide +kernel) rfl rfl (Nat.le_of_ble_eq_true rfl) dX0_passHours_84 (fun H locs hP hD hS => ?_)
          have hP : va_P G.1 vwCl (deskC G.2 a (vs v72 0 (fun _ => ((v72 0 0) + 1)))) H := hP
          have hD : va_D A (deskC G.2 a (vs v72 0 (fun _ => ((v72 0 0) + 1)))) := hD
          refine lv_iinc (v := (x3 + 1)) (lv' := [(3, .int (x3 + 1)), (2, .int (x2 + r72)), (0, .ref (a 0)), (1, .int x1)]) hx hb dX0_passHours_87 hl (k := 3) rfl rfl (by decide) rfl (fun ls hl => ?_)
          refine lv_goto (tgt := 37) hx hb dX0_passHours_90 (by decide) ?_
          exact ih (vs v72 0 (fun _ => ((v72 0 0) + 1))) x1 (x2 + r72) (x3 + 1) H locs ls hP hD hS (lv_sub hl [2, 3, 1, 0] rfl) hf
  refine lv_iload_n hx hb dX0_passHours_0 rfl (lv_at hl 1 rfl) ?_
  refine lv_iconst (v := 1) hx hb dX0_passHours_1 (by decide) ?_
  refine lv_icmp_lt (tgt := 12) hx hb dX0_passHours_2 (by decide) (fun c => ?_) (fun c => ?_)
  · have hf := it_1 hf c
    refine lv_bipush (v := (-2)) hx hb dX0_passHours_12 (by decide) ?_
    exact W.iret (v := (-2)) hx hb hr (fun t ht hW => ⟨⟨(-2), v0, rfl, hf0.trans hf.symm, by rw [ht]; exact hP, hD⟩, hS.F ht⟩) hS.2.2 dX0_passHours_14
  · have hf := it_2 hf c
    refine lv_iload_n hx hb dX0_passHours_5 rfl (lv_at hl 1 rfl) ?_
    refine lv_sipush (v := 240) hx hb dX0_passHours_6 (by decide) ?_
    refine lv_icmp_le (tgt := 15) hx hb dX0_passHours_9 (by decide) (fun c => ?_) (fun c => ?_)
    · have hf := it_1 hf c
      refine lv_aload_n hx hb dX0_passHours_15 rfl (lv_at hl 0 rfl) ?_
      refine va_get (D := G.1) (ci := 0) (v := .int (v0 0 0)) (C := RX0) (T := TX0) (N := 4) hx hb hts hinX0 hown hK hP 0 rfl rfl 1 (by decide) lk33 (fun _ h9 => h9) rfl dX0_passHours_16 ?_
      refine lv_iload_n hx hb dX0_passHours_19 rfl (lv_at hl 1 rfl) ?_
      refine lv_iadd hx hb dX0_passHours_20 ?_
      refine lv_bipush (v := 24) hx hb dX0_passHours_21 (by decide) ?_
      refine lv_idiv hx hb dX0_passHours_23 (by decide) ?_
      refine lv_sipush (v := 999) hx hb dX0_passHours_24 (by decide) ?_
      refine lv_icmp_le (tgt := 33) hx hb dX0_passHours_27 (by decide) (fun c => ?_) (fun c => ?_)
      · have hf := it_1 hf c
        refine lv_iconst (v := 0) hx hb dX0_passHours_33 (by decide) ?_
        refine lv_istore_n (lv' := [(2, .int 0), (0, .ref (a 0)), (1, .int p1)]) hx hb dX0_passHours_34 rfl hl (by decide) rfl (fun ls hl => ?_)
        refine lv_iconst (v := 0) hx hb dX0_passHours_35 (by decide) ?_
        refine lv_istore_n (lv' := [(3, .int 0), (2, .int 0), (0, .ref (a 0)), (1, .int p1)]) hx hb dX0_passHours_36 rfl hl (by decide) rfl (fun ls hl => ?_)
        exact L37 n0 v0 p1 0 0 s.heap [] ls hP hD hS (lv_sub hl [2, 3, 1, 0] rfl) hf
      · have hf := it_2 hf c
        refine lv_bipush (v := (-5)) hx hb dX0_passHours_30 (by decide) ?_
        exact W.iret (v := (-5)) hx hb hr (fun t ht hW => ⟨⟨(-5), v0, rfl, hf0.trans hf.symm, by rw [ht]; exact hP, hD⟩, hS.F ht⟩) hS.2.2 dX0_passHours_32
    · have hf := it_2 hf c
      refine lv_bipush (v := (-2)) hx hb dX0_passHours_12 (by decide) ?_
      exact W.iret (v := (-2)) hx hb hr (fun t ht hW => ⟨⟨(-2), v0, rfl, hf0.trans hf.symm, by rw [ht]; exact hP, hD⟩, hS.F ht⟩) hS.2.2 dX0_passHours_14
set_option maxHeartbeats 4000000 in
set_option maxRecDepth 100000 in
theorem ok_X0_heatInDrawer (l : Launch) (G : Gt) (a : Nat → Nat) (n0 : Nat) (v0 : DV) (p1 : Int32) (hne : f_X0_heatInDrawer n0 v0 p1 ≠ none) : Met l yX0_heatInDrawer wsX0_heatInDrawer ({ frames := 2, cells := 0, slots := 0, locals := 62 } : Room) (pcR G [.ref (a 0), .int p1] (deskC G.2 a v0)) (vp_Si (fun r => f_X0_heatInDrawer n0 v0 p1 = some r)) 0 0 (fun _ => False) := by
  refine Met.ofW (cc := cX0_heatInDrawer) (maxL := 4) (ret := (some .int)) (by decide) rfl ?_
  intro p e s m args below meth c s₁ B hml hv
  obtain ⟨rfl, hP, hamb⟩ := hv
  have hx := B.exec
  have hb := B.bytes
  have hr := B.returns
  have hts := atoms_spec (ws := wsX0_heatInDrawer) B.pre
  have hown : s.vm.findClass RX0 = some m.cls := findClass_of_methodNamed B.named
  have hlocks := B.notSynchronized
  have hK := hamb.1
  obtain ⟨res, hf0⟩ : ∃ res, f_X0_heatInDrawer n0 v0 p1 = res := ⟨_, rfl⟩
  have hne : res ≠ none := hf0 ▸ hne
  have hf := hf0
  rw [f_X0_heatInDrawer] at hf
  have hinX0 : ∀ w ∈ u_ws RX0 TX0 4, w ∈ wsX0_heatInDrawer := by decide +kernel
  have hinX3 : ∀ w ∈ u_ws RX3 TX3 8, w ∈ wsX0_heatInDrawer := by decide +kernel
  have lk25 := hts (.fieldLink RX0 25 "MoodDrawers$Desk" "letters" "LMoodDrawers$Letters;") (by decide +kernel)
  have lk54 := hts (.fieldLink RX0 54 "MoodDrawers$Letters" "written" "I") (by decide +kernel)
  have hl := lv_entry ([.ref (a 0), .int p1]) (n := 4) (Nat.le_of_ble_eq_true rfl)
  rw [lg_entry_eq]
  generalize (lg_sl ([.ref (a 0), .int p1]) ++ List.replicate (4 - (lg_sl ([.ref (a 0), .int p1])).length) Slot.unset).toArray = ls at hl ⊢
  have hl : lv_has ls 4 [(0, .ref (a 0)), (1, .int p1)] := hl
  have L4 : ∀ (n : Nat) (v : DV) (x1 : Int32) (x2 : Int32) (x3 : Int32) (ls : Array Slot), va_P G.1 vwCl (deskC G.2 a v) s.heap → lv_has ls 4 [(0, .ref (a 0)), (1, .int x1), (2, .int x2), (3, .int x3)] → f_X0_heatInDrawer_L4 n v x1 x2 x3 = res → W p l e (headSpec wsX0_heatInDrawer ({ frames := 2, cells := 0, slots := 0, locals := 62 } : Room)).room s m ([.ref (a 0), .int p1] : List Value).toArray below meth c s.heap [] 0 0 (MQ below (vp_Si (fun r => f_X0_heatInDrawer n0 v0 p1 = some r)) ([.ref (a 0), .int p1] : List Value).toArray s 0 0 (fun _ => False)) (F0 m 4 ls []) := by
    intro n
    induction n with
    | zero => intro v x1 x2 x3 ls hP hl hf; exact (none_1 hf hne).elim
    | succ n ih =>
      intro v x1 x2 x3 ls hP hl hf
      rw [f_X0_heatInDrawer_L4] at hf
      refine lv_iload_n hx hb dX0_heatInDrawer_4 rfl (lv_at hl 3 rfl) ?_
      refine lv_aload_n hx hb dX0_heatInDrawer_5 rfl (lv_at hl 0 rfl) ?_
      refine va_get (D := G.1) (ci := 0) (v := .ref (a 7)) (C := RX0) (T := TX0) (N := 4) hx hb hts hinX0 hown hK hP 0 rfl rfl 3 (by decide) lk25 (fun _ h9 => h9) rfl dX0_heatInDrawer_6 ?_
      refine va_get (D := G.1) (ci := 3) (v := .int (v 1 0)) (C := RX3) (T := TX3) (N := 8) hx hb hts hinX3 hown hK hP 7 rfl rfl 0 (by decide) lk54 (fun _ h9 => h9) rfl dX0_heatInDrawer_9 ?_
      refine lv_icmp_ge (tgt := 41) hx hb dX0_heatInDrawer_12 (by decide) (fun c => ?_) (fun c => ?_)
      · have hf := it_1 hf c
        refine lv_iload_n hx hb dX0_heatInDrawer_41 rfl (lv_at hl 2 rfl) ?_
        exact W.iret (v := x2) hx hb hr (fun t ht hW => ⟨x2, rfl, hf0.trans hf.symm, ht⟩) (fun _ hq => absurd hq List.not_mem_nil) dX0_heatInDrawer_42
      · have hf := it_2 hf c
        refine lv_aload_n hx hb dX0_heatInDrawer_15 rfl (lv_at hl 0 rfl) ?_
        refine va_get (D := G.1) (ci := 0) (v := .ref (a 7)) (C := RX0) (T := TX0) (N := 4) hx hb hts hinX0 hown hK hP 0 rfl rfl 3 (by decide) lk25 (fun _ h9 => h9) rfl dX0_heatInDrawer_16 ?_
        refine lv_iload_n hx hb dX0_heatInDrawer_19 rfl (lv_at hl 3 rfl) ?_
        refine lv_iload_n hx hb dX0_heatInDrawer_20 rfl (lv_at hl 1 rfl) ?_
        have hn := bd1_1 hf hne
        refine vp_callSi (W.runV (As := [.int x3, .int x1]) (rest := []) ⟨hx, hb, hml, hown, hts⟩ (ok_X3_lies l G a v x3 x1 hn) (cwV 2 hts gX0_heatInDrawer_X3_lies rfl rfl rfl (by decide +kernel) ⟨Nat.le_of_ble_eq_true rfl, Nat.le_of_ble_eq_true rfl⟩) ⟨pcR_blind, va_recv hK (hP.sub (ws' := (lettersC G.2 a v)) [7, 8, 9, 10, 11, 12, 13, 14] rfl) (ci := 3) (q0 := 0) rfl rfl, pcR_pre (hP.sub (ws' := (lettersC G.2 a v)) [7, 8, 9, 10, 11, 12, 13, 14] rfl) hamb⟩ rfl rfl hl.1 rfl (lv_room (Nat.le_of_ble_eq_true rfl)) dX0_heatInDrawer_21 ⟨Nat.zero_le _, Nat.zero_le _⟩) (fun r21 hw => ?_)
        have hf := bd1_2 hf hw
        refine lv_if_eq (tgt := 35) hx hb dX0_heatInDrawer_24 (by decide) (fun c => ?_) (fun c => ?_)
        · have hf := it_1 hf c
          refine lv_iinc (v := (x3 + 1)) (lv' := [(3, .int (x3 + 1)), (0, .ref (a 0)), (1, .int x1), (2, .int x2)]) hx hb dX0_heatInDrawer_35 hl (k := 3) rfl rfl (by decide) rfl (fun ls hl => ?_)
          refine lv_goto (tgt := 4) hx hb dX0_heatInDrawer_38 (by decide) ?_
          exact ih v x1 x2 (x3 + 1) ls hP (lv_sub hl [1, 2, 3, 0] rfl) hf
        · have hf := it_2 hf c
          refine lv_iload_n hx hb dX0_heatInDrawer_27 rfl (lv_at hl 2 rfl) ?_
          refine lv_aload_n hx hb dX0_heatInDrawer_28 rfl (lv_at hl 0 rfl) ?_
          refine lv_iload_n hx hb dX0_heatInDrawer_29 rfl (lv_at hl 3 rfl) ?_
          have hn := bd1_1 hf hne
          refine vp_callSi (W.runV (As := [.int x3]) (rest := [.int x2]) ⟨hx, hb, hml, hown, hts⟩ (ok_X0_heatNow l G a v x3 hn) (cwV 1 hts gX0_heatInDrawer_X0_heatNow rfl rfl rfl (by decide +kernel) ⟨Nat.le_of_ble_eq_true rfl, Nat.le_of_ble_eq_true rfl⟩) ⟨pcR_blind, va_recv hK hP (ci := 0) (q0 := 0) rfl rfl, pcR_pre hP hamb⟩ rfl rfl hl.1 rfl (lv_room (Nat.le_of_ble_eq_true rfl)) dX0_heatInDrawer_30 ⟨Nat.zero_le _, Nat.zero_le _⟩) (fun r30 hw => ?_)
          have hf := bd1_2 hf hw
          refine lv_iadd hx hb dX0_heatInDrawer_33 ?_
          refine lv_istore_n (lv' := [(2, .int (x2 + r30)), (0, .ref (a 0)), (1, .int x1), (3, .int x3)]) hx hb dX0_heatInDrawer_34 rfl hl (by decide) rfl (fun ls hl => ?_)
          refine lv_iinc (v := (x3 + 1)) (lv' := [(3, .int (x3 + 1)), (2, .int (x2 + r30)), (0, .ref (a 0)), (1, .int x1)]) hx hb dX0_heatInDrawer_35 hl (k := 3) rfl rfl (by decide) rfl (fun ls hl => ?_)
          refine lv_goto (tgt := 4) hx hb dX0_heatInDrawer_38 (by decide) ?_
          exact ih v x1 (x2 + r30) (x3 + 1) ls hP (lv_sub hl [2, 3, 1, 0] rfl) hf
  refine lv_iconst (v := 0) hx hb dX0_heatInDrawer_0 (by decide) ?_
  refine lv_istore_n (lv' := [(2, .int 0), (0, .ref (a 0)), (1, .int p1)]) hx hb dX0_heatInDrawer_1 rfl hl (by decide) rfl (fun ls hl => ?_)
  refine lv_iconst (v := 0) hx hb dX0_heatInDrawer_2 (by decide) ?_
  refine lv_istore_n (lv' := [(3, .int 0), (2, .int 0), (0, .ref (a 0)), (1, .int p1)]) hx hb dX0_heatInDrawer_3 rfl hl (by decide) rfl (fun ls hl => ?_)
  exact L4 n0 v0 p1 0 0 ls hP (lv_sub hl [2, 3, 1, 0] rfl) hf
set_option maxHeartbeats 4000000 in
set_option maxRecDepth 100000 in
theorem ok_X0_hoursTillSent (l : Launch) (G : Gt) (a : Nat → Nat) (n0 : Nat) (v0 : DV) (p1 : Int32) (p2 : Int32) (p3 : Int32) (hne : f_X0_hoursTillSent n0 v0 p1 p2 p3 ≠ none) : Met l yX0_hoursTillSent wsX0_hoursTillSent ({ frames := 2, cells := 0, slots := 0, locals := 65 } : Room) (pcR G [.ref (a 0), .int p1, .int p2, .int p3] (deskC G.2 a v0)) (vp_Si (fun r => f_X0_hoursTillSent n0 v0 p1 p2 p3 = some r)) 0 0 (fun _ => False) := by
  refine Met.ofW (cc := cX0_hoursTillSent) (maxL := 8) (ret := (some .int)) (by decide) rfl ?_
  intro p e s m args below meth c s₁ B hml hv
  obtain ⟨rfl, hP, hamb⟩ := hv
  have hx := B.exec
  have hb := B.bytes
  have hr := B.returns
  have hts := atoms_spec (ws := wsX0_hoursTillSent) B.pre
  have hown : s.vm.findClass RX0 = some m.cls := findClass_of_methodNamed B.named
  have hlocks := B.notSynchronized
  have hK := hamb.1
  obtain ⟨res, hf0⟩ : ∃ res, f_X0_hoursTillSent n0 v0 p1 p2 p3 = res := ⟨_, rfl⟩
  have hne : res ≠ none := hf0 ▸ hne
  have hf := hf0
  rw [f_X0_hoursTillSent] at hf
  have hinX0 : ∀ w ∈ u_ws RX0 TX0 4, w ∈ wsX0_hoursTillSent := by decide +kernel
  have hinX3 : ∀ w ∈ u_ws RX3 TX3 8, w ∈ wsX0_hoursTillSent := by decide +kernel
  have lk25 := hts (.fieldLink RX0 25 "MoodDrawers$Desk" "letters" "LMoodDrawers$Letters;") (by decide +kernel)
  have lk64 := hts (.fieldLink RX0 64 "MoodDrawers$Letters" "mood" "[I") (by decide +kernel)
  have lw2 := hts (.initialized RX6) (by decide +kernel)
  have lw3 := hts (.static yX6_isMood) (by decide +kernel)
  have lk33 := hts (.fieldLink RX0 33 "MoodDrawers$Desk" "now" "I") (by decide +kernel)
  have lw5 := hts (.methodLink RX0 136 Lib.Math.max.name) (by decide +kernel)
  have lw6 := hts (.static Lib.Math.max.name) (by decide +kernel)
  have lw7 := hts (.initialized "java/lang/Math") (by decide +kernel)
  have lw8 := hts (.code Lib.Math.max.name Lib.Math.max.code 2 (some .int)) (by decide +kernel)
  have lk18 := hts (.fieldLink RX0 18 "MoodDrawers$Desk" "drawers" "LMoodDrawers$Drawers;") (by decide +kernel)
  have hl := lv_entry ([.ref (a 0), .int p1, .int p2, .int p3]) (n := 8) (Nat.le_of_ble_eq_true rfl)
  rw [lg_entry_eq]
  generalize (lg_sl ([.ref (a 0), .int p1, .int p2, .int p3]) ++ List.replicate (8 - (lg_sl ([.ref (a 0), .int p1, .int p2, .int p3])).length) Slot.unset).toArray = ls at hl ⊢
  have hl : lv_has ls 8 [(0, .ref (a 0)), (1, .int p1), (2, .int p2), (3, .int p3)] := hl
  have L58 : ∀ (n : Nat) (v : DV) (x3 : Int32) (x4 : Int32) (x6 : Int32) (x7 : Int32) (ls : Array Slot), va_P G.1 vwCl (deskC G.2 a v) s.heap → lv_has ls 8 [(0, .ref (a 0)), (3, .int x3), (4, .int x4), (6, .int x6), (7, .int x7)] → f_X0_hoursTillSent_L58 n v x3 x4 x6 x7 = res → W p l e (headSpec wsX0_hoursTillSent ({ frames := 2, cells := 0, slots := 0, locals := 65 } : Room)).room s m ([.ref (a 0), .int p1, .int p2, .int p3] : List Value).toArray below meth c s.heap [] 0 0 (MQ below (vp_Si (fun r => f_X0_hoursTillSent n0 v0 p1 p2 p3 = some r)) ([.ref (a 0), .int p1, .int p2, .int p3] : List Value).toArray s 0 0 (fun _ => False)) (F0 m 58 ls []) := by
    intro n
    induction n with
    | zero => intro v x3 x4 x6 x7 ls hP hl hf; exact (none_1 hf hne).elim
    | succ n ih =>
      intro v x3 x4 x6 x7 ls hP hl hf
      rw [f_X0_hoursTillSent_L58] at hf
      refine lv_iload hx hb dX0_hoursTillSent_58 (lv_at hl 4 rfl) ?_
      refine lv_iconst (v := 2) hx hb dX0_hoursTillSent_60 (by decide) ?_
      refine lv_icmp_ge (tgt := 115) hx hb dX0_hoursTillSent_61 (by decide) (fun c => ?_) (fun c => ?_)
      · have hf := it_1 hf c
        refine lv_bipush (v := (-6)) hx hb dX0_hoursTillSent_115 (by decide) ?_
        exact W.iret (v := (-6)) hx hb hr (fun t ht hW => ⟨(-6), rfl, hf0.trans hf.symm, ht⟩) (fun _ hq => absurd hq List.not_mem_nil) dX0_hoursTillSent_117
      · have hf := it_2 hf c
        refine lv_iload hx hb dX0_hoursTillSent_64 (lv_at hl 3 rfl) ?_
        refine lv_aload_n hx hb dX0_hoursTillSent_66 rfl (lv_at hl 0 rfl) ?_
        refine va_get (D := G.1) (ci := 0) (v := .int (v 0 0)) (C := RX0) (T := TX0) (N := 4) hx hb hts hinX0 hown hK hP 0 rfl rfl 1 (by decide) lk33 (fun _ h9 => h9) rfl dX0_hoursTillSent_67 ?_
        refine lv_isub hx hb dX0_hoursTillSent_70 ?_
        refine lv_iload_n hx hb dX0_hoursTillSent_71 rfl (lv_at hl 1 rfl) ?_
        refine lv_icmp_lt (tgt := 78) hx hb dX0_hoursTillSent_72 (by decide) (fun c => ?_) (fun c => ?_)
        · have hf := it_1 hf c
          refine lv_aload_n hx hb dX0_hoursTillSent_78 rfl (lv_at hl 0 rfl) ?_
          refine va_get (D := G.1) (ci := 0) (v := .ref (a 2)) (C := RX0) (T := TX0) (N := 4) hx hb hts hinX0 hown hK hP 0 rfl rfl 2 (by decide) lk18 (fun _ h9 => h9) rfl dX0_hoursTillSent_79 ?_
          refine lv_iload hx hb dX0_hoursTillSent_82 (lv_at hl 2 rfl) ?_
          refine lv_aload_n hx hb dX0_hoursTillSent_84 rfl (lv_at hl 0 rfl) ?_
          refine va_get (D := G.1) (ci := 0) (v := .int (v 0 0)) (C := RX0) (T := TX0) (N := 4) hx hb hts hinX0 hown hK hP 0 rfl rfl 1 (by decide) lk33 (fun _ h9 => h9) rfl dX0_hoursTillSent_85 ?_
          refine lv_iload hx hb dX0_hoursTillSent_88 (lv_at hl 3 rfl) ?_
          have hn := bd1_1 hf hne
          refine vp_callSi (W.runV (As := [.int x4, .int (v 0 0), .int x6]) (rest := []) ⟨hx, hb, hml, hown, hts⟩ (ok_X1_isLockedAt l G a v x4 (v 0 0) x6 hn) (cwV 3 hts gX0_hoursTillSent_X1_isLockedAt rfl rfl rfl (by decide +kernel) ⟨Nat.le_of_ble_eq_true rfl, Nat.le_of_ble_eq_true rfl⟩) ⟨pcR_blind, va_recv hK (hP.sub (ws' := (drawersC G.2 a v)) [2, 3, 4, 5, 6] rfl) (ci := 1) (q0 := 0) rfl rfl, pcR_pre (hP.sub (ws' := (drawersC G.2 a v)) [2, 3, 4, 5, 6] rfl) hamb⟩ rfl rfl hl.1 rfl (lv_room (Nat.le_of_ble_eq_true rfl)) dX0_hoursTillSent_90 ⟨Nat.zero_le _, Nat.zero_le _⟩) (fun r90 hw => ?_)
          have hf := bd1_2 hf hw
          refine lv_if_ne (tgt := 106) hx hb dX0_hoursTillSent_93 (by decide) (fun c => ?_) (fun c => ?_)
          · have hf := it_2 hf c
            refine lv_iinc (v := (x6 + 24)) (lv' := [(6, .int (x6 + 24)), (0, .ref (a 0)), (3, .int x3), (4, .int x4), (7, .int x7)]) hx hb dX0_hoursTillSent_106 hl (k := 3) rfl rfl (by decide) rfl (fun ls hl => ?_)
            refine lv_iinc (v := (x7 + 1)) (lv' := [(7, .int (x7 + 1)), (6, .int (x6 + 24)), (0, .ref (a 0)), (3, .int x3), (4, .int x4)]) hx hb dX0_hoursTillSent_109 hl (k := 4) rfl rfl (by decide) rfl (fun ls hl => ?_)
            refine lv_goto (tgt := 58) hx hb dX0_hoursTillSent_112 (by decide) ?_
            exact ih v x3 x4 (x6 + 24) (x7 + 1) ls hP (lv_sub hl [2, 3, 4, 1, 0] rfl) hf
          · have hf := it_1 hf c
            refine lv_iload hx hb dX0_hoursTillSent_96 (lv_at hl 3 rfl) ?_
            refine lv_aload_n hx hb dX0_hoursTillSent_98 rfl (lv_at hl 0 rfl) ?_
            refine va_get (D := G.1) (ci := 0) (v := .int (v 0 0)) (C := RX0) (T := TX0) (N := 4) hx hb hts hinX0 hown hK hP 0 rfl rfl 1 (by decide) lk33 (fun _ h9 => h9) rfl dX0_hoursTillSent_99 ?_
            refine lv_isub hx hb dX0_hoursTillSent_102 ?_
            refine lv_iconst (v := 1) hx hb dX0_hoursTillSent_103 (by decide) ?_
            refine lv_iadd hx hb dX0_hoursTillSent_104 ?_
            exact W.iret (v := ((x6 - (v 0 0)) + 1)) hx hb hr (fun t ht hW => ⟨((x6 - (v 0 0)) + 1), rfl, hf0.trans hf.symm, ht⟩) (fun _ hq => absurd hq List.not_mem_nil) dX0_hoursTillSent_105
        · have hf := it_2 hf c
          refine lv_bipush (v := (-6)) hx hb dX0_hoursTillSent_75 (by decide) ?_
          exact W.iret (v := (-6)) hx hb hr (fun t ht hW => ⟨(-6), rfl, hf0.trans hf.symm, ht⟩) (fun _ hq => absurd hq List.not_mem_nil) dX0_hoursTillSent_77
  refine lv_aload_n hx hb dX0_hoursTillSent_0 rfl (lv_at hl 0 rfl) ?_
  refine va_get (D := G.1) (ci := 0) (v := .ref (a 7)) (C := RX0) (T := TX0) (N := 4) hx hb hts hinX0 hown hK hP 0 rfl rfl 3 (by decide) lk25 (fun _ h9 => h9) rfl dX0_hoursTillSent_1 ?_
  refine va_get (D := G.1) (ci := 3) (v := .ref (a 8)) (C := RX3) (T := TX3) (N := 8) hx hb hts hinX3 hown hK hP 7 rfl rfl 1 (by decide) lk64 (fun _ h9 => h9) rfl dX0_hoursTillSent_4 ?_
  refine lv_iload_n hx hb dX0_hoursTillSent_7 rfl (lv_at hl 1 rfl) ?_
  obtain ⟨hi, hf⟩ := ck_1 hf hne
  refine va_iald (f := (v0 7)) hx hb hK hP 8 0 rfl rfl (ixb_1 hi) dX0_hoursTillSent_8 ?_
  refine lv_istore (lv' := [(4, .int ((v0 7) (Int32.toNatClampNeg p1))), (0, .ref (a 0)), (1, .int p1), (2, .int p2), (3, .int p3)]) hx hb dX0_hoursTillSent_9 hl (by decide) rfl (fun ls hl => ?_)
  refine lv_iload hx hb dX0_hoursTillSent_11 (lv_at hl 0 rfl) ?_
  refine vp_callSi ((va_runSN (As := [.int ((v0 7) (Int32.toNatClampNeg p1))]) (rest := []) ⟨hx, hb, hml, hown, hts⟩ (ok_X6_isMood l ((v0 7) (Int32.toNatClampNeg p1))) ⟨va_cnB 1 hts gX0_hoursTillSent_X6_isMood_n47 rfl rfl rfl (hamb.2.1 (.methodLinkNest RX0 47 yX6_isMood RX6) (List.mem_of_getElem? (i := 10) rfl)) lw2 (by decide +kernel) ⟨Nat.le_of_ble_eq_true rfl, Nat.le_of_ble_eq_true rfl⟩, lw3, trivial⟩ ⟨fun _ _ _ _ q => q, fun _ _ _ => ⟨rfl, trivial⟩⟩ rfl rfl hl.1 rfl (lv_room (Nat.le_of_ble_eq_true rfl)) dX0_hoursTillSent_13 ⟨Nat.zero_le _, Nat.zero_le _⟩).run) (fun r13 hw => ?_)
  subst hw
  refine lv_if_ne (tgt := 22) hx hb dX0_hoursTillSent_16 (by decide) (fun c => ?_) (fun c => ?_)
  · have hf := it_2 hf c
    refine lv_aload_n hx hb dX0_hoursTillSent_22 rfl (lv_at hl 1 rfl) ?_
    refine va_get (D := G.1) (ci := 0) (v := .int (v0 0 0)) (C := RX0) (T := TX0) (N := 4) hx hb hts hinX0 hown hK hP 0 rfl rfl 1 (by decide) lk33 (fun _ h9 => h9) rfl dX0_hoursTillSent_23 ?_
    refine lv_aload_n hx hb dX0_hoursTillSent_26 rfl (lv_at hl 1 rfl) ?_
    refine lv_iload_n hx hb dX0_hoursTillSent_27 rfl (lv_at hl 2 rfl) ?_
    refine lv_iload hx hb dX0_hoursTillSent_28 (lv_at hl 0 rfl) ?_
    have hn := bd1_1 hf hne
    refine vp_callSi (W.runV (As := [.int p1, .int ((v0 7) (Int32.toNatClampNeg p1))]) (rest := [.int (v0 0 0)]) ⟨hx, hb, hml, hown, hts⟩ (ok_X0_readyDay l G a v0 p1 ((v0 7) (Int32.toNatClampNeg p1)) hn) (cwV 2 hts gX0_hoursTillSent_X0_readyDay rfl rfl rfl (by decide +kernel) ⟨Nat.le_of_ble_eq_true rfl, Nat.le_of_ble_eq_true rfl⟩) ⟨pcR_blind, va_recv hK hP (ci := 0) (q0 := 0) rfl rfl, pcR_pre hP hamb⟩ rfl rfl hl.1 rfl (lv_room (Nat.le_of_ble_eq_true rfl)) dX0_hoursTillSent_30 ⟨Nat.zero_le _, Nat.zero_le _⟩) (fun r30 hw => ?_)
    have hf := bd1_2 hf hw
    refine lv_bipush (v := 24) hx hb dX0_hoursTillSent_33 (by decide) ?_
    refine lv_imul hx hb dX0_hoursTillSent_35 ?_
    refine va_mmax (rest := []) hx hb (hml.trans hl.1.symm) hown lw5 lw6 lw7 lw8 (Nat.le_of_ble_eq_true rfl) (Nat.le_of_ble_eq_true rfl) (Nat.zero_le _) (Nat.zero_le _) dX0_hoursTillSent_36 ?_
    refine lv_istore (lv' := [(5, .int (if (v0 0 0) < (r30 * 24) then (r30 * 24) else (v0 0 0))), (4, .int ((v0 7) (Int32.toNatClampNeg p1))), (0, .ref (a 0)), (1, .int p1), (2, .int p2), (3, .int p3)]) hx hb dX0_hoursTillSent_39 hl (by decide) rfl (fun ls hl => ?_)
    refine lv_iload hx hb dX0_hoursTillSent_41 (lv_at hl 0 rfl) ?_
    refine lv_iload_n hx hb dX0_hoursTillSent_43 rfl (lv_at hl 4 rfl) ?_
    refine lv_iload hx hb dX0_hoursTillSent_44 (lv_at hl 0 rfl) ?_
    refine lv_isub hx hb dX0_hoursTillSent_46 ?_
    refine lv_bipush (v := 24) hx hb dX0_hoursTillSent_47 (by decide) ?_
    have hn := bd1_1 hf hne
    refine vp_callSi (W.runS (As := [.int (p2 - (if (v0 0 0) < (r30 * 24) then (r30 * 24) else (v0 0 0))), .int 24]) (rest := [.int (if (v0 0 0) < (r30 * 24) then (r30 * 24) else (v0 0 0))]) ⟨hx, hb, hml, hown, hts⟩ (ok_J9_floorMod_7cf53 l (p2 - (if (v0 0 0) < (r30 * 24) then (r30 * 24) else (v0 0 0))) 24 hn) (va_cwS 2 hts gX0_hoursTillSent_J9_floorMod_7cf53 rfl rfl rfl (by decide +kernel) ⟨Nat.le_of_ble_eq_true rfl, Nat.le_of_ble_eq_true rfl⟩) ⟨fun _ _ _ _ q => q, fun _ _ _ => ⟨rfl, trivial⟩⟩ rfl rfl hl.1 rfl (lv_room (Nat.le_of_ble_eq_true rfl)) dX0_hoursTillSent_49 ⟨Nat.zero_le _, Nat.zero_le _⟩) (fun r49 hw => ?_)
    have hf := bd1_2 hf hw
    refine lv_iadd hx hb dX0_hoursTillSent_52 ?_
    refine lv_istore (lv' := [(6, .int ((if (v0 0 0) < (r30 * 24) then (r30 * 24) else (v0 0 0)) + r49)), (5, .int (if (v0 0 0) < (r30 * 24) then (r30 * 24) else (v0 0 0))), (4, .int ((v0 7) (Int32.toNatClampNeg p1))), (0, .ref (a 0)), (1, .int p1), (2, .int p2), (3, .int p3)]) hx hb dX0_hoursTillSent_53 hl (by decide) rfl (fun ls hl => ?_)
    refine lv_iconst (v := 0) hx hb dX0_hoursTillSent_55 (by decide) ?_
    refine lv_istore (lv' := [(7, .int 0), (6, .int ((if (v0 0 0) < (r30 * 24) then (r30 * 24) else (v0 0 0)) + r49)), (5, .int (if (v0 0 0) < (r30 * 24) then (r30 * 24) else (v0 0 0))), (4, .int ((v0 7) (Int32.toNatClampNeg p1))), (0, .ref (a 0)), (1, .int p1), (2, .int p2), (3, .int p3)]) hx hb dX0_hoursTillSent_56 hl (by decide) rfl (fun ls hl => ?_)
    exact L58 n0 v0 p3 ((v0 7) (Int32.toNatClampNeg p1)) ((if (v0 0 0) < (r30 * 24) then (r30 * 24) else (v0 0 0)) + r49) 0 ls hP (lv_sub hl [4, 7, 3, 1, 0] rfl) hf
  · have hf := it_1 hf c
    refine lv_bipush (v := (-6)) hx hb dX0_hoursTillSent_19 (by decide) ?_
    exact W.iret (v := (-6)) hx hb hr (fun t ht hW => ⟨(-6), rfl, hf0.trans hf.symm, ht⟩) (fun _ hq => absurd hq List.not_mem_nil) dX0_hoursTillSent_21
set_option maxHeartbeats 4000000 in
set_option maxRecDepth 100000 in
theorem ok_X0_sentWithin (l : Launch) (G : Gt) (a : Nat → Nat) (n0 : Nat) (v0 : DV) (p1 : Int32) (p2 : Int32) (hne : f_X0_sentWithin n0 v0 p1 p2 ≠ none) : Met l yX0_sentWithin wsX0_sentWithin ({ frames := 3, cells := 0, slots := 0, locals := 92 } : Room) (pcR G [.ref (a 0), .int p1, .int p2] (deskC G.2 a v0)) (vp_Si (fun r => f_X0_sentWithin n0 v0 p1 p2 = some r)) 0 0 (fun _ => False) := by
  refine Met.ofW (cc := cX0_sentWithin) (maxL := 5) (ret := (some .int)) (by decide) rfl ?_
  intro p e s m args below meth c s₁ B hml hv
  obtain ⟨rfl, hP, hamb⟩ := hv
  have hx := B.exec
  have hb := B.bytes
  have hr := B.returns
  have hts := atoms_spec (ws := wsX0_sentWithin) B.pre
  have hown : s.vm.findClass RX0 = some m.cls := findClass_of_methodNamed B.named
  have hlocks := B.notSynchronized
  have hK := hamb.1
  obtain ⟨res, hf0⟩ : ∃ res, f_X0_sentWithin n0 v0 p1 p2 = res := ⟨_, rfl⟩
  have hne : res ≠ none := hf0 ▸ hne
  have hf := hf0
  rw [f_X0_sentWithin] at hf
  have hinX0 : ∀ w ∈ u_ws RX0 TX0 4, w ∈ wsX0_sentWithin := by decide +kernel
  have hinX3 : ∀ w ∈ u_ws RX3 TX3 8, w ∈ wsX0_sentWithin := by decide +kernel
  have lk25 := hts (.fieldLink RX0 25 "MoodDrawers$Desk" "letters" "LMoodDrawers$Letters;") (by decide +kernel)
  have lk54 := hts (.fieldLink RX0 54 "MoodDrawers$Letters" "written" "I") (by decide +kernel)
  have lk61 := hts (.fieldLink RX0 61 "MoodDrawers$Letters" "how" "[I") (by decide +kernel)
  have hl := lv_entry ([.ref (a 0), .int p1, .int p2]) (n := 5) (Nat.le_of_ble_eq_true rfl)
  rw [lg_entry_eq]
  generalize (lg_sl ([.ref (a 0), .int p1, .int p2]) ++ List.replicate (5 - (lg_sl ([.ref (a 0), .int p1, .int p2])).length) Slot.unset).toArray = ls at hl ⊢
  have hl : lv_has ls 5 [(0, .ref (a 0)), (1, .int p1), (2, .int p2)] := hl
  have L5 : ∀ (n : Nat) (v : DV) (x1 : Int32) (x2 : Int32) (x3 : Int32) (x4 : Int32) (ls : Array Slot), va_P G.1 vwCl (deskC G.2 a v) s.heap → lv_has ls 5 [(0, .ref (a 0)), (1, .int x1), (2, .int x2), (3, .int x3), (4, .int x4)] → f_X0_sentWithin_L5 n v x1 x2 x3 x4 = res → W p l e (headSpec wsX0_sentWithin ({ frames := 3, cells := 0, slots := 0, locals := 92 } : Room)).room s m ([.ref (a 0), .int p1, .int p2] : List Value).toArray below meth c s.heap [] 0 0 (MQ below (vp_Si (fun r => f_X0_sentWithin n0 v0 p1 p2 = some r)) ([.ref (a 0), .int p1, .int p2] : List Value).toArray s 0 0 (fun _ => False)) (F0 m 5 ls []) := by
    intro n
    induction n with
    | zero => intro v x1 x2 x3 x4 ls hP hl hf; exact (none_1 hf hne).elim
    | succ n ih =>
      intro v x1 x2 x3 x4 ls hP hl hf
      rw [f_X0_sentWithin_L5] at hf
      refine lv_iload hx hb dX0_sentWithin_5 (lv_at hl 4 rfl) ?_
      refine lv_aload_n hx hb dX0_sentWithin_7 rfl (lv_at hl 0 rfl) ?_
      refine va_get (D := G.1) (ci := 0) (v := .ref (a 7)) (C := RX0) (T := TX0) (N := 4) hx hb hts hinX0 hown hK hP 0 rfl rfl 3 (by decide) lk25 (fun _ h9 => h9) rfl dX0_sentWithin_8 ?_
      refine va_get (D := G.1) (ci := 3) (v := .int (v 1 0)) (C := RX3) (T := TX3) (N := 8) hx hb hts hinX3 hown hK hP 7 rfl rfl 0 (by decide) lk54 (fun _ h9 => h9) rfl dX0_sentWithin_11 ?_
      refine lv_icmp_ge (tgt := 52) hx hb dX0_sentWithin_14 (by decide) (fun c => ?_) (fun c => ?_)
      · have hf := it_1 hf c
        refine lv_iload_n hx hb dX0_sentWithin_52 rfl (lv_at hl 3 rfl) ?_
        exact W.iret (v := x3) hx hb hr (fun t ht hW => ⟨x3, rfl, hf0.trans hf.symm, ht⟩) (fun _ hq => absurd hq List.not_mem_nil) dX0_sentWithin_53
      · have hf := it_2 hf c
        refine lv_aload_n hx hb dX0_sentWithin_17 rfl (lv_at hl 0 rfl) ?_
        refine va_get (D := G.1) (ci := 0) (v := .ref (a 7)) (C := RX0) (T := TX0) (N := 4) hx hb hts hinX0 hown hK hP 0 rfl rfl 3 (by decide) lk25 (fun _ h9 => h9) rfl dX0_sentWithin_18 ?_
        refine va_get (D := G.1) (ci := 3) (v := .ref (a 12)) (C := RX3) (T := TX3) (N := 8) hx hb hts hinX3 hown hK hP 7 rfl rfl 5 (by decide) lk61 (fun _ h9 => h9) rfl dX0_sentWithin_21 ?_
        refine lv_iload hx hb dX0_sentWithin_24 (lv_at hl 4 rfl) ?_
        obtain ⟨hi, hf⟩ := ck_1 hf hne
        refine va_iald (f := (v 11)) hx hb hK hP 12 0 rfl rfl (ixb_1 hi) dX0_sentWithin_26 ?_
        refine lv_if_ne (tgt := 46) hx hb dX0_sentWithin_27 (by decide) (fun c => ?_) (fun c => ?_)
        · have hf := it_2 hf c
          refine lv_iinc (v := (x4 + 1)) (lv' := [(4, .int (x4 + 1)), (0, .ref (a 0)), (1, .int x1), (2, .int x2), (3, .int x3)]) hx hb dX0_sentWithin_46 hl (k := 4) rfl rfl (by decide) rfl (fun ls hl => ?_)
          refine lv_goto (tgt := 5) hx hb dX0_sentWithin_49 (by decide) ?_
          exact ih v x1 x2 x3 (x4 + 1) ls hP (lv_sub hl [1, 2, 3, 4, 0] rfl) hf
        · have hf := it_1 hf c
          refine lv_aload_n hx hb dX0_sentWithin_30 rfl (lv_at hl 0 rfl) ?_
          refine lv_iload hx hb dX0_sentWithin_31 (lv_at hl 4 rfl) ?_
          refine lv_iload_n hx hb dX0_sentWithin_33 rfl (lv_at hl 1 rfl) ?_
          refine lv_iload_n hx hb dX0_sentWithin_34 rfl (lv_at hl 2 rfl) ?_
          have hn := bd1_1 hf hne
          refine vp_callSi (W.runV (As := [.int x4, .int x1, .int x2]) (rest := []) ⟨hx, hb, hml, hown, hts⟩ (ok_X0_hoursTillSent l G a n v x4 x1 x2 hn) (cwV 3 hts gX0_sentWithin_X0_hoursTillSent rfl rfl rfl (by decide +kernel) ⟨Nat.le_of_ble_eq_true rfl, Nat.le_of_ble_eq_true rfl⟩) ⟨pcR_blind, va_recv hK hP (ci := 0) (q0 := 0) rfl rfl, pcR_pre hP hamb⟩ rfl rfl hl.1 rfl (lv_room (Nat.le_of_ble_eq_true rfl)) dX0_sentWithin_35 ⟨Nat.zero_le _, Nat.zero_le _⟩) (fun r35 hw => ?_)
          have hf := bd1_2 hf hw
          refine lv_bipush (v := (-6)) hx hb dX0_sentWithin_38 (by decide) ?_
          refine lv_icmp_eq (tgt := 46) hx hb dX0_sentWithin_40 (by decide) (fun c => ?_) (fun c => ?_)
          · have hf := it_1 hf c
            refine lv_iinc (v := (x4 + 1)) (lv' := [(4, .int (x4 + 1)), (0, .ref (a 0)), (1, .int x1), (2, .int x2), (3, .int x3)]) hx hb dX0_sentWithin_46 hl (k := 4) rfl rfl (by decide) rfl (fun ls hl => ?_)
            refine lv_goto (tgt := 5) hx hb dX0_sentWithin_49 (by decide) ?_
            exact ih v x1 x2 x3 (x4 + 1) ls hP (lv_sub hl [1, 2, 3, 4, 0] rfl) hf
          · have hf := it_2 hf c
            refine lv_iinc (v := (x3 + 1)) (lv' := [(3, .int (x3 + 1)), (0, .ref (a 0)), (1, .int x1), (2, .int x2), (4, .int x4)]) hx hb dX0_sentWithin_43 hl (k := 3) rfl rfl (by decide) rfl (fun ls hl => ?_)
            refine lv_iinc (v := (x4 + 1)) (lv' := [(4, .int (x4 + 1)), (3, .int (x3 + 1)), (0, .ref (a 0)), (1, .int x1), (2, .int x2)]) hx hb dX0_sentWithin_46 hl (k := 4) rfl rfl (by decide) rfl (fun ls hl => ?_)
            refine lv_goto (tgt := 5) hx hb dX0_sentWithin_49 (by decide) ?_
            exact ih v x1 x2 (x3 + 1) (x4 + 1) ls hP (lv_sub hl [2, 3, 4, 1, 0] rfl) hf
  refine lv_iconst (v := 0) hx hb dX0_sentWithin_0 (by decide) ?_
  refine lv_istore_n (lv' := [(3, .int 0), (0, .ref (a 0)), (1, .int p1), (2, .int p2)]) hx hb dX0_sentWithin_1 rfl hl (by decide) rfl (fun ls hl => ?_)
  refine lv_iconst (v := 0) hx hb dX0_sentWithin_2 (by decide) ?_
  refine lv_istore (lv' := [(4, .int 0), (3, .int 0), (0, .ref (a 0)), (1, .int p1), (2, .int p2)]) hx hb dX0_sentWithin_3 hl (by decide) rfl (fun ls hl => ?_)
  exact L5 n0 v0 p1 p2 0 0 ls hP (lv_sub hl [2, 3, 4, 1, 0] rfl) hf
