set_option maxHeartbeats 4000000 in
set_option maxRecDepth 100000 in
theorem ok_X4_append (l : Launch) (G : Gt) (a : Nat → Nat) (sz : Nat) (v0 : DV) (p1 : Int32) (hne : f_X4_append v0 p1 ≠ none) : Met l yX4_append wsX4_append ({ frames := 0, cells := 0, slots := 0, locals := 0 } : Room) (pcW G [.ref (a 17), .int p1] (padC G.2 a v0) sz) (va_Qv (fun (u : DV) => f_X4_append v0 p1 = some u) (fun u t => atW G (padC G.2 a u) (va_A (padC G.2 a v0) sz) t) (va_A (padC G.2 a v0) sz)) 0 0 (va_A (padC G.2 a v0) sz) := by
  refine Met.ofW (cc := cX4_append) (maxL := 2) (ret := none) (by decide) rfl ?_
  intro p e s m args below meth c s₁ B hml hv
  obtain ⟨rfl, hsz, hP, hD0, hamb⟩ := hv
  have hx := B.exec
  have hb := B.bytes
  have hr := B.returns
  have hts := atoms_spec (ws := wsX4_append) B.pre
  have hown : s.vm.findClass RX4 = some m.cls := findClass_of_methodNamed B.named
  have hlocks := B.notSynchronized
  have hK := hamb.1
  subst hsz
  have hD := hD0.self (sz := s.heap.size)
  generalize hAe : va_A (padC G.2 a v0) s.heap.size = A at hD ⊢
  have hA : ∀ q : Nat, s.heap.size ≤ q → A q := fun q h => by rw [← hAe]; exact Or.inr h
  have hS : va_S A s.heap s.heap [] := va_S.rf
  obtain ⟨res, hf0⟩ : ∃ res, f_X4_append v0 p1 = res := ⟨_, rfl⟩
  have hne : res ≠ none := hf0 ▸ hne
  have hf := hf0
  rw [f_X4_append] at hf
  have hinX4 : ∀ w ∈ u_ws RX4 TX4 7, w ∈ wsX4_append := by decide +kernel
  have lk15 := hts (.fieldLink RX4 15 "MoodDrawers$Pad" "length" "I") (by decide +kernel)
  have lk9 := hts (.fieldLink RX4 9 "MoodDrawers$Pad" "text" "[C") (by decide +kernel)
  have hl := lv_entry ([.ref (a 17), .int p1]) (n := 2) (Nat.le_of_ble_eq_true rfl)
  rw [lg_entry_eq]
  generalize (lg_sl ([.ref (a 17), .int p1]) ++ List.replicate (2 - (lg_sl ([.ref (a 17), .int p1])).length) Slot.unset).toArray = ls at hl ⊢
  have hl : lv_has ls 2 [(0, .ref (a 17)), (1, .int p1)] := hl
  refine lv_aload_n hx hb dX4_append_0 rfl (lv_at hl 0 rfl) ?_
  refine va_get (D := G.1) (ci := 4) (v := .int (v0 16 0)) (C := RX4) (T := TX4) (N := 7) hx hb hts hinX4 hown hK hP 0 rfl rfl 1 (by decide) lk15 (fun _ h9 => h9) rfl dX4_append_1 ?_
  refine lv_bipush (v := 80) hx hb dX4_append_4 (by decide) ?_
  refine lv_icmp_ge (tgt := 29) hx hb dX4_append_6 (by decide) (fun c => ?_) (fun c => ?_)
  · have hf := it_1 hf c
    exact W.vret hx hb hr (fun t ht hW => ⟨⟨v0, rfl, hf0.trans hf.symm, by rw [ht]; exact hP, hD⟩, hS.F ht⟩) hS.2.2 dX4_append_29
  · have hf := it_2 hf c
    refine lv_aload_n hx hb dX4_append_9 rfl (lv_at hl 0 rfl) ?_
    refine va_get (D := G.1) (ci := 4) (v := .ref (a 18)) (C := RX4) (T := TX4) (N := 7) hx hb hts hinX4 hown hK hP 0 rfl rfl 0 (by decide) lk9 (fun _ h9 => h9) rfl dX4_append_10 ?_
    refine lv_aload_n hx hb dX4_append_13 rfl (lv_at hl 0 rfl) ?_
    refine va_get (D := G.1) (ci := 4) (v := .int (v0 16 0)) (C := RX4) (T := TX4) (N := 7) hx hb hts hinX4 hown hK hP 0 rfl rfl 1 (by decide) lk15 (fun _ h9 => h9) rfl dX4_append_14 ?_
    refine lv_iload_n hx hb dX4_append_17 rfl (lv_at hl 1 rfl) ?_
    obtain ⟨hi, hf⟩ := ck_1 hf hne
    refine va_cast (f := (v0 15)) hx hb hK hP hD hS 1 1 rfl rfl (ixb_1 hi) dX4_append_18 (fun H locs hP hD hS => ?_)
    have hP : va_P G.1 vwCl (padC G.2 a (vs v0 15 (upd (v0 15) (Int32.toNatClampNeg (v0 16 0)) (vp_nar .char p1)))) H := hP
    have hD : va_D A (padC G.2 a (vs v0 15 (upd (v0 15) (Int32.toNatClampNeg (v0 16 0)) (vp_nar .char p1)))) := hD
    refine lv_aload_n hx hb dX4_append_19 rfl (lv_at hl 0 rfl) ?_
    refine lv_dup hx hb dX4_append_20 rfl ?_
    refine va_get (D := G.1) (ci := 4) (v := .int (v0 16 0)) (C := RX4) (T := TX4) (N := 7) hx hb hts hinX4 hown hK hP 0 rfl rfl 1 (by decide) lk15 (fun _ h9 => h9) rfl dX4_append_21 ?_
    refine lv_iconst (v := 1) hx hb dX4_append_24 (by decide) ?_
    refine lv_iadd hx hb dX4_append_25 ?_
    refine va_put (D := G.1) (ci := 4) (v := .int ((v0 16 0) + 1)) (ty := .int) (C := RX4) (T := TX4) (N := 7) hx hb hts hinX4 tyX4 tyX4_ok nmX4 hown hK hP hD hS 0 rfl rfl 1 (by decide) lk15 (fun _ h9 => h9) rfl (by decide +kernel) rfl rfl (Nat.le_of_ble_eq_true rfl) dX4_append_26 (fun H locs hP hD hS => ?_)
    have hP : va_P G.1 vwCl (padC G.2 a (vs (vs v0 15 (upd (v0 15) (Int32.toNatClampNeg (v0 16 0)) (vp_nar .char p1))) 16 (fun _ => ((v0 16 0) + 1)))) H := hP
    have hD : va_D A (padC G.2 a (vs (vs v0 15 (upd (v0 15) (Int32.toNatClampNeg (v0 16 0)) (vp_nar .char p1))) 16 (fun _ => ((v0 16 0) + 1)))) := hD
    exact W.vret hx hb hr (fun t ht hW => ⟨⟨(vs (vs v0 15 (upd (v0 15) (Int32.toNatClampNeg (v0 16 0)) (vp_nar .char p1))) 16 (fun _ => ((v0 16 0) + 1))), rfl, hf0.trans hf.symm, by rw [ht]; exact hP, hD⟩, hS.F ht⟩) hS.2.2 dX4_append_29
set_option maxHeartbeats 4000000 in
set_option maxRecDepth 100000 in
theorem ok_X4_next (l : Launch) (G : Gt) (a : Nat → Nat) (v0 : DV) (hne : f_X4_next v0 ≠ none) : Met l yX4_next wsX4_next ({ frames := 0, cells := 0, slots := 0, locals := 0 } : Room) (pcR G [.ref (a 17)] (padC G.2 a v0)) (vp_Si (fun r => f_X4_next v0 = some r)) 0 0 (fun _ => False) := by
  refine Met.ofW (cc := cX4_next) (maxL := 1) (ret := (some .char)) (by decide) rfl ?_
  intro p e s m args below meth c s₁ B hml hv
  obtain ⟨rfl, hP, hamb⟩ := hv
  have hx := B.exec
  have hb := B.bytes
  have hr := B.returns
  have hts := atoms_spec (ws := wsX4_next) B.pre
  have hown : s.vm.findClass RX4 = some m.cls := findClass_of_methodNamed B.named
  have hlocks := B.notSynchronized
  have hK := hamb.1
  obtain ⟨res, hf0⟩ : ∃ res, f_X4_next v0 = res := ⟨_, rfl⟩
  have hne : res ≠ none := hf0 ▸ hne
  have hf := hf0
  rw [f_X4_next] at hf
  have hinX4 : ∀ w ∈ u_ws RX4 TX4 7, w ∈ wsX4_next := by decide +kernel
  have lk19 := hts (.fieldLink RX4 19 "MoodDrawers$Pad" "at" "I") (by decide +kernel)
  have lk15 := hts (.fieldLink RX4 15 "MoodDrawers$Pad" "length" "I") (by decide +kernel)
  have lk9 := hts (.fieldLink RX4 9 "MoodDrawers$Pad" "text" "[C") (by decide +kernel)
  have hl := lv_entry ([.ref (a 17)]) (n := 1) (Nat.le_of_ble_eq_true rfl)
  rw [lg_entry_eq]
  generalize (lg_sl ([.ref (a 17)]) ++ List.replicate (1 - (lg_sl ([.ref (a 17)])).length) Slot.unset).toArray = ls at hl ⊢
  have hl : lv_has ls 1 [(0, .ref (a 17))] := hl
  refine lv_aload_n hx hb dX4_next_0 rfl (lv_at hl 0 rfl) ?_
  refine va_get (D := G.1) (ci := 4) (v := .int (v0 17 0)) (C := RX4) (T := TX4) (N := 7) hx hb hts hinX4 hown hK hP 0 rfl rfl 2 (by decide) lk19 (fun _ h9 => h9) rfl dX4_next_1 ?_
  refine lv_if_lt (tgt := 39) hx hb dX4_next_4 (by decide) (fun c => ?_) (fun c => ?_)
  · have hf := it_1 hf c
    refine lv_iconst (v := 0) hx hb dX4_next_39 (by decide) ?_
    exact W.zret (ty := .char) (v := 0) hx hb hr rfl (fun t ht hW => ⟨0, rfl, hf0.trans hf.symm, ht⟩) (fun _ hq => absurd hq List.not_mem_nil) dX4_next_40
  · have hf := it_2 hf c
    refine lv_aload_n hx hb dX4_next_7 rfl (lv_at hl 0 rfl) ?_
    refine va_get (D := G.1) (ci := 4) (v := .int (v0 17 0)) (C := RX4) (T := TX4) (N := 7) hx hb hts hinX4 hown hK hP 0 rfl rfl 2 (by decide) lk19 (fun _ h9 => h9) rfl dX4_next_8 ?_
    refine lv_aload_n hx hb dX4_next_11 rfl (lv_at hl 0 rfl) ?_
    refine va_get (D := G.1) (ci := 4) (v := .int (v0 16 0)) (C := RX4) (T := TX4) (N := 7) hx hb hts hinX4 hown hK hP 0 rfl rfl 1 (by decide) lk15 (fun _ h9 => h9) rfl dX4_next_12 ?_
    refine lv_icmp_ge (tgt := 39) hx hb dX4_next_15 (by decide) (fun c => ?_) (fun c => ?_)
    · have hf := it_1 hf c
      refine lv_iconst (v := 0) hx hb dX4_next_39 (by decide) ?_
      exact W.zret (ty := .char) (v := 0) hx hb hr rfl (fun t ht hW => ⟨0, rfl, hf0.trans hf.symm, ht⟩) (fun _ hq => absurd hq List.not_mem_nil) dX4_next_40
    · have hf := it_2 hf c
      refine lv_aload_n hx hb dX4_next_18 rfl (lv_at hl 0 rfl) ?_
      refine va_get (D := G.1) (ci := 4) (v := .int (v0 17 0)) (C := RX4) (T := TX4) (N := 7) hx hb hts hinX4 hown hK hP 0 rfl rfl 2 (by decide) lk19 (fun _ h9 => h9) rfl dX4_next_19 ?_
      refine lv_bipush (v := 80) hx hb dX4_next_22 (by decide) ?_
      refine lv_icmp_ge (tgt := 39) hx hb dX4_next_24 (by decide) (fun c => ?_) (fun c => ?_)
      · have hf := it_1 hf c
        refine lv_iconst (v := 0) hx hb dX4_next_39 (by decide) ?_
        exact W.zret (ty := .char) (v := 0) hx hb hr rfl (fun t ht hW => ⟨0, rfl, hf0.trans hf.symm, ht⟩) (fun _ hq => absurd hq List.not_mem_nil) dX4_next_40
      · have hf := it_2 hf c
        refine lv_aload_n hx hb dX4_next_27 rfl (lv_at hl 0 rfl) ?_
        refine va_get (D := G.1) (ci := 4) (v := .ref (a 18)) (C := RX4) (T := TX4) (N := 7) hx hb hts hinX4 hown hK hP 0 rfl rfl 0 (by decide) lk9 (fun _ h9 => h9) rfl dX4_next_28 ?_
        refine lv_aload_n hx hb dX4_next_31 rfl (lv_at hl 0 rfl) ?_
        refine va_get (D := G.1) (ci := 4) (v := .int (v0 17 0)) (C := RX4) (T := TX4) (N := 7) hx hb hts hinX4 hown hK hP 0 rfl rfl 2 (by decide) lk19 (fun _ h9 => h9) rfl dX4_next_32 ?_
        obtain ⟨hi, hf⟩ := ck_1 hf hne
        refine va_cald (f := (v0 15)) hx hb hK hP 1 1 rfl rfl (ixb_1 hi) dX4_next_35 ?_
        refine lv_goto (tgt := 40) hx hb dX4_next_36 (by decide) ?_
        obtain ⟨hz, hf⟩ := ck_1 hf hne
        exact W.zret (ty := .char) (v := ((v0 15) (Int32.toNatClampNeg (v0 17 0)))) hx hb hr (okC_1 hz) (fun t ht hW => ⟨((v0 15) (Int32.toNatClampNeg (v0 17 0))), rfl, hf0.trans hf.symm, ht⟩) (fun _ hq => absurd hq List.not_mem_nil) dX4_next_40
set_option maxHeartbeats 4000000 in
set_option maxRecDepth 100000 in
theorem ok_X4_isDigit (l : Launch) (p0 : Int32) : Met l yX4_isDigit wsX4_isDigit ({ frames := 0, cells := 0, slots := 0, locals := 0 } : Room) (va_Pc [.int p0] (fun _ => True)) (vp_Si (fun r => r = f_X4_isDigit p0)) 0 0 (fun _ => False) := by
  refine Met.ofW (cc := cX4_isDigit) (maxL := 1) (ret := (some .boolean)) (by decide) rfl ?_
  intro p e s m args below meth c s₁ B hml hv
  obtain ⟨rfl, -⟩ := hv
  have hx := B.exec
  have hb := B.bytes
  have hr := B.returns
  have hts := atoms_spec (ws := wsX4_isDigit) B.pre
  have hown : s.vm.findClass RX4 = some m.cls := findClass_of_methodNamed B.named
  have hlocks := B.notSynchronized
  obtain ⟨res, hf0⟩ : ∃ res, f_X4_isDigit p0 = res := ⟨_, rfl⟩
  have hf := hf0
  rw [f_X4_isDigit] at hf
  have hl := lv_entry ([.int p0]) (n := 1) (Nat.le_of_ble_eq_true rfl)
  rw [lg_entry_eq]
  generalize (lg_sl ([.int p0]) ++ List.replicate (1 - (lg_sl ([.int p0])).length) Slot.unset).toArray = ls at hl ⊢
  have hl : lv_has ls 1 [(0, .int p0)] := hl
  refine lv_iload_n hx hb dX4_isDigit_0 rfl (lv_at hl 0 rfl) ?_
  refine lv_bipush (v := 48) hx hb dX4_isDigit_1 (by decide) ?_
  refine lv_icmp_lt (tgt := 16) hx hb dX4_isDigit_3 (by decide) (fun c => ?_) (fun c => ?_)
  · have hf := it_1 hf c
    refine lv_iconst (v := 0) hx hb dX4_isDigit_16 (by decide) ?_
    exact W.zret (ty := .boolean) (v := 0) hx hb hr rfl (fun t ht hW => ⟨0, rfl, hf.trans hf0.symm, ht⟩) (fun _ hq => absurd hq List.not_mem_nil) dX4_isDigit_17
  · have hf := it_2 hf c
    refine lv_iload_n hx hb dX4_isDigit_6 rfl (lv_at hl 0 rfl) ?_
    refine lv_bipush (v := 57) hx hb dX4_isDigit_7 (by decide) ?_
    refine lv_icmp_gt (tgt := 16) hx hb dX4_isDigit_9 (by decide) (fun c => ?_) (fun c => ?_)
    · have hf := it_1 hf c
      refine lv_iconst (v := 0) hx hb dX4_isDigit_16 (by decide) ?_
      exact W.zret (ty := .boolean) (v := 0) hx hb hr rfl (fun t ht hW => ⟨0, rfl, hf.trans hf0.symm, ht⟩) (fun _ hq => absurd hq List.not_mem_nil) dX4_isDigit_17
    · have hf := it_2 hf c
      refine lv_iconst (v := 1) hx hb dX4_isDigit_12 (by decide) ?_
      refine lv_goto (tgt := 17) hx hb dX4_isDigit_13 (by decide) ?_
      exact W.zret (ty := .boolean) (v := 1) hx hb hr rfl (fun t ht hW => ⟨1, rfl, hf.trans hf0.symm, ht⟩) (fun _ hq => absurd hq List.not_mem_nil) dX4_isDigit_17
set_option maxHeartbeats 4000000 in
set_option maxRecDepth 100000 in
theorem ok_X4_readNumber (l : Launch) (G : Gt) (a : Nat → Nat) (sz : Nat) (v0 : DV) (hne : f_X4_readNumber v0 ≠ none) : Met l yX4_readNumber wsX4_readNumber ({ frames := 1, cells := 0, slots := 0, locals := 20 } : Room) (pcW G [.ref (a 17)] (padC G.2 a v0) sz) (va_Qi (fun r (u : DV) => f_X4_readNumber v0 = some (r, u)) (fun u t => atW G (padC G.2 a u) (va_A (padC G.2 a v0) sz) t) (va_A (padC G.2 a v0) sz)) 0 0 (va_A (padC G.2 a v0) sz) := by
  refine Met.ofW (cc := cX4_readNumber) (maxL := 2) (ret := (some .int)) (by decide) rfl ?_
  intro p e s m args below meth c s₁ B hml hv
  obtain ⟨rfl, hsz, hP, hD0, hamb⟩ := hv
  have hx := B.exec
  have hb := B.bytes
  have hr := B.returns
  have hts := atoms_spec (ws := wsX4_readNumber) B.pre
  have hown : s.vm.findClass RX4 = some m.cls := findClass_of_methodNamed B.named
  have hlocks := B.notSynchronized
  have hK := hamb.1
  subst hsz
  have hD := hD0.self (sz := s.heap.size)
  generalize hAe : va_A (padC G.2 a v0) s.heap.size = A at hD ⊢
  have hA : ∀ q : Nat, s.heap.size ≤ q → A q := fun q h => by rw [← hAe]; exact Or.inr h
  have hS : va_S A s.heap s.heap [] := va_S.rf
  obtain ⟨res, hf0⟩ : ∃ res, f_X4_readNumber v0 = res := ⟨_, rfl⟩
  have hne : res ≠ none := hf0 ▸ hne
  have hf := hf0
  rw [f_X4_readNumber] at hf
  have hinX4 : ∀ w ∈ u_ws RX4 TX4 7, w ∈ wsX4_readNumber := by decide +kernel
  have lk19 := hts (.fieldLink RX4 19 "MoodDrawers$Pad" "at" "I") (by decide +kernel)
  have hl := lv_entry ([.ref (a 17)]) (n := 2) (Nat.le_of_ble_eq_true rfl)
  rw [lg_entry_eq]
  generalize (lg_sl ([.ref (a 17)]) ++ List.replicate (2 - (lg_sl ([.ref (a 17)])).length) Slot.unset).toArray = ls at hl ⊢
  have hl : lv_has ls 2 [(0, .ref (a 17))] := hl
  refine lv_aload_n hx hb dX4_readNumber_0 rfl (lv_at hl 0 rfl) ?_
  have hn := bd1_1 hf hne
  refine vp_callSi (W.runV (As := []) (rest := []) ⟨hx, hb, hml, hown, hts⟩ (ok_X4_next l G a v0 hn) (cwV 0 hts gX4_readNumber_X4_next rfl rfl rfl (by decide +kernel) ⟨Nat.le_of_ble_eq_true rfl, Nat.le_of_ble_eq_true rfl⟩) ⟨pcR_blind, va_recv hK hP (ci := 4) (q0 := 0) rfl rfl, pcR_pre hP hamb⟩ rfl rfl hl.1 rfl (lv_room (Nat.le_of_ble_eq_true rfl)) dX4_readNumber_1 ⟨Nat.zero_le _, Nat.zero_le _⟩) (fun r1 hw => ?_)
  have hf := bd1_2 hf hw
  refine vp_callSi (W.runS (As := [.int r1]) (rest := []) ⟨hx, hb, hml, hown, hts⟩ (ok_X4_isDigit l r1) (va_cwS 1 hts gX4_readNumber_X4_isDigit rfl rfl rfl (by decide +kernel) ⟨Nat.le_of_ble_eq_true rfl, Nat.le_of_ble_eq_true rfl⟩) ⟨fun _ _ _ _ q => q, fun _ _ _ => ⟨rfl, trivial⟩⟩ rfl rfl hl.1 rfl (lv_room (Nat.le_of_ble_eq_true rfl)) dX4_readNumber_4 ⟨Nat.zero_le _, Nat.zero_le _⟩) (fun r4 hw => ?_)
  subst hw
  refine lv_if_ne (tgt := 13) hx hb dX4_readNumber_7 (by decide) (fun c => ?_) (fun c => ?_)
  · have hf := it_2 hf c
    refine lv_aload_n hx hb dX4_readNumber_13 rfl (lv_at hl 0 rfl) ?_
    have hn := bd1_1 hf hne
    refine vp_callSi (W.runV (As := []) (rest := []) ⟨hx, hb, hml, hown, hts⟩ (ok_X4_next l G a v0 hn) (cwV 0 hts gX4_readNumber_X4_next rfl rfl rfl (by decide +kernel) ⟨Nat.le_of_ble_eq_true rfl, Nat.le_of_ble_eq_true rfl⟩) ⟨pcR_blind, va_recv hK hP (ci := 4) (q0 := 0) rfl rfl, pcR_pre hP hamb⟩ rfl rfl hl.1 rfl (lv_room (Nat.le_of_ble_eq_true rfl)) dX4_readNumber_14 ⟨Nat.zero_le _, Nat.zero_le _⟩) (fun r14 hw => ?_)
    have hf := bd1_2 hf hw
    refine lv_bipush (v := 48) hx hb dX4_readNumber_17 (by decide) ?_
    refine lv_isub hx hb dX4_readNumber_19 ?_
    refine lv_istore_n (lv' := [(1, .int (r14 - 48)), (0, .ref (a 17))]) hx hb dX4_readNumber_20 rfl hl (by decide) rfl (fun ls hl => ?_)
    refine lv_aload_n hx hb dX4_readNumber_21 rfl (lv_at hl 1 rfl) ?_
    refine lv_dup hx hb dX4_readNumber_22 rfl ?_
    refine va_get (D := G.1) (ci := 4) (v := .int (v0 17 0)) (C := RX4) (T := TX4) (N := 7) hx hb hts hinX4 hown hK hP 0 rfl rfl 2 (by decide) lk19 (fun _ h9 => h9) rfl dX4_readNumber_23 ?_
    refine lv_iconst (v := 1) hx hb dX4_readNumber_26 (by decide) ?_
    refine lv_iadd hx hb dX4_readNumber_27 ?_
    refine va_put (D := G.1) (ci := 4) (v := .int ((v0 17 0) + 1)) (ty := .int) (C := RX4) (T := TX4) (N := 7) hx hb hts hinX4 tyX4 tyX4_ok nmX4 hown hK hP hD hS 0 rfl rfl 2 (by decide) lk19 (fun _ h9 => h9) rfl (by decide +kernel) rfl rfl (Nat.le_of_ble_eq_true rfl) dX4_readNumber_28 (fun H locs hP hD hS => ?_)
    have hP : va_P G.1 vwCl (padC G.2 a (vs v0 17 (fun _ => ((v0 17 0) + 1)))) H := hP
    have hD : va_D A (padC G.2 a (vs v0 17 (fun _ => ((v0 17 0) + 1)))) := hD
    refine lv_iload_n hx hb dX4_readNumber_31 rfl (lv_at hl 0 rfl) ?_
    refine lv_if_le (tgt := 68) hx hb dX4_readNumber_32 (by decide) (fun c => ?_) (fun c => ?_)
    · have hf := it_1 hf c
      refine lv_iload_n hx hb dX4_readNumber_68 rfl (lv_at hl 0 rfl) ?_
      exact W.iret (v := (r14 - 48)) hx hb hr (fun t ht hW => ⟨⟨(r14 - 48), (vs v0 17 (fun _ => ((v0 17 0) + 1))), rfl, hf0.trans hf.symm, by rw [ht]; exact hP, hD⟩, hS.F ht⟩) hS.2.2 dX4_readNumber_69
    · have hf := it_2 hf c
      refine lv_aload_n hx hb dX4_readNumber_35 rfl (lv_at hl 1 rfl) ?_
      have hn := bd1_1 hf hne
      refine vp_callSi (W.runV (As := []) (rest := []) ⟨hx, hb, hml, hown, hts⟩ (ok_X4_next l G a (vs v0 17 (fun _ => ((v0 17 0) + 1))) hn) (cwV 0 hts gX4_readNumber_X4_next rfl rfl rfl (by decide +kernel) ⟨Nat.le_of_ble_eq_true rfl, Nat.le_of_ble_eq_true rfl⟩) ⟨pcR_blind, va_recv hK hP (ci := 4) (q0 := 0) rfl rfl, pcR_pre hP hamb⟩ rfl rfl hl.1 rfl (lv_room (Nat.le_of_ble_eq_true rfl)) dX4_readNumber_36 ⟨Nat.zero_le _, Nat.zero_le _⟩) (fun r36 hw => ?_)
      have hf := bd1_2 hf hw
      refine vp_callSi (W.runS (As := [.int r36]) (rest := []) ⟨hx, hb, hml, hown, hts⟩ (ok_X4_isDigit l r36) (va_cwS 1 hts gX4_readNumber_X4_isDigit rfl rfl rfl (by decide +kernel) ⟨Nat.le_of_ble_eq_true rfl, Nat.le_of_ble_eq_true rfl⟩) ⟨fun _ _ _ _ q => q, fun _ _ _ => ⟨rfl, trivial⟩⟩ rfl rfl hl.1 rfl (lv_room (Nat.le_of_ble_eq_true rfl)) dX4_readNumber_39 ⟨Nat.zero_le _, Nat.zero_le _⟩) (fun r39 hw => ?_)
      subst hw
      refine lv_if_eq (tgt := 68) hx hb dX4_readNumber_42 (by decide) (fun c => ?_) (fun c => ?_)
      · have hf := it_1 hf c
        refine lv_iload_n hx hb dX4_readNumber_68 rfl (lv_at hl 0 rfl) ?_
        exact W.iret (v := (r14 - 48)) hx hb hr (fun t ht hW => ⟨⟨(r14 - 48), (vs v0 17 (fun _ => ((v0 17 0) + 1))), rfl, hf0.trans hf.symm, by rw [ht]; exact hP, hD⟩, hS.F ht⟩) hS.2.2 dX4_readNumber_69
      · have hf := it_2 hf c
        refine lv_bipush (v := 10) hx hb dX4_readNumber_45 (by decide) ?_
        refine lv_iload_n hx hb dX4_readNumber_47 rfl (lv_at hl 0 rfl) ?_
        refine lv_imul hx hb dX4_readNumber_48 ?_
        refine lv_aload_n hx hb dX4_readNumber_49 rfl (lv_at hl 1 rfl) ?_
        have hn := bd1_1 hf hne
        refine vp_callSi (W.runV (As := []) (rest := [.int (10 * (r14 - 48))]) ⟨hx, hb, hml, hown, hts⟩ (ok_X4_next l G a (vs v0 17 (fun _ => ((v0 17 0) + 1))) hn) (cwV 0 hts gX4_readNumber_X4_next rfl rfl rfl (by decide +kernel) ⟨Nat.le_of_ble_eq_true rfl, Nat.le_of_ble_eq_true rfl⟩) ⟨pcR_blind, va_recv hK hP (ci := 4) (q0 := 0) rfl rfl, pcR_pre hP hamb⟩ rfl rfl hl.1 rfl (lv_room (Nat.le_of_ble_eq_true rfl)) dX4_readNumber_50 ⟨Nat.zero_le _, Nat.zero_le _⟩) (fun r50 hw => ?_)
        have hf := bd1_2 hf hw
        refine lv_iadd hx hb dX4_readNumber_53 ?_
        refine lv_bipush (v := 48) hx hb dX4_readNumber_54 (by decide) ?_
        refine lv_isub hx hb dX4_readNumber_56 ?_
        refine lv_istore_n (lv' := [(1, .int (((10 * (r14 - 48)) + r50) - 48)), (0, .ref (a 17))]) hx hb dX4_readNumber_57 rfl hl (by decide) rfl (fun ls hl => ?_)
        refine lv_aload_n hx hb dX4_readNumber_58 rfl (lv_at hl 1 rfl) ?_
        refine lv_dup hx hb dX4_readNumber_59 rfl ?_
        refine va_get (D := G.1) (ci := 4) (v := .int ((v0 17 0) + 1)) (C := RX4) (T := TX4) (N := 7) hx hb hts hinX4 hown hK hP 0 rfl rfl 2 (by decide) lk19 (fun _ h9 => h9) rfl dX4_readNumber_60 ?_
        refine lv_iconst (v := 1) hx hb dX4_readNumber_63 (by decide) ?_
        refine lv_iadd hx hb dX4_readNumber_64 ?_
        refine va_put (D := G.1) (ci := 4) (v := .int (((v0 17 0) + 1) + 1)) (ty := .int) (C := RX4) (T := TX4) (N := 7) hx hb hts hinX4 tyX4 tyX4_ok nmX4 hown hK hP hD hS 0 rfl rfl 2 (by decide) lk19 (fun _ h9 => h9) rfl (by decide +kernel) rfl rfl (Nat.le_of_ble_eq_true rfl) dX4_readNumber_65 (fun H locs hP hD hS => ?_)
        have hP : va_P G.1 vwCl (padC G.2 a (vs v0 17 (fun _ => (((v0 17 0) + 1) + 1)))) H := hP
        have hD : va_D A (padC G.2 a (vs v0 17 (fun _ => (((v0 17 0) + 1) + 1)))) := hD
        refine lv_iload_n hx hb dX4_readNumber_68 rfl (lv_at hl 0 rfl) ?_
        exact W.iret (v := (((10 * (r14 - 48)) + r50) - 48)) hx hb hr (fun t ht hW => ⟨⟨(((10 * (r14 - 48)) + r50) - 48), (vs v0 17 (fun _ => (((v0 17 0) + 1) + 1))), rfl, hf0.trans hf.symm, by rw [ht]; exact hP, hD⟩, hS.F ht⟩) hS.2.2 dX4_readNumber_69
  · have hf := it_1 hf c
    refine lv_bipush (v := (-6)) hx hb dX4_readNumber_10 (by decide) ?_
    exact W.iret (v := (-6)) hx hb hr (fun t ht hW => ⟨⟨(-6), v0, rfl, hf0.trans hf.symm, by rw [ht]; exact hP, hD⟩, hS.F ht⟩) hS.2.2 dX4_readNumber_12
set_option maxHeartbeats 4000000 in
set_option maxRecDepth 100000 in
theorem ok_X4_readFirst (l : Launch) (G : Gt) (a : Nat → Nat) (sz : Nat) (v0 : DV) (hne : f_X4_readFirst v0 ≠ none) : Met l yX4_readFirst wsX4_readFirst ({ frames := 2, cells := 0, slots := 0, locals := 41 } : Room) (pcW G [.ref (a 17)] (padC G.2 a v0) sz) (va_Qi (fun r (u : DV) => f_X4_readFirst v0 = some (r, u)) (fun u t => atW G (padC G.2 a u) (va_A (padC G.2 a v0) sz) t) (va_A (padC G.2 a v0) sz)) 0 0 (va_A (padC G.2 a v0) sz) := by
  refine Met.ofW (cc := cX4_readFirst) (maxL := 1) (ret := (some .boolean)) (by decide) rfl ?_
  intro p e s m args below meth c s₁ B hml hv
  obtain ⟨rfl, hsz, hP, hD0, hamb⟩ := hv
  have hx := B.exec
  have hb := B.bytes
  have hr := B.returns
  have hts := atoms_spec (ws := wsX4_readFirst) B.pre
  have hown : s.vm.findClass RX4 = some m.cls := findClass_of_methodNamed B.named
  have hlocks := B.notSynchronized
  have hK := hamb.1
  subst hsz
  have hD := hD0.self (sz := s.heap.size)
  generalize hAe : va_A (padC G.2 a v0) s.heap.size = A at hD ⊢
  have hA : ∀ q : Nat, s.heap.size ≤ q → A q := fun q h => by rw [← hAe]; exact Or.inr h
  have hS : va_S A s.heap s.heap [] := va_S.rf
  obtain ⟨res, hf0⟩ : ∃ res, f_X4_readFirst v0 = res := ⟨_, rfl⟩
  have hne : res ≠ none := hf0 ▸ hne
  have hf := hf0
  rw [f_X4_readFirst] at hf
  have hinX4 : ∀ w ∈ u_ws RX4 TX4 7, w ∈ wsX4_readFirst := by decide +kernel
  have lk60 := hts (.fieldLink RX4 60 "MoodDrawers$Pad" "first" "I") (by decide +kernel)
  have hl := lv_entry ([.ref (a 17)]) (n := 1) (Nat.le_of_ble_eq_true rfl)
  rw [lg_entry_eq]
  generalize (lg_sl ([.ref (a 17)]) ++ List.replicate (1 - (lg_sl ([.ref (a 17)])).length) Slot.unset).toArray = ls at hl ⊢
  have hl : lv_has ls 1 [(0, .ref (a 17))] := hl
  refine lv_aload_n hx hb dX4_readFirst_0 rfl (lv_at hl 0 rfl) ?_
  refine lv_aload_n hx hb dX4_readFirst_1 rfl (lv_at hl 0 rfl) ?_
  have hn := bd2_1 hf hne
  refine cwi (va_runV (As := []) (rest := [.ref (a 17)]) ⟨hx, hb, hml, hown, hts⟩ (ok_X4_readNumber l G a s.heap.size v0 hn) (cwV 0 hts gX4_readFirst_X4_readNumber rfl rfl rfl (by decide +kernel) ⟨Nat.le_of_ble_eq_true rfl, Nat.le_of_ble_eq_true rfl⟩) ⟨pcW_blind, va_recv hK hP (ci := 4) (q0 := 0) rfl rfl, pcW_pre hP hD hamb⟩ rfl rfl hl.1 rfl (lv_room (Nat.le_of_ble_eq_true rfl)) dX4_readFirst_2 ⟨Nat.zero_le _, Nat.zero_le _⟩) (wr := []) hP hD hS hA [0, 1] [] rfl rfl (by decide) (by decide) (fun r2 v2 H locs hw hP hD hS => ?_)
  have hf := bd2_2 hf hw
  have hP : va_P G.1 vwCl (padC G.2 a v2) H := hP
  have hD : va_D A (padC G.2 a v2) := hD
  refine va_put (D := G.1) (ci := 4) (v := .int r2) (ty := .int) (C := RX4) (T := TX4) (N := 7) hx hb hts hinX4 tyX4 tyX4_ok nmX4 hown hK hP hD hS 0 rfl rfl 5 (by decide) lk60 (fun _ h9 => h9) rfl (by decide +kernel) rfl rfl (Nat.le_of_ble_eq_true rfl) dX4_readFirst_5 (fun H locs hP hD hS => ?_)
  have hP : va_P G.1 vwCl (padC G.2 a (vs v2 20 (fun _ => r2))) H := hP
  have hD : va_D A (padC G.2 a (vs v2 20 (fun _ => r2))) := hD
  refine lv_aload_n hx hb dX4_readFirst_8 rfl (lv_at hl 0 rfl) ?_
  refine va_get (D := G.1) (ci := 4) (v := .int r2) (C := RX4) (T := TX4) (N := 7) hx hb hts hinX4 hown hK hP 0 rfl rfl 5 (by decide) lk60 (fun _ h9 => h9) rfl dX4_readFirst_9 ?_
  refine lv_if_lt (tgt := 19) hx hb dX4_readFirst_12 (by decide) (fun c => ?_) (fun c => ?_)
  · have hf := it_1 hf c
    refine lv_iconst (v := 0) hx hb dX4_readFirst_19 (by decide) ?_
    exact W.zret (ty := .boolean) (v := 0) hx hb hr rfl (fun t ht hW => ⟨⟨0, (vs v2 20 (fun _ => r2)), rfl, hf0.trans hf.symm, by rw [ht]; exact hP, hD⟩, hS.F ht⟩) hS.2.2 dX4_readFirst_20
  · have hf := it_2 hf c
    refine lv_iconst (v := 1) hx hb dX4_readFirst_15 (by decide) ?_
    refine lv_goto (tgt := 20) hx hb dX4_readFirst_16 (by decide) ?_
    exact W.zret (ty := .boolean) (v := 1) hx hb hr rfl (fun t ht hW => ⟨⟨1, (vs v2 20 (fun _ => r2)), rfl, hf0.trans hf.symm, by rw [ht]; exact hP, hD⟩, hS.F ht⟩) hS.2.2 dX4_readFirst_20
set_option maxHeartbeats 4000000 in
set_option maxRecDepth 100000 in
theorem ok_X4_readMood (l : Launch) (G : Gt) (a : Nat → Nat) (sz : Nat) (v0 : DV) (hne : f_X4_readMood v0 ≠ none) : Met l yX4_readMood wsX4_readMood ({ frames := 1, cells := 0, slots := 0, locals := 20 } : Room) (pcW G [.ref (a 17)] (padC G.2 a v0) sz) (va_Qi (fun r (u : DV) => f_X4_readMood v0 = some (r, u)) (fun u t => atW G (padC G.2 a u) (va_A (padC G.2 a v0) sz) t) (va_A (padC G.2 a v0) sz)) 0 0 (va_A (padC G.2 a v0) sz) := by
  refine Met.ofW (cc := cX4_readMood) (maxL := 1) (ret := (some .boolean)) (by decide) rfl ?_
  intro p e s m args below meth c s₁ B hml hv
  obtain ⟨rfl, hsz, hP, hD0, hamb⟩ := hv
  have hx := B.exec
  have hb := B.bytes
  have hr := B.returns
  have hts := atoms_spec (ws := wsX4_readMood) B.pre
  have hown : s.vm.findClass RX4 = some m.cls := findClass_of_methodNamed B.named
  have hlocks := B.notSynchronized
  have hK := hamb.1
  subst hsz
  have hD := hD0.self (sz := s.heap.size)
  generalize hAe : va_A (padC G.2 a v0) s.heap.size = A at hD ⊢
  have hA : ∀ q : Nat, s.heap.size ≤ q → A q := fun q h => by rw [← hAe]; exact Or.inr h
  have hS : va_S A s.heap s.heap [] := va_S.rf
  obtain ⟨res, hf0⟩ : ∃ res, f_X4_readMood v0 = res := ⟨_, rfl⟩
  have hne : res ≠ none := hf0 ▸ hne
  have hf := hf0
  rw [f_X4_readMood] at hf
  have hinX4 : ∀ w ∈ u_ws RX4 TX4 7, w ∈ wsX4_readMood := by decide +kernel
  have lk49 := hts (.fieldLink RX4 49 "MoodDrawers$Pad" "mood" "I") (by decide +kernel)
  have lw1 := hts (.initialized RX6) (by decide +kernel)
  have lw2 := hts (.static yX6_isMood) (by decide +kernel)
  have lk19 := hts (.fieldLink RX4 19 "MoodDrawers$Pad" "at" "I") (by decide +kernel)
  have hl := lv_entry ([.ref (a 17)]) (n := 1) (Nat.le_of_ble_eq_true rfl)
  rw [lg_entry_eq]
  generalize (lg_sl ([.ref (a 17)]) ++ List.replicate (1 - (lg_sl ([.ref (a 17)])).length) Slot.unset).toArray = ls at hl ⊢
  have hl : lv_has ls 1 [(0, .ref (a 17))] := hl
  refine lv_aload_n hx hb dX4_readMood_0 rfl (lv_at hl 0 rfl) ?_
  refine lv_aload_n hx hb dX4_readMood_1 rfl (lv_at hl 0 rfl) ?_
  have hn := bd1_1 hf hne
  refine vp_callSi (W.runV (As := []) (rest := [.ref (a 17)]) ⟨hx, hb, hml, hown, hts⟩ (ok_X4_next l G a v0 hn) (cwV 0 hts gX4_readMood_X4_next rfl rfl rfl (by decide +kernel) ⟨Nat.le_of_ble_eq_true rfl, Nat.le_of_ble_eq_true rfl⟩) ⟨pcR_blind, va_recv hK hP (ci := 4) (q0 := 0) rfl rfl, pcR_pre hP hamb⟩ rfl rfl hl.1 rfl (lv_room (Nat.le_of_ble_eq_true rfl)) dX4_readMood_2 ⟨Nat.zero_le _, Nat.zero_le _⟩) (fun r2 hw => ?_)
  have hf := bd1_2 hf hw
  refine lv_bipush (v := 48) hx hb dX4_readMood_5 (by decide) ?_
  refine lv_isub hx hb dX4_readMood_7 ?_
  refine va_put (D := G.1) (ci := 4) (v := .int (r2 - 48)) (ty := .int) (C := RX4) (T := TX4) (N := 7) hx hb hts hinX4 tyX4 tyX4_ok nmX4 hown hK hP hD hS 0 rfl rfl 4 (by decide) lk49 (fun _ h9 => h9) rfl (by decide +kernel) rfl rfl (Nat.le_of_ble_eq_true rfl) dX4_readMood_8 (fun H locs hP hD hS => ?_)
  have hP : va_P G.1 vwCl (padC G.2 a (vs v0 19 (fun _ => (r2 - 48)))) H := hP
  have hD : va_D A (padC G.2 a (vs v0 19 (fun _ => (r2 - 48)))) := hD
  refine lv_aload_n hx hb dX4_readMood_11 rfl (lv_at hl 0 rfl) ?_
  refine va_get (D := G.1) (ci := 4) (v := .int (r2 - 48)) (C := RX4) (T := TX4) (N := 7) hx hb hts hinX4 hown hK hP 0 rfl rfl 4 (by decide) lk49 (fun _ h9 => h9) rfl dX4_readMood_12 ?_
  refine vp_callSi ((va_runSN (As := [.int (r2 - 48)]) (rest := []) ⟨hx, hb, hml, hown, hts⟩ (ok_X6_isMood l (r2 - 48)) ⟨va_cnB 1 hts gX4_readMood_X6_isMood_n52 rfl rfl rfl (hamb.2.1 (.methodLinkNest RX4 52 yX6_isMood RX6) (List.mem_of_getElem? (i := 12) rfl)) lw1 (by decide +kernel) ⟨Nat.le_of_ble_eq_true rfl, Nat.le_of_ble_eq_true rfl⟩, lw2, trivial⟩ ⟨fun _ _ _ _ q => q, fun _ _ _ => ⟨rfl, trivial⟩⟩ rfl rfl hl.1 rfl (lv_room (Nat.le_of_ble_eq_true rfl)) dX4_readMood_15 ⟨Nat.zero_le _, Nat.zero_le _⟩).run) (fun r15 hw => ?_)
  subst hw
  refine lv_if_ne (tgt := 23) hx hb dX4_readMood_18 (by decide) (fun c => ?_) (fun c => ?_)
  · have hf := it_2 hf c
    refine lv_aload_n hx hb dX4_readMood_23 rfl (lv_at hl 0 rfl) ?_
    refine lv_dup hx hb dX4_readMood_24 rfl ?_
    refine va_get (D := G.1) (ci := 4) (v := .int (v0 17 0)) (C := RX4) (T := TX4) (N := 7) hx hb hts hinX4 hown hK hP 0 rfl rfl 2 (by decide) lk19 (fun _ h9 => h9) rfl dX4_readMood_25 ?_
    refine lv_iconst (v := 1) hx hb dX4_readMood_28 (by decide) ?_
    refine lv_iadd hx hb dX4_readMood_29 ?_
    refine va_put (D := G.1) (ci := 4) (v := .int ((v0 17 0) + 1)) (ty := .int) (C := RX4) (T := TX4) (N := 7) hx hb hts hinX4 tyX4 tyX4_ok nmX4 hown hK hP hD hS 0 rfl rfl 2 (by decide) lk19 (fun _ h9 => h9) rfl (by decide +kernel) rfl rfl (Nat.le_of_ble_eq_true rfl) dX4_readMood_30 (fun H locs hP hD hS => ?_)
    have hP : va_P G.1 vwCl (padC G.2 a (vs (vs v0 19 (fun _ => (r2 - 48))) 17 (fun _ => ((v0 17 0) + 1)))) H := hP
    have hD : va_D A (padC G.2 a (vs (vs v0 19 (fun _ => (r2 - 48))) 17 (fun _ => ((v0 17 0) + 1)))) := hD
    refine lv_iconst (v := 1) hx hb dX4_readMood_33 (by decide) ?_
    exact W.zret (ty := .boolean) (v := 1) hx hb hr rfl (fun t ht hW => ⟨⟨1, (vs (vs v0 19 (fun _ => (r2 - 48))) 17 (fun _ => ((v0 17 0) + 1))), rfl, hf0.trans hf.symm, by rw [ht]; exact hP, hD⟩, hS.F ht⟩) hS.2.2 dX4_readMood_34
  · have hf := it_1 hf c
    refine lv_iconst (v := 0) hx hb dX4_readMood_21 (by decide) ?_
    exact W.zret (ty := .boolean) (v := 0) hx hb hr rfl (fun t ht hW => ⟨⟨0, (vs v0 19 (fun _ => (r2 - 48))), rfl, hf0.trans hf.symm, by rw [ht]; exact hP, hD⟩, hS.F ht⟩) hS.2.2 dX4_readMood_22
set_option maxHeartbeats 4000000 in
set_option maxRecDepth 100000 in
theorem ok_X4_readSecond (l : Launch) (G : Gt) (a : Nat → Nat) (sz : Nat) (v0 : DV) (hne : f_X4_readSecond v0 ≠ none) : Met l yX4_readSecond wsX4_readSecond ({ frames := 2, cells := 0, slots := 0, locals := 41 } : Room) (pcW G [.ref (a 17)] (padC G.2 a v0) sz) (va_Qi (fun r (u : DV) => f_X4_readSecond v0 = some (r, u)) (fun u t => atW G (padC G.2 a u) (va_A (padC G.2 a v0) sz) t) (va_A (padC G.2 a v0) sz)) 0 0 (va_A (padC G.2 a v0) sz) := by
  refine Met.ofW (cc := cX4_readSecond) (maxL := 1) (ret := (some .boolean)) (by decide) rfl ?_
  intro p e s m args below meth c s₁ B hml hv
  obtain ⟨rfl, hsz, hP, hD0, hamb⟩ := hv
  have hx := B.exec
  have hb := B.bytes
  have hr := B.returns
  have hts := atoms_spec (ws := wsX4_readSecond) B.pre
  have hown : s.vm.findClass RX4 = some m.cls := findClass_of_methodNamed B.named
  have hlocks := B.notSynchronized
  have hK := hamb.1
  subst hsz
  have hD := hD0.self (sz := s.heap.size)
  generalize hAe : va_A (padC G.2 a v0) s.heap.size = A at hD ⊢
  have hA : ∀ q : Nat, s.heap.size ≤ q → A q := fun q h => by rw [← hAe]; exact Or.inr h
  have hS : va_S A s.heap s.heap [] := va_S.rf
  obtain ⟨res, hf0⟩ : ∃ res, f_X4_readSecond v0 = res := ⟨_, rfl⟩
  have hne : res ≠ none := hf0 ▸ hne
  have hf := hf0
  rw [f_X4_readSecond] at hf
  have hinX4 : ∀ w ∈ u_ws RX4 TX4 7, w ∈ wsX4_readSecond := by decide +kernel
  have lk37 := hts (.fieldLink RX4 37 "MoodDrawers$Pad" "second" "I") (by decide +kernel)
  have hl := lv_entry ([.ref (a 17)]) (n := 1) (Nat.le_of_ble_eq_true rfl)
  rw [lg_entry_eq]
  generalize (lg_sl ([.ref (a 17)]) ++ List.replicate (1 - (lg_sl ([.ref (a 17)])).length) Slot.unset).toArray = ls at hl ⊢
  have hl : lv_has ls 1 [(0, .ref (a 17))] := hl
  refine lv_aload_n hx hb dX4_readSecond_0 rfl (lv_at hl 0 rfl) ?_
  refine lv_aload_n hx hb dX4_readSecond_1 rfl (lv_at hl 0 rfl) ?_
  have hn := bd2_1 hf hne
  refine cwi (va_runV (As := []) (rest := [.ref (a 17)]) ⟨hx, hb, hml, hown, hts⟩ (ok_X4_readNumber l G a s.heap.size v0 hn) (cwV 0 hts gX4_readSecond_X4_readNumber rfl rfl rfl (by decide +kernel) ⟨Nat.le_of_ble_eq_true rfl, Nat.le_of_ble_eq_true rfl⟩) ⟨pcW_blind, va_recv hK hP (ci := 4) (q0 := 0) rfl rfl, pcW_pre hP hD hamb⟩ rfl rfl hl.1 rfl (lv_room (Nat.le_of_ble_eq_true rfl)) dX4_readSecond_2 ⟨Nat.zero_le _, Nat.zero_le _⟩) (wr := []) hP hD hS hA [0, 1] [] rfl rfl (by decide) (by decide) (fun r2 v2 H locs hw hP hD hS => ?_)
  have hf := bd2_2 hf hw
  have hP : va_P G.1 vwCl (padC G.2 a v2) H := hP
  have hD : va_D A (padC G.2 a v2) := hD
  refine va_put (D := G.1) (ci := 4) (v := .int r2) (ty := .int) (C := RX4) (T := TX4) (N := 7) hx hb hts hinX4 tyX4 tyX4_ok nmX4 hown hK hP hD hS 0 rfl rfl 6 (by decide) lk37 (fun _ h9 => h9) rfl (by decide +kernel) rfl rfl (Nat.le_of_ble_eq_true rfl) dX4_readSecond_5 (fun H locs hP hD hS => ?_)
  have hP : va_P G.1 vwCl (padC G.2 a (vs v2 21 (fun _ => r2))) H := hP
  have hD : va_D A (padC G.2 a (vs v2 21 (fun _ => r2))) := hD
  refine lv_aload_n hx hb dX4_readSecond_8 rfl (lv_at hl 0 rfl) ?_
  refine va_get (D := G.1) (ci := 4) (v := .int r2) (C := RX4) (T := TX4) (N := 7) hx hb hts hinX4 hown hK hP 0 rfl rfl 6 (by decide) lk37 (fun _ h9 => h9) rfl dX4_readSecond_9 ?_
  refine lv_if_lt (tgt := 19) hx hb dX4_readSecond_12 (by decide) (fun c => ?_) (fun c => ?_)
  · have hf := it_1 hf c
    refine lv_iconst (v := 0) hx hb dX4_readSecond_19 (by decide) ?_
    exact W.zret (ty := .boolean) (v := 0) hx hb hr rfl (fun t ht hW => ⟨⟨0, (vs v2 21 (fun _ => r2)), rfl, hf0.trans hf.symm, by rw [ht]; exact hP, hD⟩, hS.F ht⟩) hS.2.2 dX4_readSecond_20
  · have hf := it_2 hf c
    refine lv_iconst (v := 1) hx hb dX4_readSecond_15 (by decide) ?_
    refine lv_goto (tgt := 20) hx hb dX4_readSecond_16 (by decide) ?_
    exact W.zret (ty := .boolean) (v := 1) hx hb hr rfl (fun t ht hW => ⟨⟨1, (vs v2 21 (fun _ => r2)), rfl, hf0.trans hf.symm, by rw [ht]; exact hP, hD⟩, hS.F ht⟩) hS.2.2 dX4_readSecond_20
set_option maxHeartbeats 4000000 in
set_option maxRecDepth 100000 in
theorem ok_X4_take (l : Launch) (G : Gt) (a : Nat → Nat) (sz : Nat) (v0 : DV) (p1 : Int32) (hne : f_X4_take v0 p1 ≠ none) : Met l yX4_take wsX4_take ({ frames := 1, cells := 0, slots := 0, locals := 20 } : Room) (pcW G [.ref (a 17), .int p1] (padC G.2 a v0) sz) (va_Qi (fun r (u : DV) => f_X4_take v0 p1 = some (r, u)) (fun u t => atW G (padC G.2 a u) (va_A (padC G.2 a v0) sz) t) (va_A (padC G.2 a v0) sz)) 0 0 (va_A (padC G.2 a v0) sz) := by
  refine Met.ofW (cc := cX4_take) (maxL := 2) (ret := (some .boolean)) (by decide) rfl ?_
  intro p e s m args below meth c s₁ B hml hv
  obtain ⟨rfl, hsz, hP, hD0, hamb⟩ := hv
  have hx := B.exec
  have hb := B.bytes
  have hr := B.returns
  have hts := atoms_spec (ws := wsX4_take) B.pre
  have hown : s.vm.findClass RX4 = some m.cls := findClass_of_methodNamed B.named
  have hlocks := B.notSynchronized
  have hK := hamb.1
  subst hsz
  have hD := hD0.self (sz := s.heap.size)
  generalize hAe : va_A (padC G.2 a v0) s.heap.size = A at hD ⊢
  have hA : ∀ q : Nat, s.heap.size ≤ q → A q := fun q h => by rw [← hAe]; exact Or.inr h
  have hS : va_S A s.heap s.heap [] := va_S.rf
  obtain ⟨res, hf0⟩ : ∃ res, f_X4_take v0 p1 = res := ⟨_, rfl⟩
  have hne : res ≠ none := hf0 ▸ hne
  have hf := hf0
  rw [f_X4_take] at hf
  have hinX4 : ∀ w ∈ u_ws RX4 TX4 7, w ∈ wsX4_take := by decide +kernel
  have lk19 := hts (.fieldLink RX4 19 "MoodDrawers$Pad" "at" "I") (by decide +kernel)
  have hl := lv_entry ([.ref (a 17), .int p1]) (n := 2) (Nat.le_of_ble_eq_true rfl)
  rw [lg_entry_eq]
  generalize (lg_sl ([.ref (a 17), .int p1]) ++ List.replicate (2 - (lg_sl ([.ref (a 17), .int p1])).length) Slot.unset).toArray = ls at hl ⊢
  have hl : lv_has ls 2 [(0, .ref (a 17)), (1, .int p1)] := hl
  refine lv_aload_n hx hb dX4_take_0 rfl (lv_at hl 0 rfl) ?_
  have hn := bd1_1 hf hne
  refine vp_callSi (W.runV (As := []) (rest := []) ⟨hx, hb, hml, hown, hts⟩ (ok_X4_next l G a v0 hn) (cwV 0 hts gX4_take_X4_next rfl rfl rfl (by decide +kernel) ⟨Nat.le_of_ble_eq_true rfl, Nat.le_of_ble_eq_true rfl⟩) ⟨pcR_blind, va_recv hK hP (ci := 4) (q0 := 0) rfl rfl, pcR_pre hP hamb⟩ rfl rfl hl.1 rfl (lv_room (Nat.le_of_ble_eq_true rfl)) dX4_take_1 ⟨Nat.zero_le _, Nat.zero_le _⟩) (fun r1 hw => ?_)
  have hf := bd1_2 hf hw
  refine lv_iload_n hx hb dX4_take_4 rfl (lv_at hl 1 rfl) ?_
  refine lv_icmp_eq (tgt := 10) hx hb dX4_take_5 (by decide) (fun c => ?_) (fun c => ?_)
  · have hf := it_1 hf c
    refine lv_aload_n hx hb dX4_take_10 rfl (lv_at hl 0 rfl) ?_
    refine lv_dup hx hb dX4_take_11 rfl ?_
    refine va_get (D := G.1) (ci := 4) (v := .int (v0 17 0)) (C := RX4) (T := TX4) (N := 7) hx hb hts hinX4 hown hK hP 0 rfl rfl 2 (by decide) lk19 (fun _ h9 => h9) rfl dX4_take_12 ?_
    refine lv_iconst (v := 1) hx hb dX4_take_15 (by decide) ?_
    refine lv_iadd hx hb dX4_take_16 ?_
    refine va_put (D := G.1) (ci := 4) (v := .int ((v0 17 0) + 1)) (ty := .int) (C := RX4) (T := TX4) (N := 7) hx hb hts hinX4 tyX4 tyX4_ok nmX4 hown hK hP hD hS 0 rfl rfl 2 (by decide) lk19 (fun _ h9 => h9) rfl (by decide +kernel) rfl rfl (Nat.le_of_ble_eq_true rfl) dX4_take_17 (fun H locs hP hD hS => ?_)
    have hP : va_P G.1 vwCl (padC G.2 a (vs v0 17 (fun _ => ((v0 17 0) + 1)))) H := hP
    have hD : va_D A (padC G.2 a (vs v0 17 (fun _ => ((v0 17 0) + 1)))) := hD
    refine lv_iconst (v := 1) hx hb dX4_take_20 (by decide) ?_
    exact W.zret (ty := .boolean) (v := 1) hx hb hr rfl (fun t ht hW => ⟨⟨1, (vs v0 17 (fun _ => ((v0 17 0) + 1))), rfl, hf0.trans hf.symm, by rw [ht]; exact hP, hD⟩, hS.F ht⟩) hS.2.2 dX4_take_21
  · have hf := it_2 hf c
    refine lv_iconst (v := 0) hx hb dX4_take_8 (by decide) ?_
    exact W.zret (ty := .boolean) (v := 0) hx hb hr rfl (fun t ht hW => ⟨⟨0, v0, rfl, hf0.trans hf.symm, by rw [ht]; exact hP, hD⟩, hS.F ht⟩) hS.2.2 dX4_take_9
set_option maxHeartbeats 4000000 in
set_option maxRecDepth 100000 in
theorem ok_X4_readOrder (l : Launch) (G : Gt) (a : Nat → Nat) (sz : Nat) (v0 : DV) (hne : f_X4_readOrder v0 ≠ none) : Met l yX4_readOrder wsX4_readOrder ({ frames := 3, cells := 0, slots := 0, locals := 61 } : Room) (pcW G [.ref (a 17)] (padC G.2 a v0) sz) (va_Qi (fun r (u : DV) => f_X4_readOrder v0 = some (r, u)) (fun u t => atW G (padC G.2 a u) (va_A (padC G.2 a v0) sz) t) (va_A (padC G.2 a v0) sz)) 0 0 (va_A (padC G.2 a v0) sz) := by
  refine Met.ofW (cc := cX4_readOrder) (maxL := 1) (ret := (some .boolean)) (by decide) rfl ?_
  intro p e s m args below meth c s₁ B hml hv
  obtain ⟨rfl, hsz, hP, hD0, hamb⟩ := hv
  have hx := B.exec
  have hb := B.bytes
  have hr := B.returns
  have hts := atoms_spec (ws := wsX4_readOrder) B.pre
  have hown : s.vm.findClass RX4 = some m.cls := findClass_of_methodNamed B.named
  have hlocks := B.notSynchronized
  have hK := hamb.1
  subst hsz
  have hD := hD0.self (sz := s.heap.size)
  generalize hAe : va_A (padC G.2 a v0) s.heap.size = A at hD ⊢
  have hA : ∀ q : Nat, s.heap.size ≤ q → A q := fun q h => by rw [← hAe]; exact Or.inr h
  have hS : va_S A s.heap s.heap [] := va_S.rf
  obtain ⟨res, hf0⟩ : ∃ res, f_X4_readOrder v0 = res := ⟨_, rfl⟩
  have hne : res ≠ none := hf0 ▸ hne
  have hf := hf0
  rw [f_X4_readOrder] at hf
  have hinX4 : ∀ w ∈ u_ws RX4 TX4 7, w ∈ wsX4_readOrder := by decide +kernel
  have lk34 := hts (.fieldLink RX4 34 "MoodDrawers$Pad" "kind" "I") (by decide +kernel)
  have lk37 := hts (.fieldLink RX4 37 "MoodDrawers$Pad" "second" "I") (by decide +kernel)
  have hl := lv_entry ([.ref (a 17)]) (n := 1) (Nat.le_of_ble_eq_true rfl)
  rw [lg_entry_eq]
  generalize (lg_sl ([.ref (a 17)]) ++ List.replicate (1 - (lg_sl ([.ref (a 17)])).length) Slot.unset).toArray = ls at hl ⊢
  have hl : lv_has ls 1 [(0, .ref (a 17))] := hl
  refine lv_aload_n hx hb dX4_readOrder_0 rfl (lv_at hl 0 rfl) ?_
  refine lv_aload_n hx hb dX4_readOrder_1 rfl (lv_at hl 0 rfl) ?_
  have hn := bd1_1 hf hne
  refine vp_callSi (W.runV (As := []) (rest := [.ref (a 17)]) ⟨hx, hb, hml, hown, hts⟩ (ok_X4_next l G a v0 hn) (cwV 0 hts gX4_readOrder_X4_next rfl rfl rfl (by decide +kernel) ⟨Nat.le_of_ble_eq_true rfl, Nat.le_of_ble_eq_true rfl⟩) ⟨pcR_blind, va_recv hK hP (ci := 4) (q0 := 0) rfl rfl, pcR_pre hP hamb⟩ rfl rfl hl.1 rfl (lv_room (Nat.le_of_ble_eq_true rfl)) dX4_readOrder_2 ⟨Nat.zero_le _, Nat.zero_le _⟩) (fun r2 hw => ?_)
  have hf := bd1_2 hf hw
  refine va_put (D := G.1) (ci := 4) (v := .int r2) (ty := .int) (C := RX4) (T := TX4) (N := 7) hx hb hts hinX4 tyX4 tyX4_ok nmX4 hown hK hP hD hS 0 rfl rfl 3 (by decide) lk34 (fun _ h9 => h9) rfl (by decide +kernel) rfl rfl (Nat.le_of_ble_eq_true rfl) dX4_readOrder_5 (fun H locs hP hD hS => ?_)
  have hP : va_P G.1 vwCl (padC G.2 a (vs v0 18 (fun _ => r2))) H := hP
  have hD : va_D A (padC G.2 a (vs v0 18 (fun _ => r2))) := hD
  refine lv_aload_n hx hb dX4_readOrder_8 rfl (lv_at hl 0 rfl) ?_
  refine lv_bipush (v := (-6)) hx hb dX4_readOrder_9 (by decide) ?_
  refine va_put (D := G.1) (ci := 4) (v := .int (-6)) (ty := .int) (C := RX4) (T := TX4) (N := 7) hx hb hts hinX4 tyX4 tyX4_ok nmX4 hown hK hP hD hS 0 rfl rfl 6 (by decide) lk37 (fun _ h9 => h9) rfl (by decide +kernel) rfl rfl (Nat.le_of_ble_eq_true rfl) dX4_readOrder_11 (fun H locs hP hD hS => ?_)
  have hP : va_P G.1 vwCl (padC G.2 a (vs (vs v0 18 (fun _ => r2)) 21 (fun _ => (-6)))) H := hP
  have hD : va_D A (padC G.2 a (vs (vs v0 18 (fun _ => r2)) 21 (fun _ => (-6)))) := hD
  refine lv_aload_n hx hb dX4_readOrder_14 rfl (lv_at hl 0 rfl) ?_
  refine lv_bipush (v := 43) hx hb dX4_readOrder_15 (by decide) ?_
  have hn := bd2_1 hf hne
  refine cwi (va_runV (As := [.int 43]) (rest := []) ⟨hx, hb, hml, hown, hts⟩ (ok_X4_take l G a H.size (vs (vs v0 18 (fun _ => r2)) 21 (fun _ => (-6))) 43 hn) (cwV 1 hts gX4_readOrder_X4_take rfl rfl rfl (by decide +kernel) ⟨Nat.le_of_ble_eq_true rfl, Nat.le_of_ble_eq_true rfl⟩) ⟨pcW_blind, va_recv hK hP (ci := 4) (q0 := 0) rfl rfl, pcW_pre hP hD hamb⟩ rfl rfl hl.1 rfl (lv_room (Nat.le_of_ble_eq_true rfl)) dX4_readOrder_17 ⟨Nat.zero_le _, Nat.zero_le _⟩) (wr := []) hP hD hS hA [0, 1] [] rfl rfl (by decide) (by decide) (fun r17 v17 H locs hw hP hD hS => ?_)
  have hf := bd2_2 hf hw
  have hP : va_P G.1 vwCl (padC G.2 a v17) H := hP
  have hD : va_D A (padC G.2 a v17) := hD
  refine lv_if_eq (tgt := 68) hx hb dX4_readOrder_20 (by decide) (fun c => ?_) (fun c => ?_)
  · have hf := it_1 hf c
    refine lv_aload_n hx hb dX4_readOrder_68 rfl (lv_at hl 0 rfl) ?_
    refine lv_bipush (v := 107) hx hb dX4_readOrder_69 (by decide) ?_
    have hn := bd2_1 hf hne
    refine cwi (va_runV (As := [.int 107]) (rest := []) ⟨hx, hb, hml, hown, hts⟩ (ok_X4_take l G a H.size v17 107 hn) (cwV 1 hts gX4_readOrder_X4_take rfl rfl rfl (by decide +kernel) ⟨Nat.le_of_ble_eq_true rfl, Nat.le_of_ble_eq_true rfl⟩) ⟨pcW_blind, va_recv hK hP (ci := 4) (q0 := 0) rfl rfl, pcW_pre hP hD hamb⟩ rfl rfl hl.1 rfl (lv_room (Nat.le_of_ble_eq_true rfl)) dX4_readOrder_71 ⟨Nat.zero_le _, Nat.zero_le _⟩) (wr := []) hP hD hS hA [0, 1] [] rfl rfl (by decide) (by decide) (fun r71 v71 H locs hw hP hD hS => ?_)
    have hf := bd2_2 hf hw
    have hP : va_P G.1 vwCl (padC G.2 a v71) H := hP
    have hD : va_D A (padC G.2 a v71) := hD
    refine lv_if_eq (tgt := 82) hx hb dX4_readOrder_74 (by decide) (fun c => ?_) (fun c => ?_)
    · have hf := it_1 hf c
      refine lv_aload_n hx hb dX4_readOrder_82 rfl (lv_at hl 0 rfl) ?_
      refine lv_bipush (v := 116) hx hb dX4_readOrder_83 (by decide) ?_
      have hn := bd2_1 hf hne
      refine cwi (va_runV (As := [.int 116]) (rest := []) ⟨hx, hb, hml, hown, hts⟩ (ok_X4_take l G a H.size v71 116 hn) (cwV 1 hts gX4_readOrder_X4_take rfl rfl rfl (by decide +kernel) ⟨Nat.le_of_ble_eq_true rfl, Nat.le_of_ble_eq_true rfl⟩) ⟨pcW_blind, va_recv hK hP (ci := 4) (q0 := 0) rfl rfl, pcW_pre hP hD hamb⟩ rfl rfl hl.1 rfl (lv_room (Nat.le_of_ble_eq_true rfl)) dX4_readOrder_85 ⟨Nat.zero_le _, Nat.zero_le _⟩) (wr := []) hP hD hS hA [0, 1] [] rfl rfl (by decide) (by decide) (fun r85 v85 H locs hw hP hD hS => ?_)
      have hf := bd2_2 hf hw
      have hP : va_P G.1 vwCl (padC G.2 a v85) H := hP
      have hD : va_D A (padC G.2 a v85) := hD
      refine lv_if_ne (tgt := 100) hx hb dX4_readOrder_88 (by decide) (fun c => ?_) (fun c => ?_)
      · have hf := it_2 hf c
        refine lv_aload_n hx hb dX4_readOrder_100 rfl (lv_at hl 0 rfl) ?_
        have hn := bd2_1 hf hne
        refine cwi (va_runV (As := []) (rest := []) ⟨hx, hb, hml, hown, hts⟩ (ok_X4_readFirst l G a H.size v85 hn) (cwV 0 hts gX4_readOrder_X4_readFirst rfl rfl rfl (by decide +kernel) ⟨Nat.le_of_ble_eq_true rfl, Nat.le_of_ble_eq_true rfl⟩) ⟨pcW_blind, va_recv hK hP (ci := 4) (q0 := 0) rfl rfl, pcW_pre hP hD hamb⟩ rfl rfl hl.1 rfl (lv_room (Nat.le_of_ble_eq_true rfl)) dX4_readOrder_101 ⟨Nat.zero_le _, Nat.zero_le _⟩) (wr := []) hP hD hS hA [0, 1] [] rfl rfl (by decide) (by decide) (fun r101 v101 H locs hw hP hD hS => ?_)
        have hf := bd2_2 hf hw
        have hP : va_P G.1 vwCl (padC G.2 a v101) H := hP
        have hD : va_D A (padC G.2 a v101) := hD
        obtain ⟨hz, hf⟩ := ck_1 hf hne
        exact W.zret (ty := .boolean) (v := r101) hx hb hr (okZ_1 hz) (fun t ht hW => ⟨⟨r101, v101, rfl, hf0.trans hf.symm, by rw [ht]; exact hP, hD⟩, hS.F ht⟩) hS.2.2 dX4_readOrder_104
      · have hf := it_1 hf c
        refine lv_aload_n hx hb dX4_readOrder_91 rfl (lv_at hl 0 rfl) ?_
        refine lv_bipush (v := 98) hx hb dX4_readOrder_92 (by decide) ?_
        have hn := bd2_1 hf hne
        refine cwi (va_runV (As := [.int 98]) (rest := []) ⟨hx, hb, hml, hown, hts⟩ (ok_X4_take l G a H.size v85 98 hn) (cwV 1 hts gX4_readOrder_X4_take rfl rfl rfl (by decide +kernel) ⟨Nat.le_of_ble_eq_true rfl, Nat.le_of_ble_eq_true rfl⟩) ⟨pcW_blind, va_recv hK hP (ci := 4) (q0 := 0) rfl rfl, pcW_pre hP hD hamb⟩ rfl rfl hl.1 rfl (lv_room (Nat.le_of_ble_eq_true rfl)) dX4_readOrder_94 ⟨Nat.zero_le _, Nat.zero_le _⟩) (wr := []) hP hD hS hA [0, 1] [] rfl rfl (by decide) (by decide) (fun r94 v94 H locs hw hP hD hS => ?_)
        have hf := bd2_2 hf hw
        have hP : va_P G.1 vwCl (padC G.2 a v94) H := hP
        have hD : va_D A (padC G.2 a v94) := hD
        refine lv_if_eq (tgt := 105) hx hb dX4_readOrder_97 (by decide) (fun c => ?_) (fun c => ?_)
        · have hf := it_1 hf c
          refine lv_aload_n hx hb dX4_readOrder_105 rfl (lv_at hl 0 rfl) ?_
          refine lv_bipush (v := 117) hx hb dX4_readOrder_106 (by decide) ?_
          have hn := bd2_1 hf hne
          refine cwi (va_runV (As := [.int 117]) (rest := []) ⟨hx, hb, hml, hown, hts⟩ (ok_X4_take l G a H.size v94 117 hn) (cwV 1 hts gX4_readOrder_X4_take rfl rfl rfl (by decide +kernel) ⟨Nat.le_of_ble_eq_true rfl, Nat.le_of_ble_eq_true rfl⟩) ⟨pcW_blind, va_recv hK hP (ci := 4) (q0 := 0) rfl rfl, pcW_pre hP hD hamb⟩ rfl rfl hl.1 rfl (lv_room (Nat.le_of_ble_eq_true rfl)) dX4_readOrder_108 ⟨Nat.zero_le _, Nat.zero_le _⟩) (wr := []) hP hD hS hA [0, 1] [] rfl rfl (by decide) (by decide) (fun r108 v108 H locs hw hP hD hS => ?_)
          have hf := bd2_2 hf hw
          have hP : va_P G.1 vwCl (padC G.2 a v108) H := hP
          have hD : va_D A (padC G.2 a v108) := hD
          refine lv_if_eq (tgt := 148) hx hb dX4_readOrder_111 (by decide) (fun c => ?_) (fun c => ?_)
          · have hf := it_1 hf c
            refine lv_iconst (v := 0) hx hb dX4_readOrder_148 (by decide) ?_
            exact W.zret (ty := .boolean) (v := 0) hx hb hr rfl (fun t ht hW => ⟨⟨0, v108, rfl, hf0.trans hf.symm, by rw [ht]; exact hP, hD⟩, hS.F ht⟩) hS.2.2 dX4_readOrder_149
          · have hf := it_2 hf c
            refine lv_aload_n hx hb dX4_readOrder_114 rfl (lv_at hl 0 rfl) ?_
            have hn := bd2_1 hf hne
            refine cwi (va_runV (As := []) (rest := []) ⟨hx, hb, hml, hown, hts⟩ (ok_X4_readMood l G a H.size v108 hn) (cwV 0 hts gX4_readOrder_X4_readMood rfl rfl rfl (by decide +kernel) ⟨Nat.le_of_ble_eq_true rfl, Nat.le_of_ble_eq_true rfl⟩) ⟨pcW_blind, va_recv hK hP (ci := 4) (q0 := 0) rfl rfl, pcW_pre hP hD hamb⟩ rfl rfl hl.1 rfl (lv_room (Nat.le_of_ble_eq_true rfl)) dX4_readOrder_115 ⟨Nat.zero_le _, Nat.zero_le _⟩) (wr := []) hP hD hS hA [0, 1] [] rfl rfl (by decide) (by decide) (fun r115 v115 H locs hw hP hD hS => ?_)
            have hf := bd2_2 hf hw
            have hP : va_P G.1 vwCl (padC G.2 a v115) H := hP
            have hD : va_D A (padC G.2 a v115) := hD
            refine lv_if_eq (tgt := 148) hx hb dX4_readOrder_118 (by decide) (fun c => ?_) (fun c => ?_)
            · have hf := it_1 hf c
              refine lv_iconst (v := 0) hx hb dX4_readOrder_148 (by decide) ?_
              exact W.zret (ty := .boolean) (v := 0) hx hb hr rfl (fun t ht hW => ⟨⟨0, v115, rfl, hf0.trans hf.symm, by rw [ht]; exact hP, hD⟩, hS.F ht⟩) hS.2.2 dX4_readOrder_149
            · have hf := it_2 hf c
              refine lv_aload_n hx hb dX4_readOrder_121 rfl (lv_at hl 0 rfl) ?_
              have hn := bd2_1 hf hne
              refine cwi (va_runV (As := []) (rest := []) ⟨hx, hb, hml, hown, hts⟩ (ok_X4_readFirst l G a H.size v115 hn) (cwV 0 hts gX4_readOrder_X4_readFirst rfl rfl rfl (by decide +kernel) ⟨Nat.le_of_ble_eq_true rfl, Nat.le_of_ble_eq_true rfl⟩) ⟨pcW_blind, va_recv hK hP (ci := 4) (q0 := 0) rfl rfl, pcW_pre hP hD hamb⟩ rfl rfl hl.1 rfl (lv_room (Nat.le_of_ble_eq_true rfl)) dX4_readOrder_122 ⟨Nat.zero_le _, Nat.zero_le _⟩) (wr := []) hP hD hS hA [0, 1] [] rfl rfl (by decide) (by decide) (fun r122 v122 H locs hw hP hD hS => ?_)
              have hf := bd2_2 hf hw
              have hP : va_P G.1 vwCl (padC G.2 a v122) H := hP
              have hD : va_D A (padC G.2 a v122) := hD
              refine lv_if_eq (tgt := 148) hx hb dX4_readOrder_125 (by decide) (fun c => ?_) (fun c => ?_)
              · have hf := it_1 hf c
                refine lv_iconst (v := 0) hx hb dX4_readOrder_148 (by decide) ?_
                exact W.zret (ty := .boolean) (v := 0) hx hb hr rfl (fun t ht hW => ⟨⟨0, v122, rfl, hf0.trans hf.symm, by rw [ht]; exact hP, hD⟩, hS.F ht⟩) hS.2.2 dX4_readOrder_149
              · have hf := it_2 hf c
                refine lv_aload_n hx hb dX4_readOrder_128 rfl (lv_at hl 0 rfl) ?_
                refine lv_bipush (v := 45) hx hb dX4_readOrder_129 (by decide) ?_
                have hn := bd2_1 hf hne
                refine cwi (va_runV (As := [.int 45]) (rest := []) ⟨hx, hb, hml, hown, hts⟩ (ok_X4_take l G a H.size v122 45 hn) (cwV 1 hts gX4_readOrder_X4_take rfl rfl rfl (by decide +kernel) ⟨Nat.le_of_ble_eq_true rfl, Nat.le_of_ble_eq_true rfl⟩) ⟨pcW_blind, va_recv hK hP (ci := 4) (q0 := 0) rfl rfl, pcW_pre hP hD hamb⟩ rfl rfl hl.1 rfl (lv_room (Nat.le_of_ble_eq_true rfl)) dX4_readOrder_131 ⟨Nat.zero_le _, Nat.zero_le _⟩) (wr := []) hP hD hS hA [0, 1] [] rfl rfl (by decide) (by decide) (fun r131 v131 H locs hw hP hD hS => ?_)
                have hf := bd2_2 hf hw
                have hP : va_P G.1 vwCl (padC G.2 a v131) H := hP
                have hD : va_D A (padC G.2 a v131) := hD
                refine lv_if_eq (tgt := 148) hx hb dX4_readOrder_134 (by decide) (fun c => ?_) (fun c => ?_)
                · have hf := it_1 hf c
                  refine lv_iconst (v := 0) hx hb dX4_readOrder_148 (by decide) ?_
                  exact W.zret (ty := .boolean) (v := 0) hx hb hr rfl (fun t ht hW => ⟨⟨0, v131, rfl, hf0.trans hf.symm, by rw [ht]; exact hP, hD⟩, hS.F ht⟩) hS.2.2 dX4_readOrder_149
                · have hf := it_2 hf c
                  refine lv_aload_n hx hb dX4_readOrder_137 rfl (lv_at hl 0 rfl) ?_
                  have hn := bd2_1 hf hne
                  refine cwi (va_runV (As := []) (rest := []) ⟨hx, hb, hml, hown, hts⟩ (ok_X4_readSecond l G a H.size v131 hn) (cwV 0 hts gX4_readOrder_X4_readSecond rfl rfl rfl (by decide +kernel) ⟨Nat.le_of_ble_eq_true rfl, Nat.le_of_ble_eq_true rfl⟩) ⟨pcW_blind, va_recv hK hP (ci := 4) (q0 := 0) rfl rfl, pcW_pre hP hD hamb⟩ rfl rfl hl.1 rfl (lv_room (Nat.le_of_ble_eq_true rfl)) dX4_readOrder_138 ⟨Nat.zero_le _, Nat.zero_le _⟩) (wr := []) hP hD hS hA [0, 1] [] rfl rfl (by decide) (by decide) (fun r138 v138 H locs hw hP hD hS => ?_)
                  have hf := bd2_2 hf hw
                  have hP : va_P G.1 vwCl (padC G.2 a v138) H := hP
                  have hD : va_D A (padC G.2 a v138) := hD
                  refine lv_if_eq (tgt := 148) hx hb dX4_readOrder_141 (by decide) (fun c => ?_) (fun c => ?_)
                  · have hf := it_1 hf c
                    refine lv_iconst (v := 0) hx hb dX4_readOrder_148 (by decide) ?_
                    exact W.zret (ty := .boolean) (v := 0) hx hb hr rfl (fun t ht hW => ⟨⟨0, v138, rfl, hf0.trans hf.symm, by rw [ht]; exact hP, hD⟩, hS.F ht⟩) hS.2.2 dX4_readOrder_149
                  · have hf := it_2 hf c
                    refine lv_iconst (v := 1) hx hb dX4_readOrder_144 (by decide) ?_
                    refine lv_goto (tgt := 149) hx hb dX4_readOrder_145 (by decide) ?_
                    exact W.zret (ty := .boolean) (v := 1) hx hb hr rfl (fun t ht hW => ⟨⟨1, v138, rfl, hf0.trans hf.symm, by rw [ht]; exact hP, hD⟩, hS.F ht⟩) hS.2.2 dX4_readOrder_149
        · have hf := it_2 hf c
          refine lv_aload_n hx hb dX4_readOrder_100 rfl (lv_at hl 0 rfl) ?_
          have hn := bd2_1 hf hne
          refine cwi (va_runV (As := []) (rest := []) ⟨hx, hb, hml, hown, hts⟩ (ok_X4_readFirst l G a H.size v94 hn) (cwV 0 hts gX4_readOrder_X4_readFirst rfl rfl rfl (by decide +kernel) ⟨Nat.le_of_ble_eq_true rfl, Nat.le_of_ble_eq_true rfl⟩) ⟨pcW_blind, va_recv hK hP (ci := 4) (q0 := 0) rfl rfl, pcW_pre hP hD hamb⟩ rfl rfl hl.1 rfl (lv_room (Nat.le_of_ble_eq_true rfl)) dX4_readOrder_101 ⟨Nat.zero_le _, Nat.zero_le _⟩) (wr := []) hP hD hS hA [0, 1] [] rfl rfl (by decide) (by decide) (fun r101 v101 H locs hw hP hD hS => ?_)
          have hf := bd2_2 hf hw
          have hP : va_P G.1 vwCl (padC G.2 a v101) H := hP
          have hD : va_D A (padC G.2 a v101) := hD
          obtain ⟨hz, hf⟩ := ck_1 hf hne
          exact W.zret (ty := .boolean) (v := r101) hx hb hr (okZ_1 hz) (fun t ht hW => ⟨⟨r101, v101, rfl, hf0.trans hf.symm, by rw [ht]; exact hP, hD⟩, hS.F ht⟩) hS.2.2 dX4_readOrder_104
    · have hf := it_2 hf c
      refine lv_aload_n hx hb dX4_readOrder_77 rfl (lv_at hl 0 rfl) ?_
      have hn := bd2_1 hf hne
      refine cwi (va_runV (As := []) (rest := []) ⟨hx, hb, hml, hown, hts⟩ (ok_X4_readMood l G a H.size v71 hn) (cwV 0 hts gX4_readOrder_X4_readMood rfl rfl rfl (by decide +kernel) ⟨Nat.le_of_ble_eq_true rfl, Nat.le_of_ble_eq_true rfl⟩) ⟨pcW_blind, va_recv hK hP (ci := 4) (q0 := 0) rfl rfl, pcW_pre hP hD hamb⟩ rfl rfl hl.1 rfl (lv_room (Nat.le_of_ble_eq_true rfl)) dX4_readOrder_78 ⟨Nat.zero_le _, Nat.zero_le _⟩) (wr := []) hP hD hS hA [0, 1] [] rfl rfl (by decide) (by decide) (fun r78 v78 H locs hw hP hD hS => ?_)
      have hf := bd2_2 hf hw
      have hP : va_P G.1 vwCl (padC G.2 a v78) H := hP
      have hD : va_D A (padC G.2 a v78) := hD
      obtain ⟨hz, hf⟩ := ck_1 hf hne
      exact W.zret (ty := .boolean) (v := r78) hx hb hr (okZ_1 hz) (fun t ht hW => ⟨⟨r78, v78, rfl, hf0.trans hf.symm, by rw [ht]; exact hP, hD⟩, hS.F ht⟩) hS.2.2 dX4_readOrder_81
  · have hf := it_2 hf c
    refine lv_aload_n hx hb dX4_readOrder_23 rfl (lv_at hl 0 rfl) ?_
    have hn := bd2_1 hf hne
    refine cwi (va_runV (As := []) (rest := []) ⟨hx, hb, hml, hown, hts⟩ (ok_X4_readMood l G a H.size v17 hn) (cwV 0 hts gX4_readOrder_X4_readMood rfl rfl rfl (by decide +kernel) ⟨Nat.le_of_ble_eq_true rfl, Nat.le_of_ble_eq_true rfl⟩) ⟨pcW_blind, va_recv hK hP (ci := 4) (q0 := 0) rfl rfl, pcW_pre hP hD hamb⟩ rfl rfl hl.1 rfl (lv_room (Nat.le_of_ble_eq_true rfl)) dX4_readOrder_24 ⟨Nat.zero_le _, Nat.zero_le _⟩) (wr := []) hP hD hS hA [0, 1] [] rfl rfl (by decide) (by decide) (fun r24 v24 H locs hw hP hD hS => ?_)
    have hf := bd2_2 hf hw
    have hP : va_P G.1 vwCl (padC G.2 a v24) H := hP
    have hD : va_D A (padC G.2 a v24) := hD
    refine lv_if_eq (tgt := 66) hx hb dX4_readOrder_27 (by decide) (fun c => ?_) (fun c => ?_)
    · have hf := it_1 hf c
      refine lv_iconst (v := 0) hx hb dX4_readOrder_66 (by decide) ?_
      exact W.zret (ty := .boolean) (v := 0) hx hb hr rfl (fun t ht hW => ⟨⟨0, v24, rfl, hf0.trans hf.symm, by rw [ht]; exact hP, hD⟩, hS.F ht⟩) hS.2.2 dX4_readOrder_67
    · have hf := it_2 hf c
      refine lv_aload_n hx hb dX4_readOrder_30 rfl (lv_at hl 0 rfl) ?_
      refine lv_bipush (v := 58) hx hb dX4_readOrder_31 (by decide) ?_
      have hn := bd2_1 hf hne
      refine cwi (va_runV (As := [.int 58]) (rest := []) ⟨hx, hb, hml, hown, hts⟩ (ok_X4_take l G a H.size v24 58 hn) (cwV 1 hts gX4_readOrder_X4_take rfl rfl rfl (by decide +kernel) ⟨Nat.le_of_ble_eq_true rfl, Nat.le_of_ble_eq_true rfl⟩) ⟨pcW_blind, va_recv hK hP (ci := 4) (q0 := 0) rfl rfl, pcW_pre hP hD hamb⟩ rfl rfl hl.1 rfl (lv_room (Nat.le_of_ble_eq_true rfl)) dX4_readOrder_33 ⟨Nat.zero_le _, Nat.zero_le _⟩) (wr := []) hP hD hS hA [0, 1] [] rfl rfl (by decide) (by decide) (fun r33 v33 H locs hw hP hD hS => ?_)
      have hf := bd2_2 hf hw
      have hP : va_P G.1 vwCl (padC G.2 a v33) H := hP
      have hD : va_D A (padC G.2 a v33) := hD
      refine lv_if_eq (tgt := 66) hx hb dX4_readOrder_36 (by decide) (fun c => ?_) (fun c => ?_)
      · have hf := it_1 hf c
        refine lv_iconst (v := 0) hx hb dX4_readOrder_66 (by decide) ?_
        exact W.zret (ty := .boolean) (v := 0) hx hb hr rfl (fun t ht hW => ⟨⟨0, v33, rfl, hf0.trans hf.symm, by rw [ht]; exact hP, hD⟩, hS.F ht⟩) hS.2.2 dX4_readOrder_67
      · have hf := it_2 hf c
        refine lv_aload_n hx hb dX4_readOrder_39 rfl (lv_at hl 0 rfl) ?_
        have hn := bd2_1 hf hne
        refine cwi (va_runV (As := []) (rest := []) ⟨hx, hb, hml, hown, hts⟩ (ok_X4_readFirst l G a H.size v33 hn) (cwV 0 hts gX4_readOrder_X4_readFirst rfl rfl rfl (by decide +kernel) ⟨Nat.le_of_ble_eq_true rfl, Nat.le_of_ble_eq_true rfl⟩) ⟨pcW_blind, va_recv hK hP (ci := 4) (q0 := 0) rfl rfl, pcW_pre hP hD hamb⟩ rfl rfl hl.1 rfl (lv_room (Nat.le_of_ble_eq_true rfl)) dX4_readOrder_40 ⟨Nat.zero_le _, Nat.zero_le _⟩) (wr := []) hP hD hS hA [0, 1] [] rfl rfl (by decide) (by decide) (fun r40 v40 H locs hw hP hD hS => ?_)
        have hf := bd2_2 hf hw
        have hP : va_P G.1 vwCl (padC G.2 a v40) H := hP
        have hD : va_D A (padC G.2 a v40) := hD
        refine lv_if_eq (tgt := 66) hx hb dX4_readOrder_43 (by decide) (fun c => ?_) (fun c => ?_)
        · have hf := it_1 hf c
          refine lv_iconst (v := 0) hx hb dX4_readOrder_66 (by decide) ?_
          exact W.zret (ty := .boolean) (v := 0) hx hb hr rfl (fun t ht hW => ⟨⟨0, v40, rfl, hf0.trans hf.symm, by rw [ht]; exact hP, hD⟩, hS.F ht⟩) hS.2.2 dX4_readOrder_67
        · have hf := it_2 hf c
          refine lv_aload_n hx hb dX4_readOrder_46 rfl (lv_at hl 0 rfl) ?_
          refine lv_bipush (v := 94) hx hb dX4_readOrder_47 (by decide) ?_
          have hn := bd2_1 hf hne
          refine cwi (va_runV (As := [.int 94]) (rest := []) ⟨hx, hb, hml, hown, hts⟩ (ok_X4_take l G a H.size v40 94 hn) (cwV 1 hts gX4_readOrder_X4_take rfl rfl rfl (by decide +kernel) ⟨Nat.le_of_ble_eq_true rfl, Nat.le_of_ble_eq_true rfl⟩) ⟨pcW_blind, va_recv hK hP (ci := 4) (q0 := 0) rfl rfl, pcW_pre hP hD hamb⟩ rfl rfl hl.1 rfl (lv_room (Nat.le_of_ble_eq_true rfl)) dX4_readOrder_49 ⟨Nat.zero_le _, Nat.zero_le _⟩) (wr := []) hP hD hS hA [0, 1] [] rfl rfl (by decide) (by decide) (fun r49 v49 H locs hw hP hD hS => ?_)
          have hf := bd2_2 hf hw
          have hP : va_P G.1 vwCl (padC G.2 a v49) H := hP
          have hD : va_D A (padC G.2 a v49) := hD
          refine lv_if_eq (tgt := 62) hx hb dX4_readOrder_52 (by decide) (fun c => ?_) (fun c => ?_)
          · have hf := it_1 hf c
            refine lv_iconst (v := 1) hx hb dX4_readOrder_62 (by decide) ?_
            refine lv_goto (tgt := 67) hx hb dX4_readOrder_63 (by decide) ?_
            exact W.zret (ty := .boolean) (v := 1) hx hb hr rfl (fun t ht hW => ⟨⟨1, v49, rfl, hf0.trans hf.symm, by rw [ht]; exact hP, hD⟩, hS.F ht⟩) hS.2.2 dX4_readOrder_67
          · have hf := it_2 hf c
            refine lv_aload_n hx hb dX4_readOrder_55 rfl (lv_at hl 0 rfl) ?_
            have hn := bd2_1 hf hne
            refine cwi (va_runV (As := []) (rest := []) ⟨hx, hb, hml, hown, hts⟩ (ok_X4_readSecond l G a H.size v49 hn) (cwV 0 hts gX4_readOrder_X4_readSecond rfl rfl rfl (by decide +kernel) ⟨Nat.le_of_ble_eq_true rfl, Nat.le_of_ble_eq_true rfl⟩) ⟨pcW_blind, va_recv hK hP (ci := 4) (q0 := 0) rfl rfl, pcW_pre hP hD hamb⟩ rfl rfl hl.1 rfl (lv_room (Nat.le_of_ble_eq_true rfl)) dX4_readOrder_56 ⟨Nat.zero_le _, Nat.zero_le _⟩) (wr := []) hP hD hS hA [0, 1] [] rfl rfl (by decide) (by decide) (fun r56 v56 H locs hw hP hD hS => ?_)
            have hf := bd2_2 hf hw
            have hP : va_P G.1 vwCl (padC G.2 a v56) H := hP
            have hD : va_D A (padC G.2 a v56) := hD
            refine lv_if_eq (tgt := 66) hx hb dX4_readOrder_59 (by decide) (fun c => ?_) (fun c => ?_)
            · have hf := it_1 hf c
              refine lv_iconst (v := 0) hx hb dX4_readOrder_66 (by decide) ?_
              exact W.zret (ty := .boolean) (v := 0) hx hb hr rfl (fun t ht hW => ⟨⟨0, v56, rfl, hf0.trans hf.symm, by rw [ht]; exact hP, hD⟩, hS.F ht⟩) hS.2.2 dX4_readOrder_67
            · have hf := it_2 hf c
              refine lv_iconst (v := 1) hx hb dX4_readOrder_62 (by decide) ?_
              refine lv_goto (tgt := 67) hx hb dX4_readOrder_63 (by decide) ?_
              exact W.zret (ty := .boolean) (v := 1) hx hb hr rfl (fun t ht hW => ⟨⟨1, v56, rfl, hf0.trans hf.symm, by rw [ht]; exact hP, hD⟩, hS.F ht⟩) hS.2.2 dX4_readOrder_67
set_option maxHeartbeats 4000000 in
set_option maxRecDepth 100000 in
theorem ok_X4_faultIndex (l : Launch) (G : Gt) (a : Nat → Nat) (sz : Nat) (n0 : Nat) (v0 : DV) (hne : f_X4_faultIndex n0 v0 ≠ none) : Met l yX4_faultIndex wsX4_faultIndex ({ frames := 4, cells := 0, slots := 0, locals := 81 } : Room) (pcW G [.ref (a 17)] (padC G.2 a v0) sz) (va_Qi (fun r (u : DV) => f_X4_faultIndex n0 v0 = some (r, u)) (fun u t => atW G (padC G.2 a u) (va_A (padC G.2 a v0) sz) t) (va_A (padC G.2 a v0) sz)) 0 0 (va_A (padC G.2 a v0) sz) := by
  refine Met.ofW (cc := cX4_faultIndex) (maxL := 2) (ret := (some .int)) (by decide) rfl ?_
  intro p e s m args below meth c s₁ B hml hv
  obtain ⟨rfl, hsz, hP, hD0, hamb⟩ := hv
  have hx := B.exec
  have hb := B.bytes
  have hr := B.returns
  have hts := atoms_spec (ws := wsX4_faultIndex) B.pre
  have hown : s.vm.findClass RX4 = some m.cls := findClass_of_methodNamed B.named
  have hlocks := B.notSynchronized
  have hK := hamb.1
  subst hsz
  have hD := hD0.self (sz := s.heap.size)
  generalize hAe : va_A (padC G.2 a v0) s.heap.size = A at hD ⊢
  have hA : ∀ q : Nat, s.heap.size ≤ q → A q := fun q h => by rw [← hAe]; exact Or.inr h
  have hS : va_S A s.heap s.heap [] := va_S.rf
  obtain ⟨res, hf0⟩ : ∃ res, f_X4_faultIndex n0 v0 = res := ⟨_, rfl⟩
  have hne : res ≠ none := hf0 ▸ hne
  have hf := hf0
  rw [f_X4_faultIndex] at hf
  have hinX4 : ∀ w ∈ u_ws RX4 TX4 7, w ∈ wsX4_faultIndex := by decide +kernel
  have lk19 := hts (.fieldLink RX4 19 "MoodDrawers$Pad" "at" "I") (by decide +kernel)
  have lk15 := hts (.fieldLink RX4 15 "MoodDrawers$Pad" "length" "I") (by decide +kernel)
  have hl := lv_entry ([.ref (a 17)]) (n := 2) (Nat.le_of_ble_eq_true rfl)
  rw [lg_entry_eq]
  generalize (lg_sl ([.ref (a 17)]) ++ List.replicate (2 - (lg_sl ([.ref (a 17)])).length) Slot.unset).toArray = ls at hl ⊢
  have hl : lv_has ls 2 [(0, .ref (a 17))] := hl
  have L7 : ∀ (n : Nat) (v : DV) (x1 : Int32) (H : Heap) (locs : List Loc) (ls : Array Slot), va_P G.1 vwCl (padC G.2 a v) H → va_D A (padC G.2 a v) → va_S A s.heap H locs → lv_has ls 2 [(0, .ref (a 17)), (1, .int x1)] → f_X4_faultIndex_L7 n v x1 = res → W p l e (headSpec wsX4_faultIndex ({ frames := 4, cells := 0, slots := 0, locals := 81 } : Room)).room s m ([.ref (a 17)] : List Value).toArray below meth c H locs 0 0 (MQ below (va_Qi (fun r (u : DV) => f_X4_faultIndex n0 v0 = some (r, u)) (fun u t => atW G (padC G.2 a u) A t) A) ([.ref (a 17)] : List Value).toArray s 0 0 A) (F0 m 7 ls []) := by
    intro n
    induction n with
    | zero => intro v x1 H locs ls hP hD hS hl hf; exact (none_1 hf hne).elim
    | succ n ih =>
      intro v x1 H locs ls hP hD hS hl hf
      rw [f_X4_faultIndex_L7] at hf
      refine lv_iload_n hx hb dX4_faultIndex_7 rfl (lv_at hl 1 rfl) ?_
      refine lv_bipush (v := 80) hx hb dX4_faultIndex_8 (by decide) ?_
      refine lv_icmp_ge (tgt := 59) hx hb dX4_faultIndex_10 (by decide) (fun c => ?_) (fun c => ?_)
      · have hf := it_1 hf c
        refine lv_aload_n hx hb dX4_faultIndex_59 rfl (lv_at hl 0 rfl) ?_
        refine va_get (D := G.1) (ci := 4) (v := .int (v 17 0)) (C := RX4) (T := TX4) (N := 7) hx hb hts hinX4 hown hK hP 0 rfl rfl 2 (by decide) lk19 (fun _ h9 => h9) rfl dX4_faultIndex_60 ?_
        exact W.iret (v := (v 17 0)) hx hb hr (fun t ht hW => ⟨⟨(v 17 0), v, rfl, hf0.trans hf.symm, by rw [ht]; exact hP, hD⟩, hS.F ht⟩) hS.2.2 dX4_faultIndex_63
      · have hf := it_2 hf c
        refine lv_aload_n hx hb dX4_faultIndex_13 rfl (lv_at hl 0 rfl) ?_
        have hn := bd2_1 hf hne
        refine cwi (va_runV (As := []) (rest := []) ⟨hx, hb, hml, hown, hts⟩ (ok_X4_readOrder l G a H.size v hn) (cwV 0 hts gX4_faultIndex_X4_readOrder rfl rfl rfl (by decide +kernel) ⟨Nat.le_of_ble_eq_true rfl, Nat.le_of_ble_eq_true rfl⟩) ⟨pcW_blind, va_recv hK hP (ci := 4) (q0 := 0) rfl rfl, pcW_pre hP hD hamb⟩ rfl rfl hl.1 rfl (lv_room (Nat.le_of_ble_eq_true rfl)) dX4_faultIndex_14 ⟨Nat.zero_le _, Nat.zero_le _⟩) (wr := []) hP hD hS hA [0, 1] [] rfl rfl (by decide) (by decide) (fun r14 v14 H locs hw hP hD hS => ?_)
        have hf := bd2_2 hf hw
        have hP : va_P G.1 vwCl (padC G.2 a v14) H := hP
        have hD : va_D A (padC G.2 a v14) := hD
        refine lv_if_ne (tgt := 25) hx hb dX4_faultIndex_17 (by decide) (fun c => ?_) (fun c => ?_)
        · have hf := it_2 hf c
          refine lv_aload_n hx hb dX4_faultIndex_25 rfl (lv_at hl 0 rfl) ?_
          refine va_get (D := G.1) (ci := 4) (v := .int (v14 17 0)) (C := RX4) (T := TX4) (N := 7) hx hb hts hinX4 hown hK hP 0 rfl rfl 2 (by decide) lk19 (fun _ h9 => h9) rfl dX4_faultIndex_26 ?_
          refine lv_aload_n hx hb dX4_faultIndex_29 rfl (lv_at hl 0 rfl) ?_
          refine va_get (D := G.1) (ci := 4) (v := .int (v14 16 0)) (C := RX4) (T := TX4) (N := 7) hx hb hts hinX4 hown hK hP 0 rfl rfl 1 (by decide) lk15 (fun _ h9 => h9) rfl dX4_faultIndex_30 ?_
          refine lv_icmp_lt (tgt := 39) hx hb dX4_faultIndex_33 (by decide) (fun c => ?_) (fun c => ?_)
          · have hf := it_1 hf c
            refine lv_aload_n hx hb dX4_faultIndex_39 rfl (lv_at hl 0 rfl) ?_
            refine lv_bipush (v := 59) hx hb dX4_faultIndex_40 (by decide) ?_
            have hn := bd2_1 hf hne
            refine cwi (va_runV (As := [.int 59]) (rest := []) ⟨hx, hb, hml, hown, hts⟩ (ok_X4_take l G a H.size v14 59 hn) (cwV 1 hts gX4_faultIndex_X4_take rfl rfl rfl (by decide +kernel) ⟨Nat.le_of_ble_eq_true rfl, Nat.le_of_ble_eq_true rfl⟩) ⟨pcW_blind, va_recv hK hP (ci := 4) (q0 := 0) rfl rfl, pcW_pre hP hD hamb⟩ rfl rfl hl.1 rfl (lv_room (Nat.le_of_ble_eq_true rfl)) dX4_faultIndex_42 ⟨Nat.zero_le _, Nat.zero_le _⟩) (wr := []) hP hD hS hA [0, 1] [] rfl rfl (by decide) (by decide) (fun r42 v42 H locs hw hP hD hS => ?_)
            have hf := bd2_2 hf hw
            have hP : va_P G.1 vwCl (padC G.2 a v42) H := hP
            have hD : va_D A (padC G.2 a v42) := hD
            refine lv_if_ne (tgt := 53) hx hb dX4_faultIndex_45 (by decide) (fun c => ?_) (fun c => ?_)
            · have hf := it_2 hf c
              refine lv_iinc (v := (x1 + 1)) (lv' := [(1, .int (x1 + 1)), (0, .ref (a 17))]) hx hb dX4_faultIndex_53 hl (k := 1) rfl rfl (by decide) rfl (fun ls hl => ?_)
              refine lv_goto (tgt := 7) hx hb dX4_faultIndex_56 (by decide) ?_
              exact ih v42 (x1 + 1) H locs ls hP hD hS (lv_sub hl [1, 0] rfl) hf
            · have hf := it_1 hf c
              refine lv_aload_n hx hb dX4_faultIndex_48 rfl (lv_at hl 0 rfl) ?_
              refine va_get (D := G.1) (ci := 4) (v := .int (v42 17 0)) (C := RX4) (T := TX4) (N := 7) hx hb hts hinX4 hown hK hP 0 rfl rfl 2 (by decide) lk19 (fun _ h9 => h9) rfl dX4_faultIndex_49 ?_
              exact W.iret (v := (v42 17 0)) hx hb hr (fun t ht hW => ⟨⟨(v42 17 0), v42, rfl, hf0.trans hf.symm, by rw [ht]; exact hP, hD⟩, hS.F ht⟩) hS.2.2 dX4_faultIndex_52
          · have hf := it_2 hf c
            refine lv_bipush (v := (-6)) hx hb dX4_faultIndex_36 (by decide) ?_
            exact W.iret (v := (-6)) hx hb hr (fun t ht hW => ⟨⟨(-6), v14, rfl, hf0.trans hf.symm, by rw [ht]; exact hP, hD⟩, hS.F ht⟩) hS.2.2 dX4_faultIndex_38
        · have hf := it_1 hf c
          refine lv_aload_n hx hb dX4_faultIndex_20 rfl (lv_at hl 0 rfl) ?_
          refine va_get (D := G.1) (ci := 4) (v := .int (v14 17 0)) (C := RX4) (T := TX4) (N := 7) hx hb hts hinX4 hown hK hP 0 rfl rfl 2 (by decide) lk19 (fun _ h9 => h9) rfl dX4_faultIndex_21 ?_
          exact W.iret (v := (v14 17 0)) hx hb hr (fun t ht hW => ⟨⟨(v14 17 0), v14, rfl, hf0.trans hf.symm, by rw [ht]; exact hP, hD⟩, hS.F ht⟩) hS.2.2 dX4_faultIndex_24
  refine lv_aload_n hx hb dX4_faultIndex_0 rfl (lv_at hl 0 rfl) ?_
  refine lv_iconst (v := 0) hx hb dX4_faultIndex_1 (by decide) ?_
  refine va_put (D := G.1) (ci := 4) (v := .int 0) (ty := .int) (C := RX4) (T := TX4) (N := 7) hx hb hts hinX4 tyX4 tyX4_ok nmX4 hown hK hP hD hS 0 rfl rfl 2 (by decide) lk19 (fun _ h9 => h9) rfl (by decide +kernel) rfl rfl (Nat.le_of_ble_eq_true rfl) dX4_faultIndex_2 (fun H locs hP hD hS => ?_)
  have hP : va_P G.1 vwCl (padC G.2 a (vs v0 17 (fun _ => 0))) H := hP
  have hD : va_D A (padC G.2 a (vs v0 17 (fun _ => 0))) := hD
  refine lv_iconst (v := 0) hx hb dX4_faultIndex_5 (by decide) ?_
  refine lv_istore_n (lv' := [(1, .int 0), (0, .ref (a 17))]) hx hb dX4_faultIndex_6 rfl hl (by decide) rfl (fun ls hl => ?_)
  exact L7 n0 (vs v0 17 (fun _ => 0)) 0 H locs ls hP hD hS (lv_sub hl [1, 0] rfl) hf
set_option maxHeartbeats 4000000 in
set_option maxRecDepth 100000 in
theorem ok_X5_workOut (l : Launch) (G : Gt) (a : Nat → Nat) (sz : Nat) (n0 : Nat) (v0 : DV) (p2 : Int32) (hne : f_X5_workOut n0 v0 p2 ≠ none) : Met l yX5_workOut wsX5_workOut ({ frames := 2, cells := 0, slots := 0, locals := 62 } : Room) (pcW G [.ref (a 15), .ref (a 0), .int p2] (regC G.2 a v0) sz) (va_Qv (fun (u : DV) => f_X5_workOut n0 v0 p2 = some u) (fun u t => atW G (regC G.2 a u) (va_A (regC G.2 a v0) sz) t) (va_A (regC G.2 a v0) sz)) 0 0 (va_A (regC G.2 a v0) sz) := by
  refine Met.ofW (cc := cX5_workOut) (maxL := 6) (ret := none) (by decide) rfl ?_
  intro p e s m args below meth c s₁ B hml hv
  obtain ⟨rfl, hsz, hP, hD0, hamb⟩ := hv
  have hx := B.exec
  have hb := B.bytes
  have hr := B.returns
  have hts := atoms_spec (ws := wsX5_workOut) B.pre
  have hown : s.vm.findClass RX5 = some m.cls := findClass_of_methodNamed B.named
  have hlocks := B.notSynchronized
  have hK := hamb.1
  subst hsz
  have hD := hD0.self (sz := s.heap.size)
  generalize hAe : va_A (regC G.2 a v0) s.heap.size = A at hD ⊢
  have hA : ∀ q : Nat, s.heap.size ≤ q → A q := fun q h => by rw [← hAe]; exact Or.inr h
  have hS : va_S A s.heap s.heap [] := va_S.rf
  obtain ⟨res, hf0⟩ : ∃ res, f_X5_workOut n0 v0 p2 = res := ⟨_, rfl⟩
  have hne : res ≠ none := hf0 ▸ hne
  have hf := hf0
  rw [f_X5_workOut] at hf
  have hinX0 : ∀ w ∈ u_ws RX0 TX0 4, w ∈ wsX5_workOut := by decide +kernel
  have hinX3 : ∀ w ∈ u_ws RX3 TX3 8, w ∈ wsX5_workOut := by decide +kernel
  have hinX5 : ∀ w ∈ u_ws RX5 TX5 1, w ∈ wsX5_workOut := by decide +kernel
  have lk19 := hts (.fieldLink RX5 19 "MoodDrawers$Desk" "letters" "LMoodDrawers$Letters;") (by decide +kernel)
  have lk25 := hts (.fieldLink RX5 25 "MoodDrawers$Letters" "written" "I") (by decide +kernel)
  have lk31 := hts (.fieldLink RX5 31 "MoodDrawers$Letters" "how" "[I") (by decide +kernel)
  have lk9 := hts (.fieldLink RX5 9 "MoodDrawers$Regrets" "regret" "[I") (by decide +kernel)
  have lk38 := hts (.fieldLink RX5 38 "MoodDrawers$Letters" "answered" "[I") (by decide +kernel)
  have lw5 := hts (.methodLink RX5 45 Lib.Math.max.name) (by decide +kernel)
  have lw6 := hts (.static Lib.Math.max.name) (by decide +kernel)
  have lw7 := hts (.initialized "java/lang/Math") (by decide +kernel)
  have lw8 := hts (.code Lib.Math.max.name Lib.Math.max.code 2 (some .int)) (by decide +kernel)
  have hl := lv_entry ([.ref (a 15), .ref (a 0), .int p2]) (n := 6) (Nat.le_of_ble_eq_true rfl)
  rw [lg_entry_eq]
  generalize (lg_sl ([.ref (a 15), .ref (a 0), .int p2]) ++ List.replicate (6 - (lg_sl ([.ref (a 15), .ref (a 0), .int p2])).length) Slot.unset).toArray = ls at hl ⊢
  have hl : lv_has ls 6 [(0, .ref (a 15)), (1, .ref (a 0)), (2, .int p2)] := hl
  have J123 : ∀ (k37 : DV → Int32 → Int32 → Option (DV)) (hk37 : ∀ (v : DV) (x2 : Int32) (x4 : Int32) (H : Heap) (locs : List Loc) (ls : Array Slot), va_P G.1 vwCl (regC G.2 a v) H → va_D A (regC G.2 a v) → va_S A s.heap H locs → lv_has ls 6 [(0, .ref (a 15)), (1, .ref (a 0)), (2, .int x2), (3, .ref (a 7)), (4, .int x4)] → k37 v x2 x4 = res → W p l e (headSpec wsX5_workOut ({ frames := 2, cells := 0, slots := 0, locals := 62 } : Room)).room s m ([.ref (a 15), .ref (a 0), .int p2] : List Value).toArray below meth c H locs 0 0 (MQ below (va_Qv (fun (u : DV) => f_X5_workOut n0 v0 p2 = some u) (fun u t => atW G (regC G.2 a u) A t) A) ([.ref (a 15), .ref (a 0), .int p2] : List Value).toArray s 0 0 A) (F0 m 37 ls [])) (n : Nat) (v : DV) (x2 : Int32) (x4 : Int32) (z0 : Int32) (z1 : Int32) (H : Heap) (locs : List Loc) (ls : Array Slot), va_P G.1 vwCl (regC G.2 a v) H → va_D A (regC G.2 a v) → va_S A s.heap H locs → lv_has ls 6 [(0, .ref (a 15)), (1, .ref (a 0)), (2, .int x2), (3, .ref (a 7)), (4, .int x4)] → f_X5_workOut_J123 k37 n v x2 x4 z0 z1 = res → W p l e (headSpec wsX5_workOut ({ frames := 2, cells := 0, slots := 0, locals := 62 } : Room)).room s m ([.ref (a 15), .ref (a 0), .int p2] : List Value).toArray below meth c H locs 0 0 (MQ below (va_Qv (fun (u : DV) => f_X5_workOut n0 v0 p2 = some u) (fun u t => atW G (regC G.2 a u) A t) A) ([.ref (a 15), .ref (a 0), .int p2] : List Value).toArray s 0 0 A) (F0 m 123 ls [.int z0, .int z1, .ref (a 16)]) := by
    intro k37 hk37 n v x2 x4 z0 z1 H locs ls hP hD hS hl hf
    rw [f_X5_workOut_J123] at hf
    obtain ⟨hi, hf⟩ := ck_1 hf hne
    refine va_iast (f := (v 14)) hx hb hK hP hD hS 1 0 rfl rfl (ixb_1 hi) dX5_workOut_123 (fun H locs hP hD hS => ?_)
    have hP : va_P G.1 vwCl (regC G.2 a (vs v 14 (upd (v 14) (Int32.toNatClampNeg z1) z0))) H := hP
    have hD : va_D A (regC G.2 a (vs v 14 (upd (v 14) (Int32.toNatClampNeg z1) z0))) := hD
    refine lv_iinc (v := (x4 + (-1))) (lv' := [(4, .int (x4 + (-1))), (0, .ref (a 15)), (1, .ref (a 0)), (2, .int x2), (3, .ref (a 7))]) hx hb dX5_workOut_124 hl (k := 4) rfl rfl (by decide) rfl (fun ls hl => ?_)
    refine lv_goto (tgt := 37) hx hb dX5_workOut_127 (by decide) ?_
    exact hk37 (vs v 14 (upd (v 14) (Int32.toNatClampNeg z1) z0)) x2 (x4 + (-1)) H locs ls hP hD hS (lv_sub hl [1, 2, 3, 4, 0] rfl) hf
  have J82 : ∀ (k37 : DV → Int32 → Int32 → Option (DV)) (hk37 : ∀ (v : DV) (x2 : Int32) (x4 : Int32) (H : Heap) (locs : List Loc) (ls : Array Slot), va_P G.1 vwCl (regC G.2 a v) H → va_D A (regC G.2 a v) → va_S A s.heap H locs → lv_has ls 6 [(0, .ref (a 15)), (1, .ref (a 0)), (2, .int x2), (3, .ref (a 7)), (4, .int x4)] → k37 v x2 x4 = res → W p l e (headSpec wsX5_workOut ({ frames := 2, cells := 0, slots := 0, locals := 62 } : Room)).room s m ([.ref (a 15), .ref (a 0), .int p2] : List Value).toArray below meth c H locs 0 0 (MQ below (va_Qv (fun (u : DV) => f_X5_workOut n0 v0 p2 = some u) (fun u t => atW G (regC G.2 a u) A t) A) ([.ref (a 15), .ref (a 0), .int p2] : List Value).toArray s 0 0 A) (F0 m 37 ls [])) (n : Nat) (v : DV) (x2 : Int32) (x4 : Int32) (H : Heap) (locs : List Loc) (ls : Array Slot), va_P G.1 vwCl (regC G.2 a v) H → va_D A (regC G.2 a v) → va_S A s.heap H locs → lv_has ls 6 [(0, .ref (a 15)), (1, .ref (a 0)), (2, .int x2), (3, .ref (a 7)), (4, .int x4)] → f_X5_workOut_J82 k37 n v x2 x4 = res → W p l e (headSpec wsX5_workOut ({ frames := 2, cells := 0, slots := 0, locals := 62 } : Room)).room s m ([.ref (a 15), .ref (a 0), .int p2] : List Value).toArray below meth c H locs 0 0 (MQ below (va_Qv (fun (u : DV) => f_X5_workOut n0 v0 p2 = some u) (fun u t => atW G (regC G.2 a u) A t) A) ([.ref (a 15), .ref (a 0), .int p2] : List Value).toArray s 0 0 A) (F0 m 82 ls []) := by
    intro k37 hk37 n v x2 x4 H locs ls hP hD hS hl hf
    rw [f_X5_workOut_J82] at hf
    refine lv_aload_n hx hb dX5_workOut_82 rfl (lv_at hl 3 rfl) ?_
    refine va_get (D := G.1) (ci := 3) (v := .ref (a 11)) (C := RX3) (T := TX3) (N := 8) hx hb hts hinX3 hown hK hP 9 rfl rfl 4 (by decide) lk38 (fun _ h9 => h9) rfl dX5_workOut_83 ?_
    refine lv_iload hx hb dX5_workOut_86 (lv_at hl 4 rfl) ?_
    obtain ⟨hi, hf⟩ := ck_1 hf hne
    refine va_iald (f := (v 10)) hx hb hK hP 13 0 rfl rfl (ixb_1 hi) dX5_workOut_88 ?_
    refine lv_istore (lv' := [(5, .int ((v 10) (Int32.toNatClampNeg x4))), (0, .ref (a 15)), (1, .ref (a 0)), (2, .int x2), (3, .ref (a 7)), (4, .int x4)]) hx hb dX5_workOut_89 hl (by decide) rfl (fun ls hl => ?_)
    refine lv_aload_n hx hb dX5_workOut_91 rfl (lv_at hl 4 rfl) ?_
    refine lv_iload hx hb dX5_workOut_92 (lv_at hl 0 rfl) ?_
    refine vp_callSi (W.runV (As := [.int ((v 10) (Int32.toNatClampNeg x4))]) (rest := []) ⟨hx, hb, hml, hown, hts⟩ (ok_X3_isLetter l G a v ((v 10) (Int32.toNatClampNeg x4))) (cwV 1 hts gX5_workOut_X3_isLetter rfl rfl rfl (by decide +kernel) ⟨Nat.le_of_ble_eq_true rfl, Nat.le_of_ble_eq_true rfl⟩) ⟨pcR_blind, va_recv hK (hP.sub (ws' := (lettersC G.2 a v)) [9, 10, 11, 12, 13, 14, 15, 16] rfl) (ci := 3) (q0 := 0) rfl rfl, pcR_pre (hP.sub (ws' := (lettersC G.2 a v)) [9, 10, 11, 12, 13, 14, 15, 16] rfl) hamb⟩ rfl rfl hl.1 rfl (lv_room (Nat.le_of_ble_eq_true rfl)) dX5_workOut_94 ⟨Nat.zero_le _, Nat.zero_le _⟩) (fun r94 hw => ?_)
    subst hw
    refine lv_if_eq (tgt := 124) hx hb dX5_workOut_97 (by decide) (fun c => ?_) (fun c => ?_)
    · have hf := it_1 hf c
      refine lv_iinc (v := (x4 + (-1))) (lv' := [(4, .int (x4 + (-1))), (5, .int ((v 10) (Int32.toNatClampNeg x4))), (0, .ref (a 15)), (1, .ref (a 0)), (2, .int x2), (3, .ref (a 7))]) hx hb dX5_workOut_124 hl (k := 5) rfl rfl (by decide) rfl (fun ls hl => ?_)
      refine lv_goto (tgt := 37) hx hb dX5_workOut_127 (by decide) ?_
      exact hk37 v x2 (x4 + (-1)) H locs ls hP hD hS (lv_sub hl [2, 3, 4, 5, 0] rfl) hf
    · have hf := it_2 hf c
      refine lv_aload_n hx hb dX5_workOut_100 rfl (lv_at hl 1 rfl) ?_
      refine va_get (D := G.1) (ci := 5) (v := .ref (a 16)) (C := RX5) (T := TX5) (N := 1) hx hb hts hinX5 hown hK hP 0 rfl rfl 0 (by decide) lk9 (fun _ h9 => h9) rfl dX5_workOut_101 ?_
      refine lv_iload hx hb dX5_workOut_104 (lv_at hl 0 rfl) ?_
      refine lv_aload_n hx hb dX5_workOut_106 rfl (lv_at hl 1 rfl) ?_
      refine va_get (D := G.1) (ci := 5) (v := .ref (a 16)) (C := RX5) (T := TX5) (N := 1) hx hb hts hinX5 hown hK hP 0 rfl rfl 0 (by decide) lk9 (fun _ h9 => h9) rfl dX5_workOut_107 ?_
      refine lv_iload hx hb dX5_workOut_110 (lv_at hl 0 rfl) ?_
      obtain ⟨hi, hf⟩ := ck_1 hf hne
      refine va_iald (f := (v 14)) hx hb hK hP 1 0 rfl rfl (ixb_1 hi) dX5_workOut_112 ?_
      refine lv_aload_n hx hb dX5_workOut_113 rfl (lv_at hl 1 rfl) ?_
      refine va_get (D := G.1) (ci := 5) (v := .ref (a 16)) (C := RX5) (T := TX5) (N := 1) hx hb hts hinX5 hown hK hP 0 rfl rfl 0 (by decide) lk9 (fun _ h9 => h9) rfl dX5_workOut_114 ?_
      refine lv_iload hx hb dX5_workOut_117 (lv_at hl 5 rfl) ?_
      obtain ⟨hi, hf⟩ := ck_1 hf hne
      refine va_iald (f := (v 14)) hx hb hK hP 1 0 rfl rfl (ixb_1 hi) dX5_workOut_119 ?_
      refine va_mmax (rest := [.int ((v 10) (Int32.toNatClampNeg x4)), .ref (a 16)]) hx hb (hml.trans hl.1.symm) hown lw5 lw6 lw7 lw8 (Nat.le_of_ble_eq_true rfl) (Nat.le_of_ble_eq_true rfl) (Nat.zero_le _) (Nat.zero_le _) dX5_workOut_120 ?_
      exact J123 k37 hk37 n v x2 x4 (if ((v 14) (Int32.toNatClampNeg ((v 10) (Int32.toNatClampNeg x4)))) < ((v 14) (Int32.toNatClampNeg x4)) then ((v 14) (Int32.toNatClampNeg x4)) else ((v 14) (Int32.toNatClampNeg ((v 10) (Int32.toNatClampNeg x4))))) ((v 10) (Int32.toNatClampNeg x4)) H locs ls hP hD hS (lv_sub hl [1, 2, 3, 4, 5] rfl) hf
  have J59 : ∀ (k37 : DV → Int32 → Int32 → Option (DV)) (hk37 : ∀ (v : DV) (x2 : Int32) (x4 : Int32) (H : Heap) (locs : List Loc) (ls : Array Slot), va_P G.1 vwCl (regC G.2 a v) H → va_D A (regC G.2 a v) → va_S A s.heap H locs → lv_has ls 6 [(0, .ref (a 15)), (1, .ref (a 0)), (2, .int x2), (3, .ref (a 7)), (4, .int x4)] → k37 v x2 x4 = res → W p l e (headSpec wsX5_workOut ({ frames := 2, cells := 0, slots := 0, locals := 62 } : Room)).room s m ([.ref (a 15), .ref (a 0), .int p2] : List Value).toArray below meth c H locs 0 0 (MQ below (va_Qv (fun (u : DV) => f_X5_workOut n0 v0 p2 = some u) (fun u t => atW G (regC G.2 a u) A t) A) ([.ref (a 15), .ref (a 0), .int p2] : List Value).toArray s 0 0 A) (F0 m 37 ls [])) (n : Nat) (v : DV) (x2 : Int32) (x4 : Int32) (H : Heap) (locs : List Loc) (ls : Array Slot), va_P G.1 vwCl (regC G.2 a v) H → va_D A (regC G.2 a v) → va_S A s.heap H locs → lv_has ls 6 [(0, .ref (a 15)), (1, .ref (a 0)), (2, .int x2), (3, .ref (a 7)), (4, .int x4)] → f_X5_workOut_J59 k37 n v x2 x4 = res → W p l e (headSpec wsX5_workOut ({ frames := 2, cells := 0, slots := 0, locals := 62 } : Room)).room s m ([.ref (a 15), .ref (a 0), .int p2] : List Value).toArray below meth c H locs 0 0 (MQ below (va_Qv (fun (u : DV) => f_X5_workOut n0 v0 p2 = some u) (fun u t => atW G (regC G.2 a u) A t) A) ([.ref (a 15), .ref (a 0), .int p2] : List Value).toArray s 0 0 A) (F0 m 59 ls []) := by
    intro k37 hk37 n v x2 x4 H locs ls hP hD hS hl hf
    rw [f_X5_workOut_J59] at hf
    refine lv_aload_n hx hb dX5_workOut_59 rfl (lv_at hl 0 rfl) ?_
    refine va_get (D := G.1) (ci := 5) (v := .ref (a 16)) (C := RX5) (T := TX5) (N := 1) hx hb hts hinX5 hown hK hP 0 rfl rfl 0 (by decide) lk9 (fun _ h9 => h9) rfl dX5_workOut_60 ?_
    refine lv_iload hx hb dX5_workOut_63 (lv_at hl 4 rfl) ?_
    refine lv_aload_n hx hb dX5_workOut_65 rfl (lv_at hl 1 rfl) ?_
    refine lv_iload hx hb dX5_workOut_66 (lv_at hl 4 rfl) ?_
    have hn := bd1_1 hf hne
    refine vp_callSi (W.runV (As := [.int x4]) (rest := [.int x4, .ref (a 16)]) ⟨hx, hb, hml, hown, hts⟩ (ok_X0_heatNow l G a v x4 hn) (cwV 1 hts gX5_workOut_X0_heatNow rfl rfl rfl (by decide +kernel) ⟨Nat.le_of_ble_eq_true rfl, Nat.le_of_ble_eq_true rfl⟩) ⟨pcR_blind, va_recv hK (hP.sub (ws' := (deskC G.2 a v)) [2, 3, 4, 5, 6, 7, 8, 9, 10, 11, 12, 13, 14, 15, 16] rfl) (ci := 0) (q0 := 0) rfl rfl, pcR_pre (hP.sub (ws' := (deskC G.2 a v)) [2, 3, 4, 5, 6, 7, 8, 9, 10, 11, 12, 13, 14, 15, 16] rfl) hamb⟩ rfl rfl hl.1 rfl (lv_room (Nat.le_of_ble_eq_true rfl)) dX5_workOut_68 ⟨Nat.zero_le _, Nat.zero_le _⟩) (fun r68 hw => ?_)
    have hf := bd1_2 hf hw
    refine lv_aload_n hx hb dX5_workOut_71 rfl (lv_at hl 0 rfl) ?_
    refine va_get (D := G.1) (ci := 5) (v := .ref (a 16)) (C := RX5) (T := TX5) (N := 1) hx hb hts hinX5 hown hK hP 0 rfl rfl 0 (by decide) lk9 (fun _ h9 => h9) rfl dX5_workOut_72 ?_
    refine lv_iload hx hb dX5_workOut_75 (lv_at hl 4 rfl) ?_
    obtain ⟨hi, hf⟩ := ck_1 hf hne
    refine va_iald (f := (v 14)) hx hb hK hP 1 0 rfl rfl (ixb_1 hi) dX5_workOut_77 ?_
    refine lv_iconst (v := 2) hx hb dX5_workOut_78 (by decide) ?_
    refine lv_idiv hx hb dX5_workOut_79 (by decide) ?_
    refine lv_iadd hx hb dX5_workOut_80 ?_
    obtain ⟨hi, hf⟩ := ck_1 hf hne
    refine va_iast (f := (v 14)) hx hb hK hP hD hS 1 0 rfl rfl (ixb_1 hi) dX5_workOut_81 (fun H locs hP hD hS => ?_)
    have hP : va_P G.1 vwCl (regC G.2 a (vs v 14 (upd (v 14) (Int32.toNatClampNeg x4) (r68 + (((v 14) (Int32.toNatClampNeg x4)) / 2))))) H := hP
    have hD : va_D A (regC G.2 a (vs v 14 (upd (v 14) (Int32.toNatClampNeg x4) (r68 + (((v 14) (Int32.toNatClampNeg x4)) / 2))))) := hD
    exact J82 k37 hk37 n (vs v 14 (upd (v 14) (Int32.toNatClampNeg x4) (r68 + (((v 14) (Int32.toNatClampNeg x4)) / 2)))) x2 x4 H locs ls hP hD hS (lv_sub hl [0, 1, 2, 3, 4] rfl) hf
  have L37 : ∀ (n : Nat) (v : DV) (x2 : Int32) (x4 : Int32) (H : Heap) (locs : List Loc) (ls : Array Slot), va_P G.1 vwCl (regC G.2 a v) H → va_D A (regC G.2 a v) → va_S A s.heap H locs → lv_has ls 6 [(0, .ref (a 15)), (1, .ref (a 0)), (2, .int x2), (3, .ref (a 7)), (4, .int x4)] → f_X5_workOut_L37 n v x2 x4 = res → W p l e (headSpec wsX5_workOut ({ frames := 2, cells := 0, slots := 0, locals := 62 } : Room)).room s m ([.ref (a 15), .ref (a 0), .int p2] : List Value).toArray below meth c H locs 0 0 (MQ below (va_Qv (fun (u : DV) => f_X5_workOut n0 v0 p2 = some u) (fun u t => atW G (regC G.2 a u) A t) A) ([.ref (a 15), .ref (a 0), .int p2] : List Value).toArray s 0 0 A) (F0 m 37 ls []) := by
    intro n
    induction n with
    | zero => intro v x2 x4 H locs ls hP hD hS hl hf; exact (none_1 hf hne).elim
    | succ n ih =>
      intro v x2 x4 H locs ls hP hD hS hl hf
      rw [f_X5_workOut_L37] at hf
      refine lv_iload hx hb dX5_workOut_37 (lv_at hl 4 rfl) ?_
      refine lv_if_lt (tgt := 130) hx hb dX5_workOut_39 (by decide) (fun c => ?_) (fun c => ?_)
      · have hf := it_1 hf c
        exact W.vret hx hb hr (fun t ht hW => ⟨⟨v, rfl, hf0.trans hf.symm, by rw [ht]; exact hP, hD⟩, hS.F ht⟩) hS.2.2 dX5_workOut_130
      · have hf := it_2 hf c
        refine lv_aload_n hx hb dX5_workOut_42 rfl (lv_at hl 3 rfl) ?_
        refine va_get (D := G.1) (ci := 3) (v := .ref (a 12)) (C := RX3) (T := TX3) (N := 8) hx hb hts hinX3 hown hK hP 9 rfl rfl 5 (by decide) lk31 (fun _ h9 => h9) rfl dX5_workOut_43 ?_
        refine lv_iload hx hb dX5_workOut_46 (lv_at hl 4 rfl) ?_
        obtain ⟨hi, hf⟩ := ck_1 hf hne
        refine va_iald (f := (v 11)) hx hb hK hP 14 0 rfl rfl (ixb_1 hi) dX5_workOut_48 ?_
        refine lv_iconst (v := 1) hx hb dX5_workOut_49 (by decide) ?_
        refine lv_icmp_eq (tgt := 59) hx hb dX5_workOut_50 (by decide) (fun c => ?_) (fun c => ?_)
        · have hf := it_1 hf c
          exact J59 (fun v x2 x4 => f_X5_workOut_L37 n v x2 x4) ih n v x2 x4 H locs ls hP hD hS (lv_sub hl [0, 1, 2, 3, 4] rfl) hf
        · have hf := it_2 hf c
          refine lv_iload hx hb dX5_workOut_53 (lv_at hl 4 rfl) ?_
          refine lv_iload_n hx hb dX5_workOut_55 rfl (lv_at hl 2 rfl) ?_
          refine lv_icmp_ne (tgt := 124) hx hb dX5_workOut_56 (by decide) (fun c => ?_) (fun c => ?_)
          · have hf := it_2 hf c
            refine lv_iinc (v := (x4 + (-1))) (lv' := [(4, .int (x4 + (-1))), (0, .ref (a 15)), (1, .ref (a 0)), (2, .int x2), (3, .ref (a 7))]) hx hb dX5_workOut_124 hl (k := 4) rfl rfl (by decide) rfl (fun ls hl => ?_)
            refine lv_goto (tgt := 37) hx hb dX5_workOut_127 (by decide) ?_
            exact ih v x2 (x4 + (-1)) H locs ls hP hD hS (lv_sub hl [1, 2, 3, 4, 0] rfl) hf
          · have hf := it_1 hf c
            exact J59 (fun v x2 x4 => f_X5_workOut_L37 n v x2 x4) ih n v x2 x4 H locs ls hP hD hS (lv_sub hl [0, 1, 2, 3, 4] rfl) hf
  have L8 : ∀ (n : Nat) (v : DV) (x2 : Int32) (x4 : Int32) (H : Heap) (locs : List Loc) (ls : Array Slot), va_P G.1 vwCl (regC G.2 a v) H → va_D A (regC G.2 a v) → va_S A s.heap H locs → lv_has ls 6 [(0, .ref (a 15)), (1, .ref (a 0)), (2, .int x2), (3, .ref (a 7)), (4, .int x4)] → f_X5_workOut_L8 n v x2 x4 = res → W p l e (headSpec wsX5_workOut ({ frames := 2, cells := 0, slots := 0, locals := 62 } : Room)).room s m ([.ref (a 15), .ref (a 0), .int p2] : List Value).toArray below meth c H locs 0 0 (MQ below (va_Qv (fun (u : DV) => f_X5_workOut n0 v0 p2 = some u) (fun u t => atW G (regC G.2 a u) A t) A) ([.ref (a 15), .ref (a 0), .int p2] : List Value).toArray s 0 0 A) (F0 m 8 ls []) := by
    intro n
    induction n with
    | zero => intro v x2 x4 H locs ls hP hD hS hl hf; exact (none_1 hf hne).elim
    | succ n ih =>
      intro v x2 x4 H locs ls hP hD hS hl hf
      rw [f_X5_workOut_L8] at hf
      refine lv_iload hx hb dX5_workOut_8 (lv_at hl 4 rfl) ?_
      refine lv_bipush (v := 30) hx hb dX5_workOut_10 (by decide) ?_
      refine lv_icmp_ge (tgt := 29) hx hb dX5_workOut_12 (by decide) (fun c => ?_) (fun c => ?_)
      · have hf := it_1 hf c
        refine lv_aload_n hx hb dX5_workOut_29 rfl (lv_at hl 3 rfl) ?_
        refine va_get (D := G.1) (ci := 3) (v := .int (v 1 0)) (C := RX3) (T := TX3) (N := 8) hx hb hts hinX3 hown hK hP 9 rfl rfl 0 (by decide) lk25 (fun _ h9 => h9) rfl dX5_workOut_30 ?_
        refine lv_iconst (v := 1) hx hb dX5_workOut_33 (by decide) ?_
        refine lv_isub hx hb dX5_workOut_34 ?_
        refine lv_istore (lv' := [(4, .int ((v 1 0) - 1)), (0, .ref (a 15)), (1, .ref (a 0)), (2, .int x2), (3, .ref (a 7))]) hx hb dX5_workOut_35 hl (by decide) rfl (fun ls hl => ?_)
        exact L37 n v x2 ((v 1 0) - 1) H locs ls hP hD hS (lv_sub hl [1, 2, 3, 4, 0] rfl) hf
      · have hf := it_2 hf c
        refine lv_aload_n hx hb dX5_workOut_15 rfl (lv_at hl 0 rfl) ?_
        refine va_get (D := G.1) (ci := 5) (v := .ref (a 16)) (C := RX5) (T := TX5) (N := 1) hx hb hts hinX5 hown hK hP 0 rfl rfl 0 (by decide) lk9 (fun _ h9 => h9) rfl dX5_workOut_16 ?_
        refine lv_iload hx hb dX5_workOut_19 (lv_at hl 4 rfl) ?_
        refine lv_iconst (v := 0) hx hb dX5_workOut_21 (by decide) ?_
        obtain ⟨hi, hf⟩ := ck_1 hf hne
        refine va_iast (f := (v 14)) hx hb hK hP hD hS 1 0 rfl rfl (ixb_1 hi) dX5_workOut_22 (fun H locs hP hD hS => ?_)
        have hP : va_P G.1 vwCl (regC G.2 a (vs v 14 (upd (v 14) (Int32.toNatClampNeg x4) 0))) H := hP
        have hD : va_D A (regC G.2 a (vs v 14 (upd (v 14) (Int32.toNatClampNeg x4) 0))) := hD
        refine lv_iinc (v := (x4 + 1)) (lv' := [(4, .int (x4 + 1)), (0, .ref (a 15)), (1, .ref (a 0)), (2, .int x2), (3, .ref (a 7))]) hx hb dX5_workOut_23 hl (k := 4) rfl rfl (by decide) rfl (fun ls hl => ?_)
        refine lv_goto (tgt := 8) hx hb dX5_workOut_26 (by decide) ?_
        exact ih (vs v 14 (upd (v 14) (Int32.toNatClampNeg x4) 0)) x2 (x4 + 1) H locs ls hP hD hS (lv_sub hl [1, 2, 3, 4, 0] rfl) hf
  refine lv_aload_n hx hb dX5_workOut_0 rfl (lv_at hl 1 rfl) ?_
  refine va_get (D := G.1) (ci := 0) (v := .ref (a 7)) (C := RX0) (T := TX0) (N := 4) hx hb hts hinX0 hown hK hP 2 rfl rfl 3 (by decide) lk19 (fun _ h9 => h9) rfl dX5_workOut_1 ?_
  refine lv_astore_n (lv' := [(3, .ref (a 7)), (0, .ref (a 15)), (1, .ref (a 0)), (2, .int p2)]) hx hb dX5_workOut_4 rfl hl (by decide) rfl (fun ls hl => ?_)
  refine lv_iconst (v := 0) hx hb dX5_workOut_5 (by decide) ?_
  refine lv_istore (lv' := [(4, .int 0), (3, .ref (a 7)), (0, .ref (a 15)), (1, .ref (a 0)), (2, .int p2)]) hx hb dX5_workOut_6 hl (by decide) rfl (fun ls hl => ?_)
  exact L8 n0 v0 p2 0 s.heap [] ls hP hD hS (lv_sub hl [2, 3, 4, 1, 0] rfl) hf
set_option maxHeartbeats 4000000 in
set_option maxRecDepth 100000 in
theorem ok_X5_ofSent (l : Launch) (G : Gt) (a : Nat → Nat) (sz : Nat) (n0 : Nat) (v0 : DV) (p2 : Int32) (hne : f_X5_ofSent n0 v0 p2 ≠ none) : Met l yX5_ofSent wsX5_ofSent ({ frames := 3, cells := 0, slots := 0, locals := 87 } : Room) (pcW G [.ref (a 15), .ref (a 0), .int p2] (regC G.2 a v0) sz) (va_Qi (fun r (u : DV) => f_X5_ofSent n0 v0 p2 = some (r, u)) (fun u t => atW G (regC G.2 a u) (va_A (regC G.2 a v0) sz) t) (va_A (regC G.2 a v0) sz)) 0 0 (va_A (regC G.2 a v0) sz) := by
  refine Met.ofW (cc := cX5_ofSent) (maxL := 3) (ret := (some .int)) (by decide) rfl ?_
  intro p e s m args below meth c s₁ B hml hv
  obtain ⟨rfl, hsz, hP, hD0, hamb⟩ := hv
  have hx := B.exec
  have hb := B.bytes
  have hr := B.returns
  have hts := atoms_spec (ws := wsX5_ofSent) B.pre
  have hown : s.vm.findClass RX5 = some m.cls := findClass_of_methodNamed B.named
  have hlocks := B.notSynchronized
  have hK := hamb.1
  subst hsz
  have hD := hD0.self (sz := s.heap.size)
  generalize hAe : va_A (regC G.2 a v0) s.heap.size = A at hD ⊢
  have hA : ∀ q : Nat, s.heap.size ≤ q → A q := fun q h => by rw [← hAe]; exact Or.inr h
  have hS : va_S A s.heap s.heap [] := va_S.rf
  obtain ⟨res, hf0⟩ : ∃ res, f_X5_ofSent n0 v0 p2 = res := ⟨_, rfl⟩
  have hne : res ≠ none := hf0 ▸ hne
  have hf := hf0
  rw [f_X5_ofSent] at hf
  have hinX5 : ∀ w ∈ u_ws RX5 TX5 1, w ∈ wsX5_ofSent := by decide +kernel
  have lk9 := hts (.fieldLink RX5 9 "MoodDrawers$Regrets" "regret" "[I") (by decide +kernel)
  have hl := lv_entry ([.ref (a 15), .ref (a 0), .int p2]) (n := 3) (Nat.le_of_ble_eq_true rfl)
  rw [lg_entry_eq]
  generalize (lg_sl ([.ref (a 15), .ref (a 0), .int p2]) ++ List.replicate (3 - (lg_sl ([.ref (a 15), .ref (a 0), .int p2])).length) Slot.unset).toArray = ls at hl ⊢
  have hl : lv_has ls 3 [(0, .ref (a 15)), (1, .ref (a 0)), (2, .int p2)] := hl
  refine lv_aload_n hx hb dX5_ofSent_0 rfl (lv_at hl 0 rfl) ?_
  refine lv_aload_n hx hb dX5_ofSent_1 rfl (lv_at hl 1 rfl) ?_
  refine lv_bipush (v := (-6)) hx hb dX5_ofSent_2 (by decide) ?_
  have hn := bd1_1 hf hne
  refine cwv (va_runV (As := [.ref (a 0), .int (-6)]) (rest := []) ⟨hx, hb, hml, hown, hts⟩ (ok_X5_workOut l G a s.heap.size n0 v0 (-6) hn) (cwV 2 hts gX5_ofSent_X5_workOut rfl rfl rfl (by decide +kernel) ⟨Nat.le_of_ble_eq_true rfl, Nat.le_of_ble_eq_true rfl⟩) ⟨pcW_blind, va_recv hK hP (ci := 5) (q0 := 0) rfl rfl, pcW_pre hP hD hamb⟩ rfl rfl hl.1 rfl (lv_room (Nat.le_of_ble_eq_true rfl)) dX5_ofSent_4 ⟨Nat.zero_le _, Nat.zero_le _⟩) (wr := []) hP hD hS hA [0, 1, 2, 3, 4, 5, 6, 7, 8, 9, 10, 11, 12, 13, 14, 15, 16] [] rfl rfl (by decide) (by decide) (fun v4 H locs hw hP hD hS => ?_)
  have hf := bd1_2 hf hw
  have hP : va_P G.1 vwCl (regC G.2 a v4) H := hP
  have hD : va_D A (regC G.2 a v4) := hD
  refine lv_aload_n hx hb dX5_ofSent_7 rfl (lv_at hl 0 rfl) ?_
  refine va_get (D := G.1) (ci := 5) (v := .ref (a 16)) (C := RX5) (T := TX5) (N := 1) hx hb hts hinX5 hown hK hP 0 rfl rfl 0 (by decide) lk9 (fun _ h9 => h9) rfl dX5_ofSent_8 ?_
  refine lv_iload_n hx hb dX5_ofSent_11 rfl (lv_at hl 2 rfl) ?_
  obtain ⟨hi, hf⟩ := ck_1 hf hne
  refine va_iald (f := (v4 14)) hx hb hK hP 1 0 rfl rfl (ixb_1 hi) dX5_ofSent_12 ?_
  exact W.iret (v := ((v4 14) (Int32.toNatClampNeg p2))) hx hb hr (fun t ht hW => ⟨⟨((v4 14) (Int32.toNatClampNeg p2)), v4, rfl, hf0.trans hf.symm, by rw [ht]; exact hP, hD⟩, hS.F ht⟩) hS.2.2 dX5_ofSent_13
set_option maxHeartbeats 4000000 in
set_option maxRecDepth 100000 in
theorem ok_X5_withSent (l : Launch) (G : Gt) (a : Nat → Nat) (sz : Nat) (n0 : Nat) (v0 : DV) (p2 : Int32) (p3 : Int32) (hne : f_X5_withSent n0 v0 p2 p3 ≠ none) : Met l yX5_withSent wsX5_withSent ({ frames := 3, cells := 0, slots := 0, locals := 87 } : Room) (pcW G [.ref (a 15), .ref (a 0), .int p2, .int p3] (regC G.2 a v0) sz) (va_Qi (fun r (u : DV) => f_X5_withSent n0 v0 p2 p3 = some (r, u)) (fun u t => atW G (regC G.2 a u) (va_A (regC G.2 a v0) sz) t) (va_A (regC G.2 a v0) sz)) 0 0 (va_A (regC G.2 a v0) sz) := by
  refine Met.ofW (cc := cX5_withSent) (maxL := 4) (ret := (some .int)) (by decide) rfl ?_
  intro p e s m args below meth c s₁ B hml hv
  obtain ⟨rfl, hsz, hP, hD0, hamb⟩ := hv
  have hx := B.exec
  have hb := B.bytes
  have hr := B.returns
  have hts := atoms_spec (ws := wsX5_withSent) B.pre
  have hown : s.vm.findClass RX5 = some m.cls := findClass_of_methodNamed B.named
  have hlocks := B.notSynchronized
  have hK := hamb.1
  subst hsz
  have hD := hD0.self (sz := s.heap.size)
  generalize hAe : va_A (regC G.2 a v0) s.heap.size = A at hD ⊢
  have hA : ∀ q : Nat, s.heap.size ≤ q → A q := fun q h => by rw [← hAe]; exact Or.inr h
  have hS : va_S A s.heap s.heap [] := va_S.rf
  obtain ⟨res, hf0⟩ : ∃ res, f_X5_withSent n0 v0 p2 p3 = res := ⟨_, rfl⟩
  have hne : res ≠ none := hf0 ▸ hne
  have hf := hf0
  rw [f_X5_withSent] at hf
  have hinX5 : ∀ w ∈ u_ws RX5 TX5 1, w ∈ wsX5_withSent := by decide +kernel
  have lk9 := hts (.fieldLink RX5 9 "MoodDrawers$Regrets" "regret" "[I") (by decide +kernel)
  have hl := lv_entry ([.ref (a 15), .ref (a 0), .int p2, .int p3]) (n := 4) (Nat.le_of_ble_eq_true rfl)
  rw [lg_entry_eq]
  generalize (lg_sl ([.ref (a 15), .ref (a 0), .int p2, .int p3]) ++ List.replicate (4 - (lg_sl ([.ref (a 15), .ref (a 0), .int p2, .int p3])).length) Slot.unset).toArray = ls at hl ⊢
  have hl : lv_has ls 4 [(0, .ref (a 15)), (1, .ref (a 0)), (2, .int p2), (3, .int p3)] := hl
  refine lv_aload_n hx hb dX5_withSent_0 rfl (lv_at hl 0 rfl) ?_
  refine lv_aload_n hx hb dX5_withSent_1 rfl (lv_at hl 1 rfl) ?_
  refine lv_iload_n hx hb dX5_withSent_2 rfl (lv_at hl 3 rfl) ?_
  have hn := bd1_1 hf hne
  refine cwv (va_runV (As := [.ref (a 0), .int p3]) (rest := []) ⟨hx, hb, hml, hown, hts⟩ (ok_X5_workOut l G a s.heap.size n0 v0 p3 hn) (cwV 2 hts gX5_withSent_X5_workOut rfl rfl rfl (by decide +kernel) ⟨Nat.le_of_ble_eq_true rfl, Nat.le_of_ble_eq_true rfl⟩) ⟨pcW_blind, va_recv hK hP (ci := 5) (q0 := 0) rfl rfl, pcW_pre hP hD hamb⟩ rfl rfl hl.1 rfl (lv_room (Nat.le_of_ble_eq_true rfl)) dX5_withSent_3 ⟨Nat.zero_le _, Nat.zero_le _⟩) (wr := []) hP hD hS hA [0, 1, 2, 3, 4, 5, 6, 7, 8, 9, 10, 11, 12, 13, 14, 15, 16] [] rfl rfl (by decide) (by decide) (fun v3 H locs hw hP hD hS => ?_)
  have hf := bd1_2 hf hw
  have hP : va_P G.1 vwCl (regC G.2 a v3) H := hP
  have hD : va_D A (regC G.2 a v3) := hD
  refine lv_aload_n hx hb dX5_withSent_6 rfl (lv_at hl 0 rfl) ?_
  refine va_get (D := G.1) (ci := 5) (v := .ref (a 16)) (C := RX5) (T := TX5) (N := 1) hx hb hts hinX5 hown hK hP 0 rfl rfl 0 (by decide) lk9 (fun _ h9 => h9) rfl dX5_withSent_7 ?_
  refine lv_iload_n hx hb dX5_withSent_10 rfl (lv_at hl 2 rfl) ?_
  obtain ⟨hi, hf⟩ := ck_1 hf hne
  refine va_iald (f := (v3 14)) hx hb hK hP 1 0 rfl rfl (ixb_1 hi) dX5_withSent_11 ?_
  exact W.iret (v := ((v3 14) (Int32.toNatClampNeg p2))) hx hb hr (fun t ht hW => ⟨⟨((v3 14) (Int32.toNatClampNeg p2)), v3, rfl, hf0.trans hf.symm, by rw [ht]; exact hP, hD⟩, hS.F ht⟩) hS.2.2 dX5_withSent_12
set_option maxHeartbeats 4000000 in
set_option maxRecDepth 100000 in
theorem ok_X5_greatest (l : Launch) (G : Gt) (a : Nat → Nat) (sz : Nat) (n0 : Nat) (v0 : DV) (hne : f_X5_greatest n0 v0 ≠ none) : Met l yX5_greatest wsX5_greatest ({ frames := 3, cells := 0, slots := 0, locals := 87 } : Room) (pcW G [.ref (a 15), .ref (a 0)] (regC G.2 a v0) sz) (va_Qi (fun r (u : DV) => f_X5_greatest n0 v0 = some (r, u)) (fun u t => atW G (regC G.2 a u) (va_A (regC G.2 a v0) sz) t) (va_A (regC G.2 a v0) sz)) 0 0 (va_A (regC G.2 a v0) sz) := by
  refine Met.ofW (cc := cX5_greatest) (maxL := 5) (ret := (some .int)) (by decide) rfl ?_
  intro p e s m args below meth c s₁ B hml hv
  obtain ⟨rfl, hsz, hP, hD0, hamb⟩ := hv
  have hx := B.exec
  have hb := B.bytes
  have hr := B.returns
  have hts := atoms_spec (ws := wsX5_greatest) B.pre
  have hown : s.vm.findClass RX5 = some m.cls := findClass_of_methodNamed B.named
  have hlocks := B.notSynchronized
  have hK := hamb.1
  subst hsz
  have hD := hD0.self (sz := s.heap.size)
  generalize hAe : va_A (regC G.2 a v0) s.heap.size = A at hD ⊢
  have hA : ∀ q : Nat, s.heap.size ≤ q → A q := fun q h => by rw [← hAe]; exact Or.inr h
  have hS : va_S A s.heap s.heap [] := va_S.rf
  obtain ⟨res, hf0⟩ : ∃ res, f_X5_greatest n0 v0 = res := ⟨_, rfl⟩
  have hne : res ≠ none := hf0 ▸ hne
  have hf := hf0
  rw [f_X5_greatest] at hf
  have hinX0 : ∀ w ∈ u_ws RX0 TX0 4, w ∈ wsX5_greatest := by decide +kernel
  have hinX3 : ∀ w ∈ u_ws RX3 TX3 8, w ∈ wsX5_greatest := by decide +kernel
  have hinX5 : ∀ w ∈ u_ws RX5 TX5 1, w ∈ wsX5_greatest := by decide +kernel
  have lk19 := hts (.fieldLink RX5 19 "MoodDrawers$Desk" "letters" "LMoodDrawers$Letters;") (by decide +kernel)
  have lk25 := hts (.fieldLink RX5 25 "MoodDrawers$Letters" "written" "I") (by decide +kernel)
  have lk31 := hts (.fieldLink RX5 31 "MoodDrawers$Letters" "how" "[I") (by decide +kernel)
  have lk9 := hts (.fieldLink RX5 9 "MoodDrawers$Regrets" "regret" "[I") (by decide +kernel)
  have hl := lv_entry ([.ref (a 15), .ref (a 0)]) (n := 5) (Nat.le_of_ble_eq_true rfl)
  rw [lg_entry_eq]
  generalize (lg_sl ([.ref (a 15), .ref (a 0)]) ++ List.replicate (5 - (lg_sl ([.ref (a 15), .ref (a 0)])).length) Slot.unset).toArray = ls at hl ⊢
  have hl : lv_has ls 5 [(0, .ref (a 15)), (1, .ref (a 0))] := hl
  have L15 : ∀ (n : Nat) (v : DV) (x2 : Int32) (x3 : Int32) (x4 : Int32) (H : Heap) (locs : List Loc) (ls : Array Slot), va_P G.1 vwCl (regC G.2 a v) H → va_D A (regC G.2 a v) → va_S A s.heap H locs → lv_has ls 5 [(0, .ref (a 15)), (1, .ref (a 0)), (2, .int x2), (3, .int x3), (4, .int x4)] → f_X5_greatest_L15 n v x2 x3 x4 = res → W p l e (headSpec wsX5_greatest ({ frames := 3, cells := 0, slots := 0, locals := 87 } : Room)).room s m ([.ref (a 15), .ref (a 0)] : List Value).toArray below meth c H locs 0 0 (MQ below (va_Qi (fun r (u : DV) => f_X5_greatest n0 v0 = some (r, u)) (fun u t => atW G (regC G.2 a u) A t) A) ([.ref (a 15), .ref (a 0)] : List Value).toArray s 0 0 A) (F0 m 15 ls []) := by
    intro n
    induction n with
    | zero => intro v x2 x3 x4 H locs ls hP hD hS hl hf; exact (none_1 hf hne).elim
    | succ n ih =>
      intro v x2 x3 x4 H locs ls hP hD hS hl hf
      rw [f_X5_greatest_L15] at hf
      refine lv_iload hx hb dX5_greatest_15 (lv_at hl 4 rfl) ?_
      refine lv_aload_n hx hb dX5_greatest_17 rfl (lv_at hl 1 rfl) ?_
      refine va_get (D := G.1) (ci := 0) (v := .ref (a 7)) (C := RX0) (T := TX0) (N := 4) hx hb hts hinX0 hown hK hP 2 rfl rfl 3 (by decide) lk19 (fun _ h9 => h9) rfl dX5_greatest_18 ?_
      refine va_get (D := G.1) (ci := 3) (v := .int (v 1 0)) (C := RX3) (T := TX3) (N := 8) hx hb hts hinX3 hown hK hP 9 rfl rfl 0 (by decide) lk25 (fun _ h9 => h9) rfl dX5_greatest_21 ?_
      refine lv_icmp_ge (tgt := 69) hx hb dX5_greatest_24 (by decide) (fun c => ?_) (fun c => ?_)
      · have hf := it_1 hf c
        refine lv_iload_n hx hb dX5_greatest_69 rfl (lv_at hl 2 rfl) ?_
        exact W.iret (v := x2) hx hb hr (fun t ht hW => ⟨⟨x2, v, rfl, hf0.trans hf.symm, by rw [ht]; exact hP, hD⟩, hS.F ht⟩) hS.2.2 dX5_greatest_70
      · have hf := it_2 hf c
        refine lv_aload_n hx hb dX5_greatest_27 rfl (lv_at hl 1 rfl) ?_
        refine va_get (D := G.1) (ci := 0) (v := .ref (a 7)) (C := RX0) (T := TX0) (N := 4) hx hb hts hinX0 hown hK hP 2 rfl rfl 3 (by decide) lk19 (fun _ h9 => h9) rfl dX5_greatest_28 ?_
        refine va_get (D := G.1) (ci := 3) (v := .ref (a 12)) (C := RX3) (T := TX3) (N := 8) hx hb hts hinX3 hown hK hP 9 rfl rfl 5 (by decide) lk31 (fun _ h9 => h9) rfl dX5_greatest_31 ?_
        refine lv_iload hx hb dX5_greatest_34 (lv_at hl 4 rfl) ?_
        obtain ⟨hi, hf⟩ := ck_1 hf hne
        refine va_iald (f := (v 11)) hx hb hK hP 14 0 rfl rfl (ixb_1 hi) dX5_greatest_36 ?_
        refine lv_iconst (v := 1) hx hb dX5_greatest_37 (by decide) ?_
        refine lv_icmp_ne (tgt := 63) hx hb dX5_greatest_38 (by decide) (fun c => ?_) (fun c => ?_)
        · have hf := it_2 hf c
          refine lv_iinc (v := (x4 + 1)) (lv' := [(4, .int (x4 + 1)), (0, .ref (a 15)), (1, .ref (a 0)), (2, .int x2), (3, .int x3)]) hx hb dX5_greatest_63 hl (k := 4) rfl rfl (by decide) rfl (fun ls hl => ?_)
          refine lv_goto (tgt := 15) hx hb dX5_greatest_66 (by decide) ?_
          exact ih v x2 x3 (x4 + 1) H locs ls hP hD hS (lv_sub hl [1, 2, 3, 4, 0] rfl) hf
        · have hf := it_1 hf c
          refine lv_aload_n hx hb dX5_greatest_41 rfl (lv_at hl 0 rfl) ?_
          refine va_get (D := G.1) (ci := 5) (v := .ref (a 16)) (C := RX5) (T := TX5) (N := 1) hx hb hts hinX5 hown hK hP 0 rfl rfl 0 (by decide) lk9 (fun _ h9 => h9) rfl dX5_greatest_42 ?_
          refine lv_iload hx hb dX5_greatest_45 (lv_at hl 4 rfl) ?_
          obtain ⟨hi, hf⟩ := ck_1 hf hne
          refine va_iald (f := (v 14)) hx hb hK hP 1 0 rfl rfl (ixb_1 hi) dX5_greatest_47 ?_
          refine lv_iload_n hx hb dX5_greatest_48 rfl (lv_at hl 3 rfl) ?_
          refine lv_icmp_le (tgt := 63) hx hb dX5_greatest_49 (by decide) (fun c => ?_) (fun c => ?_)
          · have hf := it_1 hf c
            refine lv_iinc (v := (x4 + 1)) (lv' := [(4, .int (x4 + 1)), (0, .ref (a 15)), (1, .ref (a 0)), (2, .int x2), (3, .int x3)]) hx hb dX5_greatest_63 hl (k := 4) rfl rfl (by decide) rfl (fun ls hl => ?_)
            refine lv_goto (tgt := 15) hx hb dX5_greatest_66 (by decide) ?_
            exact ih v x2 x3 (x4 + 1) H locs ls hP hD hS (lv_sub hl [1, 2, 3, 4, 0] rfl) hf
          · have hf := it_2 hf c
            refine lv_iload hx hb dX5_greatest_52 (lv_at hl 4 rfl) ?_
            refine lv_istore_n (lv' := [(2, .int x4), (0, .ref (a 15)), (1, .ref (a 0)), (3, .int x3), (4, .int x4)]) hx hb dX5_greatest_54 rfl hl (by decide) rfl (fun ls hl => ?_)
            refine lv_aload_n hx hb dX5_greatest_55 rfl (lv_at hl 1 rfl) ?_
            refine va_get (D := G.1) (ci := 5) (v := .ref (a 16)) (C := RX5) (T := TX5) (N := 1) hx hb hts hinX5 hown hK hP 0 rfl rfl 0 (by decide) lk9 (fun _ h9 => h9) rfl dX5_greatest_56 ?_
            refine lv_iload hx hb dX5_greatest_59 (lv_at hl 4 rfl) ?_
            obtain ⟨hi, hf⟩ := ck_1 hf hne
            refine va_iald (f := (v 14)) hx hb hK hP 1 0 rfl rfl (ixb_1 hi) dX5_greatest_61 ?_
            refine lv_istore_n (lv' := [(3, .int ((v 14) (Int32.toNatClampNeg x4))), (2, .int x4), (0, .ref (a 15)), (1, .ref (a 0)), (4, .int x4)]) hx hb dX5_greatest_62 rfl hl (by decide) rfl (fun ls hl => ?_)
            refine lv_iinc (v := (x4 + 1)) (lv' := [(4, .int (x4 + 1)), (3, .int ((v 14) (Int32.toNatClampNeg x4))), (2, .int x4), (0, .ref (a 15)), (1, .ref (a 0))]) hx hb dX5_greatest_63 hl (k := 4) rfl rfl (by decide) rfl (fun ls hl => ?_)
            refine lv_goto (tgt := 15) hx hb dX5_greatest_66 (by decide) ?_
            exact ih v x4 ((v 14) (Int32.toNatClampNeg x4)) (x4 + 1) H locs ls hP hD hS (lv_sub hl [3, 4, 2, 1, 0] rfl) hf
  refine lv_aload_n hx hb dX5_greatest_0 rfl (lv_at hl 0 rfl) ?_
  refine lv_aload_n hx hb dX5_greatest_1 rfl (lv_at hl 1 rfl) ?_
  refine lv_bipush (v := (-6)) hx hb dX5_greatest_2 (by decide) ?_
  have hn := bd1_1 hf hne
  refine cwv (va_runV (As := [.ref (a 0), .int (-6)]) (rest := []) ⟨hx, hb, hml, hown, hts⟩ (ok_X5_workOut l G a s.heap.size n0 v0 (-6) hn) (cwV 2 hts gX5_greatest_X5_workOut rfl rfl rfl (by decide +kernel) ⟨Nat.le_of_ble_eq_true rfl, Nat.le_of_ble_eq_true rfl⟩) ⟨pcW_blind, va_recv hK hP (ci := 5) (q0 := 0) rfl rfl, pcW_pre hP hD hamb⟩ rfl rfl hl.1 rfl (lv_room (Nat.le_of_ble_eq_true rfl)) dX5_greatest_4 ⟨Nat.zero_le _, Nat.zero_le _⟩) (wr := []) hP hD hS hA [0, 1, 2, 3, 4, 5, 6, 7, 8, 9, 10, 11, 12, 13, 14, 15, 16] [] rfl rfl (by decide) (by decide) (fun v4 H locs hw hP hD hS => ?_)
  have hf := bd1_2 hf hw
  have hP : va_P G.1 vwCl (regC G.2 a v4) H := hP
  have hD : va_D A (regC G.2 a v4) := hD
  refine lv_bipush (v := (-6)) hx hb dX5_greatest_7 (by decide) ?_
  refine lv_istore_n (lv' := [(2, .int (-6)), (0, .ref (a 15)), (1, .ref (a 0))]) hx hb dX5_greatest_9 rfl hl (by decide) rfl (fun ls hl => ?_)
  refine lv_iconst (v := (-1)) hx hb dX5_greatest_10 (by decide) ?_
  refine lv_istore_n (lv' := [(3, .int (-1)), (2, .int (-6)), (0, .ref (a 15)), (1, .ref (a 0))]) hx hb dX5_greatest_11 rfl hl (by decide) rfl (fun ls hl => ?_)
  refine lv_iconst (v := 0) hx hb dX5_greatest_12 (by decide) ?_
  refine lv_istore (lv' := [(4, .int 0), (3, .int (-1)), (2, .int (-6)), (0, .ref (a 15)), (1, .ref (a 0))]) hx hb dX5_greatest_13 hl (by decide) rfl (fun ls hl => ?_)
  exact L15 n0 v4 (-6) (-1) 0 H locs ls hP hD hS (lv_sub hl [3, 4, 2, 1, 0] rfl) hf
