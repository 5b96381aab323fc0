set_option maxHeartbeats 4000000 in
set_option maxRecDepth 100000 in
theorem ok_X6_ofLetter (l : Launch) (G : Gt) (a : Nat → Nat) (sz : Nat) (n0 : Nat) (v0 : DV) (p1 : Int32) (p2 : Int32) (hne : f_X6_ofLetter n0 v0 p1 p2 ≠ none) : Met l yX6_ofLetter wsX6_ofLetter ({ frames := 4, cells := 0, slots := 0, locals := 109 } : Room) (pcW G [.ref (a 21), .int p1, .int p2] (xcoreC G.2 a v0) sz) (va_Qi (fun r (u : DV) => f_X6_ofLetter n0 v0 p1 p2 = some (r, u)) (fun u t => atW G (xcoreC G.2 a u) (va_A (xcoreC G.2 a v0) sz) t) (va_A (xcoreC G.2 a v0) sz)) 0 0 (va_A (xcoreC G.2 a v0) sz) := by
  refine Met.ofW (cc := cX6_ofLetter) (maxL := 4) (ret := (some .int)) (by decide) rfl ?_
  intro p e s m args below meth c s₁ B hml hv
  obtain ⟨rfl, hsz, hP, hD0, hamb⟩ := hv
  have hx := B.exec
  have hb := B.bytes
  have hr := B.returns
  have hts := atoms_spec (ws := wsX6_ofLetter) B.pre
  have hown : s.vm.findClass RX6 = some m.cls := findClass_of_methodNamed B.named
  have hlocks := B.notSynchronized
  have hK := hamb.1
  subst hsz
  have hD := hD0.self (sz := s.heap.size)
  generalize hAe : va_A (xcoreC G.2 a v0) s.heap.size = A at hD ⊢
  have hA : ∀ q : Nat, s.heap.size ≤ q → A q := fun q h => by rw [← hAe]; exact Or.inr h
  have hS : va_S A s.heap s.heap [] := va_S.rf
  obtain ⟨res, hf0⟩ : ∃ res, f_X6_ofLetter n0 v0 p1 p2 = res := ⟨_, rfl⟩
  have hne : res ≠ none := hf0 ▸ hne
  have hf := hf0
  rw [f_X6_ofLetter] at hf
  have hinX0 : ∀ w ∈ u_ws RX0 TX0 4, w ∈ wsX6_ofLetter := by decide +kernel
  have hinX3 : ∀ w ∈ u_ws RX3 TX3 8, w ∈ wsX6_ofLetter := by decide +kernel
  have hinX6 : ∀ w ∈ u_ws RX6 TX6 5, w ∈ wsX6_ofLetter := by decide +kernel
  have lk10 := hts (.fieldLink RX6 10 "MoodDrawers" "desk" "LMoodDrawers$Desk;") (by decide +kernel)
  have lk75 := hts (.fieldLink RX6 75 "MoodDrawers$Desk" "letters" "LMoodDrawers$Letters;") (by decide +kernel)
  have lk85 := hts (.fieldLink RX6 85 "MoodDrawers$Letters" "mood" "[I") (by decide +kernel)
  have lk89 := hts (.fieldLink RX6 89 "MoodDrawers$Letters" "heat" "[I") (by decide +kernel)
  have lk95 := hts (.fieldLink RX6 95 "MoodDrawers$Letters" "writtenOn" "[I") (by decide +kernel)
  have lk98 := hts (.fieldLink RX6 98 "MoodDrawers$Letters" "how" "[I") (by decide +kernel)
  have lk101 := hts (.fieldLink RX6 101 "MoodDrawers$Letters" "sentOn" "[I") (by decide +kernel)
  have lk104 := hts (.fieldLink RX6 104 "MoodDrawers$Letters" "answered" "[I") (by decide +kernel)
  have lk19 := hts (.fieldLink RX6 19 "MoodDrawers" "regrets" "LMoodDrawers$Regrets;") (by decide +kernel)
  have hl := lv_entry ([.ref (a 21), .int p1, .int p2]) (n := 4) (Nat.le_of_ble_eq_true rfl)
  rw [lg_entry_eq]
  generalize (lg_sl ([.ref (a 21), .int p1, .int p2]) ++ List.replicate (4 - (lg_sl ([.ref (a 21), .int p1, .int p2])).length) Slot.unset).toArray = ls at hl ⊢
  have hl : lv_has ls 4 [(0, .ref (a 21)), (1, .int p1), (2, .int p2)] := hl
  refine lv_aload_n hx hb dX6_ofLetter_0 rfl (lv_at hl 0 rfl) ?_
  refine va_get (D := G.1) (ci := 6) (v := .ref (a 0)) (C := RX6) (T := TX6) (N := 5) hx hb hts hinX6 hown hK hP 0 rfl rfl 0 (by decide) lk10 (fun _ h9 => h9) rfl dX6_ofLetter_1 ?_
  refine va_get (D := G.1) (ci := 0) (v := .ref (a 7)) (C := RX0) (T := TX0) (N := 4) hx hb hts hinX0 hown hK hP 3 rfl rfl 3 (by decide) lk75 (fun _ h9 => h9) rfl dX6_ofLetter_4 ?_
  refine lv_astore_n (lv' := [(3, .ref (a 7)), (0, .ref (a 21)), (1, .int p1), (2, .int p2)]) hx hb dX6_ofLetter_7 rfl hl (by decide) rfl (fun ls hl => ?_)
  refine lv_aload_n hx hb dX6_ofLetter_8 rfl (lv_at hl 0 rfl) ?_
  refine lv_iload_n hx hb dX6_ofLetter_9 rfl (lv_at hl 2 rfl) ?_
  refine vp_callSi (W.runV (As := [.int p1]) (rest := []) ⟨hx, hb, hml, hown, hts⟩ (ok_X3_isLetter l G a v0 p1) (cwV 1 hts gX6_ofLetter_X3_isLetter rfl rfl rfl (by decide +kernel) ⟨Nat.le_of_ble_eq_true rfl, Nat.le_of_ble_eq_true rfl⟩) ⟨pcR_blind, va_recv hK (hP.sub (ws' := (lettersC G.2 a v0)) [10, 11, 12, 13, 14, 15, 16, 17] rfl) (ci := 3) (q0 := 0) rfl rfl, pcR_pre (hP.sub (ws' := (lettersC G.2 a v0)) [10, 11, 12, 13, 14, 15, 16, 17] rfl) hamb⟩ rfl rfl hl.1 rfl (lv_room (Nat.le_of_ble_eq_true rfl)) dX6_ofLetter_10 ⟨Nat.zero_le _, Nat.zero_le _⟩) (fun r10 hw => ?_)
  subst hw
  refine lv_if_ne (tgt := 18) hx hb dX6_ofLetter_13 (by decide) (fun c => ?_) (fun c => ?_)
  · have hf := it_2 hf c
    refine lv_iload_n hx hb dX6_ofLetter_18 rfl (lv_at hl 3 rfl) ?_
    by_cases c0 : p2 = 0
    · have hf := it_1 hf c0
      refine lv_tableIn (off := 53) (tgt := 72) hx hb dX6_ofLetter_19 (by rw [c0]; decide) (by rw [c0]; decide) (by rw [c0]; rfl) (by decide) ?_
      refine lv_aload_n hx hb dX6_ofLetter_72 rfl (lv_at hl 0 rfl) ?_
      refine va_get (D := G.1) (ci := 3) (v := .ref (a 8)) (C := RX3) (T := TX3) (N := 8) hx hb hts hinX3 hown hK hP 10 rfl rfl 1 (by decide) lk85 (fun _ h9 => h9) rfl dX6_ofLetter_73 ?_
      refine lv_iload_n hx hb dX6_ofLetter_76 rfl (lv_at hl 2 rfl) ?_
      obtain ⟨hi, hf⟩ := ck_1 hf hne
      refine va_iald (f := (v0 7)) hx hb hK hP 11 0 rfl rfl (ixb_1 hi) dX6_ofLetter_77 ?_
      exact W.iret (v := ((v0 7) (Int32.toNatClampNeg p1))) hx hb hr (fun t ht hW => ⟨⟨((v0 7) (Int32.toNatClampNeg p1)), v0, rfl, hf0.trans hf.symm, by rw [ht]; exact hP, hD⟩, hS.F ht⟩) hS.2.2 dX6_ofLetter_78
    have hf := it_2 hf c0
    by_cases c1 : p2 = 1
    · have hf := it_1 hf c1
      refine lv_tableIn (off := 60) (tgt := 79) hx hb dX6_ofLetter_19 (by rw [c1]; decide) (by rw [c1]; decide) (by rw [c1]; rfl) (by decide) ?_
      refine lv_aload_n hx hb dX6_ofLetter_79 rfl (lv_at hl 0 rfl) ?_
      refine va_get (D := G.1) (ci := 3) (v := .ref (a 9)) (C := RX3) (T := TX3) (N := 8) hx hb hts hinX3 hown hK hP 10 rfl rfl 2 (by decide) lk89 (fun _ h9 => h9) rfl dX6_ofLetter_80 ?_
      refine lv_iload_n hx hb dX6_ofLetter_83 rfl (lv_at hl 2 rfl) ?_
      obtain ⟨hi, hf⟩ := ck_1 hf hne
      refine va_iald (f := (v0 8)) hx hb hK hP 12 0 rfl rfl (ixb_1 hi) dX6_ofLetter_84 ?_
      exact W.iret (v := ((v0 8) (Int32.toNatClampNeg p1))) hx hb hr (fun t ht hW => ⟨⟨((v0 8) (Int32.toNatClampNeg p1)), v0, rfl, hf0.trans hf.symm, by rw [ht]; exact hP, hD⟩, hS.F ht⟩) hS.2.2 dX6_ofLetter_85
    have hf := it_2 hf c1
    by_cases c2 : p2 = 2
    · have hf := it_1 hf c2
      refine lv_tableIn (off := 67) (tgt := 86) hx hb dX6_ofLetter_19 (by rw [c2]; decide) (by rw [c2]; decide) (by rw [c2]; rfl) (by decide) ?_
      refine lv_aload_n hx hb dX6_ofLetter_86 rfl (lv_at hl 1 rfl) ?_
      refine va_get (D := G.1) (ci := 6) (v := .ref (a 0)) (C := RX6) (T := TX6) (N := 5) hx hb hts hinX6 hown hK hP 0 rfl rfl 0 (by decide) lk10 (fun _ h9 => h9) rfl dX6_ofLetter_87 ?_
      refine lv_iload_n hx hb dX6_ofLetter_90 rfl (lv_at hl 2 rfl) ?_
      have hn := bd1_1 hf hne
      refine vp_callSi (W.runV (As := [.int p1]) (rest := []) ⟨hx, hb, hml, hown, hts⟩ (ok_X0_heatNow l G a v0 p1 hn) (cwV 1 hts gX6_ofLetter_X0_heatNow rfl rfl rfl (by decide +kernel) ⟨Nat.le_of_ble_eq_true rfl, Nat.le_of_ble_eq_true rfl⟩) ⟨pcR_blind, va_recv hK (hP.sub (ws' := (deskC G.2 a v0)) [3, 4, 5, 6, 7, 8, 9, 10, 11, 12, 13, 14, 15, 16, 17] rfl) (ci := 0) (q0 := 0) rfl rfl, pcR_pre (hP.sub (ws' := (deskC G.2 a v0)) [3, 4, 5, 6, 7, 8, 9, 10, 11, 12, 13, 14, 15, 16, 17] rfl) hamb⟩ rfl rfl hl.1 rfl (lv_room (Nat.le_of_ble_eq_true rfl)) dX6_ofLetter_91 ⟨Nat.zero_le _, Nat.zero_le _⟩) (fun r91 hw => ?_)
      have hf := bd1_2 hf hw
      exact W.iret (v := r91) hx hb hr (fun t ht hW => ⟨⟨r91, v0, rfl, hf0.trans hf.symm, by rw [ht]; exact hP, hD⟩, hS.F ht⟩) hS.2.2 dX6_ofLetter_94
    have hf := it_2 hf c2
    by_cases c3 : p2 = 3
    · have hf := it_1 hf c3
      refine lv_tableIn (off := 76) (tgt := 95) hx hb dX6_ofLetter_19 (by rw [c3]; decide) (by rw [c3]; decide) (by rw [c3]; rfl) (by decide) ?_
      refine lv_aload_n hx hb dX6_ofLetter_95 rfl (lv_at hl 0 rfl) ?_
      refine va_get (D := G.1) (ci := 3) (v := .ref (a 10)) (C := RX3) (T := TX3) (N := 8) hx hb hts hinX3 hown hK hP 10 rfl rfl 3 (by decide) lk95 (fun _ h9 => h9) rfl dX6_ofLetter_96 ?_
      refine lv_iload_n hx hb dX6_ofLetter_99 rfl (lv_at hl 2 rfl) ?_
      obtain ⟨hi, hf⟩ := ck_1 hf hne
      refine va_iald (f := (v0 9)) hx hb hK hP 13 0 rfl rfl (ixb_1 hi) dX6_ofLetter_100 ?_
      exact W.iret (v := ((v0 9) (Int32.toNatClampNeg p1))) hx hb hr (fun t ht hW => ⟨⟨((v0 9) (Int32.toNatClampNeg p1)), v0, rfl, hf0.trans hf.symm, by rw [ht]; exact hP, hD⟩, hS.F ht⟩) hS.2.2 dX6_ofLetter_101
    have hf := it_2 hf c3
    by_cases c4 : p2 = 4
    · have hf := it_1 hf c4
      refine lv_tableIn (off := 83) (tgt := 102) hx hb dX6_ofLetter_19 (by rw [c4]; decide) (by rw [c4]; decide) (by rw [c4]; rfl) (by decide) ?_
      refine lv_aload_n hx hb dX6_ofLetter_102 rfl (lv_at hl 0 rfl) ?_
      refine va_get (D := G.1) (ci := 3) (v := .ref (a 12)) (C := RX3) (T := TX3) (N := 8) hx hb hts hinX3 hown hK hP 10 rfl rfl 5 (by decide) lk98 (fun _ h9 => h9) rfl dX6_ofLetter_103 ?_
      refine lv_iload_n hx hb dX6_ofLetter_106 rfl (lv_at hl 2 rfl) ?_
      obtain ⟨hi, hf⟩ := ck_1 hf hne
      refine va_iald (f := (v0 11)) hx hb hK hP 15 0 rfl rfl (ixb_1 hi) dX6_ofLetter_107 ?_
      exact W.iret (v := ((v0 11) (Int32.toNatClampNeg p1))) hx hb hr (fun t ht hW => ⟨⟨((v0 11) (Int32.toNatClampNeg p1)), v0, rfl, hf0.trans hf.symm, by rw [ht]; exact hP, hD⟩, hS.F ht⟩) hS.2.2 dX6_ofLetter_108
    have hf := it_2 hf c4
    by_cases c5 : p2 = 5
    · have hf := it_1 hf c5
      refine lv_tableIn (off := 90) (tgt := 109) hx hb dX6_ofLetter_19 (by rw [c5]; decide) (by rw [c5]; decide) (by rw [c5]; rfl) (by decide) ?_
      refine lv_aload_n hx hb dX6_ofLetter_109 rfl (lv_at hl 0 rfl) ?_
      refine va_get (D := G.1) (ci := 3) (v := .ref (a 13)) (C := RX3) (T := TX3) (N := 8) hx hb hts hinX3 hown hK hP 10 rfl rfl 6 (by decide) lk101 (fun _ h9 => h9) rfl dX6_ofLetter_110 ?_
      refine lv_iload_n hx hb dX6_ofLetter_113 rfl (lv_at hl 2 rfl) ?_
      obtain ⟨hi, hf⟩ := ck_1 hf hne
      refine va_iald (f := (v0 12)) hx hb hK hP 16 0 rfl rfl (ixb_1 hi) dX6_ofLetter_114 ?_
      exact W.iret (v := ((v0 12) (Int32.toNatClampNeg p1))) hx hb hr (fun t ht hW => ⟨⟨((v0 12) (Int32.toNatClampNeg p1)), v0, rfl, hf0.trans hf.symm, by rw [ht]; exact hP, hD⟩, hS.F ht⟩) hS.2.2 dX6_ofLetter_115
    have hf := it_2 hf c5
    by_cases c6 : p2 = 6
    · have hf := it_1 hf c6
      refine lv_tableIn (off := 97) (tgt := 116) hx hb dX6_ofLetter_19 (by rw [c6]; decide) (by rw [c6]; decide) (by rw [c6]; rfl) (by decide) ?_
      refine lv_aload_n hx hb dX6_ofLetter_116 rfl (lv_at hl 0 rfl) ?_
      refine va_get (D := G.1) (ci := 3) (v := .ref (a 11)) (C := RX3) (T := TX3) (N := 8) hx hb hts hinX3 hown hK hP 10 rfl rfl 4 (by decide) lk104 (fun _ h9 => h9) rfl dX6_ofLetter_117 ?_
      refine lv_iload_n hx hb dX6_ofLetter_120 rfl (lv_at hl 2 rfl) ?_
      obtain ⟨hi, hf⟩ := ck_1 hf hne
      refine va_iald (f := (v0 10)) hx hb hK hP 14 0 rfl rfl (ixb_1 hi) dX6_ofLetter_121 ?_
      exact W.iret (v := ((v0 10) (Int32.toNatClampNeg p1))) hx hb hr (fun t ht hW => ⟨⟨((v0 10) (Int32.toNatClampNeg p1)), v0, rfl, hf0.trans hf.symm, by rw [ht]; exact hP, hD⟩, hS.F ht⟩) hS.2.2 dX6_ofLetter_122
    have hf := it_2 hf c6
    by_cases c7 : p2 = 7
    · have hf := it_1 hf c7
      refine lv_tableIn (off := 104) (tgt := 123) hx hb dX6_ofLetter_19 (by rw [c7]; decide) (by rw [c7]; decide) (by rw [c7]; rfl) (by decide) ?_
      refine lv_aload_n hx hb dX6_ofLetter_123 rfl (lv_at hl 1 rfl) ?_
      refine va_get (D := G.1) (ci := 6) (v := .ref (a 15)) (C := RX6) (T := TX6) (N := 5) hx hb hts hinX6 hown hK hP 0 rfl rfl 1 (by decide) lk19 (fun _ h9 => h9) rfl dX6_ofLetter_124 ?_
      refine lv_aload_n hx hb dX6_ofLetter_127 rfl (lv_at hl 1 rfl) ?_
      refine va_get (D := G.1) (ci := 6) (v := .ref (a 0)) (C := RX6) (T := TX6) (N := 5) hx hb hts hinX6 hown hK hP 0 rfl rfl 0 (by decide) lk10 (fun _ h9 => h9) rfl dX6_ofLetter_128 ?_
      refine lv_iload_n hx hb dX6_ofLetter_131 rfl (lv_at hl 2 rfl) ?_
      have hn := bd2_1 hf hne
      refine cwi (va_runV (As := [.ref (a 0), .int p1]) (rest := []) ⟨hx, hb, hml, hown, hts⟩ (ok_X5_ofSent l G a s.heap.size n0 v0 p1 hn) (cwV 2 hts gX6_ofLetter_X5_ofSent rfl rfl rfl (by decide +kernel) ⟨Nat.le_of_ble_eq_true rfl, Nat.le_of_ble_eq_true rfl⟩) ⟨pcW_blind, va_recv hK (hP.sub (ws' := (regC G.2 a v0)) [1, 2, 3, 4, 5, 6, 7, 8, 9, 10, 11, 12, 13, 14, 15, 16, 17] rfl) (ci := 5) (q0 := 0) rfl rfl, pcW_pre (hP.sub (ws' := (regC G.2 a v0)) [1, 2, 3, 4, 5, 6, 7, 8, 9, 10, 11, 12, 13, 14, 15, 16, 17] rfl) (hD.sub (ws' := (regC G.2 a v0)) [1, 2, 3, 4, 5, 6, 7, 8, 9, 10, 11, 12, 13, 14, 15, 16, 17] (by decide) rfl) hamb⟩ rfl rfl hl.1 rfl (lv_room (Nat.le_of_ble_eq_true rfl)) dX6_ofLetter_132 ⟨Nat.zero_le _, Nat.zero_le _⟩) (wr := [(a 21, .inr (6, [.ref (a 0), .ref (a 15), .ref (a 17), .ref (a 19), .ref (a 22)])), (a 17, .inr (4, [.ref (a 18), .int (v0 16 0), .int (v0 17 0), .int (v0 18 0), .int (v0 19 0), .int (v0 20 0), .int (v0 21 0)])), (a 18, .inl (G.2 1, 80, .inl (v0 15))), (a 19, .inr (2, [.ref (a 20), .int (v0 22 0)]))]) hP hD hS hA [1, 2, 3, 4, 5, 6, 7, 8, 9, 10, 11, 12, 13, 14, 15, 16, 17] [0, 18, 19, 20] rfl rfl (by decide) (by decide) (fun r132 v132 H locs hw hP hD hS => ?_)
      have hf := bd2_2 hf hw
      have hP : va_P G.1 vwCl (xcoreC G.2 a (mx [0, 1, 2, 3, 4, 5, 6, 7, 8, 9, 10, 11, 12, 13, 14] v0 v132)) H := hP.sub [0, 4, 5, 6, 7, 8, 9, 10, 11, 12, 13, 14, 15, 16, 17, 18, 19, 20, 1, 2, 3] rfl
      have hD : va_D A (xcoreC G.2 a (mx [0, 1, 2, 3, 4, 5, 6, 7, 8, 9, 10, 11, 12, 13, 14] v0 v132)) := hD.sub [0, 4, 5, 6, 7, 8, 9, 10, 11, 12, 13, 14, 15, 16, 17, 18, 19, 20, 1, 2, 3] (by decide) rfl
      exact W.iret (v := r132) hx hb hr (fun t ht hW => ⟨⟨r132, (mx [0, 1, 2, 3, 4, 5, 6, 7, 8, 9, 10, 11, 12, 13, 14] v0 v132), rfl, hf0.trans hf.symm, by rw [ht]; exact hP, hD⟩, hS.F ht⟩) hS.2.2 dX6_ofLetter_135
    have hf := it_2 hf c7
    by_cases c8 : p2 = 8
    · have hf := it_1 hf c8
      refine lv_tableIn (off := 117) (tgt := 136) hx hb dX6_ofLetter_19 (by rw [c8]; decide) (by rw [c8]; decide) (by rw [c8]; rfl) (by decide) ?_
      refine lv_aload_n hx hb dX6_ofLetter_136 rfl (lv_at hl 0 rfl) ?_
      refine lv_iload_n hx hb dX6_ofLetter_137 rfl (lv_at hl 2 rfl) ?_
      have hn := bd1_1 hf hne
      refine vp_callSi (W.runV (As := [.int p1]) (rest := []) ⟨hx, hb, hml, hown, hts⟩ (ok_X3_answersTo l G a n0 v0 p1 hn) (cwV 1 hts gX6_ofLetter_X3_answersTo rfl rfl rfl (by decide +kernel) ⟨Nat.le_of_ble_eq_true rfl, Nat.le_of_ble_eq_true rfl⟩) ⟨pcR_blind, va_recv hK (hP.sub (ws' := (lettersC G.2 a v0)) [10, 11, 12, 13, 14, 15, 16, 17] rfl) (ci := 3) (q0 := 0) rfl rfl, pcR_pre (hP.sub (ws' := (lettersC G.2 a v0)) [10, 11, 12, 13, 14, 15, 16, 17] rfl) hamb⟩ rfl rfl hl.1 rfl (lv_room (Nat.le_of_ble_eq_true rfl)) dX6_ofLetter_138 ⟨Nat.zero_le _, Nat.zero_le _⟩) (fun r138 hw => ?_)
      have hf := bd1_2 hf hw
      exact W.iret (v := r138) hx hb hr (fun t ht hW => ⟨⟨r138, v0, rfl, hf0.trans hf.symm, by rw [ht]; exact hP, hD⟩, hS.F ht⟩) hS.2.2 dX6_ofLetter_141
    have hf := it_2 hf c8
    by_cases c9 : p2 = 9
    · have hf := it_1 hf c9
      refine lv_tableIn (off := 123) (tgt := 142) hx hb dX6_ofLetter_19 (by rw [c9]; decide) (by rw [c9]; decide) (by rw [c9]; rfl) (by decide) ?_
      refine lv_aload_n hx hb dX6_ofLetter_142 rfl (lv_at hl 0 rfl) ?_
      refine lv_iload_n hx hb dX6_ofLetter_143 rfl (lv_at hl 2 rfl) ?_
      have hn := bd1_1 hf hne
      refine vp_callSi (W.runV (As := [.int p1]) (rest := []) ⟨hx, hb, hml, hown, hts⟩ (ok_X3_depthOf l G a n0 v0 p1 hn) (cwV 1 hts gX6_ofLetter_X3_depthOf rfl rfl rfl (by decide +kernel) ⟨Nat.le_of_ble_eq_true rfl, Nat.le_of_ble_eq_true rfl⟩) ⟨pcR_blind, va_recv hK (hP.sub (ws' := (lettersC G.2 a v0)) [10, 11, 12, 13, 14, 15, 16, 17] rfl) (ci := 3) (q0 := 0) rfl rfl, pcR_pre (hP.sub (ws' := (lettersC G.2 a v0)) [10, 11, 12, 13, 14, 15, 16, 17] rfl) hamb⟩ rfl rfl hl.1 rfl (lv_room (Nat.le_of_ble_eq_true rfl)) dX6_ofLetter_144 ⟨Nat.zero_le _, Nat.zero_le _⟩) (fun r144 hw => ?_)
      have hf := bd1_2 hf hw
      exact W.iret (v := r144) hx hb hr (fun t ht hW => ⟨⟨r144, v0, rfl, hf0.trans hf.symm, by rw [ht]; exact hP, hD⟩, hS.F ht⟩) hS.2.2 dX6_ofLetter_147
    have hf := it_2 hf c9
    have e0 := ne_i c0 (k := 0) (by decide)
    have e1 := ne_i c1 (k := 1) (by decide)
    have e2 := ne_i c2 (k := 2) (by decide)
    have e3 := ne_i c3 (k := 3) (by decide)
    have e4 := ne_i c4 (k := 4) (by decide)
    have e5 := ne_i c5 (k := 5) (by decide)
    have e6 := ne_i c6 (k := 6) (by decide)
    have e7 := ne_i c7 (k := 7) (by decide)
    have e8 := ne_i c8 (k := 8) (by decide)
    have e9 := ne_i c9 (k := 9) (by decide)
    refine lv_tableOut (tgt := 148) hx hb dX6_ofLetter_19 (by omega) (by decide) ?_
    refine lv_bipush (v := (-2)) hx hb dX6_ofLetter_148 (by decide) ?_
    exact W.iret (v := (-2)) hx hb hr (fun t ht hW => ⟨⟨(-2), v0, rfl, hf0.trans hf.symm, by rw [ht]; exact hP, hD⟩, hS.F ht⟩) hS.2.2 dX6_ofLetter_150
  · have hf := it_1 hf c
    refine lv_iconst (v := (-1)) hx hb dX6_ofLetter_16 (by decide) ?_
    exact W.iret (v := (-1)) hx hb hr (fun t ht hW => ⟨⟨(-1), v0, rfl, hf0.trans hf.symm, by rw [ht]; exact hP, hD⟩, hS.F ht⟩) hS.2.2 dX6_ofLetter_17
set_option maxHeartbeats 4000000 in
set_option maxRecDepth 100000 in
theorem ok_X6_ofDrawer (l : Launch) (G : Gt) (a : Nat → Nat) (n0 : Nat) (v0 : DV) (p1 : Int32) (p2 : Int32) (hne : f_X6_ofDrawer n0 v0 p1 p2 ≠ none) : Met l yX6_ofDrawer wsX6_ofDrawer ({ frames := 3, cells := 0, slots := 0, locals := 85 } : Room) (pcR G [.ref (a 21), .int p1, .int p2] (xcoreC G.2 a v0)) (vp_Si (fun r => f_X6_ofDrawer n0 v0 p1 p2 = some r)) 0 0 (fun _ => False) := by
  refine Met.ofW (cc := cX6_ofDrawer) (maxL := 4) (ret := (some .int)) (by decide) rfl ?_
  intro p e s m args below meth c s₁ B hml hv
  obtain ⟨rfl, hP, hamb⟩ := hv
  have hx := B.exec
  have hb := B.bytes
  have hr := B.returns
  have hts := atoms_spec (ws := wsX6_ofDrawer) B.pre
  have hown : s.vm.findClass RX6 = some m.cls := findClass_of_methodNamed B.named
  have hlocks := B.notSynchronized
  have hK := hamb.1
  obtain ⟨res, hf0⟩ : ∃ res, f_X6_ofDrawer n0 v0 p1 p2 = res := ⟨_, rfl⟩
  have hne : res ≠ none := hf0 ▸ hne
  have hf := hf0
  rw [f_X6_ofDrawer] at hf
  have hinX0 : ∀ w ∈ u_ws RX0 TX0 4, w ∈ wsX6_ofDrawer := by decide +kernel
  have hinX1 : ∀ w ∈ u_ws RX1 TX1 4, w ∈ wsX6_ofDrawer := by decide +kernel
  have hinX6 : ∀ w ∈ u_ws RX6 TX6 5, w ∈ wsX6_ofDrawer := by decide +kernel
  have lk10 := hts (.fieldLink RX6 10 "MoodDrawers" "desk" "LMoodDrawers$Desk;") (by decide +kernel)
  have lk120 := hts (.fieldLink RX6 120 "MoodDrawers$Desk" "drawers" "LMoodDrawers$Drawers;") (by decide +kernel)
  have lk75 := hts (.fieldLink RX6 75 "MoodDrawers$Desk" "letters" "LMoodDrawers$Letters;") (by decide +kernel)
  have lk127 := hts (.fieldLink RX6 127 "MoodDrawers$Drawers" "locked" "[I") (by decide +kernel)
  have lk132 := hts (.fieldLink RX6 132 "MoodDrawers$Drawers" "restDays" "[I") (by decide +kernel)
  have lk135 := hts (.fieldLink RX6 135 "MoodDrawers$Drawers" "unlockHour" "[I") (by decide +kernel)
  have lk138 := hts (.fieldLink RX6 138 "MoodDrawers$Drawers" "lockHour" "[I") (by decide +kernel)
  have hl := lv_entry ([.ref (a 21), .int p1, .int p2]) (n := 4) (Nat.le_of_ble_eq_true rfl)
  rw [lg_entry_eq]
  generalize (lg_sl ([.ref (a 21), .int p1, .int p2]) ++ List.replicate (4 - (lg_sl ([.ref (a 21), .int p1, .int p2])).length) Slot.unset).toArray = ls at hl ⊢
  have hl : lv_has ls 4 [(0, .ref (a 21)), (1, .int p1), (2, .int p2)] := hl
  refine lv_iload_n hx hb dX6_ofDrawer_0 rfl (lv_at hl 1 rfl) ?_
  refine vp_callSi (W.runS (As := [.int p1]) (rest := []) ⟨hx, hb, hml, hown, hts⟩ (ok_X6_isMood l p1) (va_cwS 1 hts gX6_ofDrawer_X6_isMood rfl rfl rfl (by decide +kernel) ⟨Nat.le_of_ble_eq_true rfl, Nat.le_of_ble_eq_true rfl⟩) ⟨fun _ _ _ _ q => q, fun _ _ _ => ⟨rfl, trivial⟩⟩ rfl rfl hl.1 rfl (lv_room (Nat.le_of_ble_eq_true rfl)) dX6_ofDrawer_1 ⟨Nat.zero_le _, Nat.zero_le _⟩) (fun r1 hw => ?_)
  subst hw
  refine lv_if_ne (tgt := 9) hx hb dX6_ofDrawer_4 (by decide) (fun c => ?_) (fun c => ?_)
  · have hf := it_2 hf c
    refine lv_aload_n hx hb dX6_ofDrawer_9 rfl (lv_at hl 0 rfl) ?_
    refine va_get (D := G.1) (ci := 6) (v := .ref (a 0)) (C := RX6) (T := TX6) (N := 5) hx hb hts hinX6 hown hK hP 0 rfl rfl 0 (by decide) lk10 (fun _ h9 => h9) rfl dX6_ofDrawer_10 ?_
    refine va_get (D := G.1) (ci := 0) (v := .ref (a 2)) (C := RX0) (T := TX0) (N := 4) hx hb hts hinX0 hown hK hP 3 rfl rfl 2 (by decide) lk120 (fun _ h9 => h9) rfl dX6_ofDrawer_13 ?_
    refine lv_astore_n (lv' := [(3, .ref (a 2)), (0, .ref (a 21)), (1, .int p1), (2, .int p2)]) hx hb dX6_ofDrawer_16 rfl hl (by decide) rfl (fun ls hl => ?_)
    refine lv_iload_n hx hb dX6_ofDrawer_17 rfl (lv_at hl 3 rfl) ?_
    by_cases c0 : p2 = 0
    · have hf := it_1 hf c0
      refine lv_tableIn (off := 46) (tgt := 64) hx hb dX6_ofDrawer_18 (by rw [c0]; decide) (by rw [c0]; decide) (by rw [c0]; rfl) (by decide) ?_
      refine lv_aload_n hx hb dX6_ofDrawer_64 rfl (lv_at hl 1 rfl) ?_
      refine va_get (D := G.1) (ci := 6) (v := .ref (a 0)) (C := RX6) (T := TX6) (N := 5) hx hb hts hinX6 hown hK hP 0 rfl rfl 0 (by decide) lk10 (fun _ h9 => h9) rfl dX6_ofDrawer_65 ?_
      refine va_get (D := G.1) (ci := 0) (v := .ref (a 7)) (C := RX0) (T := TX0) (N := 4) hx hb hts hinX0 hown hK hP 3 rfl rfl 3 (by decide) lk75 (fun _ h9 => h9) rfl dX6_ofDrawer_68 ?_
      refine lv_iload_n hx hb dX6_ofDrawer_71 rfl (lv_at hl 2 rfl) ?_
      refine lv_iconst (v := 0) hx hb dX6_ofDrawer_72 (by decide) ?_
      have hn := bd1_1 hf hne
      refine vp_callSi (W.runV (As := [.int p1, .int 0]) (rest := []) ⟨hx, hb, hml, hown, hts⟩ (ok_X3_ofMood l G a n0 v0 p1 0 hn) (cwV 2 hts gX6_ofDrawer_X3_ofMood rfl rfl rfl (by decide +kernel) ⟨Nat.le_of_ble_eq_true rfl, Nat.le_of_ble_eq_true rfl⟩) ⟨pcR_blind, va_recv hK (hP.sub (ws' := (lettersC G.2 a v0)) [10, 11, 12, 13, 14, 15, 16, 17] rfl) (ci := 3) (q0 := 0) rfl rfl, pcR_pre (hP.sub (ws' := (lettersC G.2 a v0)) [10, 11, 12, 13, 14, 15, 16, 17] rfl) hamb⟩ rfl rfl hl.1 rfl (lv_room (Nat.le_of_ble_eq_true rfl)) dX6_ofDrawer_73 ⟨Nat.zero_le _, Nat.zero_le _⟩) (fun r73 hw => ?_)
      have hf := bd1_2 hf hw
      exact W.iret (v := r73) hx hb hr (fun t ht hW => ⟨r73, rfl, hf0.trans hf.symm, ht⟩) (fun _ hq => absurd hq List.not_mem_nil) dX6_ofDrawer_76
    have hf := it_2 hf c0
    by_cases c1 : p2 = 1
    · have hf := it_1 hf c1
      refine lv_tableIn (off := 59) (tgt := 77) hx hb dX6_ofDrawer_18 (by rw [c1]; decide) (by rw [c1]; decide) (by rw [c1]; rfl) (by decide) ?_
      refine lv_aload_n hx hb dX6_ofDrawer_77 rfl (lv_at hl 0 rfl) ?_
      refine va_get (D := G.1) (ci := 1) (v := .ref (a 4)) (C := RX1) (T := TX1) (N := 4) hx hb hts hinX1 hown hK hP 5 rfl rfl 1 (by decide) lk127 (fun _ h9 => h9) rfl dX6_ofDrawer_78 ?_
      refine lv_iload_n hx hb dX6_ofDrawer_81 rfl (lv_at hl 2 rfl) ?_
      obtain ⟨hi, hf⟩ := ck_1 hf hne
      refine va_iald (f := (v0 4)) hx hb hK hP 7 0 rfl rfl (ixb_1 hi) dX6_ofDrawer_82 ?_
      exact W.iret (v := ((v0 4) (Int32.toNatClampNeg p1))) hx hb hr (fun t ht hW => ⟨((v0 4) (Int32.toNatClampNeg p1)), rfl, hf0.trans hf.symm, ht⟩) (fun _ hq => absurd hq List.not_mem_nil) dX6_ofDrawer_83
    have hf := it_2 hf c1
    by_cases c2 : p2 = 2
    · have hf := it_1 hf c2
      refine lv_tableIn (off := 66) (tgt := 84) hx hb dX6_ofDrawer_18 (by rw [c2]; decide) (by rw [c2]; decide) (by rw [c2]; rfl) (by decide) ?_
      refine lv_aload_n hx hb dX6_ofDrawer_84 rfl (lv_at hl 0 rfl) ?_
      refine va_get (D := G.1) (ci := 1) (v := .ref (a 3)) (C := RX1) (T := TX1) (N := 4) hx hb hts hinX1 hown hK hP 5 rfl rfl 0 (by decide) lk132 (fun _ h9 => h9) rfl dX6_ofDrawer_85 ?_
      refine lv_iload_n hx hb dX6_ofDrawer_88 rfl (lv_at hl 2 rfl) ?_
      obtain ⟨hi, hf⟩ := ck_1 hf hne
      refine va_iald (f := (v0 3)) hx hb hK hP 6 0 rfl rfl (ixb_1 hi) dX6_ofDrawer_89 ?_
      exact W.iret (v := ((v0 3) (Int32.toNatClampNeg p1))) hx hb hr (fun t ht hW => ⟨((v0 3) (Int32.toNatClampNeg p1)), rfl, hf0.trans hf.symm, ht⟩) (fun _ hq => absurd hq List.not_mem_nil) dX6_ofDrawer_90
    have hf := it_2 hf c2
    by_cases c3 : p2 = 3
    · have hf := it_1 hf c3
      refine lv_tableIn (off := 73) (tgt := 91) hx hb dX6_ofDrawer_18 (by rw [c3]; decide) (by rw [c3]; decide) (by rw [c3]; rfl) (by decide) ?_
      refine lv_aload_n hx hb dX6_ofDrawer_91 rfl (lv_at hl 0 rfl) ?_
      refine va_get (D := G.1) (ci := 1) (v := .ref (a 5)) (C := RX1) (T := TX1) (N := 4) hx hb hts hinX1 hown hK hP 5 rfl rfl 2 (by decide) lk135 (fun _ h9 => h9) rfl dX6_ofDrawer_92 ?_
      refine lv_iload_n hx hb dX6_ofDrawer_95 rfl (lv_at hl 2 rfl) ?_
      obtain ⟨hi, hf⟩ := ck_1 hf hne
      refine va_iald (f := (v0 5)) hx hb hK hP 8 0 rfl rfl (ixb_1 hi) dX6_ofDrawer_96 ?_
      exact W.iret (v := ((v0 5) (Int32.toNatClampNeg p1))) hx hb hr (fun t ht hW => ⟨((v0 5) (Int32.toNatClampNeg p1)), rfl, hf0.trans hf.symm, ht⟩) (fun _ hq => absurd hq List.not_mem_nil) dX6_ofDrawer_97
    have hf := it_2 hf c3
    by_cases c4 : p2 = 4
    · have hf := it_1 hf c4
      refine lv_tableIn (off := 80) (tgt := 98) hx hb dX6_ofDrawer_18 (by rw [c4]; decide) (by rw [c4]; decide) (by rw [c4]; rfl) (by decide) ?_
      refine lv_aload_n hx hb dX6_ofDrawer_98 rfl (lv_at hl 0 rfl) ?_
      refine va_get (D := G.1) (ci := 1) (v := .ref (a 6)) (C := RX1) (T := TX1) (N := 4) hx hb hts hinX1 hown hK hP 5 rfl rfl 3 (by decide) lk138 (fun _ h9 => h9) rfl dX6_ofDrawer_99 ?_
      refine lv_iload_n hx hb dX6_ofDrawer_102 rfl (lv_at hl 2 rfl) ?_
      obtain ⟨hi, hf⟩ := ck_1 hf hne
      refine va_iald (f := (v0 6)) hx hb hK hP 9 0 rfl rfl (ixb_1 hi) dX6_ofDrawer_103 ?_
      exact W.iret (v := ((v0 6) (Int32.toNatClampNeg p1))) hx hb hr (fun t ht hW => ⟨((v0 6) (Int32.toNatClampNeg p1)), rfl, hf0.trans hf.symm, ht⟩) (fun _ hq => absurd hq List.not_mem_nil) dX6_ofDrawer_104
    have hf := it_2 hf c4
    by_cases c5 : p2 = 5
    · have hf := it_1 hf c5
      refine lv_tableIn (off := 87) (tgt := 105) hx hb dX6_ofDrawer_18 (by rw [c5]; decide) (by rw [c5]; decide) (by rw [c5]; rfl) (by decide) ?_
      refine lv_aload_n hx hb dX6_ofDrawer_105 rfl (lv_at hl 1 rfl) ?_
      refine va_get (D := G.1) (ci := 6) (v := .ref (a 0)) (C := RX6) (T := TX6) (N := 5) hx hb hts hinX6 hown hK hP 0 rfl rfl 0 (by decide) lk10 (fun _ h9 => h9) rfl dX6_ofDrawer_106 ?_
      refine lv_iload_n hx hb dX6_ofDrawer_109 rfl (lv_at hl 2 rfl) ?_
      have hn := bd1_1 hf hne
      refine vp_callSi (W.runV (As := [.int p1]) (rest := []) ⟨hx, hb, hml, hown, hts⟩ (ok_X0_heatInDrawer l G a n0 v0 p1 hn) (cwV 1 hts gX6_ofDrawer_X0_heatInDrawer rfl rfl rfl (by decide +kernel) ⟨Nat.le_of_ble_eq_true rfl, Nat.le_of_ble_eq_true rfl⟩) ⟨pcR_blind, va_recv hK (hP.sub (ws' := (deskC G.2 a v0)) [3, 4, 5, 6, 7, 8, 9, 10, 11, 12, 13, 14, 15, 16, 17] rfl) (ci := 0) (q0 := 0) rfl rfl, pcR_pre (hP.sub (ws' := (deskC G.2 a v0)) [3, 4, 5, 6, 7, 8, 9, 10, 11, 12, 13, 14, 15, 16, 17] rfl) hamb⟩ rfl rfl hl.1 rfl (lv_room (Nat.le_of_ble_eq_true rfl)) dX6_ofDrawer_110 ⟨Nat.zero_le _, Nat.zero_le _⟩) (fun r110 hw => ?_)
      have hf := bd1_2 hf hw
      exact W.iret (v := r110) hx hb hr (fun t ht hW => ⟨r110, rfl, hf0.trans hf.symm, ht⟩) (fun _ hq => absurd hq List.not_mem_nil) dX6_ofDrawer_113
    have hf := it_2 hf c5
    by_cases c6 : p2 = 6
    · have hf := it_1 hf c6
      refine lv_tableIn (off := 96) (tgt := 114) hx hb dX6_ofDrawer_18 (by rw [c6]; decide) (by rw [c6]; decide) (by rw [c6]; rfl) (by decide) ?_
      refine lv_aload_n hx hb dX6_ofDrawer_114 rfl (lv_at hl 1 rfl) ?_
      refine va_get (D := G.1) (ci := 6) (v := .ref (a 0)) (C := RX6) (T := TX6) (N := 5) hx hb hts hinX6 hown hK hP 0 rfl rfl 0 (by decide) lk10 (fun _ h9 => h9) rfl dX6_ofDrawer_115 ?_
      refine va_get (D := G.1) (ci := 0) (v := .ref (a 7)) (C := RX0) (T := TX0) (N := 4) hx hb hts hinX0 hown hK hP 3 rfl rfl 3 (by decide) lk75 (fun _ h9 => h9) rfl dX6_ofDrawer_118 ?_
      refine lv_iload_n hx hb dX6_ofDrawer_121 rfl (lv_at hl 2 rfl) ?_
      refine lv_iconst (v := 1) hx hb dX6_ofDrawer_122 (by decide) ?_
      have hn := bd1_1 hf hne
      refine vp_callSi (W.runV (As := [.int p1, .int 1]) (rest := []) ⟨hx, hb, hml, hown, hts⟩ (ok_X3_ofMood l G a n0 v0 p1 1 hn) (cwV 2 hts gX6_ofDrawer_X3_ofMood rfl rfl rfl (by decide +kernel) ⟨Nat.le_of_ble_eq_true rfl, Nat.le_of_ble_eq_true rfl⟩) ⟨pcR_blind, va_recv hK (hP.sub (ws' := (lettersC G.2 a v0)) [10, 11, 12, 13, 14, 15, 16, 17] rfl) (ci := 3) (q0 := 0) rfl rfl, pcR_pre (hP.sub (ws' := (lettersC G.2 a v0)) [10, 11, 12, 13, 14, 15, 16, 17] rfl) hamb⟩ rfl rfl hl.1 rfl (lv_room (Nat.le_of_ble_eq_true rfl)) dX6_ofDrawer_123 ⟨Nat.zero_le _, Nat.zero_le _⟩) (fun r123 hw => ?_)
      have hf := bd1_2 hf hw
      exact W.iret (v := r123) hx hb hr (fun t ht hW => ⟨r123, rfl, hf0.trans hf.symm, ht⟩) (fun _ hq => absurd hq List.not_mem_nil) dX6_ofDrawer_126
    have hf := it_2 hf c6
    by_cases c7 : p2 = 7
    · have hf := it_1 hf c7
      refine lv_tableIn (off := 109) (tgt := 127) hx hb dX6_ofDrawer_18 (by rw [c7]; decide) (by rw [c7]; decide) (by rw [c7]; rfl) (by decide) ?_
      refine lv_aload_n hx hb dX6_ofDrawer_127 rfl (lv_at hl 1 rfl) ?_
      refine va_get (D := G.1) (ci := 6) (v := .ref (a 0)) (C := RX6) (T := TX6) (N := 5) hx hb hts hinX6 hown hK hP 0 rfl rfl 0 (by decide) lk10 (fun _ h9 => h9) rfl dX6_ofDrawer_128 ?_
      refine va_get (D := G.1) (ci := 0) (v := .ref (a 7)) (C := RX0) (T := TX0) (N := 4) hx hb hts hinX0 hown hK hP 3 rfl rfl 3 (by decide) lk75 (fun _ h9 => h9) rfl dX6_ofDrawer_131 ?_
      refine lv_iload_n hx hb dX6_ofDrawer_134 rfl (lv_at hl 2 rfl) ?_
      refine lv_iconst (v := 2) hx hb dX6_ofDrawer_135 (by decide) ?_
      have hn := bd1_1 hf hne
      refine vp_callSi (W.runV (As := [.int p1, .int 2]) (rest := []) ⟨hx, hb, hml, hown, hts⟩ (ok_X3_ofMood l G a n0 v0 p1 2 hn) (cwV 2 hts gX6_ofDrawer_X3_ofMood rfl rfl rfl (by decide +kernel) ⟨Nat.le_of_ble_eq_true rfl, Nat.le_of_ble_eq_true rfl⟩) ⟨pcR_blind, va_recv hK (hP.sub (ws' := (lettersC G.2 a v0)) [10, 11, 12, 13, 14, 15, 16, 17] rfl) (ci := 3) (q0 := 0) rfl rfl, pcR_pre (hP.sub (ws' := (lettersC G.2 a v0)) [10, 11, 12, 13, 14, 15, 16, 17] rfl) hamb⟩ rfl rfl hl.1 rfl (lv_room (Nat.le_of_ble_eq_true rfl)) dX6_ofDrawer_136 ⟨Nat.zero_le _, Nat.zero_le _⟩) (fun r136 hw => ?_)
      have hf := bd1_2 hf hw
      exact W.iret (v := r136) hx hb hr (fun t ht hW => ⟨r136, rfl, hf0.trans hf.symm, ht⟩) (fun _ hq => absurd hq List.not_mem_nil) dX6_ofDrawer_139
    have hf := it_2 hf c7
    have e0 := ne_i c0 (k := 0) (by decide)
    have e1 := ne_i c1 (k := 1) (by decide)
    have e2 := ne_i c2 (k := 2) (by decide)
    have e3 := ne_i c3 (k := 3) (by decide)
    have e4 := ne_i c4 (k := 4) (by decide)
    have e5 := ne_i c5 (k := 5) (by decide)
    have e6 := ne_i c6 (k := 6) (by decide)
    have e7 := ne_i c7 (k := 7) (by decide)
    refine lv_tableOut (tgt := 140) hx hb dX6_ofDrawer_18 (by omega) (by decide) ?_
    refine lv_bipush (v := (-2)) hx hb dX6_ofDrawer_140 (by decide) ?_
    exact W.iret (v := (-2)) hx hb hr (fun t ht hW => ⟨(-2), rfl, hf0.trans hf.symm, ht⟩) (fun _ hq => absurd hq List.not_mem_nil) dX6_ofDrawer_142
  · have hf := it_1 hf c
    refine lv_iconst (v := (-1)) hx hb dX6_ofDrawer_7 (by decide) ?_
    exact W.iret (v := (-1)) hx hb hr (fun t ht hW => ⟨(-1), rfl, hf0.trans hf.symm, ht⟩) (fun _ hq => absurd hq List.not_mem_nil) dX6_ofDrawer_8
set_option maxHeartbeats 4000000 in
set_option maxRecDepth 100000 in
theorem ok_X6_letters (l : Launch) (G : Gt) (a : Nat → Nat) (n0 : Nat) (v0 : DV) (p1 : Int32) (hne : f_X6_letters n0 v0 p1 ≠ none) : Met l yX6_letters wsX6_letters ({ frames := 3, cells := 0, slots := 0, locals := 89 } : Room) (pcR G [.ref (a 21), .int p1] (xcoreC G.2 a v0)) (vp_Sl (fun r => f_X6_letters n0 v0 p1 = some r)) 0 0 (fun _ => False) := by
  refine Met.ofW (cc := cX6_letters) (maxL := 2) (ret := (some .long)) (by decide) rfl ?_
  intro p e s m args below meth c s₁ B hml hv
  obtain ⟨rfl, hP, hamb⟩ := hv
  have hx := B.exec
  have hb := B.bytes
  have hr := B.returns
  have hts := atoms_spec (ws := wsX6_letters) B.pre
  have hown : s.vm.findClass RX6 = some m.cls := findClass_of_methodNamed B.named
  have hlocks := B.notSynchronized
  have hK := hamb.1
  obtain ⟨res, hf0⟩ : ∃ res, f_X6_letters n0 v0 p1 = res := ⟨_, rfl⟩
  have hne : res ≠ none := hf0 ▸ hne
  have hf := hf0
  rw [f_X6_letters] at hf
  have hinX0 : ∀ w ∈ u_ws RX0 TX0 4, w ∈ wsX6_letters := by decide +kernel
  have hinX6 : ∀ w ∈ u_ws RX6 TX6 5, w ∈ wsX6_letters := by decide +kernel
  have lk10 := hts (.fieldLink RX6 10 "MoodDrawers" "desk" "LMoodDrawers$Desk;") (by decide +kernel)
  have lk75 := hts (.fieldLink RX6 75 "MoodDrawers$Desk" "letters" "LMoodDrawers$Letters;") (by decide +kernel)
  have lw2 := hts (.constantLong RX6 152 ((-2))) (by decide +kernel)
  have hl := lv_entry ([.ref (a 21), .int p1]) (n := 2) (Nat.le_of_ble_eq_true rfl)
  rw [lg_entry_eq]
  generalize (lg_sl ([.ref (a 21), .int p1]) ++ List.replicate (2 - (lg_sl ([.ref (a 21), .int p1])).length) Slot.unset).toArray = ls at hl ⊢
  have hl : lv_has ls 2 [(0, .ref (a 21)), (1, .int p1)] := hl
  refine lv_iload_n hx hb dX6_letters_0 rfl (lv_at hl 1 rfl) ?_
  by_cases c0 : p1 = 0
  · have hf := it_1 hf c0
    refine lv_tableIn (off := 31) (tgt := 32) hx hb dX6_letters_1 (by rw [c0]; decide) (by rw [c0]; decide) (by rw [c0]; rfl) (by decide) ?_
    refine lv_aload_n hx hb dX6_letters_32 rfl (lv_at hl 0 rfl) ?_
    refine va_get (D := G.1) (ci := 6) (v := .ref (a 0)) (C := RX6) (T := TX6) (N := 5) hx hb hts hinX6 hown hK hP 0 rfl rfl 0 (by decide) lk10 (fun _ h9 => h9) rfl dX6_letters_33 ?_
    refine va_get (D := G.1) (ci := 0) (v := .ref (a 7)) (C := RX0) (T := TX0) (N := 4) hx hb hts hinX0 hown hK hP 3 rfl rfl 3 (by decide) lk75 (fun _ h9 => h9) rfl dX6_letters_36 ?_
    refine lv_iconst (v := 0) hx hb dX6_letters_39 (by decide) ?_
    have hn := bd1_1 hf hne
    refine vp_callSl (W.runV (As := [.int 0]) (rest := []) ⟨hx, hb, hml, hown, hts⟩ (ok_X3_setOf l G a n0 v0 0 hn) (cwV 1 hts gX6_letters_X3_setOf rfl rfl rfl (by decide +kernel) ⟨Nat.le_of_ble_eq_true rfl, Nat.le_of_ble_eq_true rfl⟩) ⟨pcR_blind, va_recv hK (hP.sub (ws' := (lettersC G.2 a v0)) [10, 11, 12, 13, 14, 15, 16, 17] rfl) (ci := 3) (q0 := 0) rfl rfl, pcR_pre (hP.sub (ws' := (lettersC G.2 a v0)) [10, 11, 12, 13, 14, 15, 16, 17] rfl) hamb⟩ rfl rfl hl.1 rfl (lv_room (Nat.le_of_ble_eq_true rfl)) dX6_letters_40 ⟨Nat.zero_le _, Nat.zero_le _⟩) (fun r40 hw => ?_)
    have hf := bd1_2 hf hw
    exact W.lret (v := r40) hx hb hr (fun t ht hW => ⟨r40, rfl, hf0.trans hf.symm, ht⟩) (fun _ hq => absurd hq List.not_mem_nil) dX6_letters_43
  have hf := it_2 hf c0
  by_cases c1 : p1 = 1
  · have hf := it_1 hf c1
    refine lv_tableIn (off := 43) (tgt := 44) hx hb dX6_letters_1 (by rw [c1]; decide) (by rw [c1]; decide) (by rw [c1]; rfl) (by decide) ?_
    refine lv_aload_n hx hb dX6_letters_44 rfl (lv_at hl 0 rfl) ?_
    refine va_get (D := G.1) (ci := 6) (v := .ref (a 0)) (C := RX6) (T := TX6) (N := 5) hx hb hts hinX6 hown hK hP 0 rfl rfl 0 (by decide) lk10 (fun _ h9 => h9) rfl dX6_letters_45 ?_
    refine va_get (D := G.1) (ci := 0) (v := .ref (a 7)) (C := RX0) (T := TX0) (N := 4) hx hb hts hinX0 hown hK hP 3 rfl rfl 3 (by decide) lk75 (fun _ h9 => h9) rfl dX6_letters_48 ?_
    refine lv_iconst (v := 1) hx hb dX6_letters_51 (by decide) ?_
    have hn := bd1_1 hf hne
    refine vp_callSl (W.runV (As := [.int 1]) (rest := []) ⟨hx, hb, hml, hown, hts⟩ (ok_X3_setOf l G a n0 v0 1 hn) (cwV 1 hts gX6_letters_X3_setOf rfl rfl rfl (by decide +kernel) ⟨Nat.le_of_ble_eq_true rfl, Nat.le_of_ble_eq_true rfl⟩) ⟨pcR_blind, va_recv hK (hP.sub (ws' := (lettersC G.2 a v0)) [10, 11, 12, 13, 14, 15, 16, 17] rfl) (ci := 3) (q0 := 0) rfl rfl, pcR_pre (hP.sub (ws' := (lettersC G.2 a v0)) [10, 11, 12, 13, 14, 15, 16, 17] rfl) hamb⟩ rfl rfl hl.1 rfl (lv_room (Nat.le_of_ble_eq_true rfl)) dX6_letters_52 ⟨Nat.zero_le _, Nat.zero_le _⟩) (fun r52 hw => ?_)
    have hf := bd1_2 hf hw
    exact W.lret (v := r52) hx hb hr (fun t ht hW => ⟨r52, rfl, hf0.trans hf.symm, ht⟩) (fun _ hq => absurd hq List.not_mem_nil) dX6_letters_55
  have hf := it_2 hf c1
  by_cases c2 : p1 = 2
  · have hf := it_1 hf c2
    refine lv_tableIn (off := 55) (tgt := 56) hx hb dX6_letters_1 (by rw [c2]; decide) (by rw [c2]; decide) (by rw [c2]; rfl) (by decide) ?_
    refine lv_aload_n hx hb dX6_letters_56 rfl (lv_at hl 0 rfl) ?_
    refine va_get (D := G.1) (ci := 6) (v := .ref (a 0)) (C := RX6) (T := TX6) (N := 5) hx hb hts hinX6 hown hK hP 0 rfl rfl 0 (by decide) lk10 (fun _ h9 => h9) rfl dX6_letters_57 ?_
    refine va_get (D := G.1) (ci := 0) (v := .ref (a 7)) (C := RX0) (T := TX0) (N := 4) hx hb hts hinX0 hown hK hP 3 rfl rfl 3 (by decide) lk75 (fun _ h9 => h9) rfl dX6_letters_60 ?_
    refine lv_iconst (v := 2) hx hb dX6_letters_63 (by decide) ?_
    have hn := bd1_1 hf hne
    refine vp_callSl (W.runV (As := [.int 2]) (rest := []) ⟨hx, hb, hml, hown, hts⟩ (ok_X3_setOf l G a n0 v0 2 hn) (cwV 1 hts gX6_letters_X3_setOf rfl rfl rfl (by decide +kernel) ⟨Nat.le_of_ble_eq_true rfl, Nat.le_of_ble_eq_true rfl⟩) ⟨pcR_blind, va_recv hK (hP.sub (ws' := (lettersC G.2 a v0)) [10, 11, 12, 13, 14, 15, 16, 17] rfl) (ci := 3) (q0 := 0) rfl rfl, pcR_pre (hP.sub (ws' := (lettersC G.2 a v0)) [10, 11, 12, 13, 14, 15, 16, 17] rfl) hamb⟩ rfl rfl hl.1 rfl (lv_room (Nat.le_of_ble_eq_true rfl)) dX6_letters_64 ⟨Nat.zero_le _, Nat.zero_le _⟩) (fun r64 hw => ?_)
    have hf := bd1_2 hf hw
    exact W.lret (v := r64) hx hb hr (fun t ht hW => ⟨r64, rfl, hf0.trans hf.symm, ht⟩) (fun _ hq => absurd hq List.not_mem_nil) dX6_letters_67
  have hf := it_2 hf c2
  by_cases c3 : p1 = 3
  · have hf := it_1 hf c3
    refine lv_tableIn (off := 67) (tgt := 68) hx hb dX6_letters_1 (by rw [c3]; decide) (by rw [c3]; decide) (by rw [c3]; rfl) (by decide) ?_
    refine lv_aload_n hx hb dX6_letters_68 rfl (lv_at hl 0 rfl) ?_
    refine va_get (D := G.1) (ci := 6) (v := .ref (a 0)) (C := RX6) (T := TX6) (N := 5) hx hb hts hinX6 hown hK hP 0 rfl rfl 0 (by decide) lk10 (fun _ h9 => h9) rfl dX6_letters_69 ?_
    have hn := bd1_1 hf hne
    refine vp_callSl (W.runV (As := []) (rest := []) ⟨hx, hb, hml, hown, hts⟩ (ok_X0_setThatWouldGo l G a n0 v0 hn) (cwV 0 hts gX6_letters_X0_setThatWouldGo rfl rfl rfl (by decide +kernel) ⟨Nat.le_of_ble_eq_true rfl, Nat.le_of_ble_eq_true rfl⟩) ⟨pcR_blind, va_recv hK (hP.sub (ws' := (deskC G.2 a v0)) [3, 4, 5, 6, 7, 8, 9, 10, 11, 12, 13, 14, 15, 16, 17] rfl) (ci := 0) (q0 := 0) rfl rfl, pcR_pre (hP.sub (ws' := (deskC G.2 a v0)) [3, 4, 5, 6, 7, 8, 9, 10, 11, 12, 13, 14, 15, 16, 17] rfl) hamb⟩ rfl rfl hl.1 rfl (lv_room (Nat.le_of_ble_eq_true rfl)) dX6_letters_72 ⟨Nat.zero_le _, Nat.zero_le _⟩) (fun r72 hw => ?_)
    have hf := bd1_2 hf hw
    exact W.lret (v := r72) hx hb hr (fun t ht hW => ⟨r72, rfl, hf0.trans hf.symm, ht⟩) (fun _ hq => absurd hq List.not_mem_nil) dX6_letters_75
  have hf := it_2 hf c3
  have e0 := ne_i c0 (k := 0) (by decide)
  have e1 := ne_i c1 (k := 1) (by decide)
  have e2 := ne_i c2 (k := 2) (by decide)
  have e3 := ne_i c3 (k := 3) (by decide)
  refine lv_tableOut (tgt := 76) hx hb dX6_letters_1 (by omega) (by decide) ?_
  refine lv_ldc2 (v := (-2)) hx hb hown lw2 dX6_letters_76 ?_
  exact W.lret (v := (-2)) hx hb hr (fun t ht hW => ⟨(-2), rfl, hf0.trans hf.symm, ht⟩) (fun _ hq => absurd hq List.not_mem_nil) dX6_letters_79
set_option maxHeartbeats 4000000 in
set_option maxRecDepth 100000 in
theorem ok_X6_count (l : Launch) (G : Gt) (a : Nat → Nat) (n0 : Nat) (v0 : DV) (p1 : Int32) (hne : f_X6_count n0 v0 p1 ≠ none) : Met l yX6_count wsX6_count ({ frames := 1, cells := 0, slots := 0, locals := 24 } : Room) (pcR G [.ref (a 21), .int p1] (xcoreC G.2 a v0)) (vp_Si (fun r => f_X6_count n0 v0 p1 = some r)) 0 0 (fun _ => False) := by
  refine Met.ofW (cc := cX6_count) (maxL := 2) (ret := (some .int)) (by decide) rfl ?_
  intro p e s m args below meth c s₁ B hml hv
  obtain ⟨rfl, hP, hamb⟩ := hv
  have hx := B.exec
  have hb := B.bytes
  have hr := B.returns
  have hts := atoms_spec (ws := wsX6_count) B.pre
  have hown : s.vm.findClass RX6 = some m.cls := findClass_of_methodNamed B.named
  have hlocks := B.notSynchronized
  have hK := hamb.1
  obtain ⟨res, hf0⟩ : ∃ res, f_X6_count n0 v0 p1 = res := ⟨_, rfl⟩
  have hne : res ≠ none := hf0 ▸ hne
  have hf := hf0
  rw [f_X6_count] at hf
  have hinX0 : ∀ w ∈ u_ws RX0 TX0 4, w ∈ wsX6_count := by decide +kernel
  have hinX2 : ∀ w ∈ u_ws RX2 TX2 2, w ∈ wsX6_count := by decide +kernel
  have hinX3 : ∀ w ∈ u_ws RX3 TX3 8, w ∈ wsX6_count := by decide +kernel
  have hinX4 : ∀ w ∈ u_ws RX4 TX4 7, w ∈ wsX6_count := by decide +kernel
  have hinX6 : ∀ w ∈ u_ws RX6 TX6 5, w ∈ wsX6_count := by decide +kernel
  have lk10 := hts (.fieldLink RX6 10 "MoodDrawers" "desk" "LMoodDrawers$Desk;") (by decide +kernel)
  have lk75 := hts (.fieldLink RX6 75 "MoodDrawers$Desk" "letters" "LMoodDrawers$Letters;") (by decide +kernel)
  have lk161 := hts (.fieldLink RX6 161 "MoodDrawers$Letters" "written" "I") (by decide +kernel)
  have lk120 := hts (.fieldLink RX6 120 "MoodDrawers$Desk" "drawers" "LMoodDrawers$Drawers;") (by decide +kernel)
  have lk174 := hts (.fieldLink RX6 174 "MoodDrawers$Desk" "settings" "[I") (by decide +kernel)
  have lk26 := hts (.fieldLink RX6 26 "MoodDrawers" "pad" "LMoodDrawers$Pad;") (by decide +kernel)
  have lk177 := hts (.fieldLink RX6 177 "MoodDrawers$Pad" "length" "I") (by decide +kernel)
  have lk33 := hts (.fieldLink RX6 33 "MoodDrawers" "history" "LMoodDrawers$History;") (by decide +kernel)
  have lk180 := hts (.fieldLink RX6 180 "MoodDrawers$History" "kept" "I") (by decide +kernel)
  have hl := lv_entry ([.ref (a 21), .int p1]) (n := 2) (Nat.le_of_ble_eq_true rfl)
  rw [lg_entry_eq]
  generalize (lg_sl ([.ref (a 21), .int p1]) ++ List.replicate (2 - (lg_sl ([.ref (a 21), .int p1])).length) Slot.unset).toArray = ls at hl ⊢
  have hl : lv_has ls 2 [(0, .ref (a 21)), (1, .int p1)] := hl
  refine lv_iload_n hx hb dX6_count_0 rfl (lv_at hl 1 rfl) ?_
  by_cases c0 : p1 = 0
  · have hf := it_1 hf c0
    refine lv_tableIn (off := 63) (tgt := 64) hx hb dX6_count_1 (by rw [c0]; decide) (by rw [c0]; decide) (by rw [c0]; rfl) (by decide) ?_
    refine lv_aload_n hx hb dX6_count_64 rfl (lv_at hl 0 rfl) ?_
    refine va_get (D := G.1) (ci := 6) (v := .ref (a 0)) (C := RX6) (T := TX6) (N := 5) hx hb hts hinX6 hown hK hP 0 rfl rfl 0 (by decide) lk10 (fun _ h9 => h9) rfl dX6_count_65 ?_
    refine vp_callSi (W.runV (As := []) (rest := []) ⟨hx, hb, hml, hown, hts⟩ (ok_X0_today l G a v0) (cwV 0 hts gX6_count_X0_today rfl rfl rfl (by decide +kernel) ⟨Nat.le_of_ble_eq_true rfl, Nat.le_of_ble_eq_true rfl⟩) ⟨pcR_blind, va_recv hK (hP.sub (ws' := (deskC G.2 a v0)) [3, 4, 5, 6, 7, 8, 9, 10, 11, 12, 13, 14, 15, 16, 17] rfl) (ci := 0) (q0 := 0) rfl rfl, pcR_pre (hP.sub (ws' := (deskC G.2 a v0)) [3, 4, 5, 6, 7, 8, 9, 10, 11, 12, 13, 14, 15, 16, 17] rfl) hamb⟩ rfl rfl hl.1 rfl (lv_room (Nat.le_of_ble_eq_true rfl)) dX6_count_68 ⟨Nat.zero_le _, Nat.zero_le _⟩) (fun r68 hw => ?_)
    subst hw
    exact W.iret (v := (f_X0_today v0)) hx hb hr (fun t ht hW => ⟨(f_X0_today v0), rfl, hf0.trans hf.symm, ht⟩) (fun _ hq => absurd hq List.not_mem_nil) dX6_count_71
  have hf := it_2 hf c0
  by_cases c1 : p1 = 1
  · have hf := it_1 hf c1
    refine lv_tableIn (off := 71) (tgt := 72) hx hb dX6_count_1 (by rw [c1]; decide) (by rw [c1]; decide) (by rw [c1]; rfl) (by decide) ?_
    refine lv_aload_n hx hb dX6_count_72 rfl (lv_at hl 0 rfl) ?_
    refine va_get (D := G.1) (ci := 6) (v := .ref (a 0)) (C := RX6) (T := TX6) (N := 5) hx hb hts hinX6 hown hK hP 0 rfl rfl 0 (by decide) lk10 (fun _ h9 => h9) rfl dX6_count_73 ?_
    refine vp_callSi (W.runV (As := []) (rest := []) ⟨hx, hb, hml, hown, hts⟩ (ok_X0_hourOfDay l G a v0) (cwV 0 hts gX6_count_X0_hourOfDay rfl rfl rfl (by decide +kernel) ⟨Nat.le_of_ble_eq_true rfl, Nat.le_of_ble_eq_true rfl⟩) ⟨pcR_blind, va_recv hK (hP.sub (ws' := (deskC G.2 a v0)) [3, 4, 5, 6, 7, 8, 9, 10, 11, 12, 13, 14, 15, 16, 17] rfl) (ci := 0) (q0 := 0) rfl rfl, pcR_pre (hP.sub (ws' := (deskC G.2 a v0)) [3, 4, 5, 6, 7, 8, 9, 10, 11, 12, 13, 14, 15, 16, 17] rfl) hamb⟩ rfl rfl hl.1 rfl (lv_room (Nat.le_of_ble_eq_true rfl)) dX6_count_76 ⟨Nat.zero_le _, Nat.zero_le _⟩) (fun r76 hw => ?_)
    subst hw
    exact W.iret (v := (f_X0_hourOfDay v0)) hx hb hr (fun t ht hW => ⟨(f_X0_hourOfDay v0), rfl, hf0.trans hf.symm, ht⟩) (fun _ hq => absurd hq List.not_mem_nil) dX6_count_79
  have hf := it_2 hf c1
  by_cases c2 : p1 = 2
  · have hf := it_1 hf c2
    refine lv_tableIn (off := 79) (tgt := 80) hx hb dX6_count_1 (by rw [c2]; decide) (by rw [c2]; decide) (by rw [c2]; rfl) (by decide) ?_
    refine lv_aload_n hx hb dX6_count_80 rfl (lv_at hl 0 rfl) ?_
    refine va_get (D := G.1) (ci := 6) (v := .ref (a 0)) (C := RX6) (T := TX6) (N := 5) hx hb hts hinX6 hown hK hP 0 rfl rfl 0 (by decide) lk10 (fun _ h9 => h9) rfl dX6_count_81 ?_
    refine va_get (D := G.1) (ci := 0) (v := .ref (a 7)) (C := RX0) (T := TX0) (N := 4) hx hb hts hinX0 hown hK hP 3 rfl rfl 3 (by decide) lk75 (fun _ h9 => h9) rfl dX6_count_84 ?_
    refine va_get (D := G.1) (ci := 3) (v := .int (v0 1 0)) (C := RX3) (T := TX3) (N := 8) hx hb hts hinX3 hown hK hP 10 rfl rfl 0 (by decide) lk161 (fun _ h9 => h9) rfl dX6_count_87 ?_
    exact W.iret (v := (v0 1 0)) hx hb hr (fun t ht hW => ⟨(v0 1 0), rfl, hf0.trans hf.symm, ht⟩) (fun _ hq => absurd hq List.not_mem_nil) dX6_count_90
  have hf := it_2 hf c2
  by_cases c3 : p1 = 3
  · have hf := it_1 hf c3
    refine lv_tableIn (off := 90) (tgt := 91) hx hb dX6_count_1 (by rw [c3]; decide) (by rw [c3]; decide) (by rw [c3]; rfl) (by decide) ?_
    refine lv_aload_n hx hb dX6_count_91 rfl (lv_at hl 0 rfl) ?_
    refine va_get (D := G.1) (ci := 6) (v := .ref (a 0)) (C := RX6) (T := TX6) (N := 5) hx hb hts hinX6 hown hK hP 0 rfl rfl 0 (by decide) lk10 (fun _ h9 => h9) rfl dX6_count_92 ?_
    refine va_get (D := G.1) (ci := 0) (v := .ref (a 7)) (C := RX0) (T := TX0) (N := 4) hx hb hts hinX0 hown hK hP 3 rfl rfl 3 (by decide) lk75 (fun _ h9 => h9) rfl dX6_count_95 ?_
    refine lv_iconst (v := 0) hx hb dX6_count_98 (by decide) ?_
    have hn := bd1_1 hf hne
    refine vp_callSl (W.runV (As := [.int 0]) (rest := []) ⟨hx, hb, hml, hown, hts⟩ (ok_X3_setOf l G a n0 v0 0 hn) (cwV 1 hts gX6_count_X3_setOf rfl rfl rfl (by decide +kernel) ⟨Nat.le_of_ble_eq_true rfl, Nat.le_of_ble_eq_true rfl⟩) ⟨pcR_blind, va_recv hK (hP.sub (ws' := (lettersC G.2 a v0)) [10, 11, 12, 13, 14, 15, 16, 17] rfl) (ci := 3) (q0 := 0) rfl rfl, pcR_pre (hP.sub (ws' := (lettersC G.2 a v0)) [10, 11, 12, 13, 14, 15, 16, 17] rfl) hamb⟩ rfl rfl hl.1 rfl (lv_room (Nat.le_of_ble_eq_true rfl)) dX6_count_99 ⟨Nat.zero_le _, Nat.zero_le _⟩) (fun r99 hw => ?_)
    have hf := bd1_2 hf hw
    refine vp_callSi (W.runS (As := [.long r99]) (rest := []) ⟨hx, hb, hml, hown, hts⟩ (ok_J13_bitCount_95d88 l r99) (va_cwS 1 hts gX6_count_J13_bitCount_95d88 rfl rfl rfl (by decide +kernel) ⟨Nat.le_of_ble_eq_true rfl, Nat.le_of_ble_eq_true rfl⟩) ⟨fun _ _ _ _ q => q, fun _ _ _ => ⟨rfl, trivial⟩⟩ rfl rfl hl.1 rfl (lv_room (Nat.le_of_ble_eq_true rfl)) dX6_count_102 ⟨Nat.zero_le _, Nat.zero_le _⟩) (fun r102 hw => ?_)
    subst hw
    exact W.iret (v := (f_J13_bitCount_95d88 r99)) hx hb hr (fun t ht hW => ⟨(f_J13_bitCount_95d88 r99), rfl, hf0.trans hf.symm, ht⟩) (fun _ hq => absurd hq List.not_mem_nil) dX6_count_105
  have hf := it_2 hf c3
  by_cases c4 : p1 = 4
  · have hf := it_1 hf c4
    refine lv_tableIn (off := 105) (tgt := 106) hx hb dX6_count_1 (by rw [c4]; decide) (by rw [c4]; decide) (by rw [c4]; rfl) (by decide) ?_
    refine lv_aload_n hx hb dX6_count_106 rfl (lv_at hl 0 rfl) ?_
    refine va_get (D := G.1) (ci := 6) (v := .ref (a 0)) (C := RX6) (T := TX6) (N := 5) hx hb hts hinX6 hown hK hP 0 rfl rfl 0 (by decide) lk10 (fun _ h9 => h9) rfl dX6_count_107 ?_
    refine va_get (D := G.1) (ci := 0) (v := .ref (a 7)) (C := RX0) (T := TX0) (N := 4) hx hb hts hinX0 hown hK hP 3 rfl rfl 3 (by decide) lk75 (fun _ h9 => h9) rfl dX6_count_110 ?_
    refine lv_iconst (v := 1) hx hb dX6_count_113 (by decide) ?_
    have hn := bd1_1 hf hne
    refine vp_callSl (W.runV (As := [.int 1]) (rest := []) ⟨hx, hb, hml, hown, hts⟩ (ok_X3_setOf l G a n0 v0 1 hn) (cwV 1 hts gX6_count_X3_setOf rfl rfl rfl (by decide +kernel) ⟨Nat.le_of_ble_eq_true rfl, Nat.le_of_ble_eq_true rfl⟩) ⟨pcR_blind, va_recv hK (hP.sub (ws' := (lettersC G.2 a v0)) [10, 11, 12, 13, 14, 15, 16, 17] rfl) (ci := 3) (q0 := 0) rfl rfl, pcR_pre (hP.sub (ws' := (lettersC G.2 a v0)) [10, 11, 12, 13, 14, 15, 16, 17] rfl) hamb⟩ rfl rfl hl.1 rfl (lv_room (Nat.le_of_ble_eq_true rfl)) dX6_count_114 ⟨Nat.zero_le _, Nat.zero_le _⟩) (fun r114 hw => ?_)
    have hf := bd1_2 hf hw
    refine vp_callSi (W.runS (As := [.long r114]) (rest := []) ⟨hx, hb, hml, hown, hts⟩ (ok_J13_bitCount_95d88 l r114) (va_cwS 1 hts gX6_count_J13_bitCount_95d88 rfl rfl rfl (by decide +kernel) ⟨Nat.le_of_ble_eq_true rfl, Nat.le_of_ble_eq_true rfl⟩) ⟨fun _ _ _ _ q => q, fun _ _ _ => ⟨rfl, trivial⟩⟩ rfl rfl hl.1 rfl (lv_room (Nat.le_of_ble_eq_true rfl)) dX6_count_117 ⟨Nat.zero_le _, Nat.zero_le _⟩) (fun r117 hw => ?_)
    subst hw
    exact W.iret (v := (f_J13_bitCount_95d88 r114)) hx hb hr (fun t ht hW => ⟨(f_J13_bitCount_95d88 r114), rfl, hf0.trans hf.symm, ht⟩) (fun _ hq => absurd hq List.not_mem_nil) dX6_count_120
  have hf := it_2 hf c4
  by_cases c5 : p1 = 5
  · have hf := it_1 hf c5
    refine lv_tableIn (off := 120) (tgt := 121) hx hb dX6_count_1 (by rw [c5]; decide) (by rw [c5]; decide) (by rw [c5]; rfl) (by decide) ?_
    refine lv_aload_n hx hb dX6_count_121 rfl (lv_at hl 0 rfl) ?_
    refine va_get (D := G.1) (ci := 6) (v := .ref (a 0)) (C := RX6) (T := TX6) (N := 5) hx hb hts hinX6 hown hK hP 0 rfl rfl 0 (by decide) lk10 (fun _ h9 => h9) rfl dX6_count_122 ?_
    refine va_get (D := G.1) (ci := 0) (v := .ref (a 7)) (C := RX0) (T := TX0) (N := 4) hx hb hts hinX0 hown hK hP 3 rfl rfl 3 (by decide) lk75 (fun _ h9 => h9) rfl dX6_count_125 ?_
    refine lv_iconst (v := 2) hx hb dX6_count_128 (by decide) ?_
    have hn := bd1_1 hf hne
    refine vp_callSl (W.runV (As := [.int 2]) (rest := []) ⟨hx, hb, hml, hown, hts⟩ (ok_X3_setOf l G a n0 v0 2 hn) (cwV 1 hts gX6_count_X3_setOf rfl rfl rfl (by decide +kernel) ⟨Nat.le_of_ble_eq_true rfl, Nat.le_of_ble_eq_true rfl⟩) ⟨pcR_blind, va_recv hK (hP.sub (ws' := (lettersC G.2 a v0)) [10, 11, 12, 13, 14, 15, 16, 17] rfl) (ci := 3) (q0 := 0) rfl rfl, pcR_pre (hP.sub (ws' := (lettersC G.2 a v0)) [10, 11, 12, 13, 14, 15, 16, 17] rfl) hamb⟩ rfl rfl hl.1 rfl (lv_room (Nat.le_of_ble_eq_true rfl)) dX6_count_129 ⟨Nat.zero_le _, Nat.zero_le _⟩) (fun r129 hw => ?_)
    have hf := bd1_2 hf hw
    refine vp_callSi (W.runS (As := [.long r129]) (rest := []) ⟨hx, hb, hml, hown, hts⟩ (ok_J13_bitCount_95d88 l r129) (va_cwS 1 hts gX6_count_J13_bitCount_95d88 rfl rfl rfl (by decide +kernel) ⟨Nat.le_of_ble_eq_true rfl, Nat.le_of_ble_eq_true rfl⟩) ⟨fun _ _ _ _ q => q, fun _ _ _ => ⟨rfl, trivial⟩⟩ rfl rfl hl.1 rfl (lv_room (Nat.le_of_ble_eq_true rfl)) dX6_count_132 ⟨Nat.zero_le _, Nat.zero_le _⟩) (fun r132 hw => ?_)
    subst hw
    exact W.iret (v := (f_J13_bitCount_95d88 r129)) hx hb hr (fun t ht hW => ⟨(f_J13_bitCount_95d88 r129), rfl, hf0.trans hf.symm, ht⟩) (fun _ hq => absurd hq List.not_mem_nil) dX6_count_135
  have hf := it_2 hf c5
  by_cases c6 : p1 = 6
  · have hf := it_1 hf c6
    refine lv_tableIn (off := 135) (tgt := 136) hx hb dX6_count_1 (by rw [c6]; decide) (by rw [c6]; decide) (by rw [c6]; rfl) (by decide) ?_
    refine lv_aload_n hx hb dX6_count_136 rfl (lv_at hl 0 rfl) ?_
    refine va_get (D := G.1) (ci := 6) (v := .ref (a 0)) (C := RX6) (T := TX6) (N := 5) hx hb hts hinX6 hown hK hP 0 rfl rfl 0 (by decide) lk10 (fun _ h9 => h9) rfl dX6_count_137 ?_
    refine va_get (D := G.1) (ci := 0) (v := .ref (a 2)) (C := RX0) (T := TX0) (N := 4) hx hb hts hinX0 hown hK hP 3 rfl rfl 2 (by decide) lk120 (fun _ h9 => h9) rfl dX6_count_140 ?_
    have hn := bd1_1 hf hne
    refine vp_callSi (W.runV (As := []) (rest := []) ⟨hx, hb, hml, hown, hts⟩ (ok_X1_howManyLocked l G a n0 v0 hn) (cwV 0 hts gX6_count_X1_howManyLocked rfl rfl rfl (by decide +kernel) ⟨Nat.le_of_ble_eq_true rfl, Nat.le_of_ble_eq_true rfl⟩) ⟨pcR_blind, va_recv hK (hP.sub (ws' := (drawersC G.2 a v0)) [5, 6, 7, 8, 9] rfl) (ci := 1) (q0 := 0) rfl rfl, pcR_pre (hP.sub (ws' := (drawersC G.2 a v0)) [5, 6, 7, 8, 9] rfl) hamb⟩ rfl rfl hl.1 rfl (lv_room (Nat.le_of_ble_eq_true rfl)) dX6_count_143 ⟨Nat.zero_le _, Nat.zero_le _⟩) (fun r143 hw => ?_)
    have hf := bd1_2 hf hw
    exact W.iret (v := r143) hx hb hr (fun t ht hW => ⟨r143, rfl, hf0.trans hf.symm, ht⟩) (fun _ hq => absurd hq List.not_mem_nil) dX6_count_146
  have hf := it_2 hf c6
  by_cases c7 : p1 = 7
  · have hf := it_1 hf c7
    refine lv_tableIn (off := 146) (tgt := 147) hx hb dX6_count_1 (by rw [c7]; decide) (by rw [c7]; decide) (by rw [c7]; rfl) (by decide) ?_
    refine lv_aload_n hx hb dX6_count_147 rfl (lv_at hl 0 rfl) ?_
    refine va_get (D := G.1) (ci := 6) (v := .ref (a 0)) (C := RX6) (T := TX6) (N := 5) hx hb hts hinX6 hown hK hP 0 rfl rfl 0 (by decide) lk10 (fun _ h9 => h9) rfl dX6_count_148 ?_
    refine va_get (D := G.1) (ci := 0) (v := .ref (a 1)) (C := RX0) (T := TX0) (N := 4) hx hb hts hinX0 hown hK hP 3 rfl rfl 0 (by decide) lk174 (fun _ h9 => h9) rfl dX6_count_151 ?_
    refine lv_iconst (v := 0) hx hb dX6_count_154 (by decide) ?_
    refine va_iald (f := (v0 2)) hx hb hK hP 4 0 rfl rfl (ixb_1 (show ixb 0 3 = true from rfl)) dX6_count_155 ?_
    exact W.iret (v := ((v0 2) (Int32.toNatClampNeg 0))) hx hb hr (fun t ht hW => ⟨((v0 2) (Int32.toNatClampNeg 0)), rfl, hf0.trans hf.symm, ht⟩) (fun _ hq => absurd hq List.not_mem_nil) dX6_count_156
  have hf := it_2 hf c7
  by_cases c8 : p1 = 8
  · have hf := it_1 hf c8
    refine lv_tableIn (off := 156) (tgt := 157) hx hb dX6_count_1 (by rw [c8]; decide) (by rw [c8]; decide) (by rw [c8]; rfl) (by decide) ?_
    refine lv_aload_n hx hb dX6_count_157 rfl (lv_at hl 0 rfl) ?_
    refine va_get (D := G.1) (ci := 6) (v := .ref (a 0)) (C := RX6) (T := TX6) (N := 5) hx hb hts hinX6 hown hK hP 0 rfl rfl 0 (by decide) lk10 (fun _ h9 => h9) rfl dX6_count_158 ?_
    refine va_get (D := G.1) (ci := 0) (v := .ref (a 1)) (C := RX0) (T := TX0) (N := 4) hx hb hts hinX0 hown hK hP 3 rfl rfl 0 (by decide) lk174 (fun _ h9 => h9) rfl dX6_count_161 ?_
    refine lv_iconst (v := 1) hx hb dX6_count_164 (by decide) ?_
    refine va_iald (f := (v0 2)) hx hb hK hP 4 0 rfl rfl (ixb_1 (show ixb 1 3 = true from rfl)) dX6_count_165 ?_
    exact W.iret (v := ((v0 2) (Int32.toNatClampNeg 1))) hx hb hr (fun t ht hW => ⟨((v0 2) (Int32.toNatClampNeg 1)), rfl, hf0.trans hf.symm, ht⟩) (fun _ hq => absurd hq List.not_mem_nil) dX6_count_166
  have hf := it_2 hf c8
  by_cases c9 : p1 = 9
  · have hf := it_1 hf c9
    refine lv_tableIn (off := 166) (tgt := 167) hx hb dX6_count_1 (by rw [c9]; decide) (by rw [c9]; decide) (by rw [c9]; rfl) (by decide) ?_
    refine lv_aload_n hx hb dX6_count_167 rfl (lv_at hl 0 rfl) ?_
    refine va_get (D := G.1) (ci := 6) (v := .ref (a 0)) (C := RX6) (T := TX6) (N := 5) hx hb hts hinX6 hown hK hP 0 rfl rfl 0 (by decide) lk10 (fun _ h9 => h9) rfl dX6_count_168 ?_
    refine va_get (D := G.1) (ci := 0) (v := .ref (a 1)) (C := RX0) (T := TX0) (N := 4) hx hb hts hinX0 hown hK hP 3 rfl rfl 0 (by decide) lk174 (fun _ h9 => h9) rfl dX6_count_171 ?_
    refine lv_iconst (v := 2) hx hb dX6_count_174 (by decide) ?_
    refine va_iald (f := (v0 2)) hx hb hK hP 4 0 rfl rfl (ixb_1 (show ixb 2 3 = true from rfl)) dX6_count_175 ?_
    exact W.iret (v := ((v0 2) (Int32.toNatClampNeg 2))) hx hb hr (fun t ht hW => ⟨((v0 2) (Int32.toNatClampNeg 2)), rfl, hf0.trans hf.symm, ht⟩) (fun _ hq => absurd hq List.not_mem_nil) dX6_count_176
  have hf := it_2 hf c9
  by_cases c10 : p1 = 10
  · have hf := it_1 hf c10
    refine lv_tableIn (off := 176) (tgt := 177) hx hb dX6_count_1 (by rw [c10]; decide) (by rw [c10]; decide) (by rw [c10]; rfl) (by decide) ?_
    refine lv_aload_n hx hb dX6_count_177 rfl (lv_at hl 0 rfl) ?_
    refine va_get (D := G.1) (ci := 6) (v := .ref (a 17)) (C := RX6) (T := TX6) (N := 5) hx hb hts hinX6 hown hK hP 0 rfl rfl 2 (by decide) lk26 (fun _ h9 => h9) rfl dX6_count_178 ?_
    refine va_get (D := G.1) (ci := 4) (v := .int (v0 16 0)) (C := RX4) (T := TX4) (N := 7) hx hb hts hinX4 hown hK hP 18 rfl rfl 1 (by decide) lk177 (fun _ h9 => h9) rfl dX6_count_181 ?_
    exact W.iret (v := (v0 16 0)) hx hb hr (fun t ht hW => ⟨(v0 16 0), rfl, hf0.trans hf.symm, ht⟩) (fun _ hq => absurd hq List.not_mem_nil) dX6_count_184
  have hf := it_2 hf c10
  by_cases c11 : p1 = 11
  · have hf := it_1 hf c11
    refine lv_tableIn (off := 184) (tgt := 185) hx hb dX6_count_1 (by rw [c11]; decide) (by rw [c11]; decide) (by rw [c11]; rfl) (by decide) ?_
    refine lv_aload_n hx hb dX6_count_185 rfl (lv_at hl 0 rfl) ?_
    refine va_get (D := G.1) (ci := 6) (v := .ref (a 19)) (C := RX6) (T := TX6) (N := 5) hx hb hts hinX6 hown hK hP 0 rfl rfl 3 (by decide) lk33 (fun _ h9 => h9) rfl dX6_count_186 ?_
    refine va_get (D := G.1) (ci := 2) (v := .int (v0 22 0)) (C := RX2) (T := TX2) (N := 2) hx hb hts hinX2 hown hK hP 20 rfl rfl 1 (by decide) lk180 (fun _ h9 => h9) rfl dX6_count_189 ?_
    exact W.iret (v := (v0 22 0)) hx hb hr (fun t ht hW => ⟨(v0 22 0), rfl, hf0.trans hf.symm, ht⟩) (fun _ hq => absurd hq List.not_mem_nil) dX6_count_192
  have hf := it_2 hf c11
  have e0 := ne_i c0 (k := 0) (by decide)
  have e1 := ne_i c1 (k := 1) (by decide)
  have e2 := ne_i c2 (k := 2) (by decide)
  have e3 := ne_i c3 (k := 3) (by decide)
  have e4 := ne_i c4 (k := 4) (by decide)
  have e5 := ne_i c5 (k := 5) (by decide)
  have e6 := ne_i c6 (k := 6) (by decide)
  have e7 := ne_i c7 (k := 7) (by decide)
  have e8 := ne_i c8 (k := 8) (by decide)
  have e9 := ne_i c9 (k := 9) (by decide)
  have e10 := ne_i c10 (k := 10) (by decide)
  have e11 := ne_i c11 (k := 11) (by decide)
  refine lv_tableOut (tgt := 193) hx hb dX6_count_1 (by omega) (by decide) ?_
  refine lv_bipush (v := (-2)) hx hb dX6_count_193 (by decide) ?_
  exact W.iret (v := (-2)) hx hb hr (fun t ht hW => ⟨(-2), rfl, hf0.trans hf.symm, ht⟩) (fun _ hq => absurd hq List.not_mem_nil) dX6_count_195
set_option maxHeartbeats 4000000 in
set_option maxRecDepth 100000 in
theorem ok_X6_share (l : Launch) (G : Gt) (a : Nat → Nat) (n0 : Nat) (v0 : DV) (hne : f_X6_share n0 v0 ≠ none) : Met l yX6_share wsX6_share ({ frames := 1, cells := 0, slots := 0, locals := 28 } : Room) (pcR G [.ref (a 21)] (xcoreC G.2 a v0)) (vp_Si (fun r => f_X6_share n0 v0 = some r)) 0 0 (fun _ => False) := by
  refine Met.ofW (cc := cX6_share) (maxL := 4) (ret := (some .int)) (by decide) rfl ?_
  intro p e s m args below meth c s₁ B hml hv
  obtain ⟨rfl, hP, hamb⟩ := hv
  have hx := B.exec
  have hb := B.bytes
  have hr := B.returns
  have hts := atoms_spec (ws := wsX6_share) B.pre
  have hown : s.vm.findClass RX6 = some m.cls := findClass_of_methodNamed B.named
  have hlocks := B.notSynchronized
  have hK := hamb.1
  obtain ⟨res, hf0⟩ : ∃ res, f_X6_share n0 v0 = res := ⟨_, rfl⟩
  have hne : res ≠ none := hf0 ▸ hne
  have hf := hf0
  rw [f_X6_share] at hf
  have hinX0 : ∀ w ∈ u_ws RX0 TX0 4, w ∈ wsX6_share := by decide +kernel
  have hinX3 : ∀ w ∈ u_ws RX3 TX3 8, w ∈ wsX6_share := by decide +kernel
  have hinX6 : ∀ w ∈ u_ws RX6 TX6 5, w ∈ wsX6_share := by decide +kernel
  have lk10 := hts (.fieldLink RX6 10 "MoodDrawers" "desk" "LMoodDrawers$Desk;") (by decide +kernel)
  have lk75 := hts (.fieldLink RX6 75 "MoodDrawers$Desk" "letters" "LMoodDrawers$Letters;") (by decide +kernel)
  have lk161 := hts (.fieldLink RX6 161 "MoodDrawers$Letters" "written" "I") (by decide +kernel)
  have hl := lv_entry ([.ref (a 21)]) (n := 4) (Nat.le_of_ble_eq_true rfl)
  rw [lg_entry_eq]
  generalize (lg_sl ([.ref (a 21)]) ++ List.replicate (4 - (lg_sl ([.ref (a 21)])).length) Slot.unset).toArray = ls at hl ⊢
  have hl : lv_has ls 4 [(0, .ref (a 21))] := hl
  refine lv_aload_n hx hb dX6_share_0 rfl (lv_at hl 0 rfl) ?_
  refine va_get (D := G.1) (ci := 6) (v := .ref (a 0)) (C := RX6) (T := TX6) (N := 5) hx hb hts hinX6 hown hK hP 0 rfl rfl 0 (by decide) lk10 (fun _ h9 => h9) rfl dX6_share_1 ?_
  refine va_get (D := G.1) (ci := 0) (v := .ref (a 7)) (C := RX0) (T := TX0) (N := 4) hx hb hts hinX0 hown hK hP 3 rfl rfl 3 (by decide) lk75 (fun _ h9 => h9) rfl dX6_share_4 ?_
  refine va_get (D := G.1) (ci := 3) (v := .int (v0 1 0)) (C := RX3) (T := TX3) (N := 8) hx hb hts hinX3 hown hK hP 10 rfl rfl 0 (by decide) lk161 (fun _ h9 => h9) rfl dX6_share_7 ?_
  refine lv_istore_n (lv' := [(1, .int (v0 1 0)), (0, .ref (a 21))]) hx hb dX6_share_10 rfl hl (by decide) rfl (fun ls hl => ?_)
  refine lv_iload_n hx hb dX6_share_11 rfl (lv_at hl 0 rfl) ?_
  refine lv_if_ne (tgt := 18) hx hb dX6_share_12 (by decide) (fun c => ?_) (fun c => ?_)
  · have hf := it_2 hf c
    refine lv_aload_n hx hb dX6_share_18 rfl (lv_at hl 1 rfl) ?_
    refine va_get (D := G.1) (ci := 6) (v := .ref (a 0)) (C := RX6) (T := TX6) (N := 5) hx hb hts hinX6 hown hK hP 0 rfl rfl 0 (by decide) lk10 (fun _ h9 => h9) rfl dX6_share_19 ?_
    refine va_get (D := G.1) (ci := 0) (v := .ref (a 7)) (C := RX0) (T := TX0) (N := 4) hx hb hts hinX0 hown hK hP 3 rfl rfl 3 (by decide) lk75 (fun _ h9 => h9) rfl dX6_share_22 ?_
    refine lv_iconst (v := 1) hx hb dX6_share_25 (by decide) ?_
    have hn := bd1_1 hf hne
    refine vp_callSl (W.runV (As := [.int 1]) (rest := []) ⟨hx, hb, hml, hown, hts⟩ (ok_X3_setOf l G a n0 v0 1 hn) (cwV 1 hts gX6_share_X3_setOf rfl rfl rfl (by decide +kernel) ⟨Nat.le_of_ble_eq_true rfl, Nat.le_of_ble_eq_true rfl⟩) ⟨pcR_blind, va_recv hK (hP.sub (ws' := (lettersC G.2 a v0)) [10, 11, 12, 13, 14, 15, 16, 17] rfl) (ci := 3) (q0 := 0) rfl rfl, pcR_pre (hP.sub (ws' := (lettersC G.2 a v0)) [10, 11, 12, 13, 14, 15, 16, 17] rfl) hamb⟩ rfl rfl hl.1 rfl (lv_room (Nat.le_of_ble_eq_true rfl)) dX6_share_26 ⟨Nat.zero_le _, Nat.zero_le _⟩) (fun r26 hw => ?_)
    have hf := bd1_2 hf hw
    refine vp_callSi (W.runS (As := [.long r26]) (rest := []) ⟨hx, hb, hml, hown, hts⟩ (ok_J13_bitCount_95d88 l r26) (va_cwS 1 hts gX6_share_J13_bitCount_95d88 rfl rfl rfl (by decide +kernel) ⟨Nat.le_of_ble_eq_true rfl, Nat.le_of_ble_eq_true rfl⟩) ⟨fun _ _ _ _ q => q, fun _ _ _ => ⟨rfl, trivial⟩⟩ rfl rfl hl.1 rfl (lv_room (Nat.le_of_ble_eq_true rfl)) dX6_share_29 ⟨Nat.zero_le _, Nat.zero_le _⟩) (fun r29 hw => ?_)
    subst hw
    refine lv_istore_n (lv' := [(2, .int (f_J13_bitCount_95d88 r26)), (1, .int (v0 1 0)), (0, .ref (a 21))]) hx hb dX6_share_32 rfl hl (by decide) rfl (fun ls hl => ?_)
    refine lv_iload_n hx hb dX6_share_33 rfl (lv_at hl 0 rfl) ?_
    refine lv_i2f hx hb dX6_share_34 ?_
    refine lv_iload_n hx hb dX6_share_35 rfl (lv_at hl 1 rfl) ?_
    refine lv_i2f hx hb dX6_share_36 ?_
    obtain ⟨hd, hf⟩ := ck_1 hf hne
    refine lv_fdiv hx hb dX6_share_37 (nn32_1 hd) ?_
    refine lv_fstore_n (lv' := [(3, .float (FP.fdiv (FP.i2f (f_J13_bitCount_95d88 r26)) (FP.i2f (v0 1 0)))), (2, .int (f_J13_bitCount_95d88 r26)), (1, .int (v0 1 0)), (0, .ref (a 21))]) hx hb dX6_share_38 rfl hl (by decide) rfl (fun ls hl => ?_)
    refine lv_fload_n hx hb dX6_share_39 rfl (lv_at hl 0 rfl) ?_
    obtain ⟨hd, hf⟩ := ck_1 hf hne
    refine lv_f2d hx hb dX6_share_40 (nn64_1 hd) ?_
    refine lv_bipush (v := 127) hx hb dX6_share_41 (by decide) ?_
    refine lv_bipush (v := 23) hx hb dX6_share_43 (by decide) ?_
    have hn := bd1_1 hf hne
    refine vp_callSl (W.runS (As := [.double (FP.f2d (FP.fdiv (FP.i2f (f_J13_bitCount_95d88 r26)) (FP.i2f (v0 1 0)))), .int 127, .int 23]) (rest := []) ⟨hx, hb, hml, hown, hts⟩ (ok_X6_bitsOf l n0 (FP.f2d (FP.fdiv (FP.i2f (f_J13_bitCount_95d88 r26)) (FP.i2f (v0 1 0)))) 127 23 hn) (va_cwS 3 hts gX6_share_X6_bitsOf rfl rfl rfl (by decide +kernel) ⟨Nat.le_of_ble_eq_true rfl, Nat.le_of_ble_eq_true rfl⟩) ⟨fun _ _ _ _ q => q, fun _ _ _ => ⟨rfl, trivial⟩⟩ rfl rfl hl.1 rfl (lv_room (Nat.le_of_ble_eq_true rfl)) dX6_share_45 ⟨Nat.zero_le _, Nat.zero_le _⟩) (fun r45 hw => ?_)
    have hf := bd1_2 hf hw
    refine lv_l2i hx hb dX6_share_48 rfl ?_
    exact W.iret (v := (Int64.toInt32 r45)) hx hb hr (fun t ht hW => ⟨(Int64.toInt32 r45), rfl, hf0.trans hf.symm, ht⟩) (fun _ hq => absurd hq List.not_mem_nil) dX6_share_49
  · have hf := it_1 hf c
    refine lv_bipush (v := (-6)) hx hb dX6_share_15 (by decide) ?_
    exact W.iret (v := (-6)) hx hb hr (fun t ht hW => ⟨(-6), rfl, hf0.trans hf.symm, ht⟩) (fun _ hq => absurd hq List.not_mem_nil) dX6_share_17
set_option maxHeartbeats 4000000 in
set_option maxRecDepth 100000 in
theorem ok_X6_goesIn (l : Launch) (G : Gt) (a : Nat → Nat) (n0 : Nat) (v0 : DV) (p1 : Int32) (hne : f_X6_goesIn n0 v0 p1 ≠ none) : Met l yX6_goesIn wsX6_goesIn ({ frames := 3, cells := 0, slots := 0, locals := 92 } : Room) (pcR G [.ref (a 21), .int p1] (xcoreC G.2 a v0)) (vp_Si (fun r => f_X6_goesIn n0 v0 p1 = some r)) 0 0 (fun _ => False) := by
  refine Met.ofW (cc := cX6_goesIn) (maxL := 3) (ret := (some .int)) (by decide) rfl ?_
  intro p e s m args below meth c s₁ B hml hv
  obtain ⟨rfl, hP, hamb⟩ := hv
  have hx := B.exec
  have hb := B.bytes
  have hr := B.returns
  have hts := atoms_spec (ws := wsX6_goesIn) B.pre
  have hown : s.vm.findClass RX6 = some m.cls := findClass_of_methodNamed B.named
  have hlocks := B.notSynchronized
  have hK := hamb.1
  obtain ⟨res, hf0⟩ : ∃ res, f_X6_goesIn n0 v0 p1 = res := ⟨_, rfl⟩
  have hne : res ≠ none := hf0 ▸ hne
  have hf := hf0
  rw [f_X6_goesIn] at hf
  have hinX0 : ∀ w ∈ u_ws RX0 TX0 4, w ∈ wsX6_goesIn := by decide +kernel
  have hinX3 : ∀ w ∈ u_ws RX3 TX3 8, w ∈ wsX6_goesIn := by decide +kernel
  have hinX6 : ∀ w ∈ u_ws RX6 TX6 5, w ∈ wsX6_goesIn := by decide +kernel
  have lk10 := hts (.fieldLink RX6 10 "MoodDrawers" "desk" "LMoodDrawers$Desk;") (by decide +kernel)
  have lk75 := hts (.fieldLink RX6 75 "MoodDrawers$Desk" "letters" "LMoodDrawers$Letters;") (by decide +kernel)
  have lk98 := hts (.fieldLink RX6 98 "MoodDrawers$Letters" "how" "[I") (by decide +kernel)
  have lk174 := hts (.fieldLink RX6 174 "MoodDrawers$Desk" "settings" "[I") (by decide +kernel)
  have hl := lv_entry ([.ref (a 21), .int p1]) (n := 3) (Nat.le_of_ble_eq_true rfl)
  rw [lg_entry_eq]
  generalize (lg_sl ([.ref (a 21), .int p1]) ++ List.replicate (3 - (lg_sl ([.ref (a 21), .int p1])).length) Slot.unset).toArray = ls at hl ⊢
  have hl : lv_has ls 3 [(0, .ref (a 21)), (1, .int p1)] := hl
  refine lv_aload_n hx hb dX6_goesIn_0 rfl (lv_at hl 0 rfl) ?_
  refine va_get (D := G.1) (ci := 6) (v := .ref (a 0)) (C := RX6) (T := TX6) (N := 5) hx hb hts hinX6 hown hK hP 0 rfl rfl 0 (by decide) lk10 (fun _ h9 => h9) rfl dX6_goesIn_1 ?_
  refine va_get (D := G.1) (ci := 0) (v := .ref (a 7)) (C := RX0) (T := TX0) (N := 4) hx hb hts hinX0 hown hK hP 3 rfl rfl 3 (by decide) lk75 (fun _ h9 => h9) rfl dX6_goesIn_4 ?_
  refine lv_astore_n (lv' := [(2, .ref (a 7)), (0, .ref (a 21)), (1, .int p1)]) hx hb dX6_goesIn_7 rfl hl (by decide) rfl (fun ls hl => ?_)
  refine lv_aload_n hx hb dX6_goesIn_8 rfl (lv_at hl 0 rfl) ?_
  refine lv_iload_n hx hb dX6_goesIn_9 rfl (lv_at hl 2 rfl) ?_
  refine vp_callSi (W.runV (As := [.int p1]) (rest := []) ⟨hx, hb, hml, hown, hts⟩ (ok_X3_isLetter l G a v0 p1) (cwV 1 hts gX6_goesIn_X3_isLetter rfl rfl rfl (by decide +kernel) ⟨Nat.le_of_ble_eq_true rfl, Nat.le_of_ble_eq_true rfl⟩) ⟨pcR_blind, va_recv hK (hP.sub (ws' := (lettersC G.2 a v0)) [10, 11, 12, 13, 14, 15, 16, 17] rfl) (ci := 3) (q0 := 0) rfl rfl, pcR_pre (hP.sub (ws' := (lettersC G.2 a v0)) [10, 11, 12, 13, 14, 15, 16, 17] rfl) hamb⟩ rfl rfl hl.1 rfl (lv_room (Nat.le_of_ble_eq_true rfl)) dX6_goesIn_10 ⟨Nat.zero_le _, Nat.zero_le _⟩) (fun r10 hw => ?_)
  subst hw
  refine lv_if_ne (tgt := 18) hx hb dX6_goesIn_13 (by decide) (fun c => ?_) (fun c => ?_)
  · have hf := it_2 hf c
    refine lv_aload_n hx hb dX6_goesIn_18 rfl (lv_at hl 0 rfl) ?_
    refine va_get (D := G.1) (ci := 3) (v := .ref (a 12)) (C := RX3) (T := TX3) (N := 8) hx hb hts hinX3 hown hK hP 10 rfl rfl 5 (by decide) lk98 (fun _ h9 => h9) rfl dX6_goesIn_19 ?_
    refine lv_iload_n hx hb dX6_goesIn_22 rfl (lv_at hl 2 rfl) ?_
    obtain ⟨hi, hf⟩ := ck_1 hf hne
    refine va_iald (f := (v0 11)) hx hb hK hP 15 0 rfl rfl (ixb_1 hi) dX6_goesIn_23 ?_
    refine lv_iconst (v := 2) hx hb dX6_goesIn_24 (by decide) ?_
    refine lv_icmp_ne (tgt := 31) hx hb dX6_goesIn_25 (by decide) (fun c => ?_) (fun c => ?_)
    · have hf := it_2 hf c
      refine lv_aload_n hx hb dX6_goesIn_31 rfl (lv_at hl 0 rfl) ?_
      refine va_get (D := G.1) (ci := 3) (v := .ref (a 12)) (C := RX3) (T := TX3) (N := 8) hx hb hts hinX3 hown hK hP 10 rfl rfl 5 (by decide) lk98 (fun _ h9 => h9) rfl dX6_goesIn_32 ?_
      refine lv_iload_n hx hb dX6_goesIn_35 rfl (lv_at hl 2 rfl) ?_
      obtain ⟨hi, hf⟩ := ck_1 hf hne
      refine va_iald (f := (v0 11)) hx hb hK hP 15 0 rfl rfl (ixb_1 hi) dX6_goesIn_36 ?_
      refine lv_iconst (v := 1) hx hb dX6_goesIn_37 (by decide) ?_
      refine lv_icmp_ne (tgt := 43) hx hb dX6_goesIn_38 (by decide) (fun c => ?_) (fun c => ?_)
      · have hf := it_2 hf c
        refine lv_aload_n hx hb dX6_goesIn_43 rfl (lv_at hl 1 rfl) ?_
        refine va_get (D := G.1) (ci := 6) (v := .ref (a 0)) (C := RX6) (T := TX6) (N := 5) hx hb hts hinX6 hown hK hP 0 rfl rfl 0 (by decide) lk10 (fun _ h9 => h9) rfl dX6_goesIn_44 ?_
        refine lv_iload_n hx hb dX6_goesIn_47 rfl (lv_at hl 2 rfl) ?_
        refine lv_aload_n hx hb dX6_goesIn_48 rfl (lv_at hl 1 rfl) ?_
        refine va_get (D := G.1) (ci := 6) (v := .ref (a 0)) (C := RX6) (T := TX6) (N := 5) hx hb hts hinX6 hown hK hP 0 rfl rfl 0 (by decide) lk10 (fun _ h9 => h9) rfl dX6_goesIn_49 ?_
        refine va_get (D := G.1) (ci := 0) (v := .ref (a 1)) (C := RX0) (T := TX0) (N := 4) hx hb hts hinX0 hown hK hP 3 rfl rfl 0 (by decide) lk174 (fun _ h9 => h9) rfl dX6_goesIn_52 ?_
        refine lv_iconst (v := 0) hx hb dX6_goesIn_55 (by decide) ?_
        refine va_iald (f := (v0 2)) hx hb hK hP 4 0 rfl rfl (ixb_1 (show ixb 0 3 = true from rfl)) dX6_goesIn_56 ?_
        refine lv_sipush (v := 1200) hx hb dX6_goesIn_57 (by decide) ?_
        have hn := bd1_1 hf hne
        refine vp_callSi (W.runV (As := [.int p1, .int ((v0 2) (Int32.toNatClampNeg 0)), .int 1200]) (rest := []) ⟨hx, hb, hml, hown, hts⟩ (ok_X0_hoursTillSent l G a n0 v0 p1 ((v0 2) (Int32.toNatClampNeg 0)) 1200 hn) (cwV 3 hts gX6_goesIn_X0_hoursTillSent rfl rfl rfl (by decide +kernel) ⟨Nat.le_of_ble_eq_true rfl, Nat.le_of_ble_eq_true rfl⟩) ⟨pcR_blind, va_recv hK (hP.sub (ws' := (deskC G.2 a v0)) [3, 4, 5, 6, 7, 8, 9, 10, 11, 12, 13, 14, 15, 16, 17] rfl) (ci := 0) (q0 := 0) rfl rfl, pcR_pre (hP.sub (ws' := (deskC G.2 a v0)) [3, 4, 5, 6, 7, 8, 9, 10, 11, 12, 13, 14, 15, 16, 17] rfl) hamb⟩ rfl rfl hl.1 rfl (lv_room (Nat.le_of_ble_eq_true rfl)) dX6_goesIn_60 ⟨Nat.zero_le _, Nat.zero_le _⟩) (fun r60 hw => ?_)
        have hf := bd1_2 hf hw
        exact W.iret (v := r60) hx hb hr (fun t ht hW => ⟨r60, rfl, hf0.trans hf.symm, ht⟩) (fun _ hq => absurd hq List.not_mem_nil) dX6_goesIn_63
      · have hf := it_1 hf c
        refine lv_iconst (v := 0) hx hb dX6_goesIn_41 (by decide) ?_
        exact W.iret (v := 0) hx hb hr (fun t ht hW => ⟨0, rfl, hf0.trans hf.symm, ht⟩) (fun _ hq => absurd hq List.not_mem_nil) dX6_goesIn_42
    · have hf := it_1 hf c
      refine lv_bipush (v := (-5)) hx hb dX6_goesIn_28 (by decide) ?_
      exact W.iret (v := (-5)) hx hb hr (fun t ht hW => ⟨(-5), rfl, hf0.trans hf.symm, ht⟩) (fun _ hq => absurd hq List.not_mem_nil) dX6_goesIn_30
  · have hf := it_1 hf c
    refine lv_iconst (v := (-1)) hx hb dX6_goesIn_16 (by decide) ?_
    exact W.iret (v := (-1)) hx hb hr (fun t ht hW => ⟨(-1), rfl, hf0.trans hf.symm, ht⟩) (fun _ hq => absurd hq List.not_mem_nil) dX6_goesIn_17
set_option maxHeartbeats 4000000 in
set_option maxRecDepth 100000 in
theorem ok_X6_bestPost (l : Launch) (G : Gt) (a : Nat → Nat) (n0 : Nat) (v0 : DV) (p1 : Int32) (p2 : Int32) (hne : f_X6_bestPost n0 v0 p1 p2 ≠ none) : Met l yX6_bestPost wsX6_bestPost ({ frames := 4, cells := 0, slots := 0, locals := 116 } : Room) (pcR G [.ref (a 21), .int p1, .int p2] (xcoreC G.2 a v0)) (vp_Si (fun r => f_X6_bestPost n0 v0 p1 p2 = some r)) 0 0 (fun _ => False) := by
  refine Met.ofW (cc := cX6_bestPost) (maxL := 7) (ret := (some .int)) (by decide) rfl ?_
  intro p e s m args below meth c s₁ B hml hv
  obtain ⟨rfl, hP, hamb⟩ := hv
  have hx := B.exec
  have hb := B.bytes
  have hr := B.returns
  have hts := atoms_spec (ws := wsX6_bestPost) B.pre
  have hown : s.vm.findClass RX6 = some m.cls := findClass_of_methodNamed B.named
  have hlocks := B.notSynchronized
  have hK := hamb.1
  obtain ⟨res, hf0⟩ : ∃ res, f_X6_bestPost n0 v0 p1 p2 = res := ⟨_, rfl⟩
  have hne : res ≠ none := hf0 ▸ hne
  have hf := hf0
  rw [f_X6_bestPost] at hf
  have hinX6 : ∀ w ∈ u_ws RX6 TX6 5, w ∈ wsX6_bestPost := by decide +kernel
  have lk10 := hts (.fieldLink RX6 10 "MoodDrawers" "desk" "LMoodDrawers$Desk;") (by decide +kernel)
  have hl := lv_entry ([.ref (a 21), .int p1, .int p2]) (n := 7) (Nat.le_of_ble_eq_true rfl)
  rw [lg_entry_eq]
  generalize (lg_sl ([.ref (a 21), .int p1, .int p2]) ++ List.replicate (7 - (lg_sl ([.ref (a 21), .int p1, .int p2])).length) Slot.unset).toArray = ls at hl ⊢
  have hl : lv_has ls 7 [(0, .ref (a 21)), (1, .int p1), (2, .int p2)] := hl
  have L31 : ∀ (n : Nat) (v : DV) (x1 : Int32) (x2 : Int32) (x3 : Int32) (x4 : Int32) (x5 : Int32) (ls : Array Slot), va_P G.1 vwCl (xcoreC G.2 a v) s.heap → lv_has ls 7 [(0, .ref (a 21)), (1, .int x1), (2, .int x2), (3, .int x3), (4, .int x4), (5, .int x5)] → f_X6_bestPost_L31 n v x1 x2 x3 x4 x5 = res → W p l e (headSpec wsX6_bestPost ({ frames := 4, cells := 0, slots := 0, locals := 116 } : Room)).room s m ([.ref (a 21), .int p1, .int p2] : List Value).toArray below meth c s.heap [] 0 0 (MQ below (vp_Si (fun r => f_X6_bestPost n0 v0 p1 p2 = some r)) ([.ref (a 21), .int p1, .int p2] : List Value).toArray s 0 0 (fun _ => False)) (F0 m 31 ls []) := by
    intro n
    induction n with
    | zero => intro v x1 x2 x3 x4 x5 ls hP hl hf; exact (none_1 hf hne).elim
    | succ n ih =>
      intro v x1 x2 x3 x4 x5 ls hP hl hf
      rw [f_X6_bestPost_L31] at hf
      refine lv_iload hx hb dX6_bestPost_31 (lv_at hl 5 rfl) ?_
      refine lv_bipush (v := 24) hx hb dX6_bestPost_33 (by decide) ?_
      refine lv_icmp_ge (tgt := 73) hx hb dX6_bestPost_35 (by decide) (fun c => ?_) (fun c => ?_)
      · have hf := it_1 hf c
        refine lv_iload_n hx hb dX6_bestPost_73 rfl (lv_at hl 2 rfl) ?_
        refine lv_if_ne (tgt := 81) hx hb dX6_bestPost_74 (by decide) (fun c => ?_) (fun c => ?_)
        · have hf := it_2 hf c
          refine lv_iload hx hb dX6_bestPost_81 (lv_at hl 4 rfl) ?_
          exact W.iret (v := x4) hx hb hr (fun t ht hW => ⟨x4, rfl, hf0.trans hf.symm, ht⟩) (fun _ hq => absurd hq List.not_mem_nil) dX6_bestPost_83
        · have hf := it_1 hf c
          refine lv_iload_n hx hb dX6_bestPost_77 rfl (lv_at hl 3 rfl) ?_
          refine lv_goto (tgt := 83) hx hb dX6_bestPost_78 (by decide) ?_
          exact W.iret (v := x3) hx hb hr (fun t ht hW => ⟨x3, rfl, hf0.trans hf.symm, ht⟩) (fun _ hq => absurd hq List.not_mem_nil) dX6_bestPost_83
      · have hf := it_2 hf c
        refine lv_aload_n hx hb dX6_bestPost_38 rfl (lv_at hl 0 rfl) ?_
        refine va_get (D := G.1) (ci := 6) (v := .ref (a 0)) (C := RX6) (T := TX6) (N := 5) hx hb hts hinX6 hown hK hP 0 rfl rfl 0 (by decide) lk10 (fun _ h9 => h9) rfl dX6_bestPost_39 ?_
        refine lv_iload hx hb dX6_bestPost_42 (lv_at hl 5 rfl) ?_
        refine lv_iload_n hx hb dX6_bestPost_44 rfl (lv_at hl 1 rfl) ?_
        refine lv_bipush (v := 24) hx hb dX6_bestPost_45 (by decide) ?_
        refine lv_imul hx hb dX6_bestPost_47 ?_
        have hn := bd1_1 hf hne
        refine vp_callSi (W.runV (As := [.int x5, .int (x1 * 24)]) (rest := []) ⟨hx, hb, hml, hown, hts⟩ (ok_X0_sentWithin l G a n v x5 (x1 * 24) hn) (cwV 2 hts gX6_bestPost_X0_sentWithin rfl rfl rfl (by decide +kernel) ⟨Nat.le_of_ble_eq_true rfl, Nat.le_of_ble_eq_true rfl⟩) ⟨pcR_blind, va_recv hK (hP.sub (ws' := (deskC G.2 a v)) [3, 4, 5, 6, 7, 8, 9, 10, 11, 12, 13, 14, 15, 16, 17] rfl) (ci := 0) (q0 := 0) rfl rfl, pcR_pre (hP.sub (ws' := (deskC G.2 a v)) [3, 4, 5, 6, 7, 8, 9, 10, 11, 12, 13, 14, 15, 16, 17] rfl) hamb⟩ rfl rfl hl.1 rfl (lv_room (Nat.le_of_ble_eq_true rfl)) dX6_bestPost_48 ⟨Nat.zero_le _, Nat.zero_le _⟩) (fun r48 hw => ?_)
        have hf := bd1_2 hf hw
        refine lv_istore (lv' := [(6, .int r48), (0, .ref (a 21)), (1, .int x1), (2, .int x2), (3, .int x3), (4, .int x4), (5, .int x5)]) hx hb dX6_bestPost_51 hl (by decide) rfl (fun ls hl => ?_)
        refine lv_iload hx hb dX6_bestPost_53 (lv_at hl 0 rfl) ?_
        refine lv_iload hx hb dX6_bestPost_55 (lv_at hl 5 rfl) ?_
        refine lv_icmp_le (tgt := 67) hx hb dX6_bestPost_57 (by decide) (fun c => ?_) (fun c => ?_)
        · have hf := it_1 hf c
          refine lv_iinc (v := (x5 + 1)) (lv' := [(5, .int (x5 + 1)), (6, .int r48), (0, .ref (a 21)), (1, .int x1), (2, .int x2), (3, .int x3), (4, .int x4)]) hx hb dX6_bestPost_67 hl (k := 6) rfl rfl (by decide) rfl (fun ls hl => ?_)
          refine lv_goto (tgt := 31) hx hb dX6_bestPost_70 (by decide) ?_
          exact ih v x1 x2 x3 x4 (x5 + 1) ls hP (lv_sub hl [2, 3, 4, 5, 6, 0] rfl) hf
        · have hf := it_2 hf c
          refine lv_iload hx hb dX6_bestPost_60 (lv_at hl 6 rfl) ?_
          refine lv_istore_n (lv' := [(3, .int x5), (6, .int r48), (0, .ref (a 21)), (1, .int x1), (2, .int x2), (4, .int x4), (5, .int x5)]) hx hb dX6_bestPost_62 rfl hl (by decide) rfl (fun ls hl => ?_)
          refine lv_iload hx hb dX6_bestPost_63 (lv_at hl 1 rfl) ?_
          refine lv_istore (lv' := [(4, .int r48), (3, .int x5), (6, .int r48), (0, .ref (a 21)), (1, .int x1), (2, .int x2), (5, .int x5)]) hx hb dX6_bestPost_65 hl (by decide) rfl (fun ls hl => ?_)
          refine lv_iinc (v := (x5 + 1)) (lv' := [(5, .int (x5 + 1)), (4, .int r48), (3, .int x5), (6, .int r48), (0, .ref (a 21)), (1, .int x1), (2, .int x2)]) hx hb dX6_bestPost_67 hl (k := 6) rfl rfl (by decide) rfl (fun ls hl => ?_)
          refine lv_goto (tgt := 31) hx hb dX6_bestPost_70 (by decide) ?_
          exact ih v x1 x2 x5 r48 (x5 + 1) ls hP (lv_sub hl [4, 5, 6, 2, 1, 0] rfl) hf
  refine lv_iload_n hx hb dX6_bestPost_0 rfl (lv_at hl 1 rfl) ?_
  refine lv_iconst (v := 1) hx hb dX6_bestPost_1 (by decide) ?_
  refine lv_icmp_lt (tgt := 20) hx hb dX6_bestPost_2 (by decide) (fun c => ?_) (fun c => ?_)
  · have hf := it_1 hf c
    refine lv_bipush (v := (-2)) hx hb dX6_bestPost_20 (by decide) ?_
    exact W.iret (v := (-2)) hx hb hr (fun t ht hW => ⟨(-2), rfl, hf0.trans hf.symm, ht⟩) (fun _ hq => absurd hq List.not_mem_nil) dX6_bestPost_22
  · have hf := it_2 hf c
    refine lv_iload_n hx hb dX6_bestPost_5 rfl (lv_at hl 1 rfl) ?_
    refine lv_bipush (v := 20) hx hb dX6_bestPost_6 (by decide) ?_
    refine lv_icmp_gt (tgt := 20) hx hb dX6_bestPost_8 (by decide) (fun c => ?_) (fun c => ?_)
    · have hf := it_1 hf c
      refine lv_bipush (v := (-2)) hx hb dX6_bestPost_20 (by decide) ?_
      exact W.iret (v := (-2)) hx hb hr (fun t ht hW => ⟨(-2), rfl, hf0.trans hf.symm, ht⟩) (fun _ hq => absurd hq List.not_mem_nil) dX6_bestPost_22
    · have hf := it_2 hf c
      refine lv_iload_n hx hb dX6_bestPost_11 rfl (lv_at hl 2 rfl) ?_
      refine lv_if_lt (tgt := 20) hx hb dX6_bestPost_12 (by decide) (fun c => ?_) (fun c => ?_)
      · have hf := it_1 hf c
        refine lv_bipush (v := (-2)) hx hb dX6_bestPost_20 (by decide) ?_
        exact W.iret (v := (-2)) hx hb hr (fun t ht hW => ⟨(-2), rfl, hf0.trans hf.symm, ht⟩) (fun _ hq => absurd hq List.not_mem_nil) dX6_bestPost_22
      · have hf := it_2 hf c
        refine lv_iload_n hx hb dX6_bestPost_15 rfl (lv_at hl 2 rfl) ?_
        refine lv_iconst (v := 1) hx hb dX6_bestPost_16 (by decide) ?_
        refine lv_icmp_le (tgt := 23) hx hb dX6_bestPost_17 (by decide) (fun c => ?_) (fun c => ?_)
        · have hf := it_1 hf c
          refine lv_iconst (v := 0) hx hb dX6_bestPost_23 (by decide) ?_
          refine lv_istore_n (lv' := [(3, .int 0), (0, .ref (a 21)), (1, .int p1), (2, .int p2)]) hx hb dX6_bestPost_24 rfl hl (by decide) rfl (fun ls hl => ?_)
          refine lv_iconst (v := 0) hx hb dX6_bestPost_25 (by decide) ?_
          refine lv_istore (lv' := [(4, .int 0), (3, .int 0), (0, .ref (a 21)), (1, .int p1), (2, .int p2)]) hx hb dX6_bestPost_26 hl (by decide) rfl (fun ls hl => ?_)
          refine lv_iconst (v := 0) hx hb dX6_bestPost_28 (by decide) ?_
          refine lv_istore (lv' := [(5, .int 0), (4, .int 0), (3, .int 0), (0, .ref (a 21)), (1, .int p1), (2, .int p2)]) hx hb dX6_bestPost_29 hl (by decide) rfl (fun ls hl => ?_)
          exact L31 n0 v0 p1 p2 0 0 0 ls hP (lv_sub hl [3, 4, 5, 2, 1, 0] rfl) hf
        · have hf := it_2 hf c
          refine lv_bipush (v := (-2)) hx hb dX6_bestPost_20 (by decide) ?_
          exact W.iret (v := (-2)) hx hb hr (fun t ht hW => ⟨(-2), rfl, hf0.trans hf.symm, ht⟩) (fun _ hq => absurd hq List.not_mem_nil) dX6_bestPost_22
set_option maxHeartbeats 4000000 in
set_option maxRecDepth 100000 in
theorem ok_X6_mostRegretted (l : Launch) (G : Gt) (a : Nat → Nat) (sz : Nat) (n0 : Nat) (v0 : DV) (hne : f_X6_mostRegretted n0 v0 ≠ none) : Met l yX6_mostRegretted wsX6_mostRegretted ({ frames := 4, cells := 0, slots := 0, locals := 111 } : Room) (pcW G [.ref (a 21)] (xcoreC G.2 a v0) sz) (va_Qi (fun r (u : DV) => f_X6_mostRegretted n0 v0 = some (r, u)) (fun u t => atW G (xcoreC G.2 a u) (va_A (xcoreC G.2 a v0) sz) t) (va_A (xcoreC G.2 a v0) sz)) 0 0 (va_A (xcoreC G.2 a v0) sz) := by
  refine Met.ofW (cc := cX6_mostRegretted) (maxL := 1) (ret := (some .int)) (by decide) rfl ?_
  intro p e s m args below meth c s₁ B hml hv
  obtain ⟨rfl, hsz, hP, hD0, hamb⟩ := hv
  have hx := B.exec
  have hb := B.bytes
  have hr := B.returns
  have hts := atoms_spec (ws := wsX6_mostRegretted) B.pre
  have hown : s.vm.findClass RX6 = some m.cls := findClass_of_methodNamed B.named
  have hlocks := B.notSynchronized
  have hK := hamb.1
  subst hsz
  have hD := hD0.self (sz := s.heap.size)
  generalize hAe : va_A (xcoreC G.2 a v0) s.heap.size = A at hD ⊢
  have hA : ∀ q : Nat, s.heap.size ≤ q → A q := fun q h => by rw [← hAe]; exact Or.inr h
  have hS : va_S A s.heap s.heap [] := va_S.rf
  obtain ⟨res, hf0⟩ : ∃ res, f_X6_mostRegretted n0 v0 = res := ⟨_, rfl⟩
  have hne : res ≠ none := hf0 ▸ hne
  have hf := hf0
  rw [f_X6_mostRegretted] at hf
  have hinX6 : ∀ w ∈ u_ws RX6 TX6 5, w ∈ wsX6_mostRegretted := by decide +kernel
  have lk19 := hts (.fieldLink RX6 19 "MoodDrawers" "regrets" "LMoodDrawers$Regrets;") (by decide +kernel)
  have lk10 := hts (.fieldLink RX6 10 "MoodDrawers" "desk" "LMoodDrawers$Desk;") (by decide +kernel)
  have hl := lv_entry ([.ref (a 21)]) (n := 1) (Nat.le_of_ble_eq_true rfl)
  rw [lg_entry_eq]
  generalize (lg_sl ([.ref (a 21)]) ++ List.replicate (1 - (lg_sl ([.ref (a 21)])).length) Slot.unset).toArray = ls at hl ⊢
  have hl : lv_has ls 1 [(0, .ref (a 21))] := hl
  refine lv_aload_n hx hb dX6_mostRegretted_0 rfl (lv_at hl 0 rfl) ?_
  refine va_get (D := G.1) (ci := 6) (v := .ref (a 15)) (C := RX6) (T := TX6) (N := 5) hx hb hts hinX6 hown hK hP 0 rfl rfl 1 (by decide) lk19 (fun _ h9 => h9) rfl dX6_mostRegretted_1 ?_
  refine lv_aload_n hx hb dX6_mostRegretted_4 rfl (lv_at hl 0 rfl) ?_
  refine va_get (D := G.1) (ci := 6) (v := .ref (a 0)) (C := RX6) (T := TX6) (N := 5) hx hb hts hinX6 hown hK hP 0 rfl rfl 0 (by decide) lk10 (fun _ h9 => h9) rfl dX6_mostRegretted_5 ?_
  have hn := bd2_1 hf hne
  refine cwi (va_runV (As := [.ref (a 0)]) (rest := []) ⟨hx, hb, hml, hown, hts⟩ (ok_X5_greatest l G a s.heap.size n0 v0 hn) (cwV 1 hts gX6_mostRegretted_X5_greatest rfl rfl rfl (by decide +kernel) ⟨Nat.le_of_ble_eq_true rfl, Nat.le_of_ble_eq_true rfl⟩) ⟨pcW_blind, va_recv hK (hP.sub (ws' := (regC G.2 a v0)) [1, 2, 3, 4, 5, 6, 7, 8, 9, 10, 11, 12, 13, 14, 15, 16, 17] rfl) (ci := 5) (q0 := 0) rfl rfl, pcW_pre (hP.sub (ws' := (regC G.2 a v0)) [1, 2, 3, 4, 5, 6, 7, 8, 9, 10, 11, 12, 13, 14, 15, 16, 17] rfl) (hD.sub (ws' := (regC G.2 a v0)) [1, 2, 3, 4, 5, 6, 7, 8, 9, 10, 11, 12, 13, 14, 15, 16, 17] (by decide) rfl) hamb⟩ rfl rfl hl.1 rfl (lv_room (Nat.le_of_ble_eq_true rfl)) dX6_mostRegretted_8 ⟨Nat.zero_le _, Nat.zero_le _⟩) (wr := [(a 21, .inr (6, [.ref (a 0), .ref (a 15), .ref (a 17), .ref (a 19), .ref (a 22)])), (a 17, .inr (4, [.ref (a 18), .int (v0 16 0), .int (v0 17 0), .int (v0 18 0), .int (v0 19 0), .int (v0 20 0), .int (v0 21 0)])), (a 18, .inl (G.2 1, 80, .inl (v0 15))), (a 19, .inr (2, [.ref (a 20), .int (v0 22 0)]))]) hP hD hS hA [1, 2, 3, 4, 5, 6, 7, 8, 9, 10, 11, 12, 13, 14, 15, 16, 17] [0, 18, 19, 20] rfl rfl (by decide) (by decide) (fun r8 v8 H locs hw hP hD hS => ?_)
  have hf := bd2_2 hf hw
  have hP : va_P G.1 vwCl (xcoreC G.2 a (mx [0, 1, 2, 3, 4, 5, 6, 7, 8, 9, 10, 11, 12, 13, 14] v0 v8)) H := hP.sub [0, 4, 5, 6, 7, 8, 9, 10, 11, 12, 13, 14, 15, 16, 17, 18, 19, 20, 1, 2, 3] rfl
  have hD : va_D A (xcoreC G.2 a (mx [0, 1, 2, 3, 4, 5, 6, 7, 8, 9, 10, 11, 12, 13, 14] v0 v8)) := hD.sub [0, 4, 5, 6, 7, 8, 9, 10, 11, 12, 13, 14, 15, 16, 17, 18, 19, 20, 1, 2, 3] (by decide) rfl
  exact W.iret (v := r8) hx hb hr (fun t ht hW => ⟨⟨r8, (mx [0, 1, 2, 3, 4, 5, 6, 7, 8, 9, 10, 11, 12, 13, 14] v0 v8), rfl, hf0.trans hf.symm, by rw [ht]; exact hP, hD⟩, hS.F ht⟩) hS.2.2 dX6_mostRegretted_11
set_option maxHeartbeats 4000000 in
set_option maxRecDepth 100000 in
theorem ok_X6_ifSent (l : Launch) (G : Gt) (a : Nat → Nat) (sz : Nat) (n0 : Nat) (v0 : DV) (p1 : Int32) (p2 : Int32) (hne : f_X6_ifSent n0 v0 p1 p2 ≠ none) : Met l yX6_ifSent wsX6_ifSent ({ frames := 4, cells := 0, slots := 0, locals := 110 } : Room) (pcW G [.ref (a 21), .int p1, .int p2] (xcoreC G.2 a v0) sz) (va_Qi (fun r (u : DV) => f_X6_ifSent n0 v0 p1 p2 = some (r, u)) (fun u t => atW G (xcoreC G.2 a u) (va_A (xcoreC G.2 a v0) sz) t) (va_A (xcoreC G.2 a v0) sz)) 0 0 (va_A (xcoreC G.2 a v0) sz) := by
  refine Met.ofW (cc := cX6_ifSent) (maxL := 4) (ret := (some .int)) (by decide) rfl ?_
  intro p e s m args below meth c s₁ B hml hv
  obtain ⟨rfl, hsz, hP, hD0, hamb⟩ := hv
  have hx := B.exec
  have hb := B.bytes
  have hr := B.returns
  have hts := atoms_spec (ws := wsX6_ifSent) B.pre
  have hown : s.vm.findClass RX6 = some m.cls := findClass_of_methodNamed B.named
  have hlocks := B.notSynchronized
  have hK := hamb.1
  subst hsz
  have hD := hD0.self (sz := s.heap.size)
  generalize hAe : va_A (xcoreC G.2 a v0) s.heap.size = A at hD ⊢
  have hA : ∀ q : Nat, s.heap.size ≤ q → A q := fun q h => by rw [← hAe]; exact Or.inr h
  have hS : va_S A s.heap s.heap [] := va_S.rf
  obtain ⟨res, hf0⟩ : ∃ res, f_X6_ifSent n0 v0 p1 p2 = res := ⟨_, rfl⟩
  have hne : res ≠ none := hf0 ▸ hne
  have hf := hf0
  rw [f_X6_ifSent] at hf
  have hinX0 : ∀ w ∈ u_ws RX0 TX0 4, w ∈ wsX6_ifSent := by decide +kernel
  have hinX3 : ∀ w ∈ u_ws RX3 TX3 8, w ∈ wsX6_ifSent := by decide +kernel
  have hinX6 : ∀ w ∈ u_ws RX6 TX6 5, w ∈ wsX6_ifSent := by decide +kernel
  have lk10 := hts (.fieldLink RX6 10 "MoodDrawers" "desk" "LMoodDrawers$Desk;") (by decide +kernel)
  have lk75 := hts (.fieldLink RX6 75 "MoodDrawers$Desk" "letters" "LMoodDrawers$Letters;") (by decide +kernel)
  have lk98 := hts (.fieldLink RX6 98 "MoodDrawers$Letters" "how" "[I") (by decide +kernel)
  have lk19 := hts (.fieldLink RX6 19 "MoodDrawers" "regrets" "LMoodDrawers$Regrets;") (by decide +kernel)
  have hl := lv_entry ([.ref (a 21), .int p1, .int p2]) (n := 4) (Nat.le_of_ble_eq_true rfl)
  rw [lg_entry_eq]
  generalize (lg_sl ([.ref (a 21), .int p1, .int p2]) ++ List.replicate (4 - (lg_sl ([.ref (a 21), .int p1, .int p2])).length) Slot.unset).toArray = ls at hl ⊢
  have hl : lv_has ls 4 [(0, .ref (a 21)), (1, .int p1), (2, .int p2)] := hl
  refine lv_aload_n hx hb dX6_ifSent_0 rfl (lv_at hl 0 rfl) ?_
  refine va_get (D := G.1) (ci := 6) (v := .ref (a 0)) (C := RX6) (T := TX6) (N := 5) hx hb hts hinX6 hown hK hP 0 rfl rfl 0 (by decide) lk10 (fun _ h9 => h9) rfl dX6_ifSent_1 ?_
  refine va_get (D := G.1) (ci := 0) (v := .ref (a 7)) (C := RX0) (T := TX0) (N := 4) hx hb hts hinX0 hown hK hP 3 rfl rfl 3 (by decide) lk75 (fun _ h9 => h9) rfl dX6_ifSent_4 ?_
  refine lv_astore_n (lv' := [(3, .ref (a 7)), (0, .ref (a 21)), (1, .int p1), (2, .int p2)]) hx hb dX6_ifSent_7 rfl hl (by decide) rfl (fun ls hl => ?_)
  refine lv_aload_n hx hb dX6_ifSent_8 rfl (lv_at hl 0 rfl) ?_
  refine lv_iload_n hx hb dX6_ifSent_9 rfl (lv_at hl 2 rfl) ?_
  refine vp_callSi (W.runV (As := [.int p1]) (rest := []) ⟨hx, hb, hml, hown, hts⟩ (ok_X3_isLetter l G a v0 p1) (cwV 1 hts gX6_ifSent_X3_isLetter rfl rfl rfl (by decide +kernel) ⟨Nat.le_of_ble_eq_true rfl, Nat.le_of_ble_eq_true rfl⟩) ⟨pcR_blind, va_recv hK (hP.sub (ws' := (lettersC G.2 a v0)) [10, 11, 12, 13, 14, 15, 16, 17] rfl) (ci := 3) (q0 := 0) rfl rfl, pcR_pre (hP.sub (ws' := (lettersC G.2 a v0)) [10, 11, 12, 13, 14, 15, 16, 17] rfl) hamb⟩ rfl rfl hl.1 rfl (lv_room (Nat.le_of_ble_eq_true rfl)) dX6_ifSent_10 ⟨Nat.zero_le _, Nat.zero_le _⟩) (fun r10 hw => ?_)
  subst hw
  refine lv_if_eq (tgt := 24) hx hb dX6_ifSent_13 (by decide) (fun c => ?_) (fun c => ?_)
  · have hf := it_1 hf c
    refine lv_iconst (v := (-1)) hx hb dX6_ifSent_24 (by decide) ?_
    exact W.iret (v := (-1)) hx hb hr (fun t ht hW => ⟨⟨(-1), v0, rfl, hf0.trans hf.symm, by rw [ht]; exact hP, hD⟩, hS.F ht⟩) hS.2.2 dX6_ifSent_25
  · have hf := it_2 hf c
    refine lv_aload_n hx hb dX6_ifSent_16 rfl (lv_at hl 0 rfl) ?_
    refine lv_iload_n hx hb dX6_ifSent_17 rfl (lv_at hl 3 rfl) ?_
    refine vp_callSi (W.runV (As := [.int p2]) (rest := []) ⟨hx, hb, hml, hown, hts⟩ (ok_X3_isLetter l G a v0 p2) (cwV 1 hts gX6_ifSent_X3_isLetter rfl rfl rfl (by decide +kernel) ⟨Nat.le_of_ble_eq_true rfl, Nat.le_of_ble_eq_true rfl⟩) ⟨pcR_blind, va_recv hK (hP.sub (ws' := (lettersC G.2 a v0)) [10, 11, 12, 13, 14, 15, 16, 17] rfl) (ci := 3) (q0 := 0) rfl rfl, pcR_pre (hP.sub (ws' := (lettersC G.2 a v0)) [10, 11, 12, 13, 14, 15, 16, 17] rfl) hamb⟩ rfl rfl hl.1 rfl (lv_room (Nat.le_of_ble_eq_true rfl)) dX6_ifSent_18 ⟨Nat.zero_le _, Nat.zero_le _⟩) (fun r18 hw => ?_)
    subst hw
    refine lv_if_ne (tgt := 26) hx hb dX6_ifSent_21 (by decide) (fun c => ?_) (fun c => ?_)
    · have hf := it_2 hf c
      refine lv_aload_n hx hb dX6_ifSent_26 rfl (lv_at hl 0 rfl) ?_
      refine va_get (D := G.1) (ci := 3) (v := .ref (a 12)) (C := RX3) (T := TX3) (N := 8) hx hb hts hinX3 hown hK hP 10 rfl rfl 5 (by decide) lk98 (fun _ h9 => h9) rfl dX6_ifSent_27 ?_
      refine lv_iload_n hx hb dX6_ifSent_30 rfl (lv_at hl 2 rfl) ?_
      obtain ⟨hi, hf⟩ := ck_1 hf hne
      refine va_iald (f := (v0 11)) hx hb hK hP 15 0 rfl rfl (ixb_1 hi) dX6_ifSent_31 ?_
      refine lv_iconst (v := 1) hx hb dX6_ifSent_32 (by decide) ?_
      refine lv_icmp_ne (tgt := 45) hx hb dX6_ifSent_33 (by decide) (fun c => ?_) (fun c => ?_)
      · have hf := it_2 hf c
        refine lv_bipush (v := (-5)) hx hb dX6_ifSent_45 (by decide) ?_
        exact W.iret (v := (-5)) hx hb hr (fun t ht hW => ⟨⟨(-5), v0, rfl, hf0.trans hf.symm, by rw [ht]; exact hP, hD⟩, hS.F ht⟩) hS.2.2 dX6_ifSent_47
      · have hf := it_1 hf c
        refine lv_aload_n hx hb dX6_ifSent_36 rfl (lv_at hl 0 rfl) ?_
        refine va_get (D := G.1) (ci := 3) (v := .ref (a 12)) (C := RX3) (T := TX3) (N := 8) hx hb hts hinX3 hown hK hP 10 rfl rfl 5 (by decide) lk98 (fun _ h9 => h9) rfl dX6_ifSent_37 ?_
        refine lv_iload_n hx hb dX6_ifSent_40 rfl (lv_at hl 3 rfl) ?_
        obtain ⟨hi, hf⟩ := ck_1 hf hne
        refine va_iald (f := (v0 11)) hx hb hK hP 15 0 rfl rfl (ixb_1 hi) dX6_ifSent_41 ?_
        refine lv_if_eq (tgt := 48) hx hb dX6_ifSent_42 (by decide) (fun c => ?_) (fun c => ?_)
        · have hf := it_1 hf c
          refine lv_aload_n hx hb dX6_ifSent_48 rfl (lv_at hl 1 rfl) ?_
          refine va_get (D := G.1) (ci := 6) (v := .ref (a 15)) (C := RX6) (T := TX6) (N := 5) hx hb hts hinX6 hown hK hP 0 rfl rfl 1 (by decide) lk19 (fun _ h9 => h9) rfl dX6_ifSent_49 ?_
          refine lv_aload_n hx hb dX6_ifSent_52 rfl (lv_at hl 1 rfl) ?_
          refine va_get (D := G.1) (ci := 6) (v := .ref (a 0)) (C := RX6) (T := TX6) (N := 5) hx hb hts hinX6 hown hK hP 0 rfl rfl 0 (by decide) lk10 (fun _ h9 => h9) rfl dX6_ifSent_53 ?_
          refine lv_iload_n hx hb dX6_ifSent_56 rfl (lv_at hl 2 rfl) ?_
          refine lv_iload_n hx hb dX6_ifSent_57 rfl (lv_at hl 3 rfl) ?_
          have hn := bd2_1 hf hne
          refine cwi (va_runV (As := [.ref (a 0), .int p1, .int p2]) (rest := []) ⟨hx, hb, hml, hown, hts⟩ (ok_X5_withSent l G a s.heap.size n0 v0 p1 p2 hn) (cwV 3 hts gX6_ifSent_X5_withSent rfl rfl rfl (by decide +kernel) ⟨Nat.le_of_ble_eq_true rfl, Nat.le_of_ble_eq_true rfl⟩) ⟨pcW_blind, va_recv hK (hP.sub (ws' := (regC G.2 a v0)) [1, 2, 3, 4, 5, 6, 7, 8, 9, 10, 11, 12, 13, 14, 15, 16, 17] rfl) (ci := 5) (q0 := 0) rfl rfl, pcW_pre (hP.sub (ws' := (regC G.2 a v0)) [1, 2, 3, 4, 5, 6, 7, 8, 9, 10, 11, 12, 13, 14, 15, 16, 17] rfl) (hD.sub (ws' := (regC G.2 a v0)) [1, 2, 3, 4, 5, 6, 7, 8, 9, 10, 11, 12, 13, 14, 15, 16, 17] (by decide) rfl) hamb⟩ rfl rfl hl.1 rfl (lv_room (Nat.le_of_ble_eq_true rfl)) dX6_ifSent_58 ⟨Nat.zero_le _, Nat.zero_le _⟩) (wr := [(a 21, .inr (6, [.ref (a 0), .ref (a 15), .ref (a 17), .ref (a 19), .ref (a 22)])), (a 17, .inr (4, [.ref (a 18), .int (v0 16 0), .int (v0 17 0), .int (v0 18 0), .int (v0 19 0), .int (v0 20 0), .int (v0 21 0)])), (a 18, .inl (G.2 1, 80, .inl (v0 15))), (a 19, .inr (2, [.ref (a 20), .int (v0 22 0)]))]) hP hD hS hA [1, 2, 3, 4, 5, 6, 7, 8, 9, 10, 11, 12, 13, 14, 15, 16, 17] [0, 18, 19, 20] rfl rfl (by decide) (by decide) (fun r58 v58 H locs hw hP hD hS => ?_)
          have hf := bd2_2 hf hw
          have hP : va_P G.1 vwCl (xcoreC G.2 a (mx [0, 1, 2, 3, 4, 5, 6, 7, 8, 9, 10, 11, 12, 13, 14] v0 v58)) H := hP.sub [0, 4, 5, 6, 7, 8, 9, 10, 11, 12, 13, 14, 15, 16, 17, 18, 19, 20, 1, 2, 3] rfl
          have hD : va_D A (xcoreC G.2 a (mx [0, 1, 2, 3, 4, 5, 6, 7, 8, 9, 10, 11, 12, 13, 14] v0 v58)) := hD.sub [0, 4, 5, 6, 7, 8, 9, 10, 11, 12, 13, 14, 15, 16, 17, 18, 19, 20, 1, 2, 3] (by decide) rfl
          exact W.iret (v := r58) hx hb hr (fun t ht hW => ⟨⟨r58, (mx [0, 1, 2, 3, 4, 5, 6, 7, 8, 9, 10, 11, 12, 13, 14] v0 v58), rfl, hf0.trans hf.symm, by rw [ht]; exact hP, hD⟩, hS.F ht⟩) hS.2.2 dX6_ifSent_61
        · have hf := it_2 hf c
          refine lv_bipush (v := (-5)) hx hb dX6_ifSent_45 (by decide) ?_
          exact W.iret (v := (-5)) hx hb hr (fun t ht hW => ⟨⟨(-5), v0, rfl, hf0.trans hf.symm, by rw [ht]; exact hP, hD⟩, hS.F ht⟩) hS.2.2 dX6_ifSent_47
    · have hf := it_1 hf c
      refine lv_iconst (v := (-1)) hx hb dX6_ifSent_24 (by decide) ?_
      exact W.iret (v := (-1)) hx hb hr (fun t ht hW => ⟨⟨(-1), v0, rfl, hf0.trans hf.symm, by rw [ht]; exact hP, hD⟩, hS.F ht⟩) hS.2.2 dX6_ifSent_25
