set_option maxHeartbeats 4000000 in
set_option maxRecDepth 100000 in
theorem ok_X5_workOut (l : Launch) (G : Gt) (a : Nat → Nat) (sz : Nat) (n0 : Nat) (v0 : DV) (p2 : Int32) (hne : f_X5_workOut n0 v0 p2 ≠ none) : Met l yX5_workOut wsX5_workOut ({ frames := 2, cells := 0, slots := 0, locals := 62 } : Room) (pcW G [.ref (a 15), .ref (a 0), .int p2] (regC G.2 a v0) sz) (va_Qv (fun (u : DV) => f_X5_workOut n0 v0 p2 = some u) (fun u t => atW G (regC G.2 a u) (va_A (regC G.2 a v0) sz) t) (va_A (regC G.2 a v0) sz)) 0 0 (va_A (regC G.2 a v0) sz) := by
  refine Met.ofW (cc := cX5_workOut) (maxL := 6) (ret := none) (by decide) rfl ?_
  intro p e s m args below meth c s₁ B hml hv
  obtain ⟨rfl, hsz, hP, hD0, hamb⟩ := hv
  have hx := B.exec
  have hb := B.bytes
  have hr := B.returns
  have hts := atoms_spec (ws := wsX5_workOut) B.pre
  have hown : s.vm.findClass RX5 = some m.cls := findClass_of_methodNamed B.named
  have hlocks := B.notSynchronized
  have hK := hamb.1
  subst hsz
  have hD := hD0.self (sz := s.heap.size)
  generalize hAe : va_A (regC G.2 a v0) s.heap.size = A at hD ⊢
  have hA : ∀ q : Nat, s.heap.size ≤ q → A q := fun q h => by rw [← hAe]; exact Or.inr h
  have hS : va_S A s.heap s.heap [] := va_S.rf
  obtain ⟨res, hf0⟩ : ∃ res, f_X5_workOut n0 v0 p2 = res := ⟨_, rfl⟩
  have hne : res ≠ none := hf0 ▸ hne
  have hf := hf0
  rw [f_X5_workOut] at hf
  have hinX0 : ∀ w ∈ u_ws RX0 TX0 4, w ∈ wsX5_workOut := by decide +kernel
  have hinX3 : ∀ w ∈ u_ws RX3 TX3 8, w ∈ wsX5_workOut := by decide +kernel
  have hinX5 : ∀ w ∈ u_ws RX5 TX5 1, w ∈ wsX5_workOut := by decide +kernel
  have lk19 := hts (.fieldLink RX5 19 "MoodDrawers$Desk" "letters" "LMoodDrawers$Letters;") (by decide +kernel)
  have lk25 := hts (.fieldLink RX5 25 "MoodDrawers$Letters" "written" "I") (by decide +kernel)
  have lk31 := hts (.fieldLink RX5 31 "MoodDrawers$Letters" "how" "[I") (by decide +kernel)
  have lk9 := hts (.fieldLink RX5 9 "MoodDrawers$Regrets" "regret" "[I") (by decide +kernel)
  have lk38 := hts (.fieldLink RX5 38 "MoodDrawers$Letters" "answered" "[I") (by decide +kernel)
  have lw5 := hts (.methodLink RX5 45 Lib.Math.max.name) (by decide +kernel)
  have lw6 := hts (.static Lib.Math.max.name) (by decide +kernel)
  have lw7 := hts (.initialized "java/lang/Math") (by decide +kernel)
  have lw8 := hts (.code Lib.Math.max.name Lib.Math.max.code 2 (some .int)) (by decide +kernel)
  have hl := lv_entry ([.ref (a 15), .ref (a 0), .int p2]) (n := 6) (Nat.le_of_ble_eq_true rfl)
  rw [lg_entry_eq]
  generalize (lg_sl ([.ref (a 15), .ref (a 0), .int p2]) ++ List.replicate (6 - (lg_sl ([.ref (a 15), .ref (a 0), .int p2])).length) Slot.unset).toArray = ls at hl ⊢
  have hl : lv_has ls 6 [(0, .ref (a 15)), (1, .ref (a 0)), (2, .int p2)] := hl
  have J123 : ∀ (k37 : DV → Int32 → Int32 → Option (DV)) (hk37 : ∀ (v : DV) (x2 : Int32) (x4 : Int32) (H : Heap) (locs : List Loc) (ls : Array Slot), va_P G.1 vwCl (regC G.2 a v) H → va_D A (regC G.2 a v) → va_S A s.heap H locs → lv_has ls 6 [(0, .ref (a 15)), (1, .ref (a 0)), (2, .int x2), (3, .ref (a 7)), (4, .int x4)] → k37 v x2 x4 = res → W p l e (headSpec wsX5_workOut ({ frames := 2, cells := 0, slots := 0, locals := 62 } : Room)).room s m ([.ref (a 15), .ref (a 0), .int p2] : List Value).toArray below meth c H locs 0 0 (MQ below (va_Qv (fun (u : DV) => f_X5_workOut n0 v0 p2 = some u) (fun u t => atW G (regC G.2 a u) A t) A) ([.ref (a 15), .ref (a 0), .int p2] : List Value).toArray s 0 0 A) (F0 m 37 ls [])) (n : Nat) (v : DV) (x2 : Int32) (x4 : Int32) (z0 : Int32) (z1 : Int32) (H : Heap) (locs : List Loc) (ls : Array Slot), va_P G.1 vwCl (regC G.2 a v) H → va_D A (regC G.2 a v) → va_S A s.heap H locs → lv_has ls 6 [(0, .ref (a 15)), (1, .ref (a 0)), (2, .int x2), (3, .ref (a 7)), (4, .int x4)] → f_X5_workOut_J123 k37 n v x2 x4 z0 z1 = res → W p l e (headSpec wsX5_workOut ({ frames := 2, cells := 0, slots := 0, locals := 62 } : Room)).room s m ([.ref (a 15), .ref (a 0), .int p2] : List Value).toArray below meth c H locs 0 0 (MQ below (va_Qv (fun (u : DV) => f_X5_workOut n0 v0 p2 = some u) (fun u t => atW G (regC G.2 a u) A t) A) ([.ref (a 15), .ref (a 0), .int p2] : List Value).toArray s 0 0 A) (F0 m 123 ls [.int z0, .int z1, .ref (a 16)]) := by
    intro k37 hk37 n v x2 x4 z0 z1 H locs ls hP hD hS hl hf
    rw [f_X5_workOut_J123] at hf
    obtain ⟨hi, hf⟩ := ck_1 hf hne
    refine va_iast (f := (v 14)) hx hb hK hP hD hS 1 0 rfl rfl (ixb_1 hi) dX5_workOut_123 (fun H locs hP hD hS => ?_)
    have hP : va_P G.1 vwCl (regC G.2 a (vs v 14 (upd (v 14) (Int32.toNatClampNeg z1) z0))) H := hP
    have hD : va_D A (regC G.2 a (vs v 14 (upd (v 14) (Int32.toNatClampNeg z1) z0))) := hD
    refine lv_iinc (v := (x4 + (-1))) (lv' := [(4, .int (x4 + (-1))), (0, .ref (a 15)), (1, .ref (a 0)), (2, .int x2), (3, .ref (a 7))]) hx hb dX5_workOut_124 hl (k := 4) rfl rfl (by decide) rfl (fun ls hl => ?_)
    refine lv_goto (tgt := 37) hx hb dX5_workOut_127 (by decide) ?_
    exact hk37 (vs v 14 (upd (v 14) (Int32.toNatClampNeg z1) z0)) x2 (x4 + (-1)) H locs ls hP hD hS (lv_sub hl [1, 2, 3, 4, 0] rfl) hf
  have J82 : ∀ (k37 : DV → Int32 → Int32 → Option (DV)) (hk37 : ∀ (v : DV) (x2 : Int32) (x4 : Int32) (H : Heap) (locs : List Loc) (ls : Array Slot), va_P G.1 vwCl (regC G.2 a v) H → va_D A (regC G.2 a v) → va_S A s.heap H locs → lv_has ls 6 [(0, .ref (a 15)), (1, .ref (a 0)), (2, .int x2), (3, .ref (a 7)), (4, .int x4)] → k37 v x2 x4 = res → W p l e (headSpec wsX5_workOut ({ frames := 2, cells := 0, slots := 0, locals := 62 } : Room)).room s m ([.ref (a 15), .ref (a 0), .int p2] : List Value).toArray below meth c H locs 0 0 (MQ below (va_Qv (fun (u : DV) => f_X5_workOut n0 v0 p2 = some u) (fun u t => atW G (regC G.2 a u) A t) A) ([.ref (a 15), .ref (a 0), .int p2] : List Value).toArray s 0 0 A) (F0 m 37 ls [])) (n : Nat) (v : DV) (x2 : Int32) (x4 : Int32) (H : Heap) (locs : List Loc) (ls : Array Slot), va_P G.1 vwCl (regC G.2 a v) H → va_D A (regC G.2 a v) → va_S A s.heap H locs → lv_has ls 6 [(0, .ref (a 15)), (1, .ref (a 0)), (2, .int x2), (3, .ref (a 7)), (4, .int x4)] → f_X5_workOut_J82 k37 n v x2 x4 = res → W p l e (headSpec wsX5_workOut ({ frames := 2, cells := 0, slots := 0, locals := 62 } : Room)).room s m ([.ref (a 15), .ref (a 0), .int p2] : List Value).toArray below meth c H locs 0 0 (MQ below (va_Qv (fun (u : DV) => f_X5_workOut n0 v0 p2 = some u) (fun u t => atW G (regC G.2 a u) A t) A) ([.ref (a 15), .ref (a 0), .int p2] : List Value).toArray s 0 0 A) (F0 m 82 ls []) := by
    intro k37 hk37 n v x2 x4 H locs ls hP hD hS hl hf
    rw [f_X5_workOut_J82] at hf
    refine lv_aload_n hx hb dX5_workOut_82 rfl (lv_at hl 3 rfl) ?_
    refine va_get (D := G.1) (ci := 3) (v := .ref (a 11)) (C := RX3) (T := TX3) (N := 8) hx hb hts hinX3 hown hK hP 9 rfl rfl 4 (by decide) lk38 (fun _ h9 => h9) rfl dX5_workOut_83 ?_
    refine lv_iload hx hb dX5_workOut_86 (lv_at hl 4 rfl) ?_
    obtain ⟨hi, hf⟩ := ck_1 hf hne
    refine va_iald (f := (v 10)) hx hb hK hP 13 0 rfl rfl (ixb_1 hi) dX5_workOut_88 ?_
    refine lv_istore (lv' := [(5, .int ((v 10) (Int32.toNatClampNeg x4))), (0, .ref (a 15)), (1, .ref (a 0)), (2, .int x2), (3, .ref (a 7)), (4, .int x4)]) hx hb dX5_workOut_89 hl (by decide) rfl (fun ls hl => ?_)
    refine lv_aload_n hx hb dX5_workOut_91 rfl (lv_at hl 4 rfl) ?_
    refine lv_iload hx hb dX5_workOut_92 (lv_at hl 0 rfl) ?_
    refine vp_callSi (W.runV (As := [.int ((v 10) (Int32.toNatClampNeg x4))]) (rest := []) ⟨hx, hb, hml, hown, hts⟩ (ok_X3_isLetter l G a v ((v 10) (Int32.toNatClampNeg x4))) (cwV 1 hts gX5_workOut_X3_isLetter rfl rfl rfl (by decide +kernel) ⟨Nat.le_of_ble_eq_true rfl, Nat.le_of_ble_eq_true rfl⟩) ⟨pcR_blind, va_recv hK (hP.sub (ws' := (lettersC G.2 a v)) [9, 10, 11, 12, 13, 14, 15, 16] rfl) (ci := 3) (q0 := 0) rfl rfl, pcR_pre (hP.sub (ws' := (lettersC G.2 a v)) [9, 10, 11, 12, 13, 14, 15, 16] rfl) hamb⟩ rfl rfl hl.1 rfl (lv_room (Nat.le_of_ble_eq_true rfl)) dX5_workOut_94 ⟨Nat.zero_le _, Nat.zero_le _⟩) (fun r94 hw => ?_)
    subst hw
    refine lv_if_eq (tgt := 124) hx hb dX5_workOut_97 (by decide) (fun c => ?_) (fun c => ?_)
    · have hf := it_1 hf c
      refine lv_iinc (v := (x4 + (-1))) (lv' := [(4, .int (x4 + (-1))), (5, .int ((v 10) (Int32.toNatClampNeg x4))), (0, .ref (a 15)), (1, .ref (a 0)), (2, .int x2), (3, .ref (a 7))]) hx hb dX5_workOut_124 hl (k := 5) rfl rfl (by decide) rfl (fun ls hl => ?_)
      refine lv_goto (tgt := 37) hx hb dX5_workOut_127 (by decide) ?_
      exact hk37 v x2 (x4 + (-1)) H locs ls hP hD hS (lv_sub hl [2, 3, 4, 5, 0] rfl) hf
    · have hf := it_2 hf c
      refine lv_aload_n hx hb dX5_workOut_100 rfl (lv_at hl 1 rfl) ?_
      refine va_get (D := G.1) (ci := 5) (v := .ref (a 16)) (C := RX5) (T := TX5) (N := 1) hx hb hts hinX5 hown hK hP 0 rfl rfl 0 (by decide) lk9 (fun _ h9 => h9) rfl dX5_workOut_101 ?_
      refine lv_iload hx hb dX5_workOut_104 (lv_at hl 0 rfl) ?_
      refine lv_aload_n hx hb dX5_workOut_106 rfl (lv_at hl 1 rfl) ?_
      refine va_get (D := G.1) (ci := 5) (v := .ref (a 16)) (C := RX5) (T := TX5) (N := 1) hx hb hts hinX5 hown hK hP 0 rfl rfl 0 (by decide) lk9 (fun _ h9 => h9) rfl dX5_workOut_107 ?_
      refine lv_iload hx hb dX5_workOut_110 (lv_at hl 0 rfl) ?_
      obtain ⟨hi, hf⟩ := ck_1 hf hne
      refine va_iald (f := (v 14)) hx hb hK hP 1 0 rfl rfl (ixb_1 hi) dX5_workOut_112 ?_
      refine lv_aload_n hx hb dX5_workOut_113 rfl (lv_at hl 1 rfl) ?_
      refine va_get (D := G.1) (ci := 5) (v := .ref (a 16)) (C := RX5) (T := TX5) (N := 1) hx hb hts hinX5 hown hK hP 0 rfl rfl 0 (by decide) lk9 (fun _ h9 => h9) rfl dX5_workOut_114 ?_
      refine lv_iload hx hb dX5_workOut_117 (lv_at hl 5 rfl) ?_
      obtain ⟨hi, hf⟩ := ck_1 hf hne
      refine va_iald (f := (v 14)) hx hb hK hP 1 0 rfl rfl (ixb_1 hi) dX5_workOut_119 ?_
      refine va_mmax (rest := [.int ((v 10) (Int32.toNatClampNeg x4)), .ref (a 16)]) hx hb (hml.trans hl.1.symm) hown lw5 lw6 lw7 lw8 (Nat.le_of_ble_eq_true rfl) (Nat.le_of_ble_eq_true rfl) (Nat.zero_le _) (Nat.zero_le _) dX5_workOut_120 ?_
      exact J123 k37 hk37 n v x2 x4 (if ((v 14) (Int32.toNatClampNeg ((v 10) (Int32.toNatClampNeg x4)))) < ((v 14) (Int32.toNatClampNeg x4)) then ((v 14) (Int32.toNatClampNeg x4)) else ((v 14) (Int32.toNatClampNeg ((v 10) (Int32.toNatClampNeg x4))))) ((v 10) (Int32.toNatClampNeg x4)) H locs ls hP hD hS (lv_sub hl [1, 2, 3, 4, 5] rfl) hf
  have J59 : ∀ (k37 : DV → Int32 → Int32 → Option (DV)) (hk37 : ∀ (v : DV) (x2 : Int32) (x4 : Int32) (H : Heap) (locs : List Loc) (ls : Array Slot), va_P G.1 vwCl (regC G.2 a v) H → va_D A (regC G.2 a v) → va_S A s.heap H locs → lv_has ls 6 [(0, .ref (a 15)), (1, .ref (a 0)), (2, .int x2), (3, .ref (a 7)), (4, .int x4)] → k37 v x2 x4 = res → W p l e (headSpec wsX5_workOut ({ frames := 2, cells := 0, slots := 0, locals := 62 } : Room)).room s m ([.ref (a 15), .ref (a 0), .int p2] : List Value).toArray below meth c H locs 0 0 (MQ below (va_Qv (fun (u : DV) => f_X5_workOut n0 v0 p2 = some u) (fun u t => atW G (regC G.2 a u) A t) A) ([.ref (a 15), .ref (a 0), .int p2] : List Value).toArray s 0 0 A) (F0 m 37 ls [])) (n : Nat) (v : DV) (x2 : Int32) (x4 : Int32) (H : Heap) (locs : List Loc) (ls : Array Slot), va_P G.1 vwCl (regC G.2 a v) H → va_D A (regC G.2 a v) → va_S A s.heap H locs → lv_has ls 6 [(0, .ref (a 15)), (1, .ref (a 0)), (2, .int x2), (3, .ref (a 7)), (4, .int x4)] → f_X5_workOut_J59 k37 n v x2 x4 = res → W p l e (headSpec wsX5_workOut ({ frames := 2, cells := 0, slots := 0, locals := 62 } : Room)).room s m ([.ref (a 15), .ref (a 0), .int p2] : List Value).toArray below meth c H locs 0 0 (MQ below (va_Qv (fun (u : DV) => f_X5_workOut n0 v0 p2 = some u) (fun u t => atW G (regC G.2 a u) A t) A) ([.ref (a 15), .ref (a 0), .int p2] : List Value).toArray s 0 0 A) (F0 m 59 ls []) := by
    intro k37 hk37 n v x2 x4 H locs ls hP hD hS hl hf
    rw [f_X5_workOut_J59] at hf
    refine lv_aload_n hx hb dX5_workOut_59 rfl (lv_at hl 0 rfl) ?_
    refine va_get (D := G.1) (ci := 5) (v := .ref (a 16)) (C := RX5) (T := TX5) (N := 1) hx hb hts hinX5 hown hK hP 0 rfl rfl 0 (by decide) lk9 (fun _ h9 => h9) rfl dX5_workOut_60 ?_
    refine lv_iload hx hb dX5_workOut_63 (lv_at hl 4 rfl) ?_
    refine lv_aload_n hx hb dX5_workOut_65 rfl (lv_at hl 1 rfl) ?_
    refine lv_iload hx hb dX5_workOut_66 (lv_at hl 4 rfl) ?_
    have hn := bd1_1 hf hne
    refine vp_callSi (W.runV (As := [.int x4]) (rest := [.int x4, .ref (a 16)]) ⟨hx, hb, hml, hown, hts⟩ (ok_X0_heatNow l G a v x4 hn) (cwV 1 hts gX5_workOut_X0_heatNow rfl rfl rfl (by decide +kernel) ⟨Nat.le_of_ble_eq_true rfl, Nat.le_of_ble_eq_true rfl⟩) ⟨pcR_blind, va_recv hK (hP.sub (ws' := (deskC G.2 a v)) [2, 3, 4, 5, 6, 7, 8, 9, 10, 11, 12, 13, 14, 15, 16] rfl) (ci := 0) (q0 := 0) rfl rfl, pcR_pre (hP.sub (ws' := (deskC G.2 a v)) [2, 3, 4, 5, 6, 7, 8, 9, 10, 11, 12, 13, 14, 15, 16] rfl) hamb⟩ rfl rfl hl.1 rfl (lv_room (Nat.le_of_ble_eq_true rfl)) dX5_workOut_68 ⟨Nat.zero_le _, Nat.zero_le _⟩) (fun r68 hw => ?_)
    have hf := bd1_2 hf hw
    refine lv_aload_n hx hb dX5_workOut_71 rfl (lv_at hl 0 rfl) ?_
    refine va_get (D := G.1) (ci := 5) (v := .ref (a 16)) (C := RX5) (T := TX5) (N := 1) hx hb hts hinX5 hown hK hP 0 rfl rfl 0 (by decide) lk9 (fun _ h9 => h9) rfl dX5_workOut_72 ?_
    refine lv_iload hx hb dX5_workOut_75 (lv_at hl 4 rfl) ?_
    obtain ⟨hi, hf⟩ := ck_1 hf hne
    refine va_iald (f := (v 14)) hx hb hK hP 1 0 rfl rfl (ixb_1 hi) dX5_workOut_77 ?_
    refine lv_iconst (v := 2) hx hb dX5_workOut_78 (by decide) ?_
    refine lv_idiv hx hb dX5_workOut_79 (by decide) ?_
    refine lv_iadd hx hb dX5_workOut_80 ?_
    obtain ⟨hi, hf⟩ := ck_1 hf hne
    refine va_iast (f := (v 14)) hx hb hK hP hD hS 1 0 rfl rfl (ixb_1 hi) dX5_workOut_81 (fun H locs hP hD hS => ?_)
    have hP : va_P G.1 vwCl (regC G.2 a (vs v 14 (upd (v 14) (Int32.toNatClampNeg x4) (r68 + (((v 14) (Int32.toNatClampNeg x4)) / 2))))) H := hP
    have hD : va_D A (regC G.2 a (vs v 14 (upd (v 14) (Int32.toNatClampNeg x4) (r68 + (((v 14) (Int32.toNatClampNeg x4)) / 2))))) := hD
    exact J82 k37 hk37 n (vs v 14 (upd (v 14) (Int32.toNatClampNeg x4) (r68 + (((v 14) (Int32.toNatClampNeg x4)) / 2)))) x2 x4 H locs ls hP hD hS (lv_sub hl [0, 1, 2, 3, 4] rfl) hf
  have L37 : ∀ (n : Nat) (v : DV) (x2 : Int32) (x4 : Int32) (H : Heap) (locs : List Loc) (ls : Array Slot), va_P G.1 vwCl (regC G.2 a v) H → va_D A (regC G.2 a v) → va_S A s.heap H locs → lv_has ls 6 [(0, .ref (a 15)), (1, .ref (a 0)), (2, .int x2), (3, .ref (a 7)), (4, .int x4)] → f_X5_workOut_L37 n v x2 x4 = res → W p l e (headSpec wsX5_workOut ({ frames := 2, cells := 0, slots := 0, locals := 62 } : Room)).room s m ([.ref (a 15), .ref (a 0), .int p2] : List Value).toArray below meth c H locs 0 0 (MQ below (va_Qv (fun (u : DV) => f_X5_workOut n0 v0 p2 = some u) (fun u t => atW G (regC G.2 a u) A t) A) ([.ref (a 15), .ref (a 0), .int p2] : List Value).toArray s 0 0 A) (F0 m 37 ls []) := by
    intro n
    induction n with
    | zero => intro v x2 x4 H locs ls hP hD hS hl hf; exact (none_1 hf hne).elim
    | succ n ih =>
      intro v x2 x4 H locs ls hP hD hS hl hf
      rw [f_X5_workOut_L37] at hf
      refine lv_iload hx hb dX5_workOut_37 (lv_at hl 4 rfl) ?_
      refine lv_if_lt (tgt := 130) hx hb dX5_workOut_39 (by decide) (fun c => ?_) (fun c => ?_)
      · have hf := it_1 hf c
        exact W.vret hx hb hr (fun t ht hW => ⟨⟨v, rfl, hf0.trans hf.symm, by rw [ht]; exact hP, hD⟩, hS.F ht⟩) hS.2.2 dX5_workOut_130
      · have hf := it_2 hf c
        refine lv_aload_n hx hb dX5_workOut_42 rfl (lv_at hl 3 rfl) ?_
        refine va_get (D := G.1) (ci := 3) (v := .ref (a 12)) (C := RX3) (T := TX3) (N := 8) hx hb hts hinX3 hown hK hP 9 rfl rfl 5 (by decide) lk31 (fun _ h9 => h9) rfl dX5_workOut_43 ?_
        refine lv_iload hx hb dX5_workOut_46 (lv_at hl 4 rfl) ?_
        obtain ⟨hi, hf⟩ := ck_1 hf hne
        refine va_iald (f := (v 11)) hx hb hK hP 14 0 rfl rfl (ixb_1 hi) dX5_workOut_48 ?_
        refine lv_iconst (v := 1) hx hb dX5_workOut_49 (by decide) ?_
        refine lv_icmp_eq (tgt := 59) hx hb dX5_workOut_50 (by decide) (fun c => ?_) (fun c => ?_)
        · have hf := it_1 hf c
          exact J59 (fun v x2 x4 => f_X5_workOut_L37 n v x2 x4) ih n v x2 x4 H locs ls hP hD hS (lv_sub hl [0, 1, 2, 3, 4] rfl) hf
        · have hf := it_2 hf c
          refine lv_iload hx hb dX5_workOut_53 (lv_at hl 4 rfl) ?_
          refine lv_iload_n hx hb dX5_workOut_55 rfl (lv_at hl 2 rfl) ?_
          refine lv_icmp_ne (tgt := 124) hx hb dX5_workOut_56 (by decide) (fun c => ?_) (fun c => ?_)
          · have hf := it_2 hf c
            refine lv_iinc (v := (x4 + (-1))) (lv' := [(4, .int (x4 + (-1))), (0, .ref (a 15)), (1, .ref (a 0)), (2, .int x2), (3, .ref (a 7))]) hx hb dX5_workOut_124 hl (k := 4) rfl rfl (by decide) rfl (fun ls hl => ?_)
            refine lv_goto (tgt := 37) hx hb dX5_workOut_127 (by decide) ?_
            exact ih v x2 (x4 + (-1)) H locs ls hP hD hS (lv_sub hl [1, 2, 3, 4, 0] rfl) hf
          · have hf := it_1 hf c
            exact J59 (fun v x2 x4 => f_X5_workOut_L37 n v x2 x4) ih n v x2 x4 H locs ls hP hD hS (lv_sub hl [0, 1, 2, 3, 4] rfl) hf
  have L8 : ∀ (n : Nat) (v : DV) (x2 : Int32) (x4 : Int32) (H : Heap) (locs : List Loc) (ls : Array Slot), va_P G.1 vwCl (regC G.2 a v) H → va_D A (regC G.2 a v) → va_S A s.heap H locs → lv_has ls 6 [(0, .ref (a 15)), (1, .ref (a 0)), (2, .int x2), (3, .ref (a 7)), (4, .int x4)] → f_X5_workOut_L8 n v x2 x4 = res → W p l e (headSpec wsX5_workOut ({ frames := 2, cells := 0, slots := 0, locals := 62 } : Room)).room s m ([.ref (a 15), .ref (a 0), .int p2] : List Value).toArray below meth c H locs 0 0 (MQ below (va_Qv (fun (u : DV) => f_X5_workOut n0 v0 p2 = some u) (fun u t => atW G (regC G.2 a u) A t) A) ([.ref (a 15), .ref (a 0), .int p2] : List Value).toArray s 0 0 A) (F0 m 8 ls []) := by
    intro n
    induction n with
    | zero => intro v x2 x4 H locs ls hP hD hS hl hf; exact (none_1 hf hne).elim
    | succ n ih =>
      intro v x2 x4 H locs ls hP hD hS hl hf
      rw [f_X5_workOut_L8] at hf
      refine lv_iload hx hb dX5_workOut_8 (lv_at hl 4 rfl) ?_
      refine lv_bipush (v := 30) hx hb dX5_workOut_10 (by decide) ?_
      refine lv_icmp_ge (tgt := 29) hx hb dX5_workOut_12 (by decide) (fun c => ?_) (fun c => ?_)
      · have hf := it_1 hf c
        refine lv_aload_n hx hb dX5_workOut_29 rfl (lv_at hl 3 rfl) ?_
        refine va_get (D := G.1) (ci := 3) (v := .int (v 1 0)) (C := RX3) (T := TX3) (N := 8) hx hb hts hinX3 hown hK hP 9 rfl rfl 0 (by decide) lk25 (fun _ h9 => h9) rfl dX5_workOut_30 ?_
        refine lv_iconst (v := 1) hx hb dX5_workOut_33 (by decide) ?_
        refine lv_isub hx hb dX5_workOut_34 ?_
        refine lv_istore (lv' := [(4, .int ((v 1 0) - 1)), (0, .ref (a 15)), (1, .ref (a 0)), (2, .int x2), (3, .ref (a 7))]) hx hb dX5_workOut_35 hl (by decide) rfl (fun ls hl => ?_)
        exact L37 n v x2 ((v 1 0) - 1) H locs ls hP hD hS (lv_sub hl [1, 2, 3, 4, 0] rfl) hf
      · have hf := it_2 hf c
        refine lv_aload_n hx hb dX5_workOut_15 rfl (lv_at hl 0 rfl) ?_
        refine va_get (D := G.1) (ci := 5) (v := .ref (a 16)) (C := RX5) (T := TX5) (N := 1) hx hb hts hinX5 hown hK hP 0 rfl rfl 0 (by decide) lk9 (fun _ h9 => h9) rfl dX5_workOut_16 ?_
        refine lv_iload hx hb dX5_workOut_19 (lv_at hl 4 rfl) ?_
        refine lv_iconst (v := 0) hx hb dX5_workOut_21 (by decide) ?_
        obtain ⟨hi, hf⟩ := ck_1 hf hne
        refine va_iast (f := (v 14)) hx hb hK hP hD hS 1 0 rfl rfl (ixb_1 hi) dX5_workOut_22 (fun H locs hP hD hS => ?_)
        have hP : va_P G.1 vwCl (regC G.2 a (vs v 14 (upd (v 14) (Int32.toNatClampNeg x4) 0))) H := hP
        have hD : va_D A (regC G.2 a (vs v 14 (upd (v 14) (Int32.toNatClampNeg x4) 0))) := hD
        refine lv_iinc (v := (x4 + 1)) (lv' := [(4, .int (x4 + 1)), (0, .ref (a 15)), (1, .ref (a 0)), (2, .int x2), (3, .ref (a 7))]) hx hb dX5_workOut_23 hl (k := 4) rfl rfl (by decide) rfl (fun ls hl => ?_)
        refine lv_goto (tgt := 8) hx hb dX5_workOut_26 (by decide) ?_
        exact ih (vs v 14 (upd (v 14) (Int32.toNatClampNeg x4) 0)) x2 (x4 + 1) H locs ls hP hD hS (lv_sub hl [1, 2, 3, 4, 0] rfl) hf
  refine lv_aload_n hx hb dX5_workOut_0 rfl (lv_at hl 1 rfl) ?_
  refine va_get (D := G.1) (ci := 0) (v := .ref (a 7)) (C := RX0) (T := TX0) (N := 4) hx hb hts hinX0 hown hK hP 2 rfl rfl 3 (by decide) lk19 (fun _ h9 => h9) rfl dX5_workOut_1 ?_
  refine lv_astore_n (lv' := [(3, .ref (a 7)), (0, .ref (a 15)), (1, .ref (a 0)), (2, .int p2)]) hx hb dX5_workOut_4 rfl hl (by decide) rfl (fun ls hl => ?_)
  refine lv_iconst (v := 0) hx hb dX5_workOut_5 (by decide) ?_
  refine lv_istore (lv' := [(4, .int 0), (3, .ref (a 7)), (0, .ref (a 15)), (1, .ref (a 0)), (2, .int p2)]) hx hb dX5_workOut_6 hl (by decide) rfl (fun ls hl => ?_)
  exact L8 n0 v0 p2 0 s.heap [] ls hP hD hS (lv_sub hl [2, 3, 4, 1, 0] rfl) hf
set_option maxHeartbeats 4000000 in
set_option maxRecDepth 100000 in
theorem ok_X5_ofSent (l : Launch) (G : Gt) (a : Nat → Nat) (sz : Nat) (n0 : Nat) (v0 : DV) (p2 : Int32) (hne : f_X5_ofSent n0 v0 p2 ≠ none) : Met l yX5_ofSent wsX5_ofSent ({ frames := 3, cells := 0, slots := 0, locals := 87 } : Room) (pcW G [.ref (a 15), .ref (a 0), .int p2] (regC G.2 a v0) sz) (va_Qi (fun r (u : DV) => f_X5_ofSent n0 v0 p2 = some (r, u)) (fun u t => atW G (regC G.2 a u) (va_A (regC G.2 a v0) sz) t) (va_A (regC G.2 a v0) sz)) 0 0 (va_A (regC G.2 a v0) sz) := by
  refine Met.ofW (cc := cX5_ofSent) (maxL := 3) (ret := (some .int)) (by decide) rfl ?_
  intro p e s m args below meth c s₁ B hml hv
  obtain ⟨rfl, hsz, hP, hD0, hamb⟩ := hv
  have hx := B.exec
  have hb := B.bytes
  have hr := B.returns
  have hts := atoms_spec (ws := wsX5_ofSent) B.pre
  have hown : s.vm.findClass RX5 = some m.cls := findClass_of_methodNamed B.named
  have hlocks := B.notSynchronized
  have hK := hamb.1
  subst hsz
  have hD := hD0.self (sz := s.heap.size)
  generalize hAe : va_A (regC G.2 a v0) s.heap.size = A at hD ⊢
  have hA : ∀ q : Nat, s.heap.size ≤ q → A q := fun q h => by rw [← hAe]; exact Or.inr h
  have hS : va_S A s.heap s.heap [] := va_S.rf
  obtain ⟨res, hf0⟩ : ∃ res, f_X5_ofSent n0 v0 p2 = res := ⟨_, rfl⟩
  have hne : res ≠ none := hf0 ▸ hne
  have hf := hf0
  rw [f_X5_ofSent] at hf
  have hinX5 : ∀ w ∈ u_ws RX5 TX5 1, w ∈ wsX5_ofSent := by decide +kernel
  have lk9 := hts (.fieldLink RX5 9 "MoodDrawers$Regrets" "regret" "[I") (by decide +kernel)
  have hl := lv_entry ([.ref (a 15), .ref (a 0), .int p2]) (n := 3) (Nat.le_of_ble_eq_true rfl)
  rw [lg_entry_eq]
  generalize (lg_sl ([.ref (a 15), .ref (a 0), .int p2]) ++ List.replicate (3 - (lg_sl ([.ref (a 15), .ref (a 0), .int p2])).length) Slot.unset).toArray = ls at hl ⊢
  have hl : lv_has ls 3 [(0, .ref (a 15)), (1, .ref (a 0)), (2, .int p2)] := hl
  refine lv_aload_n hx hb dX5_ofSent_0 rfl (lv_at hl 0 rfl) ?_
  refine lv_aload_n hx hb dX5_ofSent_1 rfl (lv_at hl 1 rfl) ?_
  refine lv_bipush (v := (-6)) hx hb dX5_ofSent_2 (by decide) ?_
  have hn := bd1_1 hf hne
  refine cwv (va_runV (As := [.ref (a 0), .int (-6)]) (rest := []) ⟨hx, hb, hml, hown, hts⟩ (ok_X5_workOut l G a s.heap.size n0 v0 (-6) hn) (cwV 2 hts gX5_ofSent_X5_workOut rfl rfl rfl (by decide +kernel) ⟨Nat.le_of_ble_eq_true rfl, Nat.le_of_ble_eq_true rfl⟩) ⟨pcW_blind, va_recv hK hP (ci := 5) (q0 := 0) rfl rfl, pcW_pre hP hD hamb⟩ rfl rfl hl.1 rfl (lv_room (Nat.le_of_ble_eq_true rfl)) dX5_ofSent_4 ⟨Nat.zero_le _, Nat.zero_le _⟩) (wr := []) hP hD hS hA [0, 1, 2, 3, 4, 5, 6, 7, 8, 9, 10, 11, 12, 13, 14, 15, 16] [] rfl rfl (by decide) (by decide) (fun v4 H locs hw hP hD hS => ?_)
  have hf := bd1_2 hf hw
  have hP : va_P G.1 vwCl (regC G.2 a v4) H := hP
  have hD : va_D A (regC G.2 a v4) := hD
  refine lv_aload_n hx hb dX5_ofSent_7 rfl (lv_at hl 0 rfl) ?_
  refine va_get (D := G.1) (ci := 5) (v := .ref (a 16)) (C := RX5) (T := TX5) (N := 1) hx hb hts hinX5 hown hK hP 0 rfl rfl 0 (by decide) lk9 (fun _ h9 => h9) rfl dX5_ofSent_8 ?_
  refine lv_iload_n hx hb dX5_ofSent_11 rfl (lv_at hl 2 rfl) ?_
  obtain ⟨hi, hf⟩ := ck_1 hf hne
  refine va_iald (f := (v4 14)) hx hb hK hP 1 0 rfl rfl (ixb_1 hi) dX5_ofSent_12 ?_
  exact W.iret (v := ((v4 14) (Int32.toNatClampNeg p2))) hx hb hr (fun t ht hW => ⟨⟨((v4 14) (Int32.toNatClampNeg p2)), v4, rfl, hf0.trans hf.symm, by rw [ht]; exact hP, hD⟩, hS.F ht⟩) hS.2.2 dX5_ofSent_13
set_option maxHeartbeats 4000000 in
set_option maxRecDepth 100000 in
theorem ok_X5_withSent (l : Launch) (G : Gt) (a : Nat → Nat) (sz : Nat) (n0 : Nat) (v0 : DV) (p2 : Int32) (p3 : Int32) (hne : f_X5_withSent n0 v0 p2 p3 ≠ none) : Met l yX5_withSent wsX5_withSent ({ frames := 3, cells := 0, slots := 0, locals := 87 } : Room) (pcW G [.ref (a 15), .ref (a 0), .int p2, .int p3] (regC G.2 a v0) sz) (va_Qi (fun r (u : DV) => f_X5_withSent n0 v0 p2 p3 = some (r, u)) (fun u t => atW G (regC G.2 a u) (va_A (regC G.2 a v0) sz) t) (va_A (regC G.2 a v0) sz)) 0 0 (va_A (regC G.2 a v0) sz) := by
  refine Met.ofW (cc := cX5_withSent) (maxL := 4) (ret := (some .int)) (by decide) rfl ?_
  intro p e s m args below meth c s₁ B hml hv
  obtain ⟨rfl, hsz, hP, hD0, hamb⟩ := hv
  have hx := B.exec
  have hb := B.bytes
  have hr := B.returns
  have hts := atoms_spec (ws := wsX5_withSent) B.pre
  have hown : s.vm.findClass RX5 = some m.cls := findClass_of_methodNamed B.named
  have hlocks := B.notSynchronized
  have hK := hamb.1
  subst hsz
  have hD := hD0.self (sz := s.heap.size)
  generalize hAe : va_A (regC G.2 a v0) s.heap.size = A at hD ⊢
  have hA : ∀ q : Nat, s.heap.size ≤ q → A q := fun q h => by rw [← hAe]; exact Or.inr h
  have hS : va_S A s.heap s.heap [] := va_S.rf
  obtain ⟨res, hf0⟩ : ∃ res, f_X5_withSent n0 v0 p2 p3 = res := ⟨_, rfl⟩
  have hne : res ≠ none := hf0 ▸ hne
  have hf := hf0
  rw [f_X5_withSent] at hf
  have hinX5 : ∀ w ∈ u_ws RX5 TX5 1, w ∈ wsX5_withSent := by decide +kernel
  have lk9 := hts (.fieldLink RX5 9 "MoodDrawers$Regrets" "regret" "[I") (by decide +kernel)
  have hl := lv_entry ([.ref (a 15), .ref (a 0), .int p2, .int p3]) (n := 4) (Nat.le_of_ble_eq_true rfl)
  rw [lg_entry_eq]
  generalize (lg_sl ([.ref (a 15), .ref (a 0), .int p2, .int p3]) ++ List.replicate (4 - (lg_sl ([.ref (a 15), .ref (a 0), .int p2, .int p3])).length) Slot.unset).toArray = ls at hl ⊢
  have hl : lv_has ls 4 [(0, .ref (a 15)), (1, .ref (a 0)), (2, .int p2), (3, .int p3)] := hl
  refine lv_aload_n hx hb dX5_withSent_0 rfl (lv_at hl 0 rfl) ?_
  refine lv_aload_n hx hb dX5_withSent_1 rfl (lv_at hl 1 rfl) ?_
  refine lv_iload_n hx hb dX5_withSent_2 rfl (lv_at hl 3 rfl) ?_
  have hn := bd1_1 hf hne
  refine cwv (va_runV (As := [.ref (a 0), .int p3]) (rest := []) ⟨hx, hb, hml, hown, hts⟩ (ok_X5_workOut l G a s.heap.size n0 v0 p3 hn) (cwV 2 hts gX5_withSent_X5_workOut rfl rfl rfl (by decide +kernel) ⟨Nat.le_of_ble_eq_true rfl, Nat.le_of_ble_eq_true rfl⟩) ⟨pcW_blind, va_recv hK hP (ci := 5) (q0 := 0) rfl rfl, pcW_pre hP hD hamb⟩ rfl rfl hl.1 rfl (lv_room (Nat.le_of_ble_eq_true rfl)) dX5_withSent_3 ⟨Nat.zero_le _, Nat.zero_le _⟩) (wr := []) hP hD hS hA [0, 1, 2, 3, 4, 5, 6, 7, 8, 9, 10, 11, 12, 13, 14, 15, 16] [] rfl rfl (by decide) (by decide) (fun v3 H locs hw hP hD hS => ?_)
  have hf := bd1_2 hf hw
  have hP : va_P G.1 vwCl (regC G.2 a v3) H := hP
  have hD : va_D A (regC G.2 a v3) := hD
  refine lv_aload_n hx hb dX5_withSent_6 rfl (lv_at hl 0 rfl) ?_
  refine va_get (D := G.1) (ci := 5) (v := .ref (a 16)) (C := RX5) (T := TX5) (N := 1) hx hb hts hinX5 hown hK hP 0 rfl rfl 0 (by decide) lk9 (fun _ h9 => h9) rfl dX5_withSent_7 ?_
  refine lv_iload_n hx hb dX5_withSent_10 rfl (lv_at hl 2 rfl) ?_
  obtain ⟨hi, hf⟩ := ck_1 hf hne
  refine va_iald (f := (v3 14)) hx hb hK hP 1 0 rfl rfl (ixb_1 hi) dX5_withSent_11 ?_
  exact W.iret (v := ((v3 14) (Int32.toNatClampNeg p2))) hx hb hr (fun t ht hW => ⟨⟨((v3 14) (Int32.toNatClampNeg p2)), v3, rfl, hf0.trans hf.symm, by rw [ht]; exact hP, hD⟩, hS.F ht⟩) hS.2.2 dX5_withSent_12
set_option maxHeartbeats 4000000 in
set_option maxRecDepth 100000 in
theorem ok_X5_greatest (l : Launch) (G : Gt) (a : Nat → Nat) (sz : Nat) (n0 : Nat) (v0 : DV) (hne : f_X5_greatest n0 v0 ≠ none) : Met l yX5_greatest wsX5_greatest ({ frames := 3, cells := 0, slots := 0, locals := 87 } : Room) (pcW G [.ref (a 15), .ref (a 0)] (regC G.2 a v0) sz) (va_Qi (fun r (u : DV) => f_X5_greatest n0 v0 = some (r, u)) (fun u t => atW G (regC G.2 a u) (va_A (regC G.2 a v0) sz) t) (va_A (regC G.2 a v0) sz)) 0 0 (va_A (regC G.2 a v0) sz) := by
  refine Met.ofW (cc := cX5_greatest) (maxL := 5) (ret := (some .int)) (by decide) rfl ?_
  intro p e s m args below meth c s₁ B hml hv
  obtain ⟨rfl, hsz, hP, hD0, hamb⟩ := hv
  have hx := B.exec
  have hb := B.bytes
  have hr := B.returns
  have hts := atoms_spec (ws := wsX5_greatest) B.pre
  have hown : s.vm.findClass RX5 = some m.cls := findClass_of_methodNamed B.named
  have hlocks := B.notSynchronized
  have hK := hamb.1
  subst hsz
  have hD := hD0.self (sz := s.heap.size)
  generalize hAe : va_A (regC G.2 a v0) s.heap.size = A at hD ⊢
  have hA : ∀ q : Nat, s.heap.size ≤ q → A q := fun q h => by rw [← hAe]; exact Or.inr h
  have hS : va_S A s.heap s.heap [] := va_S.rf
  obtain ⟨res, hf0⟩ : ∃ res, f_X5_greatest n0 v0 = res := ⟨_, rfl⟩
  have hne : res ≠ none := hf0 ▸ hne
  have hf := hf0
  rw [f_X5_greatest] at hf
  have hinX0 : ∀ w ∈ u_ws RX0 TX0 4, w ∈ wsX5_greatest := by decide +kernel
  have hinX3 : ∀ w ∈ u_ws RX3 TX3 8, w ∈ wsX5_greatest := by decide +kernel
  have hinX5 : ∀ w ∈ u_ws RX5 TX5 1, w ∈ wsX5_greatest := by decide +kernel
  have lk19 := hts (.fieldLink RX5 19 "MoodDrawers$Desk" "letters" "LMoodDrawers$Letters;") (by decide +kernel)
  have lk25 := hts (.fieldLink RX5 25 "MoodDrawers$Letters" "written" "I") (by decide +kernel)
  have lk31 := hts (.fieldLink RX5 31 "MoodDrawers$Letters" "how" "[I") (by decide +kernel)
  have lk9 := hts (.fieldLink RX5 9 "MoodDrawers$Regrets" "regret" "[I") (by decide +kernel)
  have hl := lv_entry ([.ref (a 15), .ref (a 0)]) (n := 5) (Nat.le_of_ble_eq_true rfl)
  rw [lg_entry_eq]
  generalize (lg_sl ([.ref (a 15), .ref (a 0)]) ++ List.replicate (5 - (lg_sl ([.ref (a 15), .ref (a 0)])).length) Slot.unset).toArray = ls at hl ⊢
  have hl : lv_has ls 5 [(0, .ref (a 15)), (1, .ref (a 0))] := hl
  have L15 : ∀ (n : Nat) (v : DV) (x2 : Int32) (x3 : Int32) (x4 : Int32) (H : Heap) (locs : List Loc) (ls : Array Slot), va_P G.1 vwCl (regC G.2 a v) H → va_D A (regC G.2 a v) → va_S A s.heap H locs → lv_has ls 5 [(0, .ref (a 15)), (1, .ref (a 0)), (2, .int x2), (3, .int x3), (4, .int x4)] → f_X5_greatest_L15 n v x2 x3 x4 = res → W p l e (headSpec wsX5_greatest ({ frames := 3, cells := 0, slots := 0, locals := 87 } : Room)).room s m ([.ref (a 15), .ref (a 0)] : List Value).toArray below meth c H locs 0 0 (MQ below (va_Qi (fun r (u : DV) => f_X5_greatest n0 v0 = some (r, u)) (fun u t => atW G (regC G.2 a u) A t) A) ([.ref (a 15), .ref (a 0)] : List Value).toArray s 0 0 A) (F0 m 15 ls []) := by
    intro n
    induction n with
    | zero => intro v x2 x3 x4 H locs ls hP hD hS hl hf; exact (none_1 hf hne).elim
    | succ n ih =>
      intro v x2 x3 x4 H locs ls hP hD hS hl hf
      rw [f_X5_greatest_L15] at hf
      refine lv_iload hx hb dX5_greatest_15 (lv_at hl 4 rfl) ?_
      refine lv_aload_n hx hb dX5_greatest_17 rfl (lv_at hl 1 rfl) ?_
      refine va_get (D := G.1) (ci := 0) (v := .ref (a 7)) (C := RX0) (T := TX0) (N := 4) hx hb hts hinX0 hown hK hP 2 rfl rfl 3 (by decide) lk19 (fun _ h9 => h9) rfl dX5_greatest_18 ?_
      refine va_get (D := G.1) (ci := 3) (v := .int (v 1 0)) (C := RX3) (T := TX3) (N := 8) hx hb hts hinX3 hown hK hP 9 rfl rfl 0 (by decide) lk25 (fun _ h9 => h9) rfl dX5_greatest_21 ?_
      refine lv_icmp_ge (tgt := 69) hx hb dX5_greatest_24 (by decide) (fun c => ?_) (fun c => ?_)
      · have hf := it_1 hf c
        refine lv_iload_n hx hb dX5_greatest_69 rfl (lv_at hl 2 rfl) ?_
        exact W.iret (v := x2) hx hb hr (fun t ht hW => ⟨⟨x2, v, rfl, hf0.trans hf.symm, by rw [ht]; exact hP, hD⟩, hS.F ht⟩) hS.2.2 dX5_greatest_70
      · have hf := it_2 hf c
        refine lv_aload_n hx hb dX5_greatest_27 rfl (lv_at hl 1 rfl) ?_
        refine va_get (D := G.1) (ci := 0) (v := .ref (a 7)) (C := RX0) (T := TX0) (N := 4) hx hb hts hinX0 hown hK hP 2 rfl rfl 3 (by decide) lk19 (fun _ h9 => h9) rfl dX5_greatest_28 ?_
        refine va_get (D := G.1) (ci := 3) (v := .ref (a 12)) (C := RX3) (T := TX3) (N := 8) hx hb hts hinX3 hown hK hP 9 rfl rfl 5 (by decide) lk31 (fun _ h9 => h9) rfl dX5_greatest_31 ?_
        refine lv_iload hx hb dX5_greatest_34 (lv_at hl 4 rfl) ?_
        obtain ⟨hi, hf⟩ := ck_1 hf hne
        refine va_iald (f := (v 11)) hx hb hK hP 14 0 rfl rfl (ixb_1 hi) dX5_greatest_36 ?_
        refine lv_iconst (v := 1) hx hb dX5_greatest_37 (by decide) ?_
        refine lv_icmp_ne (tgt := 63) hx hb dX5_greatest_38 (by decide) (fun c => ?_) (fun c => ?_)
        · have hf := it_2 hf c
          refine lv_iinc (v := (x4 + 1)) (lv' := [(4, .int (x4 + 1)), (0, .ref (a 15)), (1, .ref (a 0)), (2, .int x2), (3, .int x3)]) hx hb dX5_greatest_63 hl (k := 4) rfl rfl (by decide) rfl (fun ls hl => ?_)
          refine lv_goto (tgt := 15) hx hb dX5_greatest_66 (by decide) ?_
          exact ih v x2 x3 (x4 + 1) H locs ls hP hD hS (lv_sub hl [1, 2, 3, 4, 0] rfl) hf
        · have hf := it_1 hf c
          refine lv_aload_n hx hb dX5_greatest_41 rfl (lv_at hl 0 rfl) ?_
          refine va_get (D := G.1) (ci := 5) (v := .ref (a 16)) (C := RX5) (T := TX5) (N := 1) hx hb hts hinX5 hown hK hP 0 rfl rfl 0 (by decide) lk9 (fun _ h9 => h9) rfl dX5_greatest_42 ?_
          refine lv_iload hx hb dX5_greatest_45 (lv_at hl 4 rfl) ?_
          obtain ⟨hi, hf⟩ := ck_1 hf hne
          refine va_iald (f := (v 14)) hx hb hK hP 1 0 rfl rfl (ixb_1 hi) dX5_greatest_47 ?_
          refine lv_iload_n hx hb dX5_greatest_48 rfl (lv_at hl 3 rfl) ?_
          refine lv_icmp_le (tgt := 63) hx hb dX5_greatest_49 (by decide) (fun c => ?_) (fun c => ?_)
          · have hf := it_1 hf c
            refine lv_iinc (v := (x4 + 1)) (lv' := [(4, .int (x4 + 1)), (0, .ref (a 15)), (1, .ref (a 0)), (2, .int x2), (3, .int x3)]) hx hb dX5_greatest_63 hl (k := 4) rfl rfl (by decide) rfl (fun ls hl => ?_)
            refine lv_goto (tgt := 15) hx hb dX5_greatest_66 (by decide) ?_
            exact ih v x2 x3 (x4 + 1) H locs ls hP hD hS (lv_sub hl [1, 2, 3, 4, 0] rfl) hf
          · have hf := it_2 hf c
            refine lv_iload hx hb dX5_greatest_52 (lv_at hl 4 rfl) ?_
            refine lv_istore_n (lv' := [(2, .int x4), (0, .ref (a 15)), (1, .ref (a 0)), (3, .int x3), (4, .int x4)]) hx hb dX5_greatest_54 rfl hl (by decide) rfl (fun ls hl => ?_)
            refine lv_aload_n hx hb dX5_greatest_55 rfl (lv_at hl 1 rfl) ?_
            refine va_get (D := G.1) (ci := 5) (v := .ref (a 16)) (C := RX5) (T := TX5) (N := 1) hx hb hts hinX5 hown hK hP 0 rfl rfl 0 (by decide) lk9 (fun _ h9 => h9) rfl dX5_greatest_56 ?_
            refine lv_iload hx hb dX5_greatest_59 (lv_at hl 4 rfl) ?_
            obtain ⟨hi, hf⟩ := ck_1 hf hne
            refine va_iald (f := (v 14)) hx hb hK hP 1 0 rfl rfl (ixb_1 hi) dX5_greatest_61 ?_
            refine lv_istore_n (lv' := [(3, .int ((v 14) (Int32.toNatClampNeg x4))), (2, .int x4), (0, .ref (a 15)), (1, .ref (a 0)), (4, .int x4)]) hx hb dX5_greatest_62 rfl hl (by decide) rfl (fun ls hl => ?_)
            refine lv_iinc (v := (x4 + 1)) (lv' := [(4, .int (x4 + 1)), (3, .int ((v 14) (Int32.toNatClampNeg x4))), (2, .int x4), (0, .ref (a 15)), (1, .ref (a 0))]) hx hb dX5_greatest_63 hl (k := 4) rfl rfl (by decide) rfl (fun ls hl => ?_)
            refine lv_goto (tgt := 15) hx hb dX5_greatest_66 (by decide) ?_
            exact ih v x4 ((v 14) (Int32.toNatClampNeg x4)) (x4 + 1) H locs ls hP hD hS (lv_sub hl [3, 4, 2, 1, 0] rfl) hf
  refine lv_aload_n hx hb dX5_greatest_0 rfl (lv_at hl 0 rfl) ?_
  refine lv_aload_n hx hb dX5_greatest_1 rfl (lv_at hl 1 rfl) ?_
  refine lv_bipush (v := (-6)) hx hb dX5_greatest_2 (by decide) ?_
  have hn := bd1_1 hf hne
  refine cwv (va_runV (As := [.ref (a 0), .int (-6)]) (rest := []) ⟨hx, hb, hml, hown, hts⟩ (ok_X5_workOut l G a s.heap.size n0 v0 (-6) hn) (cwV 2 hts gX5_greatest_X5_workOut rfl rfl rfl (by decide +kernel) ⟨Nat.le_of_ble_eq_true rfl, Nat.le_of_ble_eq_true rfl⟩) ⟨pcW_blind, va_recv hK hP (ci := 5) (q0 := 0) rfl rfl, pcW_pre hP hD hamb⟩ rfl rfl hl.1 rfl (lv_room (Nat.le_of_ble_eq_true rfl)) dX5_greatest_4 ⟨Nat.zero_le _, Nat.zero_le _⟩) (wr := []) hP hD hS hA [0, 1, 2, 3, 4, 5, 6, 7, 8, 9, 10, 11, 12, 13, 14, 15, 16] [] rfl rfl (by decide) (by decide) (fun v4 H locs hw hP hD hS => ?_)
  have hf := bd1_2 hf hw
  have hP : va_P G.1 vwCl (regC G.2 a v4) H := hP
  have hD : va_D A (regC G.2 a v4) := hD
  refine lv_bipush (v := (-6)) hx hb dX5_greatest_7 (by decide) ?_
  refine lv_istore_n (lv' := [(2, .int (-6)), (0, .ref (a 15)), (1, .ref (a 0))]) hx hb dX5_greatest_9 rfl hl (by decide) rfl (fun ls hl => ?_)
  refine lv_iconst (v := (-1)) hx hb dX5_greatest_10 (by decide) ?_
  refine lv_istore_n (lv' := [(3, .int (-1)), (2, .int (-6)), (0, .ref (a 15)), (1, .ref (a 0))]) hx hb dX5_greatest_11 rfl hl (by decide) rfl (fun ls hl => ?_)
  refine lv_iconst (v := 0) hx hb dX5_greatest_12 (by decide) ?_
  refine lv_istore (lv' := [(4, .int 0), (3, .int (-1)), (2, .int (-6)), (0, .ref (a 15)), (1, .ref (a 0))]) hx hb dX5_greatest_13 hl (by decide) rfl (fun ls hl => ?_)
  exact L15 n0 v4 (-6) (-1) 0 H locs ls hP hD hS (lv_sub hl [3, 4, 2, 1, 0] rfl) hf
