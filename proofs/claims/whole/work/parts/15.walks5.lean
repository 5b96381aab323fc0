set_option maxHeartbeats 4000000 in
set_option maxRecDepth 100000 in
theorem ok_X7_in (l : Launch) (p0 : Int32) (p1 : Int32) (p2 : Int32) : Met l yX7_in wsX7_in ({ frames := 0, cells := 0, slots := 0, locals := 0 } : Room) (va_Pc [.int p0, .int p1, .int p2] (fun _ => True)) (vp_Si (fun r => r = f_X7_in p0 p1 p2)) 0 0 (fun _ => False) := by
  refine Met.ofW (cc := cX7_in) (maxL := 3) (ret := (some .boolean)) (by decide) rfl ?_
  intro p e s m args below meth c s₁ B hml hv
  obtain ⟨rfl, -⟩ := hv
  have hx := B.exec
  have hb := B.bytes
  have hr := B.returns
  have hts := atoms_spec (ws := wsX7_in) B.pre
  have hown : s.vm.findClass RX7 = some m.cls := findClass_of_methodNamed B.named
  have hlocks := B.notSynchronized
  obtain ⟨res, hf0⟩ : ∃ res, f_X7_in p0 p1 p2 = res := ⟨_, rfl⟩
  have hf := hf0
  rw [f_X7_in] at hf
  have hl := lv_entry ([.int p0, .int p1, .int p2]) (n := 3) (Nat.le_of_ble_eq_true rfl)
  rw [lg_entry_eq]
  generalize (lg_sl ([.int p0, .int p1, .int p2]) ++ List.replicate (3 - (lg_sl ([.int p0, .int p1, .int p2])).length) Slot.unset).toArray = ls at hl ⊢
  have hl : lv_has ls 3 [(0, .int p0), (1, .int p1), (2, .int p2)] := hl
  refine lv_iload_n hx hb dX7_in_0 rfl (lv_at hl 0 rfl) ?_
  refine lv_iload_n hx hb dX7_in_1 rfl (lv_at hl 1 rfl) ?_
  refine lv_icmp_lt (tgt := 14) hx hb dX7_in_2 (by decide) (fun c => ?_) (fun c => ?_)
  · have hf := it_1 hf c
    refine lv_iconst (v := 0) hx hb dX7_in_14 (by decide) ?_
    exact W.zret (ty := .boolean) (v := 0) hx hb hr rfl (fun t ht hW => ⟨0, rfl, hf.trans hf0.symm, ht⟩) (fun _ hq => absurd hq List.not_mem_nil) dX7_in_15
  · have hf := it_2 hf c
    refine lv_iload_n hx hb dX7_in_5 rfl (lv_at hl 0 rfl) ?_
    refine lv_iload_n hx hb dX7_in_6 rfl (lv_at hl 2 rfl) ?_
    refine lv_icmp_gt (tgt := 14) hx hb dX7_in_7 (by decide) (fun c => ?_) (fun c => ?_)
    · have hf := it_1 hf c
      refine lv_iconst (v := 0) hx hb dX7_in_14 (by decide) ?_
      exact W.zret (ty := .boolean) (v := 0) hx hb hr rfl (fun t ht hW => ⟨0, rfl, hf.trans hf0.symm, ht⟩) (fun _ hq => absurd hq List.not_mem_nil) dX7_in_15
    · have hf := it_2 hf c
      refine lv_iconst (v := 1) hx hb dX7_in_10 (by decide) ?_
      refine lv_goto (tgt := 15) hx hb dX7_in_11 (by decide) ?_
      exact W.zret (ty := .boolean) (v := 1) hx hb hr rfl (fun t ht hW => ⟨1, rfl, hf.trans hf0.symm, ht⟩) (fun _ hq => absurd hq List.not_mem_nil) dX7_in_15
set_option maxHeartbeats 4000000 in
set_option maxRecDepth 100000 in
theorem ok_X7_ofD (l : Launch) (p0 : Int32) (p1 : Int32) : Met l yX7_ofD wsX7_ofD ({ frames := 0, cells := 0, slots := 0, locals := 0 } : Room) (va_Pc [.int p0, .int p1] (fun _ => True)) (vp_Si (fun r => r = f_X7_ofD p0 p1)) 0 0 (fun _ => False) := by
  refine Met.ofW (cc := cX7_ofD) (maxL := 2) (ret := (some .int)) (by decide) rfl ?_
  intro p e s m args below meth c s₁ B hml hv
  obtain ⟨rfl, -⟩ := hv
  have hx := B.exec
  have hb := B.bytes
  have hr := B.returns
  have hts := atoms_spec (ws := wsX7_ofD) B.pre
  have hown : s.vm.findClass RX7 = some m.cls := findClass_of_methodNamed B.named
  have hlocks := B.notSynchronized
  obtain ⟨res, hf0⟩ : ∃ res, f_X7_ofD p0 p1 = res := ⟨_, rfl⟩
  have hf := hf0
  rw [f_X7_ofD] at hf
  have hl := lv_entry ([.int p0, .int p1]) (n := 2) (Nat.le_of_ble_eq_true rfl)
  rw [lg_entry_eq]
  generalize (lg_sl ([.int p0, .int p1]) ++ List.replicate (2 - (lg_sl ([.int p0, .int p1])).length) Slot.unset).toArray = ls at hl ⊢
  have hl : lv_has ls 2 [(0, .int p0), (1, .int p1)] := hl
  refine lv_bipush (v := 6) hx hb dX7_ofD_0 (by decide) ?_
  refine lv_iconst (v := 4) hx hb dX7_ofD_2 (by decide) ?_
  refine lv_iload_n hx hb dX7_ofD_3 rfl (lv_at hl 0 rfl) ?_
  refine lv_imul hx hb dX7_ofD_4 ?_
  refine lv_iadd hx hb dX7_ofD_5 ?_
  refine lv_iload_n hx hb dX7_ofD_6 rfl (lv_at hl 1 rfl) ?_
  refine lv_iadd hx hb dX7_ofD_7 ?_
  exact W.iret (v := ((6 + (4 * p0)) + p1)) hx hb hr (fun t ht hW => ⟨((6 + (4 * p0)) + p1), rfl, hf.trans hf0.symm, ht⟩) (fun _ hq => absurd hq List.not_mem_nil) dX7_ofD_8
set_option maxHeartbeats 4000000 in
set_option maxRecDepth 100000 in
theorem ok_X7_ofL (l : Launch) (p0 : Int32) (p1 : Int32) : Met l yX7_ofL wsX7_ofL ({ frames := 0, cells := 0, slots := 0, locals := 0 } : Room) (va_Pc [.int p0, .int p1] (fun _ => True)) (vp_Si (fun r => r = f_X7_ofL p0 p1)) 0 0 (fun _ => False) := by
  refine Met.ofW (cc := cX7_ofL) (maxL := 2) (ret := (some .int)) (by decide) rfl ?_
  intro p e s m args below meth c s₁ B hml hv
  obtain ⟨rfl, -⟩ := hv
  have hx := B.exec
  have hb := B.bytes
  have hr := B.returns
  have hts := atoms_spec (ws := wsX7_ofL) B.pre
  have hown : s.vm.findClass RX7 = some m.cls := findClass_of_methodNamed B.named
  have hlocks := B.notSynchronized
  obtain ⟨res, hf0⟩ : ∃ res, f_X7_ofL p0 p1 = res := ⟨_, rfl⟩
  have hf := hf0
  rw [f_X7_ofL] at hf
  have hl := lv_entry ([.int p0, .int p1]) (n := 2) (Nat.le_of_ble_eq_true rfl)
  rw [lg_entry_eq]
  generalize (lg_sl ([.int p0, .int p1]) ++ List.replicate (2 - (lg_sl ([.int p0, .int p1])).length) Slot.unset).toArray = ls at hl ⊢
  have hl : lv_has ls 2 [(0, .int p0), (1, .int p1)] := hl
  refine lv_bipush (v := 30) hx hb dX7_ofL_0 (by decide) ?_
  refine lv_bipush (v := 7) hx hb dX7_ofL_2 (by decide) ?_
  refine lv_iload_n hx hb dX7_ofL_4 rfl (lv_at hl 0 rfl) ?_
  refine lv_imul hx hb dX7_ofL_5 ?_
  refine lv_iadd hx hb dX7_ofL_6 ?_
  refine lv_iload_n hx hb dX7_ofL_7 rfl (lv_at hl 1 rfl) ?_
  refine lv_iadd hx hb dX7_ofL_8 ?_
  exact W.iret (v := ((30 + (7 * p0)) + p1)) hx hb hr (fun t ht hW => ⟨((30 + (7 * p0)) + p1), rfl, hf.trans hf0.symm, ht⟩) (fun _ hq => absurd hq List.not_mem_nil) dX7_ofL_9
set_option maxHeartbeats 4000000 in
set_option maxRecDepth 100000 in
theorem ok_X7_isMood (l : Launch) (p0 : Int32) : Met l yX7_isMood wsX7_isMood ({ frames := 1, cells := 0, slots := 0, locals := 22 } : Room) (va_Pc [.int p0] (fun _ => True)) (vp_Si (fun r => r = f_X7_isMood p0)) 0 0 (fun _ => False) := by
  refine Met.ofW (cc := cX7_isMood) (maxL := 1) (ret := (some .boolean)) (by decide) rfl ?_
  intro p e s m args below meth c s₁ B hml hv
  obtain ⟨rfl, -⟩ := hv
  have hx := B.exec
  have hb := B.bytes
  have hr := B.returns
  have hts := atoms_spec (ws := wsX7_isMood) B.pre
  have hown : s.vm.findClass RX7 = some m.cls := findClass_of_methodNamed B.named
  have hlocks := B.notSynchronized
  obtain ⟨res, hf0⟩ : ∃ res, f_X7_isMood p0 = res := ⟨_, rfl⟩
  have hf := hf0
  rw [f_X7_isMood] at hf
  have hl := lv_entry ([.int p0]) (n := 1) (Nat.le_of_ble_eq_true rfl)
  rw [lg_entry_eq]
  generalize (lg_sl ([.int p0]) ++ List.replicate (1 - (lg_sl ([.int p0])).length) Slot.unset).toArray = ls at hl ⊢
  have hl : lv_has ls 1 [(0, .int p0)] := hl
  refine lv_iload_n hx hb dX7_isMood_0 rfl (lv_at hl 0 rfl) ?_
  refine lv_iconst (v := 0) hx hb dX7_isMood_1 (by decide) ?_
  refine lv_iconst (v := 5) hx hb dX7_isMood_2 (by decide) ?_
  refine vp_callSi (W.runS (As := [.int p0, .int 0, .int 5]) (rest := []) ⟨hx, hb, hml, hown, hts⟩ (ok_X7_in l p0 0 5) (va_cwS 3 hts gX7_isMood_X7_in rfl rfl rfl (by decide +kernel) ⟨Nat.le_of_ble_eq_true rfl, Nat.le_of_ble_eq_true rfl⟩) ⟨fun _ _ _ _ q => q, fun _ _ _ => ⟨rfl, trivial⟩⟩ rfl rfl hl.1 rfl (lv_room (Nat.le_of_ble_eq_true rfl)) dX7_isMood_3 ⟨Nat.zero_le _, Nat.zero_le _⟩) (fun r3 hw => ?_)
  subst hw
  exact W.zret (ty := .boolean) (v := (f_X7_in p0 0 5)) hx hb hr (okZ_1 (oz_X7_in p0 0 5)) (fun t ht hW => ⟨(f_X7_in p0 0 5), rfl, hf.trans hf0.symm, ht⟩) (fun _ hq => absurd hq List.not_mem_nil) dX7_isMood_6
set_option maxHeartbeats 4000000 in
set_option maxRecDepth 100000 in
theorem ok_X7_isLetter (l : Launch) (G : Gt) (a : Nat → Nat) (v0 : DV) (p1 : Int32) (hne : f_X7_isLetter v0 p1 ≠ none) : Met l yX7_isLetter wsX7_isLetter ({ frames := 1, cells := 0, slots := 0, locals := 22 } : Room) (pcR G [.ref (a 0), .int p1] (modelC G.2 a v0)) (vp_Si (fun r => f_X7_isLetter v0 p1 = some r)) 0 0 (fun _ => False) := by
  refine Met.ofW (cc := cX7_isLetter) (maxL := 2) (ret := (some .boolean)) (by decide) rfl ?_
  intro p e s m args below meth c s₁ B hml hv
  obtain ⟨rfl, hP, hamb⟩ := hv
  have hx := B.exec
  have hb := B.bytes
  have hr := B.returns
  have hts := atoms_spec (ws := wsX7_isLetter) B.pre
  have hown : s.vm.findClass RX7 = some m.cls := findClass_of_methodNamed B.named
  have hlocks := B.notSynchronized
  have hK := hamb.1
  obtain ⟨res, hf0⟩ : ∃ res, f_X7_isLetter v0 p1 = res := ⟨_, rfl⟩
  have hne : res ≠ none := hf0 ▸ hne
  have hf := hf0
  rw [f_X7_isLetter] at hf
  have hinX7 : ∀ w ∈ u_ws RX7 TX7 16, w ∈ wsX7_isLetter := by decide +kernel
  have lk7 := hts (.fieldLink RX7 7 "MoodDrawersModel" "s" "[I") (by decide +kernel)
  have hl := lv_entry ([.ref (a 0), .int p1]) (n := 2) (Nat.le_of_ble_eq_true rfl)
  rw [lg_entry_eq]
  generalize (lg_sl ([.ref (a 0), .int p1]) ++ List.replicate (2 - (lg_sl ([.ref (a 0), .int p1])).length) Slot.unset).toArray = ls at hl ⊢
  have hl : lv_has ls 2 [(0, .ref (a 0)), (1, .int p1)] := hl
  refine lv_iload_n hx hb dX7_isLetter_0 rfl (lv_at hl 1 rfl) ?_
  refine lv_iconst (v := 0) hx hb dX7_isLetter_1 (by decide) ?_
  refine lv_aload_n hx hb dX7_isLetter_2 rfl (lv_at hl 0 rfl) ?_
  refine va_get (D := G.1) (ci := 7) (v := .ref (a 1)) (C := RX7) (T := TX7) (N := 16) hx hb hts hinX7 hown hK hP 0 rfl rfl 0 (by decide) lk7 (fun _ h9 => h9) rfl dX7_isLetter_3 ?_
  refine lv_iconst (v := 5) hx hb dX7_isLetter_6 (by decide) ?_
  refine va_iald (f := (v0 0)) hx hb hK hP 1 0 rfl rfl (ixb_1 (show ixb 5 240 = true from rfl)) dX7_isLetter_7 ?_
  refine lv_iconst (v := 1) hx hb dX7_isLetter_8 (by decide) ?_
  refine lv_isub hx hb dX7_isLetter_9 ?_
  refine vp_callSi (W.runS (As := [.int p1, .int 0, .int (((v0 0) (Int32.toNatClampNeg 5)) - 1)]) (rest := []) ⟨hx, hb, hml, hown, hts⟩ (ok_X7_in l p1 0 (((v0 0) (Int32.toNatClampNeg 5)) - 1)) (va_cwS 3 hts gX7_isLetter_X7_in rfl rfl rfl (by decide +kernel) ⟨Nat.le_of_ble_eq_true rfl, Nat.le_of_ble_eq_true rfl⟩) ⟨fun _ _ _ _ q => q, fun _ _ _ => ⟨rfl, trivial⟩⟩ rfl rfl hl.1 rfl (lv_room (Nat.le_of_ble_eq_true rfl)) dX7_isLetter_10 ⟨Nat.zero_le _, Nat.zero_le _⟩) (fun r10 hw => ?_)
  subst hw
  exact W.zret (ty := .boolean) (v := (f_X7_in p1 0 (((v0 0) (Int32.toNatClampNeg 5)) - 1))) hx hb hr (okZ_1 (oz_X7_in p1 0 (((v0 0) (Int32.toNatClampNeg 5)) - 1))) (fun t ht hW => ⟨(f_X7_in p1 0 (((v0 0) (Int32.toNatClampNeg 5)) - 1)), rfl, hf0.trans hf.symm, ht⟩) (fun _ hq => absurd hq List.not_mem_nil) dX7_isLetter_13
set_option maxHeartbeats 4000000 in
set_option maxRecDepth 100000 in
theorem ok_X7_know (l : Launch) (G : Gt) (a : Nat → Nat) (sz : Nat) (n0 : Nat) (v0 : DV) (hne : f_X7_know n0 v0 ≠ none) : Met l yX7_know wsX7_know ({ frames := 0, cells := 0, slots := 0, locals := 0 } : Room) (pcW G [.ref (a 0)] (modelC G.2 a v0) sz) (va_Qv (fun (u : DV) => f_X7_know n0 v0 = some u) (fun u t => atW G (modelC G.2 a u) (va_A (modelC G.2 a v0) sz) t) (va_A (modelC G.2 a v0) sz)) 0 0 (va_A (modelC G.2 a v0) sz) := by
  refine Met.ofW (cc := cX7_know) (maxL := 2) (ret := none) (by decide) rfl ?_
  intro p e s m args below meth c s₁ B hml hv
  obtain ⟨rfl, hsz, hP, hD0, hamb⟩ := hv
  have hx := B.exec
  have hb := B.bytes
  have hr := B.returns
  have hts := atoms_spec (ws := wsX7_know) B.pre
  have hown : s.vm.findClass RX7 = some m.cls := findClass_of_methodNamed B.named
  have hlocks := B.notSynchronized
  have hK := hamb.1
  subst hsz
  have hD := hD0.self (sz := s.heap.size)
  generalize hAe : va_A (modelC G.2 a v0) s.heap.size = A at hD ⊢
  have hA : ∀ q : Nat, s.heap.size ≤ q → A q := fun q h => by rw [← hAe]; exact Or.inr h
  have hS : va_S A s.heap s.heap [] := va_S.rf
  obtain ⟨res, hf0⟩ : ∃ res, f_X7_know n0 v0 = res := ⟨_, rfl⟩
  have hne : res ≠ none := hf0 ▸ hne
  have hf := hf0
  rw [f_X7_know] at hf
  have hinX7 : ∀ w ∈ u_ws RX7 TX7 16, w ∈ wsX7_know := by decide +kernel
  have lk43 := hts (.fieldLink RX7 43 "MoodDrawersModel" "known" "I") (by decide +kernel)
  have lk16 := hts (.fieldLink RX7 16 "MoodDrawersModel" "before" "[I") (by decide +kernel)
  have lk7 := hts (.fieldLink RX7 7 "MoodDrawersModel" "s" "[I") (by decide +kernel)
  have hl := lv_entry ([.ref (a 0)]) (n := 2) (Nat.le_of_ble_eq_true rfl)
  rw [lg_entry_eq]
  generalize (lg_sl ([.ref (a 0)]) ++ List.replicate (2 - (lg_sl ([.ref (a 0)])).length) Slot.unset).toArray = ls at hl ⊢
  have hl : lv_has ls 2 [(0, .ref (a 0))] := hl
  have L52 : ∀ (n : Nat) (v : DV) (x1 : Int32) (H : Heap) (locs : List Loc) (ls : Array Slot), va_P G.1 vwCl (modelC G.2 a v) H → va_D A (modelC G.2 a v) → va_S A s.heap H locs → lv_has ls 2 [(0, .ref (a 0)), (1, .int x1)] → f_X7_know_L52 n v x1 = res → W p l e (headSpec wsX7_know ({ frames := 0, cells := 0, slots := 0, locals := 0 } : Room)).room s m ([.ref (a 0)] : List Value).toArray below meth c H locs 0 0 (MQ below (va_Qv (fun (u : DV) => f_X7_know n0 v0 = some u) (fun u t => atW G (modelC G.2 a u) A t) A) ([.ref (a 0)] : List Value).toArray s 0 0 A) (F0 m 52 ls []) := by
    intro n
    induction n with
    | zero => intro v x1 H locs ls hP hD hS hl hf; exact (none_1 hf hne).elim
    | succ n ih =>
      intro v x1 H locs ls hP hD hS hl hf
      rw [f_X7_know_L52] at hf
      refine lv_iload_n hx hb dX7_know_52 rfl (lv_at hl 1 rfl) ?_
      refine lv_sipush (v := 240) hx hb dX7_know_53 (by decide) ?_
      refine lv_icmp_ge (tgt := 86) hx hb dX7_know_56 (by decide) (fun c => ?_) (fun c => ?_)
      · have hf := it_1 hf c
        refine lv_aload_n hx hb dX7_know_86 rfl (lv_at hl 0 rfl) ?_
        refine lv_dup hx hb dX7_know_87 rfl ?_
        refine va_get (D := G.1) (ci := 7) (v := .int (v 8 0)) (C := RX7) (T := TX7) (N := 16) hx hb hts hinX7 hown hK hP 0 rfl rfl 3 (by decide) lk43 (fun _ h9 => h9) rfl dX7_know_88 ?_
        refine lv_iconst (v := 1) hx hb dX7_know_91 (by decide) ?_
        refine lv_iadd hx hb dX7_know_92 ?_
        refine va_put (D := G.1) (ci := 7) (v := .int ((v 8 0) + 1)) (ty := .int) (C := RX7) (T := TX7) (N := 16) hx hb hts hinX7 tyX7 tyX7_ok nmX7 hown hK hP hD hS 0 rfl rfl 3 (by decide) lk43 (fun _ h9 => h9) rfl (by decide +kernel) rfl rfl (Nat.le_of_ble_eq_true rfl) dX7_know_93 (fun H locs hP hD hS => ?_)
        have hP : va_P G.1 vwCl (modelC G.2 a (vs v 8 (fun _ => ((v 8 0) + 1)))) H := hP
        have hD : va_D A (modelC G.2 a (vs v 8 (fun _ => ((v 8 0) + 1)))) := hD
        exact W.vret hx hb hr (fun t ht hW => ⟨⟨(vs v 8 (fun _ => ((v 8 0) + 1))), rfl, hf0.trans hf.symm, by rw [ht]; exact hP, hD⟩, hS.F ht⟩) hS.2.2 dX7_know_96
      · have hf := it_2 hf c
        refine lv_aload_n hx hb dX7_know_59 rfl (lv_at hl 0 rfl) ?_
        refine va_get (D := G.1) (ci := 7) (v := .ref (a 3)) (C := RX7) (T := TX7) (N := 16) hx hb hts hinX7 hown hK hP 0 rfl rfl 2 (by decide) lk16 (fun _ h9 => h9) rfl dX7_know_60 ?_
        refine lv_sipush (v := 240) hx hb dX7_know_63 (by decide) ?_
        refine lv_aload_n hx hb dX7_know_66 rfl (lv_at hl 0 rfl) ?_
        refine va_get (D := G.1) (ci := 7) (v := .int (v 8 0)) (C := RX7) (T := TX7) (N := 16) hx hb hts hinX7 hown hK hP 0 rfl rfl 3 (by decide) lk43 (fun _ h9 => h9) rfl dX7_know_67 ?_
        refine lv_imul hx hb dX7_know_70 ?_
        refine lv_iload_n hx hb dX7_know_71 rfl (lv_at hl 1 rfl) ?_
        refine lv_iadd hx hb dX7_know_72 ?_
        refine lv_aload_n hx hb dX7_know_73 rfl (lv_at hl 0 rfl) ?_
        refine va_get (D := G.1) (ci := 7) (v := .ref (a 1)) (C := RX7) (T := TX7) (N := 16) hx hb hts hinX7 hown hK hP 0 rfl rfl 0 (by decide) lk7 (fun _ h9 => h9) rfl dX7_know_74 ?_
        refine lv_iload_n hx hb dX7_know_77 rfl (lv_at hl 1 rfl) ?_
        obtain ⟨hi, hf⟩ := ck_1 hf hne
        refine va_iald (f := (v 0)) hx hb hK hP 1 0 rfl rfl (ixb_1 hi) dX7_know_78 ?_
        obtain ⟨hi, hf⟩ := ck_1 hf hne
        refine va_iast (f := (v 2)) hx hb hK hP hD hS 3 0 rfl rfl (ixb_1 hi) dX7_know_79 (fun H locs hP hD hS => ?_)
        obtain ⟨v79, hv, hf⟩ := lt_1 hf
        have hP : va_P G.1 vwCl (modelC G.2 a v79) H := by rw [hv]; exact hP
        have hD : va_D A (modelC G.2 a v79) := by rw [hv]; exact hD
        clear hv
        refine lv_iinc (v := (x1 + 1)) (lv' := [(1, .int (x1 + 1)), (0, .ref (a 0))]) hx hb dX7_know_80 hl (k := 1) rfl rfl (by decide) rfl (fun ls hl => ?_)
        refine lv_goto (tgt := 52) hx hb dX7_know_83 (by decide) ?_
        exact ih v79 (x1 + 1) H locs ls hP hD hS (lv_sub hl [1, 0] rfl) hf
  have L11 : ∀ (n : Nat) (v : DV) (x1 : Int32) (H : Heap) (locs : List Loc) (ls : Array Slot), va_P G.1 vwCl (modelC G.2 a v) H → va_D A (modelC G.2 a v) → va_S A s.heap H locs → lv_has ls 2 [(0, .ref (a 0)), (1, .int x1)] → f_X7_know_L11 n v x1 = res → W p l e (headSpec wsX7_know ({ frames := 0, cells := 0, slots := 0, locals := 0 } : Room)).room s m ([.ref (a 0)] : List Value).toArray below meth c H locs 0 0 (MQ below (va_Qv (fun (u : DV) => f_X7_know n0 v0 = some u) (fun u t => atW G (modelC G.2 a u) A t) A) ([.ref (a 0)] : List Value).toArray s 0 0 A) (F0 m 11 ls []) := by
    intro n
    induction n with
    | zero => intro v x1 H locs ls hP hD hS hl hf; exact (none_1 hf hne).elim
    | succ n ih =>
      intro v x1 H locs ls hP hD hS hl hf
      rw [f_X7_know_L11] at hf
      refine lv_iload_n hx hb dX7_know_11 rfl (lv_at hl 1 rfl) ?_
      refine lv_sipush (v := 1200) hx hb dX7_know_12 (by decide) ?_
      refine lv_icmp_ge (tgt := 40) hx hb dX7_know_15 (by decide) (fun c => ?_) (fun c => ?_)
      · have hf := it_1 hf c
        refine lv_aload_n hx hb dX7_know_40 rfl (lv_at hl 0 rfl) ?_
        refine lv_dup hx hb dX7_know_41 rfl ?_
        refine va_get (D := G.1) (ci := 7) (v := .int (v 8 0)) (C := RX7) (T := TX7) (N := 16) hx hb hts hinX7 hown hK hP 0 rfl rfl 3 (by decide) lk43 (fun _ h9 => h9) rfl dX7_know_42 ?_
        refine lv_iconst (v := 1) hx hb dX7_know_45 (by decide) ?_
        refine lv_isub hx hb dX7_know_46 ?_
        refine va_put (D := G.1) (ci := 7) (v := .int ((v 8 0) - 1)) (ty := .int) (C := RX7) (T := TX7) (N := 16) hx hb hts hinX7 tyX7 tyX7_ok nmX7 hown hK hP hD hS 0 rfl rfl 3 (by decide) lk43 (fun _ h9 => h9) rfl (by decide +kernel) rfl rfl (Nat.le_of_ble_eq_true rfl) dX7_know_47 (fun H locs hP hD hS => ?_)
        have hP : va_P G.1 vwCl (modelC G.2 a (vs v 8 (fun _ => ((v 8 0) - 1)))) H := hP
        have hD : va_D A (modelC G.2 a (vs v 8 (fun _ => ((v 8 0) - 1)))) := hD
        refine lv_iconst (v := 0) hx hb dX7_know_50 (by decide) ?_
        refine lv_istore_n (lv' := [(1, .int 0), (0, .ref (a 0))]) hx hb dX7_know_51 rfl hl (by decide) rfl (fun ls hl => ?_)
        exact L52 n (vs v 8 (fun _ => ((v 8 0) - 1))) 0 H locs ls hP hD hS (lv_sub hl [1, 0] rfl) hf
      · have hf := it_2 hf c
        refine lv_aload_n hx hb dX7_know_18 rfl (lv_at hl 0 rfl) ?_
        refine va_get (D := G.1) (ci := 7) (v := .ref (a 3)) (C := RX7) (T := TX7) (N := 16) hx hb hts hinX7 hown hK hP 0 rfl rfl 2 (by decide) lk16 (fun _ h9 => h9) rfl dX7_know_19 ?_
        refine lv_iload_n hx hb dX7_know_22 rfl (lv_at hl 1 rfl) ?_
        refine lv_aload_n hx hb dX7_know_23 rfl (lv_at hl 0 rfl) ?_
        refine va_get (D := G.1) (ci := 7) (v := .ref (a 3)) (C := RX7) (T := TX7) (N := 16) hx hb hts hinX7 hown hK hP 0 rfl rfl 2 (by decide) lk16 (fun _ h9 => h9) rfl dX7_know_24 ?_
        refine lv_sipush (v := 240) hx hb dX7_know_27 (by decide) ?_
        refine lv_iload_n hx hb dX7_know_30 rfl (lv_at hl 1 rfl) ?_
        refine lv_iadd hx hb dX7_know_31 ?_
        obtain ⟨hi, hf⟩ := ck_1 hf hne
        refine va_iald (f := (v 2)) hx hb hK hP 3 0 rfl rfl (ixb_1 hi) dX7_know_32 ?_
        obtain ⟨hi, hf⟩ := ck_1 hf hne
        refine va_iast (f := (v 2)) hx hb hK hP hD hS 3 0 rfl rfl (ixb_1 hi) dX7_know_33 (fun H locs hP hD hS => ?_)
        obtain ⟨v33, hv, hf⟩ := lt_1 hf
        have hP : va_P G.1 vwCl (modelC G.2 a v33) H := by rw [hv]; exact hP
        have hD : va_D A (modelC G.2 a v33) := by rw [hv]; exact hD
        clear hv
        refine lv_iinc (v := (x1 + 1)) (lv' := [(1, .int (x1 + 1)), (0, .ref (a 0))]) hx hb dX7_know_34 hl (k := 1) rfl rfl (by decide) rfl (fun ls hl => ?_)
        refine lv_goto (tgt := 11) hx hb dX7_know_37 (by decide) ?_
        exact ih v33 (x1 + 1) H locs ls hP hD hS (lv_sub hl [1, 0] rfl) hf
  refine lv_aload_n hx hb dX7_know_0 rfl (lv_at hl 0 rfl) ?_
  refine va_get (D := G.1) (ci := 7) (v := .int (v0 8 0)) (C := RX7) (T := TX7) (N := 16) hx hb hts hinX7 hown hK hP 0 rfl rfl 3 (by decide) lk43 (fun _ h9 => h9) rfl dX7_know_1 ?_
  refine lv_bipush (v := 6) hx hb dX7_know_4 (by decide) ?_
  refine lv_icmp_ne (tgt := 50) hx hb dX7_know_6 (by decide) (fun c => ?_) (fun c => ?_)
  · have hf := it_2 hf c
    refine lv_iconst (v := 0) hx hb dX7_know_50 (by decide) ?_
    refine lv_istore_n (lv' := [(1, .int 0), (0, .ref (a 0))]) hx hb dX7_know_51 rfl hl (by decide) rfl (fun ls hl => ?_)
    exact L52 n0 v0 0 s.heap [] ls hP hD hS (lv_sub hl [1, 0] rfl) hf
  · have hf := it_1 hf c
    refine lv_iconst (v := 0) hx hb dX7_know_9 (by decide) ?_
    refine lv_istore_n (lv' := [(1, .int 0), (0, .ref (a 0))]) hx hb dX7_know_10 rfl hl (by decide) rfl (fun ls hl => ?_)
    exact L11 n0 v0 0 s.heap [] ls hP hD hS (lv_sub hl [1, 0] rfl) hf
set_option maxHeartbeats 4000000 in
set_option maxRecDepth 100000 in
theorem ok_X7_putAside (l : Launch) (G : Gt) (a : Nat → Nat) (sz : Nat) (n0 : Nat) (v0 : DV) (hne : f_X7_putAside n0 v0 ≠ none) : Met l yX7_putAside wsX7_putAside ({ frames := 0, cells := 0, slots := 0, locals := 0 } : Room) (pcW G [.ref (a 0)] (modelC G.2 a v0) sz) (va_Qv (fun (u : DV) => f_X7_putAside n0 v0 = some u) (fun u t => atW G (modelC G.2 a u) (va_A (modelC G.2 a v0) sz) t) (va_A (modelC G.2 a v0) sz)) 0 0 (va_A (modelC G.2 a v0) sz) := by
  refine Met.ofW (cc := cX7_putAside) (maxL := 2) (ret := none) (by decide) rfl ?_
  intro p e s m args below meth c s₁ B hml hv
  obtain ⟨rfl, hsz, hP, hD0, hamb⟩ := hv
  have hx := B.exec
  have hb := B.bytes
  have hr := B.returns
  have hts := atoms_spec (ws := wsX7_putAside) B.pre
  have hown : s.vm.findClass RX7 = some m.cls := findClass_of_methodNamed B.named
  have hlocks := B.notSynchronized
  have hK := hamb.1
  subst hsz
  have hD := hD0.self (sz := s.heap.size)
  generalize hAe : va_A (modelC G.2 a v0) s.heap.size = A at hD ⊢
  have hA : ∀ q : Nat, s.heap.size ≤ q → A q := fun q h => by rw [← hAe]; exact Or.inr h
  have hS : va_S A s.heap s.heap [] := va_S.rf
  obtain ⟨res, hf0⟩ : ∃ res, f_X7_putAside n0 v0 = res := ⟨_, rfl⟩
  have hne : res ≠ none := hf0 ▸ hne
  have hf := hf0
  rw [f_X7_putAside] at hf
  have hinX7 : ∀ w ∈ u_ws RX7 TX7 16, w ∈ wsX7_putAside := by decide +kernel
  have lk13 := hts (.fieldLink RX7 13 "MoodDrawersModel" "aside" "[I") (by decide +kernel)
  have lk7 := hts (.fieldLink RX7 7 "MoodDrawersModel" "s" "[I") (by decide +kernel)
  have hl := lv_entry ([.ref (a 0)]) (n := 2) (Nat.le_of_ble_eq_true rfl)
  rw [lg_entry_eq]
  generalize (lg_sl ([.ref (a 0)]) ++ List.replicate (2 - (lg_sl ([.ref (a 0)])).length) Slot.unset).toArray = ls at hl ⊢
  have hl : lv_has ls 2 [(0, .ref (a 0))] := hl
  have L2 : ∀ (n : Nat) (v : DV) (x1 : Int32) (H : Heap) (locs : List Loc) (ls : Array Slot), va_P G.1 vwCl (modelC G.2 a v) H → va_D A (modelC G.2 a v) → va_S A s.heap H locs → lv_has ls 2 [(0, .ref (a 0)), (1, .int x1)] → f_X7_putAside_L2 n v x1 = res → W p l e (headSpec wsX7_putAside ({ frames := 0, cells := 0, slots := 0, locals := 0 } : Room)).room s m ([.ref (a 0)] : List Value).toArray below meth c H locs 0 0 (MQ below (va_Qv (fun (u : DV) => f_X7_putAside n0 v0 = some u) (fun u t => atW G (modelC G.2 a u) A t) A) ([.ref (a 0)] : List Value).toArray s 0 0 A) (F0 m 2 ls []) := by
    intro n
    induction n with
    | zero => intro v x1 H locs ls hP hD hS hl hf; exact (none_1 hf hne).elim
    | succ n ih =>
      intro v x1 H locs ls hP hD hS hl hf
      rw [f_X7_putAside_L2] at hf
      refine lv_iload_n hx hb dX7_putAside_2 rfl (lv_at hl 1 rfl) ?_
      refine lv_sipush (v := 240) hx hb dX7_putAside_3 (by decide) ?_
      refine lv_icmp_ge (tgt := 27) hx hb dX7_putAside_6 (by decide) (fun c => ?_) (fun c => ?_)
      · have hf := it_1 hf c
        exact W.vret hx hb hr (fun t ht hW => ⟨⟨v, rfl, hf0.trans hf.symm, by rw [ht]; exact hP, hD⟩, hS.F ht⟩) hS.2.2 dX7_putAside_27
      · have hf := it_2 hf c
        refine lv_aload_n hx hb dX7_putAside_9 rfl (lv_at hl 0 rfl) ?_
        refine va_get (D := G.1) (ci := 7) (v := .ref (a 2)) (C := RX7) (T := TX7) (N := 16) hx hb hts hinX7 hown hK hP 0 rfl rfl 1 (by decide) lk13 (fun _ h9 => h9) rfl dX7_putAside_10 ?_
        refine lv_iload_n hx hb dX7_putAside_13 rfl (lv_at hl 1 rfl) ?_
        refine lv_aload_n hx hb dX7_putAside_14 rfl (lv_at hl 0 rfl) ?_
        refine va_get (D := G.1) (ci := 7) (v := .ref (a 1)) (C := RX7) (T := TX7) (N := 16) hx hb hts hinX7 hown hK hP 0 rfl rfl 0 (by decide) lk7 (fun _ h9 => h9) rfl dX7_putAside_15 ?_
        refine lv_iload_n hx hb dX7_putAside_18 rfl (lv_at hl 1 rfl) ?_
        obtain ⟨hi, hf⟩ := ck_1 hf hne
        refine va_iald (f := (v 0)) hx hb hK hP 1 0 rfl rfl (ixb_1 hi) dX7_putAside_19 ?_
        obtain ⟨hi, hf⟩ := ck_1 hf hne
        refine va_iast (f := (v 1)) hx hb hK hP hD hS 2 0 rfl rfl (ixb_1 hi) dX7_putAside_20 (fun H locs hP hD hS => ?_)
        obtain ⟨v20, hv, hf⟩ := lt_1 hf
        have hP : va_P G.1 vwCl (modelC G.2 a v20) H := by rw [hv]; exact hP
        have hD : va_D A (modelC G.2 a v20) := by rw [hv]; exact hD
        clear hv
        refine lv_iinc (v := (x1 + 1)) (lv' := [(1, .int (x1 + 1)), (0, .ref (a 0))]) hx hb dX7_putAside_21 hl (k := 1) rfl rfl (by decide) rfl (fun ls hl => ?_)
        refine lv_goto (tgt := 2) hx hb dX7_putAside_24 (by decide) ?_
        exact ih v20 (x1 + 1) H locs ls hP hD hS (lv_sub hl [1, 0] rfl) hf
  refine lv_iconst (v := 0) hx hb dX7_putAside_0 (by decide) ?_
  refine lv_istore_n (lv' := [(1, .int 0), (0, .ref (a 0))]) hx hb dX7_putAside_1 rfl hl (by decide) rfl (fun ls hl => ?_)
  exact L2 n0 v0 0 s.heap [] ls hP hD hS (lv_sub hl [1, 0] rfl) hf
set_option maxHeartbeats 4000000 in
set_option maxRecDepth 100000 in
theorem ok_X7_putBack (l : Launch) (G : Gt) (a : Nat → Nat) (sz : Nat) (n0 : Nat) (v0 : DV) (hne : f_X7_putBack n0 v0 ≠ none) : Met l yX7_putBack wsX7_putBack ({ frames := 0, cells := 0, slots := 0, locals := 0 } : Room) (pcW G [.ref (a 0)] (modelC G.2 a v0) sz) (va_Qv (fun (u : DV) => f_X7_putBack n0 v0 = some u) (fun u t => atW G (modelC G.2 a u) (va_A (modelC G.2 a v0) sz) t) (va_A (modelC G.2 a v0) sz)) 0 0 (va_A (modelC G.2 a v0) sz) := by
  refine Met.ofW (cc := cX7_putBack) (maxL := 2) (ret := none) (by decide) rfl ?_
  intro p e s m args below meth c s₁ B hml hv
  obtain ⟨rfl, hsz, hP, hD0, hamb⟩ := hv
  have hx := B.exec
  have hb := B.bytes
  have hr := B.returns
  have hts := atoms_spec (ws := wsX7_putBack) B.pre
  have hown : s.vm.findClass RX7 = some m.cls := findClass_of_methodNamed B.named
  have hlocks := B.notSynchronized
  have hK := hamb.1
  subst hsz
  have hD := hD0.self (sz := s.heap.size)
  generalize hAe : va_A (modelC G.2 a v0) s.heap.size = A at hD ⊢
  have hA : ∀ q : Nat, s.heap.size ≤ q → A q := fun q h => by rw [← hAe]; exact Or.inr h
  have hS : va_S A s.heap s.heap [] := va_S.rf
  obtain ⟨res, hf0⟩ : ∃ res, f_X7_putBack n0 v0 = res := ⟨_, rfl⟩
  have hne : res ≠ none := hf0 ▸ hne
  have hf := hf0
  rw [f_X7_putBack] at hf
  have hinX7 : ∀ w ∈ u_ws RX7 TX7 16, w ∈ wsX7_putBack := by decide +kernel
  have lk7 := hts (.fieldLink RX7 7 "MoodDrawersModel" "s" "[I") (by decide +kernel)
  have lk13 := hts (.fieldLink RX7 13 "MoodDrawersModel" "aside" "[I") (by decide +kernel)
  have hl := lv_entry ([.ref (a 0)]) (n := 2) (Nat.le_of_ble_eq_true rfl)
  rw [lg_entry_eq]
  generalize (lg_sl ([.ref (a 0)]) ++ List.replicate (2 - (lg_sl ([.ref (a 0)])).length) Slot.unset).toArray = ls at hl ⊢
  have hl : lv_has ls 2 [(0, .ref (a 0))] := hl
  have L2 : ∀ (n : Nat) (v : DV) (x1 : Int32) (H : Heap) (locs : List Loc) (ls : Array Slot), va_P G.1 vwCl (modelC G.2 a v) H → va_D A (modelC G.2 a v) → va_S A s.heap H locs → lv_has ls 2 [(0, .ref (a 0)), (1, .int x1)] → f_X7_putBack_L2 n v x1 = res → W p l e (headSpec wsX7_putBack ({ frames := 0, cells := 0, slots := 0, locals := 0 } : Room)).room s m ([.ref (a 0)] : List Value).toArray below meth c H locs 0 0 (MQ below (va_Qv (fun (u : DV) => f_X7_putBack n0 v0 = some u) (fun u t => atW G (modelC G.2 a u) A t) A) ([.ref (a 0)] : List Value).toArray s 0 0 A) (F0 m 2 ls []) := by
    intro n
    induction n with
    | zero => intro v x1 H locs ls hP hD hS hl hf; exact (none_1 hf hne).elim
    | succ n ih =>
      intro v x1 H locs ls hP hD hS hl hf
      rw [f_X7_putBack_L2] at hf
      refine lv_iload_n hx hb dX7_putBack_2 rfl (lv_at hl 1 rfl) ?_
      refine lv_sipush (v := 240) hx hb dX7_putBack_3 (by decide) ?_
      refine lv_icmp_ge (tgt := 27) hx hb dX7_putBack_6 (by decide) (fun c => ?_) (fun c => ?_)
      · have hf := it_1 hf c
        exact W.vret hx hb hr (fun t ht hW => ⟨⟨v, rfl, hf0.trans hf.symm, by rw [ht]; exact hP, hD⟩, hS.F ht⟩) hS.2.2 dX7_putBack_27
      · have hf := it_2 hf c
        refine lv_aload_n hx hb dX7_putBack_9 rfl (lv_at hl 0 rfl) ?_
        refine va_get (D := G.1) (ci := 7) (v := .ref (a 1)) (C := RX7) (T := TX7) (N := 16) hx hb hts hinX7 hown hK hP 0 rfl rfl 0 (by decide) lk7 (fun _ h9 => h9) rfl dX7_putBack_10 ?_
        refine lv_iload_n hx hb dX7_putBack_13 rfl (lv_at hl 1 rfl) ?_
        refine lv_aload_n hx hb dX7_putBack_14 rfl (lv_at hl 0 rfl) ?_
        refine va_get (D := G.1) (ci := 7) (v := .ref (a 2)) (C := RX7) (T := TX7) (N := 16) hx hb hts hinX7 hown hK hP 0 rfl rfl 1 (by decide) lk13 (fun _ h9 => h9) rfl dX7_putBack_15 ?_
        refine lv_iload_n hx hb dX7_putBack_18 rfl (lv_at hl 1 rfl) ?_
        obtain ⟨hi, hf⟩ := ck_1 hf hne
        refine va_iald (f := (v 1)) hx hb hK hP 2 0 rfl rfl (ixb_1 hi) dX7_putBack_19 ?_
        obtain ⟨hi, hf⟩ := ck_1 hf hne
        refine va_iast (f := (v 0)) hx hb hK hP hD hS 1 0 rfl rfl (ixb_1 hi) dX7_putBack_20 (fun H locs hP hD hS => ?_)
        obtain ⟨v20, hv, hf⟩ := lt_1 hf
        have hP : va_P G.1 vwCl (modelC G.2 a v20) H := by rw [hv]; exact hP
        have hD : va_D A (modelC G.2 a v20) := by rw [hv]; exact hD
        clear hv
        refine lv_iinc (v := (x1 + 1)) (lv' := [(1, .int (x1 + 1)), (0, .ref (a 0))]) hx hb dX7_putBack_21 hl (k := 1) rfl rfl (by decide) rfl (fun ls hl => ?_)
        refine lv_goto (tgt := 2) hx hb dX7_putBack_24 (by decide) ?_
        exact ih v20 (x1 + 1) H locs ls hP hD hS (lv_sub hl [1, 0] rfl) hf
  refine lv_iconst (v := 0) hx hb dX7_putBack_0 (by decide) ?_
  refine lv_istore_n (lv' := [(1, .int 0), (0, .ref (a 0))]) hx hb dX7_putBack_1 rfl hl (by decide) rfl (fun ls hl => ?_)
  exact L2 n0 v0 0 s.heap [] ls hP hD hS (lv_sub hl [1, 0] rfl) hf
set_option maxHeartbeats 4000000 in
set_option maxRecDepth 100000 in
theorem ok_X7_heat (l : Launch) (G : Gt) (a : Nat → Nat) (v0 : DV) (p1 : Int32) (hne : f_X7_heat v0 p1 ≠ none) : Met l yX7_heat wsX7_heat ({ frames := 1, cells := 0, slots := 0, locals := 21 } : Room) (pcR G [.ref (a 0), .int p1] (modelC G.2 a v0)) (vp_Si (fun r => f_X7_heat v0 p1 = some r)) 0 0 (fun _ => False) := by
  refine Met.ofW (cc := cX7_heat) (maxL := 3) (ret := (some .int)) (by decide) rfl ?_
  intro p e s m args below meth c s₁ B hml hv
  obtain ⟨rfl, hP, hamb⟩ := hv
  have hx := B.exec
  have hb := B.bytes
  have hr := B.returns
  have hts := atoms_spec (ws := wsX7_heat) B.pre
  have hown : s.vm.findClass RX7 = some m.cls := findClass_of_methodNamed B.named
  have hlocks := B.notSynchronized
  have hK := hamb.1
  obtain ⟨res, hf0⟩ : ∃ res, f_X7_heat v0 p1 = res := ⟨_, rfl⟩
  have hne : res ≠ none := hf0 ▸ hne
  have hf := hf0
  rw [f_X7_heat] at hf
  have hinX7 : ∀ w ∈ u_ws RX7 TX7 16, w ∈ wsX7_heat := by decide +kernel
  have lk7 := hts (.fieldLink RX7 7 "MoodDrawersModel" "s" "[I") (by decide +kernel)
  have hl := lv_entry ([.ref (a 0), .int p1]) (n := 3) (Nat.le_of_ble_eq_true rfl)
  rw [lg_entry_eq]
  generalize (lg_sl ([.ref (a 0), .int p1]) ++ List.replicate (3 - (lg_sl ([.ref (a 0), .int p1])).length) Slot.unset).toArray = ls at hl ⊢
  have hl : lv_has ls 3 [(0, .ref (a 0)), (1, .int p1)] := hl
  refine lv_aload_n hx hb dX7_heat_0 rfl (lv_at hl 0 rfl) ?_
  refine va_get (D := G.1) (ci := 7) (v := .ref (a 1)) (C := RX7) (T := TX7) (N := 16) hx hb hts hinX7 hown hK hP 0 rfl rfl 0 (by decide) lk7 (fun _ h9 => h9) rfl dX7_heat_1 ?_
  refine lv_iload_n hx hb dX7_heat_4 rfl (lv_at hl 1 rfl) ?_
  refine lv_iconst (v := 3) hx hb dX7_heat_5 (by decide) ?_
  refine vp_callSi (W.runS (As := [.int p1, .int 3]) (rest := [.ref (a 1)]) ⟨hx, hb, hml, hown, hts⟩ (ok_X7_ofL l p1 3) (va_cwS 2 hts gX7_heat_X7_ofL rfl rfl rfl (by decide +kernel) ⟨Nat.le_of_ble_eq_true rfl, Nat.le_of_ble_eq_true rfl⟩) ⟨fun _ _ _ _ q => q, fun _ _ _ => ⟨rfl, trivial⟩⟩ rfl rfl hl.1 rfl (lv_room (Nat.le_of_ble_eq_true rfl)) dX7_heat_6 ⟨Nat.zero_le _, Nat.zero_le _⟩) (fun r6 hw => ?_)
  subst hw
  obtain ⟨hi, hf⟩ := ck_1 hf hne
  refine va_iald (f := (v0 0)) hx hb hK hP 1 0 rfl rfl (ixb_1 hi) dX7_heat_9 ?_
  refine lv_iconst (v := 1) hx hb dX7_heat_10 (by decide) ?_
  refine lv_icmp_ne (tgt := 26) hx hb dX7_heat_11 (by decide) (fun c => ?_) (fun c => ?_)
  · have hf := it_2 hf c
    refine lv_aload_n hx hb dX7_heat_26 rfl (lv_at hl 0 rfl) ?_
    refine va_get (D := G.1) (ci := 7) (v := .ref (a 1)) (C := RX7) (T := TX7) (N := 16) hx hb hts hinX7 hown hK hP 0 rfl rfl 0 (by decide) lk7 (fun _ h9 => h9) rfl dX7_heat_27 ?_
    refine lv_iload_n hx hb dX7_heat_30 rfl (lv_at hl 1 rfl) ?_
    refine lv_iconst (v := 1) hx hb dX7_heat_31 (by decide) ?_
    refine vp_callSi (W.runS (As := [.int p1, .int 1]) (rest := [.ref (a 1)]) ⟨hx, hb, hml, hown, hts⟩ (ok_X7_ofL l p1 1) (va_cwS 2 hts gX7_heat_X7_ofL rfl rfl rfl (by decide +kernel) ⟨Nat.le_of_ble_eq_true rfl, Nat.le_of_ble_eq_true rfl⟩) ⟨fun _ _ _ _ q => q, fun _ _ _ => ⟨rfl, trivial⟩⟩ rfl rfl hl.1 rfl (lv_room (Nat.le_of_ble_eq_true rfl)) dX7_heat_32 ⟨Nat.zero_le _, Nat.zero_le _⟩) (fun r32 hw => ?_)
    subst hw
    obtain ⟨hi, hf⟩ := ck_1 hf hne
    refine va_iald (f := (v0 0)) hx hb hK hP 1 0 rfl rfl (ixb_1 hi) dX7_heat_35 ?_
    refine lv_aload_n hx hb dX7_heat_36 rfl (lv_at hl 0 rfl) ?_
    refine va_get (D := G.1) (ci := 7) (v := .ref (a 1)) (C := RX7) (T := TX7) (N := 16) hx hb hts hinX7 hown hK hP 0 rfl rfl 0 (by decide) lk7 (fun _ h9 => h9) rfl dX7_heat_37 ?_
    refine lv_iconst (v := 2) hx hb dX7_heat_40 (by decide) ?_
    refine va_iald (f := (v0 0)) hx hb hK hP 1 0 rfl rfl (ixb_1 (show ixb 2 240 = true from rfl)) dX7_heat_41 ?_
    refine lv_aload_n hx hb dX7_heat_42 rfl (lv_at hl 0 rfl) ?_
    refine va_get (D := G.1) (ci := 7) (v := .ref (a 1)) (C := RX7) (T := TX7) (N := 16) hx hb hts hinX7 hown hK hP 0 rfl rfl 0 (by decide) lk7 (fun _ h9 => h9) rfl dX7_heat_43 ?_
    refine lv_iconst (v := 3) hx hb dX7_heat_46 (by decide) ?_
    refine va_iald (f := (v0 0)) hx hb hK hP 1 0 rfl rfl (ixb_1 (show ixb 3 240 = true from rfl)) dX7_heat_47 ?_
    refine lv_aload_n hx hb dX7_heat_48 rfl (lv_at hl 0 rfl) ?_
    refine va_get (D := G.1) (ci := 7) (v := .ref (a 1)) (C := RX7) (T := TX7) (N := 16) hx hb hts hinX7 hown hK hP 0 rfl rfl 0 (by decide) lk7 (fun _ h9 => h9) rfl dX7_heat_49 ?_
    refine lv_iload_n hx hb dX7_heat_52 rfl (lv_at hl 1 rfl) ?_
    refine lv_iconst (v := 2) hx hb dX7_heat_53 (by decide) ?_
    refine vp_callSi (W.runS (As := [.int p1, .int 2]) (rest := [.ref (a 1), .int ((v0 0) (Int32.toNatClampNeg 3)), .int ((v0 0) (Int32.toNatClampNeg 2)), .int ((v0 0) (Int32.toNatClampNeg (f_X7_ofL p1 1)))]) ⟨hx, hb, hml, hown, hts⟩ (ok_X7_ofL l p1 2) (va_cwS 2 hts gX7_heat_X7_ofL rfl rfl rfl (by decide +kernel) ⟨Nat.le_of_ble_eq_true rfl, Nat.le_of_ble_eq_true rfl⟩) ⟨fun _ _ _ _ q => q, fun _ _ _ => ⟨rfl, trivial⟩⟩ rfl rfl hl.1 rfl (lv_room (Nat.le_of_ble_eq_true rfl)) dX7_heat_54 ⟨Nat.zero_le _, Nat.zero_le _⟩) (fun r54 hw => ?_)
    subst hw
    obtain ⟨hi, hf⟩ := ck_1 hf hne
    refine va_iald (f := (v0 0)) hx hb hK hP 1 0 rfl rfl (ixb_1 hi) dX7_heat_57 ?_
    refine lv_isub hx hb dX7_heat_58 ?_
    refine lv_imul hx hb dX7_heat_59 ?_
    refine lv_isub hx hb dX7_heat_60 ?_
    refine lv_istore_n (lv' := [(2, .int (((v0 0) (Int32.toNatClampNeg (f_X7_ofL p1 1))) - (((v0 0) (Int32.toNatClampNeg 2)) * (((v0 0) (Int32.toNatClampNeg 3)) - ((v0 0) (Int32.toNatClampNeg (f_X7_ofL p1 2))))))), (0, .ref (a 0)), (1, .int p1)]) hx hb dX7_heat_61 rfl hl (by decide) rfl (fun ls hl => ?_)
    refine lv_iload_n hx hb dX7_heat_62 rfl (lv_at hl 0 rfl) ?_
    refine lv_if_ge (tgt := 70) hx hb dX7_heat_63 (by decide) (fun c => ?_) (fun c => ?_)
    · have hf := it_1 hf c
      refine lv_iload_n hx hb dX7_heat_70 rfl (lv_at hl 0 rfl) ?_
      exact W.iret (v := (((v0 0) (Int32.toNatClampNeg (f_X7_ofL p1 1))) - (((v0 0) (Int32.toNatClampNeg 2)) * (((v0 0) (Int32.toNatClampNeg 3)) - ((v0 0) (Int32.toNatClampNeg (f_X7_ofL p1 2))))))) hx hb hr (fun t ht hW => ⟨(((v0 0) (Int32.toNatClampNeg (f_X7_ofL p1 1))) - (((v0 0) (Int32.toNatClampNeg 2)) * (((v0 0) (Int32.toNatClampNeg 3)) - ((v0 0) (Int32.toNatClampNeg (f_X7_ofL p1 2)))))), rfl, hf0.trans hf.symm, ht⟩) (fun _ hq => absurd hq List.not_mem_nil) dX7_heat_71
    · have hf := it_2 hf c
      refine lv_iconst (v := 0) hx hb dX7_heat_66 (by decide) ?_
      refine lv_goto (tgt := 71) hx hb dX7_heat_67 (by decide) ?_
      exact W.iret (v := 0) hx hb hr (fun t ht hW => ⟨0, rfl, hf0.trans hf.symm, ht⟩) (fun _ hq => absurd hq List.not_mem_nil) dX7_heat_71
  · have hf := it_1 hf c
    refine lv_aload_n hx hb dX7_heat_14 rfl (lv_at hl 0 rfl) ?_
    refine va_get (D := G.1) (ci := 7) (v := .ref (a 1)) (C := RX7) (T := TX7) (N := 16) hx hb hts hinX7 hown hK hP 0 rfl rfl 0 (by decide) lk7 (fun _ h9 => h9) rfl dX7_heat_15 ?_
    refine lv_iload_n hx hb dX7_heat_18 rfl (lv_at hl 1 rfl) ?_
    refine lv_bipush (v := 6) hx hb dX7_heat_19 (by decide) ?_
    refine vp_callSi (W.runS (As := [.int p1, .int 6]) (rest := [.ref (a 1)]) ⟨hx, hb, hml, hown, hts⟩ (ok_X7_ofL l p1 6) (va_cwS 2 hts gX7_heat_X7_ofL rfl rfl rfl (by decide +kernel) ⟨Nat.le_of_ble_eq_true rfl, Nat.le_of_ble_eq_true rfl⟩) ⟨fun _ _ _ _ q => q, fun _ _ _ => ⟨rfl, trivial⟩⟩ rfl rfl hl.1 rfl (lv_room (Nat.le_of_ble_eq_true rfl)) dX7_heat_21 ⟨Nat.zero_le _, Nat.zero_le _⟩) (fun r21 hw => ?_)
    subst hw
    obtain ⟨hi, hf⟩ := ck_1 hf hne
    refine va_iald (f := (v0 0)) hx hb hK hP 1 0 rfl rfl (ixb_1 hi) dX7_heat_24 ?_
    exact W.iret (v := ((v0 0) (Int32.toNatClampNeg (f_X7_ofL p1 6)))) hx hb hr (fun t ht hW => ⟨((v0 0) (Int32.toNatClampNeg (f_X7_ofL p1 6))), rfl, hf0.trans hf.symm, ht⟩) (fun _ hq => absurd hq List.not_mem_nil) dX7_heat_25
set_option maxHeartbeats 4000000 in
set_option maxRecDepth 100000 in
theorem ok_X7_many (l : Launch) (G : Gt) (a : Nat → Nat) (n0 : Nat) (v0 : DV) (p1 : Int32) (p2 : Int32) (hne : f_X7_many n0 v0 p1 p2 ≠ none) : Met l yX7_many wsX7_many ({ frames := 1, cells := 0, slots := 0, locals := 21 } : Room) (pcR G [.ref (a 0), .int p1, .int p2] (modelC G.2 a v0)) (vp_Si (fun r => f_X7_many n0 v0 p1 p2 = some r)) 0 0 (fun _ => False) := by
  refine Met.ofW (cc := cX7_many) (maxL := 5) (ret := (some .int)) (by decide) rfl ?_
  intro p e s m args below meth c s₁ B hml hv
  obtain ⟨rfl, hP, hamb⟩ := hv
  have hx := B.exec
  have hb := B.bytes
  have hr := B.returns
  have hts := atoms_spec (ws := wsX7_many) B.pre
  have hown : s.vm.findClass RX7 = some m.cls := findClass_of_methodNamed B.named
  have hlocks := B.notSynchronized
  have hK := hamb.1
  obtain ⟨res, hf0⟩ : ∃ res, f_X7_many n0 v0 p1 p2 = res := ⟨_, rfl⟩
  have hne : res ≠ none := hf0 ▸ hne
  have hf := hf0
  rw [f_X7_many] at hf
  have hinX7 : ∀ w ∈ u_ws RX7 TX7 16, w ∈ wsX7_many := by decide +kernel
  have lk7 := hts (.fieldLink RX7 7 "MoodDrawersModel" "s" "[I") (by decide +kernel)
  have hl := lv_entry ([.ref (a 0), .int p1, .int p2]) (n := 5) (Nat.le_of_ble_eq_true rfl)
  rw [lg_entry_eq]
  generalize (lg_sl ([.ref (a 0), .int p1, .int p2]) ++ List.replicate (5 - (lg_sl ([.ref (a 0), .int p1, .int p2])).length) Slot.unset).toArray = ls at hl ⊢
  have hl : lv_has ls 5 [(0, .ref (a 0)), (1, .int p1), (2, .int p2)] := hl
  have L5 : ∀ (n : Nat) (v : DV) (x1 : Int32) (x2 : Int32) (x3 : Int32) (x4 : Int32) (ls : Array Slot), va_P G.1 vwCl (modelC G.2 a v) s.heap → lv_has ls 5 [(0, .ref (a 0)), (1, .int x1), (2, .int x2), (3, .int x3), (4, .int x4)] → f_X7_many_L5 n v x1 x2 x3 x4 = res → W p l e (headSpec wsX7_many ({ frames := 1, cells := 0, slots := 0, locals := 21 } : Room)).room s m ([.ref (a 0), .int p1, .int p2] : List Value).toArray below meth c s.heap [] 0 0 (MQ below (vp_Si (fun r => f_X7_many n0 v0 p1 p2 = some r)) ([.ref (a 0), .int p1, .int p2] : List Value).toArray s 0 0 (fun _ => False)) (F0 m 5 ls []) := by
    intro n
    induction n with
    | zero => intro v x1 x2 x3 x4 ls hP hl hf; exact (none_1 hf hne).elim
    | succ n ih =>
      intro v x1 x2 x3 x4 ls hP hl hf
      rw [f_X7_many_L5] at hf
      refine lv_iload hx hb dX7_many_5 (lv_at hl 4 rfl) ?_
      refine lv_aload_n hx hb dX7_many_7 rfl (lv_at hl 0 rfl) ?_
      refine va_get (D := G.1) (ci := 7) (v := .ref (a 1)) (C := RX7) (T := TX7) (N := 16) hx hb hts hinX7 hown hK hP 0 rfl rfl 0 (by decide) lk7 (fun _ h9 => h9) rfl dX7_many_8 ?_
      refine lv_iconst (v := 5) hx hb dX7_many_11 (by decide) ?_
      refine va_iald (f := (v 0)) hx hb hK hP 1 0 rfl rfl (ixb_1 (show ixb 5 240 = true from rfl)) dX7_many_12 ?_
      refine lv_icmp_ge (tgt := 66) hx hb dX7_many_13 (by decide) (fun c => ?_) (fun c => ?_)
      · have hf := it_1 hf c
        refine lv_iload_n hx hb dX7_many_66 rfl (lv_at hl 3 rfl) ?_
        exact W.iret (v := x3) hx hb hr (fun t ht hW => ⟨x3, rfl, hf0.trans hf.symm, ht⟩) (fun _ hq => absurd hq List.not_mem_nil) dX7_many_67
      · have hf := it_2 hf c
        refine lv_iload_n hx hb dX7_many_16 rfl (lv_at hl 3 rfl) ?_
        refine lv_aload_n hx hb dX7_many_17 rfl (lv_at hl 0 rfl) ?_
        refine va_get (D := G.1) (ci := 7) (v := .ref (a 1)) (C := RX7) (T := TX7) (N := 16) hx hb hts hinX7 hown hK hP 0 rfl rfl 0 (by decide) lk7 (fun _ h9 => h9) rfl dX7_many_18 ?_
        refine lv_iload hx hb dX7_many_21 (lv_at hl 4 rfl) ?_
        refine lv_iconst (v := 3) hx hb dX7_many_23 (by decide) ?_
        refine vp_callSi (W.runS (As := [.int x4, .int 3]) (rest := [.ref (a 1), .int x3]) ⟨hx, hb, hml, hown, hts⟩ (ok_X7_ofL l x4 3) (va_cwS 2 hts gX7_many_X7_ofL rfl rfl rfl (by decide +kernel) ⟨Nat.le_of_ble_eq_true rfl, Nat.le_of_ble_eq_true rfl⟩) ⟨fun _ _ _ _ q => q, fun _ _ _ => ⟨rfl, trivial⟩⟩ rfl rfl hl.1 rfl (lv_room (Nat.le_of_ble_eq_true rfl)) dX7_many_24 ⟨Nat.zero_le _, Nat.zero_le _⟩) (fun r24 hw => ?_)
        subst hw
        obtain ⟨hi, hf⟩ := ck_1 hf hne
        refine va_iald (f := (v 0)) hx hb hK hP 1 0 rfl rfl (ixb_1 hi) dX7_many_27 ?_
        refine lv_iload_n hx hb dX7_many_28 rfl (lv_at hl 2 rfl) ?_
        refine lv_icmp_ne (tgt := 57) hx hb dX7_many_29 (by decide) (fun c => ?_) (fun c => ?_)
        · have hf := it_2 hf c
          refine lv_iconst (v := 0) hx hb dX7_many_57 (by decide) ?_
          refine lv_iadd hx hb dX7_many_58 ?_
          refine lv_istore_n (lv' := [(3, .int (x3 + 0)), (0, .ref (a 0)), (1, .int x1), (2, .int x2), (4, .int x4)]) hx hb dX7_many_59 rfl hl (by decide) rfl (fun ls hl => ?_)
          refine lv_iinc (v := (x4 + 1)) (lv' := [(4, .int (x4 + 1)), (3, .int (x3 + 0)), (0, .ref (a 0)), (1, .int x1), (2, .int x2)]) hx hb dX7_many_60 hl (k := 4) rfl rfl (by decide) rfl (fun ls hl => ?_)
          refine lv_goto (tgt := 5) hx hb dX7_many_63 (by decide) ?_
          exact ih v x1 x2 (x3 + 0) (x4 + 1) ls hP (lv_sub hl [2, 3, 4, 1, 0] rfl) hf
        · have hf := it_1 hf c
          refine lv_iload_n hx hb dX7_many_32 rfl (lv_at hl 1 rfl) ?_
          refine lv_bipush (v := 6) hx hb dX7_many_33 (by decide) ?_
          refine lv_icmp_eq (tgt := 53) hx hb dX7_many_35 (by decide) (fun c => ?_) (fun c => ?_)
          · have hf := it_1 hf c
            refine lv_iconst (v := 1) hx hb dX7_many_53 (by decide) ?_
            refine lv_goto (tgt := 58) hx hb dX7_many_54 (by decide) ?_
            refine lv_iadd hx hb dX7_many_58 ?_
            refine lv_istore_n (lv' := [(3, .int (x3 + 1)), (0, .ref (a 0)), (1, .int x1), (2, .int x2), (4, .int x4)]) hx hb dX7_many_59 rfl hl (by decide) rfl (fun ls hl => ?_)
            refine lv_iinc (v := (x4 + 1)) (lv' := [(4, .int (x4 + 1)), (3, .int (x3 + 1)), (0, .ref (a 0)), (1, .int x1), (2, .int x2)]) hx hb dX7_many_60 hl (k := 4) rfl rfl (by decide) rfl (fun ls hl => ?_)
            refine lv_goto (tgt := 5) hx hb dX7_many_63 (by decide) ?_
            exact ih v x1 x2 (x3 + 1) (x4 + 1) ls hP (lv_sub hl [2, 3, 4, 1, 0] rfl) hf
          · have hf := it_2 hf c
            refine lv_aload_n hx hb dX7_many_38 rfl (lv_at hl 0 rfl) ?_
            refine va_get (D := G.1) (ci := 7) (v := .ref (a 1)) (C := RX7) (T := TX7) (N := 16) hx hb hts hinX7 hown hK hP 0 rfl rfl 0 (by decide) lk7 (fun _ h9 => h9) rfl dX7_many_39 ?_
            refine lv_iload hx hb dX7_many_42 (lv_at hl 4 rfl) ?_
            refine lv_iconst (v := 0) hx hb dX7_many_44 (by decide) ?_
            refine vp_callSi (W.runS (As := [.int x4, .int 0]) (rest := [.ref (a 1), .int x3]) ⟨hx, hb, hml, hown, hts⟩ (ok_X7_ofL l x4 0) (va_cwS 2 hts gX7_many_X7_ofL rfl rfl rfl (by decide +kernel) ⟨Nat.le_of_ble_eq_true rfl, Nat.le_of_ble_eq_true rfl⟩) ⟨fun _ _ _ _ q => q, fun _ _ _ => ⟨rfl, trivial⟩⟩ rfl rfl hl.1 rfl (lv_room (Nat.le_of_ble_eq_true rfl)) dX7_many_45 ⟨Nat.zero_le _, Nat.zero_le _⟩) (fun r45 hw => ?_)
            subst hw
            obtain ⟨hi, hf⟩ := ck_1 hf hne
            refine va_iald (f := (v 0)) hx hb hK hP 1 0 rfl rfl (ixb_1 hi) dX7_many_48 ?_
            refine lv_iload_n hx hb dX7_many_49 rfl (lv_at hl 1 rfl) ?_
            refine lv_icmp_ne (tgt := 57) hx hb dX7_many_50 (by decide) (fun c => ?_) (fun c => ?_)
            · have hf := it_2 hf c
              refine lv_iconst (v := 0) hx hb dX7_many_57 (by decide) ?_
              refine lv_iadd hx hb dX7_many_58 ?_
              refine lv_istore_n (lv' := [(3, .int (x3 + 0)), (0, .ref (a 0)), (1, .int x1), (2, .int x2), (4, .int x4)]) hx hb dX7_many_59 rfl hl (by decide) rfl (fun ls hl => ?_)
              refine lv_iinc (v := (x4 + 1)) (lv' := [(4, .int (x4 + 1)), (3, .int (x3 + 0)), (0, .ref (a 0)), (1, .int x1), (2, .int x2)]) hx hb dX7_many_60 hl (k := 4) rfl rfl (by decide) rfl (fun ls hl => ?_)
              refine lv_goto (tgt := 5) hx hb dX7_many_63 (by decide) ?_
              exact ih v x1 x2 (x3 + 0) (x4 + 1) ls hP (lv_sub hl [2, 3, 4, 1, 0] rfl) hf
            · have hf := it_1 hf c
              refine lv_iconst (v := 1) hx hb dX7_many_53 (by decide) ?_
              refine lv_goto (tgt := 58) hx hb dX7_many_54 (by decide) ?_
              refine lv_iadd hx hb dX7_many_58 ?_
              refine lv_istore_n (lv' := [(3, .int (x3 + 1)), (0, .ref (a 0)), (1, .int x1), (2, .int x2), (4, .int x4)]) hx hb dX7_many_59 rfl hl (by decide) rfl (fun ls hl => ?_)
              refine lv_iinc (v := (x4 + 1)) (lv' := [(4, .int (x4 + 1)), (3, .int (x3 + 1)), (0, .ref (a 0)), (1, .int x1), (2, .int x2)]) hx hb dX7_many_60 hl (k := 4) rfl rfl (by decide) rfl (fun ls hl => ?_)
              refine lv_goto (tgt := 5) hx hb dX7_many_63 (by decide) ?_
              exact ih v x1 x2 (x3 + 1) (x4 + 1) ls hP (lv_sub hl [2, 3, 4, 1, 0] rfl) hf
  refine lv_iconst (v := 0) hx hb dX7_many_0 (by decide) ?_
  refine lv_istore_n (lv' := [(3, .int 0), (0, .ref (a 0)), (1, .int p1), (2, .int p2)]) hx hb dX7_many_1 rfl hl (by decide) rfl (fun ls hl => ?_)
  refine lv_iconst (v := 0) hx hb dX7_many_2 (by decide) ?_
  refine lv_istore (lv' := [(4, .int 0), (3, .int 0), (0, .ref (a 0)), (1, .int p1), (2, .int p2)]) hx hb dX7_many_3 hl (by decide) rfl (fun ls hl => ?_)
  exact L5 n0 v0 p1 p2 0 0 ls hP (lv_sub hl [2, 3, 4, 1, 0] rfl) hf
set_option maxHeartbeats 4000000 in
set_option maxRecDepth 100000 in
theorem ok_X7_wouldGo (l : Launch) (G : Gt) (a : Nat → Nat) (v0 : DV) (p1 : Int32) (hne : f_X7_wouldGo v0 p1 ≠ none) : Met l yX7_wouldGo wsX7_wouldGo ({ frames := 2, cells := 0, slots := 0, locals := 43 } : Room) (pcR G [.ref (a 0), .int p1] (modelC G.2 a v0)) (vp_Si (fun r => f_X7_wouldGo v0 p1 = some r)) 0 0 (fun _ => False) := by
  refine Met.ofW (cc := cX7_wouldGo) (maxL := 4) (ret := (some .boolean)) (by decide) rfl ?_
  intro p e s m args below meth c s₁ B hml hv
  obtain ⟨rfl, hP, hamb⟩ := hv
  have hx := B.exec
  have hb := B.bytes
  have hr := B.returns
  have hts := atoms_spec (ws := wsX7_wouldGo) B.pre
  have hown : s.vm.findClass RX7 = some m.cls := findClass_of_methodNamed B.named
  have hlocks := B.notSynchronized
  have hK := hamb.1
  obtain ⟨res, hf0⟩ : ∃ res, f_X7_wouldGo v0 p1 = res := ⟨_, rfl⟩
  have hne : res ≠ none := hf0 ▸ hne
  have hf := hf0
  rw [f_X7_wouldGo] at hf
  have hinX7 : ∀ w ∈ u_ws RX7 TX7 16, w ∈ wsX7_wouldGo := by decide +kernel
  have lk7 := hts (.fieldLink RX7 7 "MoodDrawersModel" "s" "[I") (by decide +kernel)
  have hl := lv_entry ([.ref (a 0), .int p1]) (n := 4) (Nat.le_of_ble_eq_true rfl)
  rw [lg_entry_eq]
  generalize (lg_sl ([.ref (a 0), .int p1]) ++ List.replicate (4 - (lg_sl ([.ref (a 0), .int p1])).length) Slot.unset).toArray = ls at hl ⊢
  have hl : lv_has ls 4 [(0, .ref (a 0)), (1, .int p1)] := hl
  have J42 : ∀ (v : DV) (x1 : Int32) (x2 : Int32) (z0 : Int32) (ls : Array Slot), va_P G.1 vwCl (modelC G.2 a v) s.heap → lv_has ls 4 [(0, .ref (a 0)), (1, .int x1), (2, .int x2)] → f_X7_wouldGo_J42 v x1 x2 z0 = res → W p l e (headSpec wsX7_wouldGo ({ frames := 2, cells := 0, slots := 0, locals := 43 } : Room)).room s m ([.ref (a 0), .int p1] : List Value).toArray below meth c s.heap [] 0 0 (MQ below (vp_Si (fun r => f_X7_wouldGo v0 p1 = some r)) ([.ref (a 0), .int p1] : List Value).toArray s 0 0 (fun _ => False)) (F0 m 42 ls [.int z0]) := by
    intro v x1 x2 z0 ls hP hl hf
    rw [f_X7_wouldGo_J42] at hf
    refine lv_istore_n (lv' := [(3, .int z0), (0, .ref (a 0)), (1, .int x1), (2, .int x2)]) hx hb dX7_wouldGo_42 rfl hl (by decide) rfl (fun ls hl => ?_)
    refine lv_iload_n hx hb dX7_wouldGo_43 rfl (lv_at hl 0 rfl) ?_
    refine lv_if_eq (tgt := 95) hx hb dX7_wouldGo_44 (by decide) (fun c => ?_) (fun c => ?_)
    · have hf := it_1 hf c
      refine lv_iconst (v := 0) hx hb dX7_wouldGo_95 (by decide) ?_
      exact W.zret (ty := .boolean) (v := 0) hx hb hr rfl (fun t ht hW => ⟨0, rfl, hf0.trans hf.symm, ht⟩) (fun _ hq => absurd hq List.not_mem_nil) dX7_wouldGo_96
    · have hf := it_2 hf c
      refine lv_aload_n hx hb dX7_wouldGo_47 rfl (lv_at hl 1 rfl) ?_
      refine va_get (D := G.1) (ci := 7) (v := .ref (a 1)) (C := RX7) (T := TX7) (N := 16) hx hb hts hinX7 hown hK hP 0 rfl rfl 0 (by decide) lk7 (fun _ h9 => h9) rfl dX7_wouldGo_48 ?_
      refine lv_iconst (v := 3) hx hb dX7_wouldGo_51 (by decide) ?_
      refine va_iald (f := (v 0)) hx hb hK hP 1 0 rfl rfl (ixb_1 (show ixb 3 240 = true from rfl)) dX7_wouldGo_52 ?_
      refine lv_aload_n hx hb dX7_wouldGo_53 rfl (lv_at hl 1 rfl) ?_
      refine va_get (D := G.1) (ci := 7) (v := .ref (a 1)) (C := RX7) (T := TX7) (N := 16) hx hb hts hinX7 hown hK hP 0 rfl rfl 0 (by decide) lk7 (fun _ h9 => h9) rfl dX7_wouldGo_54 ?_
      refine lv_iload_n hx hb dX7_wouldGo_57 rfl (lv_at hl 2 rfl) ?_
      refine lv_iconst (v := 2) hx hb dX7_wouldGo_58 (by decide) ?_
      refine vp_callSi (W.runS (As := [.int x1, .int 2]) (rest := [.ref (a 1), .int ((v 0) (Int32.toNatClampNeg 3))]) ⟨hx, hb, hml, hown, hts⟩ (ok_X7_ofL l x1 2) (va_cwS 2 hts gX7_wouldGo_X7_ofL rfl rfl rfl (by decide +kernel) ⟨Nat.le_of_ble_eq_true rfl, Nat.le_of_ble_eq_true rfl⟩) ⟨fun _ _ _ _ q => q, fun _ _ _ => ⟨rfl, trivial⟩⟩ rfl rfl hl.1 rfl (lv_room (Nat.le_of_ble_eq_true rfl)) dX7_wouldGo_59 ⟨Nat.zero_le _, Nat.zero_le _⟩) (fun r59 hw => ?_)
      subst hw
      obtain ⟨hi, hf⟩ := ck_1 hf hne
      refine va_iald (f := (v 0)) hx hb hK hP 1 0 rfl rfl (ixb_1 hi) dX7_wouldGo_62 ?_
      refine lv_isub hx hb dX7_wouldGo_63 ?_
      refine lv_aload_n hx hb dX7_wouldGo_64 rfl (lv_at hl 1 rfl) ?_
      refine va_get (D := G.1) (ci := 7) (v := .ref (a 1)) (C := RX7) (T := TX7) (N := 16) hx hb hts hinX7 hown hK hP 0 rfl rfl 0 (by decide) lk7 (fun _ h9 => h9) rfl dX7_wouldGo_65 ?_
      refine lv_iload_n hx hb dX7_wouldGo_68 rfl (lv_at hl 3 rfl) ?_
      refine lv_iconst (v := 1) hx hb dX7_wouldGo_69 (by decide) ?_
      refine vp_callSi (W.runS (As := [.int x2, .int 1]) (rest := [.ref (a 1), .int (((v 0) (Int32.toNatClampNeg 3)) - ((v 0) (Int32.toNatClampNeg (f_X7_ofL x1 2))))]) ⟨hx, hb, hml, hown, hts⟩ (ok_X7_ofD l x2 1) (va_cwS 2 hts gX7_wouldGo_X7_ofD rfl rfl rfl (by decide +kernel) ⟨Nat.le_of_ble_eq_true rfl, Nat.le_of_ble_eq_true rfl⟩) ⟨fun _ _ _ _ q => q, fun _ _ _ => ⟨rfl, trivial⟩⟩ rfl rfl hl.1 rfl (lv_room (Nat.le_of_ble_eq_true rfl)) dX7_wouldGo_70 ⟨Nat.zero_le _, Nat.zero_le _⟩) (fun r70 hw => ?_)
      subst hw
      obtain ⟨hi, hf⟩ := ck_1 hf hne
      refine va_iald (f := (v 0)) hx hb hK hP 1 0 rfl rfl (ixb_1 hi) dX7_wouldGo_73 ?_
      refine lv_icmp_lt (tgt := 95) hx hb dX7_wouldGo_74 (by decide) (fun c => ?_) (fun c => ?_)
      · have hf := it_1 hf c
        refine lv_iconst (v := 0) hx hb dX7_wouldGo_95 (by decide) ?_
        exact W.zret (ty := .boolean) (v := 0) hx hb hr rfl (fun t ht hW => ⟨0, rfl, hf0.trans hf.symm, ht⟩) (fun _ hq => absurd hq List.not_mem_nil) dX7_wouldGo_96
      · have hf := it_2 hf c
        refine lv_aload_n hx hb dX7_wouldGo_77 rfl (lv_at hl 1 rfl) ?_
        refine lv_iload_n hx hb dX7_wouldGo_78 rfl (lv_at hl 2 rfl) ?_
        have hn := bd1_1 hf hne
        refine vp_callSi (W.runV (As := [.int x1]) (rest := []) ⟨hx, hb, hml, hown, hts⟩ (ok_X7_heat l G a v x1 hn) (cwV 1 hts gX7_wouldGo_X7_heat rfl rfl rfl (by decide +kernel) ⟨Nat.le_of_ble_eq_true rfl, Nat.le_of_ble_eq_true rfl⟩) ⟨pcR_blind, va_recv hK hP (ci := 7) (q0 := 0) rfl rfl, pcR_pre hP hamb⟩ rfl rfl hl.1 rfl (lv_room (Nat.le_of_ble_eq_true rfl)) dX7_wouldGo_79 ⟨Nat.zero_le _, Nat.zero_le _⟩) (fun r79 hw => ?_)
        have hf := bd1_2 hf hw
        refine lv_aload_n hx hb dX7_wouldGo_82 rfl (lv_at hl 1 rfl) ?_
        refine va_get (D := G.1) (ci := 7) (v := .ref (a 1)) (C := RX7) (T := TX7) (N := 16) hx hb hts hinX7 hown hK hP 0 rfl rfl 0 (by decide) lk7 (fun _ h9 => h9) rfl dX7_wouldGo_83 ?_
        refine lv_iconst (v := 1) hx hb dX7_wouldGo_86 (by decide) ?_
        refine va_iald (f := (v 0)) hx hb hK hP 1 0 rfl rfl (ixb_1 (show ixb 1 240 = true from rfl)) dX7_wouldGo_87 ?_
        refine lv_icmp_gt (tgt := 95) hx hb dX7_wouldGo_88 (by decide) (fun c => ?_) (fun c => ?_)
        · have hf := it_1 hf c
          refine lv_iconst (v := 0) hx hb dX7_wouldGo_95 (by decide) ?_
          exact W.zret (ty := .boolean) (v := 0) hx hb hr rfl (fun t ht hW => ⟨0, rfl, hf0.trans hf.symm, ht⟩) (fun _ hq => absurd hq List.not_mem_nil) dX7_wouldGo_96
        · have hf := it_2 hf c
          refine lv_iconst (v := 1) hx hb dX7_wouldGo_91 (by decide) ?_
          refine lv_goto (tgt := 96) hx hb dX7_wouldGo_92 (by decide) ?_
          exact W.zret (ty := .boolean) (v := 1) hx hb hr rfl (fun t ht hW => ⟨1, rfl, hf0.trans hf.symm, ht⟩) (fun _ hq => absurd hq List.not_mem_nil) dX7_wouldGo_96
  have J41 : ∀ (v : DV) (x1 : Int32) (x2 : Int32) (ls : Array Slot), va_P G.1 vwCl (modelC G.2 a v) s.heap → lv_has ls 4 [(0, .ref (a 0)), (1, .int x1), (2, .int x2)] → f_X7_wouldGo_J41 v x1 x2 = res → W p l e (headSpec wsX7_wouldGo ({ frames := 2, cells := 0, slots := 0, locals := 43 } : Room)).room s m ([.ref (a 0), .int p1] : List Value).toArray below meth c s.heap [] 0 0 (MQ below (vp_Si (fun r => f_X7_wouldGo v0 p1 = some r)) ([.ref (a 0), .int p1] : List Value).toArray s 0 0 (fun _ => False)) (F0 m 41 ls []) := by
    intro v x1 x2 ls hP hl hf
    rw [f_X7_wouldGo_J41] at hf
    refine lv_iconst (v := 0) hx hb dX7_wouldGo_41 (by decide) ?_
    exact J42 v x1 x2 0 ls hP (lv_sub hl [0, 1, 2] rfl) hf
  refine lv_aload_n hx hb dX7_wouldGo_0 rfl (lv_at hl 0 rfl) ?_
  refine va_get (D := G.1) (ci := 7) (v := .ref (a 1)) (C := RX7) (T := TX7) (N := 16) hx hb hts hinX7 hown hK hP 0 rfl rfl 0 (by decide) lk7 (fun _ h9 => h9) rfl dX7_wouldGo_1 ?_
  refine lv_iload_n hx hb dX7_wouldGo_4 rfl (lv_at hl 1 rfl) ?_
  refine lv_iconst (v := 0) hx hb dX7_wouldGo_5 (by decide) ?_
  refine vp_callSi (W.runS (As := [.int p1, .int 0]) (rest := [.ref (a 1)]) ⟨hx, hb, hml, hown, hts⟩ (ok_X7_ofL l p1 0) (va_cwS 2 hts gX7_wouldGo_X7_ofL rfl rfl rfl (by decide +kernel) ⟨Nat.le_of_ble_eq_true rfl, Nat.le_of_ble_eq_true rfl⟩) ⟨fun _ _ _ _ q => q, fun _ _ _ => ⟨rfl, trivial⟩⟩ rfl rfl hl.1 rfl (lv_room (Nat.le_of_ble_eq_true rfl)) dX7_wouldGo_6 ⟨Nat.zero_le _, Nat.zero_le _⟩) (fun r6 hw => ?_)
  subst hw
  obtain ⟨hi, hf⟩ := ck_1 hf hne
  refine va_iald (f := (v0 0)) hx hb hK hP 1 0 rfl rfl (ixb_1 hi) dX7_wouldGo_9 ?_
  refine lv_istore_n (lv' := [(2, .int ((v0 0) (Int32.toNatClampNeg (f_X7_ofL p1 0)))), (0, .ref (a 0)), (1, .int p1)]) hx hb dX7_wouldGo_10 rfl hl (by decide) rfl (fun ls hl => ?_)
  refine lv_aload_n hx hb dX7_wouldGo_11 rfl (lv_at hl 1 rfl) ?_
  refine va_get (D := G.1) (ci := 7) (v := .ref (a 1)) (C := RX7) (T := TX7) (N := 16) hx hb hts hinX7 hown hK hP 0 rfl rfl 0 (by decide) lk7 (fun _ h9 => h9) rfl dX7_wouldGo_12 ?_
  refine lv_iload_n hx hb dX7_wouldGo_15 rfl (lv_at hl 2 rfl) ?_
  refine lv_iconst (v := 3) hx hb dX7_wouldGo_16 (by decide) ?_
  refine vp_callSi (W.runS (As := [.int p1, .int 3]) (rest := [.ref (a 1)]) ⟨hx, hb, hml, hown, hts⟩ (ok_X7_ofL l p1 3) (va_cwS 2 hts gX7_wouldGo_X7_ofL rfl rfl rfl (by decide +kernel) ⟨Nat.le_of_ble_eq_true rfl, Nat.le_of_ble_eq_true rfl⟩) ⟨fun _ _ _ _ q => q, fun _ _ _ => ⟨rfl, trivial⟩⟩ rfl rfl hl.1 rfl (lv_room (Nat.le_of_ble_eq_true rfl)) dX7_wouldGo_17 ⟨Nat.zero_le _, Nat.zero_le _⟩) (fun r17 hw => ?_)
  subst hw
  obtain ⟨hi, hf⟩ := ck_1 hf hne
  refine va_iald (f := (v0 0)) hx hb hK hP 1 0 rfl rfl (ixb_1 hi) dX7_wouldGo_20 ?_
  refine lv_if_ne (tgt := 41) hx hb dX7_wouldGo_21 (by decide) (fun c => ?_) (fun c => ?_)
  · have hf := it_2 hf c
    exact J41 v0 p1 ((v0 0) (Int32.toNatClampNeg (f_X7_ofL p1 0))) ls hP (lv_sub hl [1, 2, 0] rfl) hf
  · have hf := it_1 hf c
    refine lv_aload_n hx hb dX7_wouldGo_24 rfl (lv_at hl 1 rfl) ?_
    refine va_get (D := G.1) (ci := 7) (v := .ref (a 1)) (C := RX7) (T := TX7) (N := 16) hx hb hts hinX7 hown hK hP 0 rfl rfl 0 (by decide) lk7 (fun _ h9 => h9) rfl dX7_wouldGo_25 ?_
    refine lv_iload_n hx hb dX7_wouldGo_28 rfl (lv_at hl 0 rfl) ?_
    refine lv_iconst (v := 0) hx hb dX7_wouldGo_29 (by decide) ?_
    refine vp_callSi (W.runS (As := [.int ((v0 0) (Int32.toNatClampNeg (f_X7_ofL p1 0))), .int 0]) (rest := [.ref (a 1)]) ⟨hx, hb, hml, hown, hts⟩ (ok_X7_ofD l ((v0 0) (Int32.toNatClampNeg (f_X7_ofL p1 0))) 0) (va_cwS 2 hts gX7_wouldGo_X7_ofD rfl rfl rfl (by decide +kernel) ⟨Nat.le_of_ble_eq_true rfl, Nat.le_of_ble_eq_true rfl⟩) ⟨fun _ _ _ _ q => q, fun _ _ _ => ⟨rfl, trivial⟩⟩ rfl rfl hl.1 rfl (lv_room (Nat.le_of_ble_eq_true rfl)) dX7_wouldGo_30 ⟨Nat.zero_le _, Nat.zero_le _⟩) (fun r30 hw => ?_)
    subst hw
    obtain ⟨hi, hf⟩ := ck_1 hf hne
    refine va_iald (f := (v0 0)) hx hb hK hP 1 0 rfl rfl (ixb_1 hi) dX7_wouldGo_33 ?_
    refine lv_if_ne (tgt := 41) hx hb dX7_wouldGo_34 (by decide) (fun c => ?_) (fun c => ?_)
    · have hf := it_2 hf c
      exact J41 v0 p1 ((v0 0) (Int32.toNatClampNeg (f_X7_ofL p1 0))) ls hP (lv_sub hl [1, 2, 0] rfl) hf
    · have hf := it_1 hf c
      refine lv_iconst (v := 1) hx hb dX7_wouldGo_37 (by decide) ?_
      refine lv_goto (tgt := 42) hx hb dX7_wouldGo_38 (by decide) ?_
      exact J42 v0 p1 ((v0 0) (Int32.toNatClampNeg (f_X7_ofL p1 0))) 1 ls hP (lv_sub hl [1, 2, 0] rfl) hf
set_option maxHeartbeats 4000000 in
set_option maxRecDepth 100000 in
theorem ok_X7_hour (l : Launch) (G : Gt) (a : Nat → Nat) (sz : Nat) (n0 : Nat) (v0 : DV) (hne : f_X7_hour n0 v0 ≠ none) : Met l yX7_hour wsX7_hour ({ frames := 3, cells := 0, slots := 0, locals := 66 } : Room) (pcW G [.ref (a 0)] (modelC G.2 a v0) sz) (va_Qv (fun (u : DV) => f_X7_hour n0 v0 = some u) (fun u t => atW G (modelC G.2 a u) (va_A (modelC G.2 a v0) sz) t) (va_A (modelC G.2 a v0) sz)) 0 0 (va_A (modelC G.2 a v0) sz) := by
  refine Met.ofW (cc := cX7_hour) (maxL := 2) (ret := none) (by decide) rfl ?_
  intro p e s m args below meth c s₁ B hml hv
  obtain ⟨rfl, hsz, hP, hD0, hamb⟩ := hv
  have hx := B.exec
  have hb := B.bytes
  have hr := B.returns
  have hts := atoms_spec (ws := wsX7_hour) B.pre
  have hown : s.vm.findClass RX7 = some m.cls := findClass_of_methodNamed B.named
  have hlocks := B.notSynchronized
  have hK := hamb.1
  subst hsz
  have hD := hD0.self (sz := s.heap.size)
  generalize hAe : va_A (modelC G.2 a v0) s.heap.size = A at hD ⊢
  have hA : ∀ q : Nat, s.heap.size ≤ q → A q := fun q h => by rw [← hAe]; exact Or.inr h
  have hS : va_S A s.heap s.heap [] := va_S.rf
  obtain ⟨res, hf0⟩ : ∃ res, f_X7_hour n0 v0 = res := ⟨_, rfl⟩
  have hne : res ≠ none := hf0 ▸ hne
  have hf := hf0
  rw [f_X7_hour] at hf
  have hinX7 : ∀ w ∈ u_ws RX7 TX7 16, w ∈ wsX7_hour := by decide +kernel
  have lk7 := hts (.fieldLink RX7 7 "MoodDrawersModel" "s" "[I") (by decide +kernel)
  have hl := lv_entry ([.ref (a 0)]) (n := 2) (Nat.le_of_ble_eq_true rfl)
  rw [lg_entry_eq]
  generalize (lg_sl ([.ref (a 0)]) ++ List.replicate (2 - (lg_sl ([.ref (a 0)])).length) Slot.unset).toArray = ls at hl ⊢
  have hl : lv_has ls 2 [(0, .ref (a 0))] := hl
  have J164 : ∀ (n : Nat) (v : DV) (H : Heap) (locs : List Loc) (ls : Array Slot), va_P G.1 vwCl (modelC G.2 a v) H → va_D A (modelC G.2 a v) → va_S A s.heap H locs → lv_has ls 2 [(0, .ref (a 0))] → f_X7_hour_J164 n v = res → W p l e (headSpec wsX7_hour ({ frames := 3, cells := 0, slots := 0, locals := 66 } : Room)).room s m ([.ref (a 0)] : List Value).toArray below meth c H locs 0 0 (MQ below (va_Qv (fun (u : DV) => f_X7_hour n0 v0 = some u) (fun u t => atW G (modelC G.2 a u) A t) A) ([.ref (a 0)] : List Value).toArray s 0 0 A) (F0 m 164 ls []) := by
    intro n v H locs ls hP hD hS hl hf
    rw [f_X7_hour_J164] at hf
    refine lv_aload_n hx hb dX7_hour_164 rfl (lv_at hl 0 rfl) ?_
    refine va_get (D := G.1) (ci := 7) (v := .ref (a 1)) (C := RX7) (T := TX7) (N := 16) hx hb hts hinX7 hown hK hP 0 rfl rfl 0 (by decide) lk7 (fun _ h9 => h9) rfl dX7_hour_165 ?_
    refine lv_iconst (v := 4) hx hb dX7_hour_168 (by decide) ?_
    refine lv_dup2_11 hx hb dX7_hour_169 rfl rfl ?_
    refine va_iald (f := (v 0)) hx hb hK hP 1 0 rfl rfl (ixb_1 (show ixb 4 240 = true from rfl)) dX7_hour_170 ?_
    refine lv_iconst (v := 1) hx hb dX7_hour_171 (by decide) ?_
    refine lv_iadd hx hb dX7_hour_172 ?_
    refine va_iast (f := (v 0)) hx hb hK hP hD hS 1 0 rfl rfl (ixb_1 (show ixb 4 240 = true from rfl)) dX7_hour_173 (fun H locs hP hD hS => ?_)
    obtain ⟨v173, hv, hf⟩ := lt_1 hf
    have hP : va_P G.1 vwCl (modelC G.2 a v173) H := by rw [hv]; exact hP
    have hD : va_D A (modelC G.2 a v173) := by rw [hv]; exact hD
    clear hv
    refine lv_aload_n hx hb dX7_hour_174 rfl (lv_at hl 0 rfl) ?_
    refine va_get (D := G.1) (ci := 7) (v := .ref (a 1)) (C := RX7) (T := TX7) (N := 16) hx hb hts hinX7 hown hK hP 0 rfl rfl 0 (by decide) lk7 (fun _ h9 => h9) rfl dX7_hour_175 ?_
    refine lv_iconst (v := 4) hx hb dX7_hour_178 (by decide) ?_
    refine va_iald (f := (v173 0)) hx hb hK hP 1 0 rfl rfl (ixb_1 (show ixb 4 240 = true from rfl)) dX7_hour_179 ?_
    refine lv_bipush (v := 24) hx hb dX7_hour_180 (by decide) ?_
    refine lv_icmp_ne (tgt := 202) hx hb dX7_hour_182 (by decide) (fun c => ?_) (fun c => ?_)
    · have hf := it_2 hf c
      exact W.vret hx hb hr (fun t ht hW => ⟨⟨v173, rfl, hf0.trans hf.symm, by rw [ht]; exact hP, hD⟩, hS.F ht⟩) hS.2.2 dX7_hour_202
    · have hf := it_1 hf c
      refine lv_aload_n hx hb dX7_hour_185 rfl (lv_at hl 0 rfl) ?_
      refine va_get (D := G.1) (ci := 7) (v := .ref (a 1)) (C := RX7) (T := TX7) (N := 16) hx hb hts hinX7 hown hK hP 0 rfl rfl 0 (by decide) lk7 (fun _ h9 => h9) rfl dX7_hour_186 ?_
      refine lv_iconst (v := 4) hx hb dX7_hour_189 (by decide) ?_
      refine lv_iconst (v := 0) hx hb dX7_hour_190 (by decide) ?_
      refine va_iast (f := (v173 0)) hx hb hK hP hD hS 1 0 rfl rfl (ixb_1 (show ixb 4 240 = true from rfl)) dX7_hour_191 (fun H locs hP hD hS => ?_)
      obtain ⟨v191, hv, hf⟩ := lt_1 hf
      have hP : va_P G.1 vwCl (modelC G.2 a v191) H := by rw [hv]; exact hP
      have hD : va_D A (modelC G.2 a v191) := by rw [hv]; exact hD
      clear hv
      refine lv_aload_n hx hb dX7_hour_192 rfl (lv_at hl 0 rfl) ?_
      refine va_get (D := G.1) (ci := 7) (v := .ref (a 1)) (C := RX7) (T := TX7) (N := 16) hx hb hts hinX7 hown hK hP 0 rfl rfl 0 (by decide) lk7 (fun _ h9 => h9) rfl dX7_hour_193 ?_
      refine lv_iconst (v := 3) hx hb dX7_hour_196 (by decide) ?_
      refine lv_dup2_11 hx hb dX7_hour_197 rfl rfl ?_
      refine va_iald (f := (v191 0)) hx hb hK hP 1 0 rfl rfl (ixb_1 (show ixb 3 240 = true from rfl)) dX7_hour_198 ?_
      refine lv_iconst (v := 1) hx hb dX7_hour_199 (by decide) ?_
      refine lv_iadd hx hb dX7_hour_200 ?_
      refine va_iast (f := (v191 0)) hx hb hK hP hD hS 1 0 rfl rfl (ixb_1 (show ixb 3 240 = true from rfl)) dX7_hour_201 (fun H locs hP hD hS => ?_)
      obtain ⟨v201, hv, hf⟩ := lt_1 hf
      have hP : va_P G.1 vwCl (modelC G.2 a v201) H := by rw [hv]; exact hP
      have hD : va_D A (modelC G.2 a v201) := by rw [hv]; exact hD
      clear hv
      exact W.vret hx hb hr (fun t ht hW => ⟨⟨v201, rfl, hf0.trans hf.symm, by rw [ht]; exact hP, hD⟩, hS.F ht⟩) hS.2.2 dX7_hour_202
  have L82 : ∀ (n : Nat) (v : DV) (x1 : Int32) (H : Heap) (locs : List Loc) (ls : Array Slot), va_P G.1 vwCl (modelC G.2 a v) H → va_D A (modelC G.2 a v) → va_S A s.heap H locs → lv_has ls 2 [(0, .ref (a 0)), (1, .int x1)] → f_X7_hour_L82 n v x1 = res → W p l e (headSpec wsX7_hour ({ frames := 3, cells := 0, slots := 0, locals := 66 } : Room)).room s m ([.ref (a 0)] : List Value).toArray below meth c H locs 0 0 (MQ below (va_Qv (fun (u : DV) => f_X7_hour n0 v0 = some u) (fun u t => atW G (modelC G.2 a u) A t) A) ([.ref (a 0)] : List Value).toArray s 0 0 A) (F0 m 82 ls []) := by
    intro n
    induction n with
    | zero => intro v x1 H locs ls hP hD hS hl hf; exact (none_1 hf hne).elim
    | succ n ih =>
      intro v x1 H locs ls hP hD hS hl hf
      rw [f_X7_hour_L82] at hf
      refine lv_iload_n hx hb dX7_hour_82 rfl (lv_at hl 1 rfl) ?_
      refine lv_aload_n hx hb dX7_hour_83 rfl (lv_at hl 0 rfl) ?_
      refine va_get (D := G.1) (ci := 7) (v := .ref (a 1)) (C := RX7) (T := TX7) (N := 16) hx hb hts hinX7 hown hK hP 0 rfl rfl 0 (by decide) lk7 (fun _ h9 => h9) rfl dX7_hour_84 ?_
      refine lv_iconst (v := 5) hx hb dX7_hour_87 (by decide) ?_
      refine va_iald (f := (v 0)) hx hb hK hP 1 0 rfl rfl (ixb_1 (show ixb 5 240 = true from rfl)) dX7_hour_88 ?_
      refine lv_icmp_ge (tgt := 164) hx hb dX7_hour_89 (by decide) (fun c => ?_) (fun c => ?_)
      · have hf := it_1 hf c
        exact J164 n v H locs ls hP hD hS (lv_sub hl [0] rfl) hf
      · have hf := it_2 hf c
        refine lv_aload_n hx hb dX7_hour_92 rfl (lv_at hl 0 rfl) ?_
        refine va_get (D := G.1) (ci := 7) (v := .ref (a 1)) (C := RX7) (T := TX7) (N := 16) hx hb hts hinX7 hown hK hP 0 rfl rfl 0 (by decide) lk7 (fun _ h9 => h9) rfl dX7_hour_93 ?_
        refine lv_iconst (v := 4) hx hb dX7_hour_96 (by decide) ?_
        refine va_iald (f := (v 0)) hx hb hK hP 1 0 rfl rfl (ixb_1 (show ixb 4 240 = true from rfl)) dX7_hour_97 ?_
        refine lv_aload_n hx hb dX7_hour_98 rfl (lv_at hl 0 rfl) ?_
        refine va_get (D := G.1) (ci := 7) (v := .ref (a 1)) (C := RX7) (T := TX7) (N := 16) hx hb hts hinX7 hown hK hP 0 rfl rfl 0 (by decide) lk7 (fun _ h9 => h9) rfl dX7_hour_99 ?_
        refine lv_iconst (v := 0) hx hb dX7_hour_102 (by decide) ?_
        refine va_iald (f := (v 0)) hx hb hK hP 1 0 rfl rfl (ixb_1 (show ixb 0 240 = true from rfl)) dX7_hour_103 ?_
        refine lv_icmp_ne (tgt := 164) hx hb dX7_hour_104 (by decide) (fun c => ?_) (fun c => ?_)
        · have hf := it_2 hf c
          exact J164 n v H locs ls hP hD hS (lv_sub hl [0] rfl) hf
        · have hf := it_1 hf c
          refine lv_aload_n hx hb dX7_hour_107 rfl (lv_at hl 0 rfl) ?_
          refine lv_iload_n hx hb dX7_hour_108 rfl (lv_at hl 1 rfl) ?_
          have hn := bd1_1 hf hne
          refine vp_callSi (W.runV (As := [.int x1]) (rest := []) ⟨hx, hb, hml, hown, hts⟩ (ok_X7_wouldGo l G a v x1 hn) (cwV 1 hts gX7_hour_X7_wouldGo rfl rfl rfl (by decide +kernel) ⟨Nat.le_of_ble_eq_true rfl, Nat.le_of_ble_eq_true rfl⟩) ⟨pcR_blind, va_recv hK hP (ci := 7) (q0 := 0) rfl rfl, pcR_pre hP hamb⟩ rfl rfl hl.1 rfl (lv_room (Nat.le_of_ble_eq_true rfl)) dX7_hour_109 ⟨Nat.zero_le _, Nat.zero_le _⟩) (fun r109 hw => ?_)
          have hf := bd1_2 hf hw
          refine lv_if_eq (tgt := 158) hx hb dX7_hour_112 (by decide) (fun c => ?_) (fun c => ?_)
          · have hf := it_1 hf c
            refine lv_iinc (v := (x1 + 1)) (lv' := [(1, .int (x1 + 1)), (0, .ref (a 0))]) hx hb dX7_hour_158 hl (k := 1) rfl rfl (by decide) rfl (fun ls hl => ?_)
            refine lv_goto (tgt := 82) hx hb dX7_hour_161 (by decide) ?_
            exact ih v (x1 + 1) H locs ls hP hD hS (lv_sub hl [1, 0] rfl) hf
          · have hf := it_2 hf c
            refine lv_aload_n hx hb dX7_hour_115 rfl (lv_at hl 0 rfl) ?_
            refine va_get (D := G.1) (ci := 7) (v := .ref (a 1)) (C := RX7) (T := TX7) (N := 16) hx hb hts hinX7 hown hK hP 0 rfl rfl 0 (by decide) lk7 (fun _ h9 => h9) rfl dX7_hour_116 ?_
            refine lv_iload_n hx hb dX7_hour_119 rfl (lv_at hl 1 rfl) ?_
            refine lv_bipush (v := 6) hx hb dX7_hour_120 (by decide) ?_
            refine vp_callSi (W.runS (As := [.int x1, .int 6]) (rest := [.ref (a 1)]) ⟨hx, hb, hml, hown, hts⟩ (ok_X7_ofL l x1 6) (va_cwS 2 hts gX7_hour_X7_ofL rfl rfl rfl (by decide +kernel) ⟨Nat.le_of_ble_eq_true rfl, Nat.le_of_ble_eq_true rfl⟩) ⟨fun _ _ _ _ q => q, fun _ _ _ => ⟨rfl, trivial⟩⟩ rfl rfl hl.1 rfl (lv_room (Nat.le_of_ble_eq_true rfl)) dX7_hour_122 ⟨Nat.zero_le _, Nat.zero_le _⟩) (fun r122 hw => ?_)
            subst hw
            refine lv_aload_n hx hb dX7_hour_125 rfl (lv_at hl 0 rfl) ?_
            refine lv_iload_n hx hb dX7_hour_126 rfl (lv_at hl 1 rfl) ?_
            have hn := bd1_1 hf hne
            refine vp_callSi (W.runV (As := [.int x1]) (rest := [.int (f_X7_ofL x1 6), .ref (a 1)]) ⟨hx, hb, hml, hown, hts⟩ (ok_X7_heat l G a v x1 hn) (cwV 1 hts gX7_hour_X7_heat rfl rfl rfl (by decide +kernel) ⟨Nat.le_of_ble_eq_true rfl, Nat.le_of_ble_eq_true rfl⟩) ⟨pcR_blind, va_recv hK hP (ci := 7) (q0 := 0) rfl rfl, pcR_pre hP hamb⟩ rfl rfl hl.1 rfl (lv_room (Nat.le_of_ble_eq_true rfl)) dX7_hour_127 ⟨Nat.zero_le _, Nat.zero_le _⟩) (fun r127 hw => ?_)
            have hf := bd1_2 hf hw
            obtain ⟨hi, hf⟩ := ck_1 hf hne
            refine va_iast (f := (v 0)) hx hb hK hP hD hS 1 0 rfl rfl (ixb_1 hi) dX7_hour_130 (fun H locs hP hD hS => ?_)
            obtain ⟨v130, hv, hf⟩ := lt_1 hf
            have hP : va_P G.1 vwCl (modelC G.2 a v130) H := by rw [hv]; exact hP
            have hD : va_D A (modelC G.2 a v130) := by rw [hv]; exact hD
            clear hv
            refine lv_aload_n hx hb dX7_hour_131 rfl (lv_at hl 0 rfl) ?_
            refine va_get (D := G.1) (ci := 7) (v := .ref (a 1)) (C := RX7) (T := TX7) (N := 16) hx hb hts hinX7 hown hK hP 0 rfl rfl 0 (by decide) lk7 (fun _ h9 => h9) rfl dX7_hour_132 ?_
            refine lv_iload_n hx hb dX7_hour_135 rfl (lv_at hl 1 rfl) ?_
            refine lv_iconst (v := 4) hx hb dX7_hour_136 (by decide) ?_
            refine vp_callSi (W.runS (As := [.int x1, .int 4]) (rest := [.ref (a 1)]) ⟨hx, hb, hml, hown, hts⟩ (ok_X7_ofL l x1 4) (va_cwS 2 hts gX7_hour_X7_ofL rfl rfl rfl (by decide +kernel) ⟨Nat.le_of_ble_eq_true rfl, Nat.le_of_ble_eq_true rfl⟩) ⟨fun _ _ _ _ q => q, fun _ _ _ => ⟨rfl, trivial⟩⟩ rfl rfl hl.1 rfl (lv_room (Nat.le_of_ble_eq_true rfl)) dX7_hour_137 ⟨Nat.zero_le _, Nat.zero_le _⟩) (fun r137 hw => ?_)
            subst hw
            refine lv_aload_n hx hb dX7_hour_140 rfl (lv_at hl 0 rfl) ?_
            refine va_get (D := G.1) (ci := 7) (v := .ref (a 1)) (C := RX7) (T := TX7) (N := 16) hx hb hts hinX7 hown hK hP 0 rfl rfl 0 (by decide) lk7 (fun _ h9 => h9) rfl dX7_hour_141 ?_
            refine lv_iconst (v := 3) hx hb dX7_hour_144 (by decide) ?_
            refine va_iald (f := (v130 0)) hx hb hK hP 1 0 rfl rfl (ixb_1 (show ixb 3 240 = true from rfl)) dX7_hour_145 ?_
            obtain ⟨hi, hf⟩ := ck_1 hf hne
            refine va_iast (f := (v130 0)) hx hb hK hP hD hS 1 0 rfl rfl (ixb_1 hi) dX7_hour_146 (fun H locs hP hD hS => ?_)
            obtain ⟨v146, hv, hf⟩ := lt_1 hf
            have hP : va_P G.1 vwCl (modelC G.2 a v146) H := by rw [hv]; exact hP
            have hD : va_D A (modelC G.2 a v146) := by rw [hv]; exact hD
            clear hv
            refine lv_aload_n hx hb dX7_hour_147 rfl (lv_at hl 0 rfl) ?_
            refine va_get (D := G.1) (ci := 7) (v := .ref (a 1)) (C := RX7) (T := TX7) (N := 16) hx hb hts hinX7 hown hK hP 0 rfl rfl 0 (by decide) lk7 (fun _ h9 => h9) rfl dX7_hour_148 ?_
            refine lv_iload_n hx hb dX7_hour_151 rfl (lv_at hl 1 rfl) ?_
            refine lv_iconst (v := 3) hx hb dX7_hour_152 (by decide) ?_
            refine vp_callSi (W.runS (As := [.int x1, .int 3]) (rest := [.ref (a 1)]) ⟨hx, hb, hml, hown, hts⟩ (ok_X7_ofL l x1 3) (va_cwS 2 hts gX7_hour_X7_ofL rfl rfl rfl (by decide +kernel) ⟨Nat.le_of_ble_eq_true rfl, Nat.le_of_ble_eq_true rfl⟩) ⟨fun _ _ _ _ q => q, fun _ _ _ => ⟨rfl, trivial⟩⟩ rfl rfl hl.1 rfl (lv_room (Nat.le_of_ble_eq_true rfl)) dX7_hour_153 ⟨Nat.zero_le _, Nat.zero_le _⟩) (fun r153 hw => ?_)
            subst hw
            refine lv_iconst (v := 1) hx hb dX7_hour_156 (by decide) ?_
            obtain ⟨hi, hf⟩ := ck_1 hf hne
            refine va_iast (f := (v146 0)) hx hb hK hP hD hS 1 0 rfl rfl (ixb_1 hi) dX7_hour_157 (fun H locs hP hD hS => ?_)
            obtain ⟨v157, hv, hf⟩ := lt_1 hf
            have hP : va_P G.1 vwCl (modelC G.2 a v157) H := by rw [hv]; exact hP
            have hD : va_D A (modelC G.2 a v157) := by rw [hv]; exact hD
            clear hv
            refine lv_iinc (v := (x1 + 1)) (lv' := [(1, .int (x1 + 1)), (0, .ref (a 0))]) hx hb dX7_hour_158 hl (k := 1) rfl rfl (by decide) rfl (fun ls hl => ?_)
            refine lv_goto (tgt := 82) hx hb dX7_hour_161 (by decide) ?_
            exact ih v157 (x1 + 1) H locs ls hP hD hS (lv_sub hl [1, 0] rfl) hf
  have L2 : ∀ (n : Nat) (v : DV) (x1 : Int32) (H : Heap) (locs : List Loc) (ls : Array Slot), va_P G.1 vwCl (modelC G.2 a v) H → va_D A (modelC G.2 a v) → va_S A s.heap H locs → lv_has ls 2 [(0, .ref (a 0)), (1, .int x1)] → f_X7_hour_L2 n v x1 = res → W p l e (headSpec wsX7_hour ({ frames := 3, cells := 0, slots := 0, locals := 66 } : Room)).room s m ([.ref (a 0)] : List Value).toArray below meth c H locs 0 0 (MQ below (va_Qv (fun (u : DV) => f_X7_hour n0 v0 = some u) (fun u t => atW G (modelC G.2 a u) A t) A) ([.ref (a 0)] : List Value).toArray s 0 0 A) (F0 m 2 ls []) := by
    intro n
    induction n with
    | zero => intro v x1 H locs ls hP hD hS hl hf; exact (none_1 hf hne).elim
    | succ n ih =>
      intro v x1 H locs ls hP hD hS hl hf
      rw [f_X7_hour_L2] at hf
      refine lv_iload_n hx hb dX7_hour_2 rfl (lv_at hl 1 rfl) ?_
      refine lv_bipush (v := 6) hx hb dX7_hour_3 (by decide) ?_
      refine lv_icmp_ge (tgt := 80) hx hb dX7_hour_5 (by decide) (fun c => ?_) (fun c => ?_)
      · have hf := it_1 hf c
        refine lv_iconst (v := 0) hx hb dX7_hour_80 (by decide) ?_
        refine lv_istore_n (lv' := [(1, .int 0), (0, .ref (a 0))]) hx hb dX7_hour_81 rfl hl (by decide) rfl (fun ls hl => ?_)
        exact L82 n v 0 H locs ls hP hD hS (lv_sub hl [1, 0] rfl) hf
      · have hf := it_2 hf c
        refine lv_aload_n hx hb dX7_hour_8 rfl (lv_at hl 0 rfl) ?_
        refine va_get (D := G.1) (ci := 7) (v := .ref (a 1)) (C := RX7) (T := TX7) (N := 16) hx hb hts hinX7 hown hK hP 0 rfl rfl 0 (by decide) lk7 (fun _ h9 => h9) rfl dX7_hour_9 ?_
        refine lv_iload_n hx hb dX7_hour_12 rfl (lv_at hl 1 rfl) ?_
        refine lv_iconst (v := 0) hx hb dX7_hour_13 (by decide) ?_
        refine vp_callSi (W.runS (As := [.int x1, .int 0]) (rest := [.ref (a 1)]) ⟨hx, hb, hml, hown, hts⟩ (ok_X7_ofD l x1 0) (va_cwS 2 hts gX7_hour_X7_ofD rfl rfl rfl (by decide +kernel) ⟨Nat.le_of_ble_eq_true rfl, Nat.le_of_ble_eq_true rfl⟩) ⟨fun _ _ _ _ q => q, fun _ _ _ => ⟨rfl, trivial⟩⟩ rfl rfl hl.1 rfl (lv_room (Nat.le_of_ble_eq_true rfl)) dX7_hour_14 ⟨Nat.zero_le _, Nat.zero_le _⟩) (fun r14 hw => ?_)
        subst hw
        refine lv_aload_n hx hb dX7_hour_17 rfl (lv_at hl 0 rfl) ?_
        refine va_get (D := G.1) (ci := 7) (v := .ref (a 1)) (C := RX7) (T := TX7) (N := 16) hx hb hts hinX7 hown hK hP 0 rfl rfl 0 (by decide) lk7 (fun _ h9 => h9) rfl dX7_hour_18 ?_
        refine lv_iload_n hx hb dX7_hour_21 rfl (lv_at hl 1 rfl) ?_
        refine lv_iconst (v := 2) hx hb dX7_hour_22 (by decide) ?_
        refine vp_callSi (W.runS (As := [.int x1, .int 2]) (rest := [.ref (a 1), .int (f_X7_ofD x1 0), .ref (a 1)]) ⟨hx, hb, hml, hown, hts⟩ (ok_X7_ofD l x1 2) (va_cwS 2 hts gX7_hour_X7_ofD rfl rfl rfl (by decide +kernel) ⟨Nat.le_of_ble_eq_true rfl, Nat.le_of_ble_eq_true rfl⟩) ⟨fun _ _ _ _ q => q, fun _ _ _ => ⟨rfl, trivial⟩⟩ rfl rfl hl.1 rfl (lv_room (Nat.le_of_ble_eq_true rfl)) dX7_hour_23 ⟨Nat.zero_le _, Nat.zero_le _⟩) (fun r23 hw => ?_)
        subst hw
        obtain ⟨hi, hf⟩ := ck_1 hf hne
        refine va_iald (f := (v 0)) hx hb hK hP 1 0 rfl rfl (ixb_1 hi) dX7_hour_26 ?_
        refine lv_aload_n hx hb dX7_hour_27 rfl (lv_at hl 0 rfl) ?_
        refine va_get (D := G.1) (ci := 7) (v := .ref (a 1)) (C := RX7) (T := TX7) (N := 16) hx hb hts hinX7 hown hK hP 0 rfl rfl 0 (by decide) lk7 (fun _ h9 => h9) rfl dX7_hour_28 ?_
        refine lv_iconst (v := 4) hx hb dX7_hour_31 (by decide) ?_
        refine va_iald (f := (v 0)) hx hb hK hP 1 0 rfl rfl (ixb_1 (show ixb 4 240 = true from rfl)) dX7_hour_32 ?_
        refine lv_icmp_ne (tgt := 40) hx hb dX7_hour_33 (by decide) (fun c => ?_) (fun c => ?_)
        · have hf := it_2 hf c
          refine lv_aload_n hx hb dX7_hour_40 rfl (lv_at hl 0 rfl) ?_
          refine va_get (D := G.1) (ci := 7) (v := .ref (a 1)) (C := RX7) (T := TX7) (N := 16) hx hb hts hinX7 hown hK hP 0 rfl rfl 0 (by decide) lk7 (fun _ h9 => h9) rfl dX7_hour_41 ?_
          refine lv_iload_n hx hb dX7_hour_44 rfl (lv_at hl 1 rfl) ?_
          refine lv_iconst (v := 3) hx hb dX7_hour_45 (by decide) ?_
          refine vp_callSi (W.runS (As := [.int x1, .int 3]) (rest := [.ref (a 1), .int (f_X7_ofD x1 0), .ref (a 1)]) ⟨hx, hb, hml, hown, hts⟩ (ok_X7_ofD l x1 3) (va_cwS 2 hts gX7_hour_X7_ofD rfl rfl rfl (by decide +kernel) ⟨Nat.le_of_ble_eq_true rfl, Nat.le_of_ble_eq_true rfl⟩) ⟨fun _ _ _ _ q => q, fun _ _ _ => ⟨rfl, trivial⟩⟩ rfl rfl hl.1 rfl (lv_room (Nat.le_of_ble_eq_true rfl)) dX7_hour_46 ⟨Nat.zero_le _, Nat.zero_le _⟩) (fun r46 hw => ?_)
          subst hw
          obtain ⟨hi, hf⟩ := ck_1 hf hne
          refine va_iald (f := (v 0)) hx hb hK hP 1 0 rfl rfl (ixb_1 hi) dX7_hour_49 ?_
          refine lv_aload_n hx hb dX7_hour_50 rfl (lv_at hl 0 rfl) ?_
          refine va_get (D := G.1) (ci := 7) (v := .ref (a 1)) (C := RX7) (T := TX7) (N := 16) hx hb hts hinX7 hown hK hP 0 rfl rfl 0 (by decide) lk7 (fun _ h9 => h9) rfl dX7_hour_51 ?_
          refine lv_iconst (v := 4) hx hb dX7_hour_54 (by decide) ?_
          refine va_iald (f := (v 0)) hx hb hK hP 1 0 rfl rfl (ixb_1 (show ixb 4 240 = true from rfl)) dX7_hour_55 ?_
          refine lv_icmp_ne (tgt := 63) hx hb dX7_hour_56 (by decide) (fun c => ?_) (fun c => ?_)
          · have hf := it_2 hf c
            refine lv_aload_n hx hb dX7_hour_63 rfl (lv_at hl 0 rfl) ?_
            refine va_get (D := G.1) (ci := 7) (v := .ref (a 1)) (C := RX7) (T := TX7) (N := 16) hx hb hts hinX7 hown hK hP 0 rfl rfl 0 (by decide) lk7 (fun _ h9 => h9) rfl dX7_hour_64 ?_
            refine lv_iload_n hx hb dX7_hour_67 rfl (lv_at hl 1 rfl) ?_
            refine lv_iconst (v := 0) hx hb dX7_hour_68 (by decide) ?_
            refine vp_callSi (W.runS (As := [.int x1, .int 0]) (rest := [.ref (a 1), .int (f_X7_ofD x1 0), .ref (a 1)]) ⟨hx, hb, hml, hown, hts⟩ (ok_X7_ofD l x1 0) (va_cwS 2 hts gX7_hour_X7_ofD rfl rfl rfl (by decide +kernel) ⟨Nat.le_of_ble_eq_true rfl, Nat.le_of_ble_eq_true rfl⟩) ⟨fun _ _ _ _ q => q, fun _ _ _ => ⟨rfl, trivial⟩⟩ rfl rfl hl.1 rfl (lv_room (Nat.le_of_ble_eq_true rfl)) dX7_hour_69 ⟨Nat.zero_le _, Nat.zero_le _⟩) (fun r69 hw => ?_)
            subst hw
            obtain ⟨hi, hf⟩ := ck_1 hf hne
            refine va_iald (f := (v 0)) hx hb hK hP 1 0 rfl rfl (ixb_1 hi) dX7_hour_72 ?_
            obtain ⟨hi, hf⟩ := ck_1 hf hne
            refine va_iast (f := (v 0)) hx hb hK hP hD hS 1 0 rfl rfl (ixb_1 hi) dX7_hour_73 (fun H locs hP hD hS => ?_)
            obtain ⟨v73, hv, hf⟩ := lt_1 hf
            have hP : va_P G.1 vwCl (modelC G.2 a v73) H := by rw [hv]; exact hP
            have hD : va_D A (modelC G.2 a v73) := by rw [hv]; exact hD
            clear hv
            refine lv_iinc (v := (x1 + 1)) (lv' := [(1, .int (x1 + 1)), (0, .ref (a 0))]) hx hb dX7_hour_74 hl (k := 1) rfl rfl (by decide) rfl (fun ls hl => ?_)
            refine lv_goto (tgt := 2) hx hb dX7_hour_77 (by decide) ?_
            exact ih v73 (x1 + 1) H locs ls hP hD hS (lv_sub hl [1, 0] rfl) hf
          · have hf := it_1 hf c
            refine lv_iconst (v := 1) hx hb dX7_hour_59 (by decide) ?_
            refine lv_goto (tgt := 73) hx hb dX7_hour_60 (by decide) ?_
            obtain ⟨hi, hf⟩ := ck_1 hf hne
            refine va_iast (f := (v 0)) hx hb hK hP hD hS 1 0 rfl rfl (ixb_1 hi) dX7_hour_73 (fun H locs hP hD hS => ?_)
            obtain ⟨v73, hv, hf⟩ := lt_1 hf
            have hP : va_P G.1 vwCl (modelC G.2 a v73) H := by rw [hv]; exact hP
            have hD : va_D A (modelC G.2 a v73) := by rw [hv]; exact hD
            clear hv
            refine lv_iinc (v := (x1 + 1)) (lv' := [(1, .int (x1 + 1)), (0, .ref (a 0))]) hx hb dX7_hour_74 hl (k := 1) rfl rfl (by decide) rfl (fun ls hl => ?_)
            refine lv_goto (tgt := 2) hx hb dX7_hour_77 (by decide) ?_
            exact ih v73 (x1 + 1) H locs ls hP hD hS (lv_sub hl [1, 0] rfl) hf
        · have hf := it_1 hf c
          refine lv_iconst (v := 0) hx hb dX7_hour_36 (by decide) ?_
          refine lv_goto (tgt := 73) hx hb dX7_hour_37 (by decide) ?_
          obtain ⟨hi, hf⟩ := ck_1 hf hne
          refine va_iast (f := (v 0)) hx hb hK hP hD hS 1 0 rfl rfl (ixb_1 hi) dX7_hour_73 (fun H locs hP hD hS => ?_)
          obtain ⟨v73, hv, hf⟩ := lt_1 hf
          have hP : va_P G.1 vwCl (modelC G.2 a v73) H := by rw [hv]; exact hP
          have hD : va_D A (modelC G.2 a v73) := by rw [hv]; exact hD
          clear hv
          refine lv_iinc (v := (x1 + 1)) (lv' := [(1, .int (x1 + 1)), (0, .ref (a 0))]) hx hb dX7_hour_74 hl (k := 1) rfl rfl (by decide) rfl (fun ls hl => ?_)
          refine lv_goto (tgt := 2) hx hb dX7_hour_77 (by decide) ?_
          exact ih v73 (x1 + 1) H locs ls hP hD hS (lv_sub hl [1, 0] rfl) hf
  refine lv_iconst (v := 0) hx hb dX7_hour_0 (by decide) ?_
  refine lv_istore_n (lv' := [(1, .int 0), (0, .ref (a 0))]) hx hb dX7_hour_1 rfl hl (by decide) rfl (fun ls hl => ?_)
  exact L2 n0 v0 0 s.heap [] ls hP hD hS (lv_sub hl [1, 0] rfl) hf
set_option maxHeartbeats 4000000 in
set_option maxRecDepth 100000 in
theorem ok_X7_findRegrets (l : Launch) (G : Gt) (a : Nat → Nat) (sz : Nat) (n0 : Nat) (v0 : DV) (hne : f_X7_findRegrets n0 v0 ≠ none) : Met l yX7_findRegrets wsX7_findRegrets ({ frames := 2, cells := 0, slots := 0, locals := 43 } : Room) (pcW G [.ref (a 0)] (modelC G.2 a v0) sz) (va_Qv (fun (u : DV) => f_X7_findRegrets n0 v0 = some u) (fun u t => atW G (modelC G.2 a u) (va_A (modelC G.2 a v0) sz) t) (va_A (modelC G.2 a v0) sz)) 0 0 (va_A (modelC G.2 a v0) sz) := by
  refine Met.ofW (cc := cX7_findRegrets) (maxL := 3) (ret := none) (by decide) rfl ?_
  intro p e s m args below meth c s₁ B hml hv
  obtain ⟨rfl, hsz, hP, hD0, hamb⟩ := hv
  have hx := B.exec
  have hb := B.bytes
  have hr := B.returns
  have hts := atoms_spec (ws := wsX7_findRegrets) B.pre
  have hown : s.vm.findClass RX7 = some m.cls := findClass_of_methodNamed B.named
  have hlocks := B.notSynchronized
  have hK := hamb.1
  subst hsz
  have hD := hD0.self (sz := s.heap.size)
  generalize hAe : va_A (modelC G.2 a v0) s.heap.size = A at hD ⊢
  have hA : ∀ q : Nat, s.heap.size ≤ q → A q := fun q h => by rw [← hAe]; exact Or.inr h
  have hS : va_S A s.heap s.heap [] := va_S.rf
  obtain ⟨res, hf0⟩ : ∃ res, f_X7_findRegrets n0 v0 = res := ⟨_, rfl⟩
  have hne : res ≠ none := hf0 ▸ hne
  have hf := hf0
  rw [f_X7_findRegrets] at hf
  have hinX7 : ∀ w ∈ u_ws RX7 TX7 16, w ∈ wsX7_findRegrets := by decide +kernel
  have lk7 := hts (.fieldLink RX7 7 "MoodDrawersModel" "s" "[I") (by decide +kernel)
  have lk29 := hts (.fieldLink RX7 29 "MoodDrawersModel" "regrets" "[I") (by decide +kernel)
  have lk32 := hts (.fieldLink RX7 32 "MoodDrawersModel" "greatest" "[I") (by decide +kernel)
  have hl := lv_entry ([.ref (a 0)]) (n := 3) (Nat.le_of_ble_eq_true rfl)
  rw [lg_entry_eq]
  generalize (lg_sl ([.ref (a 0)]) ++ List.replicate (3 - (lg_sl ([.ref (a 0)])).length) Slot.unset).toArray = ls at hl ⊢
  have hl : lv_has ls 3 [(0, .ref (a 0))] := hl
  have J78 : ∀ (k37 : DV → Int32 → Option (DV)) (hk37 : ∀ (v : DV) (x1 : Int32) (H : Heap) (locs : List Loc) (ls : Array Slot), va_P G.1 vwCl (modelC G.2 a v) H → va_D A (modelC G.2 a v) → va_S A s.heap H locs → lv_has ls 3 [(0, .ref (a 0)), (1, .int x1)] → k37 v x1 = res → W p l e (headSpec wsX7_findRegrets ({ frames := 2, cells := 0, slots := 0, locals := 43 } : Room)).room s m ([.ref (a 0)] : List Value).toArray below meth c H locs 0 0 (MQ below (va_Qv (fun (u : DV) => f_X7_findRegrets n0 v0 = some u) (fun u t => atW G (modelC G.2 a u) A t) A) ([.ref (a 0)] : List Value).toArray s 0 0 A) (F0 m 37 ls [])) (n : Nat) (v : DV) (x1 : Int32) (z0 : Int32) (z1 : Int32) (H : Heap) (locs : List Loc) (ls : Array Slot), va_P G.1 vwCl (modelC G.2 a v) H → va_D A (modelC G.2 a v) → va_S A s.heap H locs → lv_has ls 3 [(0, .ref (a 0)), (1, .int x1)] → f_X7_findRegrets_J78 k37 n v x1 z0 z1 = res → W p l e (headSpec wsX7_findRegrets ({ frames := 2, cells := 0, slots := 0, locals := 43 } : Room)).room s m ([.ref (a 0)] : List Value).toArray below meth c H locs 0 0 (MQ below (va_Qv (fun (u : DV) => f_X7_findRegrets n0 v0 = some u) (fun u t => atW G (modelC G.2 a u) A t) A) ([.ref (a 0)] : List Value).toArray s 0 0 A) (F0 m 78 ls [.int z0, .int z1, .ref (a 7)]) := by
    intro k37 hk37 n v x1 z0 z1 H locs ls hP hD hS hl hf
    rw [f_X7_findRegrets_J78] at hf
    obtain ⟨hi, hf⟩ := ck_1 hf hne
    refine va_iast (f := (v 6)) hx hb hK hP hD hS 7 0 rfl rfl (ixb_1 hi) dX7_findRegrets_78 (fun H locs hP hD hS => ?_)
    obtain ⟨v78, hv, hf⟩ := lt_1 hf
    have hP : va_P G.1 vwCl (modelC G.2 a v78) H := by rw [hv]; exact hP
    have hD : va_D A (modelC G.2 a v78) := by rw [hv]; exact hD
    clear hv
    refine lv_aload_n hx hb dX7_findRegrets_79 rfl (lv_at hl 0 rfl) ?_
    refine va_get (D := G.1) (ci := 7) (v := .ref (a 1)) (C := RX7) (T := TX7) (N := 16) hx hb hts hinX7 hown hK hP 0 rfl rfl 0 (by decide) lk7 (fun _ h9 => h9) rfl dX7_findRegrets_80 ?_
    refine lv_iload_n hx hb dX7_findRegrets_83 rfl (lv_at hl 1 rfl) ?_
    refine lv_iconst (v := 5) hx hb dX7_findRegrets_84 (by decide) ?_
    refine vp_callSi (W.runS (As := [.int x1, .int 5]) (rest := [.ref (a 1)]) ⟨hx, hb, hml, hown, hts⟩ (ok_X7_ofL l x1 5) (va_cwS 2 hts gX7_findRegrets_X7_ofL rfl rfl rfl (by decide +kernel) ⟨Nat.le_of_ble_eq_true rfl, Nat.le_of_ble_eq_true rfl⟩) ⟨fun _ _ _ _ q => q, fun _ _ _ => ⟨rfl, trivial⟩⟩ rfl rfl hl.1 rfl (lv_room (Nat.le_of_ble_eq_true rfl)) dX7_findRegrets_85 ⟨Nat.zero_le _, Nat.zero_le _⟩) (fun r85 hw => ?_)
    subst hw
    obtain ⟨hi, hf⟩ := ck_1 hf hne
    refine va_iald (f := (v78 0)) hx hb hK hP 1 0 rfl rfl (ixb_1 hi) dX7_findRegrets_88 ?_
    refine lv_istore_n (lv' := [(2, .int ((v78 0) (Int32.toNatClampNeg (f_X7_ofL x1 5)))), (0, .ref (a 0)), (1, .int x1)]) hx hb dX7_findRegrets_89 rfl hl (by decide) rfl (fun ls hl => ?_)
    refine lv_iload_n hx hb dX7_findRegrets_90 rfl (lv_at hl 0 rfl) ?_
    refine lv_bipush (v := (-6)) hx hb dX7_findRegrets_91 (by decide) ?_
    refine lv_icmp_eq (tgt := 132) hx hb dX7_findRegrets_93 (by decide) (fun c => ?_) (fun c => ?_)
    · have hf := it_1 hf c
      refine lv_iinc (v := (x1 + (-1))) (lv' := [(1, .int (x1 + (-1))), (2, .int ((v78 0) (Int32.toNatClampNeg (f_X7_ofL x1 5)))), (0, .ref (a 0))]) hx hb dX7_findRegrets_132 hl (k := 2) rfl rfl (by decide) rfl (fun ls hl => ?_)
      refine lv_goto (tgt := 37) hx hb dX7_findRegrets_135 (by decide) ?_
      exact hk37 v78 (x1 + (-1)) H locs ls hP hD hS (lv_sub hl [2, 0] rfl) hf
    · have hf := it_2 hf c
      refine lv_aload_n hx hb dX7_findRegrets_96 rfl (lv_at hl 1 rfl) ?_
      refine va_get (D := G.1) (ci := 7) (v := .ref (a 8)) (C := RX7) (T := TX7) (N := 16) hx hb hts hinX7 hown hK hP 0 rfl rfl 9 (by decide) lk32 (fun _ h9 => h9) rfl dX7_findRegrets_97 ?_
      refine lv_iload_n hx hb dX7_findRegrets_100 rfl (lv_at hl 0 rfl) ?_
      refine lv_aload_n hx hb dX7_findRegrets_101 rfl (lv_at hl 1 rfl) ?_
      refine va_get (D := G.1) (ci := 7) (v := .ref (a 7)) (C := RX7) (T := TX7) (N := 16) hx hb hts hinX7 hown hK hP 0 rfl rfl 8 (by decide) lk29 (fun _ h9 => h9) rfl dX7_findRegrets_102 ?_
      refine lv_iload_n hx hb dX7_findRegrets_105 rfl (lv_at hl 2 rfl) ?_
      obtain ⟨hi, hf⟩ := ck_1 hf hne
      refine va_iald (f := (v78 6)) hx hb hK hP 7 0 rfl rfl (ixb_1 hi) dX7_findRegrets_106 ?_
      refine lv_aload_n hx hb dX7_findRegrets_107 rfl (lv_at hl 1 rfl) ?_
      refine va_get (D := G.1) (ci := 7) (v := .ref (a 8)) (C := RX7) (T := TX7) (N := 16) hx hb hts hinX7 hown hK hP 0 rfl rfl 9 (by decide) lk32 (fun _ h9 => h9) rfl dX7_findRegrets_108 ?_
      refine lv_iload_n hx hb dX7_findRegrets_111 rfl (lv_at hl 0 rfl) ?_
      obtain ⟨hi, hf⟩ := ck_1 hf hne
      refine va_iald (f := (v78 7)) hx hb hK hP 8 0 rfl rfl (ixb_1 hi) dX7_findRegrets_112 ?_
      refine lv_icmp_le (tgt := 125) hx hb dX7_findRegrets_113 (by decide) (fun c => ?_) (fun c => ?_)
      · have hf := it_1 hf c
        refine lv_aload_n hx hb dX7_findRegrets_125 rfl (lv_at hl 1 rfl) ?_
        refine va_get (D := G.1) (ci := 7) (v := .ref (a 8)) (C := RX7) (T := TX7) (N := 16) hx hb hts hinX7 hown hK hP 0 rfl rfl 9 (by decide) lk32 (fun _ h9 => h9) rfl dX7_findRegrets_126 ?_
        refine lv_iload_n hx hb dX7_findRegrets_129 rfl (lv_at hl 0 rfl) ?_
        obtain ⟨hi, hf⟩ := ck_1 hf hne
        refine va_iald (f := (v78 7)) hx hb hK hP 8 0 rfl rfl (ixb_1 hi) dX7_findRegrets_130 ?_
        obtain ⟨hi, hf⟩ := ck_1 hf hne
        refine va_iast (f := (v78 7)) hx hb hK hP hD hS 8 0 rfl rfl (ixb_1 hi) dX7_findRegrets_131 (fun H locs hP hD hS => ?_)
        obtain ⟨v131, hv, hf⟩ := lt_1 hf
        have hP : va_P G.1 vwCl (modelC G.2 a v131) H := by rw [hv]; exact hP
        have hD : va_D A (modelC G.2 a v131) := by rw [hv]; exact hD
        clear hv
        refine lv_iinc (v := (x1 + (-1))) (lv' := [(1, .int (x1 + (-1))), (2, .int ((v78 0) (Int32.toNatClampNeg (f_X7_ofL x1 5)))), (0, .ref (a 0))]) hx hb dX7_findRegrets_132 hl (k := 2) rfl rfl (by decide) rfl (fun ls hl => ?_)
        refine lv_goto (tgt := 37) hx hb dX7_findRegrets_135 (by decide) ?_
        exact hk37 v131 (x1 + (-1)) H locs ls hP hD hS (lv_sub hl [2, 0] rfl) hf
      · have hf := it_2 hf c
        refine lv_aload_n hx hb dX7_findRegrets_116 rfl (lv_at hl 1 rfl) ?_
        refine va_get (D := G.1) (ci := 7) (v := .ref (a 7)) (C := RX7) (T := TX7) (N := 16) hx hb hts hinX7 hown hK hP 0 rfl rfl 8 (by decide) lk29 (fun _ h9 => h9) rfl dX7_findRegrets_117 ?_
        refine lv_iload_n hx hb dX7_findRegrets_120 rfl (lv_at hl 2 rfl) ?_
        obtain ⟨hi, hf⟩ := ck_1 hf hne
        refine va_iald (f := (v78 6)) hx hb hK hP 7 0 rfl rfl (ixb_1 hi) dX7_findRegrets_121 ?_
        refine lv_goto (tgt := 131) hx hb dX7_findRegrets_122 (by decide) ?_
        obtain ⟨hi, hf⟩ := ck_1 hf hne
        refine va_iast (f := (v78 7)) hx hb hK hP hD hS 8 0 rfl rfl (ixb_1 hi) dX7_findRegrets_131 (fun H locs hP hD hS => ?_)
        obtain ⟨v131, hv, hf⟩ := lt_1 hf
        have hP : va_P G.1 vwCl (modelC G.2 a v131) H := by rw [hv]; exact hP
        have hD : va_D A (modelC G.2 a v131) := by rw [hv]; exact hD
        clear hv
        refine lv_iinc (v := (x1 + (-1))) (lv' := [(1, .int (x1 + (-1))), (2, .int ((v78 0) (Int32.toNatClampNeg (f_X7_ofL x1 5)))), (0, .ref (a 0))]) hx hb dX7_findRegrets_132 hl (k := 2) rfl rfl (by decide) rfl (fun ls hl => ?_)
        refine lv_goto (tgt := 37) hx hb dX7_findRegrets_135 (by decide) ?_
        exact hk37 v131 (x1 + (-1)) H locs ls hP hD hS (lv_sub hl [2, 0] rfl) hf
  have L37 : ∀ (n : Nat) (v : DV) (x1 : Int32) (H : Heap) (locs : List Loc) (ls : Array Slot), va_P G.1 vwCl (modelC G.2 a v) H → va_D A (modelC G.2 a v) → va_S A s.heap H locs → lv_has ls 3 [(0, .ref (a 0)), (1, .int x1)] → f_X7_findRegrets_L37 n v x1 = res → W p l e (headSpec wsX7_findRegrets ({ frames := 2, cells := 0, slots := 0, locals := 43 } : Room)).room s m ([.ref (a 0)] : List Value).toArray below meth c H locs 0 0 (MQ below (va_Qv (fun (u : DV) => f_X7_findRegrets n0 v0 = some u) (fun u t => atW G (modelC G.2 a u) A t) A) ([.ref (a 0)] : List Value).toArray s 0 0 A) (F0 m 37 ls []) := by
    intro n
    induction n with
    | zero => intro v x1 H locs ls hP hD hS hl hf; exact (none_1 hf hne).elim
    | succ n ih =>
      intro v x1 H locs ls hP hD hS hl hf
      rw [f_X7_findRegrets_L37] at hf
      refine lv_iload_n hx hb dX7_findRegrets_37 rfl (lv_at hl 1 rfl) ?_
      refine lv_if_lt (tgt := 138) hx hb dX7_findRegrets_38 (by decide) (fun c => ?_) (fun c => ?_)
      · have hf := it_1 hf c
        exact W.vret hx hb hr (fun t ht hW => ⟨⟨v, rfl, hf0.trans hf.symm, by rw [ht]; exact hP, hD⟩, hS.F ht⟩) hS.2.2 dX7_findRegrets_138
      · have hf := it_2 hf c
        refine lv_aload_n hx hb dX7_findRegrets_41 rfl (lv_at hl 0 rfl) ?_
        refine va_get (D := G.1) (ci := 7) (v := .ref (a 7)) (C := RX7) (T := TX7) (N := 16) hx hb hts hinX7 hown hK hP 0 rfl rfl 8 (by decide) lk29 (fun _ h9 => h9) rfl dX7_findRegrets_42 ?_
        refine lv_iload_n hx hb dX7_findRegrets_45 rfl (lv_at hl 1 rfl) ?_
        refine lv_aload_n hx hb dX7_findRegrets_46 rfl (lv_at hl 0 rfl) ?_
        refine va_get (D := G.1) (ci := 7) (v := .ref (a 1)) (C := RX7) (T := TX7) (N := 16) hx hb hts hinX7 hown hK hP 0 rfl rfl 0 (by decide) lk7 (fun _ h9 => h9) rfl dX7_findRegrets_47 ?_
        refine lv_iload_n hx hb dX7_findRegrets_50 rfl (lv_at hl 1 rfl) ?_
        refine lv_iconst (v := 3) hx hb dX7_findRegrets_51 (by decide) ?_
        refine vp_callSi (W.runS (As := [.int x1, .int 3]) (rest := [.ref (a 1), .int x1, .ref (a 7)]) ⟨hx, hb, hml, hown, hts⟩ (ok_X7_ofL l x1 3) (va_cwS 2 hts gX7_findRegrets_X7_ofL rfl rfl rfl (by decide +kernel) ⟨Nat.le_of_ble_eq_true rfl, Nat.le_of_ble_eq_true rfl⟩) ⟨fun _ _ _ _ q => q, fun _ _ _ => ⟨rfl, trivial⟩⟩ rfl rfl hl.1 rfl (lv_room (Nat.le_of_ble_eq_true rfl)) dX7_findRegrets_52 ⟨Nat.zero_le _, Nat.zero_le _⟩) (fun r52 hw => ?_)
        subst hw
        obtain ⟨hi, hf⟩ := ck_1 hf hne
        refine va_iald (f := (v 0)) hx hb hK hP 1 0 rfl rfl (ixb_1 hi) dX7_findRegrets_55 ?_
        refine lv_iconst (v := 1) hx hb dX7_findRegrets_56 (by decide) ?_
        refine lv_icmp_ne (tgt := 77) hx hb dX7_findRegrets_57 (by decide) (fun c => ?_) (fun c => ?_)
        · have hf := it_2 hf c
          refine lv_iconst (v := 0) hx hb dX7_findRegrets_77 (by decide) ?_
          exact J78 (fun v x1 => f_X7_findRegrets_L37 n v x1) ih n v x1 0 x1 H locs ls hP hD hS (lv_sub hl [0, 1] rfl) hf
        · have hf := it_1 hf c
          refine lv_aload_n hx hb dX7_findRegrets_60 rfl (lv_at hl 0 rfl) ?_
          refine lv_iload_n hx hb dX7_findRegrets_61 rfl (lv_at hl 1 rfl) ?_
          have hn := bd1_1 hf hne
          refine vp_callSi (W.runV (As := [.int x1]) (rest := [.int x1, .ref (a 7)]) ⟨hx, hb, hml, hown, hts⟩ (ok_X7_heat l G a v x1 hn) (cwV 1 hts gX7_findRegrets_X7_heat rfl rfl rfl (by decide +kernel) ⟨Nat.le_of_ble_eq_true rfl, Nat.le_of_ble_eq_true rfl⟩) ⟨pcR_blind, va_recv hK hP (ci := 7) (q0 := 0) rfl rfl, pcR_pre hP hamb⟩ rfl rfl hl.1 rfl (lv_room (Nat.le_of_ble_eq_true rfl)) dX7_findRegrets_62 ⟨Nat.zero_le _, Nat.zero_le _⟩) (fun r62 hw => ?_)
          have hf := bd1_2 hf hw
          refine lv_aload_n hx hb dX7_findRegrets_65 rfl (lv_at hl 0 rfl) ?_
          refine va_get (D := G.1) (ci := 7) (v := .ref (a 8)) (C := RX7) (T := TX7) (N := 16) hx hb hts hinX7 hown hK hP 0 rfl rfl 9 (by decide) lk32 (fun _ h9 => h9) rfl dX7_findRegrets_66 ?_
          refine lv_iload_n hx hb dX7_findRegrets_69 rfl (lv_at hl 1 rfl) ?_
          obtain ⟨hi, hf⟩ := ck_1 hf hne
          refine va_iald (f := (v 7)) hx hb hK hP 8 0 rfl rfl (ixb_1 hi) dX7_findRegrets_70 ?_
          refine lv_iconst (v := 2) hx hb dX7_findRegrets_71 (by decide) ?_
          refine lv_idiv hx hb dX7_findRegrets_72 (by decide) ?_
          refine lv_iadd hx hb dX7_findRegrets_73 ?_
          refine lv_goto (tgt := 78) hx hb dX7_findRegrets_74 (by decide) ?_
          exact J78 (fun v x1 => f_X7_findRegrets_L37 n v x1) ih n v x1 (r62 + (((v 7) (Int32.toNatClampNeg x1)) / 2)) x1 H locs ls hP hD hS (lv_sub hl [0, 1] rfl) hf
  have L2 : ∀ (n : Nat) (v : DV) (x1 : Int32) (H : Heap) (locs : List Loc) (ls : Array Slot), va_P G.1 vwCl (modelC G.2 a v) H → va_D A (modelC G.2 a v) → va_S A s.heap H locs → lv_has ls 3 [(0, .ref (a 0)), (1, .int x1)] → f_X7_findRegrets_L2 n v x1 = res → W p l e (headSpec wsX7_findRegrets ({ frames := 2, cells := 0, slots := 0, locals := 43 } : Room)).room s m ([.ref (a 0)] : List Value).toArray below meth c H locs 0 0 (MQ below (va_Qv (fun (u : DV) => f_X7_findRegrets n0 v0 = some u) (fun u t => atW G (modelC G.2 a u) A t) A) ([.ref (a 0)] : List Value).toArray s 0 0 A) (F0 m 2 ls []) := by
    intro n
    induction n with
    | zero => intro v x1 H locs ls hP hD hS hl hf; exact (none_1 hf hne).elim
    | succ n ih =>
      intro v x1 H locs ls hP hD hS hl hf
      rw [f_X7_findRegrets_L2] at hf
      refine lv_iload_n hx hb dX7_findRegrets_2 rfl (lv_at hl 1 rfl) ?_
      refine lv_bipush (v := 30) hx hb dX7_findRegrets_3 (by decide) ?_
      refine lv_icmp_ge (tgt := 28) hx hb dX7_findRegrets_5 (by decide) (fun c => ?_) (fun c => ?_)
      · have hf := it_1 hf c
        refine lv_aload_n hx hb dX7_findRegrets_28 rfl (lv_at hl 0 rfl) ?_
        refine va_get (D := G.1) (ci := 7) (v := .ref (a 1)) (C := RX7) (T := TX7) (N := 16) hx hb hts hinX7 hown hK hP 0 rfl rfl 0 (by decide) lk7 (fun _ h9 => h9) rfl dX7_findRegrets_29 ?_
        refine lv_iconst (v := 5) hx hb dX7_findRegrets_32 (by decide) ?_
        refine va_iald (f := (v 0)) hx hb hK hP 1 0 rfl rfl (ixb_1 (show ixb 5 240 = true from rfl)) dX7_findRegrets_33 ?_
        refine lv_iconst (v := 1) hx hb dX7_findRegrets_34 (by decide) ?_
        refine lv_isub hx hb dX7_findRegrets_35 ?_
        refine lv_istore_n (lv' := [(1, .int (((v 0) (Int32.toNatClampNeg 5)) - 1)), (0, .ref (a 0))]) hx hb dX7_findRegrets_36 rfl hl (by decide) rfl (fun ls hl => ?_)
        exact L37 n v (((v 0) (Int32.toNatClampNeg 5)) - 1) H locs ls hP hD hS (lv_sub hl [1, 0] rfl) hf
      · have hf := it_2 hf c
        refine lv_aload_n hx hb dX7_findRegrets_8 rfl (lv_at hl 0 rfl) ?_
        refine va_get (D := G.1) (ci := 7) (v := .ref (a 8)) (C := RX7) (T := TX7) (N := 16) hx hb hts hinX7 hown hK hP 0 rfl rfl 9 (by decide) lk32 (fun _ h9 => h9) rfl dX7_findRegrets_9 ?_
        refine lv_iload_n hx hb dX7_findRegrets_12 rfl (lv_at hl 1 rfl) ?_
        refine lv_iconst (v := 0) hx hb dX7_findRegrets_13 (by decide) ?_
        obtain ⟨hi, hf⟩ := ck_1 hf hne
        refine va_iast (f := (v 7)) hx hb hK hP hD hS 8 0 rfl rfl (ixb_1 hi) dX7_findRegrets_14 (fun H locs hP hD hS => ?_)
        obtain ⟨v14, hv, hf⟩ := lt_1 hf
        have hP : va_P G.1 vwCl (modelC G.2 a v14) H := by rw [hv]; exact hP
        have hD : va_D A (modelC G.2 a v14) := by rw [hv]; exact hD
        clear hv
        refine lv_aload_n hx hb dX7_findRegrets_15 rfl (lv_at hl 0 rfl) ?_
        refine va_get (D := G.1) (ci := 7) (v := .ref (a 7)) (C := RX7) (T := TX7) (N := 16) hx hb hts hinX7 hown hK hP 0 rfl rfl 8 (by decide) lk29 (fun _ h9 => h9) rfl dX7_findRegrets_16 ?_
        refine lv_iload_n hx hb dX7_findRegrets_19 rfl (lv_at hl 1 rfl) ?_
        refine lv_iconst (v := 0) hx hb dX7_findRegrets_20 (by decide) ?_
        obtain ⟨hi, hf⟩ := ck_1 hf hne
        refine va_iast (f := (v14 6)) hx hb hK hP hD hS 7 0 rfl rfl (ixb_1 hi) dX7_findRegrets_21 (fun H locs hP hD hS => ?_)
        obtain ⟨v21, hv, hf⟩ := lt_1 hf
        have hP : va_P G.1 vwCl (modelC G.2 a v21) H := by rw [hv]; exact hP
        have hD : va_D A (modelC G.2 a v21) := by rw [hv]; exact hD
        clear hv
        refine lv_iinc (v := (x1 + 1)) (lv' := [(1, .int (x1 + 1)), (0, .ref (a 0))]) hx hb dX7_findRegrets_22 hl (k := 1) rfl rfl (by decide) rfl (fun ls hl => ?_)
        refine lv_goto (tgt := 2) hx hb dX7_findRegrets_25 (by decide) ?_
        exact ih v21 (x1 + 1) H locs ls hP hD hS (lv_sub hl [1, 0] rfl) hf
  refine lv_iconst (v := 0) hx hb dX7_findRegrets_0 (by decide) ?_
  refine lv_istore_n (lv' := [(1, .int 0), (0, .ref (a 0))]) hx hb dX7_findRegrets_1 rfl hl (by decide) rfl (fun ls hl => ?_)
  exact L2 n0 v0 0 s.heap [] ls hP hD hS (lv_sub hl [1, 0] rfl) hf
set_option maxHeartbeats 4000000 in
set_option maxRecDepth 100000 in
theorem ok_X7_writeFault (l : Launch) (G : Gt) (a : Nat → Nat) (n0 : Nat) (v0 : DV) (p1 : Int32) (p2 : Int32) (p3 : Int32) (hne : f_X7_writeFault n0 v0 p1 p2 p3 ≠ none) : Met l yX7_writeFault wsX7_writeFault ({ frames := 2, cells := 0, slots := 0, locals := 45 } : Room) (pcR G [.ref (a 0), .int p1, .int p2, .int p3] (modelC G.2 a v0)) (vp_Si (fun r => f_X7_writeFault n0 v0 p1 p2 p3 = some r)) 0 0 (fun _ => False) := by
  refine Met.ofW (cc := cX7_writeFault) (maxL := 4) (ret := (some .int)) (by decide) rfl ?_
  intro p e s m args below meth c s₁ B hml hv
  obtain ⟨rfl, hP, hamb⟩ := hv
  have hx := B.exec
  have hb := B.bytes
  have hr := B.returns
  have hts := atoms_spec (ws := wsX7_writeFault) B.pre
  have hown : s.vm.findClass RX7 = some m.cls := findClass_of_methodNamed B.named
  have hlocks := B.notSynchronized
  have hK := hamb.1
  obtain ⟨res, hf0⟩ : ∃ res, f_X7_writeFault n0 v0 p1 p2 p3 = res := ⟨_, rfl⟩
  have hne : res ≠ none := hf0 ▸ hne
  have hf := hf0
  rw [f_X7_writeFault] at hf
  have hinX7 : ∀ w ∈ u_ws RX7 TX7 16, w ∈ wsX7_writeFault := by decide +kernel
  have lk7 := hts (.fieldLink RX7 7 "MoodDrawersModel" "s" "[I") (by decide +kernel)
  have hl := lv_entry ([.ref (a 0), .int p1, .int p2, .int p3]) (n := 4) (Nat.le_of_ble_eq_true rfl)
  rw [lg_entry_eq]
  generalize (lg_sl ([.ref (a 0), .int p1, .int p2, .int p3]) ++ List.replicate (4 - (lg_sl ([.ref (a 0), .int p1, .int p2, .int p3])).length) Slot.unset).toArray = ls at hl ⊢
  have hl : lv_has ls 4 [(0, .ref (a 0)), (1, .int p1), (2, .int p2), (3, .int p3)] := hl
  have J23 : ∀ (n : Nat) (v : DV) (x1 : Int32) (x2 : Int32) (x3 : Int32) (ls : Array Slot), va_P G.1 vwCl (modelC G.2 a v) s.heap → lv_has ls 4 [(0, .ref (a 0)), (1, .int x1), (2, .int x2), (3, .int x3)] → f_X7_writeFault_J23 n v x1 x2 x3 = res → W p l e (headSpec wsX7_writeFault ({ frames := 2, cells := 0, slots := 0, locals := 45 } : Room)).room s m ([.ref (a 0), .int p1, .int p2, .int p3] : List Value).toArray below meth c s.heap [] 0 0 (MQ below (vp_Si (fun r => f_X7_writeFault n0 v0 p1 p2 p3 = some r)) ([.ref (a 0), .int p1, .int p2, .int p3] : List Value).toArray s 0 0 (fun _ => False)) (F0 m 23 ls []) := by
    intro n v x1 x2 x3 ls hP hl hf
    rw [f_X7_writeFault_J23] at hf
    refine lv_iload_n hx hb dX7_writeFault_23 rfl (lv_at hl 2 rfl) ?_
    refine lv_iconst (v := 0) hx hb dX7_writeFault_24 (by decide) ?_
    refine lv_bipush (v := 99) hx hb dX7_writeFault_25 (by decide) ?_
    refine vp_callSi (W.runS (As := [.int x2, .int 0, .int 99]) (rest := []) ⟨hx, hb, hml, hown, hts⟩ (ok_X7_in l x2 0 99) (va_cwS 3 hts gX7_writeFault_X7_in rfl rfl rfl (by decide +kernel) ⟨Nat.le_of_ble_eq_true rfl, Nat.le_of_ble_eq_true rfl⟩) ⟨fun _ _ _ _ q => q, fun _ _ _ => ⟨rfl, trivial⟩⟩ rfl rfl hl.1 rfl (lv_room (Nat.le_of_ble_eq_true rfl)) dX7_writeFault_27 ⟨Nat.zero_le _, Nat.zero_le _⟩) (fun r27 hw => ?_)
    subst hw
    refine lv_if_ne (tgt := 36) hx hb dX7_writeFault_30 (by decide) (fun c => ?_) (fun c => ?_)
    · have hf := it_2 hf c
      refine lv_aload_n hx hb dX7_writeFault_36 rfl (lv_at hl 0 rfl) ?_
      refine va_get (D := G.1) (ci := 7) (v := .ref (a 1)) (C := RX7) (T := TX7) (N := 16) hx hb hts hinX7 hown hK hP 0 rfl rfl 0 (by decide) lk7 (fun _ h9 => h9) rfl dX7_writeFault_37 ?_
      refine lv_iconst (v := 5) hx hb dX7_writeFault_40 (by decide) ?_
      refine va_iald (f := (v 0)) hx hb hK hP 1 0 rfl rfl (ixb_1 (show ixb 5 240 = true from rfl)) dX7_writeFault_41 ?_
      refine lv_bipush (v := 30) hx hb dX7_writeFault_42 (by decide) ?_
      refine lv_icmp_eq (tgt := 58) hx hb dX7_writeFault_44 (by decide) (fun c => ?_) (fun c => ?_)
      · have hf := it_1 hf c
        refine lv_bipush (v := (-4)) hx hb dX7_writeFault_58 (by decide) ?_
        exact W.iret (v := (-4)) hx hb hr (fun t ht hW => ⟨(-4), rfl, hf0.trans hf.symm, ht⟩) (fun _ hq => absurd hq List.not_mem_nil) dX7_writeFault_60
      · have hf := it_2 hf c
        refine lv_aload_n hx hb dX7_writeFault_47 rfl (lv_at hl 0 rfl) ?_
        refine lv_iload_n hx hb dX7_writeFault_48 rfl (lv_at hl 1 rfl) ?_
        refine lv_iconst (v := 0) hx hb dX7_writeFault_49 (by decide) ?_
        have hn := bd1_1 hf hne
        refine vp_callSi (W.runV (As := [.int x1, .int 0]) (rest := []) ⟨hx, hb, hml, hown, hts⟩ (ok_X7_many l G a n v x1 0 hn) (cwV 2 hts gX7_writeFault_X7_many rfl rfl rfl (by decide +kernel) ⟨Nat.le_of_ble_eq_true rfl, Nat.le_of_ble_eq_true rfl⟩) ⟨pcR_blind, va_recv hK hP (ci := 7) (q0 := 0) rfl rfl, pcR_pre hP hamb⟩ rfl rfl hl.1 rfl (lv_room (Nat.le_of_ble_eq_true rfl)) dX7_writeFault_50 ⟨Nat.zero_le _, Nat.zero_le _⟩) (fun r50 hw => ?_)
        have hf := bd1_2 hf hw
        refine lv_bipush (v := 8) hx hb dX7_writeFault_53 (by decide) ?_
        refine lv_icmp_ne (tgt := 61) hx hb dX7_writeFault_55 (by decide) (fun c => ?_) (fun c => ?_)
        · have hf := it_2 hf c
          refine lv_iload_n hx hb dX7_writeFault_61 rfl (lv_at hl 3 rfl) ?_
          refine lv_bipush (v := (-6)) hx hb dX7_writeFault_62 (by decide) ?_
          refine lv_icmp_eq (tgt := 86) hx hb dX7_writeFault_64 (by decide) (fun c => ?_) (fun c => ?_)
          · have hf := it_1 hf c
            refine lv_iconst (v := 0) hx hb dX7_writeFault_86 (by decide) ?_
            exact W.iret (v := 0) hx hb hr (fun t ht hW => ⟨0, rfl, hf0.trans hf.symm, ht⟩) (fun _ hq => absurd hq List.not_mem_nil) dX7_writeFault_87
          · have hf := it_2 hf c
            refine lv_aload_n hx hb dX7_writeFault_67 rfl (lv_at hl 0 rfl) ?_
            refine va_get (D := G.1) (ci := 7) (v := .ref (a 1)) (C := RX7) (T := TX7) (N := 16) hx hb hts hinX7 hown hK hP 0 rfl rfl 0 (by decide) lk7 (fun _ h9 => h9) rfl dX7_writeFault_68 ?_
            refine lv_iload_n hx hb dX7_writeFault_71 rfl (lv_at hl 3 rfl) ?_
            refine lv_iconst (v := 3) hx hb dX7_writeFault_72 (by decide) ?_
            refine vp_callSi (W.runS (As := [.int x3, .int 3]) (rest := [.ref (a 1)]) ⟨hx, hb, hml, hown, hts⟩ (ok_X7_ofL l x3 3) (va_cwS 2 hts gX7_writeFault_X7_ofL rfl rfl rfl (by decide +kernel) ⟨Nat.le_of_ble_eq_true rfl, Nat.le_of_ble_eq_true rfl⟩) ⟨fun _ _ _ _ q => q, fun _ _ _ => ⟨rfl, trivial⟩⟩ rfl rfl hl.1 rfl (lv_room (Nat.le_of_ble_eq_true rfl)) dX7_writeFault_73 ⟨Nat.zero_le _, Nat.zero_le _⟩) (fun r73 hw => ?_)
            subst hw
            obtain ⟨hi, hf⟩ := ck_1 hf hne
            refine va_iald (f := (v 0)) hx hb hK hP 1 0 rfl rfl (ixb_1 hi) dX7_writeFault_76 ?_
            refine lv_iconst (v := 1) hx hb dX7_writeFault_77 (by decide) ?_
            refine lv_icmp_eq (tgt := 86) hx hb dX7_writeFault_78 (by decide) (fun c => ?_) (fun c => ?_)
            · have hf := it_1 hf c
              refine lv_iconst (v := 0) hx hb dX7_writeFault_86 (by decide) ?_
              exact W.iret (v := 0) hx hb hr (fun t ht hW => ⟨0, rfl, hf0.trans hf.symm, ht⟩) (fun _ hq => absurd hq List.not_mem_nil) dX7_writeFault_87
            · have hf := it_2 hf c
              refine lv_bipush (v := (-5)) hx hb dX7_writeFault_81 (by decide) ?_
              refine lv_goto (tgt := 87) hx hb dX7_writeFault_83 (by decide) ?_
              exact W.iret (v := (-5)) hx hb hr (fun t ht hW => ⟨(-5), rfl, hf0.trans hf.symm, ht⟩) (fun _ hq => absurd hq List.not_mem_nil) dX7_writeFault_87
        · have hf := it_1 hf c
          refine lv_bipush (v := (-4)) hx hb dX7_writeFault_58 (by decide) ?_
          exact W.iret (v := (-4)) hx hb hr (fun t ht hW => ⟨(-4), rfl, hf0.trans hf.symm, ht⟩) (fun _ hq => absurd hq List.not_mem_nil) dX7_writeFault_60
    · have hf := it_1 hf c
      refine lv_bipush (v := (-2)) hx hb dX7_writeFault_33 (by decide) ?_
      exact W.iret (v := (-2)) hx hb hr (fun t ht hW => ⟨(-2), rfl, hf0.trans hf.symm, ht⟩) (fun _ hq => absurd hq List.not_mem_nil) dX7_writeFault_35
  refine lv_iload_n hx hb dX7_writeFault_0 rfl (lv_at hl 1 rfl) ?_
  refine vp_callSi (W.runS (As := [.int p1]) (rest := []) ⟨hx, hb, hml, hown, hts⟩ (ok_X7_isMood l p1) (va_cwS 1 hts gX7_writeFault_X7_isMood rfl rfl rfl (by decide +kernel) ⟨Nat.le_of_ble_eq_true rfl, Nat.le_of_ble_eq_true rfl⟩) ⟨fun _ _ _ _ q => q, fun _ _ _ => ⟨rfl, trivial⟩⟩ rfl rfl hl.1 rfl (lv_room (Nat.le_of_ble_eq_true rfl)) dX7_writeFault_1 ⟨Nat.zero_le _, Nat.zero_le _⟩) (fun r1 hw => ?_)
  subst hw
  refine lv_if_eq (tgt := 21) hx hb dX7_writeFault_4 (by decide) (fun c => ?_) (fun c => ?_)
  · have hf := it_1 hf c
    refine lv_iconst (v := (-1)) hx hb dX7_writeFault_21 (by decide) ?_
    exact W.iret (v := (-1)) hx hb hr (fun t ht hW => ⟨(-1), rfl, hf0.trans hf.symm, ht⟩) (fun _ hq => absurd hq List.not_mem_nil) dX7_writeFault_22
  · have hf := it_2 hf c
    refine lv_iload_n hx hb dX7_writeFault_7 rfl (lv_at hl 3 rfl) ?_
    refine lv_bipush (v := (-6)) hx hb dX7_writeFault_8 (by decide) ?_
    refine lv_icmp_eq (tgt := 23) hx hb dX7_writeFault_10 (by decide) (fun c => ?_) (fun c => ?_)
    · have hf := it_1 hf c
      exact J23 n0 v0 p1 p2 p3 ls hP (lv_sub hl [0, 1, 2, 3] rfl) hf
    · have hf := it_2 hf c
      refine lv_aload_n hx hb dX7_writeFault_13 rfl (lv_at hl 0 rfl) ?_
      refine lv_iload_n hx hb dX7_writeFault_14 rfl (lv_at hl 3 rfl) ?_
      have hn := bd1_1 hf hne
      refine vp_callSi (W.runV (As := [.int p3]) (rest := []) ⟨hx, hb, hml, hown, hts⟩ (ok_X7_isLetter l G a v0 p3 hn) (cwV 1 hts gX7_writeFault_X7_isLetter rfl rfl rfl (by decide +kernel) ⟨Nat.le_of_ble_eq_true rfl, Nat.le_of_ble_eq_true rfl⟩) ⟨pcR_blind, va_recv hK hP (ci := 7) (q0 := 0) rfl rfl, pcR_pre hP hamb⟩ rfl rfl hl.1 rfl (lv_room (Nat.le_of_ble_eq_true rfl)) dX7_writeFault_15 ⟨Nat.zero_le _, Nat.zero_le _⟩) (fun r15 hw => ?_)
      have hf := bd1_2 hf hw
      refine lv_if_ne (tgt := 23) hx hb dX7_writeFault_18 (by decide) (fun c => ?_) (fun c => ?_)
      · have hf := it_2 hf c
        exact J23 n0 v0 p1 p2 p3 ls hP (lv_sub hl [0, 1, 2, 3] rfl) hf
      · have hf := it_1 hf c
        refine lv_iconst (v := (-1)) hx hb dX7_writeFault_21 (by decide) ?_
        exact W.iret (v := (-1)) hx hb hr (fun t ht hW => ⟨(-1), rfl, hf0.trans hf.symm, ht⟩) (fun _ hq => absurd hq List.not_mem_nil) dX7_writeFault_22
set_option maxHeartbeats 4000000 in
set_option maxRecDepth 100000 in
theorem ok_X7_writes (l : Launch) (G : Gt) (a : Nat → Nat) (sz : Nat) (v0 : DV) (p1 : Int32) (p2 : Int32) (p3 : Int32) (hne : f_X7_writes v0 p1 p2 p3 ≠ none) : Met l yX7_writes wsX7_writes ({ frames := 1, cells := 0, slots := 0, locals := 21 } : Room) (pcW G [.ref (a 0), .int p1, .int p2, .int p3] (modelC G.2 a v0) sz) (va_Qi (fun r (u : DV) => f_X7_writes v0 p1 p2 p3 = some (r, u)) (fun u t => atW G (modelC G.2 a u) (va_A (modelC G.2 a v0) sz) t) (va_A (modelC G.2 a v0) sz)) 0 0 (va_A (modelC G.2 a v0) sz) := by
  refine Met.ofW (cc := cX7_writes) (maxL := 5) (ret := (some .int)) (by decide) rfl ?_
  intro p e s m args below meth c s₁ B hml hv
  obtain ⟨rfl, hsz, hP, hD0, hamb⟩ := hv
  have hx := B.exec
  have hb := B.bytes
  have hr := B.returns
  have hts := atoms_spec (ws := wsX7_writes) B.pre
  have hown : s.vm.findClass RX7 = some m.cls := findClass_of_methodNamed B.named
  have hlocks := B.notSynchronized
  have hK := hamb.1
  subst hsz
  have hD := hD0.self (sz := s.heap.size)
  generalize hAe : va_A (modelC G.2 a v0) s.heap.size = A at hD ⊢
  have hA : ∀ q : Nat, s.heap.size ≤ q → A q := fun q h => by rw [← hAe]; exact Or.inr h
  have hS : va_S A s.heap s.heap [] := va_S.rf
  obtain ⟨res, hf0⟩ : ∃ res, f_X7_writes v0 p1 p2 p3 = res := ⟨_, rfl⟩
  have hne : res ≠ none := hf0 ▸ hne
  have hf := hf0
  rw [f_X7_writes] at hf
  have hinX7 : ∀ w ∈ u_ws RX7 TX7 16, w ∈ wsX7_writes := by decide +kernel
  have lk7 := hts (.fieldLink RX7 7 "MoodDrawersModel" "s" "[I") (by decide +kernel)
  have hl := lv_entry ([.ref (a 0), .int p1, .int p2, .int p3]) (n := 5) (Nat.le_of_ble_eq_true rfl)
  rw [lg_entry_eq]
  generalize (lg_sl ([.ref (a 0), .int p1, .int p2, .int p3]) ++ List.replicate (5 - (lg_sl ([.ref (a 0), .int p1, .int p2, .int p3])).length) Slot.unset).toArray = ls at hl ⊢
  have hl : lv_has ls 5 [(0, .ref (a 0)), (1, .int p1), (2, .int p2), (3, .int p3)] := hl
  refine lv_aload_n hx hb dX7_writes_0 rfl (lv_at hl 0 rfl) ?_
  refine va_get (D := G.1) (ci := 7) (v := .ref (a 1)) (C := RX7) (T := TX7) (N := 16) hx hb hts hinX7 hown hK hP 0 rfl rfl 0 (by decide) lk7 (fun _ h9 => h9) rfl dX7_writes_1 ?_
  refine lv_iconst (v := 5) hx hb dX7_writes_4 (by decide) ?_
  refine va_iald (f := (v0 0)) hx hb hK hP 1 0 rfl rfl (ixb_1 (show ixb 5 240 = true from rfl)) dX7_writes_5 ?_
  refine lv_istore (lv' := [(4, .int ((v0 0) (Int32.toNatClampNeg 5))), (0, .ref (a 0)), (1, .int p1), (2, .int p2), (3, .int p3)]) hx hb dX7_writes_6 hl (by decide) rfl (fun ls hl => ?_)
  refine lv_aload_n hx hb dX7_writes_8 rfl (lv_at hl 1 rfl) ?_
  refine va_get (D := G.1) (ci := 7) (v := .ref (a 1)) (C := RX7) (T := TX7) (N := 16) hx hb hts hinX7 hown hK hP 0 rfl rfl 0 (by decide) lk7 (fun _ h9 => h9) rfl dX7_writes_9 ?_
  refine lv_iload hx hb dX7_writes_12 (lv_at hl 0 rfl) ?_
  refine lv_iconst (v := 0) hx hb dX7_writes_14 (by decide) ?_
  refine vp_callSi (W.runS (As := [.int ((v0 0) (Int32.toNatClampNeg 5)), .int 0]) (rest := [.ref (a 1)]) ⟨hx, hb, hml, hown, hts⟩ (ok_X7_ofL l ((v0 0) (Int32.toNatClampNeg 5)) 0) (va_cwS 2 hts gX7_writes_X7_ofL rfl rfl rfl (by decide +kernel) ⟨Nat.le_of_ble_eq_true rfl, Nat.le_of_ble_eq_true rfl⟩) ⟨fun _ _ _ _ q => q, fun _ _ _ => ⟨rfl, trivial⟩⟩ rfl rfl hl.1 rfl (lv_room (Nat.le_of_ble_eq_true rfl)) dX7_writes_15 ⟨Nat.zero_le _, Nat.zero_le _⟩) (fun r15 hw => ?_)
  subst hw
  refine lv_iload_n hx hb dX7_writes_18 rfl (lv_at hl 2 rfl) ?_
  obtain ⟨hi, hf⟩ := ck_1 hf hne
  refine va_iast (f := (v0 0)) hx hb hK hP hD hS 1 0 rfl rfl (ixb_1 hi) dX7_writes_19 (fun H locs hP hD hS => ?_)
  obtain ⟨v19, hv, hf⟩ := lt_1 hf
  have hP : va_P G.1 vwCl (modelC G.2 a v19) H := by rw [hv]; exact hP
  have hD : va_D A (modelC G.2 a v19) := by rw [hv]; exact hD
  clear hv
  refine lv_aload_n hx hb dX7_writes_20 rfl (lv_at hl 1 rfl) ?_
  refine va_get (D := G.1) (ci := 7) (v := .ref (a 1)) (C := RX7) (T := TX7) (N := 16) hx hb hts hinX7 hown hK hP 0 rfl rfl 0 (by decide) lk7 (fun _ h9 => h9) rfl dX7_writes_21 ?_
  refine lv_iload hx hb dX7_writes_24 (lv_at hl 0 rfl) ?_
  refine lv_iconst (v := 1) hx hb dX7_writes_26 (by decide) ?_
  refine vp_callSi (W.runS (As := [.int ((v0 0) (Int32.toNatClampNeg 5)), .int 1]) (rest := [.ref (a 1)]) ⟨hx, hb, hml, hown, hts⟩ (ok_X7_ofL l ((v0 0) (Int32.toNatClampNeg 5)) 1) (va_cwS 2 hts gX7_writes_X7_ofL rfl rfl rfl (by decide +kernel) ⟨Nat.le_of_ble_eq_true rfl, Nat.le_of_ble_eq_true rfl⟩) ⟨fun _ _ _ _ q => q, fun _ _ _ => ⟨rfl, trivial⟩⟩ rfl rfl hl.1 rfl (lv_room (Nat.le_of_ble_eq_true rfl)) dX7_writes_27 ⟨Nat.zero_le _, Nat.zero_le _⟩) (fun r27 hw => ?_)
  subst hw
  refine lv_iload_n hx hb dX7_writes_30 rfl (lv_at hl 3 rfl) ?_
  obtain ⟨hi, hf⟩ := ck_1 hf hne
  refine va_iast (f := (v19 0)) hx hb hK hP hD hS 1 0 rfl rfl (ixb_1 hi) dX7_writes_31 (fun H locs hP hD hS => ?_)
  obtain ⟨v31, hv, hf⟩ := lt_1 hf
  have hP : va_P G.1 vwCl (modelC G.2 a v31) H := by rw [hv]; exact hP
  have hD : va_D A (modelC G.2 a v31) := by rw [hv]; exact hD
  clear hv
  refine lv_aload_n hx hb dX7_writes_32 rfl (lv_at hl 1 rfl) ?_
  refine va_get (D := G.1) (ci := 7) (v := .ref (a 1)) (C := RX7) (T := TX7) (N := 16) hx hb hts hinX7 hown hK hP 0 rfl rfl 0 (by decide) lk7 (fun _ h9 => h9) rfl dX7_writes_33 ?_
  refine lv_iload hx hb dX7_writes_36 (lv_at hl 0 rfl) ?_
  refine lv_iconst (v := 2) hx hb dX7_writes_38 (by decide) ?_
  refine vp_callSi (W.runS (As := [.int ((v0 0) (Int32.toNatClampNeg 5)), .int 2]) (rest := [.ref (a 1)]) ⟨hx, hb, hml, hown, hts⟩ (ok_X7_ofL l ((v0 0) (Int32.toNatClampNeg 5)) 2) (va_cwS 2 hts gX7_writes_X7_ofL rfl rfl rfl (by decide +kernel) ⟨Nat.le_of_ble_eq_true rfl, Nat.le_of_ble_eq_true rfl⟩) ⟨fun _ _ _ _ q => q, fun _ _ _ => ⟨rfl, trivial⟩⟩ rfl rfl hl.1 rfl (lv_room (Nat.le_of_ble_eq_true rfl)) dX7_writes_39 ⟨Nat.zero_le _, Nat.zero_le _⟩) (fun r39 hw => ?_)
  subst hw
  refine lv_aload_n hx hb dX7_writes_42 rfl (lv_at hl 1 rfl) ?_
  refine va_get (D := G.1) (ci := 7) (v := .ref (a 1)) (C := RX7) (T := TX7) (N := 16) hx hb hts hinX7 hown hK hP 0 rfl rfl 0 (by decide) lk7 (fun _ h9 => h9) rfl dX7_writes_43 ?_
  refine lv_iconst (v := 3) hx hb dX7_writes_46 (by decide) ?_
  refine va_iald (f := (v31 0)) hx hb hK hP 1 0 rfl rfl (ixb_1 (show ixb 3 240 = true from rfl)) dX7_writes_47 ?_
  obtain ⟨hi, hf⟩ := ck_1 hf hne
  refine va_iast (f := (v31 0)) hx hb hK hP hD hS 1 0 rfl rfl (ixb_1 hi) dX7_writes_48 (fun H locs hP hD hS => ?_)
  obtain ⟨v48, hv, hf⟩ := lt_1 hf
  have hP : va_P G.1 vwCl (modelC G.2 a v48) H := by rw [hv]; exact hP
  have hD : va_D A (modelC G.2 a v48) := by rw [hv]; exact hD
  clear hv
  refine lv_aload_n hx hb dX7_writes_49 rfl (lv_at hl 1 rfl) ?_
  refine va_get (D := G.1) (ci := 7) (v := .ref (a 1)) (C := RX7) (T := TX7) (N := 16) hx hb hts hinX7 hown hK hP 0 rfl rfl 0 (by decide) lk7 (fun _ h9 => h9) rfl dX7_writes_50 ?_
  refine lv_iload hx hb dX7_writes_53 (lv_at hl 0 rfl) ?_
  refine lv_iconst (v := 3) hx hb dX7_writes_55 (by decide) ?_
  refine vp_callSi (W.runS (As := [.int ((v0 0) (Int32.toNatClampNeg 5)), .int 3]) (rest := [.ref (a 1)]) ⟨hx, hb, hml, hown, hts⟩ (ok_X7_ofL l ((v0 0) (Int32.toNatClampNeg 5)) 3) (va_cwS 2 hts gX7_writes_X7_ofL rfl rfl rfl (by decide +kernel) ⟨Nat.le_of_ble_eq_true rfl, Nat.le_of_ble_eq_true rfl⟩) ⟨fun _ _ _ _ q => q, fun _ _ _ => ⟨rfl, trivial⟩⟩ rfl rfl hl.1 rfl (lv_room (Nat.le_of_ble_eq_true rfl)) dX7_writes_56 ⟨Nat.zero_le _, Nat.zero_le _⟩) (fun r56 hw => ?_)
  subst hw
  refine lv_iconst (v := 0) hx hb dX7_writes_59 (by decide) ?_
  obtain ⟨hi, hf⟩ := ck_1 hf hne
  refine va_iast (f := (v48 0)) hx hb hK hP hD hS 1 0 rfl rfl (ixb_1 hi) dX7_writes_60 (fun H locs hP hD hS => ?_)
  obtain ⟨v60, hv, hf⟩ := lt_1 hf
  have hP : va_P G.1 vwCl (modelC G.2 a v60) H := by rw [hv]; exact hP
  have hD : va_D A (modelC G.2 a v60) := by rw [hv]; exact hD
  clear hv
  refine lv_aload_n hx hb dX7_writes_61 rfl (lv_at hl 1 rfl) ?_
  refine va_get (D := G.1) (ci := 7) (v := .ref (a 1)) (C := RX7) (T := TX7) (N := 16) hx hb hts hinX7 hown hK hP 0 rfl rfl 0 (by decide) lk7 (fun _ h9 => h9) rfl dX7_writes_62 ?_
  refine lv_iload hx hb dX7_writes_65 (lv_at hl 0 rfl) ?_
  refine lv_iconst (v := 4) hx hb dX7_writes_67 (by decide) ?_
  refine vp_callSi (W.runS (As := [.int ((v0 0) (Int32.toNatClampNeg 5)), .int 4]) (rest := [.ref (a 1)]) ⟨hx, hb, hml, hown, hts⟩ (ok_X7_ofL l ((v0 0) (Int32.toNatClampNeg 5)) 4) (va_cwS 2 hts gX7_writes_X7_ofL rfl rfl rfl (by decide +kernel) ⟨Nat.le_of_ble_eq_true rfl, Nat.le_of_ble_eq_true rfl⟩) ⟨fun _ _ _ _ q => q, fun _ _ _ => ⟨rfl, trivial⟩⟩ rfl rfl hl.1 rfl (lv_room (Nat.le_of_ble_eq_true rfl)) dX7_writes_68 ⟨Nat.zero_le _, Nat.zero_le _⟩) (fun r68 hw => ?_)
  subst hw
  refine lv_bipush (v := (-6)) hx hb dX7_writes_71 (by decide) ?_
  obtain ⟨hi, hf⟩ := ck_1 hf hne
  refine va_iast (f := (v60 0)) hx hb hK hP hD hS 1 0 rfl rfl (ixb_1 hi) dX7_writes_73 (fun H locs hP hD hS => ?_)
  obtain ⟨v73, hv, hf⟩ := lt_1 hf
  have hP : va_P G.1 vwCl (modelC G.2 a v73) H := by rw [hv]; exact hP
  have hD : va_D A (modelC G.2 a v73) := by rw [hv]; exact hD
  clear hv
  refine lv_aload_n hx hb dX7_writes_74 rfl (lv_at hl 1 rfl) ?_
  refine va_get (D := G.1) (ci := 7) (v := .ref (a 1)) (C := RX7) (T := TX7) (N := 16) hx hb hts hinX7 hown hK hP 0 rfl rfl 0 (by decide) lk7 (fun _ h9 => h9) rfl dX7_writes_75 ?_
  refine lv_iload hx hb dX7_writes_78 (lv_at hl 0 rfl) ?_
  refine lv_iconst (v := 5) hx hb dX7_writes_80 (by decide) ?_
  refine vp_callSi (W.runS (As := [.int ((v0 0) (Int32.toNatClampNeg 5)), .int 5]) (rest := [.ref (a 1)]) ⟨hx, hb, hml, hown, hts⟩ (ok_X7_ofL l ((v0 0) (Int32.toNatClampNeg 5)) 5) (va_cwS 2 hts gX7_writes_X7_ofL rfl rfl rfl (by decide +kernel) ⟨Nat.le_of_ble_eq_true rfl, Nat.le_of_ble_eq_true rfl⟩) ⟨fun _ _ _ _ q => q, fun _ _ _ => ⟨rfl, trivial⟩⟩ rfl rfl hl.1 rfl (lv_room (Nat.le_of_ble_eq_true rfl)) dX7_writes_81 ⟨Nat.zero_le _, Nat.zero_le _⟩) (fun r81 hw => ?_)
  subst hw
  refine lv_iload_n hx hb dX7_writes_84 rfl (lv_at hl 4 rfl) ?_
  obtain ⟨hi, hf⟩ := ck_1 hf hne
  refine va_iast (f := (v73 0)) hx hb hK hP hD hS 1 0 rfl rfl (ixb_1 hi) dX7_writes_85 (fun H locs hP hD hS => ?_)
  obtain ⟨v85, hv, hf⟩ := lt_1 hf
  have hP : va_P G.1 vwCl (modelC G.2 a v85) H := by rw [hv]; exact hP
  have hD : va_D A (modelC G.2 a v85) := by rw [hv]; exact hD
  clear hv
  refine lv_aload_n hx hb dX7_writes_86 rfl (lv_at hl 1 rfl) ?_
  refine va_get (D := G.1) (ci := 7) (v := .ref (a 1)) (C := RX7) (T := TX7) (N := 16) hx hb hts hinX7 hown hK hP 0 rfl rfl 0 (by decide) lk7 (fun _ h9 => h9) rfl dX7_writes_87 ?_
  refine lv_iload hx hb dX7_writes_90 (lv_at hl 0 rfl) ?_
  refine lv_bipush (v := 6) hx hb dX7_writes_92 (by decide) ?_
  refine vp_callSi (W.runS (As := [.int ((v0 0) (Int32.toNatClampNeg 5)), .int 6]) (rest := [.ref (a 1)]) ⟨hx, hb, hml, hown, hts⟩ (ok_X7_ofL l ((v0 0) (Int32.toNatClampNeg 5)) 6) (va_cwS 2 hts gX7_writes_X7_ofL rfl rfl rfl (by decide +kernel) ⟨Nat.le_of_ble_eq_true rfl, Nat.le_of_ble_eq_true rfl⟩) ⟨fun _ _ _ _ q => q, fun _ _ _ => ⟨rfl, trivial⟩⟩ rfl rfl hl.1 rfl (lv_room (Nat.le_of_ble_eq_true rfl)) dX7_writes_94 ⟨Nat.zero_le _, Nat.zero_le _⟩) (fun r94 hw => ?_)
  subst hw
  refine lv_iconst (v := 0) hx hb dX7_writes_97 (by decide) ?_
  obtain ⟨hi, hf⟩ := ck_1 hf hne
  refine va_iast (f := (v85 0)) hx hb hK hP hD hS 1 0 rfl rfl (ixb_1 hi) dX7_writes_98 (fun H locs hP hD hS => ?_)
  obtain ⟨v98, hv, hf⟩ := lt_1 hf
  have hP : va_P G.1 vwCl (modelC G.2 a v98) H := by rw [hv]; exact hP
  have hD : va_D A (modelC G.2 a v98) := by rw [hv]; exact hD
  clear hv
  refine lv_aload_n hx hb dX7_writes_99 rfl (lv_at hl 1 rfl) ?_
  refine va_get (D := G.1) (ci := 7) (v := .ref (a 1)) (C := RX7) (T := TX7) (N := 16) hx hb hts hinX7 hown hK hP 0 rfl rfl 0 (by decide) lk7 (fun _ h9 => h9) rfl dX7_writes_100 ?_
  refine lv_iconst (v := 5) hx hb dX7_writes_103 (by decide) ?_
  refine lv_dup2_11 hx hb dX7_writes_104 rfl rfl ?_
  refine va_iald (f := (v98 0)) hx hb hK hP 1 0 rfl rfl (ixb_1 (show ixb 5 240 = true from rfl)) dX7_writes_105 ?_
  refine lv_iconst (v := 1) hx hb dX7_writes_106 (by decide) ?_
  refine lv_iadd hx hb dX7_writes_107 ?_
  refine va_iast (f := (v98 0)) hx hb hK hP hD hS 1 0 rfl rfl (ixb_1 (show ixb 5 240 = true from rfl)) dX7_writes_108 (fun H locs hP hD hS => ?_)
  obtain ⟨v108, hv, hf⟩ := lt_1 hf
  have hP : va_P G.1 vwCl (modelC G.2 a v108) H := by rw [hv]; exact hP
  have hD : va_D A (modelC G.2 a v108) := by rw [hv]; exact hD
  clear hv
  refine lv_iload hx hb dX7_writes_109 (lv_at hl 0 rfl) ?_
  exact W.iret (v := ((v0 0) (Int32.toNatClampNeg 5))) hx hb hr (fun t ht hW => ⟨⟨((v0 0) (Int32.toNatClampNeg 5)), v108, rfl, hf0.trans hf.symm, by rw [ht]; exact hP, hD⟩, hS.F ht⟩) hS.2.2 dX7_writes_111
set_option maxHeartbeats 4000000 in
set_option maxRecDepth 100000 in
theorem ok_X7_turns (l : Launch) (G : Gt) (a : Nat → Nat) (sz : Nat) (v0 : DV) (p1 : Int32) (hne : f_X7_turns v0 p1 ≠ none) : Met l yX7_turns wsX7_turns ({ frames := 1, cells := 0, slots := 0, locals := 21 } : Room) (pcW G [.ref (a 0), .int p1] (modelC G.2 a v0) sz) (va_Qi (fun r (u : DV) => f_X7_turns v0 p1 = some (r, u)) (fun u t => atW G (modelC G.2 a u) (va_A (modelC G.2 a v0) sz) t) (va_A (modelC G.2 a v0) sz)) 0 0 (va_A (modelC G.2 a v0) sz) := by
  refine Met.ofW (cc := cX7_turns) (maxL := 2) (ret := (some .int)) (by decide) rfl ?_
  intro p e s m args below meth c s₁ B hml hv
  obtain ⟨rfl, hsz, hP, hD0, hamb⟩ := hv
  have hx := B.exec
  have hb := B.bytes
  have hr := B.returns
  have hts := atoms_spec (ws := wsX7_turns) B.pre
  have hown : s.vm.findClass RX7 = some m.cls := findClass_of_methodNamed B.named
  have hlocks := B.notSynchronized
  have hK := hamb.1
  subst hsz
  have hD := hD0.self (sz := s.heap.size)
  generalize hAe : va_A (modelC G.2 a v0) s.heap.size = A at hD ⊢
  have hA : ∀ q : Nat, s.heap.size ≤ q → A q := fun q h => by rw [← hAe]; exact Or.inr h
  have hS : va_S A s.heap s.heap [] := va_S.rf
  obtain ⟨res, hf0⟩ : ∃ res, f_X7_turns v0 p1 = res := ⟨_, rfl⟩
  have hne : res ≠ none := hf0 ▸ hne
  have hf := hf0
  rw [f_X7_turns] at hf
  have hinX7 : ∀ w ∈ u_ws RX7 TX7 16, w ∈ wsX7_turns := by decide +kernel
  have lk7 := hts (.fieldLink RX7 7 "MoodDrawersModel" "s" "[I") (by decide +kernel)
  have hl := lv_entry ([.ref (a 0), .int p1]) (n := 2) (Nat.le_of_ble_eq_true rfl)
  rw [lg_entry_eq]
  generalize (lg_sl ([.ref (a 0), .int p1]) ++ List.replicate (2 - (lg_sl ([.ref (a 0), .int p1])).length) Slot.unset).toArray = ls at hl ⊢
  have hl : lv_has ls 2 [(0, .ref (a 0)), (1, .int p1)] := hl
  refine lv_aload_n hx hb dX7_turns_0 rfl (lv_at hl 0 rfl) ?_
  refine va_get (D := G.1) (ci := 7) (v := .ref (a 1)) (C := RX7) (T := TX7) (N := 16) hx hb hts hinX7 hown hK hP 0 rfl rfl 0 (by decide) lk7 (fun _ h9 => h9) rfl dX7_turns_1 ?_
  refine lv_iload_n hx hb dX7_turns_4 rfl (lv_at hl 1 rfl) ?_
  refine lv_iconst (v := 0) hx hb dX7_turns_5 (by decide) ?_
  refine vp_callSi (W.runS (As := [.int p1, .int 0]) (rest := [.ref (a 1)]) ⟨hx, hb, hml, hown, hts⟩ (ok_X7_ofD l p1 0) (va_cwS 2 hts gX7_turns_X7_ofD rfl rfl rfl (by decide +kernel) ⟨Nat.le_of_ble_eq_true rfl, Nat.le_of_ble_eq_true rfl⟩) ⟨fun _ _ _ _ q => q, fun _ _ _ => ⟨rfl, trivial⟩⟩ rfl rfl hl.1 rfl (lv_room (Nat.le_of_ble_eq_true rfl)) dX7_turns_6 ⟨Nat.zero_le _, Nat.zero_le _⟩) (fun r6 hw => ?_)
  subst hw
  refine lv_iconst (v := 1) hx hb dX7_turns_9 (by decide) ?_
  refine lv_aload_n hx hb dX7_turns_10 rfl (lv_at hl 0 rfl) ?_
  refine va_get (D := G.1) (ci := 7) (v := .ref (a 1)) (C := RX7) (T := TX7) (N := 16) hx hb hts hinX7 hown hK hP 0 rfl rfl 0 (by decide) lk7 (fun _ h9 => h9) rfl dX7_turns_11 ?_
  refine lv_iload_n hx hb dX7_turns_14 rfl (lv_at hl 1 rfl) ?_
  refine lv_iconst (v := 0) hx hb dX7_turns_15 (by decide) ?_
  refine vp_callSi (W.runS (As := [.int p1, .int 0]) (rest := [.ref (a 1), .int 1, .int (f_X7_ofD p1 0), .ref (a 1)]) ⟨hx, hb, hml, hown, hts⟩ (ok_X7_ofD l p1 0) (va_cwS 2 hts gX7_turns_X7_ofD rfl rfl rfl (by decide +kernel) ⟨Nat.le_of_ble_eq_true rfl, Nat.le_of_ble_eq_true rfl⟩) ⟨fun _ _ _ _ q => q, fun _ _ _ => ⟨rfl, trivial⟩⟩ rfl rfl hl.1 rfl (lv_room (Nat.le_of_ble_eq_true rfl)) dX7_turns_16 ⟨Nat.zero_le _, Nat.zero_le _⟩) (fun r16 hw => ?_)
  subst hw
  obtain ⟨hi, hf⟩ := ck_1 hf hne
  refine va_iald (f := (v0 0)) hx hb hK hP 1 0 rfl rfl (ixb_1 hi) dX7_turns_19 ?_
  refine lv_isub hx hb dX7_turns_20 ?_
  obtain ⟨hi, hf⟩ := ck_1 hf hne
  refine va_iast (f := (v0 0)) hx hb hK hP hD hS 1 0 rfl rfl (ixb_1 hi) dX7_turns_21 (fun H locs hP hD hS => ?_)
  obtain ⟨v21, hv, hf⟩ := lt_1 hf
  have hP : va_P G.1 vwCl (modelC G.2 a v21) H := by rw [hv]; exact hP
  have hD : va_D A (modelC G.2 a v21) := by rw [hv]; exact hD
  clear hv
  refine lv_aload_n hx hb dX7_turns_22 rfl (lv_at hl 0 rfl) ?_
  refine va_get (D := G.1) (ci := 7) (v := .ref (a 1)) (C := RX7) (T := TX7) (N := 16) hx hb hts hinX7 hown hK hP 0 rfl rfl 0 (by decide) lk7 (fun _ h9 => h9) rfl dX7_turns_23 ?_
  refine lv_iload_n hx hb dX7_turns_26 rfl (lv_at hl 1 rfl) ?_
  refine lv_iconst (v := 0) hx hb dX7_turns_27 (by decide) ?_
  refine vp_callSi (W.runS (As := [.int p1, .int 0]) (rest := [.ref (a 1)]) ⟨hx, hb, hml, hown, hts⟩ (ok_X7_ofD l p1 0) (va_cwS 2 hts gX7_turns_X7_ofD rfl rfl rfl (by decide +kernel) ⟨Nat.le_of_ble_eq_true rfl, Nat.le_of_ble_eq_true rfl⟩) ⟨fun _ _ _ _ q => q, fun _ _ _ => ⟨rfl, trivial⟩⟩ rfl rfl hl.1 rfl (lv_room (Nat.le_of_ble_eq_true rfl)) dX7_turns_28 ⟨Nat.zero_le _, Nat.zero_le _⟩) (fun r28 hw => ?_)
  subst hw
  obtain ⟨hi, hf⟩ := ck_1 hf hne
  refine va_iald (f := (v21 0)) hx hb hK hP 1 0 rfl rfl (ixb_1 hi) dX7_turns_31 ?_
  exact W.iret (v := ((v21 0) (Int32.toNatClampNeg (f_X7_ofD p1 0)))) hx hb hr (fun t ht hW => ⟨⟨((v21 0) (Int32.toNatClampNeg (f_X7_ofD p1 0))), v21, rfl, hf0.trans hf.symm, by rw [ht]; exact hP, hD⟩, hS.F ht⟩) hS.2.2 dX7_turns_32
set_option maxHeartbeats 4000000 in
set_option maxRecDepth 100000 in
theorem ok_X7_hoursFault (l : Launch) (G : Gt) (a : Nat → Nat) (v0 : DV) (p1 : Int32) (p2 : Int32) (p3 : Int32) : Met l yX7_hoursFault wsX7_hoursFault ({ frames := 2, cells := 0, slots := 0, locals := 42 } : Room) (pcR G [.ref (a 0), .int p1, .int p2, .int p3] (modelC G.2 a v0)) (vp_Si (fun r => r = f_X7_hoursFault v0 p1 p2 p3)) 0 0 (fun _ => False) := by
  refine Met.ofW (cc := cX7_hoursFault) (maxL := 4) (ret := (some .int)) (by decide) rfl ?_
  intro p e s m args below meth c s₁ B hml hv
  obtain ⟨rfl, hP, hamb⟩ := hv
  have hx := B.exec
  have hb := B.bytes
  have hr := B.returns
  have hts := atoms_spec (ws := wsX7_hoursFault) B.pre
  have hown : s.vm.findClass RX7 = some m.cls := findClass_of_methodNamed B.named
  have hlocks := B.notSynchronized
  have hK := hamb.1
  obtain ⟨res, hf0⟩ : ∃ res, f_X7_hoursFault v0 p1 p2 p3 = res := ⟨_, rfl⟩
  have hf := hf0
  rw [f_X7_hoursFault] at hf
  have hl := lv_entry ([.ref (a 0), .int p1, .int p2, .int p3]) (n := 4) (Nat.le_of_ble_eq_true rfl)
  rw [lg_entry_eq]
  generalize (lg_sl ([.ref (a 0), .int p1, .int p2, .int p3]) ++ List.replicate (4 - (lg_sl ([.ref (a 0), .int p1, .int p2, .int p3])).length) Slot.unset).toArray = ls at hl ⊢
  have hl : lv_has ls 4 [(0, .ref (a 0)), (1, .int p1), (2, .int p2), (3, .int p3)] := hl
  refine lv_iload_n hx hb dX7_hoursFault_0 rfl (lv_at hl 1 rfl) ?_
  refine vp_callSi (W.runS (As := [.int p1]) (rest := []) ⟨hx, hb, hml, hown, hts⟩ (ok_X7_isMood l p1) (va_cwS 1 hts gX7_hoursFault_X7_isMood rfl rfl rfl (by decide +kernel) ⟨Nat.le_of_ble_eq_true rfl, Nat.le_of_ble_eq_true rfl⟩) ⟨fun _ _ _ _ q => q, fun _ _ _ => ⟨rfl, trivial⟩⟩ rfl rfl hl.1 rfl (lv_room (Nat.le_of_ble_eq_true rfl)) dX7_hoursFault_1 ⟨Nat.zero_le _, Nat.zero_le _⟩) (fun r1 hw => ?_)
  subst hw
  refine lv_if_ne (tgt := 9) hx hb dX7_hoursFault_4 (by decide) (fun c => ?_) (fun c => ?_)
  · have hf := it_2 hf c
    refine lv_iload_n hx hb dX7_hoursFault_9 rfl (lv_at hl 2 rfl) ?_
    refine lv_bipush (v := (-6)) hx hb dX7_hoursFault_10 (by decide) ?_
    refine lv_icmp_eq (tgt := 40) hx hb dX7_hoursFault_12 (by decide) (fun c => ?_) (fun c => ?_)
    · have hf := it_1 hf c
      refine lv_iconst (v := 0) hx hb dX7_hoursFault_40 (by decide) ?_
      refine lv_goto (tgt := 46) hx hb dX7_hoursFault_41 (by decide) ?_
      exact W.iret (v := 0) hx hb hr (fun t ht hW => ⟨0, rfl, hf.trans hf0.symm, ht⟩) (fun _ hq => absurd hq List.not_mem_nil) dX7_hoursFault_46
    · have hf := it_2 hf c
      refine lv_iload_n hx hb dX7_hoursFault_15 rfl (lv_at hl 2 rfl) ?_
      refine lv_iconst (v := 0) hx hb dX7_hoursFault_16 (by decide) ?_
      refine lv_bipush (v := 23) hx hb dX7_hoursFault_17 (by decide) ?_
      refine vp_callSi (W.runS (As := [.int p2, .int 0, .int 23]) (rest := []) ⟨hx, hb, hml, hown, hts⟩ (ok_X7_in l p2 0 23) (va_cwS 3 hts gX7_hoursFault_X7_in rfl rfl rfl (by decide +kernel) ⟨Nat.le_of_ble_eq_true rfl, Nat.le_of_ble_eq_true rfl⟩) ⟨fun _ _ _ _ q => q, fun _ _ _ => ⟨rfl, trivial⟩⟩ rfl rfl hl.1 rfl (lv_room (Nat.le_of_ble_eq_true rfl)) dX7_hoursFault_19 ⟨Nat.zero_le _, Nat.zero_le _⟩) (fun r19 hw => ?_)
      subst hw
      refine lv_if_eq (tgt := 44) hx hb dX7_hoursFault_22 (by decide) (fun c => ?_) (fun c => ?_)
      · have hf := it_1 hf c
        refine lv_bipush (v := (-2)) hx hb dX7_hoursFault_44 (by decide) ?_
        exact W.iret (v := (-2)) hx hb hr (fun t ht hW => ⟨(-2), rfl, hf.trans hf0.symm, ht⟩) (fun _ hq => absurd hq List.not_mem_nil) dX7_hoursFault_46
      · have hf := it_2 hf c
        refine lv_iload_n hx hb dX7_hoursFault_25 rfl (lv_at hl 3 rfl) ?_
        refine lv_iconst (v := 0) hx hb dX7_hoursFault_26 (by decide) ?_
        refine lv_bipush (v := 23) hx hb dX7_hoursFault_27 (by decide) ?_
        refine vp_callSi (W.runS (As := [.int p3, .int 0, .int 23]) (rest := []) ⟨hx, hb, hml, hown, hts⟩ (ok_X7_in l p3 0 23) (va_cwS 3 hts gX7_hoursFault_X7_in rfl rfl rfl (by decide +kernel) ⟨Nat.le_of_ble_eq_true rfl, Nat.le_of_ble_eq_true rfl⟩) ⟨fun _ _ _ _ q => q, fun _ _ _ => ⟨rfl, trivial⟩⟩ rfl rfl hl.1 rfl (lv_room (Nat.le_of_ble_eq_true rfl)) dX7_hoursFault_29 ⟨Nat.zero_le _, Nat.zero_le _⟩) (fun r29 hw => ?_)
        subst hw
        refine lv_if_eq (tgt := 44) hx hb dX7_hoursFault_32 (by decide) (fun c => ?_) (fun c => ?_)
        · have hf := it_1 hf c
          refine lv_bipush (v := (-2)) hx hb dX7_hoursFault_44 (by decide) ?_
          exact W.iret (v := (-2)) hx hb hr (fun t ht hW => ⟨(-2), rfl, hf.trans hf0.symm, ht⟩) (fun _ hq => absurd hq List.not_mem_nil) dX7_hoursFault_46
        · have hf := it_2 hf c
          refine lv_iload_n hx hb dX7_hoursFault_35 rfl (lv_at hl 2 rfl) ?_
          refine lv_iload_n hx hb dX7_hoursFault_36 rfl (lv_at hl 3 rfl) ?_
          refine lv_icmp_eq (tgt := 44) hx hb dX7_hoursFault_37 (by decide) (fun c => ?_) (fun c => ?_)
          · have hf := it_1 hf c
            refine lv_bipush (v := (-2)) hx hb dX7_hoursFault_44 (by decide) ?_
            exact W.iret (v := (-2)) hx hb hr (fun t ht hW => ⟨(-2), rfl, hf.trans hf0.symm, ht⟩) (fun _ hq => absurd hq List.not_mem_nil) dX7_hoursFault_46
          · have hf := it_2 hf c
            refine lv_iconst (v := 0) hx hb dX7_hoursFault_40 (by decide) ?_
            refine lv_goto (tgt := 46) hx hb dX7_hoursFault_41 (by decide) ?_
            exact W.iret (v := 0) hx hb hr (fun t ht hW => ⟨0, rfl, hf.trans hf0.symm, ht⟩) (fun _ hq => absurd hq List.not_mem_nil) dX7_hoursFault_46
  · have hf := it_1 hf c
    refine lv_iconst (v := (-1)) hx hb dX7_hoursFault_7 (by decide) ?_
    exact W.iret (v := (-1)) hx hb hr (fun t ht hW => ⟨(-1), rfl, hf.trans hf0.symm, ht⟩) (fun _ hq => absurd hq List.not_mem_nil) dX7_hoursFault_8
set_option maxHeartbeats 4000000 in
set_option maxRecDepth 100000 in
theorem ok_X7_putsHours (l : Launch) (G : Gt) (a : Nat → Nat) (sz : Nat) (v0 : DV) (p1 : Int32) (p2 : Int32) (p3 : Int32) (hne : f_X7_putsHours v0 p1 p2 p3 ≠ none) : Met l yX7_putsHours wsX7_putsHours ({ frames := 1, cells := 0, slots := 0, locals := 21 } : Room) (pcW G [.ref (a 0), .int p1, .int p2, .int p3] (modelC G.2 a v0) sz) (va_Qi (fun r (u : DV) => f_X7_putsHours v0 p1 p2 p3 = some (r, u)) (fun u t => atW G (modelC G.2 a u) (va_A (modelC G.2 a v0) sz) t) (va_A (modelC G.2 a v0) sz)) 0 0 (va_A (modelC G.2 a v0) sz) := by
  refine Met.ofW (cc := cX7_putsHours) (maxL := 5) (ret := (some .int)) (by decide) rfl ?_
  intro p e s m args below meth c s₁ B hml hv
  obtain ⟨rfl, hsz, hP, hD0, hamb⟩ := hv
  have hx := B.exec
  have hb := B.bytes
  have hr := B.returns
  have hts := atoms_spec (ws := wsX7_putsHours) B.pre
  have hown : s.vm.findClass RX7 = some m.cls := findClass_of_methodNamed B.named
  have hlocks := B.notSynchronized
  have hK := hamb.1
  subst hsz
  have hD := hD0.self (sz := s.heap.size)
  generalize hAe : va_A (modelC G.2 a v0) s.heap.size = A at hD ⊢
  have hA : ∀ q : Nat, s.heap.size ≤ q → A q := fun q h => by rw [← hAe]; exact Or.inr h
  have hS : va_S A s.heap s.heap [] := va_S.rf
  obtain ⟨res, hf0⟩ : ∃ res, f_X7_putsHours v0 p1 p2 p3 = res := ⟨_, rfl⟩
  have hne : res ≠ none := hf0 ▸ hne
  have hf := hf0
  rw [f_X7_putsHours] at hf
  have hinX7 : ∀ w ∈ u_ws RX7 TX7 16, w ∈ wsX7_putsHours := by decide +kernel
  have lk7 := hts (.fieldLink RX7 7 "MoodDrawersModel" "s" "[I") (by decide +kernel)
  have hl := lv_entry ([.ref (a 0), .int p1, .int p2, .int p3]) (n := 5) (Nat.le_of_ble_eq_true rfl)
  rw [lg_entry_eq]
  generalize (lg_sl ([.ref (a 0), .int p1, .int p2, .int p3]) ++ List.replicate (5 - (lg_sl ([.ref (a 0), .int p1, .int p2, .int p3])).length) Slot.unset).toArray = ls at hl ⊢
  have hl : lv_has ls 5 [(0, .ref (a 0)), (1, .int p1), (2, .int p2), (3, .int p3)] := hl
  have J20 : ∀ (v : DV) (x1 : Int32) (x2 : Int32) (x3 : Int32) (z0 : Int32) (H : Heap) (locs : List Loc) (ls : Array Slot), va_P G.1 vwCl (modelC G.2 a v) H → va_D A (modelC G.2 a v) → va_S A s.heap H locs → lv_has ls 5 [(0, .ref (a 0)), (1, .int x1), (2, .int x2), (3, .int x3)] → f_X7_putsHours_J20 v x1 x2 x3 z0 = res → W p l e (headSpec wsX7_putsHours ({ frames := 1, cells := 0, slots := 0, locals := 21 } : Room)).room s m ([.ref (a 0), .int p1, .int p2, .int p3] : List Value).toArray below meth c H locs 0 0 (MQ below (va_Qi (fun r (u : DV) => f_X7_putsHours v0 p1 p2 p3 = some (r, u)) (fun u t => atW G (modelC G.2 a u) A t) A) ([.ref (a 0), .int p1, .int p2, .int p3] : List Value).toArray s 0 0 A) (F0 m 20 ls [.int z0]) := by
    intro v x1 x2 x3 z0 H locs ls hP hD hS hl hf
    rw [f_X7_putsHours_J20] at hf
    refine lv_istore (lv' := [(4, .int z0), (0, .ref (a 0)), (1, .int x1), (2, .int x2), (3, .int x3)]) hx hb dX7_putsHours_20 hl (by decide) rfl (fun ls hl => ?_)
    refine lv_aload_n hx hb dX7_putsHours_22 rfl (lv_at hl 1 rfl) ?_
    refine va_get (D := G.1) (ci := 7) (v := .ref (a 1)) (C := RX7) (T := TX7) (N := 16) hx hb hts hinX7 hown hK hP 0 rfl rfl 0 (by decide) lk7 (fun _ h9 => h9) rfl dX7_putsHours_23 ?_
    refine lv_iload_n hx hb dX7_putsHours_26 rfl (lv_at hl 2 rfl) ?_
    refine lv_iconst (v := 2) hx hb dX7_putsHours_27 (by decide) ?_
    refine vp_callSi (W.runS (As := [.int x1, .int 2]) (rest := [.ref (a 1)]) ⟨hx, hb, hml, hown, hts⟩ (ok_X7_ofD l x1 2) (va_cwS 2 hts gX7_putsHours_X7_ofD rfl rfl rfl (by decide +kernel) ⟨Nat.le_of_ble_eq_true rfl, Nat.le_of_ble_eq_true rfl⟩) ⟨fun _ _ _ _ q => q, fun _ _ _ => ⟨rfl, trivial⟩⟩ rfl rfl hl.1 rfl (lv_room (Nat.le_of_ble_eq_true rfl)) dX7_putsHours_28 ⟨Nat.zero_le _, Nat.zero_le _⟩) (fun r28 hw => ?_)
    subst hw
    refine lv_iload_n hx hb dX7_putsHours_31 rfl (lv_at hl 3 rfl) ?_
    obtain ⟨hi, hf⟩ := ck_1 hf hne
    refine va_iast (f := (v 0)) hx hb hK hP hD hS 1 0 rfl rfl (ixb_1 hi) dX7_putsHours_32 (fun H locs hP hD hS => ?_)
    obtain ⟨v32, hv, hf⟩ := lt_1 hf
    have hP : va_P G.1 vwCl (modelC G.2 a v32) H := by rw [hv]; exact hP
    have hD : va_D A (modelC G.2 a v32) := by rw [hv]; exact hD
    clear hv
    refine lv_aload_n hx hb dX7_putsHours_33 rfl (lv_at hl 1 rfl) ?_
    refine va_get (D := G.1) (ci := 7) (v := .ref (a 1)) (C := RX7) (T := TX7) (N := 16) hx hb hts hinX7 hown hK hP 0 rfl rfl 0 (by decide) lk7 (fun _ h9 => h9) rfl dX7_putsHours_34 ?_
    refine lv_iload_n hx hb dX7_putsHours_37 rfl (lv_at hl 2 rfl) ?_
    refine lv_iconst (v := 3) hx hb dX7_putsHours_38 (by decide) ?_
    refine vp_callSi (W.runS (As := [.int x1, .int 3]) (rest := [.ref (a 1)]) ⟨hx, hb, hml, hown, hts⟩ (ok_X7_ofD l x1 3) (va_cwS 2 hts gX7_putsHours_X7_ofD rfl rfl rfl (by decide +kernel) ⟨Nat.le_of_ble_eq_true rfl, Nat.le_of_ble_eq_true rfl⟩) ⟨fun _ _ _ _ q => q, fun _ _ _ => ⟨rfl, trivial⟩⟩ rfl rfl hl.1 rfl (lv_room (Nat.le_of_ble_eq_true rfl)) dX7_putsHours_39 ⟨Nat.zero_le _, Nat.zero_le _⟩) (fun r39 hw => ?_)
    subst hw
    refine lv_iload_n hx hb dX7_putsHours_42 rfl (lv_at hl 3 rfl) ?_
    refine lv_bipush (v := (-6)) hx hb dX7_putsHours_43 (by decide) ?_
    refine lv_icmp_ne (tgt := 53) hx hb dX7_putsHours_45 (by decide) (fun c => ?_) (fun c => ?_)
    · have hf := it_2 hf c
      refine lv_iload_n hx hb dX7_putsHours_53 rfl (lv_at hl 4 rfl) ?_
      obtain ⟨hi, hf⟩ := ck_1 hf hne
      refine va_iast (f := (v32 0)) hx hb hK hP hD hS 1 0 rfl rfl (ixb_1 hi) dX7_putsHours_54 (fun H locs hP hD hS => ?_)
      obtain ⟨v54, hv, hf⟩ := lt_1 hf
      have hP : va_P G.1 vwCl (modelC G.2 a v54) H := by rw [hv]; exact hP
      have hD : va_D A (modelC G.2 a v54) := by rw [hv]; exact hD
      clear hv
      refine lv_iload hx hb dX7_putsHours_55 (lv_at hl 0 rfl) ?_
      exact W.iret (v := z0) hx hb hr (fun t ht hW => ⟨⟨z0, v54, rfl, hf0.trans hf.symm, by rw [ht]; exact hP, hD⟩, hS.F ht⟩) hS.2.2 dX7_putsHours_57
    · have hf := it_1 hf c
      refine lv_bipush (v := (-6)) hx hb dX7_putsHours_48 (by decide) ?_
      refine lv_goto (tgt := 54) hx hb dX7_putsHours_50 (by decide) ?_
      obtain ⟨hi, hf⟩ := ck_1 hf hne
      refine va_iast (f := (v32 0)) hx hb hK hP hD hS 1 0 rfl rfl (ixb_1 hi) dX7_putsHours_54 (fun H locs hP hD hS => ?_)
      obtain ⟨v54, hv, hf⟩ := lt_1 hf
      have hP : va_P G.1 vwCl (modelC G.2 a v54) H := by rw [hv]; exact hP
      have hD : va_D A (modelC G.2 a v54) := by rw [hv]; exact hD
      clear hv
      refine lv_iload hx hb dX7_putsHours_55 (lv_at hl 0 rfl) ?_
      exact W.iret (v := z0) hx hb hr (fun t ht hW => ⟨⟨z0, v54, rfl, hf0.trans hf.symm, by rw [ht]; exact hP, hD⟩, hS.F ht⟩) hS.2.2 dX7_putsHours_57
  refine lv_aload_n hx hb dX7_putsHours_0 rfl (lv_at hl 0 rfl) ?_
  refine va_get (D := G.1) (ci := 7) (v := .ref (a 1)) (C := RX7) (T := TX7) (N := 16) hx hb hts hinX7 hown hK hP 0 rfl rfl 0 (by decide) lk7 (fun _ h9 => h9) rfl dX7_putsHours_1 ?_
  refine lv_iload_n hx hb dX7_putsHours_4 rfl (lv_at hl 1 rfl) ?_
  refine lv_iconst (v := 2) hx hb dX7_putsHours_5 (by decide) ?_
  refine vp_callSi (W.runS (As := [.int p1, .int 2]) (rest := [.ref (a 1)]) ⟨hx, hb, hml, hown, hts⟩ (ok_X7_ofD l p1 2) (va_cwS 2 hts gX7_putsHours_X7_ofD rfl rfl rfl (by decide +kernel) ⟨Nat.le_of_ble_eq_true rfl, Nat.le_of_ble_eq_true rfl⟩) ⟨fun _ _ _ _ q => q, fun _ _ _ => ⟨rfl, trivial⟩⟩ rfl rfl hl.1 rfl (lv_room (Nat.le_of_ble_eq_true rfl)) dX7_putsHours_6 ⟨Nat.zero_le _, Nat.zero_le _⟩) (fun r6 hw => ?_)
  subst hw
  obtain ⟨hi, hf⟩ := ck_1 hf hne
  refine va_iald (f := (v0 0)) hx hb hK hP 1 0 rfl rfl (ixb_1 hi) dX7_putsHours_9 ?_
  refine lv_bipush (v := (-6)) hx hb dX7_putsHours_10 (by decide) ?_
  refine lv_icmp_ne (tgt := 19) hx hb dX7_putsHours_12 (by decide) (fun c => ?_) (fun c => ?_)
  · have hf := it_2 hf c
    refine lv_iconst (v := 1) hx hb dX7_putsHours_19 (by decide) ?_
    exact J20 v0 p1 p2 p3 1 s.heap [] ls hP hD hS (lv_sub hl [0, 1, 2, 3] rfl) hf
  · have hf := it_1 hf c
    refine lv_iconst (v := 0) hx hb dX7_putsHours_15 (by decide) ?_
    refine lv_goto (tgt := 20) hx hb dX7_putsHours_16 (by decide) ?_
    exact J20 v0 p1 p2 p3 0 s.heap [] ls hP hD hS (lv_sub hl [0, 1, 2, 3] rfl) hf
set_option maxHeartbeats 4000000 in
set_option maxRecDepth 100000 in
theorem ok_X7_burnFault (l : Launch) (G : Gt) (a : Nat → Nat) (v0 : DV) (p1 : Int32) (hne : f_X7_burnFault v0 p1 ≠ none) : Met l yX7_burnFault wsX7_burnFault ({ frames := 2, cells := 0, slots := 0, locals := 43 } : Room) (pcR G [.ref (a 0), .int p1] (modelC G.2 a v0)) (vp_Si (fun r => f_X7_burnFault v0 p1 = some r)) 0 0 (fun _ => False) := by
  refine Met.ofW (cc := cX7_burnFault) (maxL := 2) (ret := (some .int)) (by decide) rfl ?_
  intro p e s m args below meth c s₁ B hml hv
  obtain ⟨rfl, hP, hamb⟩ := hv
  have hx := B.exec
  have hb := B.bytes
  have hr := B.returns
  have hts := atoms_spec (ws := wsX7_burnFault) B.pre
  have hown : s.vm.findClass RX7 = some m.cls := findClass_of_methodNamed B.named
  have hlocks := B.notSynchronized
  have hK := hamb.1
  obtain ⟨res, hf0⟩ : ∃ res, f_X7_burnFault v0 p1 = res := ⟨_, rfl⟩
  have hne : res ≠ none := hf0 ▸ hne
  have hf := hf0
  rw [f_X7_burnFault] at hf
  have hinX7 : ∀ w ∈ u_ws RX7 TX7 16, w ∈ wsX7_burnFault := by decide +kernel
  have lk7 := hts (.fieldLink RX7 7 "MoodDrawersModel" "s" "[I") (by decide +kernel)
  have hl := lv_entry ([.ref (a 0), .int p1]) (n := 2) (Nat.le_of_ble_eq_true rfl)
  rw [lg_entry_eq]
  generalize (lg_sl ([.ref (a 0), .int p1]) ++ List.replicate (2 - (lg_sl ([.ref (a 0), .int p1])).length) Slot.unset).toArray = ls at hl ⊢
  have hl : lv_has ls 2 [(0, .ref (a 0)), (1, .int p1)] := hl
  refine lv_aload_n hx hb dX7_burnFault_0 rfl (lv_at hl 0 rfl) ?_
  refine lv_iload_n hx hb dX7_burnFault_1 rfl (lv_at hl 1 rfl) ?_
  have hn := bd1_1 hf hne
  refine vp_callSi (W.runV (As := [.int p1]) (rest := []) ⟨hx, hb, hml, hown, hts⟩ (ok_X7_isLetter l G a v0 p1 hn) (cwV 1 hts gX7_burnFault_X7_isLetter rfl rfl rfl (by decide +kernel) ⟨Nat.le_of_ble_eq_true rfl, Nat.le_of_ble_eq_true rfl⟩) ⟨pcR_blind, va_recv hK hP (ci := 7) (q0 := 0) rfl rfl, pcR_pre hP hamb⟩ rfl rfl hl.1 rfl (lv_room (Nat.le_of_ble_eq_true rfl)) dX7_burnFault_2 ⟨Nat.zero_le _, Nat.zero_le _⟩) (fun r2 hw => ?_)
  have hf := bd1_2 hf hw
  refine lv_if_ne (tgt := 12) hx hb dX7_burnFault_5 (by decide) (fun c => ?_) (fun c => ?_)
  · have hf := it_2 hf c
    refine lv_aload_n hx hb dX7_burnFault_12 rfl (lv_at hl 0 rfl) ?_
    refine va_get (D := G.1) (ci := 7) (v := .ref (a 1)) (C := RX7) (T := TX7) (N := 16) hx hb hts hinX7 hown hK hP 0 rfl rfl 0 (by decide) lk7 (fun _ h9 => h9) rfl dX7_burnFault_13 ?_
    refine lv_iload_n hx hb dX7_burnFault_16 rfl (lv_at hl 1 rfl) ?_
    refine lv_iconst (v := 3) hx hb dX7_burnFault_17 (by decide) ?_
    refine vp_callSi (W.runS (As := [.int p1, .int 3]) (rest := [.ref (a 1)]) ⟨hx, hb, hml, hown, hts⟩ (ok_X7_ofL l p1 3) (va_cwS 2 hts gX7_burnFault_X7_ofL rfl rfl rfl (by decide +kernel) ⟨Nat.le_of_ble_eq_true rfl, Nat.le_of_ble_eq_true rfl⟩) ⟨fun _ _ _ _ q => q, fun _ _ _ => ⟨rfl, trivial⟩⟩ rfl rfl hl.1 rfl (lv_room (Nat.le_of_ble_eq_true rfl)) dX7_burnFault_18 ⟨Nat.zero_le _, Nat.zero_le _⟩) (fun r18 hw => ?_)
    subst hw
    obtain ⟨hi, hf⟩ := ck_1 hf hne
    refine va_iald (f := (v0 0)) hx hb hK hP 1 0 rfl rfl (ixb_1 hi) dX7_burnFault_21 ?_
    refine lv_if_ne (tgt := 48) hx hb dX7_burnFault_22 (by decide) (fun c => ?_) (fun c => ?_)
    · have hf := it_2 hf c
      refine lv_bipush (v := (-5)) hx hb dX7_burnFault_48 (by decide) ?_
      refine lv_goto (tgt := 54) hx hb dX7_burnFault_50 (by decide) ?_
      exact W.iret (v := (-5)) hx hb hr (fun t ht hW => ⟨(-5), rfl, hf0.trans hf.symm, ht⟩) (fun _ hq => absurd hq List.not_mem_nil) dX7_burnFault_54
    · have hf := it_1 hf c
      refine lv_aload_n hx hb dX7_burnFault_25 rfl (lv_at hl 0 rfl) ?_
      refine va_get (D := G.1) (ci := 7) (v := .ref (a 1)) (C := RX7) (T := TX7) (N := 16) hx hb hts hinX7 hown hK hP 0 rfl rfl 0 (by decide) lk7 (fun _ h9 => h9) rfl dX7_burnFault_26 ?_
      refine lv_aload_n hx hb dX7_burnFault_29 rfl (lv_at hl 0 rfl) ?_
      refine va_get (D := G.1) (ci := 7) (v := .ref (a 1)) (C := RX7) (T := TX7) (N := 16) hx hb hts hinX7 hown hK hP 0 rfl rfl 0 (by decide) lk7 (fun _ h9 => h9) rfl dX7_burnFault_30 ?_
      refine lv_iload_n hx hb dX7_burnFault_33 rfl (lv_at hl 1 rfl) ?_
      refine lv_iconst (v := 0) hx hb dX7_burnFault_34 (by decide) ?_
      refine vp_callSi (W.runS (As := [.int p1, .int 0]) (rest := [.ref (a 1), .ref (a 1)]) ⟨hx, hb, hml, hown, hts⟩ (ok_X7_ofL l p1 0) (va_cwS 2 hts gX7_burnFault_X7_ofL rfl rfl rfl (by decide +kernel) ⟨Nat.le_of_ble_eq_true rfl, Nat.le_of_ble_eq_true rfl⟩) ⟨fun _ _ _ _ q => q, fun _ _ _ => ⟨rfl, trivial⟩⟩ rfl rfl hl.1 rfl (lv_room (Nat.le_of_ble_eq_true rfl)) dX7_burnFault_35 ⟨Nat.zero_le _, Nat.zero_le _⟩) (fun r35 hw => ?_)
      subst hw
      obtain ⟨hi, hf⟩ := ck_1 hf hne
      refine va_iald (f := (v0 0)) hx hb hK hP 1 0 rfl rfl (ixb_1 hi) dX7_burnFault_38 ?_
      refine lv_iconst (v := 0) hx hb dX7_burnFault_39 (by decide) ?_
      refine vp_callSi (W.runS (As := [.int ((v0 0) (Int32.toNatClampNeg (f_X7_ofL p1 0))), .int 0]) (rest := [.ref (a 1)]) ⟨hx, hb, hml, hown, hts⟩ (ok_X7_ofD l ((v0 0) (Int32.toNatClampNeg (f_X7_ofL p1 0))) 0) (va_cwS 2 hts gX7_burnFault_X7_ofD rfl rfl rfl (by decide +kernel) ⟨Nat.le_of_ble_eq_true rfl, Nat.le_of_ble_eq_true rfl⟩) ⟨fun _ _ _ _ q => q, fun _ _ _ => ⟨rfl, trivial⟩⟩ rfl rfl hl.1 rfl (lv_room (Nat.le_of_ble_eq_true rfl)) dX7_burnFault_40 ⟨Nat.zero_le _, Nat.zero_le _⟩) (fun r40 hw => ?_)
      subst hw
      obtain ⟨hi, hf⟩ := ck_1 hf hne
      refine va_iald (f := (v0 0)) hx hb hK hP 1 0 rfl rfl (ixb_1 hi) dX7_burnFault_43 ?_
      refine lv_iconst (v := 1) hx hb dX7_burnFault_44 (by decide) ?_
      refine lv_icmp_ne (tgt := 53) hx hb dX7_burnFault_45 (by decide) (fun c => ?_) (fun c => ?_)
      · have hf := it_2 hf c
        refine lv_iconst (v := 0) hx hb dX7_burnFault_53 (by decide) ?_
        exact W.iret (v := 0) hx hb hr (fun t ht hW => ⟨0, rfl, hf0.trans hf.symm, ht⟩) (fun _ hq => absurd hq List.not_mem_nil) dX7_burnFault_54
      · have hf := it_1 hf c
        refine lv_bipush (v := (-5)) hx hb dX7_burnFault_48 (by decide) ?_
        refine lv_goto (tgt := 54) hx hb dX7_burnFault_50 (by decide) ?_
        exact W.iret (v := (-5)) hx hb hr (fun t ht hW => ⟨(-5), rfl, hf0.trans hf.symm, ht⟩) (fun _ hq => absurd hq List.not_mem_nil) dX7_burnFault_54
  · have hf := it_1 hf c
    refine lv_iconst (v := (-1)) hx hb dX7_burnFault_8 (by decide) ?_
    refine lv_goto (tgt := 54) hx hb dX7_burnFault_9 (by decide) ?_
    exact W.iret (v := (-1)) hx hb hr (fun t ht hW => ⟨(-1), rfl, hf0.trans hf.symm, ht⟩) (fun _ hq => absurd hq List.not_mem_nil) dX7_burnFault_54
set_option maxHeartbeats 4000000 in
set_option maxRecDepth 100000 in
theorem ok_X7_burns (l : Launch) (G : Gt) (a : Nat → Nat) (sz : Nat) (v0 : DV) (p1 : Int32) (hne : f_X7_burns v0 p1 ≠ none) : Met l yX7_burns wsX7_burns ({ frames := 2, cells := 0, slots := 0, locals := 43 } : Room) (pcW G [.ref (a 0), .int p1] (modelC G.2 a v0) sz) (va_Qi (fun r (u : DV) => f_X7_burns v0 p1 = some (r, u)) (fun u t => atW G (modelC G.2 a u) (va_A (modelC G.2 a v0) sz) t) (va_A (modelC G.2 a v0) sz)) 0 0 (va_A (modelC G.2 a v0) sz) := by
  refine Met.ofW (cc := cX7_burns) (maxL := 2) (ret := (some .int)) (by decide) rfl ?_
  intro p e s m args below meth c s₁ B hml hv
  obtain ⟨rfl, hsz, hP, hD0, hamb⟩ := hv
  have hx := B.exec
  have hb := B.bytes
  have hr := B.returns
  have hts := atoms_spec (ws := wsX7_burns) B.pre
  have hown : s.vm.findClass RX7 = some m.cls := findClass_of_methodNamed B.named
  have hlocks := B.notSynchronized
  have hK := hamb.1
  subst hsz
  have hD := hD0.self (sz := s.heap.size)
  generalize hAe : va_A (modelC G.2 a v0) s.heap.size = A at hD ⊢
  have hA : ∀ q : Nat, s.heap.size ≤ q → A q := fun q h => by rw [← hAe]; exact Or.inr h
  have hS : va_S A s.heap s.heap [] := va_S.rf
  obtain ⟨res, hf0⟩ : ∃ res, f_X7_burns v0 p1 = res := ⟨_, rfl⟩
  have hne : res ≠ none := hf0 ▸ hne
  have hf := hf0
  rw [f_X7_burns] at hf
  have hinX7 : ∀ w ∈ u_ws RX7 TX7 16, w ∈ wsX7_burns := by decide +kernel
  have lk7 := hts (.fieldLink RX7 7 "MoodDrawersModel" "s" "[I") (by decide +kernel)
  have hl := lv_entry ([.ref (a 0), .int p1]) (n := 2) (Nat.le_of_ble_eq_true rfl)
  rw [lg_entry_eq]
  generalize (lg_sl ([.ref (a 0), .int p1]) ++ List.replicate (2 - (lg_sl ([.ref (a 0), .int p1])).length) Slot.unset).toArray = ls at hl ⊢
  have hl : lv_has ls 2 [(0, .ref (a 0)), (1, .int p1)] := hl
  refine lv_aload_n hx hb dX7_burns_0 rfl (lv_at hl 0 rfl) ?_
  refine va_get (D := G.1) (ci := 7) (v := .ref (a 1)) (C := RX7) (T := TX7) (N := 16) hx hb hts hinX7 hown hK hP 0 rfl rfl 0 (by decide) lk7 (fun _ h9 => h9) rfl dX7_burns_1 ?_
  refine lv_iload_n hx hb dX7_burns_4 rfl (lv_at hl 1 rfl) ?_
  refine lv_iconst (v := 3) hx hb dX7_burns_5 (by decide) ?_
  refine vp_callSi (W.runS (As := [.int p1, .int 3]) (rest := [.ref (a 1)]) ⟨hx, hb, hml, hown, hts⟩ (ok_X7_ofL l p1 3) (va_cwS 2 hts gX7_burns_X7_ofL rfl rfl rfl (by decide +kernel) ⟨Nat.le_of_ble_eq_true rfl, Nat.le_of_ble_eq_true rfl⟩) ⟨fun _ _ _ _ q => q, fun _ _ _ => ⟨rfl, trivial⟩⟩ rfl rfl hl.1 rfl (lv_room (Nat.le_of_ble_eq_true rfl)) dX7_burns_6 ⟨Nat.zero_le _, Nat.zero_le _⟩) (fun r6 hw => ?_)
  subst hw
  refine lv_iconst (v := 2) hx hb dX7_burns_9 (by decide) ?_
  obtain ⟨hi, hf⟩ := ck_1 hf hne
  refine va_iast (f := (v0 0)) hx hb hK hP hD hS 1 0 rfl rfl (ixb_1 hi) dX7_burns_10 (fun H locs hP hD hS => ?_)
  obtain ⟨v10, hv, hf⟩ := lt_1 hf
  have hP : va_P G.1 vwCl (modelC G.2 a v10) H := by rw [hv]; exact hP
  have hD : va_D A (modelC G.2 a v10) := by rw [hv]; exact hD
  clear hv
  refine lv_aload_n hx hb dX7_burns_11 rfl (lv_at hl 0 rfl) ?_
  refine lv_iload_n hx hb dX7_burns_12 rfl (lv_at hl 1 rfl) ?_
  have hn := bd1_1 hf hne
  refine vp_callSi (W.runV (As := [.int p1]) (rest := []) ⟨hx, hb, hml, hown, hts⟩ (ok_X7_heat l G a v10 p1 hn) (cwV 1 hts gX7_burns_X7_heat rfl rfl rfl (by decide +kernel) ⟨Nat.le_of_ble_eq_true rfl, Nat.le_of_ble_eq_true rfl⟩) ⟨pcR_blind, va_recv hK hP (ci := 7) (q0 := 0) rfl rfl, pcR_pre hP hamb⟩ rfl rfl hl.1 rfl (lv_room (Nat.le_of_ble_eq_true rfl)) dX7_burns_13 ⟨Nat.zero_le _, Nat.zero_le _⟩) (fun r13 hw => ?_)
  have hf := bd1_2 hf hw
  exact W.iret (v := r13) hx hb hr (fun t ht hW => ⟨⟨r13, v10, rfl, hf0.trans hf.symm, by rw [ht]; exact hP, hD⟩, hS.F ht⟩) hS.2.2 dX7_burns_16
set_option maxHeartbeats 4000000 in
set_option maxRecDepth 100000 in
theorem ok_X7_passFault (l : Launch) (G : Gt) (a : Nat → Nat) (v0 : DV) (p1 : Int32) (hne : f_X7_passFault v0 p1 ≠ none) : Met l yX7_passFault wsX7_passFault ({ frames := 1, cells := 0, slots := 0, locals := 22 } : Room) (pcR G [.ref (a 0), .int p1] (modelC G.2 a v0)) (vp_Si (fun r => f_X7_passFault v0 p1 = some r)) 0 0 (fun _ => False) := by
  refine Met.ofW (cc := cX7_passFault) (maxL := 2) (ret := (some .int)) (by decide) rfl ?_
  intro p e s m args below meth c s₁ B hml hv
  obtain ⟨rfl, hP, hamb⟩ := hv
  have hx := B.exec
  have hb := B.bytes
  have hr := B.returns
  have hts := atoms_spec (ws := wsX7_passFault) B.pre
  have hown : s.vm.findClass RX7 = some m.cls := findClass_of_methodNamed B.named
  have hlocks := B.notSynchronized
  have hK := hamb.1
  obtain ⟨res, hf0⟩ : ∃ res, f_X7_passFault v0 p1 = res := ⟨_, rfl⟩
  have hne : res ≠ none := hf0 ▸ hne
  have hf := hf0
  rw [f_X7_passFault] at hf
  have hinX7 : ∀ w ∈ u_ws RX7 TX7 16, w ∈ wsX7_passFault := by decide +kernel
  have lk7 := hts (.fieldLink RX7 7 "MoodDrawersModel" "s" "[I") (by decide +kernel)
  have hl := lv_entry ([.ref (a 0), .int p1]) (n := 2) (Nat.le_of_ble_eq_true rfl)
  rw [lg_entry_eq]
  generalize (lg_sl ([.ref (a 0), .int p1]) ++ List.replicate (2 - (lg_sl ([.ref (a 0), .int p1])).length) Slot.unset).toArray = ls at hl ⊢
  have hl : lv_has ls 2 [(0, .ref (a 0)), (1, .int p1)] := hl
  refine lv_iload_n hx hb dX7_passFault_0 rfl (lv_at hl 1 rfl) ?_
  refine lv_iconst (v := 1) hx hb dX7_passFault_1 (by decide) ?_
  refine lv_sipush (v := 240) hx hb dX7_passFault_2 (by decide) ?_
  refine vp_callSi (W.runS (As := [.int p1, .int 1, .int 240]) (rest := []) ⟨hx, hb, hml, hown, hts⟩ (ok_X7_in l p1 1 240) (va_cwS 3 hts gX7_passFault_X7_in rfl rfl rfl (by decide +kernel) ⟨Nat.le_of_ble_eq_true rfl, Nat.le_of_ble_eq_true rfl⟩) ⟨fun _ _ _ _ q => q, fun _ _ _ => ⟨rfl, trivial⟩⟩ rfl rfl hl.1 rfl (lv_room (Nat.le_of_ble_eq_true rfl)) dX7_passFault_5 ⟨Nat.zero_le _, Nat.zero_le _⟩) (fun r5 hw => ?_)
  subst hw
  refine lv_if_ne (tgt := 16) hx hb dX7_passFault_8 (by decide) (fun c => ?_) (fun c => ?_)
  · have hf := it_2 hf c
    refine lv_aload_n hx hb dX7_passFault_16 rfl (lv_at hl 0 rfl) ?_
    refine va_get (D := G.1) (ci := 7) (v := .ref (a 1)) (C := RX7) (T := TX7) (N := 16) hx hb hts hinX7 hown hK hP 0 rfl rfl 0 (by decide) lk7 (fun _ h9 => h9) rfl dX7_passFault_17 ?_
    refine lv_iconst (v := 3) hx hb dX7_passFault_20 (by decide) ?_
    refine va_iald (f := (v0 0)) hx hb hK hP 1 0 rfl rfl (ixb_1 (show ixb 3 240 = true from rfl)) dX7_passFault_21 ?_
    refine lv_aload_n hx hb dX7_passFault_22 rfl (lv_at hl 0 rfl) ?_
    refine va_get (D := G.1) (ci := 7) (v := .ref (a 1)) (C := RX7) (T := TX7) (N := 16) hx hb hts hinX7 hown hK hP 0 rfl rfl 0 (by decide) lk7 (fun _ h9 => h9) rfl dX7_passFault_23 ?_
    refine lv_iconst (v := 4) hx hb dX7_passFault_26 (by decide) ?_
    refine va_iald (f := (v0 0)) hx hb hK hP 1 0 rfl rfl (ixb_1 (show ixb 4 240 = true from rfl)) dX7_passFault_27 ?_
    refine lv_iload_n hx hb dX7_passFault_28 rfl (lv_at hl 1 rfl) ?_
    refine lv_iadd hx hb dX7_passFault_29 ?_
    refine lv_bipush (v := 24) hx hb dX7_passFault_30 (by decide) ?_
    refine lv_idiv hx hb dX7_passFault_32 (by decide) ?_
    refine lv_iadd hx hb dX7_passFault_33 ?_
    refine lv_sipush (v := 999) hx hb dX7_passFault_34 (by decide) ?_
    refine lv_icmp_le (tgt := 45) hx hb dX7_passFault_37 (by decide) (fun c => ?_) (fun c => ?_)
    · have hf := it_1 hf c
      refine lv_iconst (v := 0) hx hb dX7_passFault_45 (by decide) ?_
      exact W.iret (v := 0) hx hb hr (fun t ht hW => ⟨0, rfl, hf0.trans hf.symm, ht⟩) (fun _ hq => absurd hq List.not_mem_nil) dX7_passFault_46
    · have hf := it_2 hf c
      refine lv_bipush (v := (-5)) hx hb dX7_passFault_40 (by decide) ?_
      refine lv_goto (tgt := 46) hx hb dX7_passFault_42 (by decide) ?_
      exact W.iret (v := (-5)) hx hb hr (fun t ht hW => ⟨(-5), rfl, hf0.trans hf.symm, ht⟩) (fun _ hq => absurd hq List.not_mem_nil) dX7_passFault_46
  · have hf := it_1 hf c
    refine lv_bipush (v := (-2)) hx hb dX7_passFault_11 (by decide) ?_
    refine lv_goto (tgt := 46) hx hb dX7_passFault_13 (by decide) ?_
    exact W.iret (v := (-2)) hx hb hr (fun t ht hW => ⟨(-2), rfl, hf0.trans hf.symm, ht⟩) (fun _ hq => absurd hq List.not_mem_nil) dX7_passFault_46
set_option maxHeartbeats 4000000 in
set_option maxRecDepth 100000 in
theorem ok_X7_passes (l : Launch) (G : Gt) (a : Nat → Nat) (sz : Nat) (n0 : Nat) (v0 : DV) (p1 : Int32) (hne : f_X7_passes n0 v0 p1 ≠ none) : Met l yX7_passes wsX7_passes ({ frames := 4, cells := 0, slots := 0, locals := 87 } : Room) (pcW G [.ref (a 0), .int p1] (modelC G.2 a v0) sz) (va_Qi (fun r (u : DV) => f_X7_passes n0 v0 p1 = some (r, u)) (fun u t => atW G (modelC G.2 a u) (va_A (modelC G.2 a v0) sz) t) (va_A (modelC G.2 a v0) sz)) 0 0 (va_A (modelC G.2 a v0) sz) := by
  refine Met.ofW (cc := cX7_passes) (maxL := 4) (ret := (some .int)) (by decide) rfl ?_
  intro p e s m args below meth c s₁ B hml hv
  obtain ⟨rfl, hsz, hP, hD0, hamb⟩ := hv
  have hx := B.exec
  have hb := B.bytes
  have hr := B.returns
  have hts := atoms_spec (ws := wsX7_passes) B.pre
  have hown : s.vm.findClass RX7 = some m.cls := findClass_of_methodNamed B.named
  have hlocks := B.notSynchronized
  have hK := hamb.1
  subst hsz
  have hD := hD0.self (sz := s.heap.size)
  generalize hAe : va_A (modelC G.2 a v0) s.heap.size = A at hD ⊢
  have hA : ∀ q : Nat, s.heap.size ≤ q → A q := fun q h => by rw [← hAe]; exact Or.inr h
  have hS : va_S A s.heap s.heap [] := va_S.rf
  obtain ⟨res, hf0⟩ : ∃ res, f_X7_passes n0 v0 p1 = res := ⟨_, rfl⟩
  have hne : res ≠ none := hf0 ▸ hne
  have hf := hf0
  rw [f_X7_passes] at hf
  have hl := lv_entry ([.ref (a 0), .int p1]) (n := 4) (Nat.le_of_ble_eq_true rfl)
  rw [lg_entry_eq]
  generalize (lg_sl ([.ref (a 0), .int p1]) ++ List.replicate (4 - (lg_sl ([.ref (a 0), .int p1])).length) Slot.unset).toArray = ls at hl ⊢
  have hl : lv_has ls 4 [(0, .ref (a 0)), (1, .int p1)] := hl
  have L10 : ∀ (n : Nat) (v : DV) (x1 : Int32) (x2 : Int32) (x3 : Int32) (H : Heap) (locs : List Loc) (ls : Array Slot), va_P G.1 vwCl (modelC G.2 a v) H → va_D A (modelC G.2 a v) → va_S A s.heap H locs → lv_has ls 4 [(0, .ref (a 0)), (1, .int x1), (2, .int x2), (3, .int x3)] → f_X7_passes_L10 n v x1 x2 x3 = res → W p l e (headSpec wsX7_passes ({ frames := 4, cells := 0, slots := 0, locals := 87 } : Room)).room s m ([.ref (a 0), .int p1] : List Value).toArray below meth c H locs 0 0 (MQ below (va_Qi (fun r (u : DV) => f_X7_passes n0 v0 p1 = some (r, u)) (fun u t => atW G (modelC G.2 a u) A t) A) ([.ref (a 0), .int p1] : List Value).toArray s 0 0 A) (F0 m 10 ls []) := by
    intro n
    induction n with
    | zero => intro v x1 x2 x3 H locs ls hP hD hS hl hf; exact (none_1 hf hne).elim
    | succ n ih =>
      intro v x1 x2 x3 H locs ls hP hD hS hl hf
      rw [f_X7_passes_L10] at hf
      refine lv_iload_n hx hb dX7_passes_10 rfl (lv_at hl 3 rfl) ?_
      refine lv_iload_n hx hb dX7_passes_11 rfl (lv_at hl 1 rfl) ?_
      refine lv_icmp_ge (tgt := 25) hx hb dX7_passes_12 (by decide) (fun c => ?_) (fun c => ?_)
      · have hf := it_1 hf c
        refine lv_aload_n hx hb dX7_passes_25 rfl (lv_at hl 0 rfl) ?_
        refine lv_bipush (v := 6) hx hb dX7_passes_26 (by decide) ?_
        refine lv_iconst (v := 1) hx hb dX7_passes_28 (by decide) ?_
        have hn := bd1_1 hf hne
        refine vp_callSi (W.runV (As := [.int 6, .int 1]) (rest := []) ⟨hx, hb, hml, hown, hts⟩ (ok_X7_many l G a n v 6 1 hn) (cwV 2 hts gX7_passes_X7_many rfl rfl rfl (by decide +kernel) ⟨Nat.le_of_ble_eq_true rfl, Nat.le_of_ble_eq_true rfl⟩) ⟨pcR_blind, va_recv hK hP (ci := 7) (q0 := 0) rfl rfl, pcR_pre hP hamb⟩ rfl rfl hl.1 rfl (lv_room (Nat.le_of_ble_eq_true rfl)) dX7_passes_29 ⟨Nat.zero_le _, Nat.zero_le _⟩) (fun r29 hw => ?_)
        have hf := bd1_2 hf hw
        refine lv_iload_n hx hb dX7_passes_32 rfl (lv_at hl 2 rfl) ?_
        refine lv_isub hx hb dX7_passes_33 ?_
        exact W.iret (v := (r29 - x2)) hx hb hr (fun t ht hW => ⟨⟨(r29 - x2), v, rfl, hf0.trans hf.symm, by rw [ht]; exact hP, hD⟩, hS.F ht⟩) hS.2.2 dX7_passes_34
      · have hf := it_2 hf c
        refine lv_aload_n hx hb dX7_passes_15 rfl (lv_at hl 0 rfl) ?_
        have hn := bd1_1 hf hne
        refine cwv (va_runV (As := []) (rest := []) ⟨hx, hb, hml, hown, hts⟩ (ok_X7_hour l G a H.size n v hn) (cwV 0 hts gX7_passes_X7_hour rfl rfl rfl (by decide +kernel) ⟨Nat.le_of_ble_eq_true rfl, Nat.le_of_ble_eq_true rfl⟩) ⟨pcW_blind, va_recv hK hP (ci := 7) (q0 := 0) rfl rfl, pcW_pre hP hD hamb⟩ rfl rfl hl.1 rfl (lv_room (Nat.le_of_ble_eq_true rfl)) dX7_passes_16 ⟨Nat.zero_le _, Nat.zero_le _⟩) (wr := []) hP hD hS hA [0, 1, 2, 3, 4, 5, 6, 7, 8] [] rfl rfl (by decide) (by decide) (fun v16 H locs hw hP hD hS => ?_)
        have hf := bd1_2 hf hw
        have hP : va_P G.1 vwCl (modelC G.2 a v16) H := hP
        have hD : va_D A (modelC G.2 a v16) := hD
        refine lv_iinc (v := (x3 + 1)) (lv' := [(3, .int (x3 + 1)), (0, .ref (a 0)), (1, .int x1), (2, .int x2)]) hx hb dX7_passes_19 hl (k := 3) rfl rfl (by decide) rfl (fun ls hl => ?_)
        refine lv_goto (tgt := 10) hx hb dX7_passes_22 (by decide) ?_
        exact ih v16 x1 x2 (x3 + 1) H locs ls hP hD hS (lv_sub hl [1, 2, 3, 0] rfl) hf
  refine lv_aload_n hx hb dX7_passes_0 rfl (lv_at hl 0 rfl) ?_
  refine lv_bipush (v := 6) hx hb dX7_passes_1 (by decide) ?_
  refine lv_iconst (v := 1) hx hb dX7_passes_3 (by decide) ?_
  have hn := bd1_1 hf hne
  refine vp_callSi (W.runV (As := [.int 6, .int 1]) (rest := []) ⟨hx, hb, hml, hown, hts⟩ (ok_X7_many l G a n0 v0 6 1 hn) (cwV 2 hts gX7_passes_X7_many rfl rfl rfl (by decide +kernel) ⟨Nat.le_of_ble_eq_true rfl, Nat.le_of_ble_eq_true rfl⟩) ⟨pcR_blind, va_recv hK hP (ci := 7) (q0 := 0) rfl rfl, pcR_pre hP hamb⟩ rfl rfl hl.1 rfl (lv_room (Nat.le_of_ble_eq_true rfl)) dX7_passes_4 ⟨Nat.zero_le _, Nat.zero_le _⟩) (fun r4 hw => ?_)
  have hf := bd1_2 hf hw
  refine lv_istore_n (lv' := [(2, .int r4), (0, .ref (a 0)), (1, .int p1)]) hx hb dX7_passes_7 rfl hl (by decide) rfl (fun ls hl => ?_)
  refine lv_iconst (v := 0) hx hb dX7_passes_8 (by decide) ?_
  refine lv_istore_n (lv' := [(3, .int 0), (2, .int r4), (0, .ref (a 0)), (1, .int p1)]) hx hb dX7_passes_9 rfl hl (by decide) rfl (fun ls hl => ?_)
  exact L10 n0 v0 p1 r4 0 s.heap [] ls hP hD hS (lv_sub hl [2, 3, 1, 0] rfl) hf
set_option maxHeartbeats 4000000 in
set_option maxRecDepth 100000 in
theorem ok_X7_set (l : Launch) (G : Gt) (a : Nat → Nat) (sz : Nat) (n0 : Nat) (v0 : DV) (p1 : Int32) (p2 : Int32) (hne : f_X7_set n0 v0 p1 p2 ≠ none) : Met l yX7_set wsX7_set ({ frames := 1, cells := 0, slots := 0, locals := 22 } : Room) (pcW G [.ref (a 0), .int p1, .int p2] (modelC G.2 a v0) sz) (va_Qi (fun r (u : DV) => f_X7_set n0 v0 p1 p2 = some (r, u)) (fun u t => atW G (modelC G.2 a u) (va_A (modelC G.2 a v0) sz) t) (va_A (modelC G.2 a v0) sz)) 0 0 (va_A (modelC G.2 a v0) sz) := by
  refine Met.ofW (cc := cX7_set) (maxL := 5) (ret := (some .int)) (by decide) rfl ?_
  intro p e s m args below meth c s₁ B hml hv
  obtain ⟨rfl, hsz, hP, hD0, hamb⟩ := hv
  have hx := B.exec
  have hb := B.bytes
  have hr := B.returns
  have hts := atoms_spec (ws := wsX7_set) B.pre
  have hown : s.vm.findClass RX7 = some m.cls := findClass_of_methodNamed B.named
  have hlocks := B.notSynchronized
  have hK := hamb.1
  subst hsz
  have hD := hD0.self (sz := s.heap.size)
  generalize hAe : va_A (modelC G.2 a v0) s.heap.size = A at hD ⊢
  have hA : ∀ q : Nat, s.heap.size ≤ q → A q := fun q h => by rw [← hAe]; exact Or.inr h
  have hS : va_S A s.heap s.heap [] := va_S.rf
  obtain ⟨res, hf0⟩ : ∃ res, f_X7_set n0 v0 p1 p2 = res := ⟨_, rfl⟩
  have hne : res ≠ none := hf0 ▸ hne
  have hf := hf0
  rw [f_X7_set] at hf
  have hinX7 : ∀ w ∈ u_ws RX7 TX7 16, w ∈ wsX7_set := by decide +kernel
  have lk7 := hts (.fieldLink RX7 7 "MoodDrawersModel" "s" "[I") (by decide +kernel)
  have hl := lv_entry ([.ref (a 0), .int p1, .int p2]) (n := 5) (Nat.le_of_ble_eq_true rfl)
  rw [lg_entry_eq]
  generalize (lg_sl ([.ref (a 0), .int p1, .int p2]) ++ List.replicate (5 - (lg_sl ([.ref (a 0), .int p1, .int p2])).length) Slot.unset).toArray = ls at hl ⊢
  have hl : lv_has ls 5 [(0, .ref (a 0)), (1, .int p1), (2, .int p2)] := hl
  have J21 : ∀ (n : Nat) (v : DV) (x1 : Int32) (x2 : Int32) (z0 : Int32) (H : Heap) (locs : List Loc) (ls : Array Slot), va_P G.1 vwCl (modelC G.2 a v) H → va_D A (modelC G.2 a v) → va_S A s.heap H locs → lv_has ls 5 [(0, .ref (a 0)), (1, .int x1), (2, .int x2)] → f_X7_set_J21 n v x1 x2 z0 = res → W p l e (headSpec wsX7_set ({ frames := 1, cells := 0, slots := 0, locals := 22 } : Room)).room s m ([.ref (a 0), .int p1, .int p2] : List Value).toArray below meth c H locs 0 0 (MQ below (va_Qi (fun r (u : DV) => f_X7_set n0 v0 p1 p2 = some (r, u)) (fun u t => atW G (modelC G.2 a u) A t) A) ([.ref (a 0), .int p1, .int p2] : List Value).toArray s 0 0 A) (F0 m 21 ls [.int z0]) := by
    intro n v x1 x2 z0 H locs ls hP hD hS hl hf
    rw [f_X7_set_J21] at hf
    refine lv_istore_n (lv' := [(3, .int z0), (0, .ref (a 0)), (1, .int x1), (2, .int x2)]) hx hb dX7_set_21 rfl hl (by decide) rfl (fun ls hl => ?_)
    refine lv_iload_n hx hb dX7_set_22 rfl (lv_at hl 2 rfl) ?_
    refine lv_iconst (v := 0) hx hb dX7_set_23 (by decide) ?_
    refine lv_iconst (v := 2) hx hb dX7_set_24 (by decide) ?_
    refine vp_callSi (W.runS (As := [.int x1, .int 0, .int 2]) (rest := []) ⟨hx, hb, hml, hown, hts⟩ (ok_X7_in l x1 0 2) (va_cwS 3 hts gX7_set_X7_in rfl rfl rfl (by decide +kernel) ⟨Nat.le_of_ble_eq_true rfl, Nat.le_of_ble_eq_true rfl⟩) ⟨fun _ _ _ _ q => q, fun _ _ _ => ⟨rfl, trivial⟩⟩ rfl rfl hl.1 rfl (lv_room (Nat.le_of_ble_eq_true rfl)) dX7_set_25 ⟨Nat.zero_le _, Nat.zero_le _⟩) (fun r25 hw => ?_)
    subst hw
    refine lv_if_eq (tgt := 40) hx hb dX7_set_28 (by decide) (fun c => ?_) (fun c => ?_)
    · have hf := it_1 hf c
      refine lv_bipush (v := (-2)) hx hb dX7_set_40 (by decide) ?_
      exact W.iret (v := (-2)) hx hb hr (fun t ht hW => ⟨⟨(-2), v, rfl, hf0.trans hf.symm, by rw [ht]; exact hP, hD⟩, hS.F ht⟩) hS.2.2 dX7_set_42
    · have hf := it_2 hf c
      refine lv_iload_n hx hb dX7_set_31 rfl (lv_at hl 3 rfl) ?_
      refine lv_iconst (v := 0) hx hb dX7_set_32 (by decide) ?_
      refine lv_iload_n hx hb dX7_set_33 rfl (lv_at hl 0 rfl) ?_
      refine vp_callSi (W.runS (As := [.int x2, .int 0, .int z0]) (rest := []) ⟨hx, hb, hml, hown, hts⟩ (ok_X7_in l x2 0 z0) (va_cwS 3 hts gX7_set_X7_in rfl rfl rfl (by decide +kernel) ⟨Nat.le_of_ble_eq_true rfl, Nat.le_of_ble_eq_true rfl⟩) ⟨fun _ _ _ _ q => q, fun _ _ _ => ⟨rfl, trivial⟩⟩ rfl rfl hl.1 rfl (lv_room (Nat.le_of_ble_eq_true rfl)) dX7_set_34 ⟨Nat.zero_le _, Nat.zero_le _⟩) (fun r34 hw => ?_)
      subst hw
      refine lv_if_ne (tgt := 43) hx hb dX7_set_37 (by decide) (fun c => ?_) (fun c => ?_)
      · have hf := it_2 hf c
        refine lv_aload_n hx hb dX7_set_43 rfl (lv_at hl 1 rfl) ?_
        have hn := bd1_1 hf hne
        refine cwv (va_runV (As := []) (rest := []) ⟨hx, hb, hml, hown, hts⟩ (ok_X7_know l G a H.size n v hn) (cwV 0 hts gX7_set_X7_know rfl rfl rfl (by decide +kernel) ⟨Nat.le_of_ble_eq_true rfl, Nat.le_of_ble_eq_true rfl⟩) ⟨pcW_blind, va_recv hK hP (ci := 7) (q0 := 0) rfl rfl, pcW_pre hP hD hamb⟩ rfl rfl hl.1 rfl (lv_room (Nat.le_of_ble_eq_true rfl)) dX7_set_44 ⟨Nat.zero_le _, Nat.zero_le _⟩) (wr := []) hP hD hS hA [0, 1, 2, 3, 4, 5, 6, 7, 8] [] rfl rfl (by decide) (by decide) (fun v44 H locs hw hP hD hS => ?_)
        have hf := bd1_2 hf hw
        have hP : va_P G.1 vwCl (modelC G.2 a v44) H := hP
        have hD : va_D A (modelC G.2 a v44) := hD
        refine lv_aload_n hx hb dX7_set_47 rfl (lv_at hl 1 rfl) ?_
        refine va_get (D := G.1) (ci := 7) (v := .ref (a 1)) (C := RX7) (T := TX7) (N := 16) hx hb hts hinX7 hown hK hP 0 rfl rfl 0 (by decide) lk7 (fun _ h9 => h9) rfl dX7_set_48 ?_
        refine lv_iconst (v := 0) hx hb dX7_set_51 (by decide) ?_
        refine lv_iload_n hx hb dX7_set_52 rfl (lv_at hl 2 rfl) ?_
        refine lv_iadd hx hb dX7_set_53 ?_
        obtain ⟨hi, hf⟩ := ck_1 hf hne
        refine va_iald (f := (v44 0)) hx hb hK hP 1 0 rfl rfl (ixb_1 hi) dX7_set_54 ?_
        refine lv_istore (lv' := [(4, .int ((v44 0) (Int32.toNatClampNeg (0 + x1)))), (3, .int z0), (0, .ref (a 0)), (1, .int x1), (2, .int x2)]) hx hb dX7_set_55 hl (by decide) rfl (fun ls hl => ?_)
        refine lv_aload_n hx hb dX7_set_57 rfl (lv_at hl 2 rfl) ?_
        refine va_get (D := G.1) (ci := 7) (v := .ref (a 1)) (C := RX7) (T := TX7) (N := 16) hx hb hts hinX7 hown hK hP 0 rfl rfl 0 (by decide) lk7 (fun _ h9 => h9) rfl dX7_set_58 ?_
        refine lv_iconst (v := 0) hx hb dX7_set_61 (by decide) ?_
        refine lv_iload_n hx hb dX7_set_62 rfl (lv_at hl 3 rfl) ?_
        refine lv_iadd hx hb dX7_set_63 ?_
        refine lv_iload_n hx hb dX7_set_64 rfl (lv_at hl 4 rfl) ?_
        obtain ⟨hi, hf⟩ := ck_1 hf hne
        refine va_iast (f := (v44 0)) hx hb hK hP hD hS 1 0 rfl rfl (ixb_1 hi) dX7_set_65 (fun H locs hP hD hS => ?_)
        obtain ⟨v65, hv, hf⟩ := lt_1 hf
        have hP : va_P G.1 vwCl (modelC G.2 a v65) H := by rw [hv]; exact hP
        have hD : va_D A (modelC G.2 a v65) := by rw [hv]; exact hD
        clear hv
        refine lv_iload hx hb dX7_set_66 (lv_at hl 0 rfl) ?_
        exact W.iret (v := ((v44 0) (Int32.toNatClampNeg (0 + x1)))) hx hb hr (fun t ht hW => ⟨⟨((v44 0) (Int32.toNatClampNeg (0 + x1))), v65, rfl, hf0.trans hf.symm, by rw [ht]; exact hP, hD⟩, hS.F ht⟩) hS.2.2 dX7_set_68
      · have hf := it_1 hf c
        refine lv_bipush (v := (-2)) hx hb dX7_set_40 (by decide) ?_
        exact W.iret (v := (-2)) hx hb hr (fun t ht hW => ⟨⟨(-2), v, rfl, hf0.trans hf.symm, by rw [ht]; exact hP, hD⟩, hS.F ht⟩) hS.2.2 dX7_set_42
  refine lv_iload_n hx hb dX7_set_0 rfl (lv_at hl 1 rfl) ?_
  refine lv_if_ne (tgt := 9) hx hb dX7_set_1 (by decide) (fun c => ?_) (fun c => ?_)
  · have hf := it_2 hf c
    refine lv_iload_n hx hb dX7_set_9 rfl (lv_at hl 1 rfl) ?_
    refine lv_iconst (v := 1) hx hb dX7_set_10 (by decide) ?_
    refine lv_icmp_ne (tgt := 19) hx hb dX7_set_11 (by decide) (fun c => ?_) (fun c => ?_)
    · have hf := it_2 hf c
      refine lv_bipush (v := 20) hx hb dX7_set_19 (by decide) ?_
      exact J21 n0 v0 p1 p2 20 s.heap [] ls hP hD hS (lv_sub hl [0, 1, 2] rfl) hf
    · have hf := it_1 hf c
      refine lv_bipush (v := 99) hx hb dX7_set_14 (by decide) ?_
      refine lv_goto (tgt := 21) hx hb dX7_set_16 (by decide) ?_
      exact J21 n0 v0 p1 p2 99 s.heap [] ls hP hD hS (lv_sub hl [0, 1, 2] rfl) hf
  · have hf := it_1 hf c
    refine lv_bipush (v := 23) hx hb dX7_set_4 (by decide) ?_
    refine lv_goto (tgt := 21) hx hb dX7_set_6 (by decide) ?_
    exact J21 n0 v0 p1 p2 23 s.heap [] ls hP hD hS (lv_sub hl [0, 1, 2] rfl) hf
set_option maxHeartbeats 4000000 in
set_option maxRecDepth 100000 in
theorem ok_X7_write (l : Launch) (G : Gt) (a : Nat → Nat) (sz : Nat) (n0 : Nat) (v0 : DV) (p1 : Int32) (p2 : Int32) (p3 : Int32) (hne : f_X7_write n0 v0 p1 p2 p3 ≠ none) : Met l yX7_write wsX7_write ({ frames := 3, cells := 0, slots := 0, locals := 68 } : Room) (pcW G [.ref (a 0), .int p1, .int p2, .int p3] (modelC G.2 a v0) sz) (va_Qi (fun r (u : DV) => f_X7_write n0 v0 p1 p2 p3 = some (r, u)) (fun u t => atW G (modelC G.2 a u) (va_A (modelC G.2 a v0) sz) t) (va_A (modelC G.2 a v0) sz)) 0 0 (va_A (modelC G.2 a v0) sz) := by
  refine Met.ofW (cc := cX7_write) (maxL := 5) (ret := (some .int)) (by decide) rfl ?_
  intro p e s m args below meth c s₁ B hml hv
  obtain ⟨rfl, hsz, hP, hD0, hamb⟩ := hv
  have hx := B.exec
  have hb := B.bytes
  have hr := B.returns
  have hts := atoms_spec (ws := wsX7_write) B.pre
  have hown : s.vm.findClass RX7 = some m.cls := findClass_of_methodNamed B.named
  have hlocks := B.notSynchronized
  have hK := hamb.1
  subst hsz
  have hD := hD0.self (sz := s.heap.size)
  generalize hAe : va_A (modelC G.2 a v0) s.heap.size = A at hD ⊢
  have hA : ∀ q : Nat, s.heap.size ≤ q → A q := fun q h => by rw [← hAe]; exact Or.inr h
  have hS : va_S A s.heap s.heap [] := va_S.rf
  obtain ⟨res, hf0⟩ : ∃ res, f_X7_write n0 v0 p1 p2 p3 = res := ⟨_, rfl⟩
  have hne : res ≠ none := hf0 ▸ hne
  have hf := hf0
  rw [f_X7_write] at hf
  have hl := lv_entry ([.ref (a 0), .int p1, .int p2, .int p3]) (n := 5) (Nat.le_of_ble_eq_true rfl)
  rw [lg_entry_eq]
  generalize (lg_sl ([.ref (a 0), .int p1, .int p2, .int p3]) ++ List.replicate (5 - (lg_sl ([.ref (a 0), .int p1, .int p2, .int p3])).length) Slot.unset).toArray = ls at hl ⊢
  have hl : lv_has ls 5 [(0, .ref (a 0)), (1, .int p1), (2, .int p2), (3, .int p3)] := hl
  refine lv_aload_n hx hb dX7_write_0 rfl (lv_at hl 0 rfl) ?_
  refine lv_iload_n hx hb dX7_write_1 rfl (lv_at hl 1 rfl) ?_
  refine lv_iload_n hx hb dX7_write_2 rfl (lv_at hl 2 rfl) ?_
  refine lv_iload_n hx hb dX7_write_3 rfl (lv_at hl 3 rfl) ?_
  have hn := bd1_1 hf hne
  refine vp_callSi (W.runV (As := [.int p1, .int p2, .int p3]) (rest := []) ⟨hx, hb, hml, hown, hts⟩ (ok_X7_writeFault l G a n0 v0 p1 p2 p3 hn) (cwV 3 hts gX7_write_X7_writeFault rfl rfl rfl (by decide +kernel) ⟨Nat.le_of_ble_eq_true rfl, Nat.le_of_ble_eq_true rfl⟩) ⟨pcR_blind, va_recv hK hP (ci := 7) (q0 := 0) rfl rfl, pcR_pre hP hamb⟩ rfl rfl hl.1 rfl (lv_room (Nat.le_of_ble_eq_true rfl)) dX7_write_4 ⟨Nat.zero_le _, Nat.zero_le _⟩) (fun r4 hw => ?_)
  have hf := bd1_2 hf hw
  refine lv_istore (lv' := [(4, .int r4), (0, .ref (a 0)), (1, .int p1), (2, .int p2), (3, .int p3)]) hx hb dX7_write_7 hl (by decide) rfl (fun ls hl => ?_)
  refine lv_iload hx hb dX7_write_9 (lv_at hl 0 rfl) ?_
  refine lv_if_ge (tgt := 17) hx hb dX7_write_11 (by decide) (fun c => ?_) (fun c => ?_)
  · have hf := it_1 hf c
    refine lv_aload_n hx hb dX7_write_17 rfl (lv_at hl 1 rfl) ?_
    have hn := bd1_1 hf hne
    refine cwv (va_runV (As := []) (rest := []) ⟨hx, hb, hml, hown, hts⟩ (ok_X7_know l G a s.heap.size n0 v0 hn) (cwV 0 hts gX7_write_X7_know rfl rfl rfl (by decide +kernel) ⟨Nat.le_of_ble_eq_true rfl, Nat.le_of_ble_eq_true rfl⟩) ⟨pcW_blind, va_recv hK hP (ci := 7) (q0 := 0) rfl rfl, pcW_pre hP hD hamb⟩ rfl rfl hl.1 rfl (lv_room (Nat.le_of_ble_eq_true rfl)) dX7_write_18 ⟨Nat.zero_le _, Nat.zero_le _⟩) (wr := []) hP hD hS hA [0, 1, 2, 3, 4, 5, 6, 7, 8] [] rfl rfl (by decide) (by decide) (fun v18 H locs hw hP hD hS => ?_)
    have hf := bd1_2 hf hw
    have hP : va_P G.1 vwCl (modelC G.2 a v18) H := hP
    have hD : va_D A (modelC G.2 a v18) := hD
    refine lv_aload_n hx hb dX7_write_21 rfl (lv_at hl 1 rfl) ?_
    refine lv_iload_n hx hb dX7_write_22 rfl (lv_at hl 2 rfl) ?_
    refine lv_iload_n hx hb dX7_write_23 rfl (lv_at hl 3 rfl) ?_
    refine lv_iload_n hx hb dX7_write_24 rfl (lv_at hl 4 rfl) ?_
    have hn := bd2_1 hf hne
    refine cwi (va_runV (As := [.int p1, .int p2, .int p3]) (rest := []) ⟨hx, hb, hml, hown, hts⟩ (ok_X7_writes l G a H.size v18 p1 p2 p3 hn) (cwV 3 hts gX7_write_X7_writes rfl rfl rfl (by decide +kernel) ⟨Nat.le_of_ble_eq_true rfl, Nat.le_of_ble_eq_true rfl⟩) ⟨pcW_blind, va_recv hK hP (ci := 7) (q0 := 0) rfl rfl, pcW_pre hP hD hamb⟩ rfl rfl hl.1 rfl (lv_room (Nat.le_of_ble_eq_true rfl)) dX7_write_25 ⟨Nat.zero_le _, Nat.zero_le _⟩) (wr := []) hP hD hS hA [0, 1, 2, 3, 4, 5, 6, 7, 8] [] rfl rfl (by decide) (by decide) (fun r25 v25 H locs hw hP hD hS => ?_)
    have hf := bd2_2 hf hw
    have hP : va_P G.1 vwCl (modelC G.2 a v25) H := hP
    have hD : va_D A (modelC G.2 a v25) := hD
    exact W.iret (v := r25) hx hb hr (fun t ht hW => ⟨⟨r25, v25, rfl, hf0.trans hf.symm, by rw [ht]; exact hP, hD⟩, hS.F ht⟩) hS.2.2 dX7_write_28
  · have hf := it_2 hf c
    refine lv_iload hx hb dX7_write_14 (lv_at hl 0 rfl) ?_
    exact W.iret (v := r4) hx hb hr (fun t ht hW => ⟨⟨r4, v0, rfl, hf0.trans hf.symm, by rw [ht]; exact hP, hD⟩, hS.F ht⟩) hS.2.2 dX7_write_16
set_option maxHeartbeats 4000000 in
set_option maxRecDepth 100000 in
theorem ok_X7_turn (l : Launch) (G : Gt) (a : Nat → Nat) (sz : Nat) (n0 : Nat) (v0 : DV) (p1 : Int32) (hne : f_X7_turn n0 v0 p1 ≠ none) : Met l yX7_turn wsX7_turn ({ frames := 2, cells := 0, slots := 0, locals := 42 } : Room) (pcW G [.ref (a 0), .int p1] (modelC G.2 a v0) sz) (va_Qi (fun r (u : DV) => f_X7_turn n0 v0 p1 = some (r, u)) (fun u t => atW G (modelC G.2 a u) (va_A (modelC G.2 a v0) sz) t) (va_A (modelC G.2 a v0) sz)) 0 0 (va_A (modelC G.2 a v0) sz) := by
  refine Met.ofW (cc := cX7_turn) (maxL := 2) (ret := (some .int)) (by decide) rfl ?_
  intro p e s m args below meth c s₁ B hml hv
  obtain ⟨rfl, hsz, hP, hD0, hamb⟩ := hv
  have hx := B.exec
  have hb := B.bytes
  have hr := B.returns
  have hts := atoms_spec (ws := wsX7_turn) B.pre
  have hown : s.vm.findClass RX7 = some m.cls := findClass_of_methodNamed B.named
  have hlocks := B.notSynchronized
  have hK := hamb.1
  subst hsz
  have hD := hD0.self (sz := s.heap.size)
  generalize hAe : va_A (modelC G.2 a v0) s.heap.size = A at hD ⊢
  have hA : ∀ q : Nat, s.heap.size ≤ q → A q := fun q h => by rw [← hAe]; exact Or.inr h
  have hS : va_S A s.heap s.heap [] := va_S.rf
  obtain ⟨res, hf0⟩ : ∃ res, f_X7_turn n0 v0 p1 = res := ⟨_, rfl⟩
  have hne : res ≠ none := hf0 ▸ hne
  have hf := hf0
  rw [f_X7_turn] at hf
  have hl := lv_entry ([.ref (a 0), .int p1]) (n := 2) (Nat.le_of_ble_eq_true rfl)
  rw [lg_entry_eq]
  generalize (lg_sl ([.ref (a 0), .int p1]) ++ List.replicate (2 - (lg_sl ([.ref (a 0), .int p1])).length) Slot.unset).toArray = ls at hl ⊢
  have hl : lv_has ls 2 [(0, .ref (a 0)), (1, .int p1)] := hl
  refine lv_iload_n hx hb dX7_turn_0 rfl (lv_at hl 1 rfl) ?_
  refine vp_callSi (W.runS (As := [.int p1]) (rest := []) ⟨hx, hb, hml, hown, hts⟩ (ok_X7_isMood l p1) (va_cwS 1 hts gX7_turn_X7_isMood rfl rfl rfl (by decide +kernel) ⟨Nat.le_of_ble_eq_true rfl, Nat.le_of_ble_eq_true rfl⟩) ⟨fun _ _ _ _ q => q, fun _ _ _ => ⟨rfl, trivial⟩⟩ rfl rfl hl.1 rfl (lv_room (Nat.le_of_ble_eq_true rfl)) dX7_turn_1 ⟨Nat.zero_le _, Nat.zero_le _⟩) (fun r1 hw => ?_)
  subst hw
  refine lv_if_ne (tgt := 9) hx hb dX7_turn_4 (by decide) (fun c => ?_) (fun c => ?_)
  · have hf := it_2 hf c
    refine lv_aload_n hx hb dX7_turn_9 rfl (lv_at hl 0 rfl) ?_
    have hn := bd1_1 hf hne
    refine cwv (va_runV (As := []) (rest := []) ⟨hx, hb, hml, hown, hts⟩ (ok_X7_know l G a s.heap.size n0 v0 hn) (cwV 0 hts gX7_turn_X7_know rfl rfl rfl (by decide +kernel) ⟨Nat.le_of_ble_eq_true rfl, Nat.le_of_ble_eq_true rfl⟩) ⟨pcW_blind, va_recv hK hP (ci := 7) (q0 := 0) rfl rfl, pcW_pre hP hD hamb⟩ rfl rfl hl.1 rfl (lv_room (Nat.le_of_ble_eq_true rfl)) dX7_turn_10 ⟨Nat.zero_le _, Nat.zero_le _⟩) (wr := []) hP hD hS hA [0, 1, 2, 3, 4, 5, 6, 7, 8] [] rfl rfl (by decide) (by decide) (fun v10 H locs hw hP hD hS => ?_)
    have hf := bd1_2 hf hw
    have hP : va_P G.1 vwCl (modelC G.2 a v10) H := hP
    have hD : va_D A (modelC G.2 a v10) := hD
    refine lv_aload_n hx hb dX7_turn_13 rfl (lv_at hl 0 rfl) ?_
    refine lv_iload_n hx hb dX7_turn_14 rfl (lv_at hl 1 rfl) ?_
    have hn := bd2_1 hf hne
    refine cwi (va_runV (As := [.int p1]) (rest := []) ⟨hx, hb, hml, hown, hts⟩ (ok_X7_turns l G a H.size v10 p1 hn) (cwV 1 hts gX7_turn_X7_turns rfl rfl rfl (by decide +kernel) ⟨Nat.le_of_ble_eq_true rfl, Nat.le_of_ble_eq_true rfl⟩) ⟨pcW_blind, va_recv hK hP (ci := 7) (q0 := 0) rfl rfl, pcW_pre hP hD hamb⟩ rfl rfl hl.1 rfl (lv_room (Nat.le_of_ble_eq_true rfl)) dX7_turn_15 ⟨Nat.zero_le _, Nat.zero_le _⟩) (wr := []) hP hD hS hA [0, 1, 2, 3, 4, 5, 6, 7, 8] [] rfl rfl (by decide) (by decide) (fun r15 v15 H locs hw hP hD hS => ?_)
    have hf := bd2_2 hf hw
    have hP : va_P G.1 vwCl (modelC G.2 a v15) H := hP
    have hD : va_D A (modelC G.2 a v15) := hD
    exact W.iret (v := r15) hx hb hr (fun t ht hW => ⟨⟨r15, v15, rfl, hf0.trans hf.symm, by rw [ht]; exact hP, hD⟩, hS.F ht⟩) hS.2.2 dX7_turn_18
  · have hf := it_1 hf c
    refine lv_iconst (v := (-1)) hx hb dX7_turn_7 (by decide) ?_
    exact W.iret (v := (-1)) hx hb hr (fun t ht hW => ⟨⟨(-1), v0, rfl, hf0.trans hf.symm, by rw [ht]; exact hP, hD⟩, hS.F ht⟩) hS.2.2 dX7_turn_8
set_option maxHeartbeats 4000000 in
set_option maxRecDepth 100000 in
theorem ok_X7_rest (l : Launch) (G : Gt) (a : Nat → Nat) (sz : Nat) (n0 : Nat) (v0 : DV) (p1 : Int32) (p2 : Int32) (hne : f_X7_rest n0 v0 p1 p2 ≠ none) : Met l yX7_rest wsX7_rest ({ frames := 2, cells := 0, slots := 0, locals := 42 } : Room) (pcW G [.ref (a 0), .int p1, .int p2] (modelC G.2 a v0) sz) (va_Qi (fun r (u : DV) => f_X7_rest n0 v0 p1 p2 = some (r, u)) (fun u t => atW G (modelC G.2 a u) (va_A (modelC G.2 a v0) sz) t) (va_A (modelC G.2 a v0) sz)) 0 0 (va_A (modelC G.2 a v0) sz) := by
  refine Met.ofW (cc := cX7_rest) (maxL := 4) (ret := (some .int)) (by decide) rfl ?_
  intro p e s m args below meth c s₁ B hml hv
  obtain ⟨rfl, hsz, hP, hD0, hamb⟩ := hv
  have hx := B.exec
  have hb := B.bytes
  have hr := B.returns
  have hts := atoms_spec (ws := wsX7_rest) B.pre
  have hown : s.vm.findClass RX7 = some m.cls := findClass_of_methodNamed B.named
  have hlocks := B.notSynchronized
  have hK := hamb.1
  subst hsz
  have hD := hD0.self (sz := s.heap.size)
  generalize hAe : va_A (modelC G.2 a v0) s.heap.size = A at hD ⊢
  have hA : ∀ q : Nat, s.heap.size ≤ q → A q := fun q h => by rw [← hAe]; exact Or.inr h
  have hS : va_S A s.heap s.heap [] := va_S.rf
  obtain ⟨res, hf0⟩ : ∃ res, f_X7_rest n0 v0 p1 p2 = res := ⟨_, rfl⟩
  have hne : res ≠ none := hf0 ▸ hne
  have hf := hf0
  rw [f_X7_rest] at hf
  have hinX7 : ∀ w ∈ u_ws RX7 TX7 16, w ∈ wsX7_rest := by decide +kernel
  have lk7 := hts (.fieldLink RX7 7 "MoodDrawersModel" "s" "[I") (by decide +kernel)
  have hl := lv_entry ([.ref (a 0), .int p1, .int p2]) (n := 4) (Nat.le_of_ble_eq_true rfl)
  rw [lg_entry_eq]
  generalize (lg_sl ([.ref (a 0), .int p1, .int p2]) ++ List.replicate (4 - (lg_sl ([.ref (a 0), .int p1, .int p2])).length) Slot.unset).toArray = ls at hl ⊢
  have hl : lv_has ls 4 [(0, .ref (a 0)), (1, .int p1), (2, .int p2)] := hl
  refine lv_iload_n hx hb dX7_rest_0 rfl (lv_at hl 1 rfl) ?_
  refine vp_callSi (W.runS (As := [.int p1]) (rest := []) ⟨hx, hb, hml, hown, hts⟩ (ok_X7_isMood l p1) (va_cwS 1 hts gX7_rest_X7_isMood rfl rfl rfl (by decide +kernel) ⟨Nat.le_of_ble_eq_true rfl, Nat.le_of_ble_eq_true rfl⟩) ⟨fun _ _ _ _ q => q, fun _ _ _ => ⟨rfl, trivial⟩⟩ rfl rfl hl.1 rfl (lv_room (Nat.le_of_ble_eq_true rfl)) dX7_rest_1 ⟨Nat.zero_le _, Nat.zero_le _⟩) (fun r1 hw => ?_)
  subst hw
  refine lv_if_ne (tgt := 9) hx hb dX7_rest_4 (by decide) (fun c => ?_) (fun c => ?_)
  · have hf := it_2 hf c
    refine lv_iload_n hx hb dX7_rest_9 rfl (lv_at hl 2 rfl) ?_
    refine lv_iconst (v := 0) hx hb dX7_rest_10 (by decide) ?_
    refine lv_bipush (v := 30) hx hb dX7_rest_11 (by decide) ?_
    refine vp_callSi (W.runS (As := [.int p2, .int 0, .int 30]) (rest := []) ⟨hx, hb, hml, hown, hts⟩ (ok_X7_in l p2 0 30) (va_cwS 3 hts gX7_rest_X7_in rfl rfl rfl (by decide +kernel) ⟨Nat.le_of_ble_eq_true rfl, Nat.le_of_ble_eq_true rfl⟩) ⟨fun _ _ _ _ q => q, fun _ _ _ => ⟨rfl, trivial⟩⟩ rfl rfl hl.1 rfl (lv_room (Nat.le_of_ble_eq_true rfl)) dX7_rest_13 ⟨Nat.zero_le _, Nat.zero_le _⟩) (fun r13 hw => ?_)
    subst hw
    refine lv_if_ne (tgt := 22) hx hb dX7_rest_16 (by decide) (fun c => ?_) (fun c => ?_)
    · have hf := it_2 hf c
      refine lv_aload_n hx hb dX7_rest_22 rfl (lv_at hl 0 rfl) ?_
      have hn := bd1_1 hf hne
      refine cwv (va_runV (As := []) (rest := []) ⟨hx, hb, hml, hown, hts⟩ (ok_X7_know l G a s.heap.size n0 v0 hn) (cwV 0 hts gX7_rest_X7_know rfl rfl rfl (by decide +kernel) ⟨Nat.le_of_ble_eq_true rfl, Nat.le_of_ble_eq_true rfl⟩) ⟨pcW_blind, va_recv hK hP (ci := 7) (q0 := 0) rfl rfl, pcW_pre hP hD hamb⟩ rfl rfl hl.1 rfl (lv_room (Nat.le_of_ble_eq_true rfl)) dX7_rest_23 ⟨Nat.zero_le _, Nat.zero_le _⟩) (wr := []) hP hD hS hA [0, 1, 2, 3, 4, 5, 6, 7, 8] [] rfl rfl (by decide) (by decide) (fun v23 H locs hw hP hD hS => ?_)
      have hf := bd1_2 hf hw
      have hP : va_P G.1 vwCl (modelC G.2 a v23) H := hP
      have hD : va_D A (modelC G.2 a v23) := hD
      refine lv_aload_n hx hb dX7_rest_26 rfl (lv_at hl 0 rfl) ?_
      refine va_get (D := G.1) (ci := 7) (v := .ref (a 1)) (C := RX7) (T := TX7) (N := 16) hx hb hts hinX7 hown hK hP 0 rfl rfl 0 (by decide) lk7 (fun _ h9 => h9) rfl dX7_rest_27 ?_
      refine lv_iload_n hx hb dX7_rest_30 rfl (lv_at hl 1 rfl) ?_
      refine lv_iconst (v := 1) hx hb dX7_rest_31 (by decide) ?_
      refine vp_callSi (W.runS (As := [.int p1, .int 1]) (rest := [.ref (a 1)]) ⟨hx, hb, hml, hown, hts⟩ (ok_X7_ofD l p1 1) (va_cwS 2 hts gX7_rest_X7_ofD rfl rfl rfl (by decide +kernel) ⟨Nat.le_of_ble_eq_true rfl, Nat.le_of_ble_eq_true rfl⟩) ⟨fun _ _ _ _ q => q, fun _ _ _ => ⟨rfl, trivial⟩⟩ rfl rfl hl.1 rfl (lv_room (Nat.le_of_ble_eq_true rfl)) dX7_rest_32 ⟨Nat.zero_le _, Nat.zero_le _⟩) (fun r32 hw => ?_)
      subst hw
      obtain ⟨hi, hf⟩ := ck_1 hf hne
      refine va_iald (f := (v23 0)) hx hb hK hP 1 0 rfl rfl (ixb_1 hi) dX7_rest_35 ?_
      refine lv_istore_n (lv' := [(3, .int ((v23 0) (Int32.toNatClampNeg (f_X7_ofD p1 1)))), (0, .ref (a 0)), (1, .int p1), (2, .int p2)]) hx hb dX7_rest_36 rfl hl (by decide) rfl (fun ls hl => ?_)
      refine lv_aload_n hx hb dX7_rest_37 rfl (lv_at hl 1 rfl) ?_
      refine va_get (D := G.1) (ci := 7) (v := .ref (a 1)) (C := RX7) (T := TX7) (N := 16) hx hb hts hinX7 hown hK hP 0 rfl rfl 0 (by decide) lk7 (fun _ h9 => h9) rfl dX7_rest_38 ?_
      refine lv_iload_n hx hb dX7_rest_41 rfl (lv_at hl 2 rfl) ?_
      refine lv_iconst (v := 1) hx hb dX7_rest_42 (by decide) ?_
      refine vp_callSi (W.runS (As := [.int p1, .int 1]) (rest := [.ref (a 1)]) ⟨hx, hb, hml, hown, hts⟩ (ok_X7_ofD l p1 1) (va_cwS 2 hts gX7_rest_X7_ofD rfl rfl rfl (by decide +kernel) ⟨Nat.le_of_ble_eq_true rfl, Nat.le_of_ble_eq_true rfl⟩) ⟨fun _ _ _ _ q => q, fun _ _ _ => ⟨rfl, trivial⟩⟩ rfl rfl hl.1 rfl (lv_room (Nat.le_of_ble_eq_true rfl)) dX7_rest_43 ⟨Nat.zero_le _, Nat.zero_le _⟩) (fun r43 hw => ?_)
      subst hw
      refine lv_iload_n hx hb dX7_rest_46 rfl (lv_at hl 3 rfl) ?_
      obtain ⟨hi, hf⟩ := ck_1 hf hne
      refine va_iast (f := (v23 0)) hx hb hK hP hD hS 1 0 rfl rfl (ixb_1 hi) dX7_rest_47 (fun H locs hP hD hS => ?_)
      obtain ⟨v47, hv, hf⟩ := lt_1 hf
      have hP : va_P G.1 vwCl (modelC G.2 a v47) H := by rw [hv]; exact hP
      have hD : va_D A (modelC G.2 a v47) := by rw [hv]; exact hD
      clear hv
      refine lv_iload_n hx hb dX7_rest_48 rfl (lv_at hl 0 rfl) ?_
      exact W.iret (v := ((v23 0) (Int32.toNatClampNeg (f_X7_ofD p1 1)))) hx hb hr (fun t ht hW => ⟨⟨((v23 0) (Int32.toNatClampNeg (f_X7_ofD p1 1))), v47, rfl, hf0.trans hf.symm, by rw [ht]; exact hP, hD⟩, hS.F ht⟩) hS.2.2 dX7_rest_49
    · have hf := it_1 hf c
      refine lv_bipush (v := (-2)) hx hb dX7_rest_19 (by decide) ?_
      exact W.iret (v := (-2)) hx hb hr (fun t ht hW => ⟨⟨(-2), v0, rfl, hf0.trans hf.symm, by rw [ht]; exact hP, hD⟩, hS.F ht⟩) hS.2.2 dX7_rest_21
  · have hf := it_1 hf c
    refine lv_iconst (v := (-1)) hx hb dX7_rest_7 (by decide) ?_
    exact W.iret (v := (-1)) hx hb hr (fun t ht hW => ⟨⟨(-1), v0, rfl, hf0.trans hf.symm, by rw [ht]; exact hP, hD⟩, hS.F ht⟩) hS.2.2 dX7_rest_8
set_option maxHeartbeats 4000000 in
set_option maxRecDepth 100000 in
theorem ok_X7_hours (l : Launch) (G : Gt) (a : Nat → Nat) (sz : Nat) (n0 : Nat) (v0 : DV) (p1 : Int32) (p2 : Int32) (p3 : Int32) (hne : f_X7_hours n0 v0 p1 p2 p3 ≠ none) : Met l yX7_hours wsX7_hours ({ frames := 3, cells := 0, slots := 0, locals := 65 } : Room) (pcW G [.ref (a 0), .int p1, .int p2, .int p3] (modelC G.2 a v0) sz) (va_Qi (fun r (u : DV) => f_X7_hours n0 v0 p1 p2 p3 = some (r, u)) (fun u t => atW G (modelC G.2 a u) (va_A (modelC G.2 a v0) sz) t) (va_A (modelC G.2 a v0) sz)) 0 0 (va_A (modelC G.2 a v0) sz) := by
  refine Met.ofW (cc := cX7_hours) (maxL := 5) (ret := (some .int)) (by decide) rfl ?_
  intro p e s m args below meth c s₁ B hml hv
  obtain ⟨rfl, hsz, hP, hD0, hamb⟩ := hv
  have hx := B.exec
  have hb := B.bytes
  have hr := B.returns
  have hts := atoms_spec (ws := wsX7_hours) B.pre
  have hown : s.vm.findClass RX7 = some m.cls := findClass_of_methodNamed B.named
  have hlocks := B.notSynchronized
  have hK := hamb.1
  subst hsz
  have hD := hD0.self (sz := s.heap.size)
  generalize hAe : va_A (modelC G.2 a v0) s.heap.size = A at hD ⊢
  have hA : ∀ q : Nat, s.heap.size ≤ q → A q := fun q h => by rw [← hAe]; exact Or.inr h
  have hS : va_S A s.heap s.heap [] := va_S.rf
  obtain ⟨res, hf0⟩ : ∃ res, f_X7_hours n0 v0 p1 p2 p3 = res := ⟨_, rfl⟩
  have hne : res ≠ none := hf0 ▸ hne
  have hf := hf0
  rw [f_X7_hours] at hf
  have hl := lv_entry ([.ref (a 0), .int p1, .int p2, .int p3]) (n := 5) (Nat.le_of_ble_eq_true rfl)
  rw [lg_entry_eq]
  generalize (lg_sl ([.ref (a 0), .int p1, .int p2, .int p3]) ++ List.replicate (5 - (lg_sl ([.ref (a 0), .int p1, .int p2, .int p3])).length) Slot.unset).toArray = ls at hl ⊢
  have hl : lv_has ls 5 [(0, .ref (a 0)), (1, .int p1), (2, .int p2), (3, .int p3)] := hl
  refine lv_aload_n hx hb dX7_hours_0 rfl (lv_at hl 0 rfl) ?_
  refine lv_iload_n hx hb dX7_hours_1 rfl (lv_at hl 1 rfl) ?_
  refine lv_iload_n hx hb dX7_hours_2 rfl (lv_at hl 2 rfl) ?_
  refine lv_iload_n hx hb dX7_hours_3 rfl (lv_at hl 3 rfl) ?_
  refine vp_callSi (W.runV (As := [.int p1, .int p2, .int p3]) (rest := []) ⟨hx, hb, hml, hown, hts⟩ (ok_X7_hoursFault l G a v0 p1 p2 p3) (cwV 3 hts gX7_hours_X7_hoursFault rfl rfl rfl (by decide +kernel) ⟨Nat.le_of_ble_eq_true rfl, Nat.le_of_ble_eq_true rfl⟩) ⟨pcR_blind, va_recv hK hP (ci := 7) (q0 := 0) rfl rfl, pcR_pre hP hamb⟩ rfl rfl hl.1 rfl (lv_room (Nat.le_of_ble_eq_true rfl)) dX7_hours_4 ⟨Nat.zero_le _, Nat.zero_le _⟩) (fun r4 hw => ?_)
  subst hw
  refine lv_istore (lv' := [(4, .int (f_X7_hoursFault v0 p1 p2 p3)), (0, .ref (a 0)), (1, .int p1), (2, .int p2), (3, .int p3)]) hx hb dX7_hours_7 hl (by decide) rfl (fun ls hl => ?_)
  refine lv_iload hx hb dX7_hours_9 (lv_at hl 0 rfl) ?_
  refine lv_if_ge (tgt := 17) hx hb dX7_hours_11 (by decide) (fun c => ?_) (fun c => ?_)
  · have hf := it_1 hf c
    refine lv_aload_n hx hb dX7_hours_17 rfl (lv_at hl 1 rfl) ?_
    have hn := bd1_1 hf hne
    refine cwv (va_runV (As := []) (rest := []) ⟨hx, hb, hml, hown, hts⟩ (ok_X7_know l G a s.heap.size n0 v0 hn) (cwV 0 hts gX7_hours_X7_know rfl rfl rfl (by decide +kernel) ⟨Nat.le_of_ble_eq_true rfl, Nat.le_of_ble_eq_true rfl⟩) ⟨pcW_blind, va_recv hK hP (ci := 7) (q0 := 0) rfl rfl, pcW_pre hP hD hamb⟩ rfl rfl hl.1 rfl (lv_room (Nat.le_of_ble_eq_true rfl)) dX7_hours_18 ⟨Nat.zero_le _, Nat.zero_le _⟩) (wr := []) hP hD hS hA [0, 1, 2, 3, 4, 5, 6, 7, 8] [] rfl rfl (by decide) (by decide) (fun v18 H locs hw hP hD hS => ?_)
    have hf := bd1_2 hf hw
    have hP : va_P G.1 vwCl (modelC G.2 a v18) H := hP
    have hD : va_D A (modelC G.2 a v18) := hD
    refine lv_aload_n hx hb dX7_hours_21 rfl (lv_at hl 1 rfl) ?_
    refine lv_iload_n hx hb dX7_hours_22 rfl (lv_at hl 2 rfl) ?_
    refine lv_iload_n hx hb dX7_hours_23 rfl (lv_at hl 3 rfl) ?_
    refine lv_iload_n hx hb dX7_hours_24 rfl (lv_at hl 4 rfl) ?_
    have hn := bd2_1 hf hne
    refine cwi (va_runV (As := [.int p1, .int p2, .int p3]) (rest := []) ⟨hx, hb, hml, hown, hts⟩ (ok_X7_putsHours l G a H.size v18 p1 p2 p3 hn) (cwV 3 hts gX7_hours_X7_putsHours rfl rfl rfl (by decide +kernel) ⟨Nat.le_of_ble_eq_true rfl, Nat.le_of_ble_eq_true rfl⟩) ⟨pcW_blind, va_recv hK hP (ci := 7) (q0 := 0) rfl rfl, pcW_pre hP hD hamb⟩ rfl rfl hl.1 rfl (lv_room (Nat.le_of_ble_eq_true rfl)) dX7_hours_25 ⟨Nat.zero_le _, Nat.zero_le _⟩) (wr := []) hP hD hS hA [0, 1, 2, 3, 4, 5, 6, 7, 8] [] rfl rfl (by decide) (by decide) (fun r25 v25 H locs hw hP hD hS => ?_)
    have hf := bd2_2 hf hw
    have hP : va_P G.1 vwCl (modelC G.2 a v25) H := hP
    have hD : va_D A (modelC G.2 a v25) := hD
    exact W.iret (v := r25) hx hb hr (fun t ht hW => ⟨⟨r25, v25, rfl, hf0.trans hf.symm, by rw [ht]; exact hP, hD⟩, hS.F ht⟩) hS.2.2 dX7_hours_28
  · have hf := it_2 hf c
    refine lv_iload hx hb dX7_hours_14 (lv_at hl 0 rfl) ?_
    exact W.iret (v := (f_X7_hoursFault v0 p1 p2 p3)) hx hb hr (fun t ht hW => ⟨⟨(f_X7_hoursFault v0 p1 p2 p3), v0, rfl, hf0.trans hf.symm, by rw [ht]; exact hP, hD⟩, hS.F ht⟩) hS.2.2 dX7_hours_16
set_option maxHeartbeats 4000000 in
set_option maxRecDepth 100000 in
theorem ok_X7_burn (l : Launch) (G : Gt) (a : Nat → Nat) (sz : Nat) (n0 : Nat) (v0 : DV) (p1 : Int32) (hne : f_X7_burn n0 v0 p1 ≠ none) : Met l yX7_burn wsX7_burn ({ frames := 3, cells := 0, slots := 0, locals := 64 } : Room) (pcW G [.ref (a 0), .int p1] (modelC G.2 a v0) sz) (va_Qi (fun r (u : DV) => f_X7_burn n0 v0 p1 = some (r, u)) (fun u t => atW G (modelC G.2 a u) (va_A (modelC G.2 a v0) sz) t) (va_A (modelC G.2 a v0) sz)) 0 0 (va_A (modelC G.2 a v0) sz) := by
  refine Met.ofW (cc := cX7_burn) (maxL := 3) (ret := (some .int)) (by decide) rfl ?_
  intro p e s m args below meth c s₁ B hml hv
  obtain ⟨rfl, hsz, hP, hD0, hamb⟩ := hv
  have hx := B.exec
  have hb := B.bytes
  have hr := B.returns
  have hts := atoms_spec (ws := wsX7_burn) B.pre
  have hown : s.vm.findClass RX7 = some m.cls := findClass_of_methodNamed B.named
  have hlocks := B.notSynchronized
  have hK := hamb.1
  subst hsz
  have hD := hD0.self (sz := s.heap.size)
  generalize hAe : va_A (modelC G.2 a v0) s.heap.size = A at hD ⊢
  have hA : ∀ q : Nat, s.heap.size ≤ q → A q := fun q h => by rw [← hAe]; exact Or.inr h
  have hS : va_S A s.heap s.heap [] := va_S.rf
  obtain ⟨res, hf0⟩ : ∃ res, f_X7_burn n0 v0 p1 = res := ⟨_, rfl⟩
  have hne : res ≠ none := hf0 ▸ hne
  have hf := hf0
  rw [f_X7_burn] at hf
  have hl := lv_entry ([.ref (a 0), .int p1]) (n := 3) (Nat.le_of_ble_eq_true rfl)
  rw [lg_entry_eq]
  generalize (lg_sl ([.ref (a 0), .int p1]) ++ List.replicate (3 - (lg_sl ([.ref (a 0), .int p1])).length) Slot.unset).toArray = ls at hl ⊢
  have hl : lv_has ls 3 [(0, .ref (a 0)), (1, .int p1)] := hl
  refine lv_aload_n hx hb dX7_burn_0 rfl (lv_at hl 0 rfl) ?_
  refine lv_iload_n hx hb dX7_burn_1 rfl (lv_at hl 1 rfl) ?_
  have hn := bd1_1 hf hne
  refine vp_callSi (W.runV (As := [.int p1]) (rest := []) ⟨hx, hb, hml, hown, hts⟩ (ok_X7_burnFault l G a v0 p1 hn) (cwV 1 hts gX7_burn_X7_burnFault rfl rfl rfl (by decide +kernel) ⟨Nat.le_of_ble_eq_true rfl, Nat.le_of_ble_eq_true rfl⟩) ⟨pcR_blind, va_recv hK hP (ci := 7) (q0 := 0) rfl rfl, pcR_pre hP hamb⟩ rfl rfl hl.1 rfl (lv_room (Nat.le_of_ble_eq_true rfl)) dX7_burn_2 ⟨Nat.zero_le _, Nat.zero_le _⟩) (fun r2 hw => ?_)
  have hf := bd1_2 hf hw
  refine lv_istore_n (lv' := [(2, .int r2), (0, .ref (a 0)), (1, .int p1)]) hx hb dX7_burn_5 rfl hl (by decide) rfl (fun ls hl => ?_)
  refine lv_iload_n hx hb dX7_burn_6 rfl (lv_at hl 0 rfl) ?_
  refine lv_if_ge (tgt := 12) hx hb dX7_burn_7 (by decide) (fun c => ?_) (fun c => ?_)
  · have hf := it_1 hf c
    refine lv_aload_n hx hb dX7_burn_12 rfl (lv_at hl 1 rfl) ?_
    have hn := bd1_1 hf hne
    refine cwv (va_runV (As := []) (rest := []) ⟨hx, hb, hml, hown, hts⟩ (ok_X7_know l G a s.heap.size n0 v0 hn) (cwV 0 hts gX7_burn_X7_know rfl rfl rfl (by decide +kernel) ⟨Nat.le_of_ble_eq_true rfl, Nat.le_of_ble_eq_true rfl⟩) ⟨pcW_blind, va_recv hK hP (ci := 7) (q0 := 0) rfl rfl, pcW_pre hP hD hamb⟩ rfl rfl hl.1 rfl (lv_room (Nat.le_of_ble_eq_true rfl)) dX7_burn_13 ⟨Nat.zero_le _, Nat.zero_le _⟩) (wr := []) hP hD hS hA [0, 1, 2, 3, 4, 5, 6, 7, 8] [] rfl rfl (by decide) (by decide) (fun v13 H locs hw hP hD hS => ?_)
    have hf := bd1_2 hf hw
    have hP : va_P G.1 vwCl (modelC G.2 a v13) H := hP
    have hD : va_D A (modelC G.2 a v13) := hD
    refine lv_aload_n hx hb dX7_burn_16 rfl (lv_at hl 1 rfl) ?_
    refine lv_iload_n hx hb dX7_burn_17 rfl (lv_at hl 2 rfl) ?_
    have hn := bd2_1 hf hne
    refine cwi (va_runV (As := [.int p1]) (rest := []) ⟨hx, hb, hml, hown, hts⟩ (ok_X7_burns l G a H.size v13 p1 hn) (cwV 1 hts gX7_burn_X7_burns rfl rfl rfl (by decide +kernel) ⟨Nat.le_of_ble_eq_true rfl, Nat.le_of_ble_eq_true rfl⟩) ⟨pcW_blind, va_recv hK hP (ci := 7) (q0 := 0) rfl rfl, pcW_pre hP hD hamb⟩ rfl rfl hl.1 rfl (lv_room (Nat.le_of_ble_eq_true rfl)) dX7_burn_18 ⟨Nat.zero_le _, Nat.zero_le _⟩) (wr := []) hP hD hS hA [0, 1, 2, 3, 4, 5, 6, 7, 8] [] rfl rfl (by decide) (by decide) (fun r18 v18 H locs hw hP hD hS => ?_)
    have hf := bd2_2 hf hw
    have hP : va_P G.1 vwCl (modelC G.2 a v18) H := hP
    have hD : va_D A (modelC G.2 a v18) := hD
    exact W.iret (v := r18) hx hb hr (fun t ht hW => ⟨⟨r18, v18, rfl, hf0.trans hf.symm, by rw [ht]; exact hP, hD⟩, hS.F ht⟩) hS.2.2 dX7_burn_21
  · have hf := it_2 hf c
    refine lv_iload_n hx hb dX7_burn_10 rfl (lv_at hl 0 rfl) ?_
    exact W.iret (v := r2) hx hb hr (fun t ht hW => ⟨⟨r2, v0, rfl, hf0.trans hf.symm, by rw [ht]; exact hP, hD⟩, hS.F ht⟩) hS.2.2 dX7_burn_11
set_option maxHeartbeats 4000000 in
set_option maxRecDepth 100000 in
theorem ok_X7_pass (l : Launch) (G : Gt) (a : Nat → Nat) (sz : Nat) (n0 : Nat) (v0 : DV) (p1 : Int32) (hne : f_X7_pass n0 v0 p1 ≠ none) : Met l yX7_pass wsX7_pass ({ frames := 5, cells := 0, slots := 0, locals := 110 } : Room) (pcW G [.ref (a 0), .int p1] (modelC G.2 a v0) sz) (va_Qi (fun r (u : DV) => f_X7_pass n0 v0 p1 = some (r, u)) (fun u t => atW G (modelC G.2 a u) (va_A (modelC G.2 a v0) sz) t) (va_A (modelC G.2 a v0) sz)) 0 0 (va_A (modelC G.2 a v0) sz) := by
  refine Met.ofW (cc := cX7_pass) (maxL := 3) (ret := (some .int)) (by decide) rfl ?_
  intro p e s m args below meth c s₁ B hml hv
  obtain ⟨rfl, hsz, hP, hD0, hamb⟩ := hv
  have hx := B.exec
  have hb := B.bytes
  have hr := B.returns
  have hts := atoms_spec (ws := wsX7_pass) B.pre
  have hown : s.vm.findClass RX7 = some m.cls := findClass_of_methodNamed B.named
  have hlocks := B.notSynchronized
  have hK := hamb.1
  subst hsz
  have hD := hD0.self (sz := s.heap.size)
  generalize hAe : va_A (modelC G.2 a v0) s.heap.size = A at hD ⊢
  have hA : ∀ q : Nat, s.heap.size ≤ q → A q := fun q h => by rw [← hAe]; exact Or.inr h
  have hS : va_S A s.heap s.heap [] := va_S.rf
  obtain ⟨res, hf0⟩ : ∃ res, f_X7_pass n0 v0 p1 = res := ⟨_, rfl⟩
  have hne : res ≠ none := hf0 ▸ hne
  have hf := hf0
  rw [f_X7_pass] at hf
  have hl := lv_entry ([.ref (a 0), .int p1]) (n := 3) (Nat.le_of_ble_eq_true rfl)
  rw [lg_entry_eq]
  generalize (lg_sl ([.ref (a 0), .int p1]) ++ List.replicate (3 - (lg_sl ([.ref (a 0), .int p1])).length) Slot.unset).toArray = ls at hl ⊢
  have hl : lv_has ls 3 [(0, .ref (a 0)), (1, .int p1)] := hl
  refine lv_aload_n hx hb dX7_pass_0 rfl (lv_at hl 0 rfl) ?_
  refine lv_iload_n hx hb dX7_pass_1 rfl (lv_at hl 1 rfl) ?_
  have hn := bd1_1 hf hne
  refine vp_callSi (W.runV (As := [.int p1]) (rest := []) ⟨hx, hb, hml, hown, hts⟩ (ok_X7_passFault l G a v0 p1 hn) (cwV 1 hts gX7_pass_X7_passFault rfl rfl rfl (by decide +kernel) ⟨Nat.le_of_ble_eq_true rfl, Nat.le_of_ble_eq_true rfl⟩) ⟨pcR_blind, va_recv hK hP (ci := 7) (q0 := 0) rfl rfl, pcR_pre hP hamb⟩ rfl rfl hl.1 rfl (lv_room (Nat.le_of_ble_eq_true rfl)) dX7_pass_2 ⟨Nat.zero_le _, Nat.zero_le _⟩) (fun r2 hw => ?_)
  have hf := bd1_2 hf hw
  refine lv_istore_n (lv' := [(2, .int r2), (0, .ref (a 0)), (1, .int p1)]) hx hb dX7_pass_5 rfl hl (by decide) rfl (fun ls hl => ?_)
  refine lv_iload_n hx hb dX7_pass_6 rfl (lv_at hl 0 rfl) ?_
  refine lv_if_ge (tgt := 12) hx hb dX7_pass_7 (by decide) (fun c => ?_) (fun c => ?_)
  · have hf := it_1 hf c
    refine lv_aload_n hx hb dX7_pass_12 rfl (lv_at hl 1 rfl) ?_
    have hn := bd1_1 hf hne
    refine cwv (va_runV (As := []) (rest := []) ⟨hx, hb, hml, hown, hts⟩ (ok_X7_know l G a s.heap.size n0 v0 hn) (cwV 0 hts gX7_pass_X7_know rfl rfl rfl (by decide +kernel) ⟨Nat.le_of_ble_eq_true rfl, Nat.le_of_ble_eq_true rfl⟩) ⟨pcW_blind, va_recv hK hP (ci := 7) (q0 := 0) rfl rfl, pcW_pre hP hD hamb⟩ rfl rfl hl.1 rfl (lv_room (Nat.le_of_ble_eq_true rfl)) dX7_pass_13 ⟨Nat.zero_le _, Nat.zero_le _⟩) (wr := []) hP hD hS hA [0, 1, 2, 3, 4, 5, 6, 7, 8] [] rfl rfl (by decide) (by decide) (fun v13 H locs hw hP hD hS => ?_)
    have hf := bd1_2 hf hw
    have hP : va_P G.1 vwCl (modelC G.2 a v13) H := hP
    have hD : va_D A (modelC G.2 a v13) := hD
    refine lv_aload_n hx hb dX7_pass_16 rfl (lv_at hl 1 rfl) ?_
    refine lv_iload_n hx hb dX7_pass_17 rfl (lv_at hl 2 rfl) ?_
    have hn := bd2_1 hf hne
    refine cwi (va_runV (As := [.int p1]) (rest := []) ⟨hx, hb, hml, hown, hts⟩ (ok_X7_passes l G a H.size n0 v13 p1 hn) (cwV 1 hts gX7_pass_X7_passes rfl rfl rfl (by decide +kernel) ⟨Nat.le_of_ble_eq_true rfl, Nat.le_of_ble_eq_true rfl⟩) ⟨pcW_blind, va_recv hK hP (ci := 7) (q0 := 0) rfl rfl, pcW_pre hP hD hamb⟩ rfl rfl hl.1 rfl (lv_room (Nat.le_of_ble_eq_true rfl)) dX7_pass_18 ⟨Nat.zero_le _, Nat.zero_le _⟩) (wr := []) hP hD hS hA [0, 1, 2, 3, 4, 5, 6, 7, 8] [] rfl rfl (by decide) (by decide) (fun r18 v18 H locs hw hP hD hS => ?_)
    have hf := bd2_2 hf hw
    have hP : va_P G.1 vwCl (modelC G.2 a v18) H := hP
    have hD : va_D A (modelC G.2 a v18) := hD
    exact W.iret (v := r18) hx hb hr (fun t ht hW => ⟨⟨r18, v18, rfl, hf0.trans hf.symm, by rw [ht]; exact hP, hD⟩, hS.F ht⟩) hS.2.2 dX7_pass_21
  · have hf := it_2 hf c
    refine lv_iload_n hx hb dX7_pass_10 rfl (lv_at hl 0 rfl) ?_
    exact W.iret (v := r2) hx hb hr (fun t ht hW => ⟨⟨r2, v0, rfl, hf0.trans hf.symm, by rw [ht]; exact hP, hD⟩, hS.F ht⟩) hS.2.2 dX7_pass_11
