set_option maxHeartbeats 4000000 in
set_option maxRecDepth 100000 in
theorem ok_X7_answering (l : Launch) (G : Gt) (a : Nat → Nat) (n0 : Nat) (v0 : DV) (p1 : Int32) (hne : f_X7_answering n0 v0 p1 ≠ none) : Met l yX7_answering wsX7_answering ({ frames := 1, cells := 0, slots := 0, locals := 21 } : Room) (pcR G [.ref (a 0), .int p1] (modelC G.2 a v0)) (vp_Si (fun r => f_X7_answering n0 v0 p1 = some r)) 0 0 (fun _ => False) := by
  refine Met.ofW (cc := cX7_answering) (maxL := 4) (ret := (some .int)) (by decide) rfl ?_
  intro p e s m args below meth c s₁ B hml hv
  obtain ⟨rfl, hP, hamb⟩ := hv
  have hx := B.exec
  have hb := B.bytes
  have hr := B.returns
  have hts := atoms_spec (ws := wsX7_answering) B.pre
  have hown : s.vm.findClass RX7 = some m.cls := findClass_of_methodNamed B.named
  have hlocks := B.notSynchronized
  have hK := hamb.1
  obtain ⟨res, hf0⟩ : ∃ res, f_X7_answering n0 v0 p1 = res := ⟨_, rfl⟩
  have hne : res ≠ none := hf0 ▸ hne
  have hf := hf0
  rw [f_X7_answering] at hf
  have hinX7 : ∀ w ∈ u_ws RX7 TX7 16, w ∈ wsX7_answering := by decide +kernel
  have lk7 := hts (.fieldLink RX7 7 "MoodDrawersModel" "s" "[I") (by decide +kernel)
  have hl := lv_entry ([.ref (a 0), .int p1]) (n := 4) (Nat.le_of_ble_eq_true rfl)
  rw [lg_entry_eq]
  generalize (lg_sl ([.ref (a 0), .int p1]) ++ List.replicate (4 - (lg_sl ([.ref (a 0), .int p1])).length) Slot.unset).toArray = ls at hl ⊢
  have hl : lv_has ls 4 [(0, .ref (a 0)), (1, .int p1)] := hl
  have L4 : ∀ (n : Nat) (v : DV) (x1 : Int32) (x2 : Int32) (x3 : Int32) (ls : Array Slot), va_P G.1 vwCl (modelC G.2 a v) s.heap → lv_has ls 4 [(0, .ref (a 0)), (1, .int x1), (2, .int x2), (3, .int x3)] → f_X7_answering_L4 n v x1 x2 x3 = res → W p l e (headSpec wsX7_answering ({ frames := 1, cells := 0, slots := 0, locals := 21 } : Room)).room s m ([.ref (a 0), .int p1] : List Value).toArray below meth c s.heap [] 0 0 (MQ below (vp_Si (fun r => f_X7_answering n0 v0 p1 = some r)) ([.ref (a 0), .int p1] : List Value).toArray s 0 0 (fun _ => False)) (F0 m 4 ls []) := by
    intro n
    induction n with
    | zero => intro v x1 x2 x3 ls hP hl hf; exact (none_1 hf hne).elim
    | succ n ih =>
      intro v x1 x2 x3 ls hP hl hf
      rw [f_X7_answering_L4] at hf
      refine lv_iload_n hx hb dX7_answering_4 rfl (lv_at hl 3 rfl) ?_
      refine lv_aload_n hx hb dX7_answering_5 rfl (lv_at hl 0 rfl) ?_
      refine va_get (D := G.1) (ci := 7) (v := .ref (a 1)) (C := RX7) (T := TX7) (N := 16) hx hb hts hinX7 hown hK hP 0 rfl rfl 0 (by decide) lk7 (fun _ h9 => h9) rfl dX7_answering_6 ?_
      refine lv_iconst (v := 5) hx hb dX7_answering_9 (by decide) ?_
      refine va_iald (f := (v 0)) hx hb hK hP 1 0 rfl rfl (ixb_1 (show ixb 5 240 = true from rfl)) dX7_answering_10 ?_
      refine lv_icmp_ge (tgt := 42) hx hb dX7_answering_11 (by decide) (fun c => ?_) (fun c => ?_)
      · have hf := it_1 hf c
        refine lv_iload_n hx hb dX7_answering_42 rfl (lv_at hl 2 rfl) ?_
        exact W.iret (v := x2) hx hb hr (fun t ht hW => ⟨x2, rfl, hf0.trans hf.symm, ht⟩) (fun _ hq => absurd hq List.not_mem_nil) dX7_answering_43
      · have hf := it_2 hf c
        refine lv_iload_n hx hb dX7_answering_14 rfl (lv_at hl 2 rfl) ?_
        refine lv_aload_n hx hb dX7_answering_15 rfl (lv_at hl 0 rfl) ?_
        refine va_get (D := G.1) (ci := 7) (v := .ref (a 1)) (C := RX7) (T := TX7) (N := 16) hx hb hts hinX7 hown hK hP 0 rfl rfl 0 (by decide) lk7 (fun _ h9 => h9) rfl dX7_answering_16 ?_
        refine lv_iload_n hx hb dX7_answering_19 rfl (lv_at hl 3 rfl) ?_
        refine lv_iconst (v := 5) hx hb dX7_answering_20 (by decide) ?_
        refine vp_callSi (W.runS (As := [.int x3, .int 5]) (rest := [.ref (a 1), .int x2]) ⟨hx, hb, hml, hown, hts⟩ (ok_X7_ofL l x3 5) (va_cwS 2 hts gX7_answering_X7_ofL rfl rfl rfl (by decide +kernel) ⟨Nat.le_of_ble_eq_true rfl, Nat.le_of_ble_eq_true rfl⟩) ⟨fun _ _ _ _ q => q, fun _ _ _ => ⟨rfl, trivial⟩⟩ rfl rfl hl.1 rfl (lv_room (Nat.le_of_ble_eq_true rfl)) dX7_answering_21 ⟨Nat.zero_le _, Nat.zero_le _⟩) (fun r21 hw => ?_)
        subst hw
        obtain ⟨hi, hf⟩ := ck_1 hf hne
        refine va_iald (f := (v 0)) hx hb hK hP 1 0 rfl rfl (ixb_1 hi) dX7_answering_24 ?_
        refine lv_iload_n hx hb dX7_answering_25 rfl (lv_at hl 1 rfl) ?_
        refine lv_icmp_ne (tgt := 33) hx hb dX7_answering_26 (by decide) (fun c => ?_) (fun c => ?_)
        · have hf := it_2 hf c
          refine lv_iconst (v := 0) hx hb dX7_answering_33 (by decide) ?_
          refine lv_iadd hx hb dX7_answering_34 ?_
          refine lv_istore_n (lv' := [(2, .int (x2 + 0)), (0, .ref (a 0)), (1, .int x1), (3, .int x3)]) hx hb dX7_answering_35 rfl hl (by decide) rfl (fun ls hl => ?_)
          refine lv_iinc (v := (x3 + 1)) (lv' := [(3, .int (x3 + 1)), (2, .int (x2 + 0)), (0, .ref (a 0)), (1, .int x1)]) hx hb dX7_answering_36 hl (k := 3) rfl rfl (by decide) rfl (fun ls hl => ?_)
          refine lv_goto (tgt := 4) hx hb dX7_answering_39 (by decide) ?_
          exact ih v x1 (x2 + 0) (x3 + 1) ls hP (lv_sub hl [2, 3, 1, 0] rfl) hf
        · have hf := it_1 hf c
          refine lv_iconst (v := 1) hx hb dX7_answering_29 (by decide) ?_
          refine lv_goto (tgt := 34) hx hb dX7_answering_30 (by decide) ?_
          refine lv_iadd hx hb dX7_answering_34 ?_
          refine lv_istore_n (lv' := [(2, .int (x2 + 1)), (0, .ref (a 0)), (1, .int x1), (3, .int x3)]) hx hb dX7_answering_35 rfl hl (by decide) rfl (fun ls hl => ?_)
          refine lv_iinc (v := (x3 + 1)) (lv' := [(3, .int (x3 + 1)), (2, .int (x2 + 1)), (0, .ref (a 0)), (1, .int x1)]) hx hb dX7_answering_36 hl (k := 3) rfl rfl (by decide) rfl (fun ls hl => ?_)
          refine lv_goto (tgt := 4) hx hb dX7_answering_39 (by decide) ?_
          exact ih v x1 (x2 + 1) (x3 + 1) ls hP (lv_sub hl [2, 3, 1, 0] rfl) hf
  refine lv_iconst (v := 0) hx hb dX7_answering_0 (by decide) ?_
  refine lv_istore_n (lv' := [(2, .int 0), (0, .ref (a 0)), (1, .int p1)]) hx hb dX7_answering_1 rfl hl (by decide) rfl (fun ls hl => ?_)
  refine lv_iconst (v := 0) hx hb dX7_answering_2 (by decide) ?_
  refine lv_istore_n (lv' := [(3, .int 0), (2, .int 0), (0, .ref (a 0)), (1, .int p1)]) hx hb dX7_answering_3 rfl hl (by decide) rfl (fun ls hl => ?_)
  exact L4 n0 v0 p1 0 0 ls hP (lv_sub hl [2, 3, 1, 0] rfl) hf
set_option maxHeartbeats 4000000 in
set_option maxRecDepth 100000 in
theorem ok_X7_depth (l : Launch) (G : Gt) (a : Nat → Nat) (n0 : Nat) (v0 : DV) (p1 : Int32) (hne : f_X7_depth n0 v0 p1 ≠ none) : Met l yX7_depth wsX7_depth ({ frames := 1, cells := 0, slots := 0, locals := 21 } : Room) (pcR G [.ref (a 0), .int p1] (modelC G.2 a v0)) (vp_Si (fun r => f_X7_depth n0 v0 p1 = some r)) 0 0 (fun _ => False) := by
  refine Met.ofW (cc := cX7_depth) (maxL := 4) (ret := (some .int)) (by decide) rfl ?_
  intro p e s m args below meth c s₁ B hml hv
  obtain ⟨rfl, hP, hamb⟩ := hv
  have hx := B.exec
  have hb := B.bytes
  have hr := B.returns
  have hts := atoms_spec (ws := wsX7_depth) B.pre
  have hown : s.vm.findClass RX7 = some m.cls := findClass_of_methodNamed B.named
  have hlocks := B.notSynchronized
  have hK := hamb.1
  obtain ⟨res, hf0⟩ : ∃ res, f_X7_depth n0 v0 p1 = res := ⟨_, rfl⟩
  have hne : res ≠ none := hf0 ▸ hne
  have hf := hf0
  rw [f_X7_depth] at hf
  have hinX7 : ∀ w ∈ u_ws RX7 TX7 16, w ∈ wsX7_depth := by decide +kernel
  have lk7 := hts (.fieldLink RX7 7 "MoodDrawersModel" "s" "[I") (by decide +kernel)
  have hl := lv_entry ([.ref (a 0), .int p1]) (n := 4) (Nat.le_of_ble_eq_true rfl)
  rw [lg_entry_eq]
  generalize (lg_sl ([.ref (a 0), .int p1]) ++ List.replicate (4 - (lg_sl ([.ref (a 0), .int p1])).length) Slot.unset).toArray = ls at hl ⊢
  have hl : lv_has ls 4 [(0, .ref (a 0)), (1, .int p1)] := hl
  have L4 : ∀ (n : Nat) (v : DV) (x2 : Int32) (x3 : Int32) (ls : Array Slot), va_P G.1 vwCl (modelC G.2 a v) s.heap → lv_has ls 4 [(0, .ref (a 0)), (2, .int x2), (3, .int x3)] → f_X7_depth_L4 n v x2 x3 = res → W p l e (headSpec wsX7_depth ({ frames := 1, cells := 0, slots := 0, locals := 21 } : Room)).room s m ([.ref (a 0), .int p1] : List Value).toArray below meth c s.heap [] 0 0 (MQ below (vp_Si (fun r => f_X7_depth n0 v0 p1 = some r)) ([.ref (a 0), .int p1] : List Value).toArray s 0 0 (fun _ => False)) (F0 m 4 ls []) := by
    intro n
    induction n with
    | zero => intro v x2 x3 ls hP hl hf; exact (none_1 hf hne).elim
    | succ n ih =>
      intro v x2 x3 ls hP hl hf
      rw [f_X7_depth_L4] at hf
      refine lv_aload_n hx hb dX7_depth_4 rfl (lv_at hl 0 rfl) ?_
      refine va_get (D := G.1) (ci := 7) (v := .ref (a 1)) (C := RX7) (T := TX7) (N := 16) hx hb hts hinX7 hown hK hP 0 rfl rfl 0 (by decide) lk7 (fun _ h9 => h9) rfl dX7_depth_5 ?_
      refine lv_iload_n hx hb dX7_depth_8 rfl (lv_at hl 2 rfl) ?_
      refine lv_iconst (v := 5) hx hb dX7_depth_9 (by decide) ?_
      refine vp_callSi (W.runS (As := [.int x3, .int 5]) (rest := [.ref (a 1)]) ⟨hx, hb, hml, hown, hts⟩ (ok_X7_ofL l x3 5) (va_cwS 2 hts gX7_depth_X7_ofL rfl rfl rfl (by decide +kernel) ⟨Nat.le_of_ble_eq_true rfl, Nat.le_of_ble_eq_true rfl⟩) ⟨fun _ _ _ _ q => q, fun _ _ _ => ⟨rfl, trivial⟩⟩ rfl rfl hl.1 rfl (lv_room (Nat.le_of_ble_eq_true rfl)) dX7_depth_10 ⟨Nat.zero_le _, Nat.zero_le _⟩) (fun r10 hw => ?_)
      subst hw
      obtain ⟨hi, hf⟩ := ck_1 hf hne
      refine va_iald (f := (v 0)) hx hb hK hP 1 0 rfl rfl (ixb_1 hi) dX7_depth_13 ?_
      refine lv_bipush (v := (-6)) hx hb dX7_depth_14 (by decide) ?_
      refine lv_icmp_eq (tgt := 36) hx hb dX7_depth_16 (by decide) (fun c => ?_) (fun c => ?_)
      · have hf := it_1 hf c
        refine lv_iload_n hx hb dX7_depth_36 rfl (lv_at hl 1 rfl) ?_
        exact W.iret (v := x2) hx hb hr (fun t ht hW => ⟨x2, rfl, hf0.trans hf.symm, ht⟩) (fun _ hq => absurd hq List.not_mem_nil) dX7_depth_37
      · have hf := it_2 hf c
        refine lv_aload_n hx hb dX7_depth_19 rfl (lv_at hl 0 rfl) ?_
        refine va_get (D := G.1) (ci := 7) (v := .ref (a 1)) (C := RX7) (T := TX7) (N := 16) hx hb hts hinX7 hown hK hP 0 rfl rfl 0 (by decide) lk7 (fun _ h9 => h9) rfl dX7_depth_20 ?_
        refine lv_iload_n hx hb dX7_depth_23 rfl (lv_at hl 2 rfl) ?_
        refine lv_iconst (v := 5) hx hb dX7_depth_24 (by decide) ?_
        refine vp_callSi (W.runS (As := [.int x3, .int 5]) (rest := [.ref (a 1)]) ⟨hx, hb, hml, hown, hts⟩ (ok_X7_ofL l x3 5) (va_cwS 2 hts gX7_depth_X7_ofL rfl rfl rfl (by decide +kernel) ⟨Nat.le_of_ble_eq_true rfl, Nat.le_of_ble_eq_true rfl⟩) ⟨fun _ _ _ _ q => q, fun _ _ _ => ⟨rfl, trivial⟩⟩ rfl rfl hl.1 rfl (lv_room (Nat.le_of_ble_eq_true rfl)) dX7_depth_25 ⟨Nat.zero_le _, Nat.zero_le _⟩) (fun r25 hw => ?_)
        subst hw
        obtain ⟨hi, hf⟩ := ck_1 hf hne
        refine va_iald (f := (v 0)) hx hb hK hP 1 0 rfl rfl (ixb_1 hi) dX7_depth_28 ?_
        refine lv_istore_n (lv' := [(3, .int ((v 0) (Int32.toNatClampNeg (f_X7_ofL x3 5)))), (0, .ref (a 0)), (2, .int x2)]) hx hb dX7_depth_29 rfl hl (by decide) rfl (fun ls hl => ?_)
        refine lv_iinc (v := (x2 + 1)) (lv' := [(2, .int (x2 + 1)), (3, .int ((v 0) (Int32.toNatClampNeg (f_X7_ofL x3 5)))), (0, .ref (a 0))]) hx hb dX7_depth_30 hl (k := 2) rfl rfl (by decide) rfl (fun ls hl => ?_)
        refine lv_goto (tgt := 4) hx hb dX7_depth_33 (by decide) ?_
        exact ih v (x2 + 1) ((v 0) (Int32.toNatClampNeg (f_X7_ofL x3 5))) ls hP (lv_sub hl [2, 0, 1] rfl) hf
  refine lv_iconst (v := 0) hx hb dX7_depth_0 (by decide) ?_
  refine lv_istore_n (lv' := [(2, .int 0), (0, .ref (a 0)), (1, .int p1)]) hx hb dX7_depth_1 rfl hl (by decide) rfl (fun ls hl => ?_)
  refine lv_iload_n hx hb dX7_depth_2 rfl (lv_at hl 2 rfl) ?_
  refine lv_istore_n (lv' := [(3, .int p1), (2, .int 0), (0, .ref (a 0)), (1, .int p1)]) hx hb dX7_depth_3 rfl hl (by decide) rfl (fun ls hl => ?_)
  exact L4 n0 v0 0 p1 ls hP (lv_sub hl [2, 1, 0] rfl) hf
set_option maxHeartbeats 4000000 in
set_option maxRecDepth 100000 in
theorem ok_X7_ofLetter (l : Launch) (G : Gt) (a : Nat → Nat) (sz : Nat) (n0 : Nat) (v0 : DV) (p1 : Int32) (p2 : Int32) (hne : f_X7_ofLetter n0 v0 p1 p2 ≠ none) : Met l yX7_ofLetter wsX7_ofLetter ({ frames := 3, cells := 0, slots := 0, locals := 65 } : Room) (pcW G [.ref (a 0), .int p1, .int p2] (modelC G.2 a v0) sz) (va_Qi (fun r (u : DV) => f_X7_ofLetter n0 v0 p1 p2 = some (r, u)) (fun u t => atW G (modelC G.2 a u) (va_A (modelC G.2 a v0) sz) t) (va_A (modelC G.2 a v0) sz)) 0 0 (va_A (modelC G.2 a v0) sz) := by
  refine Met.ofW (cc := cX7_ofLetter) (maxL := 3) (ret := (some .int)) (by decide) rfl ?_
  intro p e s m args below meth c s₁ B hml hv
  obtain ⟨rfl, hsz, hP, hD0, hamb⟩ := hv
  have hx := B.exec
  have hb := B.bytes
  have hr := B.returns
  have hts := atoms_spec (ws := wsX7_ofLetter) B.pre
  have hown : s.vm.findClass RX7 = some m.cls := findClass_of_methodNamed B.named
  have hlocks := B.notSynchronized
  have hK := hamb.1
  subst hsz
  have hD := hD0.self (sz := s.heap.size)
  generalize hAe : va_A (modelC G.2 a v0) s.heap.size = A at hD ⊢
  have hA : ∀ q : Nat, s.heap.size ≤ q → A q := fun q h => by rw [← hAe]; exact Or.inr h
  have hS : va_S A s.heap s.heap [] := va_S.rf
  obtain ⟨res, hf0⟩ : ∃ res, f_X7_ofLetter n0 v0 p1 p2 = res := ⟨_, rfl⟩
  have hne : res ≠ none := hf0 ▸ hne
  have hf := hf0
  rw [f_X7_ofLetter] at hf
  have hinX7 : ∀ w ∈ u_ws RX7 TX7 16, w ∈ wsX7_ofLetter := by decide +kernel
  have lk7 := hts (.fieldLink RX7 7 "MoodDrawersModel" "s" "[I") (by decide +kernel)
  have lk29 := hts (.fieldLink RX7 29 "MoodDrawersModel" "regrets" "[I") (by decide +kernel)
  have hl := lv_entry ([.ref (a 0), .int p1, .int p2]) (n := 3) (Nat.le_of_ble_eq_true rfl)
  rw [lg_entry_eq]
  generalize (lg_sl ([.ref (a 0), .int p1, .int p2]) ++ List.replicate (3 - (lg_sl ([.ref (a 0), .int p1, .int p2])).length) Slot.unset).toArray = ls at hl ⊢
  have hl : lv_has ls 3 [(0, .ref (a 0)), (1, .int p1), (2, .int p2)] := hl
  refine lv_aload_n hx hb dX7_ofLetter_0 rfl (lv_at hl 0 rfl) ?_
  refine lv_iload_n hx hb dX7_ofLetter_1 rfl (lv_at hl 1 rfl) ?_
  have hn := bd1_1 hf hne
  refine vp_callSi (W.runV (As := [.int p1]) (rest := []) ⟨hx, hb, hml, hown, hts⟩ (ok_X7_isLetter l G a v0 p1 hn) (cwV 1 hts gX7_ofLetter_X7_isLetter rfl rfl rfl (by decide +kernel) ⟨Nat.le_of_ble_eq_true rfl, Nat.le_of_ble_eq_true rfl⟩) ⟨pcR_blind, va_recv hK hP (ci := 7) (q0 := 0) rfl rfl, pcR_pre hP hamb⟩ rfl rfl hl.1 rfl (lv_room (Nat.le_of_ble_eq_true rfl)) dX7_ofLetter_2 ⟨Nat.zero_le _, Nat.zero_le _⟩) (fun r2 hw => ?_)
  have hf := bd1_2 hf hw
  refine lv_if_ne (tgt := 10) hx hb dX7_ofLetter_5 (by decide) (fun c => ?_) (fun c => ?_)
  · have hf := it_2 hf c
    refine lv_iload_n hx hb dX7_ofLetter_10 rfl (lv_at hl 2 rfl) ?_
    by_cases c0 : p2 = 0
    · have hf := it_1 hf c0
      refine lv_tableIn (off := 53) (tgt := 64) hx hb dX7_ofLetter_11 (by rw [c0]; decide) (by rw [c0]; decide) (by rw [c0]; rfl) (by decide) ?_
      refine lv_aload_n hx hb dX7_ofLetter_64 rfl (lv_at hl 0 rfl) ?_
      refine va_get (D := G.1) (ci := 7) (v := .ref (a 1)) (C := RX7) (T := TX7) (N := 16) hx hb hts hinX7 hown hK hP 0 rfl rfl 0 (by decide) lk7 (fun _ h9 => h9) rfl dX7_ofLetter_65 ?_
      refine lv_iload_n hx hb dX7_ofLetter_68 rfl (lv_at hl 1 rfl) ?_
      refine lv_iload_n hx hb dX7_ofLetter_69 rfl (lv_at hl 2 rfl) ?_
      refine vp_callSi (W.runS (As := [.int p1, .int p2]) (rest := [.ref (a 1)]) ⟨hx, hb, hml, hown, hts⟩ (ok_X7_ofL l p1 p2) (va_cwS 2 hts gX7_ofLetter_X7_ofL rfl rfl rfl (by decide +kernel) ⟨Nat.le_of_ble_eq_true rfl, Nat.le_of_ble_eq_true rfl⟩) ⟨fun _ _ _ _ q => q, fun _ _ _ => ⟨rfl, trivial⟩⟩ rfl rfl hl.1 rfl (lv_room (Nat.le_of_ble_eq_true rfl)) dX7_ofLetter_70 ⟨Nat.zero_le _, Nat.zero_le _⟩) (fun r70 hw => ?_)
      subst hw
      obtain ⟨hi, hf⟩ := ck_1 hf hne
      refine va_iald (f := (v0 0)) hx hb hK hP 1 0 rfl rfl (ixb_1 hi) dX7_ofLetter_73 ?_
      exact W.iret (v := ((v0 0) (Int32.toNatClampNeg (f_X7_ofL p1 p2)))) hx hb hr (fun t ht hW => ⟨⟨((v0 0) (Int32.toNatClampNeg (f_X7_ofL p1 p2))), v0, rfl, hf0.trans hf.symm, by rw [ht]; exact hP, hD⟩, hS.F ht⟩) hS.2.2 dX7_ofLetter_74
    have hf := it_2 hf c0
    by_cases c1 : p2 = 1
    · have hf := it_1 hf c1
      refine lv_tableIn (off := 53) (tgt := 64) hx hb dX7_ofLetter_11 (by rw [c1]; decide) (by rw [c1]; decide) (by rw [c1]; rfl) (by decide) ?_
      refine lv_aload_n hx hb dX7_ofLetter_64 rfl (lv_at hl 0 rfl) ?_
      refine va_get (D := G.1) (ci := 7) (v := .ref (a 1)) (C := RX7) (T := TX7) (N := 16) hx hb hts hinX7 hown hK hP 0 rfl rfl 0 (by decide) lk7 (fun _ h9 => h9) rfl dX7_ofLetter_65 ?_
      refine lv_iload_n hx hb dX7_ofLetter_68 rfl (lv_at hl 1 rfl) ?_
      refine lv_iload_n hx hb dX7_ofLetter_69 rfl (lv_at hl 2 rfl) ?_
      refine vp_callSi (W.runS (As := [.int p1, .int p2]) (rest := [.ref (a 1)]) ⟨hx, hb, hml, hown, hts⟩ (ok_X7_ofL l p1 p2) (va_cwS 2 hts gX7_ofLetter_X7_ofL rfl rfl rfl (by decide +kernel) ⟨Nat.le_of_ble_eq_true rfl, Nat.le_of_ble_eq_true rfl⟩) ⟨fun _ _ _ _ q => q, fun _ _ _ => ⟨rfl, trivial⟩⟩ rfl rfl hl.1 rfl (lv_room (Nat.le_of_ble_eq_true rfl)) dX7_ofLetter_70 ⟨Nat.zero_le _, Nat.zero_le _⟩) (fun r70 hw => ?_)
      subst hw
      obtain ⟨hi, hf⟩ := ck_1 hf hne
      refine va_iald (f := (v0 0)) hx hb hK hP 1 0 rfl rfl (ixb_1 hi) dX7_ofLetter_73 ?_
      exact W.iret (v := ((v0 0) (Int32.toNatClampNeg (f_X7_ofL p1 p2)))) hx hb hr (fun t ht hW => ⟨⟨((v0 0) (Int32.toNatClampNeg (f_X7_ofL p1 p2))), v0, rfl, hf0.trans hf.symm, by rw [ht]; exact hP, hD⟩, hS.F ht⟩) hS.2.2 dX7_ofLetter_74
    have hf := it_2 hf c1
    by_cases c2 : p2 = 2
    · have hf := it_1 hf c2
      refine lv_tableIn (off := 64) (tgt := 75) hx hb dX7_ofLetter_11 (by rw [c2]; decide) (by rw [c2]; decide) (by rw [c2]; rfl) (by decide) ?_
      refine lv_aload_n hx hb dX7_ofLetter_75 rfl (lv_at hl 0 rfl) ?_
      refine lv_iload_n hx hb dX7_ofLetter_76 rfl (lv_at hl 1 rfl) ?_
      have hn := bd1_1 hf hne
      refine vp_callSi (W.runV (As := [.int p1]) (rest := []) ⟨hx, hb, hml, hown, hts⟩ (ok_X7_heat l G a v0 p1 hn) (cwV 1 hts gX7_ofLetter_X7_heat rfl rfl rfl (by decide +kernel) ⟨Nat.le_of_ble_eq_true rfl, Nat.le_of_ble_eq_true rfl⟩) ⟨pcR_blind, va_recv hK hP (ci := 7) (q0 := 0) rfl rfl, pcR_pre hP hamb⟩ rfl rfl hl.1 rfl (lv_room (Nat.le_of_ble_eq_true rfl)) dX7_ofLetter_77 ⟨Nat.zero_le _, Nat.zero_le _⟩) (fun r77 hw => ?_)
      have hf := bd1_2 hf hw
      exact W.iret (v := r77) hx hb hr (fun t ht hW => ⟨⟨r77, v0, rfl, hf0.trans hf.symm, by rw [ht]; exact hP, hD⟩, hS.F ht⟩) hS.2.2 dX7_ofLetter_80
    have hf := it_2 hf c2
    by_cases c3 : p2 = 3
    · have hf := it_1 hf c3
      refine lv_tableIn (off := 70) (tgt := 81) hx hb dX7_ofLetter_11 (by rw [c3]; decide) (by rw [c3]; decide) (by rw [c3]; rfl) (by decide) ?_
      refine lv_aload_n hx hb dX7_ofLetter_81 rfl (lv_at hl 0 rfl) ?_
      refine va_get (D := G.1) (ci := 7) (v := .ref (a 1)) (C := RX7) (T := TX7) (N := 16) hx hb hts hinX7 hown hK hP 0 rfl rfl 0 (by decide) lk7 (fun _ h9 => h9) rfl dX7_ofLetter_82 ?_
      refine lv_iload_n hx hb dX7_ofLetter_85 rfl (lv_at hl 1 rfl) ?_
      refine lv_iconst (v := 2) hx hb dX7_ofLetter_86 (by decide) ?_
      refine lv_iload_n hx hb dX7_ofLetter_87 rfl (lv_at hl 2 rfl) ?_
      refine lv_iadd hx hb dX7_ofLetter_88 ?_
      refine lv_iconst (v := 3) hx hb dX7_ofLetter_89 (by decide) ?_
      refine lv_isub hx hb dX7_ofLetter_90 ?_
      refine vp_callSi (W.runS (As := [.int p1, .int ((2 + p2) - 3)]) (rest := [.ref (a 1)]) ⟨hx, hb, hml, hown, hts⟩ (ok_X7_ofL l p1 ((2 + p2) - 3)) (va_cwS 2 hts gX7_ofLetter_X7_ofL rfl rfl rfl (by decide +kernel) ⟨Nat.le_of_ble_eq_true rfl, Nat.le_of_ble_eq_true rfl⟩) ⟨fun _ _ _ _ q => q, fun _ _ _ => ⟨rfl, trivial⟩⟩ rfl rfl hl.1 rfl (lv_room (Nat.le_of_ble_eq_true rfl)) dX7_ofLetter_91 ⟨Nat.zero_le _, Nat.zero_le _⟩) (fun r91 hw => ?_)
      subst hw
      obtain ⟨hi, hf⟩ := ck_1 hf hne
      refine va_iald (f := (v0 0)) hx hb hK hP 1 0 rfl rfl (ixb_1 hi) dX7_ofLetter_94 ?_
      exact W.iret (v := ((v0 0) (Int32.toNatClampNeg (f_X7_ofL p1 ((2 + p2) - 3))))) hx hb hr (fun t ht hW => ⟨⟨((v0 0) (Int32.toNatClampNeg (f_X7_ofL p1 ((2 + p2) - 3)))), v0, rfl, hf0.trans hf.symm, by rw [ht]; exact hP, hD⟩, hS.F ht⟩) hS.2.2 dX7_ofLetter_95
    have hf := it_2 hf c3
    by_cases c4 : p2 = 4
    · have hf := it_1 hf c4
      refine lv_tableIn (off := 70) (tgt := 81) hx hb dX7_ofLetter_11 (by rw [c4]; decide) (by rw [c4]; decide) (by rw [c4]; rfl) (by decide) ?_
      refine lv_aload_n hx hb dX7_ofLetter_81 rfl (lv_at hl 0 rfl) ?_
      refine va_get (D := G.1) (ci := 7) (v := .ref (a 1)) (C := RX7) (T := TX7) (N := 16) hx hb hts hinX7 hown hK hP 0 rfl rfl 0 (by decide) lk7 (fun _ h9 => h9) rfl dX7_ofLetter_82 ?_
      refine lv_iload_n hx hb dX7_ofLetter_85 rfl (lv_at hl 1 rfl) ?_
      refine lv_iconst (v := 2) hx hb dX7_ofLetter_86 (by decide) ?_
      refine lv_iload_n hx hb dX7_ofLetter_87 rfl (lv_at hl 2 rfl) ?_
      refine lv_iadd hx hb dX7_ofLetter_88 ?_
      refine lv_iconst (v := 3) hx hb dX7_ofLetter_89 (by decide) ?_
      refine lv_isub hx hb dX7_ofLetter_90 ?_
      refine vp_callSi (W.runS (As := [.int p1, .int ((2 + p2) - 3)]) (rest := [.ref (a 1)]) ⟨hx, hb, hml, hown, hts⟩ (ok_X7_ofL l p1 ((2 + p2) - 3)) (va_cwS 2 hts gX7_ofLetter_X7_ofL rfl rfl rfl (by decide +kernel) ⟨Nat.le_of_ble_eq_true rfl, Nat.le_of_ble_eq_true rfl⟩) ⟨fun _ _ _ _ q => q, fun _ _ _ => ⟨rfl, trivial⟩⟩ rfl rfl hl.1 rfl (lv_room (Nat.le_of_ble_eq_true rfl)) dX7_ofLetter_91 ⟨Nat.zero_le _, Nat.zero_le _⟩) (fun r91 hw => ?_)
      subst hw
      obtain ⟨hi, hf⟩ := ck_1 hf hne
      refine va_iald (f := (v0 0)) hx hb hK hP 1 0 rfl rfl (ixb_1 hi) dX7_ofLetter_94 ?_
      exact W.iret (v := ((v0 0) (Int32.toNatClampNeg (f_X7_ofL p1 ((2 + p2) - 3))))) hx hb hr (fun t ht hW => ⟨⟨((v0 0) (Int32.toNatClampNeg (f_X7_ofL p1 ((2 + p2) - 3)))), v0, rfl, hf0.trans hf.symm, by rw [ht]; exact hP, hD⟩, hS.F ht⟩) hS.2.2 dX7_ofLetter_95
    have hf := it_2 hf c4
    by_cases c5 : p2 = 5
    · have hf := it_1 hf c5
      refine lv_tableIn (off := 70) (tgt := 81) hx hb dX7_ofLetter_11 (by rw [c5]; decide) (by rw [c5]; decide) (by rw [c5]; rfl) (by decide) ?_
      refine lv_aload_n hx hb dX7_ofLetter_81 rfl (lv_at hl 0 rfl) ?_
      refine va_get (D := G.1) (ci := 7) (v := .ref (a 1)) (C := RX7) (T := TX7) (N := 16) hx hb hts hinX7 hown hK hP 0 rfl rfl 0 (by decide) lk7 (fun _ h9 => h9) rfl dX7_ofLetter_82 ?_
      refine lv_iload_n hx hb dX7_ofLetter_85 rfl (lv_at hl 1 rfl) ?_
      refine lv_iconst (v := 2) hx hb dX7_ofLetter_86 (by decide) ?_
      refine lv_iload_n hx hb dX7_ofLetter_87 rfl (lv_at hl 2 rfl) ?_
      refine lv_iadd hx hb dX7_ofLetter_88 ?_
      refine lv_iconst (v := 3) hx hb dX7_ofLetter_89 (by decide) ?_
      refine lv_isub hx hb dX7_ofLetter_90 ?_
      refine vp_callSi (W.runS (As := [.int p1, .int ((2 + p2) - 3)]) (rest := [.ref (a 1)]) ⟨hx, hb, hml, hown, hts⟩ (ok_X7_ofL l p1 ((2 + p2) - 3)) (va_cwS 2 hts gX7_ofLetter_X7_ofL rfl rfl rfl (by decide +kernel) ⟨Nat.le_of_ble_eq_true rfl, Nat.le_of_ble_eq_true rfl⟩) ⟨fun _ _ _ _ q => q, fun _ _ _ => ⟨rfl, trivial⟩⟩ rfl rfl hl.1 rfl (lv_room (Nat.le_of_ble_eq_true rfl)) dX7_ofLetter_91 ⟨Nat.zero_le _, Nat.zero_le _⟩) (fun r91 hw => ?_)
      subst hw
      obtain ⟨hi, hf⟩ := ck_1 hf hne
      refine va_iald (f := (v0 0)) hx hb hK hP 1 0 rfl rfl (ixb_1 hi) dX7_ofLetter_94 ?_
      exact W.iret (v := ((v0 0) (Int32.toNatClampNeg (f_X7_ofL p1 ((2 + p2) - 3))))) hx hb hr (fun t ht hW => ⟨⟨((v0 0) (Int32.toNatClampNeg (f_X7_ofL p1 ((2 + p2) - 3)))), v0, rfl, hf0.trans hf.symm, by rw [ht]; exact hP, hD⟩, hS.F ht⟩) hS.2.2 dX7_ofLetter_95
    have hf := it_2 hf c5
    by_cases c6 : p2 = 6
    · have hf := it_1 hf c6
      refine lv_tableIn (off := 70) (tgt := 81) hx hb dX7_ofLetter_11 (by rw [c6]; decide) (by rw [c6]; decide) (by rw [c6]; rfl) (by decide) ?_
      refine lv_aload_n hx hb dX7_ofLetter_81 rfl (lv_at hl 0 rfl) ?_
      refine va_get (D := G.1) (ci := 7) (v := .ref (a 1)) (C := RX7) (T := TX7) (N := 16) hx hb hts hinX7 hown hK hP 0 rfl rfl 0 (by decide) lk7 (fun _ h9 => h9) rfl dX7_ofLetter_82 ?_
      refine lv_iload_n hx hb dX7_ofLetter_85 rfl (lv_at hl 1 rfl) ?_
      refine lv_iconst (v := 2) hx hb dX7_ofLetter_86 (by decide) ?_
      refine lv_iload_n hx hb dX7_ofLetter_87 rfl (lv_at hl 2 rfl) ?_
      refine lv_iadd hx hb dX7_ofLetter_88 ?_
      refine lv_iconst (v := 3) hx hb dX7_ofLetter_89 (by decide) ?_
      refine lv_isub hx hb dX7_ofLetter_90 ?_
      refine vp_callSi (W.runS (As := [.int p1, .int ((2 + p2) - 3)]) (rest := [.ref (a 1)]) ⟨hx, hb, hml, hown, hts⟩ (ok_X7_ofL l p1 ((2 + p2) - 3)) (va_cwS 2 hts gX7_ofLetter_X7_ofL rfl rfl rfl (by decide +kernel) ⟨Nat.le_of_ble_eq_true rfl, Nat.le_of_ble_eq_true rfl⟩) ⟨fun _ _ _ _ q => q, fun _ _ _ => ⟨rfl, trivial⟩⟩ rfl rfl hl.1 rfl (lv_room (Nat.le_of_ble_eq_true rfl)) dX7_ofLetter_91 ⟨Nat.zero_le _, Nat.zero_le _⟩) (fun r91 hw => ?_)
      subst hw
      obtain ⟨hi, hf⟩ := ck_1 hf hne
      refine va_iald (f := (v0 0)) hx hb hK hP 1 0 rfl rfl (ixb_1 hi) dX7_ofLetter_94 ?_
      exact W.iret (v := ((v0 0) (Int32.toNatClampNeg (f_X7_ofL p1 ((2 + p2) - 3))))) hx hb hr (fun t ht hW => ⟨⟨((v0 0) (Int32.toNatClampNeg (f_X7_ofL p1 ((2 + p2) - 3)))), v0, rfl, hf0.trans hf.symm, by rw [ht]; exact hP, hD⟩, hS.F ht⟩) hS.2.2 dX7_ofLetter_95
    have hf := it_2 hf c6
    by_cases c7 : p2 = 7
    · have hf := it_1 hf c7
      refine lv_tableIn (off := 85) (tgt := 96) hx hb dX7_ofLetter_11 (by rw [c7]; decide) (by rw [c7]; decide) (by rw [c7]; rfl) (by decide) ?_
      refine lv_aload_n hx hb dX7_ofLetter_96 rfl (lv_at hl 0 rfl) ?_
      have hn := bd1_1 hf hne
      refine cwv (va_runV (As := []) (rest := []) ⟨hx, hb, hml, hown, hts⟩ (ok_X7_findRegrets l G a s.heap.size n0 v0 hn) (cwV 0 hts gX7_ofLetter_X7_findRegrets rfl rfl rfl (by decide +kernel) ⟨Nat.le_of_ble_eq_true rfl, Nat.le_of_ble_eq_true rfl⟩) ⟨pcW_blind, va_recv hK hP (ci := 7) (q0 := 0) rfl rfl, pcW_pre hP hD hamb⟩ rfl rfl hl.1 rfl (lv_room (Nat.le_of_ble_eq_true rfl)) dX7_ofLetter_97 ⟨Nat.zero_le _, Nat.zero_le _⟩) (wr := []) hP hD hS hA [0, 1, 2, 3, 4, 5, 6, 7, 8] [] rfl rfl (by decide) (by decide) (fun v97 H locs hw hP hD hS => ?_)
      have hf := bd1_2 hf hw
      have hP : va_P G.1 vwCl (modelC G.2 a v97) H := hP
      have hD : va_D A (modelC G.2 a v97) := hD
      refine lv_aload_n hx hb dX7_ofLetter_100 rfl (lv_at hl 0 rfl) ?_
      refine va_get (D := G.1) (ci := 7) (v := .ref (a 7)) (C := RX7) (T := TX7) (N := 16) hx hb hts hinX7 hown hK hP 0 rfl rfl 8 (by decide) lk29 (fun _ h9 => h9) rfl dX7_ofLetter_101 ?_
      refine lv_iload_n hx hb dX7_ofLetter_104 rfl (lv_at hl 1 rfl) ?_
      obtain ⟨hi, hf⟩ := ck_1 hf hne
      refine va_iald (f := (v97 6)) hx hb hK hP 7 0 rfl rfl (ixb_1 hi) dX7_ofLetter_105 ?_
      exact W.iret (v := ((v97 6) (Int32.toNatClampNeg p1))) hx hb hr (fun t ht hW => ⟨⟨((v97 6) (Int32.toNatClampNeg p1)), v97, rfl, hf0.trans hf.symm, by rw [ht]; exact hP, hD⟩, hS.F ht⟩) hS.2.2 dX7_ofLetter_106
    have hf := it_2 hf c7
    by_cases c8 : p2 = 8
    · have hf := it_1 hf c8
      refine lv_tableIn (off := 96) (tgt := 107) hx hb dX7_ofLetter_11 (by rw [c8]; decide) (by rw [c8]; decide) (by rw [c8]; rfl) (by decide) ?_
      refine lv_aload_n hx hb dX7_ofLetter_107 rfl (lv_at hl 0 rfl) ?_
      refine lv_iload_n hx hb dX7_ofLetter_108 rfl (lv_at hl 1 rfl) ?_
      have hn := bd1_1 hf hne
      refine vp_callSi (W.runV (As := [.int p1]) (rest := []) ⟨hx, hb, hml, hown, hts⟩ (ok_X7_answering l G a n0 v0 p1 hn) (cwV 1 hts gX7_ofLetter_X7_answering rfl rfl rfl (by decide +kernel) ⟨Nat.le_of_ble_eq_true rfl, Nat.le_of_ble_eq_true rfl⟩) ⟨pcR_blind, va_recv hK hP (ci := 7) (q0 := 0) rfl rfl, pcR_pre hP hamb⟩ rfl rfl hl.1 rfl (lv_room (Nat.le_of_ble_eq_true rfl)) dX7_ofLetter_109 ⟨Nat.zero_le _, Nat.zero_le _⟩) (fun r109 hw => ?_)
      have hf := bd1_2 hf hw
      exact W.iret (v := r109) hx hb hr (fun t ht hW => ⟨⟨r109, v0, rfl, hf0.trans hf.symm, by rw [ht]; exact hP, hD⟩, hS.F ht⟩) hS.2.2 dX7_ofLetter_112
    have hf := it_2 hf c8
    by_cases c9 : p2 = 9
    · have hf := it_1 hf c9
      refine lv_tableIn (off := 102) (tgt := 113) hx hb dX7_ofLetter_11 (by rw [c9]; decide) (by rw [c9]; decide) (by rw [c9]; rfl) (by decide) ?_
      refine lv_aload_n hx hb dX7_ofLetter_113 rfl (lv_at hl 0 rfl) ?_
      refine lv_iload_n hx hb dX7_ofLetter_114 rfl (lv_at hl 1 rfl) ?_
      have hn := bd1_1 hf hne
      refine vp_callSi (W.runV (As := [.int p1]) (rest := []) ⟨hx, hb, hml, hown, hts⟩ (ok_X7_depth l G a n0 v0 p1 hn) (cwV 1 hts gX7_ofLetter_X7_depth rfl rfl rfl (by decide +kernel) ⟨Nat.le_of_ble_eq_true rfl, Nat.le_of_ble_eq_true rfl⟩) ⟨pcR_blind, va_recv hK hP (ci := 7) (q0 := 0) rfl rfl, pcR_pre hP hamb⟩ rfl rfl hl.1 rfl (lv_room (Nat.le_of_ble_eq_true rfl)) dX7_ofLetter_115 ⟨Nat.zero_le _, Nat.zero_le _⟩) (fun r115 hw => ?_)
      have hf := bd1_2 hf hw
      exact W.iret (v := r115) hx hb hr (fun t ht hW => ⟨⟨r115, v0, rfl, hf0.trans hf.symm, by rw [ht]; exact hP, hD⟩, hS.F ht⟩) hS.2.2 dX7_ofLetter_118
    have hf := it_2 hf c9
    have e0 := ne_i c0 (k := 0) (by decide)
    have e1 := ne_i c1 (k := 1) (by decide)
    have e2 := ne_i c2 (k := 2) (by decide)
    have e3 := ne_i c3 (k := 3) (by decide)
    have e4 := ne_i c4 (k := 4) (by decide)
    have e5 := ne_i c5 (k := 5) (by decide)
    have e6 := ne_i c6 (k := 6) (by decide)
    have e7 := ne_i c7 (k := 7) (by decide)
    have e8 := ne_i c8 (k := 8) (by decide)
    have e9 := ne_i c9 (k := 9) (by decide)
    refine lv_tableOut (tgt := 119) hx hb dX7_ofLetter_11 (by omega) (by decide) ?_
    refine lv_bipush (v := (-2)) hx hb dX7_ofLetter_119 (by decide) ?_
    exact W.iret (v := (-2)) hx hb hr (fun t ht hW => ⟨⟨(-2), v0, rfl, hf0.trans hf.symm, by rw [ht]; exact hP, hD⟩, hS.F ht⟩) hS.2.2 dX7_ofLetter_121
  · have hf := it_1 hf c
    refine lv_iconst (v := (-1)) hx hb dX7_ofLetter_8 (by decide) ?_
    exact W.iret (v := (-1)) hx hb hr (fun t ht hW => ⟨⟨(-1), v0, rfl, hf0.trans hf.symm, by rw [ht]; exact hP, hD⟩, hS.F ht⟩) hS.2.2 dX7_ofLetter_9
set_option maxHeartbeats 4000000 in
set_option maxRecDepth 100000 in
theorem ok_X7_heatIn (l : Launch) (G : Gt) (a : Nat → Nat) (n0 : Nat) (v0 : DV) (p1 : Int32) (hne : f_X7_heatIn n0 v0 p1 ≠ none) : Met l yX7_heatIn wsX7_heatIn ({ frames := 2, cells := 0, slots := 0, locals := 43 } : Room) (pcR G [.ref (a 0), .int p1] (modelC G.2 a v0)) (vp_Si (fun r => f_X7_heatIn n0 v0 p1 = some r)) 0 0 (fun _ => False) := by
  refine Met.ofW (cc := cX7_heatIn) (maxL := 4) (ret := (some .int)) (by decide) rfl ?_
  intro p e s m args below meth c s₁ B hml hv
  obtain ⟨rfl, hP, hamb⟩ := hv
  have hx := B.exec
  have hb := B.bytes
  have hr := B.returns
  have hts := atoms_spec (ws := wsX7_heatIn) B.pre
  have hown : s.vm.findClass RX7 = some m.cls := findClass_of_methodNamed B.named
  have hlocks := B.notSynchronized
  have hK := hamb.1
  obtain ⟨res, hf0⟩ : ∃ res, f_X7_heatIn n0 v0 p1 = res := ⟨_, rfl⟩
  have hne : res ≠ none := hf0 ▸ hne
  have hf := hf0
  rw [f_X7_heatIn] at hf
  have hinX7 : ∀ w ∈ u_ws RX7 TX7 16, w ∈ wsX7_heatIn := by decide +kernel
  have lk7 := hts (.fieldLink RX7 7 "MoodDrawersModel" "s" "[I") (by decide +kernel)
  have hl := lv_entry ([.ref (a 0), .int p1]) (n := 4) (Nat.le_of_ble_eq_true rfl)
  rw [lg_entry_eq]
  generalize (lg_sl ([.ref (a 0), .int p1]) ++ List.replicate (4 - (lg_sl ([.ref (a 0), .int p1])).length) Slot.unset).toArray = ls at hl ⊢
  have hl : lv_has ls 4 [(0, .ref (a 0)), (1, .int p1)] := hl
  have L4 : ∀ (n : Nat) (v : DV) (x1 : Int32) (x2 : Int32) (x3 : Int32) (ls : Array Slot), va_P G.1 vwCl (modelC G.2 a v) s.heap → lv_has ls 4 [(0, .ref (a 0)), (1, .int x1), (2, .int x2), (3, .int x3)] → f_X7_heatIn_L4 n v x1 x2 x3 = res → W p l e (headSpec wsX7_heatIn ({ frames := 2, cells := 0, slots := 0, locals := 43 } : Room)).room s m ([.ref (a 0), .int p1] : List Value).toArray below meth c s.heap [] 0 0 (MQ below (vp_Si (fun r => f_X7_heatIn n0 v0 p1 = some r)) ([.ref (a 0), .int p1] : List Value).toArray s 0 0 (fun _ => False)) (F0 m 4 ls []) := by
    intro n
    induction n with
    | zero => intro v x1 x2 x3 ls hP hl hf; exact (none_1 hf hne).elim
    | succ n ih =>
      intro v x1 x2 x3 ls hP hl hf
      rw [f_X7_heatIn_L4] at hf
      refine lv_iload_n hx hb dX7_heatIn_4 rfl (lv_at hl 3 rfl) ?_
      refine lv_aload_n hx hb dX7_heatIn_5 rfl (lv_at hl 0 rfl) ?_
      refine va_get (D := G.1) (ci := 7) (v := .ref (a 1)) (C := RX7) (T := TX7) (N := 16) hx hb hts hinX7 hown hK hP 0 rfl rfl 0 (by decide) lk7 (fun _ h9 => h9) rfl dX7_heatIn_6 ?_
      refine lv_iconst (v := 5) hx hb dX7_heatIn_9 (by decide) ?_
      refine va_iald (f := (v 0)) hx hb hK hP 1 0 rfl rfl (ixb_1 (show ixb 5 240 = true from rfl)) dX7_heatIn_10 ?_
      refine lv_icmp_ge (tgt := 59) hx hb dX7_heatIn_11 (by decide) (fun c => ?_) (fun c => ?_)
      · have hf := it_1 hf c
        refine lv_iload_n hx hb dX7_heatIn_59 rfl (lv_at hl 2 rfl) ?_
        exact W.iret (v := x2) hx hb hr (fun t ht hW => ⟨x2, rfl, hf0.trans hf.symm, ht⟩) (fun _ hq => absurd hq List.not_mem_nil) dX7_heatIn_60
      · have hf := it_2 hf c
        refine lv_iload_n hx hb dX7_heatIn_14 rfl (lv_at hl 2 rfl) ?_
        refine lv_aload_n hx hb dX7_heatIn_15 rfl (lv_at hl 0 rfl) ?_
        refine va_get (D := G.1) (ci := 7) (v := .ref (a 1)) (C := RX7) (T := TX7) (N := 16) hx hb hts hinX7 hown hK hP 0 rfl rfl 0 (by decide) lk7 (fun _ h9 => h9) rfl dX7_heatIn_16 ?_
        refine lv_iload_n hx hb dX7_heatIn_19 rfl (lv_at hl 3 rfl) ?_
        refine lv_iconst (v := 0) hx hb dX7_heatIn_20 (by decide) ?_
        refine vp_callSi (W.runS (As := [.int x3, .int 0]) (rest := [.ref (a 1), .int x2]) ⟨hx, hb, hml, hown, hts⟩ (ok_X7_ofL l x3 0) (va_cwS 2 hts gX7_heatIn_X7_ofL rfl rfl rfl (by decide +kernel) ⟨Nat.le_of_ble_eq_true rfl, Nat.le_of_ble_eq_true rfl⟩) ⟨fun _ _ _ _ q => q, fun _ _ _ => ⟨rfl, trivial⟩⟩ rfl rfl hl.1 rfl (lv_room (Nat.le_of_ble_eq_true rfl)) dX7_heatIn_21 ⟨Nat.zero_le _, Nat.zero_le _⟩) (fun r21 hw => ?_)
        subst hw
        obtain ⟨hi, hf⟩ := ck_1 hf hne
        refine va_iald (f := (v 0)) hx hb hK hP 1 0 rfl rfl (ixb_1 hi) dX7_heatIn_24 ?_
        refine lv_iload_n hx hb dX7_heatIn_25 rfl (lv_at hl 1 rfl) ?_
        refine lv_icmp_ne (tgt := 50) hx hb dX7_heatIn_26 (by decide) (fun c => ?_) (fun c => ?_)
        · have hf := it_2 hf c
          refine lv_iconst (v := 0) hx hb dX7_heatIn_50 (by decide) ?_
          refine lv_iadd hx hb dX7_heatIn_51 ?_
          refine lv_istore_n (lv' := [(2, .int (x2 + 0)), (0, .ref (a 0)), (1, .int x1), (3, .int x3)]) hx hb dX7_heatIn_52 rfl hl (by decide) rfl (fun ls hl => ?_)
          refine lv_iinc (v := (x3 + 1)) (lv' := [(3, .int (x3 + 1)), (2, .int (x2 + 0)), (0, .ref (a 0)), (1, .int x1)]) hx hb dX7_heatIn_53 hl (k := 3) rfl rfl (by decide) rfl (fun ls hl => ?_)
          refine lv_goto (tgt := 4) hx hb dX7_heatIn_56 (by decide) ?_
          exact ih v x1 (x2 + 0) (x3 + 1) ls hP (lv_sub hl [2, 3, 1, 0] rfl) hf
        · have hf := it_1 hf c
          refine lv_aload_n hx hb dX7_heatIn_29 rfl (lv_at hl 0 rfl) ?_
          refine va_get (D := G.1) (ci := 7) (v := .ref (a 1)) (C := RX7) (T := TX7) (N := 16) hx hb hts hinX7 hown hK hP 0 rfl rfl 0 (by decide) lk7 (fun _ h9 => h9) rfl dX7_heatIn_30 ?_
          refine lv_iload_n hx hb dX7_heatIn_33 rfl (lv_at hl 3 rfl) ?_
          refine lv_iconst (v := 3) hx hb dX7_heatIn_34 (by decide) ?_
          refine vp_callSi (W.runS (As := [.int x3, .int 3]) (rest := [.ref (a 1), .int x2]) ⟨hx, hb, hml, hown, hts⟩ (ok_X7_ofL l x3 3) (va_cwS 2 hts gX7_heatIn_X7_ofL rfl rfl rfl (by decide +kernel) ⟨Nat.le_of_ble_eq_true rfl, Nat.le_of_ble_eq_true rfl⟩) ⟨fun _ _ _ _ q => q, fun _ _ _ => ⟨rfl, trivial⟩⟩ rfl rfl hl.1 rfl (lv_room (Nat.le_of_ble_eq_true rfl)) dX7_heatIn_35 ⟨Nat.zero_le _, Nat.zero_le _⟩) (fun r35 hw => ?_)
          subst hw
          obtain ⟨hi, hf⟩ := ck_1 hf hne
          refine va_iald (f := (v 0)) hx hb hK hP 1 0 rfl rfl (ixb_1 hi) dX7_heatIn_38 ?_
          refine lv_if_ne (tgt := 50) hx hb dX7_heatIn_39 (by decide) (fun c => ?_) (fun c => ?_)
          · have hf := it_2 hf c
            refine lv_iconst (v := 0) hx hb dX7_heatIn_50 (by decide) ?_
            refine lv_iadd hx hb dX7_heatIn_51 ?_
            refine lv_istore_n (lv' := [(2, .int (x2 + 0)), (0, .ref (a 0)), (1, .int x1), (3, .int x3)]) hx hb dX7_heatIn_52 rfl hl (by decide) rfl (fun ls hl => ?_)
            refine lv_iinc (v := (x3 + 1)) (lv' := [(3, .int (x3 + 1)), (2, .int (x2 + 0)), (0, .ref (a 0)), (1, .int x1)]) hx hb dX7_heatIn_53 hl (k := 3) rfl rfl (by decide) rfl (fun ls hl => ?_)
            refine lv_goto (tgt := 4) hx hb dX7_heatIn_56 (by decide) ?_
            exact ih v x1 (x2 + 0) (x3 + 1) ls hP (lv_sub hl [2, 3, 1, 0] rfl) hf
          · have hf := it_1 hf c
            refine lv_aload_n hx hb dX7_heatIn_42 rfl (lv_at hl 0 rfl) ?_
            refine lv_iload_n hx hb dX7_heatIn_43 rfl (lv_at hl 3 rfl) ?_
            have hn := bd1_1 hf hne
            refine vp_callSi (W.runV (As := [.int x3]) (rest := [.int x2]) ⟨hx, hb, hml, hown, hts⟩ (ok_X7_heat l G a v x3 hn) (cwV 1 hts gX7_heatIn_X7_heat rfl rfl rfl (by decide +kernel) ⟨Nat.le_of_ble_eq_true rfl, Nat.le_of_ble_eq_true rfl⟩) ⟨pcR_blind, va_recv hK hP (ci := 7) (q0 := 0) rfl rfl, pcR_pre hP hamb⟩ rfl rfl hl.1 rfl (lv_room (Nat.le_of_ble_eq_true rfl)) dX7_heatIn_44 ⟨Nat.zero_le _, Nat.zero_le _⟩) (fun r44 hw => ?_)
            have hf := bd1_2 hf hw
            refine lv_goto (tgt := 51) hx hb dX7_heatIn_47 (by decide) ?_
            refine lv_iadd hx hb dX7_heatIn_51 ?_
            refine lv_istore_n (lv' := [(2, .int (x2 + r44)), (0, .ref (a 0)), (1, .int x1), (3, .int x3)]) hx hb dX7_heatIn_52 rfl hl (by decide) rfl (fun ls hl => ?_)
            refine lv_iinc (v := (x3 + 1)) (lv' := [(3, .int (x3 + 1)), (2, .int (x2 + r44)), (0, .ref (a 0)), (1, .int x1)]) hx hb dX7_heatIn_53 hl (k := 3) rfl rfl (by decide) rfl (fun ls hl => ?_)
            refine lv_goto (tgt := 4) hx hb dX7_heatIn_56 (by decide) ?_
            exact ih v x1 (x2 + r44) (x3 + 1) ls hP (lv_sub hl [2, 3, 1, 0] rfl) hf
  refine lv_iconst (v := 0) hx hb dX7_heatIn_0 (by decide) ?_
  refine lv_istore_n (lv' := [(2, .int 0), (0, .ref (a 0)), (1, .int p1)]) hx hb dX7_heatIn_1 rfl hl (by decide) rfl (fun ls hl => ?_)
  refine lv_iconst (v := 0) hx hb dX7_heatIn_2 (by decide) ?_
  refine lv_istore_n (lv' := [(3, .int 0), (2, .int 0), (0, .ref (a 0)), (1, .int p1)]) hx hb dX7_heatIn_3 rfl hl (by decide) rfl (fun ls hl => ?_)
  exact L4 n0 v0 p1 0 0 ls hP (lv_sub hl [2, 3, 1, 0] rfl) hf
set_option maxHeartbeats 4000000 in
set_option maxRecDepth 100000 in
theorem ok_X7_ofDrawer (l : Launch) (G : Gt) (a : Nat → Nat) (n0 : Nat) (v0 : DV) (p1 : Int32) (p2 : Int32) (hne : f_X7_ofDrawer n0 v0 p1 p2 ≠ none) : Met l yX7_ofDrawer wsX7_ofDrawer ({ frames := 3, cells := 0, slots := 0, locals := 66 } : Room) (pcR G [.ref (a 0), .int p1, .int p2] (modelC G.2 a v0)) (vp_Si (fun r => f_X7_ofDrawer n0 v0 p1 p2 = some r)) 0 0 (fun _ => False) := by
  refine Met.ofW (cc := cX7_ofDrawer) (maxL := 3) (ret := (some .int)) (by decide) rfl ?_
  intro p e s m args below meth c s₁ B hml hv
  obtain ⟨rfl, hP, hamb⟩ := hv
  have hx := B.exec
  have hb := B.bytes
  have hr := B.returns
  have hts := atoms_spec (ws := wsX7_ofDrawer) B.pre
  have hown : s.vm.findClass RX7 = some m.cls := findClass_of_methodNamed B.named
  have hlocks := B.notSynchronized
  have hK := hamb.1
  obtain ⟨res, hf0⟩ : ∃ res, f_X7_ofDrawer n0 v0 p1 p2 = res := ⟨_, rfl⟩
  have hne : res ≠ none := hf0 ▸ hne
  have hf := hf0
  rw [f_X7_ofDrawer] at hf
  have hinX7 : ∀ w ∈ u_ws RX7 TX7 16, w ∈ wsX7_ofDrawer := by decide +kernel
  have lk7 := hts (.fieldLink RX7 7 "MoodDrawersModel" "s" "[I") (by decide +kernel)
  have hl := lv_entry ([.ref (a 0), .int p1, .int p2]) (n := 3) (Nat.le_of_ble_eq_true rfl)
  rw [lg_entry_eq]
  generalize (lg_sl ([.ref (a 0), .int p1, .int p2]) ++ List.replicate (3 - (lg_sl ([.ref (a 0), .int p1, .int p2])).length) Slot.unset).toArray = ls at hl ⊢
  have hl : lv_has ls 3 [(0, .ref (a 0)), (1, .int p1), (2, .int p2)] := hl
  refine lv_iload_n hx hb dX7_ofDrawer_0 rfl (lv_at hl 1 rfl) ?_
  refine vp_callSi (W.runS (As := [.int p1]) (rest := []) ⟨hx, hb, hml, hown, hts⟩ (ok_X7_isMood l p1) (va_cwS 1 hts gX7_ofDrawer_X7_isMood rfl rfl rfl (by decide +kernel) ⟨Nat.le_of_ble_eq_true rfl, Nat.le_of_ble_eq_true rfl⟩) ⟨fun _ _ _ _ q => q, fun _ _ _ => ⟨rfl, trivial⟩⟩ rfl rfl hl.1 rfl (lv_room (Nat.le_of_ble_eq_true rfl)) dX7_ofDrawer_1 ⟨Nat.zero_le _, Nat.zero_le _⟩) (fun r1 hw => ?_)
  subst hw
  refine lv_if_ne (tgt := 9) hx hb dX7_ofDrawer_4 (by decide) (fun c => ?_) (fun c => ?_)
  · have hf := it_2 hf c
    refine lv_iload_n hx hb dX7_ofDrawer_9 rfl (lv_at hl 2 rfl) ?_
    by_cases c0 : p2 = 0
    · have hf := it_1 hf c0
      refine lv_tableIn (off := 46) (tgt := 56) hx hb dX7_ofDrawer_10 (by rw [c0]; decide) (by rw [c0]; decide) (by rw [c0]; rfl) (by decide) ?_
      refine lv_aload_n hx hb dX7_ofDrawer_56 rfl (lv_at hl 0 rfl) ?_
      refine lv_iload_n hx hb dX7_ofDrawer_57 rfl (lv_at hl 1 rfl) ?_
      refine lv_iconst (v := 0) hx hb dX7_ofDrawer_58 (by decide) ?_
      have hn := bd1_1 hf hne
      refine vp_callSi (W.runV (As := [.int p1, .int 0]) (rest := []) ⟨hx, hb, hml, hown, hts⟩ (ok_X7_many l G a n0 v0 p1 0 hn) (cwV 2 hts gX7_ofDrawer_X7_many rfl rfl rfl (by decide +kernel) ⟨Nat.le_of_ble_eq_true rfl, Nat.le_of_ble_eq_true rfl⟩) ⟨pcR_blind, va_recv hK hP (ci := 7) (q0 := 0) rfl rfl, pcR_pre hP hamb⟩ rfl rfl hl.1 rfl (lv_room (Nat.le_of_ble_eq_true rfl)) dX7_ofDrawer_59 ⟨Nat.zero_le _, Nat.zero_le _⟩) (fun r59 hw => ?_)
      have hf := bd1_2 hf hw
      exact W.iret (v := r59) hx hb hr (fun t ht hW => ⟨r59, rfl, hf0.trans hf.symm, ht⟩) (fun _ hq => absurd hq List.not_mem_nil) dX7_ofDrawer_62
    have hf := it_2 hf c0
    by_cases c1 : p2 = 1
    · have hf := it_1 hf c1
      refine lv_tableIn (off := 53) (tgt := 63) hx hb dX7_ofDrawer_10 (by rw [c1]; decide) (by rw [c1]; decide) (by rw [c1]; rfl) (by decide) ?_
      refine lv_aload_n hx hb dX7_ofDrawer_63 rfl (lv_at hl 0 rfl) ?_
      refine va_get (D := G.1) (ci := 7) (v := .ref (a 1)) (C := RX7) (T := TX7) (N := 16) hx hb hts hinX7 hown hK hP 0 rfl rfl 0 (by decide) lk7 (fun _ h9 => h9) rfl dX7_ofDrawer_64 ?_
      refine lv_iload_n hx hb dX7_ofDrawer_67 rfl (lv_at hl 1 rfl) ?_
      refine lv_iload_n hx hb dX7_ofDrawer_68 rfl (lv_at hl 2 rfl) ?_
      refine lv_iconst (v := 1) hx hb dX7_ofDrawer_69 (by decide) ?_
      refine lv_isub hx hb dX7_ofDrawer_70 ?_
      refine vp_callSi (W.runS (As := [.int p1, .int (p2 - 1)]) (rest := [.ref (a 1)]) ⟨hx, hb, hml, hown, hts⟩ (ok_X7_ofD l p1 (p2 - 1)) (va_cwS 2 hts gX7_ofDrawer_X7_ofD rfl rfl rfl (by decide +kernel) ⟨Nat.le_of_ble_eq_true rfl, Nat.le_of_ble_eq_true rfl⟩) ⟨fun _ _ _ _ q => q, fun _ _ _ => ⟨rfl, trivial⟩⟩ rfl rfl hl.1 rfl (lv_room (Nat.le_of_ble_eq_true rfl)) dX7_ofDrawer_71 ⟨Nat.zero_le _, Nat.zero_le _⟩) (fun r71 hw => ?_)
      subst hw
      obtain ⟨hi, hf⟩ := ck_1 hf hne
      refine va_iald (f := (v0 0)) hx hb hK hP 1 0 rfl rfl (ixb_1 hi) dX7_ofDrawer_74 ?_
      exact W.iret (v := ((v0 0) (Int32.toNatClampNeg (f_X7_ofD p1 (p2 - 1))))) hx hb hr (fun t ht hW => ⟨((v0 0) (Int32.toNatClampNeg (f_X7_ofD p1 (p2 - 1)))), rfl, hf0.trans hf.symm, ht⟩) (fun _ hq => absurd hq List.not_mem_nil) dX7_ofDrawer_75
    have hf := it_2 hf c1
    by_cases c2 : p2 = 2
    · have hf := it_1 hf c2
      refine lv_tableIn (off := 53) (tgt := 63) hx hb dX7_ofDrawer_10 (by rw [c2]; decide) (by rw [c2]; decide) (by rw [c2]; rfl) (by decide) ?_
      refine lv_aload_n hx hb dX7_ofDrawer_63 rfl (lv_at hl 0 rfl) ?_
      refine va_get (D := G.1) (ci := 7) (v := .ref (a 1)) (C := RX7) (T := TX7) (N := 16) hx hb hts hinX7 hown hK hP 0 rfl rfl 0 (by decide) lk7 (fun _ h9 => h9) rfl dX7_ofDrawer_64 ?_
      refine lv_iload_n hx hb dX7_ofDrawer_67 rfl (lv_at hl 1 rfl) ?_
      refine lv_iload_n hx hb dX7_ofDrawer_68 rfl (lv_at hl 2 rfl) ?_
      refine lv_iconst (v := 1) hx hb dX7_ofDrawer_69 (by decide) ?_
      refine lv_isub hx hb dX7_ofDrawer_70 ?_
      refine vp_callSi (W.runS (As := [.int p1, .int (p2 - 1)]) (rest := [.ref (a 1)]) ⟨hx, hb, hml, hown, hts⟩ (ok_X7_ofD l p1 (p2 - 1)) (va_cwS 2 hts gX7_ofDrawer_X7_ofD rfl rfl rfl (by decide +kernel) ⟨Nat.le_of_ble_eq_true rfl, Nat.le_of_ble_eq_true rfl⟩) ⟨fun _ _ _ _ q => q, fun _ _ _ => ⟨rfl, trivial⟩⟩ rfl rfl hl.1 rfl (lv_room (Nat.le_of_ble_eq_true rfl)) dX7_ofDrawer_71 ⟨Nat.zero_le _, Nat.zero_le _⟩) (fun r71 hw => ?_)
      subst hw
      obtain ⟨hi, hf⟩ := ck_1 hf hne
      refine va_iald (f := (v0 0)) hx hb hK hP 1 0 rfl rfl (ixb_1 hi) dX7_ofDrawer_74 ?_
      exact W.iret (v := ((v0 0) (Int32.toNatClampNeg (f_X7_ofD p1 (p2 - 1))))) hx hb hr (fun t ht hW => ⟨((v0 0) (Int32.toNatClampNeg (f_X7_ofD p1 (p2 - 1)))), rfl, hf0.trans hf.symm, ht⟩) (fun _ hq => absurd hq List.not_mem_nil) dX7_ofDrawer_75
    have hf := it_2 hf c2
    by_cases c3 : p2 = 3
    · have hf := it_1 hf c3
      refine lv_tableIn (off := 53) (tgt := 63) hx hb dX7_ofDrawer_10 (by rw [c3]; decide) (by rw [c3]; decide) (by rw [c3]; rfl) (by decide) ?_
      refine lv_aload_n hx hb dX7_ofDrawer_63 rfl (lv_at hl 0 rfl) ?_
      refine va_get (D := G.1) (ci := 7) (v := .ref (a 1)) (C := RX7) (T := TX7) (N := 16) hx hb hts hinX7 hown hK hP 0 rfl rfl 0 (by decide) lk7 (fun _ h9 => h9) rfl dX7_ofDrawer_64 ?_
      refine lv_iload_n hx hb dX7_ofDrawer_67 rfl (lv_at hl 1 rfl) ?_
      refine lv_iload_n hx hb dX7_ofDrawer_68 rfl (lv_at hl 2 rfl) ?_
      refine lv_iconst (v := 1) hx hb dX7_ofDrawer_69 (by decide) ?_
      refine lv_isub hx hb dX7_ofDrawer_70 ?_
      refine vp_callSi (W.runS (As := [.int p1, .int (p2 - 1)]) (rest := [.ref (a 1)]) ⟨hx, hb, hml, hown, hts⟩ (ok_X7_ofD l p1 (p2 - 1)) (va_cwS 2 hts gX7_ofDrawer_X7_ofD rfl rfl rfl (by decide +kernel) ⟨Nat.le_of_ble_eq_true rfl, Nat.le_of_ble_eq_true rfl⟩) ⟨fun _ _ _ _ q => q, fun _ _ _ => ⟨rfl, trivial⟩⟩ rfl rfl hl.1 rfl (lv_room (Nat.le_of_ble_eq_true rfl)) dX7_ofDrawer_71 ⟨Nat.zero_le _, Nat.zero_le _⟩) (fun r71 hw => ?_)
      subst hw
      obtain ⟨hi, hf⟩ := ck_1 hf hne
      refine va_iald (f := (v0 0)) hx hb hK hP 1 0 rfl rfl (ixb_1 hi) dX7_ofDrawer_74 ?_
      exact W.iret (v := ((v0 0) (Int32.toNatClampNeg (f_X7_ofD p1 (p2 - 1))))) hx hb hr (fun t ht hW => ⟨((v0 0) (Int32.toNatClampNeg (f_X7_ofD p1 (p2 - 1)))), rfl, hf0.trans hf.symm, ht⟩) (fun _ hq => absurd hq List.not_mem_nil) dX7_ofDrawer_75
    have hf := it_2 hf c3
    by_cases c4 : p2 = 4
    · have hf := it_1 hf c4
      refine lv_tableIn (off := 53) (tgt := 63) hx hb dX7_ofDrawer_10 (by rw [c4]; decide) (by rw [c4]; decide) (by rw [c4]; rfl) (by decide) ?_
      refine lv_aload_n hx hb dX7_ofDrawer_63 rfl (lv_at hl 0 rfl) ?_
      refine va_get (D := G.1) (ci := 7) (v := .ref (a 1)) (C := RX7) (T := TX7) (N := 16) hx hb hts hinX7 hown hK hP 0 rfl rfl 0 (by decide) lk7 (fun _ h9 => h9) rfl dX7_ofDrawer_64 ?_
      refine lv_iload_n hx hb dX7_ofDrawer_67 rfl (lv_at hl 1 rfl) ?_
      refine lv_iload_n hx hb dX7_ofDrawer_68 rfl (lv_at hl 2 rfl) ?_
      refine lv_iconst (v := 1) hx hb dX7_ofDrawer_69 (by decide) ?_
      refine lv_isub hx hb dX7_ofDrawer_70 ?_
      refine vp_callSi (W.runS (As := [.int p1, .int (p2 - 1)]) (rest := [.ref (a 1)]) ⟨hx, hb, hml, hown, hts⟩ (ok_X7_ofD l p1 (p2 - 1)) (va_cwS 2 hts gX7_ofDrawer_X7_ofD rfl rfl rfl (by decide +kernel) ⟨Nat.le_of_ble_eq_true rfl, Nat.le_of_ble_eq_true rfl⟩) ⟨fun _ _ _ _ q => q, fun _ _ _ => ⟨rfl, trivial⟩⟩ rfl rfl hl.1 rfl (lv_room (Nat.le_of_ble_eq_true rfl)) dX7_ofDrawer_71 ⟨Nat.zero_le _, Nat.zero_le _⟩) (fun r71 hw => ?_)
      subst hw
      obtain ⟨hi, hf⟩ := ck_1 hf hne
      refine va_iald (f := (v0 0)) hx hb hK hP 1 0 rfl rfl (ixb_1 hi) dX7_ofDrawer_74 ?_
      exact W.iret (v := ((v0 0) (Int32.toNatClampNeg (f_X7_ofD p1 (p2 - 1))))) hx hb hr (fun t ht hW => ⟨((v0 0) (Int32.toNatClampNeg (f_X7_ofD p1 (p2 - 1)))), rfl, hf0.trans hf.symm, ht⟩) (fun _ hq => absurd hq List.not_mem_nil) dX7_ofDrawer_75
    have hf := it_2 hf c4
    by_cases c5 : p2 = 5
    · have hf := it_1 hf c5
      refine lv_tableIn (off := 66) (tgt := 76) hx hb dX7_ofDrawer_10 (by rw [c5]; decide) (by rw [c5]; decide) (by rw [c5]; rfl) (by decide) ?_
      refine lv_aload_n hx hb dX7_ofDrawer_76 rfl (lv_at hl 0 rfl) ?_
      refine lv_iload_n hx hb dX7_ofDrawer_77 rfl (lv_at hl 1 rfl) ?_
      have hn := bd1_1 hf hne
      refine vp_callSi (W.runV (As := [.int p1]) (rest := []) ⟨hx, hb, hml, hown, hts⟩ (ok_X7_heatIn l G a n0 v0 p1 hn) (cwV 1 hts gX7_ofDrawer_X7_heatIn rfl rfl rfl (by decide +kernel) ⟨Nat.le_of_ble_eq_true rfl, Nat.le_of_ble_eq_true rfl⟩) ⟨pcR_blind, va_recv hK hP (ci := 7) (q0 := 0) rfl rfl, pcR_pre hP hamb⟩ rfl rfl hl.1 rfl (lv_room (Nat.le_of_ble_eq_true rfl)) dX7_ofDrawer_78 ⟨Nat.zero_le _, Nat.zero_le _⟩) (fun r78 hw => ?_)
      have hf := bd1_2 hf hw
      exact W.iret (v := r78) hx hb hr (fun t ht hW => ⟨r78, rfl, hf0.trans hf.symm, ht⟩) (fun _ hq => absurd hq List.not_mem_nil) dX7_ofDrawer_81
    have hf := it_2 hf c5
    by_cases c6 : p2 = 6
    · have hf := it_1 hf c6
      refine lv_tableIn (off := 72) (tgt := 82) hx hb dX7_ofDrawer_10 (by rw [c6]; decide) (by rw [c6]; decide) (by rw [c6]; rfl) (by decide) ?_
      refine lv_aload_n hx hb dX7_ofDrawer_82 rfl (lv_at hl 0 rfl) ?_
      refine lv_iload_n hx hb dX7_ofDrawer_83 rfl (lv_at hl 1 rfl) ?_
      refine lv_iload_n hx hb dX7_ofDrawer_84 rfl (lv_at hl 2 rfl) ?_
      refine lv_iconst (v := 5) hx hb dX7_ofDrawer_85 (by decide) ?_
      refine lv_isub hx hb dX7_ofDrawer_86 ?_
      have hn := bd1_1 hf hne
      refine vp_callSi (W.runV (As := [.int p1, .int (p2 - 5)]) (rest := []) ⟨hx, hb, hml, hown, hts⟩ (ok_X7_many l G a n0 v0 p1 (p2 - 5) hn) (cwV 2 hts gX7_ofDrawer_X7_many rfl rfl rfl (by decide +kernel) ⟨Nat.le_of_ble_eq_true rfl, Nat.le_of_ble_eq_true rfl⟩) ⟨pcR_blind, va_recv hK hP (ci := 7) (q0 := 0) rfl rfl, pcR_pre hP hamb⟩ rfl rfl hl.1 rfl (lv_room (Nat.le_of_ble_eq_true rfl)) dX7_ofDrawer_87 ⟨Nat.zero_le _, Nat.zero_le _⟩) (fun r87 hw => ?_)
      have hf := bd1_2 hf hw
      exact W.iret (v := r87) hx hb hr (fun t ht hW => ⟨r87, rfl, hf0.trans hf.symm, ht⟩) (fun _ hq => absurd hq List.not_mem_nil) dX7_ofDrawer_90
    have hf := it_2 hf c6
    by_cases c7 : p2 = 7
    · have hf := it_1 hf c7
      refine lv_tableIn (off := 72) (tgt := 82) hx hb dX7_ofDrawer_10 (by rw [c7]; decide) (by rw [c7]; decide) (by rw [c7]; rfl) (by decide) ?_
      refine lv_aload_n hx hb dX7_ofDrawer_82 rfl (lv_at hl 0 rfl) ?_
      refine lv_iload_n hx hb dX7_ofDrawer_83 rfl (lv_at hl 1 rfl) ?_
      refine lv_iload_n hx hb dX7_ofDrawer_84 rfl (lv_at hl 2 rfl) ?_
      refine lv_iconst (v := 5) hx hb dX7_ofDrawer_85 (by decide) ?_
      refine lv_isub hx hb dX7_ofDrawer_86 ?_
      have hn := bd1_1 hf hne
      refine vp_callSi (W.runV (As := [.int p1, .int (p2 - 5)]) (rest := []) ⟨hx, hb, hml, hown, hts⟩ (ok_X7_many l G a n0 v0 p1 (p2 - 5) hn) (cwV 2 hts gX7_ofDrawer_X7_many rfl rfl rfl (by decide +kernel) ⟨Nat.le_of_ble_eq_true rfl, Nat.le_of_ble_eq_true rfl⟩) ⟨pcR_blind, va_recv hK hP (ci := 7) (q0 := 0) rfl rfl, pcR_pre hP hamb⟩ rfl rfl hl.1 rfl (lv_room (Nat.le_of_ble_eq_true rfl)) dX7_ofDrawer_87 ⟨Nat.zero_le _, Nat.zero_le _⟩) (fun r87 hw => ?_)
      have hf := bd1_2 hf hw
      exact W.iret (v := r87) hx hb hr (fun t ht hW => ⟨r87, rfl, hf0.trans hf.symm, ht⟩) (fun _ hq => absurd hq List.not_mem_nil) dX7_ofDrawer_90
    have hf := it_2 hf c7
    have e0 := ne_i c0 (k := 0) (by decide)
    have e1 := ne_i c1 (k := 1) (by decide)
    have e2 := ne_i c2 (k := 2) (by decide)
    have e3 := ne_i c3 (k := 3) (by decide)
    have e4 := ne_i c4 (k := 4) (by decide)
    have e5 := ne_i c5 (k := 5) (by decide)
    have e6 := ne_i c6 (k := 6) (by decide)
    have e7 := ne_i c7 (k := 7) (by decide)
    refine lv_tableOut (tgt := 91) hx hb dX7_ofDrawer_10 (by omega) (by decide) ?_
    refine lv_bipush (v := (-2)) hx hb dX7_ofDrawer_91 (by decide) ?_
    exact W.iret (v := (-2)) hx hb hr (fun t ht hW => ⟨(-2), rfl, hf0.trans hf.symm, ht⟩) (fun _ hq => absurd hq List.not_mem_nil) dX7_ofDrawer_93
  · have hf := it_1 hf c
    refine lv_iconst (v := (-1)) hx hb dX7_ofDrawer_7 (by decide) ?_
    exact W.iret (v := (-1)) hx hb hr (fun t ht hW => ⟨(-1), rfl, hf0.trans hf.symm, ht⟩) (fun _ hq => absurd hq List.not_mem_nil) dX7_ofDrawer_8
set_option maxHeartbeats 4000000 in
set_option maxRecDepth 100000 in
theorem ok_X7_letters (l : Launch) (G : Gt) (a : Nat → Nat) (n0 : Nat) (v0 : DV) (p1 : Int32) (hne : f_X7_letters n0 v0 p1 ≠ none) : Met l yX7_letters wsX7_letters ({ frames := 3, cells := 0, slots := 0, locals := 66 } : Room) (pcR G [.ref (a 0), .int p1] (modelC G.2 a v0)) (vp_Sl (fun r => f_X7_letters n0 v0 p1 = some r)) 0 0 (fun _ => False) := by
  refine Met.ofW (cc := cX7_letters) (maxL := 5) (ret := (some .long)) (by decide) rfl ?_
  intro p e s m args below meth c s₁ B hml hv
  obtain ⟨rfl, hP, hamb⟩ := hv
  have hx := B.exec
  have hb := B.bytes
  have hr := B.returns
  have hts := atoms_spec (ws := wsX7_letters) B.pre
  have hown : s.vm.findClass RX7 = some m.cls := findClass_of_methodNamed B.named
  have hlocks := B.notSynchronized
  have hK := hamb.1
  obtain ⟨res, hf0⟩ : ∃ res, f_X7_letters n0 v0 p1 = res := ⟨_, rfl⟩
  have hne : res ≠ none := hf0 ▸ hne
  have hf := hf0
  rw [f_X7_letters] at hf
  have hinX7 : ∀ w ∈ u_ws RX7 TX7 16, w ∈ wsX7_letters := by decide +kernel
  have lk7 := hts (.fieldLink RX7 7 "MoodDrawersModel" "s" "[I") (by decide +kernel)
  have lw1 := hts (.constantLong RX7 113 ((-2))) (by decide +kernel)
  have hl := lv_entry ([.ref (a 0), .int p1]) (n := 5) (Nat.le_of_ble_eq_true rfl)
  rw [lg_entry_eq]
  generalize (lg_sl ([.ref (a 0), .int p1]) ++ List.replicate (5 - (lg_sl ([.ref (a 0), .int p1])).length) Slot.unset).toArray = ls at hl ⊢
  have hl : lv_has ls 5 [(0, .ref (a 0)), (1, .int p1)] := hl
  have L18 : ∀ (n : Nat) (v : DV) (x1 : Int32) (x2 : Int64) (x4 : Int32) (ls : Array Slot), va_P G.1 vwCl (modelC G.2 a v) s.heap → lv_has ls 5 [(0, .ref (a 0)), (1, .int x1), (2, .long x2), (4, .int x4)] → f_X7_letters_L18 n v x1 x2 x4 = res → W p l e (headSpec wsX7_letters ({ frames := 3, cells := 0, slots := 0, locals := 66 } : Room)).room s m ([.ref (a 0), .int p1] : List Value).toArray below meth c s.heap [] 0 0 (MQ below (vp_Sl (fun r => f_X7_letters n0 v0 p1 = some r)) ([.ref (a 0), .int p1] : List Value).toArray s 0 0 (fun _ => False)) (F0 m 18 ls []) := by
    intro n
    induction n with
    | zero => intro v x1 x2 x4 ls hP hl hf; exact (none_1 hf hne).elim
    | succ n ih =>
      intro v x1 x2 x4 ls hP hl hf
      rw [f_X7_letters_L18] at hf
      refine lv_iload hx hb dX7_letters_18 (lv_at hl 3 rfl) ?_
      refine lv_aload_n hx hb dX7_letters_20 rfl (lv_at hl 0 rfl) ?_
      refine va_get (D := G.1) (ci := 7) (v := .ref (a 1)) (C := RX7) (T := TX7) (N := 16) hx hb hts hinX7 hown hK hP 0 rfl rfl 0 (by decide) lk7 (fun _ h9 => h9) rfl dX7_letters_21 ?_
      refine lv_iconst (v := 5) hx hb dX7_letters_24 (by decide) ?_
      refine va_iald (f := (v 0)) hx hb hK hP 1 0 rfl rfl (ixb_1 (show ixb 5 240 = true from rfl)) dX7_letters_25 ?_
      refine lv_icmp_ge (tgt := 78) hx hb dX7_letters_26 (by decide) (fun c => ?_) (fun c => ?_)
      · have hf := it_1 hf c
        refine lv_lload_n hx hb dX7_letters_78 rfl (lv_at hl 2 rfl) ?_
        exact W.lret (v := x2) hx hb hr (fun t ht hW => ⟨x2, rfl, hf0.trans hf.symm, ht⟩) (fun _ hq => absurd hq List.not_mem_nil) dX7_letters_79
      · have hf := it_2 hf c
        refine lv_lload_n hx hb dX7_letters_29 rfl (lv_at hl 2 rfl) ?_
        refine lv_iload_n hx hb dX7_letters_30 rfl (lv_at hl 1 rfl) ?_
        refine lv_iconst (v := 3) hx hb dX7_letters_31 (by decide) ?_
        refine lv_icmp_ne (tgt := 47) hx hb dX7_letters_32 (by decide) (fun c => ?_) (fun c => ?_)
        · have hf := it_2 hf c
          refine lv_aload_n hx hb dX7_letters_47 rfl (lv_at hl 0 rfl) ?_
          refine va_get (D := G.1) (ci := 7) (v := .ref (a 1)) (C := RX7) (T := TX7) (N := 16) hx hb hts hinX7 hown hK hP 0 rfl rfl 0 (by decide) lk7 (fun _ h9 => h9) rfl dX7_letters_48 ?_
          refine lv_iload hx hb dX7_letters_51 (lv_at hl 3 rfl) ?_
          refine lv_iconst (v := 3) hx hb dX7_letters_53 (by decide) ?_
          refine vp_callSi (W.runS (As := [.int x4, .int 3]) (rest := [.ref (a 1), .long x2]) ⟨hx, hb, hml, hown, hts⟩ (ok_X7_ofL l x4 3) (va_cwS 2 hts gX7_letters_X7_ofL rfl rfl rfl (by decide +kernel) ⟨Nat.le_of_ble_eq_true rfl, Nat.le_of_ble_eq_true rfl⟩) ⟨fun _ _ _ _ q => q, fun _ _ _ => ⟨rfl, trivial⟩⟩ rfl rfl hl.1 rfl (lv_room (Nat.le_of_ble_eq_true rfl)) dX7_letters_54 ⟨Nat.zero_le _, Nat.zero_le _⟩) (fun r54 hw => ?_)
          subst hw
          obtain ⟨hi, hf⟩ := ck_1 hf hne
          refine va_iald (f := (v 0)) hx hb hK hP 1 0 rfl rfl (ixb_1 hi) dX7_letters_57 ?_
          refine lv_iload_n hx hb dX7_letters_58 rfl (lv_at hl 1 rfl) ?_
          refine lv_icmp_ne (tgt := 69) hx hb dX7_letters_59 (by decide) (fun c => ?_) (fun c => ?_)
          · have hf := it_2 hf c
            refine lv_lconst (v := 0) hx hb dX7_letters_69 (by decide) ?_
            refine lv_lor hx hb dX7_letters_70 ?_
            refine lv_lstore_n (lv' := [(2, .long (x2 ||| 0)), (0, .ref (a 0)), (1, .int x1), (4, .int x4)]) hx hb dX7_letters_71 rfl hl (by decide) rfl (fun ls hl => ?_)
            refine lv_iinc (v := (x4 + 1)) (lv' := [(4, .int (x4 + 1)), (2, .long (x2 ||| 0)), (0, .ref (a 0)), (1, .int x1)]) hx hb dX7_letters_72 hl (k := 3) rfl rfl (by decide) rfl (fun ls hl => ?_)
            refine lv_goto (tgt := 18) hx hb dX7_letters_75 (by decide) ?_
            exact ih v x1 (x2 ||| 0) (x4 + 1) ls hP (lv_sub hl [2, 3, 1, 0] rfl) hf
          · have hf := it_1 hf c
            refine lv_lconst (v := 1) hx hb dX7_letters_62 (by decide) ?_
            refine lv_iload hx hb dX7_letters_63 (lv_at hl 3 rfl) ?_
            refine lv_lshl hx hb dX7_letters_65 rfl ?_
            refine lv_goto (tgt := 70) hx hb dX7_letters_66 (by decide) ?_
            refine lv_lor hx hb dX7_letters_70 ?_
            refine lv_lstore_n (lv' := [(2, .long (x2 ||| (1 <<< (Int32.toInt64 x4 &&& 63)))), (0, .ref (a 0)), (1, .int x1), (4, .int x4)]) hx hb dX7_letters_71 rfl hl (by decide) rfl (fun ls hl => ?_)
            refine lv_iinc (v := (x4 + 1)) (lv' := [(4, .int (x4 + 1)), (2, .long (x2 ||| (1 <<< (Int32.toInt64 x4 &&& 63)))), (0, .ref (a 0)), (1, .int x1)]) hx hb dX7_letters_72 hl (k := 3) rfl rfl (by decide) rfl (fun ls hl => ?_)
            refine lv_goto (tgt := 18) hx hb dX7_letters_75 (by decide) ?_
            exact ih v x1 (x2 ||| (1 <<< (Int32.toInt64 x4 &&& 63))) (x4 + 1) ls hP (lv_sub hl [2, 3, 1, 0] rfl) hf
        · have hf := it_1 hf c
          refine lv_aload_n hx hb dX7_letters_35 rfl (lv_at hl 0 rfl) ?_
          refine lv_iload hx hb dX7_letters_36 (lv_at hl 3 rfl) ?_
          have hn := bd1_1 hf hne
          refine vp_callSi (W.runV (As := [.int x4]) (rest := [.long x2]) ⟨hx, hb, hml, hown, hts⟩ (ok_X7_wouldGo l G a v x4 hn) (cwV 1 hts gX7_letters_X7_wouldGo rfl rfl rfl (by decide +kernel) ⟨Nat.le_of_ble_eq_true rfl, Nat.le_of_ble_eq_true rfl⟩) ⟨pcR_blind, va_recv hK hP (ci := 7) (q0 := 0) rfl rfl, pcR_pre hP hamb⟩ rfl rfl hl.1 rfl (lv_room (Nat.le_of_ble_eq_true rfl)) dX7_letters_38 ⟨Nat.zero_le _, Nat.zero_le _⟩) (fun r38 hw => ?_)
          have hf := bd1_2 hf hw
          refine lv_if_eq (tgt := 69) hx hb dX7_letters_41 (by decide) (fun c => ?_) (fun c => ?_)
          · have hf := it_1 hf c
            refine lv_lconst (v := 0) hx hb dX7_letters_69 (by decide) ?_
            refine lv_lor hx hb dX7_letters_70 ?_
            refine lv_lstore_n (lv' := [(2, .long (x2 ||| 0)), (0, .ref (a 0)), (1, .int x1), (4, .int x4)]) hx hb dX7_letters_71 rfl hl (by decide) rfl (fun ls hl => ?_)
            refine lv_iinc (v := (x4 + 1)) (lv' := [(4, .int (x4 + 1)), (2, .long (x2 ||| 0)), (0, .ref (a 0)), (1, .int x1)]) hx hb dX7_letters_72 hl (k := 3) rfl rfl (by decide) rfl (fun ls hl => ?_)
            refine lv_goto (tgt := 18) hx hb dX7_letters_75 (by decide) ?_
            exact ih v x1 (x2 ||| 0) (x4 + 1) ls hP (lv_sub hl [2, 3, 1, 0] rfl) hf
          · have hf := it_2 hf c
            refine lv_goto (tgt := 62) hx hb dX7_letters_44 (by decide) ?_
            refine lv_lconst (v := 1) hx hb dX7_letters_62 (by decide) ?_
            refine lv_iload hx hb dX7_letters_63 (lv_at hl 3 rfl) ?_
            refine lv_lshl hx hb dX7_letters_65 rfl ?_
            refine lv_goto (tgt := 70) hx hb dX7_letters_66 (by decide) ?_
            refine lv_lor hx hb dX7_letters_70 ?_
            refine lv_lstore_n (lv' := [(2, .long (x2 ||| (1 <<< (Int32.toInt64 x4 &&& 63)))), (0, .ref (a 0)), (1, .int x1), (4, .int x4)]) hx hb dX7_letters_71 rfl hl (by decide) rfl (fun ls hl => ?_)
            refine lv_iinc (v := (x4 + 1)) (lv' := [(4, .int (x4 + 1)), (2, .long (x2 ||| (1 <<< (Int32.toInt64 x4 &&& 63)))), (0, .ref (a 0)), (1, .int x1)]) hx hb dX7_letters_72 hl (k := 3) rfl rfl (by decide) rfl (fun ls hl => ?_)
            refine lv_goto (tgt := 18) hx hb dX7_letters_75 (by decide) ?_
            exact ih v x1 (x2 ||| (1 <<< (Int32.toInt64 x4 &&& 63))) (x4 + 1) ls hP (lv_sub hl [2, 3, 1, 0] rfl) hf
  refine lv_iload_n hx hb dX7_letters_0 rfl (lv_at hl 1 rfl) ?_
  refine lv_iconst (v := 0) hx hb dX7_letters_1 (by decide) ?_
  refine lv_iconst (v := 3) hx hb dX7_letters_2 (by decide) ?_
  refine vp_callSi (W.runS (As := [.int p1, .int 0, .int 3]) (rest := []) ⟨hx, hb, hml, hown, hts⟩ (ok_X7_in l p1 0 3) (va_cwS 3 hts gX7_letters_X7_in rfl rfl rfl (by decide +kernel) ⟨Nat.le_of_ble_eq_true rfl, Nat.le_of_ble_eq_true rfl⟩) ⟨fun _ _ _ _ q => q, fun _ _ _ => ⟨rfl, trivial⟩⟩ rfl rfl hl.1 rfl (lv_room (Nat.le_of_ble_eq_true rfl)) dX7_letters_3 ⟨Nat.zero_le _, Nat.zero_le _⟩) (fun r3 hw => ?_)
  subst hw
  refine lv_if_ne (tgt := 13) hx hb dX7_letters_6 (by decide) (fun c => ?_) (fun c => ?_)
  · have hf := it_2 hf c
    refine lv_lconst (v := 0) hx hb dX7_letters_13 (by decide) ?_
    refine lv_lstore_n (lv' := [(2, .long 0), (0, .ref (a 0)), (1, .int p1)]) hx hb dX7_letters_14 rfl hl (by decide) rfl (fun ls hl => ?_)
    refine lv_iconst (v := 0) hx hb dX7_letters_15 (by decide) ?_
    refine lv_istore (lv' := [(4, .int 0), (2, .long 0), (0, .ref (a 0)), (1, .int p1)]) hx hb dX7_letters_16 hl (by decide) rfl (fun ls hl => ?_)
    exact L18 n0 v0 p1 0 0 ls hP (lv_sub hl [2, 3, 1, 0] rfl) hf
  · have hf := it_1 hf c
    refine lv_ldc2 (v := (-2)) hx hb hown lw1 dX7_letters_9 ?_
    exact W.lret (v := (-2)) hx hb hr (fun t ht hW => ⟨(-2), rfl, hf0.trans hf.symm, ht⟩) (fun _ hq => absurd hq List.not_mem_nil) dX7_letters_12
set_option maxHeartbeats 4000000 in
set_option maxRecDepth 100000 in
theorem ok_X7_locked (l : Launch) (G : Gt) (a : Nat → Nat) (n0 : Nat) (v0 : DV) (hne : f_X7_locked n0 v0 ≠ none) : Met l yX7_locked wsX7_locked ({ frames := 1, cells := 0, slots := 0, locals := 21 } : Room) (pcR G [.ref (a 0)] (modelC G.2 a v0)) (vp_Si (fun r => f_X7_locked n0 v0 = some r)) 0 0 (fun _ => False) := by
  refine Met.ofW (cc := cX7_locked) (maxL := 3) (ret := (some .int)) (by decide) rfl ?_
  intro p e s m args below meth c s₁ B hml hv
  obtain ⟨rfl, hP, hamb⟩ := hv
  have hx := B.exec
  have hb := B.bytes
  have hr := B.returns
  have hts := atoms_spec (ws := wsX7_locked) B.pre
  have hown : s.vm.findClass RX7 = some m.cls := findClass_of_methodNamed B.named
  have hlocks := B.notSynchronized
  have hK := hamb.1
  obtain ⟨res, hf0⟩ : ∃ res, f_X7_locked n0 v0 = res := ⟨_, rfl⟩
  have hne : res ≠ none := hf0 ▸ hne
  have hf := hf0
  rw [f_X7_locked] at hf
  have hinX7 : ∀ w ∈ u_ws RX7 TX7 16, w ∈ wsX7_locked := by decide +kernel
  have lk7 := hts (.fieldLink RX7 7 "MoodDrawersModel" "s" "[I") (by decide +kernel)
  have hl := lv_entry ([.ref (a 0)]) (n := 3) (Nat.le_of_ble_eq_true rfl)
  rw [lg_entry_eq]
  generalize (lg_sl ([.ref (a 0)]) ++ List.replicate (3 - (lg_sl ([.ref (a 0)])).length) Slot.unset).toArray = ls at hl ⊢
  have hl : lv_has ls 3 [(0, .ref (a 0))] := hl
  have L4 : ∀ (n : Nat) (v : DV) (x1 : Int32) (x2 : Int32) (ls : Array Slot), va_P G.1 vwCl (modelC G.2 a v) s.heap → lv_has ls 3 [(0, .ref (a 0)), (1, .int x1), (2, .int x2)] → f_X7_locked_L4 n v x1 x2 = res → W p l e (headSpec wsX7_locked ({ frames := 1, cells := 0, slots := 0, locals := 21 } : Room)).room s m ([.ref (a 0)] : List Value).toArray below meth c s.heap [] 0 0 (MQ below (vp_Si (fun r => f_X7_locked n0 v0 = some r)) ([.ref (a 0)] : List Value).toArray s 0 0 (fun _ => False)) (F0 m 4 ls []) := by
    intro n
    induction n with
    | zero => intro v x1 x2 ls hP hl hf; exact (none_1 hf hne).elim
    | succ n ih =>
      intro v x1 x2 ls hP hl hf
      rw [f_X7_locked_L4] at hf
      refine lv_iload_n hx hb dX7_locked_4 rfl (lv_at hl 2 rfl) ?_
      refine lv_bipush (v := 6) hx hb dX7_locked_5 (by decide) ?_
      refine lv_icmp_ge (tgt := 29) hx hb dX7_locked_7 (by decide) (fun c => ?_) (fun c => ?_)
      · have hf := it_1 hf c
        refine lv_iload_n hx hb dX7_locked_29 rfl (lv_at hl 1 rfl) ?_
        exact W.iret (v := x1) hx hb hr (fun t ht hW => ⟨x1, rfl, hf0.trans hf.symm, ht⟩) (fun _ hq => absurd hq List.not_mem_nil) dX7_locked_30
      · have hf := it_2 hf c
        refine lv_iload_n hx hb dX7_locked_10 rfl (lv_at hl 1 rfl) ?_
        refine lv_aload_n hx hb dX7_locked_11 rfl (lv_at hl 0 rfl) ?_
        refine va_get (D := G.1) (ci := 7) (v := .ref (a 1)) (C := RX7) (T := TX7) (N := 16) hx hb hts hinX7 hown hK hP 0 rfl rfl 0 (by decide) lk7 (fun _ h9 => h9) rfl dX7_locked_12 ?_
        refine lv_iload_n hx hb dX7_locked_15 rfl (lv_at hl 2 rfl) ?_
        refine lv_iconst (v := 0) hx hb dX7_locked_16 (by decide) ?_
        refine vp_callSi (W.runS (As := [.int x2, .int 0]) (rest := [.ref (a 1), .int x1]) ⟨hx, hb, hml, hown, hts⟩ (ok_X7_ofD l x2 0) (va_cwS 2 hts gX7_locked_X7_ofD rfl rfl rfl (by decide +kernel) ⟨Nat.le_of_ble_eq_true rfl, Nat.le_of_ble_eq_true rfl⟩) ⟨fun _ _ _ _ q => q, fun _ _ _ => ⟨rfl, trivial⟩⟩ rfl rfl hl.1 rfl (lv_room (Nat.le_of_ble_eq_true rfl)) dX7_locked_17 ⟨Nat.zero_le _, Nat.zero_le _⟩) (fun r17 hw => ?_)
        subst hw
        obtain ⟨hi, hf⟩ := ck_1 hf hne
        refine va_iald (f := (v 0)) hx hb hK hP 1 0 rfl rfl (ixb_1 hi) dX7_locked_20 ?_
        refine lv_iadd hx hb dX7_locked_21 ?_
        refine lv_istore_n (lv' := [(1, .int (x1 + ((v 0) (Int32.toNatClampNeg (f_X7_ofD x2 0))))), (0, .ref (a 0)), (2, .int x2)]) hx hb dX7_locked_22 rfl hl (by decide) rfl (fun ls hl => ?_)
        refine lv_iinc (v := (x2 + 1)) (lv' := [(2, .int (x2 + 1)), (1, .int (x1 + ((v 0) (Int32.toNatClampNeg (f_X7_ofD x2 0))))), (0, .ref (a 0))]) hx hb dX7_locked_23 hl (k := 2) rfl rfl (by decide) rfl (fun ls hl => ?_)
        refine lv_goto (tgt := 4) hx hb dX7_locked_26 (by decide) ?_
        exact ih v (x1 + ((v 0) (Int32.toNatClampNeg (f_X7_ofD x2 0)))) (x2 + 1) ls hP (lv_sub hl [2, 1, 0] rfl) hf
  refine lv_iconst (v := 0) hx hb dX7_locked_0 (by decide) ?_
  refine lv_istore_n (lv' := [(1, .int 0), (0, .ref (a 0))]) hx hb dX7_locked_1 rfl hl (by decide) rfl (fun ls hl => ?_)
  refine lv_iconst (v := 0) hx hb dX7_locked_2 (by decide) ?_
  refine lv_istore_n (lv' := [(2, .int 0), (1, .int 0), (0, .ref (a 0))]) hx hb dX7_locked_3 rfl hl (by decide) rfl (fun ls hl => ?_)
  exact L4 n0 v0 0 0 ls hP (lv_sub hl [2, 1, 0] rfl) hf
set_option maxHeartbeats 4000000 in
set_option maxRecDepth 100000 in
theorem ok_X7_count (l : Launch) (G : Gt) (a : Nat → Nat) (n0 : Nat) (v0 : DV) (p1 : Int32) (hne : f_X7_count n0 v0 p1 ≠ none) : Met l yX7_count wsX7_count ({ frames := 2, cells := 0, slots := 0, locals := 45 } : Room) (pcR G [.ref (a 0), .int p1] (modelC G.2 a v0)) (vp_Si (fun r => f_X7_count n0 v0 p1 = some r)) 0 0 (fun _ => False) := by
  refine Met.ofW (cc := cX7_count) (maxL := 2) (ret := (some .int)) (by decide) rfl ?_
  intro p e s m args below meth c s₁ B hml hv
  obtain ⟨rfl, hP, hamb⟩ := hv
  have hx := B.exec
  have hb := B.bytes
  have hr := B.returns
  have hts := atoms_spec (ws := wsX7_count) B.pre
  have hown : s.vm.findClass RX7 = some m.cls := findClass_of_methodNamed B.named
  have hlocks := B.notSynchronized
  have hK := hamb.1
  obtain ⟨res, hf0⟩ : ∃ res, f_X7_count n0 v0 p1 = res := ⟨_, rfl⟩
  have hne : res ≠ none := hf0 ▸ hne
  have hf := hf0
  rw [f_X7_count] at hf
  have hinX7 : ∀ w ∈ u_ws RX7 TX7 16, w ∈ wsX7_count := by decide +kernel
  have lk7 := hts (.fieldLink RX7 7 "MoodDrawersModel" "s" "[I") (by decide +kernel)
  have lk119 := hts (.fieldLink RX7 119 "MoodDrawersModel" "length" "I") (by decide +kernel)
  have lk43 := hts (.fieldLink RX7 43 "MoodDrawersModel" "known" "I") (by decide +kernel)
  have hl := lv_entry ([.ref (a 0), .int p1]) (n := 2) (Nat.le_of_ble_eq_true rfl)
  rw [lg_entry_eq]
  generalize (lg_sl ([.ref (a 0), .int p1]) ++ List.replicate (2 - (lg_sl ([.ref (a 0), .int p1])).length) Slot.unset).toArray = ls at hl ⊢
  have hl : lv_has ls 2 [(0, .ref (a 0)), (1, .int p1)] := hl
  refine lv_iload_n hx hb dX7_count_0 rfl (lv_at hl 1 rfl) ?_
  by_cases c0 : p1 = 0
  · have hf := it_1 hf c0
    refine lv_tableIn (off := 63) (tgt := 64) hx hb dX7_count_1 (by rw [c0]; decide) (by rw [c0]; decide) (by rw [c0]; rfl) (by decide) ?_
    refine lv_aload_n hx hb dX7_count_64 rfl (lv_at hl 0 rfl) ?_
    refine va_get (D := G.1) (ci := 7) (v := .ref (a 1)) (C := RX7) (T := TX7) (N := 16) hx hb hts hinX7 hown hK hP 0 rfl rfl 0 (by decide) lk7 (fun _ h9 => h9) rfl dX7_count_65 ?_
    refine lv_iconst (v := 3) hx hb dX7_count_68 (by decide) ?_
    refine lv_iload_n hx hb dX7_count_69 rfl (lv_at hl 1 rfl) ?_
    refine lv_iadd hx hb dX7_count_70 ?_
    obtain ⟨hi, hf⟩ := ck_1 hf hne
    refine va_iald (f := (v0 0)) hx hb hK hP 1 0 rfl rfl (ixb_1 hi) dX7_count_71 ?_
    exact W.iret (v := ((v0 0) (Int32.toNatClampNeg (3 + p1)))) hx hb hr (fun t ht hW => ⟨((v0 0) (Int32.toNatClampNeg (3 + p1))), rfl, hf0.trans hf.symm, ht⟩) (fun _ hq => absurd hq List.not_mem_nil) dX7_count_72
  have hf := it_2 hf c0
  by_cases c1 : p1 = 1
  · have hf := it_1 hf c1
    refine lv_tableIn (off := 63) (tgt := 64) hx hb dX7_count_1 (by rw [c1]; decide) (by rw [c1]; decide) (by rw [c1]; rfl) (by decide) ?_
    refine lv_aload_n hx hb dX7_count_64 rfl (lv_at hl 0 rfl) ?_
    refine va_get (D := G.1) (ci := 7) (v := .ref (a 1)) (C := RX7) (T := TX7) (N := 16) hx hb hts hinX7 hown hK hP 0 rfl rfl 0 (by decide) lk7 (fun _ h9 => h9) rfl dX7_count_65 ?_
    refine lv_iconst (v := 3) hx hb dX7_count_68 (by decide) ?_
    refine lv_iload_n hx hb dX7_count_69 rfl (lv_at hl 1 rfl) ?_
    refine lv_iadd hx hb dX7_count_70 ?_
    obtain ⟨hi, hf⟩ := ck_1 hf hne
    refine va_iald (f := (v0 0)) hx hb hK hP 1 0 rfl rfl (ixb_1 hi) dX7_count_71 ?_
    exact W.iret (v := ((v0 0) (Int32.toNatClampNeg (3 + p1)))) hx hb hr (fun t ht hW => ⟨((v0 0) (Int32.toNatClampNeg (3 + p1))), rfl, hf0.trans hf.symm, ht⟩) (fun _ hq => absurd hq List.not_mem_nil) dX7_count_72
  have hf := it_2 hf c1
  by_cases c2 : p1 = 2
  · have hf := it_1 hf c2
    refine lv_tableIn (off := 63) (tgt := 64) hx hb dX7_count_1 (by rw [c2]; decide) (by rw [c2]; decide) (by rw [c2]; rfl) (by decide) ?_
    refine lv_aload_n hx hb dX7_count_64 rfl (lv_at hl 0 rfl) ?_
    refine va_get (D := G.1) (ci := 7) (v := .ref (a 1)) (C := RX7) (T := TX7) (N := 16) hx hb hts hinX7 hown hK hP 0 rfl rfl 0 (by decide) lk7 (fun _ h9 => h9) rfl dX7_count_65 ?_
    refine lv_iconst (v := 3) hx hb dX7_count_68 (by decide) ?_
    refine lv_iload_n hx hb dX7_count_69 rfl (lv_at hl 1 rfl) ?_
    refine lv_iadd hx hb dX7_count_70 ?_
    obtain ⟨hi, hf⟩ := ck_1 hf hne
    refine va_iald (f := (v0 0)) hx hb hK hP 1 0 rfl rfl (ixb_1 hi) dX7_count_71 ?_
    exact W.iret (v := ((v0 0) (Int32.toNatClampNeg (3 + p1)))) hx hb hr (fun t ht hW => ⟨((v0 0) (Int32.toNatClampNeg (3 + p1))), rfl, hf0.trans hf.symm, ht⟩) (fun _ hq => absurd hq List.not_mem_nil) dX7_count_72
  have hf := it_2 hf c2
  by_cases c3 : p1 = 3
  · have hf := it_1 hf c3
    refine lv_tableIn (off := 72) (tgt := 73) hx hb dX7_count_1 (by rw [c3]; decide) (by rw [c3]; decide) (by rw [c3]; rfl) (by decide) ?_
    refine lv_aload_n hx hb dX7_count_73 rfl (lv_at hl 0 rfl) ?_
    refine lv_bipush (v := 6) hx hb dX7_count_74 (by decide) ?_
    refine lv_iload_n hx hb dX7_count_76 rfl (lv_at hl 1 rfl) ?_
    refine lv_iconst (v := 3) hx hb dX7_count_77 (by decide) ?_
    refine lv_isub hx hb dX7_count_78 ?_
    have hn := bd1_1 hf hne
    refine vp_callSi (W.runV (As := [.int 6, .int (p1 - 3)]) (rest := []) ⟨hx, hb, hml, hown, hts⟩ (ok_X7_many l G a n0 v0 6 (p1 - 3) hn) (cwV 2 hts gX7_count_X7_many rfl rfl rfl (by decide +kernel) ⟨Nat.le_of_ble_eq_true rfl, Nat.le_of_ble_eq_true rfl⟩) ⟨pcR_blind, va_recv hK hP (ci := 7) (q0 := 0) rfl rfl, pcR_pre hP hamb⟩ rfl rfl hl.1 rfl (lv_room (Nat.le_of_ble_eq_true rfl)) dX7_count_79 ⟨Nat.zero_le _, Nat.zero_le _⟩) (fun r79 hw => ?_)
    have hf := bd1_2 hf hw
    exact W.iret (v := r79) hx hb hr (fun t ht hW => ⟨r79, rfl, hf0.trans hf.symm, ht⟩) (fun _ hq => absurd hq List.not_mem_nil) dX7_count_82
  have hf := it_2 hf c3
  by_cases c4 : p1 = 4
  · have hf := it_1 hf c4
    refine lv_tableIn (off := 72) (tgt := 73) hx hb dX7_count_1 (by rw [c4]; decide) (by rw [c4]; decide) (by rw [c4]; rfl) (by decide) ?_
    refine lv_aload_n hx hb dX7_count_73 rfl (lv_at hl 0 rfl) ?_
    refine lv_bipush (v := 6) hx hb dX7_count_74 (by decide) ?_
    refine lv_iload_n hx hb dX7_count_76 rfl (lv_at hl 1 rfl) ?_
    refine lv_iconst (v := 3) hx hb dX7_count_77 (by decide) ?_
    refine lv_isub hx hb dX7_count_78 ?_
    have hn := bd1_1 hf hne
    refine vp_callSi (W.runV (As := [.int 6, .int (p1 - 3)]) (rest := []) ⟨hx, hb, hml, hown, hts⟩ (ok_X7_many l G a n0 v0 6 (p1 - 3) hn) (cwV 2 hts gX7_count_X7_many rfl rfl rfl (by decide +kernel) ⟨Nat.le_of_ble_eq_true rfl, Nat.le_of_ble_eq_true rfl⟩) ⟨pcR_blind, va_recv hK hP (ci := 7) (q0 := 0) rfl rfl, pcR_pre hP hamb⟩ rfl rfl hl.1 rfl (lv_room (Nat.le_of_ble_eq_true rfl)) dX7_count_79 ⟨Nat.zero_le _, Nat.zero_le _⟩) (fun r79 hw => ?_)
    have hf := bd1_2 hf hw
    exact W.iret (v := r79) hx hb hr (fun t ht hW => ⟨r79, rfl, hf0.trans hf.symm, ht⟩) (fun _ hq => absurd hq List.not_mem_nil) dX7_count_82
  have hf := it_2 hf c4
  by_cases c5 : p1 = 5
  · have hf := it_1 hf c5
    refine lv_tableIn (off := 72) (tgt := 73) hx hb dX7_count_1 (by rw [c5]; decide) (by rw [c5]; decide) (by rw [c5]; rfl) (by decide) ?_
    refine lv_aload_n hx hb dX7_count_73 rfl (lv_at hl 0 rfl) ?_
    refine lv_bipush (v := 6) hx hb dX7_count_74 (by decide) ?_
    refine lv_iload_n hx hb dX7_count_76 rfl (lv_at hl 1 rfl) ?_
    refine lv_iconst (v := 3) hx hb dX7_count_77 (by decide) ?_
    refine lv_isub hx hb dX7_count_78 ?_
    have hn := bd1_1 hf hne
    refine vp_callSi (W.runV (As := [.int 6, .int (p1 - 3)]) (rest := []) ⟨hx, hb, hml, hown, hts⟩ (ok_X7_many l G a n0 v0 6 (p1 - 3) hn) (cwV 2 hts gX7_count_X7_many rfl rfl rfl (by decide +kernel) ⟨Nat.le_of_ble_eq_true rfl, Nat.le_of_ble_eq_true rfl⟩) ⟨pcR_blind, va_recv hK hP (ci := 7) (q0 := 0) rfl rfl, pcR_pre hP hamb⟩ rfl rfl hl.1 rfl (lv_room (Nat.le_of_ble_eq_true rfl)) dX7_count_79 ⟨Nat.zero_le _, Nat.zero_le _⟩) (fun r79 hw => ?_)
    have hf := bd1_2 hf hw
    exact W.iret (v := r79) hx hb hr (fun t ht hW => ⟨r79, rfl, hf0.trans hf.symm, ht⟩) (fun _ hq => absurd hq List.not_mem_nil) dX7_count_82
  have hf := it_2 hf c5
  by_cases c6 : p1 = 6
  · have hf := it_1 hf c6
    refine lv_tableIn (off := 82) (tgt := 83) hx hb dX7_count_1 (by rw [c6]; decide) (by rw [c6]; decide) (by rw [c6]; rfl) (by decide) ?_
    refine lv_aload_n hx hb dX7_count_83 rfl (lv_at hl 0 rfl) ?_
    have hn := bd1_1 hf hne
    refine vp_callSi (W.runV (As := []) (rest := []) ⟨hx, hb, hml, hown, hts⟩ (ok_X7_locked l G a n0 v0 hn) (cwV 0 hts gX7_count_X7_locked rfl rfl rfl (by decide +kernel) ⟨Nat.le_of_ble_eq_true rfl, Nat.le_of_ble_eq_true rfl⟩) ⟨pcR_blind, va_recv hK hP (ci := 7) (q0 := 0) rfl rfl, pcR_pre hP hamb⟩ rfl rfl hl.1 rfl (lv_room (Nat.le_of_ble_eq_true rfl)) dX7_count_84 ⟨Nat.zero_le _, Nat.zero_le _⟩) (fun r84 hw => ?_)
    have hf := bd1_2 hf hw
    exact W.iret (v := r84) hx hb hr (fun t ht hW => ⟨r84, rfl, hf0.trans hf.symm, ht⟩) (fun _ hq => absurd hq List.not_mem_nil) dX7_count_87
  have hf := it_2 hf c6
  by_cases c7 : p1 = 7
  · have hf := it_1 hf c7
    refine lv_tableIn (off := 87) (tgt := 88) hx hb dX7_count_1 (by rw [c7]; decide) (by rw [c7]; decide) (by rw [c7]; rfl) (by decide) ?_
    refine lv_aload_n hx hb dX7_count_88 rfl (lv_at hl 0 rfl) ?_
    refine va_get (D := G.1) (ci := 7) (v := .ref (a 1)) (C := RX7) (T := TX7) (N := 16) hx hb hts hinX7 hown hK hP 0 rfl rfl 0 (by decide) lk7 (fun _ h9 => h9) rfl dX7_count_89 ?_
    refine lv_iconst (v := 0) hx hb dX7_count_92 (by decide) ?_
    refine lv_iload_n hx hb dX7_count_93 rfl (lv_at hl 1 rfl) ?_
    refine lv_iadd hx hb dX7_count_94 ?_
    refine lv_bipush (v := 7) hx hb dX7_count_95 (by decide) ?_
    refine lv_isub hx hb dX7_count_97 ?_
    obtain ⟨hi, hf⟩ := ck_1 hf hne
    refine va_iald (f := (v0 0)) hx hb hK hP 1 0 rfl rfl (ixb_1 hi) dX7_count_98 ?_
    exact W.iret (v := ((v0 0) (Int32.toNatClampNeg ((0 + p1) - 7)))) hx hb hr (fun t ht hW => ⟨((v0 0) (Int32.toNatClampNeg ((0 + p1) - 7))), rfl, hf0.trans hf.symm, ht⟩) (fun _ hq => absurd hq List.not_mem_nil) dX7_count_99
  have hf := it_2 hf c7
  by_cases c8 : p1 = 8
  · have hf := it_1 hf c8
    refine lv_tableIn (off := 87) (tgt := 88) hx hb dX7_count_1 (by rw [c8]; decide) (by rw [c8]; decide) (by rw [c8]; rfl) (by decide) ?_
    refine lv_aload_n hx hb dX7_count_88 rfl (lv_at hl 0 rfl) ?_
    refine va_get (D := G.1) (ci := 7) (v := .ref (a 1)) (C := RX7) (T := TX7) (N := 16) hx hb hts hinX7 hown hK hP 0 rfl rfl 0 (by decide) lk7 (fun _ h9 => h9) rfl dX7_count_89 ?_
    refine lv_iconst (v := 0) hx hb dX7_count_92 (by decide) ?_
    refine lv_iload_n hx hb dX7_count_93 rfl (lv_at hl 1 rfl) ?_
    refine lv_iadd hx hb dX7_count_94 ?_
    refine lv_bipush (v := 7) hx hb dX7_count_95 (by decide) ?_
    refine lv_isub hx hb dX7_count_97 ?_
    obtain ⟨hi, hf⟩ := ck_1 hf hne
    refine va_iald (f := (v0 0)) hx hb hK hP 1 0 rfl rfl (ixb_1 hi) dX7_count_98 ?_
    exact W.iret (v := ((v0 0) (Int32.toNatClampNeg ((0 + p1) - 7)))) hx hb hr (fun t ht hW => ⟨((v0 0) (Int32.toNatClampNeg ((0 + p1) - 7))), rfl, hf0.trans hf.symm, ht⟩) (fun _ hq => absurd hq List.not_mem_nil) dX7_count_99
  have hf := it_2 hf c8
  by_cases c9 : p1 = 9
  · have hf := it_1 hf c9
    refine lv_tableIn (off := 87) (tgt := 88) hx hb dX7_count_1 (by rw [c9]; decide) (by rw [c9]; decide) (by rw [c9]; rfl) (by decide) ?_
    refine lv_aload_n hx hb dX7_count_88 rfl (lv_at hl 0 rfl) ?_
    refine va_get (D := G.1) (ci := 7) (v := .ref (a 1)) (C := RX7) (T := TX7) (N := 16) hx hb hts hinX7 hown hK hP 0 rfl rfl 0 (by decide) lk7 (fun _ h9 => h9) rfl dX7_count_89 ?_
    refine lv_iconst (v := 0) hx hb dX7_count_92 (by decide) ?_
    refine lv_iload_n hx hb dX7_count_93 rfl (lv_at hl 1 rfl) ?_
    refine lv_iadd hx hb dX7_count_94 ?_
    refine lv_bipush (v := 7) hx hb dX7_count_95 (by decide) ?_
    refine lv_isub hx hb dX7_count_97 ?_
    obtain ⟨hi, hf⟩ := ck_1 hf hne
    refine va_iald (f := (v0 0)) hx hb hK hP 1 0 rfl rfl (ixb_1 hi) dX7_count_98 ?_
    exact W.iret (v := ((v0 0) (Int32.toNatClampNeg ((0 + p1) - 7)))) hx hb hr (fun t ht hW => ⟨((v0 0) (Int32.toNatClampNeg ((0 + p1) - 7))), rfl, hf0.trans hf.symm, ht⟩) (fun _ hq => absurd hq List.not_mem_nil) dX7_count_99
  have hf := it_2 hf c9
  by_cases c10 : p1 = 10
  · have hf := it_1 hf c10
    refine lv_tableIn (off := 99) (tgt := 100) hx hb dX7_count_1 (by rw [c10]; decide) (by rw [c10]; decide) (by rw [c10]; rfl) (by decide) ?_
    refine lv_aload_n hx hb dX7_count_100 rfl (lv_at hl 0 rfl) ?_
    refine va_get (D := G.1) (ci := 7) (v := .int (v0 9 0)) (C := RX7) (T := TX7) (N := 16) hx hb hts hinX7 hown hK hP 0 rfl rfl 7 (by decide) lk119 (fun _ h9 => h9) rfl dX7_count_101 ?_
    exact W.iret (v := (v0 9 0)) hx hb hr (fun t ht hW => ⟨(v0 9 0), rfl, hf0.trans hf.symm, ht⟩) (fun _ hq => absurd hq List.not_mem_nil) dX7_count_104
  have hf := it_2 hf c10
  by_cases c11 : p1 = 11
  · have hf := it_1 hf c11
    refine lv_tableIn (off := 104) (tgt := 105) hx hb dX7_count_1 (by rw [c11]; decide) (by rw [c11]; decide) (by rw [c11]; rfl) (by decide) ?_
    refine lv_aload_n hx hb dX7_count_105 rfl (lv_at hl 0 rfl) ?_
    refine va_get (D := G.1) (ci := 7) (v := .int (v0 8 0)) (C := RX7) (T := TX7) (N := 16) hx hb hts hinX7 hown hK hP 0 rfl rfl 3 (by decide) lk43 (fun _ h9 => h9) rfl dX7_count_106 ?_
    exact W.iret (v := (v0 8 0)) hx hb hr (fun t ht hW => ⟨(v0 8 0), rfl, hf0.trans hf.symm, ht⟩) (fun _ hq => absurd hq List.not_mem_nil) dX7_count_109
  have hf := it_2 hf c11
  have e0 := ne_i c0 (k := 0) (by decide)
  have e1 := ne_i c1 (k := 1) (by decide)
  have e2 := ne_i c2 (k := 2) (by decide)
  have e3 := ne_i c3 (k := 3) (by decide)
  have e4 := ne_i c4 (k := 4) (by decide)
  have e5 := ne_i c5 (k := 5) (by decide)
  have e6 := ne_i c6 (k := 6) (by decide)
  have e7 := ne_i c7 (k := 7) (by decide)
  have e8 := ne_i c8 (k := 8) (by decide)
  have e9 := ne_i c9 (k := 9) (by decide)
  have e10 := ne_i c10 (k := 10) (by decide)
  have e11 := ne_i c11 (k := 11) (by decide)
  refine lv_tableOut (tgt := 110) hx hb dX7_count_1 (by omega) (by decide) ?_
  refine lv_bipush (v := (-2)) hx hb dX7_count_110 (by decide) ?_
  exact W.iret (v := (-2)) hx hb hr (fun t ht hW => ⟨(-2), rfl, hf0.trans hf.symm, ht⟩) (fun _ hq => absurd hq List.not_mem_nil) dX7_count_112
set_option maxHeartbeats 4000000 in
set_option maxRecDepth 100000 in
theorem ok_X7_bitsOf (l : Launch) (n0 : Nat) (p0 : UInt32) (hne : f_X7_bitsOf n0 p0 ≠ none) : Met l yX7_bitsOf wsX7_bitsOf ({ frames := 0, cells := 0, slots := 0, locals := 0 } : Room) (va_Pc [.float p0] (fun _ => True)) (vp_Si (fun r => f_X7_bitsOf n0 p0 = some r)) 0 0 (fun _ => False) := by
  refine Met.ofW (cc := cX7_bitsOf) (maxL := 3) (ret := (some .int)) (by decide) rfl ?_
  intro p e s m args below meth c s₁ B hml hv
  obtain ⟨rfl, -⟩ := hv
  have hx := B.exec
  have hb := B.bytes
  have hr := B.returns
  have hts := atoms_spec (ws := wsX7_bitsOf) B.pre
  have hown : s.vm.findClass RX7 = some m.cls := findClass_of_methodNamed B.named
  have hlocks := B.notSynchronized
  obtain ⟨res, hf0⟩ : ∃ res, f_X7_bitsOf n0 p0 = res := ⟨_, rfl⟩
  have hne : res ≠ none := hf0 ▸ hne
  have hf := hf0
  rw [f_X7_bitsOf] at hf
  have lw0 := hts (.constant RX7 122 (8388608)) (by decide +kernel)
  have lw1 := hts (.constantFloat RX7 123 (1258291200)) (by decide +kernel)
  have hl := lv_entry ([.float p0]) (n := 3) (Nat.le_of_ble_eq_true rfl)
  rw [lg_entry_eq]
  generalize (lg_sl ([.float p0]) ++ List.replicate (3 - (lg_sl ([.float p0])).length) Slot.unset).toArray = ls at hl ⊢
  have hl : lv_has ls 3 [(0, .float p0)] := hl
  have L13 : ∀ (n : Nat) (x1 : Int32) (x2 : UInt32) (ls : Array Slot), lv_has ls 3 [(1, .int x1), (2, .float x2)] → f_X7_bitsOf_L13 n x1 x2 = res → W p l e (headSpec wsX7_bitsOf ({ frames := 0, cells := 0, slots := 0, locals := 0 } : Room)).room s m ([.float p0] : List Value).toArray below meth c s.heap [] 0 0 (MQ below (vp_Si (fun r => f_X7_bitsOf n0 p0 = some r)) ([.float p0] : List Value).toArray s 0 0 (fun _ => False)) (F0 m 13 ls []) := by
    intro n
    induction n with
    | zero => intro x1 x2 ls hl hf; exact (none_1 hf hne).elim
    | succ n ih =>
      intro x1 x2 ls hl hf
      rw [f_X7_bitsOf_L13] at hf
      refine lv_fload_n hx hb dX7_bitsOf_13 rfl (lv_at hl 1 rfl) ?_
      refine lv_fconst1 hx hb dX7_bitsOf_14 ?_
      refine lv_fcmp hx hb dX7_bitsOf_15 ?_
      refine lv_if_ge (tgt := 29) hx hb dX7_bitsOf_16 (by decide) (fun c => ?_) (fun c => ?_)
      · have hf := it_1 hf c
        refine lv_iload_n hx hb dX7_bitsOf_29 rfl (lv_at hl 0 rfl) ?_
        refine lv_ldc (v := 8388608) hx hb hown lw0 dX7_bitsOf_30 ?_
        refine lv_imul hx hb dX7_bitsOf_32 ?_
        refine lv_fload_n hx hb dX7_bitsOf_33 rfl (lv_at hl 1 rfl) ?_
        refine lv_fconst1 hx hb dX7_bitsOf_34 ?_
        obtain ⟨hd, hf⟩ := ck_1 hf hne
        refine lv_fsub hx hb dX7_bitsOf_35 (nn32_1 hd) ?_
        refine lv_ldcf (v := 1258291200) hx hb hown lw1 dX7_bitsOf_36 ?_
        obtain ⟨hd, hf⟩ := ck_1 hf hne
        refine lv_fmul hx hb dX7_bitsOf_38 (nn32_1 hd) ?_
        refine lv_f2i hx hb dX7_bitsOf_39 ?_
        refine lv_iadd hx hb dX7_bitsOf_40 ?_
        exact W.iret (v := ((x1 * 8388608) + (FP.f2i (FP.fmul (FP.fsub x2 FP.fconst1) 1258291200)))) hx hb hr (fun t ht hW => ⟨((x1 * 8388608) + (FP.f2i (FP.fmul (FP.fsub x2 FP.fconst1) 1258291200))), rfl, hf0.trans hf.symm, ht⟩) (fun _ hq => absurd hq List.not_mem_nil) dX7_bitsOf_41
      · have hf := it_2 hf c
        refine lv_fload_n hx hb dX7_bitsOf_19 rfl (lv_at hl 1 rfl) ?_
        refine lv_fconst2 hx hb dX7_bitsOf_20 ?_
        obtain ⟨hd, hf⟩ := ck_1 hf hne
        refine lv_fmul hx hb dX7_bitsOf_21 (nn32_1 hd) ?_
        refine lv_fstore_n (lv' := [(2, .float (FP.fmul x2 FP.fconst2)), (1, .int x1)]) hx hb dX7_bitsOf_22 rfl hl (by decide) rfl (fun ls hl => ?_)
        refine lv_iinc (v := (x1 + (-1))) (lv' := [(1, .int (x1 + (-1))), (2, .float (FP.fmul x2 FP.fconst2))]) hx hb dX7_bitsOf_23 hl (k := 1) rfl rfl (by decide) rfl (fun ls hl => ?_)
        refine lv_goto (tgt := 13) hx hb dX7_bitsOf_26 (by decide) ?_
        exact ih (x1 + (-1)) (FP.fmul x2 FP.fconst2) ls (lv_sub hl [0, 1] rfl) hf
  refine lv_fload_n hx hb dX7_bitsOf_0 rfl (lv_at hl 0 rfl) ?_
  refine lv_fconst0 hx hb dX7_bitsOf_1 ?_
  refine lv_fcmp hx hb dX7_bitsOf_2 ?_
  refine lv_if_ne (tgt := 8) hx hb dX7_bitsOf_3 (by decide) (fun c => ?_) (fun c => ?_)
  · have hf := it_2 hf c
    refine lv_bipush (v := 127) hx hb dX7_bitsOf_8 (by decide) ?_
    refine lv_istore_n (lv' := [(1, .int 127), (0, .float p0)]) hx hb dX7_bitsOf_10 rfl hl (by decide) rfl (fun ls hl => ?_)
    refine lv_fload_n hx hb dX7_bitsOf_11 rfl (lv_at hl 1 rfl) ?_
    refine lv_fstore_n (lv' := [(2, .float p0), (1, .int 127), (0, .float p0)]) hx hb dX7_bitsOf_12 rfl hl (by decide) rfl (fun ls hl => ?_)
    exact L13 n0 127 p0 ls (lv_sub hl [1, 0] rfl) hf
  · have hf := it_1 hf c
    refine lv_iconst (v := 0) hx hb dX7_bitsOf_6 (by decide) ?_
    exact W.iret (v := 0) hx hb hr (fun t ht hW => ⟨0, rfl, hf0.trans hf.symm, ht⟩) (fun _ hq => absurd hq List.not_mem_nil) dX7_bitsOf_7
set_option maxHeartbeats 4000000 in
set_option maxRecDepth 100000 in
theorem ok_X7_bitsOfDouble (l : Launch) (n0 : Nat) (p0 : UInt64) (hne : f_X7_bitsOfDouble n0 p0 ≠ none) : Met l yX7_bitsOfDouble wsX7_bitsOfDouble ({ frames := 0, cells := 0, slots := 0, locals := 0 } : Room) (va_Pc [.double p0] (fun _ => True)) (vp_Sl (fun r => f_X7_bitsOfDouble n0 p0 = some r)) 0 0 (fun _ => False) := by
  refine Met.ofW (cc := cX7_bitsOfDouble) (maxL := 6) (ret := (some .long)) (by decide) rfl ?_
  intro p e s m args below meth c s₁ B hml hv
  obtain ⟨rfl, -⟩ := hv
  have hx := B.exec
  have hb := B.bytes
  have hr := B.returns
  have hts := atoms_spec (ws := wsX7_bitsOfDouble) B.pre
  have hown : s.vm.findClass RX7 = some m.cls := findClass_of_methodNamed B.named
  have hlocks := B.notSynchronized
  obtain ⟨res, hf0⟩ : ∃ res, f_X7_bitsOfDouble n0 p0 = res := ⟨_, rfl⟩
  have hne : res ≠ none := hf0 ▸ hne
  have hf := hf0
  rw [f_X7_bitsOfDouble] at hf
  have lw0 := hts (.constantLong RX7 124 (1023)) (by decide +kernel)
  have lw1 := hts (.constantDouble RX7 126 (4611686018427387904)) (by decide +kernel)
  have lw2 := hts (.constantLong RX7 130 (4503599627370496)) (by decide +kernel)
  have lw3 := hts (.constantDouble RX7 132 (4841369599423283200)) (by decide +kernel)
  have lw4 := hts (.constantDouble RX7 128 (4602678819172646912)) (by decide +kernel)
  have hl := lv_entry ([.double p0]) (n := 6) (Nat.le_of_ble_eq_true rfl)
  rw [lg_entry_eq]
  generalize (lg_sl ([.double p0]) ++ List.replicate (6 - (lg_sl ([.double p0])).length) Slot.unset).toArray = ls at hl ⊢
  have hl : lv_has ls 6 [(0, .double p0)] := hl
  have L37 : ∀ (n : Nat) (x2 : Int64) (x4 : UInt64) (ls : Array Slot), lv_has ls 6 [(2, .long x2), (4, .double x4)] → f_X7_bitsOfDouble_L37 n x2 x4 = res → W p l e (headSpec wsX7_bitsOfDouble ({ frames := 0, cells := 0, slots := 0, locals := 0 } : Room)).room s m ([.double p0] : List Value).toArray below meth c s.heap [] 0 0 (MQ below (vp_Sl (fun r => f_X7_bitsOfDouble n0 p0 = some r)) ([.double p0] : List Value).toArray s 0 0 (fun _ => False)) (F0 m 37 ls []) := by
    intro n
    induction n with
    | zero => intro x2 x4 ls hl hf; exact (none_1 hf hne).elim
    | succ n ih =>
      intro x2 x4 ls hl hf
      rw [f_X7_bitsOfDouble_L37] at hf
      refine lv_dload hx hb dX7_bitsOfDouble_37 (lv_at hl 1 rfl) ?_
      refine lv_ldc2d (v := 4611686018427387904) hx hb hown lw1 dX7_bitsOfDouble_39 ?_
      refine lv_dcmp hx hb dX7_bitsOfDouble_42 ?_
      refine lv_if_lt (tgt := 61) hx hb dX7_bitsOfDouble_43 (by decide) (fun c => ?_) (fun c => ?_)
      · have hf := it_1 hf c
        refine lv_lload_n hx hb dX7_bitsOfDouble_61 rfl (lv_at hl 0 rfl) ?_
        refine lv_ldc2 (v := 4503599627370496) hx hb hown lw2 dX7_bitsOfDouble_62 ?_
        refine lv_lmul hx hb dX7_bitsOfDouble_65 ?_
        refine lv_dload hx hb dX7_bitsOfDouble_66 (lv_at hl 1 rfl) ?_
        refine lv_dconst1 hx hb dX7_bitsOfDouble_68 ?_
        obtain ⟨hd, hf⟩ := ck_1 hf hne
        refine lv_dsub hx hb dX7_bitsOfDouble_69 (nn64_1 hd) ?_
        refine lv_ldc2d (v := 4841369599423283200) hx hb hown lw3 dX7_bitsOfDouble_70 ?_
        obtain ⟨hd, hf⟩ := ck_1 hf hne
        refine lv_dmul hx hb dX7_bitsOfDouble_73 (nn64_1 hd) ?_
        refine lv_d2l hx hb dX7_bitsOfDouble_74 ?_
        refine lv_ladd hx hb dX7_bitsOfDouble_75 ?_
        exact W.lret (v := ((x2 * 4503599627370496) + (FP.d2l (FP.dmul (FP.dsub x4 FP.dconst1) 4841369599423283200)))) hx hb hr (fun t ht hW => ⟨((x2 * 4503599627370496) + (FP.d2l (FP.dmul (FP.dsub x4 FP.dconst1) 4841369599423283200))), rfl, hf0.trans hf.symm, ht⟩) (fun _ hq => absurd hq List.not_mem_nil) dX7_bitsOfDouble_76
      · have hf := it_2 hf c
        refine lv_dload hx hb dX7_bitsOfDouble_46 (lv_at hl 1 rfl) ?_
        refine lv_ldc2d (v := 4602678819172646912) hx hb hown lw4 dX7_bitsOfDouble_48 ?_
        obtain ⟨hd, hf⟩ := ck_1 hf hne
        refine lv_dmul hx hb dX7_bitsOfDouble_51 (nn64_1 hd) ?_
        refine lv_dstore (lv' := [(4, .double (FP.dmul x4 4602678819172646912)), (2, .long x2)]) hx hb dX7_bitsOfDouble_52 hl (by decide) rfl (fun ls hl => ?_)
        refine lv_lload_n hx hb dX7_bitsOfDouble_54 rfl (lv_at hl 1 rfl) ?_
        refine lv_lconst (v := 1) hx hb dX7_bitsOfDouble_55 (by decide) ?_
        refine lv_ladd hx hb dX7_bitsOfDouble_56 ?_
        refine lv_lstore_n (lv' := [(2, .long (x2 + 1)), (4, .double (FP.dmul x4 4602678819172646912))]) hx hb dX7_bitsOfDouble_57 rfl hl (by decide) rfl (fun ls hl => ?_)
        refine lv_goto (tgt := 37) hx hb dX7_bitsOfDouble_58 (by decide) ?_
        exact ih (x2 + 1) (FP.dmul x4 4602678819172646912) ls (lv_sub hl [0, 1] rfl) hf
  have L15 : ∀ (n : Nat) (x2 : Int64) (x4 : UInt64) (ls : Array Slot), lv_has ls 6 [(2, .long x2), (4, .double x4)] → f_X7_bitsOfDouble_L15 n x2 x4 = res → W p l e (headSpec wsX7_bitsOfDouble ({ frames := 0, cells := 0, slots := 0, locals := 0 } : Room)).room s m ([.double p0] : List Value).toArray below meth c s.heap [] 0 0 (MQ below (vp_Sl (fun r => f_X7_bitsOfDouble n0 p0 = some r)) ([.double p0] : List Value).toArray s 0 0 (fun _ => False)) (F0 m 15 ls []) := by
    intro n
    induction n with
    | zero => intro x2 x4 ls hl hf; exact (none_1 hf hne).elim
    | succ n ih =>
      intro x2 x4 ls hl hf
      rw [f_X7_bitsOfDouble_L15] at hf
      refine lv_dload hx hb dX7_bitsOfDouble_15 (lv_at hl 1 rfl) ?_
      refine lv_dconst1 hx hb dX7_bitsOfDouble_17 ?_
      refine lv_dcmp hx hb dX7_bitsOfDouble_18 ?_
      refine lv_if_ge (tgt := 37) hx hb dX7_bitsOfDouble_19 (by decide) (fun c => ?_) (fun c => ?_)
      · have hf := it_1 hf c
        exact L37 n x2 x4 ls (lv_sub hl [0, 1] rfl) hf
      · have hf := it_2 hf c
        refine lv_dload hx hb dX7_bitsOfDouble_22 (lv_at hl 1 rfl) ?_
        refine lv_ldc2d (v := 4611686018427387904) hx hb hown lw1 dX7_bitsOfDouble_24 ?_
        obtain ⟨hd, hf⟩ := ck_1 hf hne
        refine lv_dmul hx hb dX7_bitsOfDouble_27 (nn64_1 hd) ?_
        refine lv_dstore (lv' := [(4, .double (FP.dmul x4 4611686018427387904)), (2, .long x2)]) hx hb dX7_bitsOfDouble_28 hl (by decide) rfl (fun ls hl => ?_)
        refine lv_lload_n hx hb dX7_bitsOfDouble_30 rfl (lv_at hl 1 rfl) ?_
        refine lv_lconst (v := 1) hx hb dX7_bitsOfDouble_31 (by decide) ?_
        refine lv_lsub hx hb dX7_bitsOfDouble_32 ?_
        refine lv_lstore_n (lv' := [(2, .long (x2 - 1)), (4, .double (FP.dmul x4 4611686018427387904))]) hx hb dX7_bitsOfDouble_33 rfl hl (by decide) rfl (fun ls hl => ?_)
        refine lv_goto (tgt := 15) hx hb dX7_bitsOfDouble_34 (by decide) ?_
        exact ih (x2 - 1) (FP.dmul x4 4611686018427387904) ls (lv_sub hl [0, 1] rfl) hf
  refine lv_dload_n hx hb dX7_bitsOfDouble_0 rfl (lv_at hl 0 rfl) ?_
  refine lv_dconst0 hx hb dX7_bitsOfDouble_1 ?_
  refine lv_dcmp hx hb dX7_bitsOfDouble_2 ?_
  refine lv_if_ne (tgt := 8) hx hb dX7_bitsOfDouble_3 (by decide) (fun c => ?_) (fun c => ?_)
  · have hf := it_2 hf c
    refine lv_ldc2 (v := 1023) hx hb hown lw0 dX7_bitsOfDouble_8 ?_
    refine lv_lstore_n (lv' := [(2, .long 1023), (0, .double p0)]) hx hb dX7_bitsOfDouble_11 rfl hl (by decide) rfl (fun ls hl => ?_)
    refine lv_dload_n hx hb dX7_bitsOfDouble_12 rfl (lv_at hl 1 rfl) ?_
    refine lv_dstore (lv' := [(4, .double p0), (2, .long 1023), (0, .double p0)]) hx hb dX7_bitsOfDouble_13 hl (by decide) rfl (fun ls hl => ?_)
    exact L15 n0 1023 p0 ls (lv_sub hl [1, 0] rfl) hf
  · have hf := it_1 hf c
    refine lv_lconst (v := 0) hx hb dX7_bitsOfDouble_6 (by decide) ?_
    exact W.lret (v := 0) hx hb hr (fun t ht hW => ⟨0, rfl, hf0.trans hf.symm, ht⟩) (fun _ hq => absurd hq List.not_mem_nil) dX7_bitsOfDouble_7
set_option maxHeartbeats 4000000 in
set_option maxRecDepth 100000 in
theorem ok_X7_meanHeat (l : Launch) (G : Gt) (a : Nat → Nat) (n0 : Nat) (v0 : DV) (hne : f_X7_meanHeat n0 v0 ≠ none) : Met l yX7_meanHeat wsX7_meanHeat ({ frames := 2, cells := 0, slots := 0, locals := 45 } : Room) (pcR G [.ref (a 0)] (modelC G.2 a v0)) (vp_Sl (fun r => f_X7_meanHeat n0 v0 = some r)) 0 0 (fun _ => False) := by
  refine Met.ofW (cc := cX7_meanHeat) (maxL := 3) (ret := (some .long)) (by decide) rfl ?_
  intro p e s m args below meth c s₁ B hml hv
  obtain ⟨rfl, hP, hamb⟩ := hv
  have hx := B.exec
  have hb := B.bytes
  have hr := B.returns
  have hts := atoms_spec (ws := wsX7_meanHeat) B.pre
  have hown : s.vm.findClass RX7 = some m.cls := findClass_of_methodNamed B.named
  have hlocks := B.notSynchronized
  have hK := hamb.1
  obtain ⟨res, hf0⟩ : ∃ res, f_X7_meanHeat n0 v0 = res := ⟨_, rfl⟩
  have hne : res ≠ none := hf0 ▸ hne
  have hf := hf0
  rw [f_X7_meanHeat] at hf
  have hinX7 : ∀ w ∈ u_ws RX7 TX7 16, w ∈ wsX7_meanHeat := by decide +kernel
  have lk7 := hts (.fieldLink RX7 7 "MoodDrawersModel" "s" "[I") (by decide +kernel)
  have hl := lv_entry ([.ref (a 0)]) (n := 3) (Nat.le_of_ble_eq_true rfl)
  rw [lg_entry_eq]
  generalize (lg_sl ([.ref (a 0)]) ++ List.replicate (3 - (lg_sl ([.ref (a 0)])).length) Slot.unset).toArray = ls at hl ⊢
  have hl : lv_has ls 3 [(0, .ref (a 0))] := hl
  have L4 : ∀ (n : Nat) (v : DV) (x1 : Int32) (x2 : Int32) (ls : Array Slot), va_P G.1 vwCl (modelC G.2 a v) s.heap → lv_has ls 3 [(0, .ref (a 0)), (1, .int x1), (2, .int x2)] → f_X7_meanHeat_L4 n v x1 x2 = res → W p l e (headSpec wsX7_meanHeat ({ frames := 2, cells := 0, slots := 0, locals := 45 } : Room)).room s m ([.ref (a 0)] : List Value).toArray below meth c s.heap [] 0 0 (MQ below (vp_Sl (fun r => f_X7_meanHeat n0 v0 = some r)) ([.ref (a 0)] : List Value).toArray s 0 0 (fun _ => False)) (F0 m 4 ls []) := by
    intro n
    induction n with
    | zero => intro v x1 x2 ls hP hl hf; exact (none_1 hf hne).elim
    | succ n ih =>
      intro v x1 x2 ls hP hl hf
      rw [f_X7_meanHeat_L4] at hf
      refine lv_iload_n hx hb dX7_meanHeat_4 rfl (lv_at hl 2 rfl) ?_
      refine lv_aload_n hx hb dX7_meanHeat_5 rfl (lv_at hl 0 rfl) ?_
      refine va_get (D := G.1) (ci := 7) (v := .ref (a 1)) (C := RX7) (T := TX7) (N := 16) hx hb hts hinX7 hown hK hP 0 rfl rfl 0 (by decide) lk7 (fun _ h9 => h9) rfl dX7_meanHeat_6 ?_
      refine lv_iconst (v := 5) hx hb dX7_meanHeat_9 (by decide) ?_
      refine va_iald (f := (v 0)) hx hb hK hP 1 0 rfl rfl (ixb_1 (show ixb 5 240 = true from rfl)) dX7_meanHeat_10 ?_
      refine lv_icmp_ge (tgt := 46) hx hb dX7_meanHeat_11 (by decide) (fun c => ?_) (fun c => ?_)
      · have hf := it_1 hf c
        refine lv_aload_n hx hb dX7_meanHeat_46 rfl (lv_at hl 0 rfl) ?_
        refine lv_bipush (v := 6) hx hb dX7_meanHeat_47 (by decide) ?_
        refine lv_iconst (v := 1) hx hb dX7_meanHeat_49 (by decide) ?_
        have hn := bd1_1 hf hne
        refine vp_callSi (W.runV (As := [.int 6, .int 1]) (rest := []) ⟨hx, hb, hml, hown, hts⟩ (ok_X7_many l G a n v 6 1 hn) (cwV 2 hts gX7_meanHeat_X7_many rfl rfl rfl (by decide +kernel) ⟨Nat.le_of_ble_eq_true rfl, Nat.le_of_ble_eq_true rfl⟩) ⟨pcR_blind, va_recv hK hP (ci := 7) (q0 := 0) rfl rfl, pcR_pre hP hamb⟩ rfl rfl hl.1 rfl (lv_room (Nat.le_of_ble_eq_true rfl)) dX7_meanHeat_50 ⟨Nat.zero_le _, Nat.zero_le _⟩) (fun r50 hw => ?_)
        have hf := bd1_2 hf hw
        refine lv_istore_n (lv' := [(2, .int r50), (0, .ref (a 0)), (1, .int x1)]) hx hb dX7_meanHeat_53 rfl hl (by decide) rfl (fun ls hl => ?_)
        refine lv_iload_n hx hb dX7_meanHeat_54 rfl (lv_at hl 0 rfl) ?_
        refine lv_if_ne (tgt := 62) hx hb dX7_meanHeat_55 (by decide) (fun c => ?_) (fun c => ?_)
        · have hf := it_2 hf c
          refine lv_iload_n hx hb dX7_meanHeat_62 rfl (lv_at hl 2 rfl) ?_
          refine lv_i2d hx hb dX7_meanHeat_63 ?_
          refine lv_iload_n hx hb dX7_meanHeat_64 rfl (lv_at hl 0 rfl) ?_
          refine lv_i2d hx hb dX7_meanHeat_65 ?_
          obtain ⟨hd, hf⟩ := ck_1 hf hne
          refine lv_ddiv hx hb dX7_meanHeat_66 (nn64_1 hd) ?_
          have hn := bd1_1 hf hne
          refine vp_callSl (W.runS (As := [.double (FP.ddiv (FP.i2d x1) (FP.i2d r50))]) (rest := []) ⟨hx, hb, hml, hown, hts⟩ (ok_X7_bitsOfDouble l n (FP.ddiv (FP.i2d x1) (FP.i2d r50)) hn) (va_cwS 1 hts gX7_meanHeat_X7_bitsOfDouble rfl rfl rfl (by decide +kernel) ⟨Nat.le_of_ble_eq_true rfl, Nat.le_of_ble_eq_true rfl⟩) ⟨fun _ _ _ _ q => q, fun _ _ _ => ⟨rfl, trivial⟩⟩ rfl rfl hl.1 rfl (lv_room (Nat.le_of_ble_eq_true rfl)) dX7_meanHeat_67 ⟨Nat.zero_le _, Nat.zero_le _⟩) (fun r67 hw => ?_)
          have hf := bd1_2 hf hw
          exact W.lret (v := r67) hx hb hr (fun t ht hW => ⟨r67, rfl, hf0.trans hf.symm, ht⟩) (fun _ hq => absurd hq List.not_mem_nil) dX7_meanHeat_70
        · have hf := it_1 hf c
          refine lv_lconst (v := 0) hx hb dX7_meanHeat_58 (by decide) ?_
          refine lv_goto (tgt := 70) hx hb dX7_meanHeat_59 (by decide) ?_
          exact W.lret (v := 0) hx hb hr (fun t ht hW => ⟨0, rfl, hf0.trans hf.symm, ht⟩) (fun _ hq => absurd hq List.not_mem_nil) dX7_meanHeat_70
      · have hf := it_2 hf c
        refine lv_iload_n hx hb dX7_meanHeat_14 rfl (lv_at hl 1 rfl) ?_
        refine lv_aload_n hx hb dX7_meanHeat_15 rfl (lv_at hl 0 rfl) ?_
        refine va_get (D := G.1) (ci := 7) (v := .ref (a 1)) (C := RX7) (T := TX7) (N := 16) hx hb hts hinX7 hown hK hP 0 rfl rfl 0 (by decide) lk7 (fun _ h9 => h9) rfl dX7_meanHeat_16 ?_
        refine lv_iload_n hx hb dX7_meanHeat_19 rfl (lv_at hl 2 rfl) ?_
        refine lv_iconst (v := 3) hx hb dX7_meanHeat_20 (by decide) ?_
        refine vp_callSi (W.runS (As := [.int x2, .int 3]) (rest := [.ref (a 1), .int x1]) ⟨hx, hb, hml, hown, hts⟩ (ok_X7_ofL l x2 3) (va_cwS 2 hts gX7_meanHeat_X7_ofL rfl rfl rfl (by decide +kernel) ⟨Nat.le_of_ble_eq_true rfl, Nat.le_of_ble_eq_true rfl⟩) ⟨fun _ _ _ _ q => q, fun _ _ _ => ⟨rfl, trivial⟩⟩ rfl rfl hl.1 rfl (lv_room (Nat.le_of_ble_eq_true rfl)) dX7_meanHeat_21 ⟨Nat.zero_le _, Nat.zero_le _⟩) (fun r21 hw => ?_)
        subst hw
        obtain ⟨hi, hf⟩ := ck_1 hf hne
        refine va_iald (f := (v 0)) hx hb hK hP 1 0 rfl rfl (ixb_1 hi) dX7_meanHeat_24 ?_
        refine lv_iconst (v := 1) hx hb dX7_meanHeat_25 (by decide) ?_
        refine lv_icmp_ne (tgt := 37) hx hb dX7_meanHeat_26 (by decide) (fun c => ?_) (fun c => ?_)
        · have hf := it_2 hf c
          refine lv_iconst (v := 0) hx hb dX7_meanHeat_37 (by decide) ?_
          refine lv_iadd hx hb dX7_meanHeat_38 ?_
          refine lv_istore_n (lv' := [(1, .int (x1 + 0)), (0, .ref (a 0)), (2, .int x2)]) hx hb dX7_meanHeat_39 rfl hl (by decide) rfl (fun ls hl => ?_)
          refine lv_iinc (v := (x2 + 1)) (lv' := [(2, .int (x2 + 1)), (1, .int (x1 + 0)), (0, .ref (a 0))]) hx hb dX7_meanHeat_40 hl (k := 2) rfl rfl (by decide) rfl (fun ls hl => ?_)
          refine lv_goto (tgt := 4) hx hb dX7_meanHeat_43 (by decide) ?_
          exact ih v (x1 + 0) (x2 + 1) ls hP (lv_sub hl [2, 1, 0] rfl) hf
        · have hf := it_1 hf c
          refine lv_aload_n hx hb dX7_meanHeat_29 rfl (lv_at hl 0 rfl) ?_
          refine lv_iload_n hx hb dX7_meanHeat_30 rfl (lv_at hl 2 rfl) ?_
          have hn := bd1_1 hf hne
          refine vp_callSi (W.runV (As := [.int x2]) (rest := [.int x1]) ⟨hx, hb, hml, hown, hts⟩ (ok_X7_heat l G a v x2 hn) (cwV 1 hts gX7_meanHeat_X7_heat rfl rfl rfl (by decide +kernel) ⟨Nat.le_of_ble_eq_true rfl, Nat.le_of_ble_eq_true rfl⟩) ⟨pcR_blind, va_recv hK hP (ci := 7) (q0 := 0) rfl rfl, pcR_pre hP hamb⟩ rfl rfl hl.1 rfl (lv_room (Nat.le_of_ble_eq_true rfl)) dX7_meanHeat_31 ⟨Nat.zero_le _, Nat.zero_le _⟩) (fun r31 hw => ?_)
          have hf := bd1_2 hf hw
          refine lv_goto (tgt := 38) hx hb dX7_meanHeat_34 (by decide) ?_
          refine lv_iadd hx hb dX7_meanHeat_38 ?_
          refine lv_istore_n (lv' := [(1, .int (x1 + r31)), (0, .ref (a 0)), (2, .int x2)]) hx hb dX7_meanHeat_39 rfl hl (by decide) rfl (fun ls hl => ?_)
          refine lv_iinc (v := (x2 + 1)) (lv' := [(2, .int (x2 + 1)), (1, .int (x1 + r31)), (0, .ref (a 0))]) hx hb dX7_meanHeat_40 hl (k := 2) rfl rfl (by decide) rfl (fun ls hl => ?_)
          refine lv_goto (tgt := 4) hx hb dX7_meanHeat_43 (by decide) ?_
          exact ih v (x1 + r31) (x2 + 1) ls hP (lv_sub hl [2, 1, 0] rfl) hf
  refine lv_iconst (v := 0) hx hb dX7_meanHeat_0 (by decide) ?_
  refine lv_istore_n (lv' := [(1, .int 0), (0, .ref (a 0))]) hx hb dX7_meanHeat_1 rfl hl (by decide) rfl (fun ls hl => ?_)
  refine lv_iconst (v := 0) hx hb dX7_meanHeat_2 (by decide) ?_
  refine lv_istore_n (lv' := [(2, .int 0), (1, .int 0), (0, .ref (a 0))]) hx hb dX7_meanHeat_3 rfl hl (by decide) rfl (fun ls hl => ?_)
  exact L4 n0 v0 0 0 ls hP (lv_sub hl [2, 1, 0] rfl) hf
set_option maxHeartbeats 4000000 in
set_option maxRecDepth 100000 in
theorem ok_X7_share (l : Launch) (G : Gt) (a : Nat → Nat) (n0 : Nat) (v0 : DV) (hne : f_X7_share n0 v0 ≠ none) : Met l yX7_share wsX7_share ({ frames := 2, cells := 0, slots := 0, locals := 45 } : Room) (pcR G [.ref (a 0)] (modelC G.2 a v0)) (vp_Si (fun r => f_X7_share n0 v0 = some r)) 0 0 (fun _ => False) := by
  refine Met.ofW (cc := cX7_share) (maxL := 1) (ret := (some .int)) (by decide) rfl ?_
  intro p e s m args below meth c s₁ B hml hv
  obtain ⟨rfl, hP, hamb⟩ := hv
  have hx := B.exec
  have hb := B.bytes
  have hr := B.returns
  have hts := atoms_spec (ws := wsX7_share) B.pre
  have hown : s.vm.findClass RX7 = some m.cls := findClass_of_methodNamed B.named
  have hlocks := B.notSynchronized
  have hK := hamb.1
  obtain ⟨res, hf0⟩ : ∃ res, f_X7_share n0 v0 = res := ⟨_, rfl⟩
  have hne : res ≠ none := hf0 ▸ hne
  have hf := hf0
  rw [f_X7_share] at hf
  have hinX7 : ∀ w ∈ u_ws RX7 TX7 16, w ∈ wsX7_share := by decide +kernel
  have lk7 := hts (.fieldLink RX7 7 "MoodDrawersModel" "s" "[I") (by decide +kernel)
  have hl := lv_entry ([.ref (a 0)]) (n := 1) (Nat.le_of_ble_eq_true rfl)
  rw [lg_entry_eq]
  generalize (lg_sl ([.ref (a 0)]) ++ List.replicate (1 - (lg_sl ([.ref (a 0)])).length) Slot.unset).toArray = ls at hl ⊢
  have hl : lv_has ls 1 [(0, .ref (a 0))] := hl
  refine lv_aload_n hx hb dX7_share_0 rfl (lv_at hl 0 rfl) ?_
  refine va_get (D := G.1) (ci := 7) (v := .ref (a 1)) (C := RX7) (T := TX7) (N := 16) hx hb hts hinX7 hown hK hP 0 rfl rfl 0 (by decide) lk7 (fun _ h9 => h9) rfl dX7_share_1 ?_
  refine lv_iconst (v := 5) hx hb dX7_share_4 (by decide) ?_
  refine va_iald (f := (v0 0)) hx hb hK hP 1 0 rfl rfl (ixb_1 (show ixb 5 240 = true from rfl)) dX7_share_5 ?_
  refine lv_if_ne (tgt := 14) hx hb dX7_share_6 (by decide) (fun c => ?_) (fun c => ?_)
  · have hf := it_2 hf c
    refine lv_aload_n hx hb dX7_share_14 rfl (lv_at hl 0 rfl) ?_
    refine lv_bipush (v := 6) hx hb dX7_share_15 (by decide) ?_
    refine lv_iconst (v := 1) hx hb dX7_share_17 (by decide) ?_
    have hn := bd1_1 hf hne
    refine vp_callSi (W.runV (As := [.int 6, .int 1]) (rest := []) ⟨hx, hb, hml, hown, hts⟩ (ok_X7_many l G a n0 v0 6 1 hn) (cwV 2 hts gX7_share_X7_many rfl rfl rfl (by decide +kernel) ⟨Nat.le_of_ble_eq_true rfl, Nat.le_of_ble_eq_true rfl⟩) ⟨pcR_blind, va_recv hK hP (ci := 7) (q0 := 0) rfl rfl, pcR_pre hP hamb⟩ rfl rfl hl.1 rfl (lv_room (Nat.le_of_ble_eq_true rfl)) dX7_share_18 ⟨Nat.zero_le _, Nat.zero_le _⟩) (fun r18 hw => ?_)
    have hf := bd1_2 hf hw
    refine lv_i2f hx hb dX7_share_21 ?_
    refine lv_aload_n hx hb dX7_share_22 rfl (lv_at hl 0 rfl) ?_
    refine va_get (D := G.1) (ci := 7) (v := .ref (a 1)) (C := RX7) (T := TX7) (N := 16) hx hb hts hinX7 hown hK hP 0 rfl rfl 0 (by decide) lk7 (fun _ h9 => h9) rfl dX7_share_23 ?_
    refine lv_iconst (v := 5) hx hb dX7_share_26 (by decide) ?_
    refine va_iald (f := (v0 0)) hx hb hK hP 1 0 rfl rfl (ixb_1 (show ixb 5 240 = true from rfl)) dX7_share_27 ?_
    refine lv_i2f hx hb dX7_share_28 ?_
    obtain ⟨hd, hf⟩ := ck_1 hf hne
    refine lv_fdiv hx hb dX7_share_29 (nn32_1 hd) ?_
    have hn := bd1_1 hf hne
    refine vp_callSi (W.runS (As := [.float (FP.fdiv (FP.i2f r18) (FP.i2f ((v0 0) (Int32.toNatClampNeg 5))))]) (rest := []) ⟨hx, hb, hml, hown, hts⟩ (ok_X7_bitsOf l n0 (FP.fdiv (FP.i2f r18) (FP.i2f ((v0 0) (Int32.toNatClampNeg 5)))) hn) (va_cwS 1 hts gX7_share_X7_bitsOf rfl rfl rfl (by decide +kernel) ⟨Nat.le_of_ble_eq_true rfl, Nat.le_of_ble_eq_true rfl⟩) ⟨fun _ _ _ _ q => q, fun _ _ _ => ⟨rfl, trivial⟩⟩ rfl rfl hl.1 rfl (lv_room (Nat.le_of_ble_eq_true rfl)) dX7_share_30 ⟨Nat.zero_le _, Nat.zero_le _⟩) (fun r30 hw => ?_)
    have hf := bd1_2 hf hw
    exact W.iret (v := r30) hx hb hr (fun t ht hW => ⟨r30, rfl, hf0.trans hf.symm, ht⟩) (fun _ hq => absurd hq List.not_mem_nil) dX7_share_33
  · have hf := it_1 hf c
    refine lv_bipush (v := (-6)) hx hb dX7_share_9 (by decide) ?_
    refine lv_goto (tgt := 33) hx hb dX7_share_11 (by decide) ?_
    exact W.iret (v := (-6)) hx hb hr (fun t ht hW => ⟨(-6), rfl, hf0.trans hf.symm, ht⟩) (fun _ hq => absurd hq List.not_mem_nil) dX7_share_33
set_option maxHeartbeats 4000000 in
set_option maxRecDepth 100000 in
theorem ok_X7_goesIn (l : Launch) (G : Gt) (a : Nat → Nat) (sz : Nat) (n0 : Nat) (v0 : DV) (p1 : Int32) (hne : f_X7_goesIn n0 v0 p1 ≠ none) : Met l yX7_goesIn wsX7_goesIn ({ frames := 4, cells := 0, slots := 0, locals := 87 } : Room) (pcW G [.ref (a 0), .int p1] (modelC G.2 a v0) sz) (va_Qi (fun r (u : DV) => f_X7_goesIn n0 v0 p1 = some (r, u)) (fun u t => atW G (modelC G.2 a u) (va_A (modelC G.2 a v0) sz) t) (va_A (modelC G.2 a v0) sz)) 0 0 (va_A (modelC G.2 a v0) sz) := by
  refine Met.ofW (cc := cX7_goesIn) (maxL := 4) (ret := (some .int)) (by decide) rfl ?_
  intro p e s m args below meth c s₁ B hml hv
  obtain ⟨rfl, hsz, hP, hD0, hamb⟩ := hv
  have hx := B.exec
  have hb := B.bytes
  have hr := B.returns
  have hts := atoms_spec (ws := wsX7_goesIn) B.pre
  have hown : s.vm.findClass RX7 = some m.cls := findClass_of_methodNamed B.named
  have hlocks := B.notSynchronized
  have hK := hamb.1
  subst hsz
  have hD := hD0.self (sz := s.heap.size)
  generalize hAe : va_A (modelC G.2 a v0) s.heap.size = A at hD ⊢
  have hA : ∀ q : Nat, s.heap.size ≤ q → A q := fun q h => by rw [← hAe]; exact Or.inr h
  have hS : va_S A s.heap s.heap [] := va_S.rf
  obtain ⟨res, hf0⟩ : ∃ res, f_X7_goesIn n0 v0 p1 = res := ⟨_, rfl⟩
  have hne : res ≠ none := hf0 ▸ hne
  have hf := hf0
  rw [f_X7_goesIn] at hf
  have hinX7 : ∀ w ∈ u_ws RX7 TX7 16, w ∈ wsX7_goesIn := by decide +kernel
  have lk7 := hts (.fieldLink RX7 7 "MoodDrawersModel" "s" "[I") (by decide +kernel)
  have hl := lv_entry ([.ref (a 0), .int p1]) (n := 4) (Nat.le_of_ble_eq_true rfl)
  rw [lg_entry_eq]
  generalize (lg_sl ([.ref (a 0), .int p1]) ++ List.replicate (4 - (lg_sl ([.ref (a 0), .int p1])).length) Slot.unset).toArray = ls at hl ⊢
  have hl : lv_has ls 4 [(0, .ref (a 0)), (1, .int p1)] := hl
  have J82 : ∀ (n : Nat) (v : DV) (x2 : Int32) (z0 : Int32) (H : Heap) (locs : List Loc) (ls : Array Slot), va_P G.1 vwCl (modelC G.2 a v) H → va_D A (modelC G.2 a v) → va_S A s.heap H locs → lv_has ls 4 [(0, .ref (a 0)), (2, .int x2)] → f_X7_goesIn_J82 n v x2 z0 = res → W p l e (headSpec wsX7_goesIn ({ frames := 4, cells := 0, slots := 0, locals := 87 } : Room)).room s m ([.ref (a 0), .int p1] : List Value).toArray below meth c H locs 0 0 (MQ below (va_Qi (fun r (u : DV) => f_X7_goesIn n0 v0 p1 = some (r, u)) (fun u t => atW G (modelC G.2 a u) A t) A) ([.ref (a 0), .int p1] : List Value).toArray s 0 0 A) (F0 m 82 ls [.int z0]) := by
    intro n v x2 z0 H locs ls hP hD hS hl hf
    rw [f_X7_goesIn_J82] at hf
    refine lv_istore_n (lv' := [(3, .int z0), (0, .ref (a 0)), (2, .int x2)]) hx hb dX7_goesIn_82 rfl hl (by decide) rfl (fun ls hl => ?_)
    refine lv_aload_n hx hb dX7_goesIn_83 rfl (lv_at hl 1 rfl) ?_
    have hn := bd1_1 hf hne
    refine cwv (va_runV (As := []) (rest := []) ⟨hx, hb, hml, hown, hts⟩ (ok_X7_putBack l G a H.size n v hn) (cwV 0 hts gX7_goesIn_X7_putBack rfl rfl rfl (by decide +kernel) ⟨Nat.le_of_ble_eq_true rfl, Nat.le_of_ble_eq_true rfl⟩) ⟨pcW_blind, va_recv hK hP (ci := 7) (q0 := 0) rfl rfl, pcW_pre hP hD hamb⟩ rfl rfl hl.1 rfl (lv_room (Nat.le_of_ble_eq_true rfl)) dX7_goesIn_84 ⟨Nat.zero_le _, Nat.zero_le _⟩) (wr := []) hP hD hS hA [0, 1, 2, 3, 4, 5, 6, 7, 8] [] rfl rfl (by decide) (by decide) (fun v84 H locs hw hP hD hS => ?_)
    have hf := bd1_2 hf hw
    have hP : va_P G.1 vwCl (modelC G.2 a v84) H := hP
    have hD : va_D A (modelC G.2 a v84) := hD
    refine lv_iload_n hx hb dX7_goesIn_87 rfl (lv_at hl 0 rfl) ?_
    refine lv_if_eq (tgt := 95) hx hb dX7_goesIn_88 (by decide) (fun c => ?_) (fun c => ?_)
    · have hf := it_1 hf c
      refine lv_bipush (v := (-6)) hx hb dX7_goesIn_95 (by decide) ?_
      exact W.iret (v := (-6)) hx hb hr (fun t ht hW => ⟨⟨(-6), v84, rfl, hf0.trans hf.symm, by rw [ht]; exact hP, hD⟩, hS.F ht⟩) hS.2.2 dX7_goesIn_97
    · have hf := it_2 hf c
      refine lv_iload_n hx hb dX7_goesIn_91 rfl (lv_at hl 2 rfl) ?_
      refine lv_goto (tgt := 97) hx hb dX7_goesIn_92 (by decide) ?_
      exact W.iret (v := x2) hx hb hr (fun t ht hW => ⟨⟨x2, v84, rfl, hf0.trans hf.symm, by rw [ht]; exact hP, hD⟩, hS.F ht⟩) hS.2.2 dX7_goesIn_97
  have J63 : ∀ (n : Nat) (v : DV) (x1 : Int32) (x2 : Int32) (H : Heap) (locs : List Loc) (ls : Array Slot), va_P G.1 vwCl (modelC G.2 a v) H → va_D A (modelC G.2 a v) → va_S A s.heap H locs → lv_has ls 4 [(0, .ref (a 0)), (1, .int x1), (2, .int x2)] → f_X7_goesIn_J63 n v x1 x2 = res → W p l e (headSpec wsX7_goesIn ({ frames := 4, cells := 0, slots := 0, locals := 87 } : Room)).room s m ([.ref (a 0), .int p1] : List Value).toArray below meth c H locs 0 0 (MQ below (va_Qi (fun r (u : DV) => f_X7_goesIn n0 v0 p1 = some (r, u)) (fun u t => atW G (modelC G.2 a u) A t) A) ([.ref (a 0), .int p1] : List Value).toArray s 0 0 A) (F0 m 63 ls []) := by
    intro n v x1 x2 H locs ls hP hD hS hl hf
    rw [f_X7_goesIn_J63] at hf
    refine lv_aload_n hx hb dX7_goesIn_63 rfl (lv_at hl 0 rfl) ?_
    refine va_get (D := G.1) (ci := 7) (v := .ref (a 1)) (C := RX7) (T := TX7) (N := 16) hx hb hts hinX7 hown hK hP 0 rfl rfl 0 (by decide) lk7 (fun _ h9 => h9) rfl dX7_goesIn_64 ?_
    refine lv_iload_n hx hb dX7_goesIn_67 rfl (lv_at hl 1 rfl) ?_
    refine lv_iconst (v := 3) hx hb dX7_goesIn_68 (by decide) ?_
    refine vp_callSi (W.runS (As := [.int x1, .int 3]) (rest := [.ref (a 1)]) ⟨hx, hb, hml, hown, hts⟩ (ok_X7_ofL l x1 3) (va_cwS 2 hts gX7_goesIn_X7_ofL rfl rfl rfl (by decide +kernel) ⟨Nat.le_of_ble_eq_true rfl, Nat.le_of_ble_eq_true rfl⟩) ⟨fun _ _ _ _ q => q, fun _ _ _ => ⟨rfl, trivial⟩⟩ rfl rfl hl.1 rfl (lv_room (Nat.le_of_ble_eq_true rfl)) dX7_goesIn_69 ⟨Nat.zero_le _, Nat.zero_le _⟩) (fun r69 hw => ?_)
    subst hw
    obtain ⟨hi, hf⟩ := ck_1 hf hne
    refine va_iald (f := (v 0)) hx hb hK hP 1 0 rfl rfl (ixb_1 hi) dX7_goesIn_72 ?_
    refine lv_iconst (v := 1) hx hb dX7_goesIn_73 (by decide) ?_
    refine lv_icmp_ne (tgt := 81) hx hb dX7_goesIn_74 (by decide) (fun c => ?_) (fun c => ?_)
    · have hf := it_2 hf c
      refine lv_iconst (v := 0) hx hb dX7_goesIn_81 (by decide) ?_
      exact J82 n v x2 0 H locs ls hP hD hS (lv_sub hl [0, 2] rfl) hf
    · have hf := it_1 hf c
      refine lv_iconst (v := 1) hx hb dX7_goesIn_77 (by decide) ?_
      refine lv_goto (tgt := 82) hx hb dX7_goesIn_78 (by decide) ?_
      exact J82 n v x2 1 H locs ls hP hD hS (lv_sub hl [0, 2] rfl) hf
  have L33 : ∀ (n : Nat) (v : DV) (x1 : Int32) (x2 : Int32) (H : Heap) (locs : List Loc) (ls : Array Slot), va_P G.1 vwCl (modelC G.2 a v) H → va_D A (modelC G.2 a v) → va_S A s.heap H locs → lv_has ls 4 [(0, .ref (a 0)), (1, .int x1), (2, .int x2)] → f_X7_goesIn_L33 n v x1 x2 = res → W p l e (headSpec wsX7_goesIn ({ frames := 4, cells := 0, slots := 0, locals := 87 } : Room)).room s m ([.ref (a 0), .int p1] : List Value).toArray below meth c H locs 0 0 (MQ below (va_Qi (fun r (u : DV) => f_X7_goesIn n0 v0 p1 = some (r, u)) (fun u t => atW G (modelC G.2 a u) A t) A) ([.ref (a 0), .int p1] : List Value).toArray s 0 0 A) (F0 m 33 ls []) := by
    intro n
    induction n with
    | zero => intro v x1 x2 H locs ls hP hD hS hl hf; exact (none_1 hf hne).elim
    | succ n ih =>
      intro v x1 x2 H locs ls hP hD hS hl hf
      rw [f_X7_goesIn_L33] at hf
      refine lv_iload_n hx hb dX7_goesIn_33 rfl (lv_at hl 2 rfl) ?_
      refine lv_sipush (v := 1200) hx hb dX7_goesIn_34 (by decide) ?_
      refine lv_icmp_ge (tgt := 63) hx hb dX7_goesIn_37 (by decide) (fun c => ?_) (fun c => ?_)
      · have hf := it_1 hf c
        exact J63 n v x1 x2 H locs ls hP hD hS (lv_sub hl [0, 1, 2] rfl) hf
      · have hf := it_2 hf c
        refine lv_aload_n hx hb dX7_goesIn_40 rfl (lv_at hl 0 rfl) ?_
        refine va_get (D := G.1) (ci := 7) (v := .ref (a 1)) (C := RX7) (T := TX7) (N := 16) hx hb hts hinX7 hown hK hP 0 rfl rfl 0 (by decide) lk7 (fun _ h9 => h9) rfl dX7_goesIn_41 ?_
        refine lv_iload_n hx hb dX7_goesIn_44 rfl (lv_at hl 1 rfl) ?_
        refine lv_iconst (v := 3) hx hb dX7_goesIn_45 (by decide) ?_
        refine vp_callSi (W.runS (As := [.int x1, .int 3]) (rest := [.ref (a 1)]) ⟨hx, hb, hml, hown, hts⟩ (ok_X7_ofL l x1 3) (va_cwS 2 hts gX7_goesIn_X7_ofL rfl rfl rfl (by decide +kernel) ⟨Nat.le_of_ble_eq_true rfl, Nat.le_of_ble_eq_true rfl⟩) ⟨fun _ _ _ _ q => q, fun _ _ _ => ⟨rfl, trivial⟩⟩ rfl rfl hl.1 rfl (lv_room (Nat.le_of_ble_eq_true rfl)) dX7_goesIn_46 ⟨Nat.zero_le _, Nat.zero_le _⟩) (fun r46 hw => ?_)
        subst hw
        obtain ⟨hi, hf⟩ := ck_1 hf hne
        refine va_iald (f := (v 0)) hx hb hK hP 1 0 rfl rfl (ixb_1 hi) dX7_goesIn_49 ?_
        refine lv_if_ne (tgt := 63) hx hb dX7_goesIn_50 (by decide) (fun c => ?_) (fun c => ?_)
        · have hf := it_2 hf c
          exact J63 n v x1 x2 H locs ls hP hD hS (lv_sub hl [0, 1, 2] rfl) hf
        · have hf := it_1 hf c
          refine lv_aload_n hx hb dX7_goesIn_53 rfl (lv_at hl 0 rfl) ?_
          have hn := bd1_1 hf hne
          refine cwv (va_runV (As := []) (rest := []) ⟨hx, hb, hml, hown, hts⟩ (ok_X7_hour l G a H.size n v hn) (cwV 0 hts gX7_goesIn_X7_hour rfl rfl rfl (by decide +kernel) ⟨Nat.le_of_ble_eq_true rfl, Nat.le_of_ble_eq_true rfl⟩) ⟨pcW_blind, va_recv hK hP (ci := 7) (q0 := 0) rfl rfl, pcW_pre hP hD hamb⟩ rfl rfl hl.1 rfl (lv_room (Nat.le_of_ble_eq_true rfl)) dX7_goesIn_54 ⟨Nat.zero_le _, Nat.zero_le _⟩) (wr := []) hP hD hS hA [0, 1, 2, 3, 4, 5, 6, 7, 8] [] rfl rfl (by decide) (by decide) (fun v54 H locs hw hP hD hS => ?_)
          have hf := bd1_2 hf hw
          have hP : va_P G.1 vwCl (modelC G.2 a v54) H := hP
          have hD : va_D A (modelC G.2 a v54) := hD
          refine lv_iinc (v := (x2 + 1)) (lv' := [(2, .int (x2 + 1)), (0, .ref (a 0)), (1, .int x1)]) hx hb dX7_goesIn_57 hl (k := 2) rfl rfl (by decide) rfl (fun ls hl => ?_)
          refine lv_goto (tgt := 33) hx hb dX7_goesIn_60 (by decide) ?_
          exact ih v54 x1 (x2 + 1) H locs ls hP hD hS (lv_sub hl [1, 2, 0] rfl) hf
  refine lv_aload_n hx hb dX7_goesIn_0 rfl (lv_at hl 0 rfl) ?_
  refine lv_iload_n hx hb dX7_goesIn_1 rfl (lv_at hl 1 rfl) ?_
  have hn := bd1_1 hf hne
  refine vp_callSi (W.runV (As := [.int p1]) (rest := []) ⟨hx, hb, hml, hown, hts⟩ (ok_X7_isLetter l G a v0 p1 hn) (cwV 1 hts gX7_goesIn_X7_isLetter rfl rfl rfl (by decide +kernel) ⟨Nat.le_of_ble_eq_true rfl, Nat.le_of_ble_eq_true rfl⟩) ⟨pcR_blind, va_recv hK hP (ci := 7) (q0 := 0) rfl rfl, pcR_pre hP hamb⟩ rfl rfl hl.1 rfl (lv_room (Nat.le_of_ble_eq_true rfl)) dX7_goesIn_2 ⟨Nat.zero_le _, Nat.zero_le _⟩) (fun r2 hw => ?_)
  have hf := bd1_2 hf hw
  refine lv_if_ne (tgt := 10) hx hb dX7_goesIn_5 (by decide) (fun c => ?_) (fun c => ?_)
  · have hf := it_2 hf c
    refine lv_aload_n hx hb dX7_goesIn_10 rfl (lv_at hl 0 rfl) ?_
    refine va_get (D := G.1) (ci := 7) (v := .ref (a 1)) (C := RX7) (T := TX7) (N := 16) hx hb hts hinX7 hown hK hP 0 rfl rfl 0 (by decide) lk7 (fun _ h9 => h9) rfl dX7_goesIn_11 ?_
    refine lv_iload_n hx hb dX7_goesIn_14 rfl (lv_at hl 1 rfl) ?_
    refine lv_iconst (v := 3) hx hb dX7_goesIn_15 (by decide) ?_
    refine vp_callSi (W.runS (As := [.int p1, .int 3]) (rest := [.ref (a 1)]) ⟨hx, hb, hml, hown, hts⟩ (ok_X7_ofL l p1 3) (va_cwS 2 hts gX7_goesIn_X7_ofL rfl rfl rfl (by decide +kernel) ⟨Nat.le_of_ble_eq_true rfl, Nat.le_of_ble_eq_true rfl⟩) ⟨fun _ _ _ _ q => q, fun _ _ _ => ⟨rfl, trivial⟩⟩ rfl rfl hl.1 rfl (lv_room (Nat.le_of_ble_eq_true rfl)) dX7_goesIn_16 ⟨Nat.zero_le _, Nat.zero_le _⟩) (fun r16 hw => ?_)
    subst hw
    obtain ⟨hi, hf⟩ := ck_1 hf hne
    refine va_iald (f := (v0 0)) hx hb hK hP 1 0 rfl rfl (ixb_1 hi) dX7_goesIn_19 ?_
    refine lv_iconst (v := 2) hx hb dX7_goesIn_20 (by decide) ?_
    refine lv_icmp_ne (tgt := 27) hx hb dX7_goesIn_21 (by decide) (fun c => ?_) (fun c => ?_)
    · have hf := it_2 hf c
      refine lv_aload_n hx hb dX7_goesIn_27 rfl (lv_at hl 0 rfl) ?_
      have hn := bd1_1 hf hne
      refine cwv (va_runV (As := []) (rest := []) ⟨hx, hb, hml, hown, hts⟩ (ok_X7_putAside l G a s.heap.size n0 v0 hn) (cwV 0 hts gX7_goesIn_X7_putAside rfl rfl rfl (by decide +kernel) ⟨Nat.le_of_ble_eq_true rfl, Nat.le_of_ble_eq_true rfl⟩) ⟨pcW_blind, va_recv hK hP (ci := 7) (q0 := 0) rfl rfl, pcW_pre hP hD hamb⟩ rfl rfl hl.1 rfl (lv_room (Nat.le_of_ble_eq_true rfl)) dX7_goesIn_28 ⟨Nat.zero_le _, Nat.zero_le _⟩) (wr := []) hP hD hS hA [0, 1, 2, 3, 4, 5, 6, 7, 8] [] rfl rfl (by decide) (by decide) (fun v28 H locs hw hP hD hS => ?_)
      have hf := bd1_2 hf hw
      have hP : va_P G.1 vwCl (modelC G.2 a v28) H := hP
      have hD : va_D A (modelC G.2 a v28) := hD
      refine lv_iconst (v := 0) hx hb dX7_goesIn_31 (by decide) ?_
      refine lv_istore_n (lv' := [(2, .int 0), (0, .ref (a 0)), (1, .int p1)]) hx hb dX7_goesIn_32 rfl hl (by decide) rfl (fun ls hl => ?_)
      exact L33 n0 v28 p1 0 H locs ls hP hD hS (lv_sub hl [1, 2, 0] rfl) hf
    · have hf := it_1 hf c
      refine lv_bipush (v := (-5)) hx hb dX7_goesIn_24 (by decide) ?_
      exact W.iret (v := (-5)) hx hb hr (fun t ht hW => ⟨⟨(-5), v0, rfl, hf0.trans hf.symm, by rw [ht]; exact hP, hD⟩, hS.F ht⟩) hS.2.2 dX7_goesIn_26
  · have hf := it_1 hf c
    refine lv_iconst (v := (-1)) hx hb dX7_goesIn_8 (by decide) ?_
    exact W.iret (v := (-1)) hx hb hr (fun t ht hW => ⟨⟨(-1), v0, rfl, hf0.trans hf.symm, by rw [ht]; exact hP, hD⟩, hS.F ht⟩) hS.2.2 dX7_goesIn_9
set_option maxHeartbeats 4000000 in
set_option maxRecDepth 100000 in
theorem ok_X7_bestPost (l : Launch) (G : Gt) (a : Nat → Nat) (sz : Nat) (n0 : Nat) (v0 : DV) (p1 : Int32) (p2 : Int32) (hne : f_X7_bestPost n0 v0 p1 p2 ≠ none) : Met l yX7_bestPost wsX7_bestPost ({ frames := 5, cells := 0, slots := 0, locals := 110 } : Room) (pcW G [.ref (a 0), .int p1, .int p2] (modelC G.2 a v0) sz) (va_Qi (fun r (u : DV) => f_X7_bestPost n0 v0 p1 p2 = some (r, u)) (fun u t => atW G (modelC G.2 a u) (va_A (modelC G.2 a v0) sz) t) (va_A (modelC G.2 a v0) sz)) 0 0 (va_A (modelC G.2 a v0) sz) := by
  refine Met.ofW (cc := cX7_bestPost) (maxL := 7) (ret := (some .int)) (by decide) rfl ?_
  intro p e s m args below meth c s₁ B hml hv
  obtain ⟨rfl, hsz, hP, hD0, hamb⟩ := hv
  have hx := B.exec
  have hb := B.bytes
  have hr := B.returns
  have hts := atoms_spec (ws := wsX7_bestPost) B.pre
  have hown : s.vm.findClass RX7 = some m.cls := findClass_of_methodNamed B.named
  have hlocks := B.notSynchronized
  have hK := hamb.1
  subst hsz
  have hD := hD0.self (sz := s.heap.size)
  generalize hAe : va_A (modelC G.2 a v0) s.heap.size = A at hD ⊢
  have hA : ∀ q : Nat, s.heap.size ≤ q → A q := fun q h => by rw [← hAe]; exact Or.inr h
  have hS : va_S A s.heap s.heap [] := va_S.rf
  obtain ⟨res, hf0⟩ : ∃ res, f_X7_bestPost n0 v0 p1 p2 = res := ⟨_, rfl⟩
  have hne : res ≠ none := hf0 ▸ hne
  have hf := hf0
  rw [f_X7_bestPost] at hf
  have hinX7 : ∀ w ∈ u_ws RX7 TX7 16, w ∈ wsX7_bestPost := by decide +kernel
  have lk7 := hts (.fieldLink RX7 7 "MoodDrawersModel" "s" "[I") (by decide +kernel)
  have hl := lv_entry ([.ref (a 0), .int p1, .int p2]) (n := 7) (Nat.le_of_ble_eq_true rfl)
  rw [lg_entry_eq]
  generalize (lg_sl ([.ref (a 0), .int p1, .int p2]) ++ List.replicate (7 - (lg_sl ([.ref (a 0), .int p1, .int p2])).length) Slot.unset).toArray = ls at hl ⊢
  have hl : lv_has ls 7 [(0, .ref (a 0)), (1, .int p1), (2, .int p2)] := hl
  have J72 : ∀ (k34 : DV → Int32 → Int32 → Int32 → Int32 → Int32 → Option (Int32 × DV)) (hk34 : ∀ (v : DV) (x1 : Int32) (x2 : Int32) (x3 : Int32) (x4 : Int32) (x5 : Int32) (H : Heap) (locs : List Loc) (ls : Array Slot), va_P G.1 vwCl (modelC G.2 a v) H → va_D A (modelC G.2 a v) → va_S A s.heap H locs → lv_has ls 7 [(0, .ref (a 0)), (1, .int x1), (2, .int x2), (3, .int x3), (4, .int x4), (5, .int x5)] → k34 v x1 x2 x3 x4 x5 = res → W p l e (headSpec wsX7_bestPost ({ frames := 5, cells := 0, slots := 0, locals := 110 } : Room)).room s m ([.ref (a 0), .int p1, .int p2] : List Value).toArray below meth c H locs 0 0 (MQ below (va_Qi (fun r (u : DV) => f_X7_bestPost n0 v0 p1 p2 = some (r, u)) (fun u t => atW G (modelC G.2 a u) A t) A) ([.ref (a 0), .int p1, .int p2] : List Value).toArray s 0 0 A) (F0 m 34 ls [])) (n : Nat) (v : DV) (x1 : Int32) (x2 : Int32) (x4 : Int32) (x5 : Int32) (x6 : Int32) (z0 : Int32) (H : Heap) (locs : List Loc) (ls : Array Slot), va_P G.1 vwCl (modelC G.2 a v) H → va_D A (modelC G.2 a v) → va_S A s.heap H locs → lv_has ls 7 [(0, .ref (a 0)), (1, .int x1), (2, .int x2), (4, .int x4), (5, .int x5), (6, .int x6)] → f_X7_bestPost_J72 k34 n v x1 x2 x4 x5 x6 z0 = res → W p l e (headSpec wsX7_bestPost ({ frames := 5, cells := 0, slots := 0, locals := 110 } : Room)).room s m ([.ref (a 0), .int p1, .int p2] : List Value).toArray below meth c H locs 0 0 (MQ below (va_Qi (fun r (u : DV) => f_X7_bestPost n0 v0 p1 p2 = some (r, u)) (fun u t => atW G (modelC G.2 a u) A t) A) ([.ref (a 0), .int p1, .int p2] : List Value).toArray s 0 0 A) (F0 m 72 ls [.int z0]) := by
    intro k34 hk34 n v x1 x2 x4 x5 x6 z0 H locs ls hP hD hS hl hf
    rw [f_X7_bestPost_J72] at hf
    refine lv_istore_n (lv' := [(3, .int z0), (0, .ref (a 0)), (1, .int x1), (2, .int x2), (4, .int x4), (5, .int x5), (6, .int x6)]) hx hb dX7_bestPost_72 rfl hl (by decide) rfl (fun ls hl => ?_)
    refine lv_iload hx hb dX7_bestPost_73 (lv_at hl 6 rfl) ?_
    refine lv_iload hx hb dX7_bestPost_75 (lv_at hl 4 rfl) ?_
    refine lv_icmp_le (tgt := 85) hx hb dX7_bestPost_77 (by decide) (fun c => ?_) (fun c => ?_)
    · have hf := it_1 hf c
      refine lv_iload hx hb dX7_bestPost_85 (lv_at hl 4 rfl) ?_
      refine lv_istore (lv' := [(4, .int x4), (3, .int z0), (0, .ref (a 0)), (1, .int x1), (2, .int x2), (5, .int x5), (6, .int x6)]) hx hb dX7_bestPost_87 hl (by decide) rfl (fun ls hl => ?_)
      refine lv_aload_n hx hb dX7_bestPost_89 rfl (lv_at hl 2 rfl) ?_
      have hn := bd1_1 hf hne
      refine cwv (va_runV (As := []) (rest := []) ⟨hx, hb, hml, hown, hts⟩ (ok_X7_putBack l G a H.size n v hn) (cwV 0 hts gX7_bestPost_X7_putBack rfl rfl rfl (by decide +kernel) ⟨Nat.le_of_ble_eq_true rfl, Nat.le_of_ble_eq_true rfl⟩) ⟨pcW_blind, va_recv hK hP (ci := 7) (q0 := 0) rfl rfl, pcW_pre hP hD hamb⟩ rfl rfl hl.1 rfl (lv_room (Nat.le_of_ble_eq_true rfl)) dX7_bestPost_90 ⟨Nat.zero_le _, Nat.zero_le _⟩) (wr := []) hP hD hS hA [0, 1, 2, 3, 4, 5, 6, 7, 8] [] rfl rfl (by decide) (by decide) (fun v90 H locs hw hP hD hS => ?_)
      have hf := bd1_2 hf hw
      have hP : va_P G.1 vwCl (modelC G.2 a v90) H := hP
      have hD : va_D A (modelC G.2 a v90) := hD
      refine lv_iinc (v := (x5 + 1)) (lv' := [(5, .int (x5 + 1)), (4, .int x4), (3, .int z0), (0, .ref (a 0)), (1, .int x1), (2, .int x2), (6, .int x6)]) hx hb dX7_bestPost_93 hl (k := 5) rfl rfl (by decide) rfl (fun ls hl => ?_)
      refine lv_goto (tgt := 34) hx hb dX7_bestPost_96 (by decide) ?_
      exact hk34 v90 x1 x2 z0 x4 (x5 + 1) H locs ls hP hD hS (lv_sub hl [3, 4, 5, 2, 1, 0] rfl) hf
    · have hf := it_2 hf c
      refine lv_iload hx hb dX7_bestPost_80 (lv_at hl 6 rfl) ?_
      refine lv_goto (tgt := 87) hx hb dX7_bestPost_82 (by decide) ?_
      refine lv_istore (lv' := [(4, .int x6), (3, .int z0), (0, .ref (a 0)), (1, .int x1), (2, .int x2), (5, .int x5), (6, .int x6)]) hx hb dX7_bestPost_87 hl (by decide) rfl (fun ls hl => ?_)
      refine lv_aload_n hx hb dX7_bestPost_89 rfl (lv_at hl 2 rfl) ?_
      have hn := bd1_1 hf hne
      refine cwv (va_runV (As := []) (rest := []) ⟨hx, hb, hml, hown, hts⟩ (ok_X7_putBack l G a H.size n v hn) (cwV 0 hts gX7_bestPost_X7_putBack rfl rfl rfl (by decide +kernel) ⟨Nat.le_of_ble_eq_true rfl, Nat.le_of_ble_eq_true rfl⟩) ⟨pcW_blind, va_recv hK hP (ci := 7) (q0 := 0) rfl rfl, pcW_pre hP hD hamb⟩ rfl rfl hl.1 rfl (lv_room (Nat.le_of_ble_eq_true rfl)) dX7_bestPost_90 ⟨Nat.zero_le _, Nat.zero_le _⟩) (wr := []) hP hD hS hA [0, 1, 2, 3, 4, 5, 6, 7, 8] [] rfl rfl (by decide) (by decide) (fun v90 H locs hw hP hD hS => ?_)
      have hf := bd1_2 hf hw
      have hP : va_P G.1 vwCl (modelC G.2 a v90) H := hP
      have hD : va_D A (modelC G.2 a v90) := hD
      refine lv_iinc (v := (x5 + 1)) (lv' := [(5, .int (x5 + 1)), (4, .int x6), (3, .int z0), (0, .ref (a 0)), (1, .int x1), (2, .int x2), (6, .int x6)]) hx hb dX7_bestPost_93 hl (k := 5) rfl rfl (by decide) rfl (fun ls hl => ?_)
      refine lv_goto (tgt := 34) hx hb dX7_bestPost_96 (by decide) ?_
      exact hk34 v90 x1 x2 z0 x6 (x5 + 1) H locs ls hP hD hS (lv_sub hl [3, 4, 5, 2, 1, 0] rfl) hf
  have L34 : ∀ (n : Nat) (v : DV) (x1 : Int32) (x2 : Int32) (x3 : Int32) (x4 : Int32) (x5 : Int32) (H : Heap) (locs : List Loc) (ls : Array Slot), va_P G.1 vwCl (modelC G.2 a v) H → va_D A (modelC G.2 a v) → va_S A s.heap H locs → lv_has ls 7 [(0, .ref (a 0)), (1, .int x1), (2, .int x2), (3, .int x3), (4, .int x4), (5, .int x5)] → f_X7_bestPost_L34 n v x1 x2 x3 x4 x5 = res → W p l e (headSpec wsX7_bestPost ({ frames := 5, cells := 0, slots := 0, locals := 110 } : Room)).room s m ([.ref (a 0), .int p1, .int p2] : List Value).toArray below meth c H locs 0 0 (MQ below (va_Qi (fun r (u : DV) => f_X7_bestPost n0 v0 p1 p2 = some (r, u)) (fun u t => atW G (modelC G.2 a u) A t) A) ([.ref (a 0), .int p1, .int p2] : List Value).toArray s 0 0 A) (F0 m 34 ls []) := by
    intro n
    induction n with
    | zero => intro v x1 x2 x3 x4 x5 H locs ls hP hD hS hl hf; exact (none_1 hf hne).elim
    | succ n ih =>
      intro v x1 x2 x3 x4 x5 H locs ls hP hD hS hl hf
      rw [f_X7_bestPost_L34] at hf
      refine lv_iload hx hb dX7_bestPost_34 (lv_at hl 5 rfl) ?_
      refine lv_bipush (v := 24) hx hb dX7_bestPost_36 (by decide) ?_
      refine lv_icmp_ge (tgt := 99) hx hb dX7_bestPost_38 (by decide) (fun c => ?_) (fun c => ?_)
      · have hf := it_1 hf c
        refine lv_iload_n hx hb dX7_bestPost_99 rfl (lv_at hl 2 rfl) ?_
        refine lv_if_ne (tgt := 107) hx hb dX7_bestPost_100 (by decide) (fun c => ?_) (fun c => ?_)
        · have hf := it_2 hf c
          refine lv_iload hx hb dX7_bestPost_107 (lv_at hl 4 rfl) ?_
          exact W.iret (v := x4) hx hb hr (fun t ht hW => ⟨⟨x4, v, rfl, hf0.trans hf.symm, by rw [ht]; exact hP, hD⟩, hS.F ht⟩) hS.2.2 dX7_bestPost_109
        · have hf := it_1 hf c
          refine lv_iload_n hx hb dX7_bestPost_103 rfl (lv_at hl 3 rfl) ?_
          refine lv_goto (tgt := 109) hx hb dX7_bestPost_104 (by decide) ?_
          exact W.iret (v := x3) hx hb hr (fun t ht hW => ⟨⟨x3, v, rfl, hf0.trans hf.symm, by rw [ht]; exact hP, hD⟩, hS.F ht⟩) hS.2.2 dX7_bestPost_109
      · have hf := it_2 hf c
        refine lv_aload_n hx hb dX7_bestPost_41 rfl (lv_at hl 0 rfl) ?_
        refine va_get (D := G.1) (ci := 7) (v := .ref (a 1)) (C := RX7) (T := TX7) (N := 16) hx hb hts hinX7 hown hK hP 0 rfl rfl 0 (by decide) lk7 (fun _ h9 => h9) rfl dX7_bestPost_42 ?_
        refine lv_iconst (v := 0) hx hb dX7_bestPost_45 (by decide) ?_
        refine lv_iload hx hb dX7_bestPost_46 (lv_at hl 5 rfl) ?_
        refine va_iast (f := (v 0)) hx hb hK hP hD hS 1 0 rfl rfl (ixb_1 (show ixb 0 240 = true from rfl)) dX7_bestPost_48 (fun H locs hP hD hS => ?_)
        obtain ⟨v48, hv, hf⟩ := lt_1 hf
        have hP : va_P G.1 vwCl (modelC G.2 a v48) H := by rw [hv]; exact hP
        have hD : va_D A (modelC G.2 a v48) := by rw [hv]; exact hD
        clear hv
        refine lv_aload_n hx hb dX7_bestPost_49 rfl (lv_at hl 0 rfl) ?_
        refine lv_bipush (v := 24) hx hb dX7_bestPost_50 (by decide) ?_
        refine lv_iload_n hx hb dX7_bestPost_52 rfl (lv_at hl 1 rfl) ?_
        refine lv_imul hx hb dX7_bestPost_53 ?_
        have hn := bd2_1 hf hne
        refine cwi (va_runV (As := [.int (24 * x1)]) (rest := []) ⟨hx, hb, hml, hown, hts⟩ (ok_X7_passes l G a H.size n v48 (24 * x1) hn) (cwV 1 hts gX7_bestPost_X7_passes rfl rfl rfl (by decide +kernel) ⟨Nat.le_of_ble_eq_true rfl, Nat.le_of_ble_eq_true rfl⟩) ⟨pcW_blind, va_recv hK hP (ci := 7) (q0 := 0) rfl rfl, pcW_pre hP hD hamb⟩ rfl rfl hl.1 rfl (lv_room (Nat.le_of_ble_eq_true rfl)) dX7_bestPost_54 ⟨Nat.zero_le _, Nat.zero_le _⟩) (wr := []) hP hD hS hA [0, 1, 2, 3, 4, 5, 6, 7, 8] [] rfl rfl (by decide) (by decide) (fun r54 v54 H locs hw hP hD hS => ?_)
        have hf := bd2_2 hf hw
        have hP : va_P G.1 vwCl (modelC G.2 a v54) H := hP
        have hD : va_D A (modelC G.2 a v54) := hD
        refine lv_istore (lv' := [(6, .int r54), (0, .ref (a 0)), (1, .int x1), (2, .int x2), (3, .int x3), (4, .int x4), (5, .int x5)]) hx hb dX7_bestPost_57 hl (by decide) rfl (fun ls hl => ?_)
        refine lv_iload hx hb dX7_bestPost_59 (lv_at hl 0 rfl) ?_
        refine lv_iload hx hb dX7_bestPost_61 (lv_at hl 5 rfl) ?_
        refine lv_icmp_le (tgt := 71) hx hb dX7_bestPost_63 (by decide) (fun c => ?_) (fun c => ?_)
        · have hf := it_1 hf c
          refine lv_iload_n hx hb dX7_bestPost_71 rfl (lv_at hl 4 rfl) ?_
          exact J72 (fun v x1 x2 x3 x4 x5 => f_X7_bestPost_L34 n v x1 x2 x3 x4 x5) ih n v54 x1 x2 x4 x5 r54 x3 H locs ls hP hD hS (lv_sub hl [1, 2, 3, 5, 6, 0] rfl) hf
        · have hf := it_2 hf c
          refine lv_iload hx hb dX7_bestPost_66 (lv_at hl 6 rfl) ?_
          refine lv_goto (tgt := 72) hx hb dX7_bestPost_68 (by decide) ?_
          exact J72 (fun v x1 x2 x3 x4 x5 => f_X7_bestPost_L34 n v x1 x2 x3 x4 x5) ih n v54 x1 x2 x4 x5 r54 x5 H locs ls hP hD hS (lv_sub hl [1, 2, 3, 5, 6, 0] rfl) hf
  refine lv_iload_n hx hb dX7_bestPost_0 rfl (lv_at hl 1 rfl) ?_
  refine lv_iconst (v := 1) hx hb dX7_bestPost_1 (by decide) ?_
  refine lv_bipush (v := 20) hx hb dX7_bestPost_2 (by decide) ?_
  refine vp_callSi (W.runS (As := [.int p1, .int 1, .int 20]) (rest := []) ⟨hx, hb, hml, hown, hts⟩ (ok_X7_in l p1 1 20) (va_cwS 3 hts gX7_bestPost_X7_in rfl rfl rfl (by decide +kernel) ⟨Nat.le_of_ble_eq_true rfl, Nat.le_of_ble_eq_true rfl⟩) ⟨fun _ _ _ _ q => q, fun _ _ _ => ⟨rfl, trivial⟩⟩ rfl rfl hl.1 rfl (lv_room (Nat.le_of_ble_eq_true rfl)) dX7_bestPost_4 ⟨Nat.zero_le _, Nat.zero_le _⟩) (fun r4 hw => ?_)
  subst hw
  refine lv_if_eq (tgt := 19) hx hb dX7_bestPost_7 (by decide) (fun c => ?_) (fun c => ?_)
  · have hf := it_1 hf c
    refine lv_bipush (v := (-2)) hx hb dX7_bestPost_19 (by decide) ?_
    exact W.iret (v := (-2)) hx hb hr (fun t ht hW => ⟨⟨(-2), v0, rfl, hf0.trans hf.symm, by rw [ht]; exact hP, hD⟩, hS.F ht⟩) hS.2.2 dX7_bestPost_21
  · have hf := it_2 hf c
    refine lv_iload_n hx hb dX7_bestPost_10 rfl (lv_at hl 2 rfl) ?_
    refine lv_iconst (v := 0) hx hb dX7_bestPost_11 (by decide) ?_
    refine lv_iconst (v := 1) hx hb dX7_bestPost_12 (by decide) ?_
    refine vp_callSi (W.runS (As := [.int p2, .int 0, .int 1]) (rest := []) ⟨hx, hb, hml, hown, hts⟩ (ok_X7_in l p2 0 1) (va_cwS 3 hts gX7_bestPost_X7_in rfl rfl rfl (by decide +kernel) ⟨Nat.le_of_ble_eq_true rfl, Nat.le_of_ble_eq_true rfl⟩) ⟨fun _ _ _ _ q => q, fun _ _ _ => ⟨rfl, trivial⟩⟩ rfl rfl hl.1 rfl (lv_room (Nat.le_of_ble_eq_true rfl)) dX7_bestPost_13 ⟨Nat.zero_le _, Nat.zero_le _⟩) (fun r13 hw => ?_)
    subst hw
    refine lv_if_ne (tgt := 22) hx hb dX7_bestPost_16 (by decide) (fun c => ?_) (fun c => ?_)
    · have hf := it_2 hf c
      refine lv_iconst (v := 0) hx hb dX7_bestPost_22 (by decide) ?_
      refine lv_istore_n (lv' := [(3, .int 0), (0, .ref (a 0)), (1, .int p1), (2, .int p2)]) hx hb dX7_bestPost_23 rfl hl (by decide) rfl (fun ls hl => ?_)
      refine lv_iconst (v := (-1)) hx hb dX7_bestPost_24 (by decide) ?_
      refine lv_istore (lv' := [(4, .int (-1)), (3, .int 0), (0, .ref (a 0)), (1, .int p1), (2, .int p2)]) hx hb dX7_bestPost_25 hl (by decide) rfl (fun ls hl => ?_)
      refine lv_aload_n hx hb dX7_bestPost_27 rfl (lv_at hl 2 rfl) ?_
      have hn := bd1_1 hf hne
      refine cwv (va_runV (As := []) (rest := []) ⟨hx, hb, hml, hown, hts⟩ (ok_X7_putAside l G a s.heap.size n0 v0 hn) (cwV 0 hts gX7_bestPost_X7_putAside rfl rfl rfl (by decide +kernel) ⟨Nat.le_of_ble_eq_true rfl, Nat.le_of_ble_eq_true rfl⟩) ⟨pcW_blind, va_recv hK hP (ci := 7) (q0 := 0) rfl rfl, pcW_pre hP hD hamb⟩ rfl rfl hl.1 rfl (lv_room (Nat.le_of_ble_eq_true rfl)) dX7_bestPost_28 ⟨Nat.zero_le _, Nat.zero_le _⟩) (wr := []) hP hD hS hA [0, 1, 2, 3, 4, 5, 6, 7, 8] [] rfl rfl (by decide) (by decide) (fun v28 H locs hw hP hD hS => ?_)
      have hf := bd1_2 hf hw
      have hP : va_P G.1 vwCl (modelC G.2 a v28) H := hP
      have hD : va_D A (modelC G.2 a v28) := hD
      refine lv_iconst (v := 0) hx hb dX7_bestPost_31 (by decide) ?_
      refine lv_istore (lv' := [(5, .int 0), (4, .int (-1)), (3, .int 0), (0, .ref (a 0)), (1, .int p1), (2, .int p2)]) hx hb dX7_bestPost_32 hl (by decide) rfl (fun ls hl => ?_)
      exact L34 n0 v28 p1 p2 0 (-1) 0 H locs ls hP hD hS (lv_sub hl [3, 4, 5, 2, 1, 0] rfl) hf
    · have hf := it_1 hf c
      refine lv_bipush (v := (-2)) hx hb dX7_bestPost_19 (by decide) ?_
      exact W.iret (v := (-2)) hx hb hr (fun t ht hW => ⟨⟨(-2), v0, rfl, hf0.trans hf.symm, by rw [ht]; exact hP, hD⟩, hS.F ht⟩) hS.2.2 dX7_bestPost_21
set_option maxHeartbeats 4000000 in
set_option maxRecDepth 100000 in
theorem ok_X7_mostRegretted (l : Launch) (G : Gt) (a : Nat → Nat) (sz : Nat) (n0 : Nat) (v0 : DV) (hne : f_X7_mostRegretted n0 v0 ≠ none) : Met l yX7_mostRegretted wsX7_mostRegretted ({ frames := 3, cells := 0, slots := 0, locals := 65 } : Room) (pcW G [.ref (a 0)] (modelC G.2 a v0) sz) (va_Qi (fun r (u : DV) => f_X7_mostRegretted n0 v0 = some (r, u)) (fun u t => atW G (modelC G.2 a u) (va_A (modelC G.2 a v0) sz) t) (va_A (modelC G.2 a v0) sz)) 0 0 (va_A (modelC G.2 a v0) sz) := by
  refine Met.ofW (cc := cX7_mostRegretted) (maxL := 4) (ret := (some .int)) (by decide) rfl ?_
  intro p e s m args below meth c s₁ B hml hv
  obtain ⟨rfl, hsz, hP, hD0, hamb⟩ := hv
  have hx := B.exec
  have hb := B.bytes
  have hr := B.returns
  have hts := atoms_spec (ws := wsX7_mostRegretted) B.pre
  have hown : s.vm.findClass RX7 = some m.cls := findClass_of_methodNamed B.named
  have hlocks := B.notSynchronized
  have hK := hamb.1
  subst hsz
  have hD := hD0.self (sz := s.heap.size)
  generalize hAe : va_A (modelC G.2 a v0) s.heap.size = A at hD ⊢
  have hA : ∀ q : Nat, s.heap.size ≤ q → A q := fun q h => by rw [← hAe]; exact Or.inr h
  have hS : va_S A s.heap s.heap [] := va_S.rf
  obtain ⟨res, hf0⟩ : ∃ res, f_X7_mostRegretted n0 v0 = res := ⟨_, rfl⟩
  have hne : res ≠ none := hf0 ▸ hne
  have hf := hf0
  rw [f_X7_mostRegretted] at hf
  have hinX7 : ∀ w ∈ u_ws RX7 TX7 16, w ∈ wsX7_mostRegretted := by decide +kernel
  have lk7 := hts (.fieldLink RX7 7 "MoodDrawersModel" "s" "[I") (by decide +kernel)
  have lk29 := hts (.fieldLink RX7 29 "MoodDrawersModel" "regrets" "[I") (by decide +kernel)
  have hl := lv_entry ([.ref (a 0)]) (n := 4) (Nat.le_of_ble_eq_true rfl)
  rw [lg_entry_eq]
  generalize (lg_sl ([.ref (a 0)]) ++ List.replicate (4 - (lg_sl ([.ref (a 0)])).length) Slot.unset).toArray = ls at hl ⊢
  have hl : lv_has ls 4 [(0, .ref (a 0))] := hl
  have J59 : ∀ (k9 : DV → Int32 → Int32 → Option (Int32 × DV)) (hk9 : ∀ (v : DV) (x1 : Int32) (x2 : Int32) (H : Heap) (locs : List Loc) (ls : Array Slot), va_P G.1 vwCl (modelC G.2 a v) H → va_D A (modelC G.2 a v) → va_S A s.heap H locs → lv_has ls 4 [(0, .ref (a 0)), (1, .int x1), (2, .int x2)] → k9 v x1 x2 = res → W p l e (headSpec wsX7_mostRegretted ({ frames := 3, cells := 0, slots := 0, locals := 65 } : Room)).room s m ([.ref (a 0)] : List Value).toArray below meth c H locs 0 0 (MQ below (va_Qi (fun r (u : DV) => f_X7_mostRegretted n0 v0 = some (r, u)) (fun u t => atW G (modelC G.2 a u) A t) A) ([.ref (a 0)] : List Value).toArray s 0 0 A) (F0 m 9 ls [])) (n : Nat) (v : DV) (x1 : Int32) (x2 : Int32) (z0 : Int32) (H : Heap) (locs : List Loc) (ls : Array Slot), va_P G.1 vwCl (modelC G.2 a v) H → va_D A (modelC G.2 a v) → va_S A s.heap H locs → lv_has ls 4 [(0, .ref (a 0)), (1, .int x1), (2, .int x2)] → f_X7_mostRegretted_J59 k9 n v x1 x2 z0 = res → W p l e (headSpec wsX7_mostRegretted ({ frames := 3, cells := 0, slots := 0, locals := 65 } : Room)).room s m ([.ref (a 0)] : List Value).toArray below meth c H locs 0 0 (MQ below (va_Qi (fun r (u : DV) => f_X7_mostRegretted n0 v0 = some (r, u)) (fun u t => atW G (modelC G.2 a u) A t) A) ([.ref (a 0)] : List Value).toArray s 0 0 A) (F0 m 59 ls [.int z0]) := by
    intro k9 hk9 n v x1 x2 z0 H locs ls hP hD hS hl hf
    rw [f_X7_mostRegretted_J59] at hf
    refine lv_istore_n (lv' := [(3, .int z0), (0, .ref (a 0)), (1, .int x1), (2, .int x2)]) hx hb dX7_mostRegretted_59 rfl hl (by decide) rfl (fun ls hl => ?_)
    refine lv_iload_n hx hb dX7_mostRegretted_60 rfl (lv_at hl 0 rfl) ?_
    refine lv_if_eq (tgt := 68) hx hb dX7_mostRegretted_61 (by decide) (fun c => ?_) (fun c => ?_)
    · have hf := it_1 hf c
      refine lv_iload_n hx hb dX7_mostRegretted_68 rfl (lv_at hl 2 rfl) ?_
      refine lv_istore_n (lv' := [(1, .int x1), (3, .int z0), (0, .ref (a 0)), (2, .int x2)]) hx hb dX7_mostRegretted_69 rfl hl (by decide) rfl (fun ls hl => ?_)
      refine lv_iinc (v := (x2 + 1)) (lv' := [(2, .int (x2 + 1)), (1, .int x1), (3, .int z0), (0, .ref (a 0))]) hx hb dX7_mostRegretted_70 hl (k := 3) rfl rfl (by decide) rfl (fun ls hl => ?_)
      refine lv_goto (tgt := 9) hx hb dX7_mostRegretted_73 (by decide) ?_
      exact hk9 v x1 (x2 + 1) H locs ls hP hD hS (lv_sub hl [3, 1, 0] rfl) hf
    · have hf := it_2 hf c
      refine lv_iload_n hx hb dX7_mostRegretted_64 rfl (lv_at hl 3 rfl) ?_
      refine lv_goto (tgt := 69) hx hb dX7_mostRegretted_65 (by decide) ?_
      refine lv_istore_n (lv' := [(1, .int x2), (3, .int z0), (0, .ref (a 0)), (2, .int x2)]) hx hb dX7_mostRegretted_69 rfl hl (by decide) rfl (fun ls hl => ?_)
      refine lv_iinc (v := (x2 + 1)) (lv' := [(2, .int (x2 + 1)), (1, .int x2), (3, .int z0), (0, .ref (a 0))]) hx hb dX7_mostRegretted_70 hl (k := 3) rfl rfl (by decide) rfl (fun ls hl => ?_)
      refine lv_goto (tgt := 9) hx hb dX7_mostRegretted_73 (by decide) ?_
      exact hk9 v x2 (x2 + 1) H locs ls hP hD hS (lv_sub hl [3, 1, 0] rfl) hf
  have J58 : ∀ (k9 : DV → Int32 → Int32 → Option (Int32 × DV)) (hk9 : ∀ (v : DV) (x1 : Int32) (x2 : Int32) (H : Heap) (locs : List Loc) (ls : Array Slot), va_P G.1 vwCl (modelC G.2 a v) H → va_D A (modelC G.2 a v) → va_S A s.heap H locs → lv_has ls 4 [(0, .ref (a 0)), (1, .int x1), (2, .int x2)] → k9 v x1 x2 = res → W p l e (headSpec wsX7_mostRegretted ({ frames := 3, cells := 0, slots := 0, locals := 65 } : Room)).room s m ([.ref (a 0)] : List Value).toArray below meth c H locs 0 0 (MQ below (va_Qi (fun r (u : DV) => f_X7_mostRegretted n0 v0 = some (r, u)) (fun u t => atW G (modelC G.2 a u) A t) A) ([.ref (a 0)] : List Value).toArray s 0 0 A) (F0 m 9 ls [])) (n : Nat) (v : DV) (x1 : Int32) (x2 : Int32) (H : Heap) (locs : List Loc) (ls : Array Slot), va_P G.1 vwCl (modelC G.2 a v) H → va_D A (modelC G.2 a v) → va_S A s.heap H locs → lv_has ls 4 [(0, .ref (a 0)), (1, .int x1), (2, .int x2)] → f_X7_mostRegretted_J58 k9 n v x1 x2 = res → W p l e (headSpec wsX7_mostRegretted ({ frames := 3, cells := 0, slots := 0, locals := 65 } : Room)).room s m ([.ref (a 0)] : List Value).toArray below meth c H locs 0 0 (MQ below (va_Qi (fun r (u : DV) => f_X7_mostRegretted n0 v0 = some (r, u)) (fun u t => atW G (modelC G.2 a u) A t) A) ([.ref (a 0)] : List Value).toArray s 0 0 A) (F0 m 58 ls []) := by
    intro k9 hk9 n v x1 x2 H locs ls hP hD hS hl hf
    rw [f_X7_mostRegretted_J58] at hf
    refine lv_iconst (v := 0) hx hb dX7_mostRegretted_58 (by decide) ?_
    exact J59 k9 hk9 n v x1 x2 0 H locs ls hP hD hS (lv_sub hl [0, 1, 2] rfl) hf
  have J54 : ∀ (k9 : DV → Int32 → Int32 → Option (Int32 × DV)) (hk9 : ∀ (v : DV) (x1 : Int32) (x2 : Int32) (H : Heap) (locs : List Loc) (ls : Array Slot), va_P G.1 vwCl (modelC G.2 a v) H → va_D A (modelC G.2 a v) → va_S A s.heap H locs → lv_has ls 4 [(0, .ref (a 0)), (1, .int x1), (2, .int x2)] → k9 v x1 x2 = res → W p l e (headSpec wsX7_mostRegretted ({ frames := 3, cells := 0, slots := 0, locals := 65 } : Room)).room s m ([.ref (a 0)] : List Value).toArray below meth c H locs 0 0 (MQ below (va_Qi (fun r (u : DV) => f_X7_mostRegretted n0 v0 = some (r, u)) (fun u t => atW G (modelC G.2 a u) A t) A) ([.ref (a 0)] : List Value).toArray s 0 0 A) (F0 m 9 ls [])) (n : Nat) (v : DV) (x1 : Int32) (x2 : Int32) (H : Heap) (locs : List Loc) (ls : Array Slot), va_P G.1 vwCl (modelC G.2 a v) H → va_D A (modelC G.2 a v) → va_S A s.heap H locs → lv_has ls 4 [(0, .ref (a 0)), (1, .int x1), (2, .int x2)] → f_X7_mostRegretted_J54 k9 n v x1 x2 = res → W p l e (headSpec wsX7_mostRegretted ({ frames := 3, cells := 0, slots := 0, locals := 65 } : Room)).room s m ([.ref (a 0)] : List Value).toArray below meth c H locs 0 0 (MQ below (va_Qi (fun r (u : DV) => f_X7_mostRegretted n0 v0 = some (r, u)) (fun u t => atW G (modelC G.2 a u) A t) A) ([.ref (a 0)] : List Value).toArray s 0 0 A) (F0 m 54 ls []) := by
    intro k9 hk9 n v x1 x2 H locs ls hP hD hS hl hf
    rw [f_X7_mostRegretted_J54] at hf
    refine lv_iconst (v := 1) hx hb dX7_mostRegretted_54 (by decide) ?_
    refine lv_goto (tgt := 59) hx hb dX7_mostRegretted_55 (by decide) ?_
    exact J59 k9 hk9 n v x1 x2 1 H locs ls hP hD hS (lv_sub hl [0, 1, 2] rfl) hf
  have L9 : ∀ (n : Nat) (v : DV) (x1 : Int32) (x2 : Int32) (H : Heap) (locs : List Loc) (ls : Array Slot), va_P G.1 vwCl (modelC G.2 a v) H → va_D A (modelC G.2 a v) → va_S A s.heap H locs → lv_has ls 4 [(0, .ref (a 0)), (1, .int x1), (2, .int x2)] → f_X7_mostRegretted_L9 n v x1 x2 = res → W p l e (headSpec wsX7_mostRegretted ({ frames := 3, cells := 0, slots := 0, locals := 65 } : Room)).room s m ([.ref (a 0)] : List Value).toArray below meth c H locs 0 0 (MQ below (va_Qi (fun r (u : DV) => f_X7_mostRegretted n0 v0 = some (r, u)) (fun u t => atW G (modelC G.2 a u) A t) A) ([.ref (a 0)] : List Value).toArray s 0 0 A) (F0 m 9 ls []) := by
    intro n
    induction n with
    | zero => intro v x1 x2 H locs ls hP hD hS hl hf; exact (none_1 hf hne).elim
    | succ n ih =>
      intro v x1 x2 H locs ls hP hD hS hl hf
      rw [f_X7_mostRegretted_L9] at hf
      refine lv_iload_n hx hb dX7_mostRegretted_9 rfl (lv_at hl 2 rfl) ?_
      refine lv_aload_n hx hb dX7_mostRegretted_10 rfl (lv_at hl 0 rfl) ?_
      refine va_get (D := G.1) (ci := 7) (v := .ref (a 1)) (C := RX7) (T := TX7) (N := 16) hx hb hts hinX7 hown hK hP 0 rfl rfl 0 (by decide) lk7 (fun _ h9 => h9) rfl dX7_mostRegretted_11 ?_
      refine lv_iconst (v := 5) hx hb dX7_mostRegretted_14 (by decide) ?_
      refine va_iald (f := (v 0)) hx hb hK hP 1 0 rfl rfl (ixb_1 (show ixb 5 240 = true from rfl)) dX7_mostRegretted_15 ?_
      refine lv_icmp_ge (tgt := 76) hx hb dX7_mostRegretted_16 (by decide) (fun c => ?_) (fun c => ?_)
      · have hf := it_1 hf c
        refine lv_iload_n hx hb dX7_mostRegretted_76 rfl (lv_at hl 1 rfl) ?_
        exact W.iret (v := x1) hx hb hr (fun t ht hW => ⟨⟨x1, v, rfl, hf0.trans hf.symm, by rw [ht]; exact hP, hD⟩, hS.F ht⟩) hS.2.2 dX7_mostRegretted_77
      · have hf := it_2 hf c
        refine lv_aload_n hx hb dX7_mostRegretted_19 rfl (lv_at hl 0 rfl) ?_
        refine va_get (D := G.1) (ci := 7) (v := .ref (a 1)) (C := RX7) (T := TX7) (N := 16) hx hb hts hinX7 hown hK hP 0 rfl rfl 0 (by decide) lk7 (fun _ h9 => h9) rfl dX7_mostRegretted_20 ?_
        refine lv_iload_n hx hb dX7_mostRegretted_23 rfl (lv_at hl 2 rfl) ?_
        refine lv_iconst (v := 3) hx hb dX7_mostRegretted_24 (by decide) ?_
        refine vp_callSi (W.runS (As := [.int x2, .int 3]) (rest := [.ref (a 1)]) ⟨hx, hb, hml, hown, hts⟩ (ok_X7_ofL l x2 3) (va_cwS 2 hts gX7_mostRegretted_X7_ofL rfl rfl rfl (by decide +kernel) ⟨Nat.le_of_ble_eq_true rfl, Nat.le_of_ble_eq_true rfl⟩) ⟨fun _ _ _ _ q => q, fun _ _ _ => ⟨rfl, trivial⟩⟩ rfl rfl hl.1 rfl (lv_room (Nat.le_of_ble_eq_true rfl)) dX7_mostRegretted_25 ⟨Nat.zero_le _, Nat.zero_le _⟩) (fun r25 hw => ?_)
        subst hw
        obtain ⟨hi, hf⟩ := ck_1 hf hne
        refine va_iald (f := (v 0)) hx hb hK hP 1 0 rfl rfl (ixb_1 hi) dX7_mostRegretted_28 ?_
        refine lv_iconst (v := 1) hx hb dX7_mostRegretted_29 (by decide) ?_
        refine lv_icmp_ne (tgt := 58) hx hb dX7_mostRegretted_30 (by decide) (fun c => ?_) (fun c => ?_)
        · have hf := it_2 hf c
          exact J58 (fun v x1 x2 => f_X7_mostRegretted_L9 n v x1 x2) ih n v x1 x2 H locs ls hP hD hS (lv_sub hl [0, 1, 2] rfl) hf
        · have hf := it_1 hf c
          refine lv_iload_n hx hb dX7_mostRegretted_33 rfl (lv_at hl 1 rfl) ?_
          refine lv_bipush (v := (-6)) hx hb dX7_mostRegretted_34 (by decide) ?_
          refine lv_icmp_eq (tgt := 54) hx hb dX7_mostRegretted_36 (by decide) (fun c => ?_) (fun c => ?_)
          · have hf := it_1 hf c
            exact J54 (fun v x1 x2 => f_X7_mostRegretted_L9 n v x1 x2) ih n v x1 x2 H locs ls hP hD hS (lv_sub hl [0, 1, 2] rfl) hf
          · have hf := it_2 hf c
            refine lv_aload_n hx hb dX7_mostRegretted_39 rfl (lv_at hl 0 rfl) ?_
            refine va_get (D := G.1) (ci := 7) (v := .ref (a 7)) (C := RX7) (T := TX7) (N := 16) hx hb hts hinX7 hown hK hP 0 rfl rfl 8 (by decide) lk29 (fun _ h9 => h9) rfl dX7_mostRegretted_40 ?_
            refine lv_iload_n hx hb dX7_mostRegretted_43 rfl (lv_at hl 2 rfl) ?_
            obtain ⟨hi, hf⟩ := ck_1 hf hne
            refine va_iald (f := (v 6)) hx hb hK hP 7 0 rfl rfl (ixb_1 hi) dX7_mostRegretted_44 ?_
            refine lv_aload_n hx hb dX7_mostRegretted_45 rfl (lv_at hl 0 rfl) ?_
            refine va_get (D := G.1) (ci := 7) (v := .ref (a 7)) (C := RX7) (T := TX7) (N := 16) hx hb hts hinX7 hown hK hP 0 rfl rfl 8 (by decide) lk29 (fun _ h9 => h9) rfl dX7_mostRegretted_46 ?_
            refine lv_iload_n hx hb dX7_mostRegretted_49 rfl (lv_at hl 1 rfl) ?_
            obtain ⟨hi, hf⟩ := ck_1 hf hne
            refine va_iald (f := (v 6)) hx hb hK hP 7 0 rfl rfl (ixb_1 hi) dX7_mostRegretted_50 ?_
            refine lv_icmp_le (tgt := 58) hx hb dX7_mostRegretted_51 (by decide) (fun c => ?_) (fun c => ?_)
            · have hf := it_1 hf c
              exact J58 (fun v x1 x2 => f_X7_mostRegretted_L9 n v x1 x2) ih n v x1 x2 H locs ls hP hD hS (lv_sub hl [0, 1, 2] rfl) hf
            · have hf := it_2 hf c
              exact J54 (fun v x1 x2 => f_X7_mostRegretted_L9 n v x1 x2) ih n v x1 x2 H locs ls hP hD hS (lv_sub hl [0, 1, 2] rfl) hf
  refine lv_aload_n hx hb dX7_mostRegretted_0 rfl (lv_at hl 0 rfl) ?_
  have hn := bd1_1 hf hne
  refine cwv (va_runV (As := []) (rest := []) ⟨hx, hb, hml, hown, hts⟩ (ok_X7_findRegrets l G a s.heap.size n0 v0 hn) (cwV 0 hts gX7_mostRegretted_X7_findRegrets rfl rfl rfl (by decide +kernel) ⟨Nat.le_of_ble_eq_true rfl, Nat.le_of_ble_eq_true rfl⟩) ⟨pcW_blind, va_recv hK hP (ci := 7) (q0 := 0) rfl rfl, pcW_pre hP hD hamb⟩ rfl rfl hl.1 rfl (lv_room (Nat.le_of_ble_eq_true rfl)) dX7_mostRegretted_1 ⟨Nat.zero_le _, Nat.zero_le _⟩) (wr := []) hP hD hS hA [0, 1, 2, 3, 4, 5, 6, 7, 8] [] rfl rfl (by decide) (by decide) (fun v1 H locs hw hP hD hS => ?_)
  have hf := bd1_2 hf hw
  have hP : va_P G.1 vwCl (modelC G.2 a v1) H := hP
  have hD : va_D A (modelC G.2 a v1) := hD
  refine lv_bipush (v := (-6)) hx hb dX7_mostRegretted_4 (by decide) ?_
  refine lv_istore_n (lv' := [(1, .int (-6)), (0, .ref (a 0))]) hx hb dX7_mostRegretted_6 rfl hl (by decide) rfl (fun ls hl => ?_)
  refine lv_iconst (v := 0) hx hb dX7_mostRegretted_7 (by decide) ?_
  refine lv_istore_n (lv' := [(2, .int 0), (1, .int (-6)), (0, .ref (a 0))]) hx hb dX7_mostRegretted_8 rfl hl (by decide) rfl (fun ls hl => ?_)
  exact L9 n0 v1 (-6) 0 H locs ls hP hD hS (lv_sub hl [2, 1, 0] rfl) hf
set_option maxHeartbeats 4000000 in
set_option maxRecDepth 100000 in
theorem ok_X7_ifSent (l : Launch) (G : Gt) (a : Nat → Nat) (sz : Nat) (n0 : Nat) (v0 : DV) (p1 : Int32) (p2 : Int32) (hne : f_X7_ifSent n0 v0 p1 p2 ≠ none) : Met l yX7_ifSent wsX7_ifSent ({ frames := 4, cells := 0, slots := 0, locals := 87 } : Room) (pcW G [.ref (a 0), .int p1, .int p2] (modelC G.2 a v0) sz) (va_Qi (fun r (u : DV) => f_X7_ifSent n0 v0 p1 p2 = some (r, u)) (fun u t => atW G (modelC G.2 a u) (va_A (modelC G.2 a v0) sz) t) (va_A (modelC G.2 a v0) sz)) 0 0 (va_A (modelC G.2 a v0) sz) := by
  refine Met.ofW (cc := cX7_ifSent) (maxL := 4) (ret := (some .int)) (by decide) rfl ?_
  intro p e s m args below meth c s₁ B hml hv
  obtain ⟨rfl, hsz, hP, hD0, hamb⟩ := hv
  have hx := B.exec
  have hb := B.bytes
  have hr := B.returns
  have hts := atoms_spec (ws := wsX7_ifSent) B.pre
  have hown : s.vm.findClass RX7 = some m.cls := findClass_of_methodNamed B.named
  have hlocks := B.notSynchronized
  have hK := hamb.1
  subst hsz
  have hD := hD0.self (sz := s.heap.size)
  generalize hAe : va_A (modelC G.2 a v0) s.heap.size = A at hD ⊢
  have hA : ∀ q : Nat, s.heap.size ≤ q → A q := fun q h => by rw [← hAe]; exact Or.inr h
  have hS : va_S A s.heap s.heap [] := va_S.rf
  obtain ⟨res, hf0⟩ : ∃ res, f_X7_ifSent n0 v0 p1 p2 = res := ⟨_, rfl⟩
  have hne : res ≠ none := hf0 ▸ hne
  have hf := hf0
  rw [f_X7_ifSent] at hf
  have hinX7 : ∀ w ∈ u_ws RX7 TX7 16, w ∈ wsX7_ifSent := by decide +kernel
  have lk7 := hts (.fieldLink RX7 7 "MoodDrawersModel" "s" "[I") (by decide +kernel)
  have hl := lv_entry ([.ref (a 0), .int p1, .int p2]) (n := 4) (Nat.le_of_ble_eq_true rfl)
  rw [lg_entry_eq]
  generalize (lg_sl ([.ref (a 0), .int p1, .int p2]) ++ List.replicate (4 - (lg_sl ([.ref (a 0), .int p1, .int p2])).length) Slot.unset).toArray = ls at hl ⊢
  have hl : lv_has ls 4 [(0, .ref (a 0)), (1, .int p1), (2, .int p2)] := hl
  refine lv_aload_n hx hb dX7_ifSent_0 rfl (lv_at hl 0 rfl) ?_
  refine lv_iload_n hx hb dX7_ifSent_1 rfl (lv_at hl 1 rfl) ?_
  have hn := bd1_1 hf hne
  refine vp_callSi (W.runV (As := [.int p1]) (rest := []) ⟨hx, hb, hml, hown, hts⟩ (ok_X7_isLetter l G a v0 p1 hn) (cwV 1 hts gX7_ifSent_X7_isLetter rfl rfl rfl (by decide +kernel) ⟨Nat.le_of_ble_eq_true rfl, Nat.le_of_ble_eq_true rfl⟩) ⟨pcR_blind, va_recv hK hP (ci := 7) (q0 := 0) rfl rfl, pcR_pre hP hamb⟩ rfl rfl hl.1 rfl (lv_room (Nat.le_of_ble_eq_true rfl)) dX7_ifSent_2 ⟨Nat.zero_le _, Nat.zero_le _⟩) (fun r2 hw => ?_)
  have hf := bd1_2 hf hw
  refine lv_if_eq (tgt := 16) hx hb dX7_ifSent_5 (by decide) (fun c => ?_) (fun c => ?_)
  · have hf := it_1 hf c
    refine lv_iconst (v := (-1)) hx hb dX7_ifSent_16 (by decide) ?_
    exact W.iret (v := (-1)) hx hb hr (fun t ht hW => ⟨⟨(-1), v0, rfl, hf0.trans hf.symm, by rw [ht]; exact hP, hD⟩, hS.F ht⟩) hS.2.2 dX7_ifSent_17
  · have hf := it_2 hf c
    refine lv_aload_n hx hb dX7_ifSent_8 rfl (lv_at hl 0 rfl) ?_
    refine lv_iload_n hx hb dX7_ifSent_9 rfl (lv_at hl 2 rfl) ?_
    have hn := bd1_1 hf hne
    refine vp_callSi (W.runV (As := [.int p2]) (rest := []) ⟨hx, hb, hml, hown, hts⟩ (ok_X7_isLetter l G a v0 p2 hn) (cwV 1 hts gX7_ifSent_X7_isLetter rfl rfl rfl (by decide +kernel) ⟨Nat.le_of_ble_eq_true rfl, Nat.le_of_ble_eq_true rfl⟩) ⟨pcR_blind, va_recv hK hP (ci := 7) (q0 := 0) rfl rfl, pcR_pre hP hamb⟩ rfl rfl hl.1 rfl (lv_room (Nat.le_of_ble_eq_true rfl)) dX7_ifSent_10 ⟨Nat.zero_le _, Nat.zero_le _⟩) (fun r10 hw => ?_)
    have hf := bd1_2 hf hw
    refine lv_if_ne (tgt := 18) hx hb dX7_ifSent_13 (by decide) (fun c => ?_) (fun c => ?_)
    · have hf := it_2 hf c
      refine lv_aload_n hx hb dX7_ifSent_18 rfl (lv_at hl 0 rfl) ?_
      refine va_get (D := G.1) (ci := 7) (v := .ref (a 1)) (C := RX7) (T := TX7) (N := 16) hx hb hts hinX7 hown hK hP 0 rfl rfl 0 (by decide) lk7 (fun _ h9 => h9) rfl dX7_ifSent_19 ?_
      refine lv_iload_n hx hb dX7_ifSent_22 rfl (lv_at hl 1 rfl) ?_
      refine lv_iconst (v := 3) hx hb dX7_ifSent_23 (by decide) ?_
      refine vp_callSi (W.runS (As := [.int p1, .int 3]) (rest := [.ref (a 1)]) ⟨hx, hb, hml, hown, hts⟩ (ok_X7_ofL l p1 3) (va_cwS 2 hts gX7_ifSent_X7_ofL rfl rfl rfl (by decide +kernel) ⟨Nat.le_of_ble_eq_true rfl, Nat.le_of_ble_eq_true rfl⟩) ⟨fun _ _ _ _ q => q, fun _ _ _ => ⟨rfl, trivial⟩⟩ rfl rfl hl.1 rfl (lv_room (Nat.le_of_ble_eq_true rfl)) dX7_ifSent_24 ⟨Nat.zero_le _, Nat.zero_le _⟩) (fun r24 hw => ?_)
      subst hw
      obtain ⟨hi, hf⟩ := ck_1 hf hne
      refine va_iald (f := (v0 0)) hx hb hK hP 1 0 rfl rfl (ixb_1 hi) dX7_ifSent_27 ?_
      refine lv_iconst (v := 1) hx hb dX7_ifSent_28 (by decide) ?_
      refine lv_icmp_ne (tgt := 45) hx hb dX7_ifSent_29 (by decide) (fun c => ?_) (fun c => ?_)
      · have hf := it_2 hf c
        refine lv_bipush (v := (-5)) hx hb dX7_ifSent_45 (by decide) ?_
        exact W.iret (v := (-5)) hx hb hr (fun t ht hW => ⟨⟨(-5), v0, rfl, hf0.trans hf.symm, by rw [ht]; exact hP, hD⟩, hS.F ht⟩) hS.2.2 dX7_ifSent_47
      · have hf := it_1 hf c
        refine lv_aload_n hx hb dX7_ifSent_32 rfl (lv_at hl 0 rfl) ?_
        refine va_get (D := G.1) (ci := 7) (v := .ref (a 1)) (C := RX7) (T := TX7) (N := 16) hx hb hts hinX7 hown hK hP 0 rfl rfl 0 (by decide) lk7 (fun _ h9 => h9) rfl dX7_ifSent_33 ?_
        refine lv_iload_n hx hb dX7_ifSent_36 rfl (lv_at hl 2 rfl) ?_
        refine lv_iconst (v := 3) hx hb dX7_ifSent_37 (by decide) ?_
        refine vp_callSi (W.runS (As := [.int p2, .int 3]) (rest := [.ref (a 1)]) ⟨hx, hb, hml, hown, hts⟩ (ok_X7_ofL l p2 3) (va_cwS 2 hts gX7_ifSent_X7_ofL rfl rfl rfl (by decide +kernel) ⟨Nat.le_of_ble_eq_true rfl, Nat.le_of_ble_eq_true rfl⟩) ⟨fun _ _ _ _ q => q, fun _ _ _ => ⟨rfl, trivial⟩⟩ rfl rfl hl.1 rfl (lv_room (Nat.le_of_ble_eq_true rfl)) dX7_ifSent_38 ⟨Nat.zero_le _, Nat.zero_le _⟩) (fun r38 hw => ?_)
        subst hw
        obtain ⟨hi, hf⟩ := ck_1 hf hne
        refine va_iald (f := (v0 0)) hx hb hK hP 1 0 rfl rfl (ixb_1 hi) dX7_ifSent_41 ?_
        refine lv_if_eq (tgt := 48) hx hb dX7_ifSent_42 (by decide) (fun c => ?_) (fun c => ?_)
        · have hf := it_1 hf c
          refine lv_aload_n hx hb dX7_ifSent_48 rfl (lv_at hl 0 rfl) ?_
          have hn := bd1_1 hf hne
          refine cwv (va_runV (As := []) (rest := []) ⟨hx, hb, hml, hown, hts⟩ (ok_X7_putAside l G a s.heap.size n0 v0 hn) (cwV 0 hts gX7_ifSent_X7_putAside rfl rfl rfl (by decide +kernel) ⟨Nat.le_of_ble_eq_true rfl, Nat.le_of_ble_eq_true rfl⟩) ⟨pcW_blind, va_recv hK hP (ci := 7) (q0 := 0) rfl rfl, pcW_pre hP hD hamb⟩ rfl rfl hl.1 rfl (lv_room (Nat.le_of_ble_eq_true rfl)) dX7_ifSent_49 ⟨Nat.zero_le _, Nat.zero_le _⟩) (wr := []) hP hD hS hA [0, 1, 2, 3, 4, 5, 6, 7, 8] [] rfl rfl (by decide) (by decide) (fun v49 H locs hw hP hD hS => ?_)
          have hf := bd1_2 hf hw
          have hP : va_P G.1 vwCl (modelC G.2 a v49) H := hP
          have hD : va_D A (modelC G.2 a v49) := hD
          refine lv_aload_n hx hb dX7_ifSent_52 rfl (lv_at hl 0 rfl) ?_
          refine va_get (D := G.1) (ci := 7) (v := .ref (a 1)) (C := RX7) (T := TX7) (N := 16) hx hb hts hinX7 hown hK hP 0 rfl rfl 0 (by decide) lk7 (fun _ h9 => h9) rfl dX7_ifSent_53 ?_
          refine lv_iload_n hx hb dX7_ifSent_56 rfl (lv_at hl 2 rfl) ?_
          refine lv_bipush (v := 6) hx hb dX7_ifSent_57 (by decide) ?_
          refine vp_callSi (W.runS (As := [.int p2, .int 6]) (rest := [.ref (a 1)]) ⟨hx, hb, hml, hown, hts⟩ (ok_X7_ofL l p2 6) (va_cwS 2 hts gX7_ifSent_X7_ofL rfl rfl rfl (by decide +kernel) ⟨Nat.le_of_ble_eq_true rfl, Nat.le_of_ble_eq_true rfl⟩) ⟨fun _ _ _ _ q => q, fun _ _ _ => ⟨rfl, trivial⟩⟩ rfl rfl hl.1 rfl (lv_room (Nat.le_of_ble_eq_true rfl)) dX7_ifSent_59 ⟨Nat.zero_le _, Nat.zero_le _⟩) (fun r59 hw => ?_)
          subst hw
          refine lv_aload_n hx hb dX7_ifSent_62 rfl (lv_at hl 0 rfl) ?_
          refine lv_iload_n hx hb dX7_ifSent_63 rfl (lv_at hl 2 rfl) ?_
          have hn := bd1_1 hf hne
          refine vp_callSi (W.runV (As := [.int p2]) (rest := [.int (f_X7_ofL p2 6), .ref (a 1)]) ⟨hx, hb, hml, hown, hts⟩ (ok_X7_heat l G a v49 p2 hn) (cwV 1 hts gX7_ifSent_X7_heat rfl rfl rfl (by decide +kernel) ⟨Nat.le_of_ble_eq_true rfl, Nat.le_of_ble_eq_true rfl⟩) ⟨pcR_blind, va_recv hK hP (ci := 7) (q0 := 0) rfl rfl, pcR_pre hP hamb⟩ rfl rfl hl.1 rfl (lv_room (Nat.le_of_ble_eq_true rfl)) dX7_ifSent_64 ⟨Nat.zero_le _, Nat.zero_le _⟩) (fun r64 hw => ?_)
          have hf := bd1_2 hf hw
          obtain ⟨hi, hf⟩ := ck_1 hf hne
          refine va_iast (f := (v49 0)) hx hb hK hP hD hS 1 0 rfl rfl (ixb_1 hi) dX7_ifSent_67 (fun H locs hP hD hS => ?_)
          obtain ⟨v67, hv, hf⟩ := lt_1 hf
          have hP : va_P G.1 vwCl (modelC G.2 a v67) H := by rw [hv]; exact hP
          have hD : va_D A (modelC G.2 a v67) := by rw [hv]; exact hD
          clear hv
          refine lv_aload_n hx hb dX7_ifSent_68 rfl (lv_at hl 0 rfl) ?_
          refine va_get (D := G.1) (ci := 7) (v := .ref (a 1)) (C := RX7) (T := TX7) (N := 16) hx hb hts hinX7 hown hK hP 0 rfl rfl 0 (by decide) lk7 (fun _ h9 => h9) rfl dX7_ifSent_69 ?_
          refine lv_iload_n hx hb dX7_ifSent_72 rfl (lv_at hl 2 rfl) ?_
          refine lv_iconst (v := 3) hx hb dX7_ifSent_73 (by decide) ?_
          refine vp_callSi (W.runS (As := [.int p2, .int 3]) (rest := [.ref (a 1)]) ⟨hx, hb, hml, hown, hts⟩ (ok_X7_ofL l p2 3) (va_cwS 2 hts gX7_ifSent_X7_ofL rfl rfl rfl (by decide +kernel) ⟨Nat.le_of_ble_eq_true rfl, Nat.le_of_ble_eq_true rfl⟩) ⟨fun _ _ _ _ q => q, fun _ _ _ => ⟨rfl, trivial⟩⟩ rfl rfl hl.1 rfl (lv_room (Nat.le_of_ble_eq_true rfl)) dX7_ifSent_74 ⟨Nat.zero_le _, Nat.zero_le _⟩) (fun r74 hw => ?_)
          subst hw
          refine lv_iconst (v := 1) hx hb dX7_ifSent_77 (by decide) ?_
          obtain ⟨hi, hf⟩ := ck_1 hf hne
          refine va_iast (f := (v67 0)) hx hb hK hP hD hS 1 0 rfl rfl (ixb_1 hi) dX7_ifSent_78 (fun H locs hP hD hS => ?_)
          obtain ⟨v78, hv, hf⟩ := lt_1 hf
          have hP : va_P G.1 vwCl (modelC G.2 a v78) H := by rw [hv]; exact hP
          have hD : va_D A (modelC G.2 a v78) := by rw [hv]; exact hD
          clear hv
          refine lv_aload_n hx hb dX7_ifSent_79 rfl (lv_at hl 0 rfl) ?_
          refine lv_iload_n hx hb dX7_ifSent_80 rfl (lv_at hl 1 rfl) ?_
          refine lv_bipush (v := 7) hx hb dX7_ifSent_81 (by decide) ?_
          have hn := bd2_1 hf hne
          refine cwi (va_runV (As := [.int p1, .int 7]) (rest := []) ⟨hx, hb, hml, hown, hts⟩ (ok_X7_ofLetter l G a H.size n0 v78 p1 7 hn) (cwV 2 hts gX7_ifSent_X7_ofLetter rfl rfl rfl (by decide +kernel) ⟨Nat.le_of_ble_eq_true rfl, Nat.le_of_ble_eq_true rfl⟩) ⟨pcW_blind, va_recv hK hP (ci := 7) (q0 := 0) rfl rfl, pcW_pre hP hD hamb⟩ rfl rfl hl.1 rfl (lv_room (Nat.le_of_ble_eq_true rfl)) dX7_ifSent_83 ⟨Nat.zero_le _, Nat.zero_le _⟩) (wr := []) hP hD hS hA [0, 1, 2, 3, 4, 5, 6, 7, 8] [] rfl rfl (by decide) (by decide) (fun r83 v83 H locs hw hP hD hS => ?_)
          have hf := bd2_2 hf hw
          have hP : va_P G.1 vwCl (modelC G.2 a v83) H := hP
          have hD : va_D A (modelC G.2 a v83) := hD
          refine lv_istore_n (lv' := [(3, .int r83), (0, .ref (a 0)), (1, .int p1), (2, .int p2)]) hx hb dX7_ifSent_86 rfl hl (by decide) rfl (fun ls hl => ?_)
          refine lv_aload_n hx hb dX7_ifSent_87 rfl (lv_at hl 1 rfl) ?_
          have hn := bd1_1 hf hne
          refine cwv (va_runV (As := []) (rest := []) ⟨hx, hb, hml, hown, hts⟩ (ok_X7_putBack l G a H.size n0 v83 hn) (cwV 0 hts gX7_ifSent_X7_putBack rfl rfl rfl (by decide +kernel) ⟨Nat.le_of_ble_eq_true rfl, Nat.le_of_ble_eq_true rfl⟩) ⟨pcW_blind, va_recv hK hP (ci := 7) (q0 := 0) rfl rfl, pcW_pre hP hD hamb⟩ rfl rfl hl.1 rfl (lv_room (Nat.le_of_ble_eq_true rfl)) dX7_ifSent_88 ⟨Nat.zero_le _, Nat.zero_le _⟩) (wr := []) hP hD hS hA [0, 1, 2, 3, 4, 5, 6, 7, 8] [] rfl rfl (by decide) (by decide) (fun v88 H locs hw hP hD hS => ?_)
          have hf := bd1_2 hf hw
          have hP : va_P G.1 vwCl (modelC G.2 a v88) H := hP
          have hD : va_D A (modelC G.2 a v88) := hD
          refine lv_iload_n hx hb dX7_ifSent_91 rfl (lv_at hl 0 rfl) ?_
          exact W.iret (v := r83) hx hb hr (fun t ht hW => ⟨⟨r83, v88, rfl, hf0.trans hf.symm, by rw [ht]; exact hP, hD⟩, hS.F ht⟩) hS.2.2 dX7_ifSent_92
        · have hf := it_2 hf c
          refine lv_bipush (v := (-5)) hx hb dX7_ifSent_45 (by decide) ?_
          exact W.iret (v := (-5)) hx hb hr (fun t ht hW => ⟨⟨(-5), v0, rfl, hf0.trans hf.symm, by rw [ht]; exact hP, hD⟩, hS.F ht⟩) hS.2.2 dX7_ifSent_47
    · have hf := it_1 hf c
      refine lv_iconst (v := (-1)) hx hb dX7_ifSent_16 (by decide) ?_
      exact W.iret (v := (-1)) hx hb hr (fun t ht hW => ⟨⟨(-1), v0, rfl, hf0.trans hf.symm, by rw [ht]; exact hP, hD⟩, hS.F ht⟩) hS.2.2 dX7_ifSent_17
set_option maxHeartbeats 4000000 in
set_option maxRecDepth 100000 in
theorem ok_X7_put (l : Launch) (G : Gt) (a : Nat → Nat) (sz : Nat) (n0 : Nat) (v0 : DV) (p1 : Int64) (hne : f_X7_put n0 v0 p1 ≠ none) : Met l yX7_put wsX7_put ({ frames := 1, cells := 0, slots := 0, locals := 22 } : Room) (pcW G [.ref (a 0), .long p1] (modelC G.2 a v0) sz) (va_Qi (fun r (u : DV) => f_X7_put n0 v0 p1 = some (r, u)) (fun u t => atW G (modelC G.2 a u) (va_A (modelC G.2 a v0) sz) t) (va_A (modelC G.2 a v0) sz)) 0 0 (va_A (modelC G.2 a v0) sz) := by
  refine Met.ofW (cc := cX7_put) (maxL := 8) (ret := (some .int)) (by decide) rfl ?_
  intro p e s m args below meth c s₁ B hml hv
  obtain ⟨rfl, hsz, hP, hD0, hamb⟩ := hv
  have hx := B.exec
  have hb := B.bytes
  have hr := B.returns
  have hts := atoms_spec (ws := wsX7_put) B.pre
  have hown : s.vm.findClass RX7 = some m.cls := findClass_of_methodNamed B.named
  have hlocks := B.notSynchronized
  have hK := hamb.1
  subst hsz
  have hD := hD0.self (sz := s.heap.size)
  generalize hAe : va_A (modelC G.2 a v0) s.heap.size = A at hD ⊢
  have hA : ∀ q : Nat, s.heap.size ≤ q → A q := fun q h => by rw [← hAe]; exact Or.inr h
  have hS : va_S A s.heap s.heap [] := va_S.rf
  obtain ⟨res, hf0⟩ : ∃ res, f_X7_put n0 v0 p1 = res := ⟨_, rfl⟩
  have hne : res ≠ none := hf0 ▸ hne
  have hf := hf0
  rw [f_X7_put] at hf
  have hinX7 : ∀ w ∈ u_ws RX7 TX7 16, w ∈ wsX7_put := by decide +kernel
  have lk119 := hts (.fieldLink RX7 119 "MoodDrawersModel" "length" "I") (by decide +kernel)
  have lk26 := hts (.fieldLink RX7 26 "MoodDrawersModel" "pad" "[I") (by decide +kernel)
  have lw2 := hts (.constantLong RX7 151 (255)) (by decide +kernel)
  have hl := lv_entry ([.ref (a 0), .long p1]) (n := 8) (Nat.le_of_ble_eq_true rfl)
  rw [lg_entry_eq]
  generalize (lg_sl ([.ref (a 0), .long p1]) ++ List.replicate (8 - (lg_sl ([.ref (a 0), .long p1])).length) Slot.unset).toArray = ls at hl ⊢
  have hl : lv_has ls 8 [(0, .ref (a 0)), (1, .long p1)] := hl
  have L126 : ∀ (n : Nat) (v : DV) (x1 : Int64) (x3 : Int32) (x5 : Int32) (H : Heap) (locs : List Loc) (ls : Array Slot), va_P G.1 vwCl (modelC G.2 a v) H → va_D A (modelC G.2 a v) → va_S A s.heap H locs → lv_has ls 8 [(0, .ref (a 0)), (1, .long x1), (3, .int x3), (5, .int x5)] → f_X7_put_L126 n v x1 x3 x5 = res → W p l e (headSpec wsX7_put ({ frames := 1, cells := 0, slots := 0, locals := 22 } : Room)).room s m ([.ref (a 0), .long p1] : List Value).toArray below meth c H locs 0 0 (MQ below (va_Qi (fun r (u : DV) => f_X7_put n0 v0 p1 = some (r, u)) (fun u t => atW G (modelC G.2 a u) A t) A) ([.ref (a 0), .long p1] : List Value).toArray s 0 0 A) (F0 m 126 ls []) := by
    intro n
    induction n with
    | zero => intro v x1 x3 x5 H locs ls hP hD hS hl hf; exact (none_1 hf hne).elim
    | succ n ih =>
      intro v x1 x3 x5 H locs ls hP hD hS hl hf
      rw [f_X7_put_L126] at hf
      refine lv_iload hx hb dX7_put_126 (lv_at hl 3 rfl) ?_
      refine lv_iload_n hx hb dX7_put_128 rfl (lv_at hl 2 rfl) ?_
      refine lv_icmp_ge (tgt := 166) hx hb dX7_put_129 (by decide) (fun c => ?_) (fun c => ?_)
      · have hf := it_1 hf c
        refine lv_aload_n hx hb dX7_put_166 rfl (lv_at hl 0 rfl) ?_
        refine lv_dup hx hb dX7_put_167 rfl ?_
        refine va_get (D := G.1) (ci := 7) (v := .int (v 9 0)) (C := RX7) (T := TX7) (N := 16) hx hb hts hinX7 hown hK hP 0 rfl rfl 7 (by decide) lk119 (fun _ h9 => h9) rfl dX7_put_168 ?_
        refine lv_iload_n hx hb dX7_put_171 rfl (lv_at hl 2 rfl) ?_
        refine lv_iadd hx hb dX7_put_172 ?_
        refine va_put (D := G.1) (ci := 7) (v := .int ((v 9 0) + x3)) (ty := .int) (C := RX7) (T := TX7) (N := 16) hx hb hts hinX7 tyX7 tyX7_ok nmX7 hown hK hP hD hS 0 rfl rfl 7 (by decide) lk119 (fun _ h9 => h9) rfl (by decide +kernel) rfl rfl (Nat.le_of_ble_eq_true rfl) dX7_put_173 (fun H locs hP hD hS => ?_)
        have hP : va_P G.1 vwCl (modelC G.2 a (vs v 9 (fun _ => ((v 9 0) + x3)))) H := hP
        have hD : va_D A (modelC G.2 a (vs v 9 (fun _ => ((v 9 0) + x3)))) := hD
        refine lv_aload_n hx hb dX7_put_176 rfl (lv_at hl 0 rfl) ?_
        refine va_get (D := G.1) (ci := 7) (v := .int ((v 9 0) + x3)) (C := RX7) (T := TX7) (N := 16) hx hb hts hinX7 hown hK hP 0 rfl rfl 7 (by decide) lk119 (fun _ h9 => h9) rfl dX7_put_177 ?_
        exact W.iret (v := ((v 9 0) + x3)) hx hb hr (fun t ht hW => ⟨⟨((v 9 0) + x3), (vs v 9 (fun _ => ((v 9 0) + x3))), rfl, hf0.trans hf.symm, by rw [ht]; exact hP, hD⟩, hS.F ht⟩) hS.2.2 dX7_put_180
      · have hf := it_2 hf c
        refine lv_aload_n hx hb dX7_put_132 rfl (lv_at hl 0 rfl) ?_
        refine va_get (D := G.1) (ci := 7) (v := .ref (a 6)) (C := RX7) (T := TX7) (N := 16) hx hb hts hinX7 hown hK hP 0 rfl rfl 6 (by decide) lk26 (fun _ h9 => h9) rfl dX7_put_133 ?_
        refine lv_aload_n hx hb dX7_put_136 rfl (lv_at hl 0 rfl) ?_
        refine va_get (D := G.1) (ci := 7) (v := .int (v 9 0)) (C := RX7) (T := TX7) (N := 16) hx hb hts hinX7 hown hK hP 0 rfl rfl 7 (by decide) lk119 (fun _ h9 => h9) rfl dX7_put_137 ?_
        refine lv_iload_n hx hb dX7_put_140 rfl (lv_at hl 2 rfl) ?_
        refine lv_iadd hx hb dX7_put_141 ?_
        refine lv_iconst (v := 1) hx hb dX7_put_142 (by decide) ?_
        refine lv_isub hx hb dX7_put_143 ?_
        refine lv_iload hx hb dX7_put_144 (lv_at hl 3 rfl) ?_
        refine lv_isub hx hb dX7_put_146 ?_
        refine lv_lload_n hx hb dX7_put_147 rfl (lv_at hl 1 rfl) ?_
        refine lv_bipush (v := 8) hx hb dX7_put_148 (by decide) ?_
        refine lv_iload hx hb dX7_put_150 (lv_at hl 3 rfl) ?_
        refine lv_imul hx hb dX7_put_152 ?_
        refine lv_lushr hx hb dX7_put_153 rfl ?_
        refine lv_ldc2 (v := 255) hx hb hown lw2 dX7_put_154 ?_
        refine lv_land hx hb dX7_put_157 ?_
        refine lv_l2i hx hb dX7_put_158 rfl ?_
        obtain ⟨hi, hf⟩ := ck_1 hf hne
        refine va_iast (f := (v 5)) hx hb hK hP hD hS 6 0 rfl rfl (ixb_1 hi) dX7_put_159 (fun H locs hP hD hS => ?_)
        obtain ⟨v159, hv, hf⟩ := lt_1 hf
        have hP : va_P G.1 vwCl (modelC G.2 a v159) H := by rw [hv]; exact hP
        have hD : va_D A (modelC G.2 a v159) := by rw [hv]; exact hD
        clear hv
        refine lv_iinc (v := (x5 + 1)) (lv' := [(5, .int (x5 + 1)), (0, .ref (a 0)), (1, .long x1), (3, .int x3)]) hx hb dX7_put_160 hl (k := 3) rfl rfl (by decide) rfl (fun ls hl => ?_)
        refine lv_goto (tgt := 126) hx hb dX7_put_163 (by decide) ?_
        exact ih v159 x1 x3 (x5 + 1) H locs ls hP hD hS (lv_sub hl [1, 2, 3, 0] rfl) hf
  have J80 : ∀ (k8 : DV → Int64 → Int32 → Int32 → Int32 → Option (Int32 × DV)) (hk8 : ∀ (v : DV) (x1 : Int64) (x3 : Int32) (x4 : Int32) (x5 : Int32) (H : Heap) (locs : List Loc) (ls : Array Slot), va_P G.1 vwCl (modelC G.2 a v) H → va_D A (modelC G.2 a v) → va_S A s.heap H locs → lv_has ls 8 [(0, .ref (a 0)), (1, .long x1), (3, .int x3), (4, .int x4), (5, .int x5)] → k8 v x1 x3 x4 x5 = res → W p l e (headSpec wsX7_put ({ frames := 1, cells := 0, slots := 0, locals := 22 } : Room)).room s m ([.ref (a 0), .long p1] : List Value).toArray below meth c H locs 0 0 (MQ below (va_Qi (fun r (u : DV) => f_X7_put n0 v0 p1 = some (r, u)) (fun u t => atW G (modelC G.2 a u) A t) A) ([.ref (a 0), .long p1] : List Value).toArray s 0 0 A) (F0 m 8 ls [])) (n : Nat) (v : DV) (x1 : Int64) (x3 : Int32) (x5 : Int32) (x7 : Int32) (z0 : Int32) (H : Heap) (locs : List Loc) (ls : Array Slot), va_P G.1 vwCl (modelC G.2 a v) H → va_D A (modelC G.2 a v) → va_S A s.heap H locs → lv_has ls 8 [(0, .ref (a 0)), (1, .long x1), (3, .int x3), (5, .int x5), (7, .int x7)] → f_X7_put_J80 k8 n v x1 x3 x5 x7 z0 = res → W p l e (headSpec wsX7_put ({ frames := 1, cells := 0, slots := 0, locals := 22 } : Room)).room s m ([.ref (a 0), .long p1] : List Value).toArray below meth c H locs 0 0 (MQ below (va_Qi (fun r (u : DV) => f_X7_put n0 v0 p1 = some (r, u)) (fun u t => atW G (modelC G.2 a u) A t) A) ([.ref (a 0), .long p1] : List Value).toArray s 0 0 A) (F0 m 80 ls [.int z0]) := by
    intro k8 hk8 n v x1 x3 x5 x7 z0 H locs ls hP hD hS hl hf
    rw [f_X7_put_J80] at hf
    refine lv_istore (lv' := [(4, .int z0), (0, .ref (a 0)), (1, .long x1), (3, .int x3), (5, .int x5), (7, .int x7)]) hx hb dX7_put_80 hl (by decide) rfl (fun ls hl => ?_)
    refine lv_iload_n hx hb dX7_put_82 rfl (lv_at hl 3 rfl) ?_
    refine lv_iload hx hb dX7_put_83 (lv_at hl 5 rfl) ?_
    refine lv_if_eq (tgt := 92) hx hb dX7_put_85 (by decide) (fun c => ?_) (fun c => ?_)
    · have hf := it_1 hf c
      refine lv_iconst (v := 1) hx hb dX7_put_92 (by decide) ?_
      refine lv_iadd hx hb dX7_put_93 ?_
      refine lv_istore_n (lv' := [(3, .int (x3 + 1)), (4, .int z0), (0, .ref (a 0)), (1, .long x1), (5, .int x5), (7, .int x7)]) hx hb dX7_put_94 rfl hl (by decide) rfl (fun ls hl => ?_)
      refine lv_iinc (v := (x5 + 1)) (lv' := [(5, .int (x5 + 1)), (3, .int (x3 + 1)), (4, .int z0), (0, .ref (a 0)), (1, .long x1), (7, .int x7)]) hx hb dX7_put_95 hl (k := 4) rfl rfl (by decide) rfl (fun ls hl => ?_)
      refine lv_goto (tgt := 8) hx hb dX7_put_98 (by decide) ?_
      exact hk8 v x1 (x3 + 1) z0 (x5 + 1) H locs ls hP hD hS (lv_sub hl [3, 4, 1, 2, 0] rfl) hf
    · have hf := it_2 hf c
      refine lv_iconst (v := 0) hx hb dX7_put_88 (by decide) ?_
      refine lv_goto (tgt := 93) hx hb dX7_put_89 (by decide) ?_
      refine lv_iadd hx hb dX7_put_93 ?_
      refine lv_istore_n (lv' := [(3, .int (x3 + 0)), (4, .int z0), (0, .ref (a 0)), (1, .long x1), (5, .int x5), (7, .int x7)]) hx hb dX7_put_94 rfl hl (by decide) rfl (fun ls hl => ?_)
      refine lv_iinc (v := (x5 + 1)) (lv' := [(5, .int (x5 + 1)), (3, .int (x3 + 0)), (4, .int z0), (0, .ref (a 0)), (1, .long x1), (7, .int x7)]) hx hb dX7_put_95 hl (k := 4) rfl rfl (by decide) rfl (fun ls hl => ?_)
      refine lv_goto (tgt := 8) hx hb dX7_put_98 (by decide) ?_
      exact hk8 v x1 (x3 + 0) z0 (x5 + 1) H locs ls hP hD hS (lv_sub hl [3, 4, 1, 2, 0] rfl) hf
  have J75 : ∀ (k8 : DV → Int64 → Int32 → Int32 → Int32 → Option (Int32 × DV)) (hk8 : ∀ (v : DV) (x1 : Int64) (x3 : Int32) (x4 : Int32) (x5 : Int32) (H : Heap) (locs : List Loc) (ls : Array Slot), va_P G.1 vwCl (modelC G.2 a v) H → va_D A (modelC G.2 a v) → va_S A s.heap H locs → lv_has ls 8 [(0, .ref (a 0)), (1, .long x1), (3, .int x3), (4, .int x4), (5, .int x5)] → k8 v x1 x3 x4 x5 = res → W p l e (headSpec wsX7_put ({ frames := 1, cells := 0, slots := 0, locals := 22 } : Room)).room s m ([.ref (a 0), .long p1] : List Value).toArray below meth c H locs 0 0 (MQ below (va_Qi (fun r (u : DV) => f_X7_put n0 v0 p1 = some (r, u)) (fun u t => atW G (modelC G.2 a u) A t) A) ([.ref (a 0), .long p1] : List Value).toArray s 0 0 A) (F0 m 8 ls [])) (n : Nat) (v : DV) (x1 : Int64) (x3 : Int32) (x5 : Int32) (x7 : Int32) (H : Heap) (locs : List Loc) (ls : Array Slot), va_P G.1 vwCl (modelC G.2 a v) H → va_D A (modelC G.2 a v) → va_S A s.heap H locs → lv_has ls 8 [(0, .ref (a 0)), (1, .long x1), (3, .int x3), (5, .int x5), (7, .int x7)] → f_X7_put_J75 k8 n v x1 x3 x5 x7 = res → W p l e (headSpec wsX7_put ({ frames := 1, cells := 0, slots := 0, locals := 22 } : Room)).room s m ([.ref (a 0), .long p1] : List Value).toArray below meth c H locs 0 0 (MQ below (va_Qi (fun r (u : DV) => f_X7_put n0 v0 p1 = some (r, u)) (fun u t => atW G (modelC G.2 a u) A t) A) ([.ref (a 0), .long p1] : List Value).toArray s 0 0 A) (F0 m 75 ls []) := by
    intro k8 hk8 n v x1 x3 x5 x7 H locs ls hP hD hS hl hf
    rw [f_X7_put_J75] at hf
    refine lv_iconst (v := 1) hx hb dX7_put_75 (by decide) ?_
    refine lv_goto (tgt := 80) hx hb dX7_put_76 (by decide) ?_
    exact J80 k8 hk8 n v x1 x3 x5 x7 1 H locs ls hP hD hS (lv_sub hl [0, 1, 2, 3, 4] rfl) hf
  have J79 : ∀ (k8 : DV → Int64 → Int32 → Int32 → Int32 → Option (Int32 × DV)) (hk8 : ∀ (v : DV) (x1 : Int64) (x3 : Int32) (x4 : Int32) (x5 : Int32) (H : Heap) (locs : List Loc) (ls : Array Slot), va_P G.1 vwCl (modelC G.2 a v) H → va_D A (modelC G.2 a v) → va_S A s.heap H locs → lv_has ls 8 [(0, .ref (a 0)), (1, .long x1), (3, .int x3), (4, .int x4), (5, .int x5)] → k8 v x1 x3 x4 x5 = res → W p l e (headSpec wsX7_put ({ frames := 1, cells := 0, slots := 0, locals := 22 } : Room)).room s m ([.ref (a 0), .long p1] : List Value).toArray below meth c H locs 0 0 (MQ below (va_Qi (fun r (u : DV) => f_X7_put n0 v0 p1 = some (r, u)) (fun u t => atW G (modelC G.2 a u) A t) A) ([.ref (a 0), .long p1] : List Value).toArray s 0 0 A) (F0 m 8 ls [])) (n : Nat) (v : DV) (x1 : Int64) (x3 : Int32) (x5 : Int32) (x7 : Int32) (H : Heap) (locs : List Loc) (ls : Array Slot), va_P G.1 vwCl (modelC G.2 a v) H → va_D A (modelC G.2 a v) → va_S A s.heap H locs → lv_has ls 8 [(0, .ref (a 0)), (1, .long x1), (3, .int x3), (5, .int x5), (7, .int x7)] → f_X7_put_J79 k8 n v x1 x3 x5 x7 = res → W p l e (headSpec wsX7_put ({ frames := 1, cells := 0, slots := 0, locals := 22 } : Room)).room s m ([.ref (a 0), .long p1] : List Value).toArray below meth c H locs 0 0 (MQ below (va_Qi (fun r (u : DV) => f_X7_put n0 v0 p1 = some (r, u)) (fun u t => atW G (modelC G.2 a u) A t) A) ([.ref (a 0), .long p1] : List Value).toArray s 0 0 A) (F0 m 79 ls []) := by
    intro k8 hk8 n v x1 x3 x5 x7 H locs ls hP hD hS hl hf
    rw [f_X7_put_J79] at hf
    refine lv_iconst (v := 0) hx hb dX7_put_79 (by decide) ?_
    exact J80 k8 hk8 n v x1 x3 x5 x7 0 H locs ls hP hD hS (lv_sub hl [0, 1, 2, 3, 4] rfl) hf
  have J51 : ∀ (k8 : DV → Int64 → Int32 → Int32 → Int32 → Option (Int32 × DV)) (hk8 : ∀ (v : DV) (x1 : Int64) (x3 : Int32) (x4 : Int32) (x5 : Int32) (H : Heap) (locs : List Loc) (ls : Array Slot), va_P G.1 vwCl (modelC G.2 a v) H → va_D A (modelC G.2 a v) → va_S A s.heap H locs → lv_has ls 8 [(0, .ref (a 0)), (1, .long x1), (3, .int x3), (4, .int x4), (5, .int x5)] → k8 v x1 x3 x4 x5 = res → W p l e (headSpec wsX7_put ({ frames := 1, cells := 0, slots := 0, locals := 22 } : Room)).room s m ([.ref (a 0), .long p1] : List Value).toArray below meth c H locs 0 0 (MQ below (va_Qi (fun r (u : DV) => f_X7_put n0 v0 p1 = some (r, u)) (fun u t => atW G (modelC G.2 a u) A t) A) ([.ref (a 0), .long p1] : List Value).toArray s 0 0 A) (F0 m 8 ls [])) (n : Nat) (v : DV) (x1 : Int64) (x3 : Int32) (x4 : Int32) (x5 : Int32) (x6 : Int32) (z0 : Int32) (H : Heap) (locs : List Loc) (ls : Array Slot), va_P G.1 vwCl (modelC G.2 a v) H → va_D A (modelC G.2 a v) → va_S A s.heap H locs → lv_has ls 8 [(0, .ref (a 0)), (1, .long x1), (3, .int x3), (4, .int x4), (5, .int x5), (6, .int x6)] → f_X7_put_J51 k8 n v x1 x3 x4 x5 x6 z0 = res → W p l e (headSpec wsX7_put ({ frames := 1, cells := 0, slots := 0, locals := 22 } : Room)).room s m ([.ref (a 0), .long p1] : List Value).toArray below meth c H locs 0 0 (MQ below (va_Qi (fun r (u : DV) => f_X7_put n0 v0 p1 = some (r, u)) (fun u t => atW G (modelC G.2 a u) A t) A) ([.ref (a 0), .long p1] : List Value).toArray s 0 0 A) (F0 m 51 ls [.int z0]) := by
    intro k8 hk8 n v x1 x3 x4 x5 x6 z0 H locs ls hP hD hS hl hf
    rw [f_X7_put_J51] at hf
    refine lv_istore (lv' := [(7, .int z0), (0, .ref (a 0)), (1, .long x1), (3, .int x3), (4, .int x4), (5, .int x5), (6, .int x6)]) hx hb dX7_put_51 hl (by decide) rfl (fun ls hl => ?_)
    refine lv_iload hx hb dX7_put_53 (lv_at hl 4 rfl) ?_
    refine lv_if_ne (tgt := 75) hx hb dX7_put_55 (by decide) (fun c => ?_) (fun c => ?_)
    · have hf := it_2 hf c
      exact J75 k8 hk8 n v x1 x3 x5 z0 H locs ls hP hD hS (lv_sub hl [1, 2, 3, 5, 0] rfl) hf
    · have hf := it_1 hf c
      refine lv_iload hx hb dX7_put_58 (lv_at hl 0 rfl) ?_
      refine lv_if_ne (tgt := 79) hx hb dX7_put_60 (by decide) (fun c => ?_) (fun c => ?_)
      · have hf := it_2 hf c
        exact J79 k8 hk8 n v x1 x3 x5 z0 H locs ls hP hD hS (lv_sub hl [1, 2, 3, 5, 0] rfl) hf
      · have hf := it_1 hf c
        refine lv_iload hx hb dX7_put_63 (lv_at hl 6 rfl) ?_
        refine lv_bipush (v := 33) hx hb dX7_put_65 (by decide) ?_
        refine lv_bipush (v := 126) hx hb dX7_put_67 (by decide) ?_
        refine vp_callSi (W.runS (As := [.int x6, .int 33, .int 126]) (rest := []) ⟨hx, hb, hml, hown, hts⟩ (ok_X7_in l x6 33 126) (va_cwS 3 hts gX7_put_X7_in rfl rfl rfl (by decide +kernel) ⟨Nat.le_of_ble_eq_true rfl, Nat.le_of_ble_eq_true rfl⟩) ⟨fun _ _ _ _ q => q, fun _ _ _ => ⟨rfl, trivial⟩⟩ rfl rfl hl.1 rfl (lv_room (Nat.le_of_ble_eq_true rfl)) dX7_put_69 ⟨Nat.zero_le _, Nat.zero_le _⟩) (fun r69 hw => ?_)
        subst hw
        refine lv_if_ne (tgt := 79) hx hb dX7_put_72 (by decide) (fun c => ?_) (fun c => ?_)
        · have hf := it_2 hf c
          exact J79 k8 hk8 n v x1 x3 x5 z0 H locs ls hP hD hS (lv_sub hl [1, 2, 3, 5, 0] rfl) hf
        · have hf := it_1 hf c
          exact J75 k8 hk8 n v x1 x3 x5 z0 H locs ls hP hD hS (lv_sub hl [1, 2, 3, 5, 0] rfl) hf
  have J50 : ∀ (k8 : DV → Int64 → Int32 → Int32 → Int32 → Option (Int32 × DV)) (hk8 : ∀ (v : DV) (x1 : Int64) (x3 : Int32) (x4 : Int32) (x5 : Int32) (H : Heap) (locs : List Loc) (ls : Array Slot), va_P G.1 vwCl (modelC G.2 a v) H → va_D A (modelC G.2 a v) → va_S A s.heap H locs → lv_has ls 8 [(0, .ref (a 0)), (1, .long x1), (3, .int x3), (4, .int x4), (5, .int x5)] → k8 v x1 x3 x4 x5 = res → W p l e (headSpec wsX7_put ({ frames := 1, cells := 0, slots := 0, locals := 22 } : Room)).room s m ([.ref (a 0), .long p1] : List Value).toArray below meth c H locs 0 0 (MQ below (va_Qi (fun r (u : DV) => f_X7_put n0 v0 p1 = some (r, u)) (fun u t => atW G (modelC G.2 a u) A t) A) ([.ref (a 0), .long p1] : List Value).toArray s 0 0 A) (F0 m 8 ls [])) (n : Nat) (v : DV) (x1 : Int64) (x3 : Int32) (x4 : Int32) (x5 : Int32) (x6 : Int32) (H : Heap) (locs : List Loc) (ls : Array Slot), va_P G.1 vwCl (modelC G.2 a v) H → va_D A (modelC G.2 a v) → va_S A s.heap H locs → lv_has ls 8 [(0, .ref (a 0)), (1, .long x1), (3, .int x3), (4, .int x4), (5, .int x5), (6, .int x6)] → f_X7_put_J50 k8 n v x1 x3 x4 x5 x6 = res → W p l e (headSpec wsX7_put ({ frames := 1, cells := 0, slots := 0, locals := 22 } : Room)).room s m ([.ref (a 0), .long p1] : List Value).toArray below meth c H locs 0 0 (MQ below (va_Qi (fun r (u : DV) => f_X7_put n0 v0 p1 = some (r, u)) (fun u t => atW G (modelC G.2 a u) A t) A) ([.ref (a 0), .long p1] : List Value).toArray s 0 0 A) (F0 m 50 ls []) := by
    intro k8 hk8 n v x1 x3 x4 x5 x6 H locs ls hP hD hS hl hf
    rw [f_X7_put_J50] at hf
    refine lv_iconst (v := 0) hx hb dX7_put_50 (by decide) ?_
    exact J51 k8 hk8 n v x1 x3 x4 x5 x6 0 H locs ls hP hD hS (lv_sub hl [0, 1, 2, 3, 4, 5] rfl) hf
  have L8 : ∀ (n : Nat) (v : DV) (x1 : Int64) (x3 : Int32) (x4 : Int32) (x5 : Int32) (H : Heap) (locs : List Loc) (ls : Array Slot), va_P G.1 vwCl (modelC G.2 a v) H → va_D A (modelC G.2 a v) → va_S A s.heap H locs → lv_has ls 8 [(0, .ref (a 0)), (1, .long x1), (3, .int x3), (4, .int x4), (5, .int x5)] → f_X7_put_L8 n v x1 x3 x4 x5 = res → W p l e (headSpec wsX7_put ({ frames := 1, cells := 0, slots := 0, locals := 22 } : Room)).room s m ([.ref (a 0), .long p1] : List Value).toArray below meth c H locs 0 0 (MQ below (va_Qi (fun r (u : DV) => f_X7_put n0 v0 p1 = some (r, u)) (fun u t => atW G (modelC G.2 a u) A t) A) ([.ref (a 0), .long p1] : List Value).toArray s 0 0 A) (F0 m 8 ls []) := by
    intro n
    induction n with
    | zero => intro v x1 x3 x4 x5 H locs ls hP hD hS hl hf; exact (none_1 hf hne).elim
    | succ n ih =>
      intro v x1 x3 x4 x5 H locs ls hP hD hS hl hf
      rw [f_X7_put_L8] at hf
      refine lv_iload hx hb dX7_put_8 (lv_at hl 4 rfl) ?_
      refine lv_bipush (v := 8) hx hb dX7_put_10 (by decide) ?_
      refine lv_icmp_ge (tgt := 101) hx hb dX7_put_12 (by decide) (fun c => ?_) (fun c => ?_)
      · have hf := it_1 hf c
        refine lv_iload hx hb dX7_put_101 (lv_at hl 3 rfl) ?_
        refine lv_if_eq (tgt := 109) hx hb dX7_put_103 (by decide) (fun c => ?_) (fun c => ?_)
        · have hf := it_1 hf c
          refine lv_aload_n hx hb dX7_put_109 rfl (lv_at hl 0 rfl) ?_
          refine va_get (D := G.1) (ci := 7) (v := .int (v 9 0)) (C := RX7) (T := TX7) (N := 16) hx hb hts hinX7 hown hK hP 0 rfl rfl 7 (by decide) lk119 (fun _ h9 => h9) rfl dX7_put_110 ?_
          refine lv_iload_n hx hb dX7_put_113 rfl (lv_at hl 2 rfl) ?_
          refine lv_iadd hx hb dX7_put_114 ?_
          refine lv_bipush (v := 80) hx hb dX7_put_115 (by decide) ?_
          refine lv_icmp_le (tgt := 123) hx hb dX7_put_117 (by decide) (fun c => ?_) (fun c => ?_)
          · have hf := it_1 hf c
            refine lv_iconst (v := 0) hx hb dX7_put_123 (by decide) ?_
            refine lv_istore (lv' := [(5, .int 0), (0, .ref (a 0)), (1, .long x1), (3, .int x3), (4, .int x4)]) hx hb dX7_put_124 hl (by decide) rfl (fun ls hl => ?_)
            exact L126 n v x1 x3 0 H locs ls hP hD hS (lv_sub hl [1, 2, 3, 0] rfl) hf
          · have hf := it_2 hf c
            refine lv_bipush (v := (-4)) hx hb dX7_put_120 (by decide) ?_
            exact W.iret (v := (-4)) hx hb hr (fun t ht hW => ⟨⟨(-4), v, rfl, hf0.trans hf.symm, by rw [ht]; exact hP, hD⟩, hS.F ht⟩) hS.2.2 dX7_put_122
        · have hf := it_2 hf c
          refine lv_bipush (v := (-2)) hx hb dX7_put_106 (by decide) ?_
          exact W.iret (v := (-2)) hx hb hr (fun t ht hW => ⟨⟨(-2), v, rfl, hf0.trans hf.symm, by rw [ht]; exact hP, hD⟩, hS.F ht⟩) hS.2.2 dX7_put_108
      · have hf := it_2 hf c
        refine lv_lload_n hx hb dX7_put_15 rfl (lv_at hl 1 rfl) ?_
        refine lv_bipush (v := 8) hx hb dX7_put_16 (by decide) ?_
        refine lv_iload hx hb dX7_put_18 (lv_at hl 4 rfl) ?_
        refine lv_imul hx hb dX7_put_20 ?_
        refine lv_lushr hx hb dX7_put_21 rfl ?_
        refine lv_ldc2 (v := 255) hx hb hown lw2 dX7_put_22 ?_
        refine lv_land hx hb dX7_put_25 ?_
        refine lv_l2i hx hb dX7_put_26 rfl ?_
        refine lv_istore (lv' := [(6, .int (Int64.toInt32 ((UInt64.toInt64 (Int64.toUInt64 x1 >>> (Int64.toUInt64 (Int32.toInt64 (8 * x5)) &&& Int64.toUInt64 63))) &&& 255))), (0, .ref (a 0)), (1, .long x1), (3, .int x3), (4, .int x4), (5, .int x5)]) hx hb dX7_put_27 hl (by decide) rfl (fun ls hl => ?_)
        refine lv_iload hx hb dX7_put_29 (lv_at hl 5 rfl) ?_
        refine lv_if_le (tgt := 50) hx hb dX7_put_31 (by decide) (fun c => ?_) (fun c => ?_)
        · have hf := it_1 hf c
          exact J50 (fun v x1 x3 x4 x5 => f_X7_put_L8 n v x1 x3 x4 x5) ih n v x1 x3 x4 x5 (Int64.toInt32 ((UInt64.toInt64 (Int64.toUInt64 x1 >>> (Int64.toUInt64 (Int32.toInt64 (8 * x5)) &&& Int64.toUInt64 63))) &&& 255)) H locs ls hP hD hS (lv_sub hl [1, 2, 3, 4, 5, 0] rfl) hf
        · have hf := it_2 hf c
          refine lv_lload_n hx hb dX7_put_34 rfl (lv_at hl 2 rfl) ?_
          refine lv_bipush (v := 8) hx hb dX7_put_35 (by decide) ?_
          refine lv_iload hx hb dX7_put_37 (lv_at hl 5 rfl) ?_
          refine lv_imul hx hb dX7_put_39 ?_
          refine lv_lushr hx hb dX7_put_40 rfl ?_
          refine lv_lconst (v := 0) hx hb dX7_put_41 (by decide) ?_
          refine W.lcmp hx hb dX7_put_42 ?_
          refine lv_if_ne (tgt := 50) hx hb dX7_put_43 (by decide) (fun c => ?_) (fun c => ?_)
          · have hf := it_2 hf c
            exact J50 (fun v x1 x3 x4 x5 => f_X7_put_L8 n v x1 x3 x4 x5) ih n v x1 x3 x4 x5 (Int64.toInt32 ((UInt64.toInt64 (Int64.toUInt64 x1 >>> (Int64.toUInt64 (Int32.toInt64 (8 * x5)) &&& Int64.toUInt64 63))) &&& 255)) H locs ls hP hD hS (lv_sub hl [1, 2, 3, 4, 5, 0] rfl) hf
          · have hf := it_1 hf c
            refine lv_iconst (v := 1) hx hb dX7_put_46 (by decide) ?_
            refine lv_goto (tgt := 51) hx hb dX7_put_47 (by decide) ?_
            exact J51 (fun v x1 x3 x4 x5 => f_X7_put_L8 n v x1 x3 x4 x5) ih n v x1 x3 x4 x5 (Int64.toInt32 ((UInt64.toInt64 (Int64.toUInt64 x1 >>> (Int64.toUInt64 (Int32.toInt64 (8 * x5)) &&& Int64.toUInt64 63))) &&& 255)) 1 H locs ls hP hD hS (lv_sub hl [1, 2, 3, 4, 5, 0] rfl) hf
  refine lv_iconst (v := 0) hx hb dX7_put_0 (by decide) ?_
  refine lv_istore_n (lv' := [(3, .int 0), (0, .ref (a 0)), (1, .long p1)]) hx hb dX7_put_1 rfl hl (by decide) rfl (fun ls hl => ?_)
  refine lv_iconst (v := 0) hx hb dX7_put_2 (by decide) ?_
  refine lv_istore (lv' := [(4, .int 0), (3, .int 0), (0, .ref (a 0)), (1, .long p1)]) hx hb dX7_put_3 hl (by decide) rfl (fun ls hl => ?_)
  refine lv_iconst (v := 0) hx hb dX7_put_5 (by decide) ?_
  refine lv_istore (lv' := [(5, .int 0), (4, .int 0), (3, .int 0), (0, .ref (a 0)), (1, .long p1)]) hx hb dX7_put_6 hl (by decide) rfl (fun ls hl => ?_)
  exact L8 n0 v0 p1 0 0 0 s.heap [] ls hP hD hS (lv_sub hl [3, 4, 2, 1, 0] rfl) hf
set_option maxHeartbeats 4000000 in
set_option maxRecDepth 100000 in
theorem ok_X7_wipe (l : Launch) (G : Gt) (a : Nat → Nat) (sz : Nat) (v0 : DV) (hne : f_X7_wipe v0 ≠ none) : Met l yX7_wipe wsX7_wipe ({ frames := 0, cells := 0, slots := 0, locals := 0 } : Room) (pcW G [.ref (a 0)] (modelC G.2 a v0) sz) (va_Qi (fun r (u : DV) => f_X7_wipe v0 = some (r, u)) (fun u t => atW G (modelC G.2 a u) (va_A (modelC G.2 a v0) sz) t) (va_A (modelC G.2 a v0) sz)) 0 0 (va_A (modelC G.2 a v0) sz) := by
  refine Met.ofW (cc := cX7_wipe) (maxL := 2) (ret := (some .int)) (by decide) rfl ?_
  intro p e s m args below meth c s₁ B hml hv
  obtain ⟨rfl, hsz, hP, hD0, hamb⟩ := hv
  have hx := B.exec
  have hb := B.bytes
  have hr := B.returns
  have hts := atoms_spec (ws := wsX7_wipe) B.pre
  have hown : s.vm.findClass RX7 = some m.cls := findClass_of_methodNamed B.named
  have hlocks := B.notSynchronized
  have hK := hamb.1
  subst hsz
  have hD := hD0.self (sz := s.heap.size)
  generalize hAe : va_A (modelC G.2 a v0) s.heap.size = A at hD ⊢
  have hA : ∀ q : Nat, s.heap.size ≤ q → A q := fun q h => by rw [← hAe]; exact Or.inr h
  have hS : va_S A s.heap s.heap [] := va_S.rf
  obtain ⟨res, hf0⟩ : ∃ res, f_X7_wipe v0 = res := ⟨_, rfl⟩
  have hne : res ≠ none := hf0 ▸ hne
  have hf := hf0
  rw [f_X7_wipe] at hf
  have hinX7 : ∀ w ∈ u_ws RX7 TX7 16, w ∈ wsX7_wipe := by decide +kernel
  have lk119 := hts (.fieldLink RX7 119 "MoodDrawersModel" "length" "I") (by decide +kernel)
  have hl := lv_entry ([.ref (a 0)]) (n := 2) (Nat.le_of_ble_eq_true rfl)
  rw [lg_entry_eq]
  generalize (lg_sl ([.ref (a 0)]) ++ List.replicate (2 - (lg_sl ([.ref (a 0)])).length) Slot.unset).toArray = ls at hl ⊢
  have hl : lv_has ls 2 [(0, .ref (a 0))] := hl
  refine lv_aload_n hx hb dX7_wipe_0 rfl (lv_at hl 0 rfl) ?_
  refine va_get (D := G.1) (ci := 7) (v := .int (v0 9 0)) (C := RX7) (T := TX7) (N := 16) hx hb hts hinX7 hown hK hP 0 rfl rfl 7 (by decide) lk119 (fun _ h9 => h9) rfl dX7_wipe_1 ?_
  refine lv_istore_n (lv' := [(1, .int (v0 9 0)), (0, .ref (a 0))]) hx hb dX7_wipe_4 rfl hl (by decide) rfl (fun ls hl => ?_)
  refine lv_aload_n hx hb dX7_wipe_5 rfl (lv_at hl 1 rfl) ?_
  refine lv_iconst (v := 0) hx hb dX7_wipe_6 (by decide) ?_
  refine va_put (D := G.1) (ci := 7) (v := .int 0) (ty := .int) (C := RX7) (T := TX7) (N := 16) hx hb hts hinX7 tyX7 tyX7_ok nmX7 hown hK hP hD hS 0 rfl rfl 7 (by decide) lk119 (fun _ h9 => h9) rfl (by decide +kernel) rfl rfl (Nat.le_of_ble_eq_true rfl) dX7_wipe_7 (fun H locs hP hD hS => ?_)
  have hP : va_P G.1 vwCl (modelC G.2 a (vs v0 9 (fun _ => 0))) H := hP
  have hD : va_D A (modelC G.2 a (vs v0 9 (fun _ => 0))) := hD
  refine lv_iload_n hx hb dX7_wipe_10 rfl (lv_at hl 0 rfl) ?_
  exact W.iret (v := (v0 9 0)) hx hb hr (fun t ht hW => ⟨⟨(v0 9 0), (vs v0 9 (fun _ => 0)), rfl, hf0.trans hf.symm, by rw [ht]; exact hP, hD⟩, hS.F ht⟩) hS.2.2 dX7_wipe_11
set_option maxHeartbeats 4000000 in
set_option maxRecDepth 100000 in
theorem ok_X7_sign (l : Launch) (G : Gt) (a : Nat → Nat) (sz : Nat) (v0 : DV) (p1 : Int32) (p2 : Int32) (hne : f_X7_sign v0 p1 p2 ≠ none) : Met l yX7_sign wsX7_sign ({ frames := 1, cells := 0, slots := 0, locals := 22 } : Room) (pcW G [.ref (a 0), .int p1, .int p2] (modelC G.2 a v0) sz) (va_Qi (fun r (u : DV) => f_X7_sign v0 p1 p2 = some (r, u)) (fun u t => atW G (modelC G.2 a u) (va_A (modelC G.2 a v0) sz) t) (va_A (modelC G.2 a v0) sz)) 0 0 (va_A (modelC G.2 a v0) sz) := by
  refine Met.ofW (cc := cX7_sign) (maxL := 4) (ret := (some .int)) (by decide) rfl ?_
  intro p e s m args below meth c s₁ B hml hv
  obtain ⟨rfl, hsz, hP, hD0, hamb⟩ := hv
  have hx := B.exec
  have hb := B.bytes
  have hr := B.returns
  have hts := atoms_spec (ws := wsX7_sign) B.pre
  have hown : s.vm.findClass RX7 = some m.cls := findClass_of_methodNamed B.named
  have hlocks := B.notSynchronized
  have hK := hamb.1
  subst hsz
  have hD := hD0.self (sz := s.heap.size)
  generalize hAe : va_A (modelC G.2 a v0) s.heap.size = A at hD ⊢
  have hA : ∀ q : Nat, s.heap.size ≤ q → A q := fun q h => by rw [← hAe]; exact Or.inr h
  have hS : va_S A s.heap s.heap [] := va_S.rf
  obtain ⟨res, hf0⟩ : ∃ res, f_X7_sign v0 p1 p2 = res := ⟨_, rfl⟩
  have hne : res ≠ none := hf0 ▸ hne
  have hf := hf0
  rw [f_X7_sign] at hf
  have hinX7 : ∀ w ∈ u_ws RX7 TX7 16, w ∈ wsX7_sign := by decide +kernel
  have lk153 := hts (.fieldLink RX7 153 "MoodDrawersModel" "place" "I") (by decide +kernel)
  have lk119 := hts (.fieldLink RX7 119 "MoodDrawersModel" "length" "I") (by decide +kernel)
  have lk156 := hts (.fieldLink RX7 156 "MoodDrawersModel" "isWrong" "Z") (by decide +kernel)
  have lk26 := hts (.fieldLink RX7 26 "MoodDrawersModel" "pad" "[I") (by decide +kernel)
  have hl := lv_entry ([.ref (a 0), .int p1, .int p2]) (n := 4) (Nat.le_of_ble_eq_true rfl)
  rw [lg_entry_eq]
  generalize (lg_sl ([.ref (a 0), .int p1, .int p2]) ++ List.replicate (4 - (lg_sl ([.ref (a 0), .int p1, .int p2])).length) Slot.unset).toArray = ls at hl ⊢
  have hl : lv_has ls 4 [(0, .ref (a 0)), (1, .int p1), (2, .int p2)] := hl
  have J47 : ∀ (v : DV) (x3 : Int32) (z0 : Int32) (H : Heap) (locs : List Loc) (ls : Array Slot), va_P G.1 vwCl (modelC G.2 a v) H → va_D A (modelC G.2 a v) → va_S A s.heap H locs → lv_has ls 4 [(0, .ref (a 0)), (3, .int x3)] → f_X7_sign_J47 v x3 z0 = res → W p l e (headSpec wsX7_sign ({ frames := 1, cells := 0, slots := 0, locals := 22 } : Room)).room s m ([.ref (a 0), .int p1, .int p2] : List Value).toArray below meth c H locs 0 0 (MQ below (va_Qi (fun r (u : DV) => f_X7_sign v0 p1 p2 = some (r, u)) (fun u t => atW G (modelC G.2 a u) A t) A) ([.ref (a 0), .int p1, .int p2] : List Value).toArray s 0 0 A) (F0 m 47 ls [.int z0, .ref (a 0)]) := by
    intro v x3 z0 H locs ls hP hD hS hl hf
    rw [f_X7_sign_J47] at hf
    obtain ⟨hz, hf⟩ := ck_1 hf hne
    refine va_put (D := G.1) (ci := 7) (v := .int z0) (ty := .boolean) (C := RX7) (T := TX7) (N := 16) hx hb hts hinX7 tyX7 tyX7_ok nmX7 hown hK hP hD hS 0 rfl rfl 11 (by decide) lk156 (fun _ h9 => h9) rfl (by decide +kernel) (okZ_1 hz) (okZ_2 hz) (Nat.le_of_ble_eq_true rfl) dX7_sign_47 (fun H locs hP hD hS => ?_)
    have hP : va_P G.1 vwCl (modelC G.2 a (vs v 11 (fun _ => z0))) H := hP
    have hD : va_D A (modelC G.2 a (vs v 11 (fun _ => z0))) := hD
    refine lv_aload_n hx hb dX7_sign_50 rfl (lv_at hl 0 rfl) ?_
    refine lv_dup hx hb dX7_sign_51 rfl ?_
    refine va_get (D := G.1) (ci := 7) (v := .int (v 10 0)) (C := RX7) (T := TX7) (N := 16) hx hb hts hinX7 hown hK hP 0 rfl rfl 10 (by decide) lk153 (fun _ h9 => h9) rfl dX7_sign_52 ?_
    refine lv_aload_n hx hb dX7_sign_55 rfl (lv_at hl 0 rfl) ?_
    refine va_get (D := G.1) (ci := 7) (v := .int z0) (C := RX7) (T := TX7) (N := 16) hx hb hts hinX7 hown hK hP 0 rfl rfl 11 (by decide) lk156 (fun _ h9 => h9) rfl dX7_sign_56 ?_
    refine lv_if_eq (tgt := 66) hx hb dX7_sign_59 (by decide) (fun c => ?_) (fun c => ?_)
    · have hf := it_1 hf c
      refine lv_iconst (v := 1) hx hb dX7_sign_66 (by decide) ?_
      refine lv_iadd hx hb dX7_sign_67 ?_
      refine va_put (D := G.1) (ci := 7) (v := .int ((v 10 0) + 1)) (ty := .int) (C := RX7) (T := TX7) (N := 16) hx hb hts hinX7 tyX7 tyX7_ok nmX7 hown hK hP hD hS 0 rfl rfl 10 (by decide) lk153 (fun _ h9 => h9) rfl (by decide +kernel) rfl rfl (Nat.le_of_ble_eq_true rfl) dX7_sign_68 (fun H locs hP hD hS => ?_)
      have hP : va_P G.1 vwCl (modelC G.2 a (vs (vs v 11 (fun _ => z0)) 10 (fun _ => ((v 10 0) + 1)))) H := hP
      have hD : va_D A (modelC G.2 a (vs (vs v 11 (fun _ => z0)) 10 (fun _ => ((v 10 0) + 1)))) := hD
      refine lv_iload_n hx hb dX7_sign_71 rfl (lv_at hl 1 rfl) ?_
      exact W.iret (v := x3) hx hb hr (fun t ht hW => ⟨⟨x3, (vs (vs v 11 (fun _ => z0)) 10 (fun _ => ((v 10 0) + 1))), rfl, hf0.trans hf.symm, by rw [ht]; exact hP, hD⟩, hS.F ht⟩) hS.2.2 dX7_sign_72
    · have hf := it_2 hf c
      refine lv_iconst (v := 0) hx hb dX7_sign_62 (by decide) ?_
      refine lv_goto (tgt := 67) hx hb dX7_sign_63 (by decide) ?_
      refine lv_iadd hx hb dX7_sign_67 ?_
      refine va_put (D := G.1) (ci := 7) (v := .int ((v 10 0) + 0)) (ty := .int) (C := RX7) (T := TX7) (N := 16) hx hb hts hinX7 tyX7 tyX7_ok nmX7 hown hK hP hD hS 0 rfl rfl 10 (by decide) lk153 (fun _ h9 => h9) rfl (by decide +kernel) rfl rfl (Nat.le_of_ble_eq_true rfl) dX7_sign_68 (fun H locs hP hD hS => ?_)
      have hP : va_P G.1 vwCl (modelC G.2 a (vs (vs v 11 (fun _ => z0)) 10 (fun _ => ((v 10 0) + 0)))) H := hP
      have hD : va_D A (modelC G.2 a (vs (vs v 11 (fun _ => z0)) 10 (fun _ => ((v 10 0) + 0)))) := hD
      refine lv_iload_n hx hb dX7_sign_71 rfl (lv_at hl 1 rfl) ?_
      exact W.iret (v := x3) hx hb hr (fun t ht hW => ⟨⟨x3, (vs (vs v 11 (fun _ => z0)) 10 (fun _ => ((v 10 0) + 0))), rfl, hf0.trans hf.symm, by rw [ht]; exact hP, hD⟩, hS.F ht⟩) hS.2.2 dX7_sign_72
  have J42 : ∀ (v : DV) (x3 : Int32) (H : Heap) (locs : List Loc) (ls : Array Slot), va_P G.1 vwCl (modelC G.2 a v) H → va_D A (modelC G.2 a v) → va_S A s.heap H locs → lv_has ls 4 [(0, .ref (a 0)), (3, .int x3)] → f_X7_sign_J42 v x3 = res → W p l e (headSpec wsX7_sign ({ frames := 1, cells := 0, slots := 0, locals := 22 } : Room)).room s m ([.ref (a 0), .int p1, .int p2] : List Value).toArray below meth c H locs 0 0 (MQ below (va_Qi (fun r (u : DV) => f_X7_sign v0 p1 p2 = some (r, u)) (fun u t => atW G (modelC G.2 a u) A t) A) ([.ref (a 0), .int p1, .int p2] : List Value).toArray s 0 0 A) (F0 m 42 ls [.ref (a 0)]) := by
    intro v x3 H locs ls hP hD hS hl hf
    rw [f_X7_sign_J42] at hf
    refine lv_iconst (v := 1) hx hb dX7_sign_42 (by decide) ?_
    refine lv_goto (tgt := 47) hx hb dX7_sign_43 (by decide) ?_
    exact J47 v x3 1 H locs ls hP hD hS (lv_sub hl [0, 1] rfl) hf
  have J24 : ∀ (v : DV) (x1 : Int32) (x2 : Int32) (z0 : Int32) (H : Heap) (locs : List Loc) (ls : Array Slot), va_P G.1 vwCl (modelC G.2 a v) H → va_D A (modelC G.2 a v) → va_S A s.heap H locs → lv_has ls 4 [(0, .ref (a 0)), (1, .int x1), (2, .int x2)] → f_X7_sign_J24 v x1 x2 z0 = res → W p l e (headSpec wsX7_sign ({ frames := 1, cells := 0, slots := 0, locals := 22 } : Room)).room s m ([.ref (a 0), .int p1, .int p2] : List Value).toArray below meth c H locs 0 0 (MQ below (va_Qi (fun r (u : DV) => f_X7_sign v0 p1 p2 = some (r, u)) (fun u t => atW G (modelC G.2 a u) A t) A) ([.ref (a 0), .int p1, .int p2] : List Value).toArray s 0 0 A) (F0 m 24 ls [.int z0]) := by
    intro v x1 x2 z0 H locs ls hP hD hS hl hf
    rw [f_X7_sign_J24] at hf
    refine lv_istore_n (lv' := [(3, .int z0), (0, .ref (a 0)), (1, .int x1), (2, .int x2)]) hx hb dX7_sign_24 rfl hl (by decide) rfl (fun ls hl => ?_)
    refine lv_aload_n hx hb dX7_sign_25 rfl (lv_at hl 1 rfl) ?_
    refine lv_aload_n hx hb dX7_sign_26 rfl (lv_at hl 1 rfl) ?_
    refine va_get (D := G.1) (ci := 7) (v := .int (v 11 0)) (C := RX7) (T := TX7) (N := 16) hx hb hts hinX7 hown hK hP 0 rfl rfl 11 (by decide) lk156 (fun _ h9 => h9) rfl dX7_sign_27 ?_
    refine lv_if_ne (tgt := 42) hx hb dX7_sign_30 (by decide) (fun c => ?_) (fun c => ?_)
    · have hf := it_2 hf c
      exact J42 v z0 H locs ls hP hD hS (lv_sub hl [1, 0] rfl) hf
    · have hf := it_1 hf c
      refine lv_iload_n hx hb dX7_sign_33 rfl (lv_at hl 0 rfl) ?_
      refine lv_iload_n hx hb dX7_sign_34 rfl (lv_at hl 2 rfl) ?_
      refine lv_iload_n hx hb dX7_sign_35 rfl (lv_at hl 3 rfl) ?_
      refine vp_callSi (W.runS (As := [.int z0, .int x1, .int x2]) (rest := [.ref (a 0)]) ⟨hx, hb, hml, hown, hts⟩ (ok_X7_in l z0 x1 x2) (va_cwS 3 hts gX7_sign_X7_in rfl rfl rfl (by decide +kernel) ⟨Nat.le_of_ble_eq_true rfl, Nat.le_of_ble_eq_true rfl⟩) ⟨fun _ _ _ _ q => q, fun _ _ _ => ⟨rfl, trivial⟩⟩ rfl rfl hl.1 rfl (lv_room (Nat.le_of_ble_eq_true rfl)) dX7_sign_36 ⟨Nat.zero_le _, Nat.zero_le _⟩) (fun r36 hw => ?_)
      subst hw
      refine lv_if_ne (tgt := 46) hx hb dX7_sign_39 (by decide) (fun c => ?_) (fun c => ?_)
      · have hf := it_2 hf c
        refine lv_iconst (v := 0) hx hb dX7_sign_46 (by decide) ?_
        exact J47 v z0 0 H locs ls hP hD hS (lv_sub hl [1, 0] rfl) hf
      · have hf := it_1 hf c
        exact J42 v z0 H locs ls hP hD hS (lv_sub hl [1, 0] rfl) hf
  refine lv_aload_n hx hb dX7_sign_0 rfl (lv_at hl 0 rfl) ?_
  refine va_get (D := G.1) (ci := 7) (v := .int (v0 10 0)) (C := RX7) (T := TX7) (N := 16) hx hb hts hinX7 hown hK hP 0 rfl rfl 10 (by decide) lk153 (fun _ h9 => h9) rfl dX7_sign_1 ?_
  refine lv_aload_n hx hb dX7_sign_4 rfl (lv_at hl 0 rfl) ?_
  refine va_get (D := G.1) (ci := 7) (v := .int (v0 9 0)) (C := RX7) (T := TX7) (N := 16) hx hb hts hinX7 hown hK hP 0 rfl rfl 7 (by decide) lk119 (fun _ h9 => h9) rfl dX7_sign_5 ?_
  refine lv_icmp_ge (tgt := 23) hx hb dX7_sign_8 (by decide) (fun c => ?_) (fun c => ?_)
  · have hf := it_1 hf c
    refine lv_iconst (v := 0) hx hb dX7_sign_23 (by decide) ?_
    exact J24 v0 p1 p2 0 s.heap [] ls hP hD hS (lv_sub hl [0, 1, 2] rfl) hf
  · have hf := it_2 hf c
    refine lv_aload_n hx hb dX7_sign_11 rfl (lv_at hl 0 rfl) ?_
    refine va_get (D := G.1) (ci := 7) (v := .ref (a 6)) (C := RX7) (T := TX7) (N := 16) hx hb hts hinX7 hown hK hP 0 rfl rfl 6 (by decide) lk26 (fun _ h9 => h9) rfl dX7_sign_12 ?_
    refine lv_aload_n hx hb dX7_sign_15 rfl (lv_at hl 0 rfl) ?_
    refine va_get (D := G.1) (ci := 7) (v := .int (v0 10 0)) (C := RX7) (T := TX7) (N := 16) hx hb hts hinX7 hown hK hP 0 rfl rfl 10 (by decide) lk153 (fun _ h9 => h9) rfl dX7_sign_16 ?_
    obtain ⟨hi, hf⟩ := ck_1 hf hne
    refine va_iald (f := (v0 5)) hx hb hK hP 6 0 rfl rfl (ixb_1 hi) dX7_sign_19 ?_
    refine lv_goto (tgt := 24) hx hb dX7_sign_20 (by decide) ?_
    exact J24 v0 p1 p2 ((v0 5) (Int32.toNatClampNeg (v0 10 0))) s.heap [] ls hP hD hS (lv_sub hl [0, 1, 2] rfl) hf
set_option maxHeartbeats 4000000 in
set_option maxRecDepth 100000 in
theorem ok_X7_isNext (l : Launch) (G : Gt) (a : Nat → Nat) (v0 : DV) (p1 : Int32) (p2 : Int32) (hne : f_X7_isNext v0 p1 p2 ≠ none) : Met l yX7_isNext wsX7_isNext ({ frames := 1, cells := 0, slots := 0, locals := 22 } : Room) (pcR G [.ref (a 0), .int p1, .int p2] (modelC G.2 a v0)) (vp_Si (fun r => f_X7_isNext v0 p1 p2 = some r)) 0 0 (fun _ => False) := by
  refine Met.ofW (cc := cX7_isNext) (maxL := 3) (ret := (some .boolean)) (by decide) rfl ?_
  intro p e s m args below meth c s₁ B hml hv
  obtain ⟨rfl, hP, hamb⟩ := hv
  have hx := B.exec
  have hb := B.bytes
  have hr := B.returns
  have hts := atoms_spec (ws := wsX7_isNext) B.pre
  have hown : s.vm.findClass RX7 = some m.cls := findClass_of_methodNamed B.named
  have hlocks := B.notSynchronized
  have hK := hamb.1
  obtain ⟨res, hf0⟩ : ∃ res, f_X7_isNext v0 p1 p2 = res := ⟨_, rfl⟩
  have hne : res ≠ none := hf0 ▸ hne
  have hf := hf0
  rw [f_X7_isNext] at hf
  have hinX7 : ∀ w ∈ u_ws RX7 TX7 16, w ∈ wsX7_isNext := by decide +kernel
  have lk156 := hts (.fieldLink RX7 156 "MoodDrawersModel" "isWrong" "Z") (by decide +kernel)
  have lk153 := hts (.fieldLink RX7 153 "MoodDrawersModel" "place" "I") (by decide +kernel)
  have lk119 := hts (.fieldLink RX7 119 "MoodDrawersModel" "length" "I") (by decide +kernel)
  have lk26 := hts (.fieldLink RX7 26 "MoodDrawersModel" "pad" "[I") (by decide +kernel)
  have hl := lv_entry ([.ref (a 0), .int p1, .int p2]) (n := 3) (Nat.le_of_ble_eq_true rfl)
  rw [lg_entry_eq]
  generalize (lg_sl ([.ref (a 0), .int p1, .int p2]) ++ List.replicate (3 - (lg_sl ([.ref (a 0), .int p1, .int p2])).length) Slot.unset).toArray = ls at hl ⊢
  have hl : lv_has ls 3 [(0, .ref (a 0)), (1, .int p1), (2, .int p2)] := hl
  refine lv_aload_n hx hb dX7_isNext_0 rfl (lv_at hl 0 rfl) ?_
  refine va_get (D := G.1) (ci := 7) (v := .int (v0 11 0)) (C := RX7) (T := TX7) (N := 16) hx hb hts hinX7 hown hK hP 0 rfl rfl 11 (by decide) lk156 (fun _ h9 => h9) rfl dX7_isNext_1 ?_
  refine lv_if_ne (tgt := 39) hx hb dX7_isNext_4 (by decide) (fun c => ?_) (fun c => ?_)
  · have hf := it_2 hf c
    refine lv_iconst (v := 0) hx hb dX7_isNext_39 (by decide) ?_
    exact W.zret (ty := .boolean) (v := 0) hx hb hr rfl (fun t ht hW => ⟨0, rfl, hf0.trans hf.symm, ht⟩) (fun _ hq => absurd hq List.not_mem_nil) dX7_isNext_40
  · have hf := it_1 hf c
    refine lv_aload_n hx hb dX7_isNext_7 rfl (lv_at hl 0 rfl) ?_
    refine va_get (D := G.1) (ci := 7) (v := .int (v0 10 0)) (C := RX7) (T := TX7) (N := 16) hx hb hts hinX7 hown hK hP 0 rfl rfl 10 (by decide) lk153 (fun _ h9 => h9) rfl dX7_isNext_8 ?_
    refine lv_aload_n hx hb dX7_isNext_11 rfl (lv_at hl 0 rfl) ?_
    refine va_get (D := G.1) (ci := 7) (v := .int (v0 9 0)) (C := RX7) (T := TX7) (N := 16) hx hb hts hinX7 hown hK hP 0 rfl rfl 7 (by decide) lk119 (fun _ h9 => h9) rfl dX7_isNext_12 ?_
    refine lv_icmp_ge (tgt := 39) hx hb dX7_isNext_15 (by decide) (fun c => ?_) (fun c => ?_)
    · have hf := it_1 hf c
      refine lv_iconst (v := 0) hx hb dX7_isNext_39 (by decide) ?_
      exact W.zret (ty := .boolean) (v := 0) hx hb hr rfl (fun t ht hW => ⟨0, rfl, hf0.trans hf.symm, ht⟩) (fun _ hq => absurd hq List.not_mem_nil) dX7_isNext_40
    · have hf := it_2 hf c
      refine lv_aload_n hx hb dX7_isNext_18 rfl (lv_at hl 0 rfl) ?_
      refine va_get (D := G.1) (ci := 7) (v := .ref (a 6)) (C := RX7) (T := TX7) (N := 16) hx hb hts hinX7 hown hK hP 0 rfl rfl 6 (by decide) lk26 (fun _ h9 => h9) rfl dX7_isNext_19 ?_
      refine lv_aload_n hx hb dX7_isNext_22 rfl (lv_at hl 0 rfl) ?_
      refine va_get (D := G.1) (ci := 7) (v := .int (v0 10 0)) (C := RX7) (T := TX7) (N := 16) hx hb hts hinX7 hown hK hP 0 rfl rfl 10 (by decide) lk153 (fun _ h9 => h9) rfl dX7_isNext_23 ?_
      obtain ⟨hi, hf⟩ := ck_1 hf hne
      refine va_iald (f := (v0 5)) hx hb hK hP 6 0 rfl rfl (ixb_1 hi) dX7_isNext_26 ?_
      refine lv_iload_n hx hb dX7_isNext_27 rfl (lv_at hl 1 rfl) ?_
      refine lv_iload_n hx hb dX7_isNext_28 rfl (lv_at hl 2 rfl) ?_
      refine vp_callSi (W.runS (As := [.int ((v0 5) (Int32.toNatClampNeg (v0 10 0))), .int p1, .int p2]) (rest := []) ⟨hx, hb, hml, hown, hts⟩ (ok_X7_in l ((v0 5) (Int32.toNatClampNeg (v0 10 0))) p1 p2) (va_cwS 3 hts gX7_isNext_X7_in rfl rfl rfl (by decide +kernel) ⟨Nat.le_of_ble_eq_true rfl, Nat.le_of_ble_eq_true rfl⟩) ⟨fun _ _ _ _ q => q, fun _ _ _ => ⟨rfl, trivial⟩⟩ rfl rfl hl.1 rfl (lv_room (Nat.le_of_ble_eq_true rfl)) dX7_isNext_29 ⟨Nat.zero_le _, Nat.zero_le _⟩) (fun r29 hw => ?_)
      subst hw
      refine lv_if_eq (tgt := 39) hx hb dX7_isNext_32 (by decide) (fun c => ?_) (fun c => ?_)
      · have hf := it_1 hf c
        refine lv_iconst (v := 0) hx hb dX7_isNext_39 (by decide) ?_
        exact W.zret (ty := .boolean) (v := 0) hx hb hr rfl (fun t ht hW => ⟨0, rfl, hf0.trans hf.symm, ht⟩) (fun _ hq => absurd hq List.not_mem_nil) dX7_isNext_40
      · have hf := it_2 hf c
        refine lv_iconst (v := 1) hx hb dX7_isNext_35 (by decide) ?_
        refine lv_goto (tgt := 40) hx hb dX7_isNext_36 (by decide) ?_
        exact W.zret (ty := .boolean) (v := 1) hx hb hr rfl (fun t ht hW => ⟨1, rfl, hf0.trans hf.symm, ht⟩) (fun _ hq => absurd hq List.not_mem_nil) dX7_isNext_40
set_option maxHeartbeats 4000000 in
set_option maxRecDepth 100000 in
theorem ok_X7_number (l : Launch) (G : Gt) (a : Nat → Nat) (sz : Nat) (v0 : DV) (hne : f_X7_number v0 ≠ none) : Met l yX7_number wsX7_number ({ frames := 2, cells := 0, slots := 0, locals := 45 } : Room) (pcW G [.ref (a 0)] (modelC G.2 a v0) sz) (va_Qi (fun r (u : DV) => f_X7_number v0 = some (r, u)) (fun u t => atW G (modelC G.2 a u) (va_A (modelC G.2 a v0) sz) t) (va_A (modelC G.2 a v0) sz)) 0 0 (va_A (modelC G.2 a v0) sz) := by
  refine Met.ofW (cc := cX7_number) (maxL := 2) (ret := (some .int)) (by decide) rfl ?_
  intro p e s m args below meth c s₁ B hml hv
  obtain ⟨rfl, hsz, hP, hD0, hamb⟩ := hv
  have hx := B.exec
  have hb := B.bytes
  have hr := B.returns
  have hts := atoms_spec (ws := wsX7_number) B.pre
  have hown : s.vm.findClass RX7 = some m.cls := findClass_of_methodNamed B.named
  have hlocks := B.notSynchronized
  have hK := hamb.1
  subst hsz
  have hD := hD0.self (sz := s.heap.size)
  generalize hAe : va_A (modelC G.2 a v0) s.heap.size = A at hD ⊢
  have hA : ∀ q : Nat, s.heap.size ≤ q → A q := fun q h => by rw [← hAe]; exact Or.inr h
  have hS : va_S A s.heap s.heap [] := va_S.rf
  obtain ⟨res, hf0⟩ : ∃ res, f_X7_number v0 = res := ⟨_, rfl⟩
  have hne : res ≠ none := hf0 ▸ hne
  have hf := hf0
  rw [f_X7_number] at hf
  have hl := lv_entry ([.ref (a 0)]) (n := 2) (Nat.le_of_ble_eq_true rfl)
  rw [lg_entry_eq]
  generalize (lg_sl ([.ref (a 0)]) ++ List.replicate (2 - (lg_sl ([.ref (a 0)])).length) Slot.unset).toArray = ls at hl ⊢
  have hl : lv_has ls 2 [(0, .ref (a 0))] := hl
  refine lv_aload_n hx hb dX7_number_0 rfl (lv_at hl 0 rfl) ?_
  refine lv_bipush (v := 48) hx hb dX7_number_1 (by decide) ?_
  refine lv_bipush (v := 57) hx hb dX7_number_3 (by decide) ?_
  have hn := bd2_1 hf hne
  refine cwi (va_runV (As := [.int 48, .int 57]) (rest := []) ⟨hx, hb, hml, hown, hts⟩ (ok_X7_sign l G a s.heap.size v0 48 57 hn) (cwV 2 hts gX7_number_X7_sign rfl rfl rfl (by decide +kernel) ⟨Nat.le_of_ble_eq_true rfl, Nat.le_of_ble_eq_true rfl⟩) ⟨pcW_blind, va_recv hK hP (ci := 7) (q0 := 0) rfl rfl, pcW_pre hP hD hamb⟩ rfl rfl hl.1 rfl (lv_room (Nat.le_of_ble_eq_true rfl)) dX7_number_5 ⟨Nat.zero_le _, Nat.zero_le _⟩) (wr := []) hP hD hS hA [0, 1, 2, 3, 4, 5, 6, 7, 8] [] rfl rfl (by decide) (by decide) (fun r5 v5 H locs hw hP hD hS => ?_)
  have hf := bd2_2 hf hw
  have hP : va_P G.1 vwCl (modelC G.2 a v5) H := hP
  have hD : va_D A (modelC G.2 a v5) := hD
  refine lv_bipush (v := 48) hx hb dX7_number_8 (by decide) ?_
  refine lv_isub hx hb dX7_number_10 ?_
  refine lv_istore_n (lv' := [(1, .int (r5 - 48)), (0, .ref (a 0))]) hx hb dX7_number_11 rfl hl (by decide) rfl (fun ls hl => ?_)
  refine lv_iload_n hx hb dX7_number_12 rfl (lv_at hl 0 rfl) ?_
  refine lv_if_le (tgt := 46) hx hb dX7_number_13 (by decide) (fun c => ?_) (fun c => ?_)
  · have hf := it_1 hf c
    refine lv_iload_n hx hb dX7_number_46 rfl (lv_at hl 0 rfl) ?_
    exact W.iret (v := (r5 - 48)) hx hb hr (fun t ht hW => ⟨⟨(r5 - 48), v5, rfl, hf0.trans hf.symm, by rw [ht]; exact hP, hD⟩, hS.F ht⟩) hS.2.2 dX7_number_47
  · have hf := it_2 hf c
    refine lv_aload_n hx hb dX7_number_16 rfl (lv_at hl 1 rfl) ?_
    refine lv_bipush (v := 48) hx hb dX7_number_17 (by decide) ?_
    refine lv_bipush (v := 57) hx hb dX7_number_19 (by decide) ?_
    have hn := bd1_1 hf hne
    refine vp_callSi (W.runV (As := [.int 48, .int 57]) (rest := []) ⟨hx, hb, hml, hown, hts⟩ (ok_X7_isNext l G a v5 48 57 hn) (cwV 2 hts gX7_number_X7_isNext rfl rfl rfl (by decide +kernel) ⟨Nat.le_of_ble_eq_true rfl, Nat.le_of_ble_eq_true rfl⟩) ⟨pcR_blind, va_recv hK hP (ci := 7) (q0 := 0) rfl rfl, pcR_pre hP hamb⟩ rfl rfl hl.1 rfl (lv_room (Nat.le_of_ble_eq_true rfl)) dX7_number_21 ⟨Nat.zero_le _, Nat.zero_le _⟩) (fun r21 hw => ?_)
    have hf := bd1_2 hf hw
    refine lv_if_eq (tgt := 46) hx hb dX7_number_24 (by decide) (fun c => ?_) (fun c => ?_)
    · have hf := it_1 hf c
      refine lv_iload_n hx hb dX7_number_46 rfl (lv_at hl 0 rfl) ?_
      exact W.iret (v := (r5 - 48)) hx hb hr (fun t ht hW => ⟨⟨(r5 - 48), v5, rfl, hf0.trans hf.symm, by rw [ht]; exact hP, hD⟩, hS.F ht⟩) hS.2.2 dX7_number_47
    · have hf := it_2 hf c
      refine lv_bipush (v := 10) hx hb dX7_number_27 (by decide) ?_
      refine lv_iload_n hx hb dX7_number_29 rfl (lv_at hl 0 rfl) ?_
      refine lv_imul hx hb dX7_number_30 ?_
      refine lv_aload_n hx hb dX7_number_31 rfl (lv_at hl 1 rfl) ?_
      refine lv_bipush (v := 48) hx hb dX7_number_32 (by decide) ?_
      refine lv_bipush (v := 57) hx hb dX7_number_34 (by decide) ?_
      have hn := bd2_1 hf hne
      refine cwi (va_runV (As := [.int 48, .int 57]) (rest := [.int (10 * (r5 - 48))]) ⟨hx, hb, hml, hown, hts⟩ (ok_X7_sign l G a H.size v5 48 57 hn) (cwV 2 hts gX7_number_X7_sign rfl rfl rfl (by decide +kernel) ⟨Nat.le_of_ble_eq_true rfl, Nat.le_of_ble_eq_true rfl⟩) ⟨pcW_blind, va_recv hK hP (ci := 7) (q0 := 0) rfl rfl, pcW_pre hP hD hamb⟩ rfl rfl hl.1 rfl (lv_room (Nat.le_of_ble_eq_true rfl)) dX7_number_36 ⟨Nat.zero_le _, Nat.zero_le _⟩) (wr := []) hP hD hS hA [0, 1, 2, 3, 4, 5, 6, 7, 8] [] rfl rfl (by decide) (by decide) (fun r36 v36 H locs hw hP hD hS => ?_)
      have hf := bd2_2 hf hw
      have hP : va_P G.1 vwCl (modelC G.2 a v36) H := hP
      have hD : va_D A (modelC G.2 a v36) := hD
      refine lv_iadd hx hb dX7_number_39 ?_
      refine lv_bipush (v := 48) hx hb dX7_number_40 (by decide) ?_
      refine lv_isub hx hb dX7_number_42 ?_
      refine lv_goto (tgt := 47) hx hb dX7_number_43 (by decide) ?_
      exact W.iret (v := (((10 * (r5 - 48)) + r36) - 48)) hx hb hr (fun t ht hW => ⟨⟨(((10 * (r5 - 48)) + r36) - 48), v36, rfl, hf0.trans hf.symm, by rw [ht]; exact hP, hD⟩, hS.F ht⟩) hS.2.2 dX7_number_47
set_option maxHeartbeats 4000000 in
set_option maxRecDepth 100000 in
theorem ok_X7_order (l : Launch) (G : Gt) (a : Nat → Nat) (sz : Nat) (v0 : DV) (hne : f_X7_order v0 ≠ none) : Met l yX7_order wsX7_order ({ frames := 3, cells := 0, slots := 0, locals := 66 } : Room) (pcW G [.ref (a 0)] (modelC G.2 a v0) sz) (va_Qv (fun (u : DV) => f_X7_order v0 = some u) (fun u t => atW G (modelC G.2 a u) (va_A (modelC G.2 a v0) sz) t) (va_A (modelC G.2 a v0) sz)) 0 0 (va_A (modelC G.2 a v0) sz) := by
  refine Met.ofW (cc := cX7_order) (maxL := 4) (ret := none) (by decide) rfl ?_
  intro p e s m args below meth c s₁ B hml hv
  obtain ⟨rfl, hsz, hP, hD0, hamb⟩ := hv
  have hx := B.exec
  have hb := B.bytes
  have hr := B.returns
  have hts := atoms_spec (ws := wsX7_order) B.pre
  have hown : s.vm.findClass RX7 = some m.cls := findClass_of_methodNamed B.named
  have hlocks := B.notSynchronized
  have hK := hamb.1
  subst hsz
  have hD := hD0.self (sz := s.heap.size)
  generalize hAe : va_A (modelC G.2 a v0) s.heap.size = A at hD ⊢
  have hA : ∀ q : Nat, s.heap.size ≤ q → A q := fun q h => by rw [← hAe]; exact Or.inr h
  have hS : va_S A s.heap s.heap [] := va_S.rf
  obtain ⟨res, hf0⟩ : ∃ res, f_X7_order v0 = res := ⟨_, rfl⟩
  have hne : res ≠ none := hf0 ▸ hne
  have hf := hf0
  rw [f_X7_order] at hf
  have hinX7 : ∀ w ∈ u_ws RX7 TX7 16, w ∈ wsX7_order := by decide +kernel
  have lk153 := hts (.fieldLink RX7 153 "MoodDrawersModel" "place" "I") (by decide +kernel)
  have lk119 := hts (.fieldLink RX7 119 "MoodDrawersModel" "length" "I") (by decide +kernel)
  have lk156 := hts (.fieldLink RX7 156 "MoodDrawersModel" "isWrong" "Z") (by decide +kernel)
  have lk167 := hts (.fieldLink RX7 167 "MoodDrawersModel" "letter" "I") (by decide +kernel)
  have lk173 := hts (.fieldLink RX7 173 "MoodDrawersModel" "one" "I") (by decide +kernel)
  have lk176 := hts (.fieldLink RX7 176 "MoodDrawersModel" "two" "I") (by decide +kernel)
  have lk179 := hts (.fieldLink RX7 179 "MoodDrawersModel" "three" "I") (by decide +kernel)
  have lk26 := hts (.fieldLink RX7 26 "MoodDrawersModel" "pad" "[I") (by decide +kernel)
  have hl := lv_entry ([.ref (a 0)]) (n := 4) (Nat.le_of_ble_eq_true rfl)
  rw [lg_entry_eq]
  generalize (lg_sl ([.ref (a 0)]) ++ List.replicate (4 - (lg_sl ([.ref (a 0)])).length) Slot.unset).toArray = ls at hl ⊢
  have hl : lv_has ls 4 [(0, .ref (a 0))] := hl
  have J219 : ∀ (v : DV) (x1 : Int32) (H : Heap) (locs : List Loc) (ls : Array Slot), va_P G.1 vwCl (modelC G.2 a v) H → va_D A (modelC G.2 a v) → va_S A s.heap H locs → lv_has ls 4 [(0, .ref (a 0)), (1, .int x1)] → f_X7_order_J219 v x1 = res → W p l e (headSpec wsX7_order ({ frames := 3, cells := 0, slots := 0, locals := 66 } : Room)).room s m ([.ref (a 0)] : List Value).toArray below meth c H locs 0 0 (MQ below (va_Qv (fun (u : DV) => f_X7_order v0 = some u) (fun u t => atW G (modelC G.2 a u) A t) A) ([.ref (a 0)] : List Value).toArray s 0 0 A) (F0 m 219 ls []) := by
    intro v x1 H locs ls hP hD hS hl hf
    rw [f_X7_order_J219] at hf
    refine lv_iload_n hx hb dX7_order_219 rfl (lv_at hl 1 rfl) ?_
    refine lv_bipush (v := 117) hx hb dX7_order_220 (by decide) ?_
    refine lv_icmp_ne (tgt := 242) hx hb dX7_order_222 (by decide) (fun c => ?_) (fun c => ?_)
    · have hf := it_2 hf c
      exact W.vret hx hb hr (fun t ht hW => ⟨⟨v, rfl, hf0.trans hf.symm, by rw [ht]; exact hP, hD⟩, hS.F ht⟩) hS.2.2 dX7_order_242
    · have hf := it_1 hf c
      refine lv_aload_n hx hb dX7_order_225 rfl (lv_at hl 0 rfl) ?_
      refine lv_bipush (v := 45) hx hb dX7_order_226 (by decide) ?_
      refine lv_bipush (v := 45) hx hb dX7_order_228 (by decide) ?_
      have hn := bd2_1 hf hne
      refine cwi (va_runV (As := [.int 45, .int 45]) (rest := []) ⟨hx, hb, hml, hown, hts⟩ (ok_X7_sign l G a H.size v 45 45 hn) (cwV 2 hts gX7_order_X7_sign rfl rfl rfl (by decide +kernel) ⟨Nat.le_of_ble_eq_true rfl, Nat.le_of_ble_eq_true rfl⟩) ⟨pcW_blind, va_recv hK hP (ci := 7) (q0 := 0) rfl rfl, pcW_pre hP hD hamb⟩ rfl rfl hl.1 rfl (lv_room (Nat.le_of_ble_eq_true rfl)) dX7_order_230 ⟨Nat.zero_le _, Nat.zero_le _⟩) (wr := []) hP hD hS hA [0, 1, 2, 3, 4, 5, 6, 7, 8] [] rfl rfl (by decide) (by decide) (fun r230 v230 H locs hw hP hD hS => ?_)
      have hf := bd2_2 hf hw
      have hP : va_P G.1 vwCl (modelC G.2 a v230) H := hP
      have hD : va_D A (modelC G.2 a v230) := hD
      refine lv_istore_n (lv' := [(3, .int r230), (0, .ref (a 0)), (1, .int x1)]) hx hb dX7_order_233 rfl hl (by decide) rfl (fun ls hl => ?_)
      refine lv_aload_n hx hb dX7_order_234 rfl (lv_at hl 1 rfl) ?_
      refine lv_aload_n hx hb dX7_order_235 rfl (lv_at hl 1 rfl) ?_
      have hn := bd2_1 hf hne
      refine cwi (va_runV (As := []) (rest := [.ref (a 0)]) ⟨hx, hb, hml, hown, hts⟩ (ok_X7_number l G a H.size v230 hn) (cwV 0 hts gX7_order_X7_number rfl rfl rfl (by decide +kernel) ⟨Nat.le_of_ble_eq_true rfl, Nat.le_of_ble_eq_true rfl⟩) ⟨pcW_blind, va_recv hK hP (ci := 7) (q0 := 0) rfl rfl, pcW_pre hP hD hamb⟩ rfl rfl hl.1 rfl (lv_room (Nat.le_of_ble_eq_true rfl)) dX7_order_236 ⟨Nat.zero_le _, Nat.zero_le _⟩) (wr := []) hP hD hS hA [0, 1, 2, 3, 4, 5, 6, 7, 8] [] rfl rfl (by decide) (by decide) (fun r236 v236 H locs hw hP hD hS => ?_)
      have hf := bd2_2 hf hw
      have hP : va_P G.1 vwCl (modelC G.2 a v236) H := hP
      have hD : va_D A (modelC G.2 a v236) := hD
      refine va_put (D := G.1) (ci := 7) (v := .int r236) (ty := .int) (C := RX7) (T := TX7) (N := 16) hx hb hts hinX7 tyX7 tyX7_ok nmX7 hown hK hP hD hS 0 rfl rfl 15 (by decide) lk179 (fun _ h9 => h9) rfl (by decide +kernel) rfl rfl (Nat.le_of_ble_eq_true rfl) dX7_order_239 (fun H locs hP hD hS => ?_)
      have hP : va_P G.1 vwCl (modelC G.2 a (vs v236 15 (fun _ => r236))) H := hP
      have hD : va_D A (modelC G.2 a (vs v236 15 (fun _ => r236))) := hD
      exact W.vret hx hb hr (fun t ht hW => ⟨⟨(vs v236 15 (fun _ => r236)), rfl, hf0.trans hf.symm, by rw [ht]; exact hP, hD⟩, hS.F ht⟩) hS.2.2 dX7_order_242
  have J173 : ∀ (v : DV) (x1 : Int32) (z0 : Int32) (H : Heap) (locs : List Loc) (ls : Array Slot), va_P G.1 vwCl (modelC G.2 a v) H → va_D A (modelC G.2 a v) → va_S A s.heap H locs → lv_has ls 4 [(0, .ref (a 0)), (1, .int x1)] → f_X7_order_J173 v x1 z0 = res → W p l e (headSpec wsX7_order ({ frames := 3, cells := 0, slots := 0, locals := 66 } : Room)).room s m ([.ref (a 0)] : List Value).toArray below meth c H locs 0 0 (MQ below (va_Qv (fun (u : DV) => f_X7_order v0 = some u) (fun u t => atW G (modelC G.2 a u) A t) A) ([.ref (a 0)] : List Value).toArray s 0 0 A) (F0 m 173 ls [.int z0, .ref (a 0)]) := by
    intro v x1 z0 H locs ls hP hD hS hl hf
    rw [f_X7_order_J173] at hf
    refine va_put (D := G.1) (ci := 7) (v := .int z0) (ty := .int) (C := RX7) (T := TX7) (N := 16) hx hb hts hinX7 tyX7 tyX7_ok nmX7 hown hK hP hD hS 0 rfl rfl 14 (by decide) lk176 (fun _ h9 => h9) rfl (by decide +kernel) rfl rfl (Nat.le_of_ble_eq_true rfl) dX7_order_173 (fun H locs hP hD hS => ?_)
    have hP : va_P G.1 vwCl (modelC G.2 a (vs v 14 (fun _ => z0))) H := hP
    have hD : va_D A (modelC G.2 a (vs v 14 (fun _ => z0))) := hD
    refine lv_aload_n hx hb dX7_order_176 rfl (lv_at hl 0 rfl) ?_
    refine lv_bipush (v := (-6)) hx hb dX7_order_177 (by decide) ?_
    refine va_put (D := G.1) (ci := 7) (v := .int (-6)) (ty := .int) (C := RX7) (T := TX7) (N := 16) hx hb hts hinX7 tyX7 tyX7_ok nmX7 hown hK hP hD hS 0 rfl rfl 15 (by decide) lk179 (fun _ h9 => h9) rfl (by decide +kernel) rfl rfl (Nat.le_of_ble_eq_true rfl) dX7_order_179 (fun H locs hP hD hS => ?_)
    have hP : va_P G.1 vwCl (modelC G.2 a (vs (vs v 14 (fun _ => z0)) 15 (fun _ => (-6)))) H := hP
    have hD : va_D A (modelC G.2 a (vs (vs v 14 (fun _ => z0)) 15 (fun _ => (-6)))) := hD
    refine lv_iload_n hx hb dX7_order_182 rfl (lv_at hl 1 rfl) ?_
    refine lv_bipush (v := 43) hx hb dX7_order_183 (by decide) ?_
    refine lv_icmp_ne (tgt := 219) hx hb dX7_order_185 (by decide) (fun c => ?_) (fun c => ?_)
    · have hf := it_2 hf c
      exact J219 (vs (vs v 14 (fun _ => z0)) 15 (fun _ => (-6))) x1 H locs ls hP hD hS (lv_sub hl [0, 1] rfl) hf
    · have hf := it_1 hf c
      refine lv_aload_n hx hb dX7_order_188 rfl (lv_at hl 0 rfl) ?_
      refine lv_bipush (v := 94) hx hb dX7_order_189 (by decide) ?_
      refine lv_bipush (v := 94) hx hb dX7_order_191 (by decide) ?_
      have hn := bd1_1 hf hne
      refine vp_callSi (W.runV (As := [.int 94, .int 94]) (rest := []) ⟨hx, hb, hml, hown, hts⟩ (ok_X7_isNext l G a (vs (vs v 14 (fun _ => z0)) 15 (fun _ => (-6))) 94 94 hn) (cwV 2 hts gX7_order_X7_isNext rfl rfl rfl (by decide +kernel) ⟨Nat.le_of_ble_eq_true rfl, Nat.le_of_ble_eq_true rfl⟩) ⟨pcR_blind, va_recv hK hP (ci := 7) (q0 := 0) rfl rfl, pcR_pre hP hamb⟩ rfl rfl hl.1 rfl (lv_room (Nat.le_of_ble_eq_true rfl)) dX7_order_193 ⟨Nat.zero_le _, Nat.zero_le _⟩) (fun r193 hw => ?_)
      have hf := bd1_2 hf hw
      refine lv_if_eq (tgt := 219) hx hb dX7_order_196 (by decide) (fun c => ?_) (fun c => ?_)
      · have hf := it_1 hf c
        exact J219 (vs (vs v 14 (fun _ => z0)) 15 (fun _ => (-6))) x1 H locs ls hP hD hS (lv_sub hl [0, 1] rfl) hf
      · have hf := it_2 hf c
        refine lv_aload_n hx hb dX7_order_199 rfl (lv_at hl 0 rfl) ?_
        refine lv_bipush (v := 94) hx hb dX7_order_200 (by decide) ?_
        refine lv_bipush (v := 94) hx hb dX7_order_202 (by decide) ?_
        have hn := bd2_1 hf hne
        refine cwi (va_runV (As := [.int 94, .int 94]) (rest := []) ⟨hx, hb, hml, hown, hts⟩ (ok_X7_sign l G a H.size (vs (vs v 14 (fun _ => z0)) 15 (fun _ => (-6))) 94 94 hn) (cwV 2 hts gX7_order_X7_sign rfl rfl rfl (by decide +kernel) ⟨Nat.le_of_ble_eq_true rfl, Nat.le_of_ble_eq_true rfl⟩) ⟨pcW_blind, va_recv hK hP (ci := 7) (q0 := 0) rfl rfl, pcW_pre hP hD hamb⟩ rfl rfl hl.1 rfl (lv_room (Nat.le_of_ble_eq_true rfl)) dX7_order_204 ⟨Nat.zero_le _, Nat.zero_le _⟩) (wr := []) hP hD hS hA [0, 1, 2, 3, 4, 5, 6, 7, 8] [] rfl rfl (by decide) (by decide) (fun r204 v204 H locs hw hP hD hS => ?_)
        have hf := bd2_2 hf hw
        have hP : va_P G.1 vwCl (modelC G.2 a v204) H := hP
        have hD : va_D A (modelC G.2 a v204) := hD
        refine lv_istore_n (lv' := [(3, .int r204), (0, .ref (a 0)), (1, .int x1)]) hx hb dX7_order_207 rfl hl (by decide) rfl (fun ls hl => ?_)
        refine lv_aload_n hx hb dX7_order_208 rfl (lv_at hl 1 rfl) ?_
        refine lv_aload_n hx hb dX7_order_209 rfl (lv_at hl 1 rfl) ?_
        have hn := bd2_1 hf hne
        refine cwi (va_runV (As := []) (rest := [.ref (a 0)]) ⟨hx, hb, hml, hown, hts⟩ (ok_X7_number l G a H.size v204 hn) (cwV 0 hts gX7_order_X7_number rfl rfl rfl (by decide +kernel) ⟨Nat.le_of_ble_eq_true rfl, Nat.le_of_ble_eq_true rfl⟩) ⟨pcW_blind, va_recv hK hP (ci := 7) (q0 := 0) rfl rfl, pcW_pre hP hD hamb⟩ rfl rfl hl.1 rfl (lv_room (Nat.le_of_ble_eq_true rfl)) dX7_order_210 ⟨Nat.zero_le _, Nat.zero_le _⟩) (wr := []) hP hD hS hA [0, 1, 2, 3, 4, 5, 6, 7, 8] [] rfl rfl (by decide) (by decide) (fun r210 v210 H locs hw hP hD hS => ?_)
        have hf := bd2_2 hf hw
        have hP : va_P G.1 vwCl (modelC G.2 a v210) H := hP
        have hD : va_D A (modelC G.2 a v210) := hD
        refine va_put (D := G.1) (ci := 7) (v := .int r210) (ty := .int) (C := RX7) (T := TX7) (N := 16) hx hb hts hinX7 tyX7 tyX7_ok nmX7 hown hK hP hD hS 0 rfl rfl 15 (by decide) lk179 (fun _ h9 => h9) rfl (by decide +kernel) rfl rfl (Nat.le_of_ble_eq_true rfl) dX7_order_213 (fun H locs hP hD hS => ?_)
        have hP : va_P G.1 vwCl (modelC G.2 a (vs v210 15 (fun _ => r210))) H := hP
        have hD : va_D A (modelC G.2 a (vs v210 15 (fun _ => r210))) := hD
        refine lv_goto (tgt := 242) hx hb dX7_order_216 (by decide) ?_
        exact W.vret hx hb hr (fun t ht hW => ⟨⟨(vs v210 15 (fun _ => r210)), rfl, hf0.trans hf.symm, by rw [ht]; exact hP, hD⟩, hS.F ht⟩) hS.2.2 dX7_order_242
  have J165 : ∀ (v : DV) (x1 : Int32) (H : Heap) (locs : List Loc) (ls : Array Slot), va_P G.1 vwCl (modelC G.2 a v) H → va_D A (modelC G.2 a v) → va_S A s.heap H locs → lv_has ls 4 [(0, .ref (a 0)), (1, .int x1)] → f_X7_order_J165 v x1 = res → W p l e (headSpec wsX7_order ({ frames := 3, cells := 0, slots := 0, locals := 66 } : Room)).room s m ([.ref (a 0)] : List Value).toArray below meth c H locs 0 0 (MQ below (va_Qv (fun (u : DV) => f_X7_order v0 = some u) (fun u t => atW G (modelC G.2 a u) A t) A) ([.ref (a 0)] : List Value).toArray s 0 0 A) (F0 m 165 ls [.ref (a 0)]) := by
    intro v x1 H locs ls hP hD hS hl hf
    rw [f_X7_order_J165] at hf
    refine lv_aload_n hx hb dX7_order_165 rfl (lv_at hl 0 rfl) ?_
    have hn := bd2_1 hf hne
    refine cwi (va_runV (As := []) (rest := [.ref (a 0)]) ⟨hx, hb, hml, hown, hts⟩ (ok_X7_number l G a H.size v hn) (cwV 0 hts gX7_order_X7_number rfl rfl rfl (by decide +kernel) ⟨Nat.le_of_ble_eq_true rfl, Nat.le_of_ble_eq_true rfl⟩) ⟨pcW_blind, va_recv hK hP (ci := 7) (q0 := 0) rfl rfl, pcW_pre hP hD hamb⟩ rfl rfl hl.1 rfl (lv_room (Nat.le_of_ble_eq_true rfl)) dX7_order_166 ⟨Nat.zero_le _, Nat.zero_le _⟩) (wr := []) hP hD hS hA [0, 1, 2, 3, 4, 5, 6, 7, 8] [] rfl rfl (by decide) (by decide) (fun r166 v166 H locs hw hP hD hS => ?_)
    have hf := bd2_2 hf hw
    have hP : va_P G.1 vwCl (modelC G.2 a v166) H := hP
    have hD : va_D A (modelC G.2 a v166) := hD
    refine lv_goto (tgt := 173) hx hb dX7_order_169 (by decide) ?_
    exact J173 v166 x1 r166 H locs ls hP hD hS (lv_sub hl [0, 1] rfl) hf
  have J151 : ∀ (v : DV) (x1 : Int32) (z0 : Int32) (H : Heap) (locs : List Loc) (ls : Array Slot), va_P G.1 vwCl (modelC G.2 a v) H → va_D A (modelC G.2 a v) → va_S A s.heap H locs → lv_has ls 4 [(0, .ref (a 0)), (1, .int x1)] → f_X7_order_J151 v x1 z0 = res → W p l e (headSpec wsX7_order ({ frames := 3, cells := 0, slots := 0, locals := 66 } : Room)).room s m ([.ref (a 0)] : List Value).toArray below meth c H locs 0 0 (MQ below (va_Qv (fun (u : DV) => f_X7_order v0 = some u) (fun u t => atW G (modelC G.2 a u) A t) A) ([.ref (a 0)] : List Value).toArray s 0 0 A) (F0 m 151 ls [.int z0]) := by
    intro v x1 z0 H locs ls hP hD hS hl hf
    rw [f_X7_order_J151] at hf
    refine lv_istore_n (lv' := [(3, .int z0), (0, .ref (a 0)), (1, .int x1)]) hx hb dX7_order_151 rfl hl (by decide) rfl (fun ls hl => ?_)
    refine lv_aload_n hx hb dX7_order_152 rfl (lv_at hl 1 rfl) ?_
    refine lv_iload_n hx hb dX7_order_153 rfl (lv_at hl 2 rfl) ?_
    refine lv_bipush (v := 43) hx hb dX7_order_154 (by decide) ?_
    refine lv_icmp_eq (tgt := 165) hx hb dX7_order_156 (by decide) (fun c => ?_) (fun c => ?_)
    · have hf := it_1 hf c
      exact J165 v x1 H locs ls hP hD hS (lv_sub hl [1, 2] rfl) hf
    · have hf := it_2 hf c
      refine lv_iload_n hx hb dX7_order_159 rfl (lv_at hl 2 rfl) ?_
      refine lv_bipush (v := 117) hx hb dX7_order_160 (by decide) ?_
      refine lv_icmp_ne (tgt := 172) hx hb dX7_order_162 (by decide) (fun c => ?_) (fun c => ?_)
      · have hf := it_2 hf c
        refine lv_iconst (v := 0) hx hb dX7_order_172 (by decide) ?_
        exact J173 v x1 0 H locs ls hP hD hS (lv_sub hl [1, 2] rfl) hf
      · have hf := it_1 hf c
        exact J165 v x1 H locs ls hP hD hS (lv_sub hl [1, 2] rfl) hf
  have J130 : ∀ (v : DV) (x1 : Int32) (z0 : Int32) (H : Heap) (locs : List Loc) (ls : Array Slot), va_P G.1 vwCl (modelC G.2 a v) H → va_D A (modelC G.2 a v) → va_S A s.heap H locs → lv_has ls 4 [(0, .ref (a 0)), (1, .int x1)] → f_X7_order_J130 v x1 z0 = res → W p l e (headSpec wsX7_order ({ frames := 3, cells := 0, slots := 0, locals := 66 } : Room)).room s m ([.ref (a 0)] : List Value).toArray below meth c H locs 0 0 (MQ below (va_Qv (fun (u : DV) => f_X7_order v0 = some u) (fun u t => atW G (modelC G.2 a u) A t) A) ([.ref (a 0)] : List Value).toArray s 0 0 A) (F0 m 130 ls [.int z0, .ref (a 0)]) := by
    intro v x1 z0 H locs ls hP hD hS hl hf
    rw [f_X7_order_J130] at hf
    refine va_put (D := G.1) (ci := 7) (v := .int z0) (ty := .int) (C := RX7) (T := TX7) (N := 16) hx hb hts hinX7 tyX7 tyX7_ok nmX7 hown hK hP hD hS 0 rfl rfl 13 (by decide) lk173 (fun _ h9 => h9) rfl (by decide +kernel) rfl rfl (Nat.le_of_ble_eq_true rfl) dX7_order_130 (fun H locs hP hD hS => ?_)
    have hP : va_P G.1 vwCl (modelC G.2 a (vs v 13 (fun _ => z0))) H := hP
    have hD : va_D A (modelC G.2 a (vs v 13 (fun _ => z0))) := hD
    refine lv_iload_n hx hb dX7_order_133 rfl (lv_at hl 1 rfl) ?_
    refine lv_bipush (v := 43) hx hb dX7_order_134 (by decide) ?_
    refine lv_icmp_ne (tgt := 150) hx hb dX7_order_136 (by decide) (fun c => ?_) (fun c => ?_)
    · have hf := it_2 hf c
      refine lv_iconst (v := 0) hx hb dX7_order_150 (by decide) ?_
      exact J151 (vs v 13 (fun _ => z0)) x1 0 H locs ls hP hD hS (lv_sub hl [0, 1] rfl) hf
    · have hf := it_1 hf c
      refine lv_aload_n hx hb dX7_order_139 rfl (lv_at hl 0 rfl) ?_
      refine lv_bipush (v := 58) hx hb dX7_order_140 (by decide) ?_
      refine lv_bipush (v := 58) hx hb dX7_order_142 (by decide) ?_
      have hn := bd2_1 hf hne
      refine cwi (va_runV (As := [.int 58, .int 58]) (rest := []) ⟨hx, hb, hml, hown, hts⟩ (ok_X7_sign l G a H.size (vs v 13 (fun _ => z0)) 58 58 hn) (cwV 2 hts gX7_order_X7_sign rfl rfl rfl (by decide +kernel) ⟨Nat.le_of_ble_eq_true rfl, Nat.le_of_ble_eq_true rfl⟩) ⟨pcW_blind, va_recv hK hP (ci := 7) (q0 := 0) rfl rfl, pcW_pre hP hD hamb⟩ rfl rfl hl.1 rfl (lv_room (Nat.le_of_ble_eq_true rfl)) dX7_order_144 ⟨Nat.zero_le _, Nat.zero_le _⟩) (wr := []) hP hD hS hA [0, 1, 2, 3, 4, 5, 6, 7, 8] [] rfl rfl (by decide) (by decide) (fun r144 v144 H locs hw hP hD hS => ?_)
      have hf := bd2_2 hf hw
      have hP : va_P G.1 vwCl (modelC G.2 a v144) H := hP
      have hD : va_D A (modelC G.2 a v144) := hD
      refine lv_goto (tgt := 151) hx hb dX7_order_147 (by decide) ?_
      exact J151 v144 x1 r144 H locs ls hP hD hS (lv_sub hl [0, 1] rfl) hf
  have J98 : ∀ (v : DV) (x1 : Int32) (x2 : Int32) (z0 : Int32) (z1 : Int32) (H : Heap) (locs : List Loc) (ls : Array Slot), va_P G.1 vwCl (modelC G.2 a v) H → va_D A (modelC G.2 a v) → va_S A s.heap H locs → lv_has ls 4 [(0, .ref (a 0)), (1, .int x1), (2, .int x2)] → f_X7_order_J98 v x1 x2 z0 z1 = res → W p l e (headSpec wsX7_order ({ frames := 3, cells := 0, slots := 0, locals := 66 } : Room)).room s m ([.ref (a 0)] : List Value).toArray below meth c H locs 0 0 (MQ below (va_Qv (fun (u : DV) => f_X7_order v0 = some u) (fun u t => atW G (modelC G.2 a u) A t) A) ([.ref (a 0)] : List Value).toArray s 0 0 A) (F0 m 98 ls [.int z0, .int z1, .ref (a 0)]) := by
    intro v x1 x2 z0 z1 H locs ls hP hD hS hl hf
    rw [f_X7_order_J98] at hf
    refine lv_iadd hx hb dX7_order_98 ?_
    refine va_put (D := G.1) (ci := 7) (v := .int (z1 + z0)) (ty := .int) (C := RX7) (T := TX7) (N := 16) hx hb hts hinX7 tyX7 tyX7_ok nmX7 hown hK hP hD hS 0 rfl rfl 10 (by decide) lk153 (fun _ h9 => h9) rfl (by decide +kernel) rfl rfl (Nat.le_of_ble_eq_true rfl) dX7_order_99 (fun H locs hP hD hS => ?_)
    have hP : va_P G.1 vwCl (modelC G.2 a (vs v 10 (fun _ => (z1 + z0)))) H := hP
    have hD : va_D A (modelC G.2 a (vs v 10 (fun _ => (z1 + z0)))) := hD
    refine lv_aload_n hx hb dX7_order_102 rfl (lv_at hl 0 rfl) ?_
    refine lv_iload_n hx hb dX7_order_103 rfl (lv_at hl 1 rfl) ?_
    refine va_put (D := G.1) (ci := 7) (v := .int x1) (ty := .int) (C := RX7) (T := TX7) (N := 16) hx hb hts hinX7 tyX7 tyX7_ok nmX7 hown hK hP hD hS 0 rfl rfl 12 (by decide) lk167 (fun _ h9 => h9) rfl (by decide +kernel) rfl rfl (Nat.le_of_ble_eq_true rfl) dX7_order_104 (fun H locs hP hD hS => ?_)
    have hP : va_P G.1 vwCl (modelC G.2 a (vs (vs v 10 (fun _ => (z1 + z0))) 12 (fun _ => x1))) H := hP
    have hD : va_D A (modelC G.2 a (vs (vs v 10 (fun _ => (z1 + z0))) 12 (fun _ => x1))) := hD
    refine lv_aload_n hx hb dX7_order_107 rfl (lv_at hl 0 rfl) ?_
    refine lv_iload_n hx hb dX7_order_108 rfl (lv_at hl 2 rfl) ?_
    refine lv_if_eq (tgt := 126) hx hb dX7_order_109 (by decide) (fun c => ?_) (fun c => ?_)
    · have hf := it_1 hf c
      refine lv_aload_n hx hb dX7_order_126 rfl (lv_at hl 0 rfl) ?_
      have hn := bd2_1 hf hne
      refine cwi (va_runV (As := []) (rest := [.ref (a 0)]) ⟨hx, hb, hml, hown, hts⟩ (ok_X7_number l G a H.size (vs (vs v 10 (fun _ => (z1 + z0))) 12 (fun _ => x1)) hn) (cwV 0 hts gX7_order_X7_number rfl rfl rfl (by decide +kernel) ⟨Nat.le_of_ble_eq_true rfl, Nat.le_of_ble_eq_true rfl⟩) ⟨pcW_blind, va_recv hK hP (ci := 7) (q0 := 0) rfl rfl, pcW_pre hP hD hamb⟩ rfl rfl hl.1 rfl (lv_room (Nat.le_of_ble_eq_true rfl)) dX7_order_127 ⟨Nat.zero_le _, Nat.zero_le _⟩) (wr := []) hP hD hS hA [0, 1, 2, 3, 4, 5, 6, 7, 8] [] rfl rfl (by decide) (by decide) (fun r127 v127 H locs hw hP hD hS => ?_)
      have hf := bd2_2 hf hw
      have hP : va_P G.1 vwCl (modelC G.2 a v127) H := hP
      have hD : va_D A (modelC G.2 a v127) := hD
      exact J130 v127 x1 r127 H locs ls hP hD hS (lv_sub hl [0, 1] rfl) hf
    · have hf := it_2 hf c
      refine lv_aload_n hx hb dX7_order_112 rfl (lv_at hl 0 rfl) ?_
      refine lv_bipush (v := 48) hx hb dX7_order_113 (by decide) ?_
      refine lv_bipush (v := 53) hx hb dX7_order_115 (by decide) ?_
      have hn := bd2_1 hf hne
      refine cwi (va_runV (As := [.int 48, .int 53]) (rest := [.ref (a 0)]) ⟨hx, hb, hml, hown, hts⟩ (ok_X7_sign l G a H.size (vs (vs v 10 (fun _ => (z1 + z0))) 12 (fun _ => x1)) 48 53 hn) (cwV 2 hts gX7_order_X7_sign rfl rfl rfl (by decide +kernel) ⟨Nat.le_of_ble_eq_true rfl, Nat.le_of_ble_eq_true rfl⟩) ⟨pcW_blind, va_recv hK hP (ci := 7) (q0 := 0) rfl rfl, pcW_pre hP hD hamb⟩ rfl rfl hl.1 rfl (lv_room (Nat.le_of_ble_eq_true rfl)) dX7_order_117 ⟨Nat.zero_le _, Nat.zero_le _⟩) (wr := []) hP hD hS hA [0, 1, 2, 3, 4, 5, 6, 7, 8] [] rfl rfl (by decide) (by decide) (fun r117 v117 H locs hw hP hD hS => ?_)
      have hf := bd2_2 hf hw
      have hP : va_P G.1 vwCl (modelC G.2 a v117) H := hP
      have hD : va_D A (modelC G.2 a v117) := hD
      refine lv_bipush (v := 48) hx hb dX7_order_120 (by decide) ?_
      refine lv_isub hx hb dX7_order_122 ?_
      refine lv_goto (tgt := 130) hx hb dX7_order_123 (by decide) ?_
      exact J130 v117 x1 (r117 - 48) H locs ls hP hD hS (lv_sub hl [0, 1] rfl) hf
  have J78 : ∀ (v : DV) (x1 : Int32) (x2 : Int32) (z0 : Int32) (H : Heap) (locs : List Loc) (ls : Array Slot), va_P G.1 vwCl (modelC G.2 a v) H → va_D A (modelC G.2 a v) → va_S A s.heap H locs → lv_has ls 4 [(0, .ref (a 0)), (1, .int x1), (2, .int x2)] → f_X7_order_J78 v x1 x2 z0 = res → W p l e (headSpec wsX7_order ({ frames := 3, cells := 0, slots := 0, locals := 66 } : Room)).room s m ([.ref (a 0)] : List Value).toArray below meth c H locs 0 0 (MQ below (va_Qv (fun (u : DV) => f_X7_order v0 = some u) (fun u t => atW G (modelC G.2 a u) A t) A) ([.ref (a 0)] : List Value).toArray s 0 0 A) (F0 m 78 ls [.int z0, .ref (a 0)]) := by
    intro v x1 x2 z0 H locs ls hP hD hS hl hf
    rw [f_X7_order_J78] at hf
    obtain ⟨hz, hf⟩ := ck_1 hf hne
    refine va_put (D := G.1) (ci := 7) (v := .int z0) (ty := .boolean) (C := RX7) (T := TX7) (N := 16) hx hb hts hinX7 tyX7 tyX7_ok nmX7 hown hK hP hD hS 0 rfl rfl 11 (by decide) lk156 (fun _ h9 => h9) rfl (by decide +kernel) (okZ_1 hz) (okZ_2 hz) (Nat.le_of_ble_eq_true rfl) dX7_order_78 (fun H locs hP hD hS => ?_)
    have hP : va_P G.1 vwCl (modelC G.2 a (vs v 11 (fun _ => z0))) H := hP
    have hD : va_D A (modelC G.2 a (vs v 11 (fun _ => z0))) := hD
    refine lv_aload_n hx hb dX7_order_81 rfl (lv_at hl 0 rfl) ?_
    refine lv_dup hx hb dX7_order_82 rfl ?_
    refine va_get (D := G.1) (ci := 7) (v := .int (v 10 0)) (C := RX7) (T := TX7) (N := 16) hx hb hts hinX7 hown hK hP 0 rfl rfl 10 (by decide) lk153 (fun _ h9 => h9) rfl dX7_order_83 ?_
    refine lv_aload_n hx hb dX7_order_86 rfl (lv_at hl 0 rfl) ?_
    refine va_get (D := G.1) (ci := 7) (v := .int z0) (C := RX7) (T := TX7) (N := 16) hx hb hts hinX7 hown hK hP 0 rfl rfl 11 (by decide) lk156 (fun _ h9 => h9) rfl dX7_order_87 ?_
    refine lv_if_eq (tgt := 97) hx hb dX7_order_90 (by decide) (fun c => ?_) (fun c => ?_)
    · have hf := it_1 hf c
      refine lv_iconst (v := 1) hx hb dX7_order_97 (by decide) ?_
      exact J98 (vs v 11 (fun _ => z0)) x1 x2 1 (v 10 0) H locs ls hP hD hS (lv_sub hl [0, 1, 2] rfl) hf
    · have hf := it_2 hf c
      refine lv_iconst (v := 0) hx hb dX7_order_93 (by decide) ?_
      refine lv_goto (tgt := 98) hx hb dX7_order_94 (by decide) ?_
      exact J98 (vs v 11 (fun _ => z0)) x1 x2 0 (v 10 0) H locs ls hP hD hS (lv_sub hl [0, 1, 2] rfl) hf
  have J73 : ∀ (v : DV) (x1 : Int32) (x2 : Int32) (H : Heap) (locs : List Loc) (ls : Array Slot), va_P G.1 vwCl (modelC G.2 a v) H → va_D A (modelC G.2 a v) → va_S A s.heap H locs → lv_has ls 4 [(0, .ref (a 0)), (1, .int x1), (2, .int x2)] → f_X7_order_J73 v x1 x2 = res → W p l e (headSpec wsX7_order ({ frames := 3, cells := 0, slots := 0, locals := 66 } : Room)).room s m ([.ref (a 0)] : List Value).toArray below meth c H locs 0 0 (MQ below (va_Qv (fun (u : DV) => f_X7_order v0 = some u) (fun u t => atW G (modelC G.2 a u) A t) A) ([.ref (a 0)] : List Value).toArray s 0 0 A) (F0 m 73 ls [.ref (a 0)]) := by
    intro v x1 x2 H locs ls hP hD hS hl hf
    rw [f_X7_order_J73] at hf
    refine lv_iconst (v := 1) hx hb dX7_order_73 (by decide) ?_
    refine lv_goto (tgt := 78) hx hb dX7_order_74 (by decide) ?_
    exact J78 v x1 x2 1 H locs ls hP hD hS (lv_sub hl [0, 1, 2] rfl) hf
  have J77 : ∀ (v : DV) (x1 : Int32) (x2 : Int32) (H : Heap) (locs : List Loc) (ls : Array Slot), va_P G.1 vwCl (modelC G.2 a v) H → va_D A (modelC G.2 a v) → va_S A s.heap H locs → lv_has ls 4 [(0, .ref (a 0)), (1, .int x1), (2, .int x2)] → f_X7_order_J77 v x1 x2 = res → W p l e (headSpec wsX7_order ({ frames := 3, cells := 0, slots := 0, locals := 66 } : Room)).room s m ([.ref (a 0)] : List Value).toArray below meth c H locs 0 0 (MQ below (va_Qv (fun (u : DV) => f_X7_order v0 = some u) (fun u t => atW G (modelC G.2 a u) A t) A) ([.ref (a 0)] : List Value).toArray s 0 0 A) (F0 m 77 ls [.ref (a 0)]) := by
    intro v x1 x2 H locs ls hP hD hS hl hf
    rw [f_X7_order_J77] at hf
    refine lv_iconst (v := 0) hx hb dX7_order_77 (by decide) ?_
    exact J78 v x1 x2 0 H locs ls hP hD hS (lv_sub hl [0, 1, 2] rfl) hf
  have J48 : ∀ (v : DV) (x1 : Int32) (z0 : Int32) (H : Heap) (locs : List Loc) (ls : Array Slot), va_P G.1 vwCl (modelC G.2 a v) H → va_D A (modelC G.2 a v) → va_S A s.heap H locs → lv_has ls 4 [(0, .ref (a 0)), (1, .int x1)] → f_X7_order_J48 v x1 z0 = res → W p l e (headSpec wsX7_order ({ frames := 3, cells := 0, slots := 0, locals := 66 } : Room)).room s m ([.ref (a 0)] : List Value).toArray below meth c H locs 0 0 (MQ below (va_Qv (fun (u : DV) => f_X7_order v0 = some u) (fun u t => atW G (modelC G.2 a u) A t) A) ([.ref (a 0)] : List Value).toArray s 0 0 A) (F0 m 48 ls [.int z0]) := by
    intro v x1 z0 H locs ls hP hD hS hl hf
    rw [f_X7_order_J48] at hf
    refine lv_istore_n (lv' := [(2, .int z0), (0, .ref (a 0)), (1, .int x1)]) hx hb dX7_order_48 rfl hl (by decide) rfl (fun ls hl => ?_)
    refine lv_aload_n hx hb dX7_order_49 rfl (lv_at hl 1 rfl) ?_
    refine lv_aload_n hx hb dX7_order_50 rfl (lv_at hl 1 rfl) ?_
    refine va_get (D := G.1) (ci := 7) (v := .int (v 11 0)) (C := RX7) (T := TX7) (N := 16) hx hb hts hinX7 hown hK hP 0 rfl rfl 11 (by decide) lk156 (fun _ h9 => h9) rfl dX7_order_51 ?_
    refine lv_if_ne (tgt := 73) hx hb dX7_order_54 (by decide) (fun c => ?_) (fun c => ?_)
    · have hf := it_2 hf c
      exact J73 v x1 z0 H locs ls hP hD hS (lv_sub hl [1, 2, 0] rfl) hf
    · have hf := it_1 hf c
      refine lv_iload_n hx hb dX7_order_57 rfl (lv_at hl 0 rfl) ?_
      refine lv_if_ne (tgt := 77) hx hb dX7_order_58 (by decide) (fun c => ?_) (fun c => ?_)
      · have hf := it_2 hf c
        exact J77 v x1 z0 H locs ls hP hD hS (lv_sub hl [1, 2, 0] rfl) hf
      · have hf := it_1 hf c
        refine lv_iload_n hx hb dX7_order_61 rfl (lv_at hl 2 rfl) ?_
        refine lv_bipush (v := 116) hx hb dX7_order_62 (by decide) ?_
        refine lv_icmp_eq (tgt := 77) hx hb dX7_order_64 (by decide) (fun c => ?_) (fun c => ?_)
        · have hf := it_1 hf c
          exact J77 v x1 z0 H locs ls hP hD hS (lv_sub hl [1, 2, 0] rfl) hf
        · have hf := it_2 hf c
          refine lv_iload_n hx hb dX7_order_67 rfl (lv_at hl 2 rfl) ?_
          refine lv_bipush (v := 98) hx hb dX7_order_68 (by decide) ?_
          refine lv_icmp_eq (tgt := 77) hx hb dX7_order_70 (by decide) (fun c => ?_) (fun c => ?_)
          · have hf := it_1 hf c
            exact J77 v x1 z0 H locs ls hP hD hS (lv_sub hl [1, 2, 0] rfl) hf
          · have hf := it_2 hf c
            exact J73 v x1 z0 H locs ls hP hD hS (lv_sub hl [1, 2, 0] rfl) hf
  have J43 : ∀ (v : DV) (x1 : Int32) (H : Heap) (locs : List Loc) (ls : Array Slot), va_P G.1 vwCl (modelC G.2 a v) H → va_D A (modelC G.2 a v) → va_S A s.heap H locs → lv_has ls 4 [(0, .ref (a 0)), (1, .int x1)] → f_X7_order_J43 v x1 = res → W p l e (headSpec wsX7_order ({ frames := 3, cells := 0, slots := 0, locals := 66 } : Room)).room s m ([.ref (a 0)] : List Value).toArray below meth c H locs 0 0 (MQ below (va_Qv (fun (u : DV) => f_X7_order v0 = some u) (fun u t => atW G (modelC G.2 a u) A t) A) ([.ref (a 0)] : List Value).toArray s 0 0 A) (F0 m 43 ls []) := by
    intro v x1 H locs ls hP hD hS hl hf
    rw [f_X7_order_J43] at hf
    refine lv_iconst (v := 1) hx hb dX7_order_43 (by decide) ?_
    refine lv_goto (tgt := 48) hx hb dX7_order_44 (by decide) ?_
    exact J48 v x1 1 H locs ls hP hD hS (lv_sub hl [0, 1] rfl) hf
  have J24 : ∀ (v : DV) (z0 : Int32) (H : Heap) (locs : List Loc) (ls : Array Slot), va_P G.1 vwCl (modelC G.2 a v) H → va_D A (modelC G.2 a v) → va_S A s.heap H locs → lv_has ls 4 [(0, .ref (a 0))] → f_X7_order_J24 v z0 = res → W p l e (headSpec wsX7_order ({ frames := 3, cells := 0, slots := 0, locals := 66 } : Room)).room s m ([.ref (a 0)] : List Value).toArray below meth c H locs 0 0 (MQ below (va_Qv (fun (u : DV) => f_X7_order v0 = some u) (fun u t => atW G (modelC G.2 a u) A t) A) ([.ref (a 0)] : List Value).toArray s 0 0 A) (F0 m 24 ls [.int z0]) := by
    intro v z0 H locs ls hP hD hS hl hf
    rw [f_X7_order_J24] at hf
    refine lv_istore_n (lv' := [(1, .int z0), (0, .ref (a 0))]) hx hb dX7_order_24 rfl hl (by decide) rfl (fun ls hl => ?_)
    refine lv_iload_n hx hb dX7_order_25 rfl (lv_at hl 0 rfl) ?_
    refine lv_bipush (v := 43) hx hb dX7_order_26 (by decide) ?_
    refine lv_icmp_eq (tgt := 43) hx hb dX7_order_28 (by decide) (fun c => ?_) (fun c => ?_)
    · have hf := it_1 hf c
      exact J43 v z0 H locs ls hP hD hS (lv_sub hl [1, 0] rfl) hf
    · have hf := it_2 hf c
      refine lv_iload_n hx hb dX7_order_31 rfl (lv_at hl 0 rfl) ?_
      refine lv_bipush (v := 107) hx hb dX7_order_32 (by decide) ?_
      refine lv_icmp_eq (tgt := 43) hx hb dX7_order_34 (by decide) (fun c => ?_) (fun c => ?_)
      · have hf := it_1 hf c
        exact J43 v z0 H locs ls hP hD hS (lv_sub hl [1, 0] rfl) hf
      · have hf := it_2 hf c
        refine lv_iload_n hx hb dX7_order_37 rfl (lv_at hl 0 rfl) ?_
        refine lv_bipush (v := 117) hx hb dX7_order_38 (by decide) ?_
        refine lv_icmp_ne (tgt := 47) hx hb dX7_order_40 (by decide) (fun c => ?_) (fun c => ?_)
        · have hf := it_2 hf c
          refine lv_iconst (v := 0) hx hb dX7_order_47 (by decide) ?_
          exact J48 v z0 0 H locs ls hP hD hS (lv_sub hl [1, 0] rfl) hf
        · have hf := it_1 hf c
          exact J43 v z0 H locs ls hP hD hS (lv_sub hl [1, 0] rfl) hf
  refine lv_aload_n hx hb dX7_order_0 rfl (lv_at hl 0 rfl) ?_
  refine va_get (D := G.1) (ci := 7) (v := .int (v0 10 0)) (C := RX7) (T := TX7) (N := 16) hx hb hts hinX7 hown hK hP 0 rfl rfl 10 (by decide) lk153 (fun _ h9 => h9) rfl dX7_order_1 ?_
  refine lv_aload_n hx hb dX7_order_4 rfl (lv_at hl 0 rfl) ?_
  refine va_get (D := G.1) (ci := 7) (v := .int (v0 9 0)) (C := RX7) (T := TX7) (N := 16) hx hb hts hinX7 hown hK hP 0 rfl rfl 7 (by decide) lk119 (fun _ h9 => h9) rfl dX7_order_5 ?_
  refine lv_icmp_ge (tgt := 23) hx hb dX7_order_8 (by decide) (fun c => ?_) (fun c => ?_)
  · have hf := it_1 hf c
    refine lv_iconst (v := 0) hx hb dX7_order_23 (by decide) ?_
    exact J24 v0 0 s.heap [] ls hP hD hS (lv_sub hl [0] rfl) hf
  · have hf := it_2 hf c
    refine lv_aload_n hx hb dX7_order_11 rfl (lv_at hl 0 rfl) ?_
    refine va_get (D := G.1) (ci := 7) (v := .ref (a 6)) (C := RX7) (T := TX7) (N := 16) hx hb hts hinX7 hown hK hP 0 rfl rfl 6 (by decide) lk26 (fun _ h9 => h9) rfl dX7_order_12 ?_
    refine lv_aload_n hx hb dX7_order_15 rfl (lv_at hl 0 rfl) ?_
    refine va_get (D := G.1) (ci := 7) (v := .int (v0 10 0)) (C := RX7) (T := TX7) (N := 16) hx hb hts hinX7 hown hK hP 0 rfl rfl 10 (by decide) lk153 (fun _ h9 => h9) rfl dX7_order_16 ?_
    obtain ⟨hi, hf⟩ := ck_1 hf hne
    refine va_iald (f := (v0 5)) hx hb hK hP 6 0 rfl rfl (ixb_1 hi) dX7_order_19 ?_
    refine lv_goto (tgt := 24) hx hb dX7_order_20 (by decide) ?_
    exact J24 v0 ((v0 5) (Int32.toNatClampNeg (v0 10 0))) s.heap [] ls hP hD hS (lv_sub hl [0] rfl) hf
set_option maxHeartbeats 4000000 in
set_option maxRecDepth 100000 in
theorem ok_X7_does (l : Launch) (G : Gt) (a : Nat → Nat) (sz : Nat) (n0 : Nat) (v0 : DV) (hne : f_X7_does n0 v0 ≠ none) : Met l yX7_does wsX7_does ({ frames := 5, cells := 0, slots := 0, locals := 110 } : Room) (pcW G [.ref (a 0)] (modelC G.2 a v0) sz) (va_Qi (fun r (u : DV) => f_X7_does n0 v0 = some (r, u)) (fun u t => atW G (modelC G.2 a u) (va_A (modelC G.2 a v0) sz) t) (va_A (modelC G.2 a v0) sz)) 0 0 (va_A (modelC G.2 a v0) sz) := by
  refine Met.ofW (cc := cX7_does) (maxL := 4) (ret := (some .boolean)) (by decide) rfl ?_
  intro p e s m args below meth c s₁ B hml hv
  obtain ⟨rfl, hsz, hP, hD0, hamb⟩ := hv
  have hx := B.exec
  have hb := B.bytes
  have hr := B.returns
  have hts := atoms_spec (ws := wsX7_does) B.pre
  have hown : s.vm.findClass RX7 = some m.cls := findClass_of_methodNamed B.named
  have hlocks := B.notSynchronized
  have hK := hamb.1
  subst hsz
  have hD := hD0.self (sz := s.heap.size)
  generalize hAe : va_A (modelC G.2 a v0) s.heap.size = A at hD ⊢
  have hA : ∀ q : Nat, s.heap.size ≤ q → A q := fun q h => by rw [← hAe]; exact Or.inr h
  have hS : va_S A s.heap s.heap [] := va_S.rf
  obtain ⟨res, hf0⟩ : ∃ res, f_X7_does n0 v0 = res := ⟨_, rfl⟩
  have hne : res ≠ none := hf0 ▸ hne
  have hf := hf0
  rw [f_X7_does] at hf
  have hinX7 : ∀ w ∈ u_ws RX7 TX7 16, w ∈ wsX7_does := by decide +kernel
  have lk167 := hts (.fieldLink RX7 167 "MoodDrawersModel" "letter" "I") (by decide +kernel)
  have lk173 := hts (.fieldLink RX7 173 "MoodDrawersModel" "one" "I") (by decide +kernel)
  have lk176 := hts (.fieldLink RX7 176 "MoodDrawersModel" "two" "I") (by decide +kernel)
  have lk179 := hts (.fieldLink RX7 179 "MoodDrawersModel" "three" "I") (by decide +kernel)
  have hl := lv_entry ([.ref (a 0)]) (n := 4) (Nat.le_of_ble_eq_true rfl)
  rw [lg_entry_eq]
  generalize (lg_sl ([.ref (a 0)]) ++ List.replicate (4 - (lg_sl ([.ref (a 0)])).length) Slot.unset).toArray = ls at hl ⊢
  have hl : lv_has ls 4 [(0, .ref (a 0))] := hl
  have J90 : ∀ (n : Nat) (v : DV) (x1 : Int32) (z0 : Int32) (H : Heap) (locs : List Loc) (ls : Array Slot), va_P G.1 vwCl (modelC G.2 a v) H → va_D A (modelC G.2 a v) → va_S A s.heap H locs → lv_has ls 4 [(0, .ref (a 0)), (1, .int x1)] → f_X7_does_J90 n v x1 z0 = res → W p l e (headSpec wsX7_does ({ frames := 5, cells := 0, slots := 0, locals := 110 } : Room)).room s m ([.ref (a 0)] : List Value).toArray below meth c H locs 0 0 (MQ below (va_Qi (fun r (u : DV) => f_X7_does n0 v0 = some (r, u)) (fun u t => atW G (modelC G.2 a u) A t) A) ([.ref (a 0)] : List Value).toArray s 0 0 A) (F0 m 90 ls [.int z0]) := by
    intro n v x1 z0 H locs ls hP hD hS hl hf
    rw [f_X7_does_J90] at hf
    refine lv_istore_n (lv' := [(2, .int z0), (0, .ref (a 0)), (1, .int x1)]) hx hb dX7_does_90 rfl hl (by decide) rfl (fun ls hl => ?_)
    refine lv_iload_n hx hb dX7_does_91 rfl (lv_at hl 0 rfl) ?_
    refine lv_if_ne (tgt := 188) hx hb dX7_does_92 (by decide) (fun c => ?_) (fun c => ?_)
    · have hf := it_2 hf c
      refine lv_iload_n hx hb dX7_does_188 rfl (lv_at hl 0 rfl) ?_
      refine lv_if_ne (tgt := 196) hx hb dX7_does_189 (by decide) (fun c => ?_) (fun c => ?_)
      · have hf := it_2 hf c
        refine lv_iconst (v := 0) hx hb dX7_does_196 (by decide) ?_
        exact W.zret (ty := .boolean) (v := 0) hx hb hr rfl (fun t ht hW => ⟨⟨0, v, rfl, hf0.trans hf.symm, by rw [ht]; exact hP, hD⟩, hS.F ht⟩) hS.2.2 dX7_does_197
      · have hf := it_1 hf c
        refine lv_iconst (v := 1) hx hb dX7_does_192 (by decide) ?_
        refine lv_goto (tgt := 197) hx hb dX7_does_193 (by decide) ?_
        exact W.zret (ty := .boolean) (v := 1) hx hb hr rfl (fun t ht hW => ⟨⟨1, v, rfl, hf0.trans hf.symm, by rw [ht]; exact hP, hD⟩, hS.F ht⟩) hS.2.2 dX7_does_197
    · have hf := it_1 hf c
      refine lv_iload_n hx hb dX7_does_95 rfl (lv_at hl 2 rfl) ?_
      refine lv_bipush (v := 43) hx hb dX7_does_96 (by decide) ?_
      refine lv_icmp_ne (tgt := 120) hx hb dX7_does_98 (by decide) (fun c => ?_) (fun c => ?_)
      · have hf := it_2 hf c
        refine lv_iload_n hx hb dX7_does_120 rfl (lv_at hl 2 rfl) ?_
        refine lv_bipush (v := 116) hx hb dX7_does_121 (by decide) ?_
        refine lv_icmp_ne (tgt := 137) hx hb dX7_does_123 (by decide) (fun c => ?_) (fun c => ?_)
        · have hf := it_2 hf c
          refine lv_iload_n hx hb dX7_does_137 rfl (lv_at hl 2 rfl) ?_
          refine lv_bipush (v := 98) hx hb dX7_does_138 (by decide) ?_
          refine lv_icmp_ne (tgt := 154) hx hb dX7_does_140 (by decide) (fun c => ?_) (fun c => ?_)
          · have hf := it_2 hf c
            refine lv_iload_n hx hb dX7_does_154 rfl (lv_at hl 2 rfl) ?_
            refine lv_bipush (v := 117) hx hb dX7_does_155 (by decide) ?_
            refine lv_icmp_ne (tgt := 179) hx hb dX7_does_157 (by decide) (fun c => ?_) (fun c => ?_)
            · have hf := it_2 hf c
              refine lv_aload_n hx hb dX7_does_179 rfl (lv_at hl 1 rfl) ?_
              refine lv_aload_n hx hb dX7_does_180 rfl (lv_at hl 1 rfl) ?_
              refine va_get (D := G.1) (ci := 7) (v := .int (v 13 0)) (C := RX7) (T := TX7) (N := 16) hx hb hts hinX7 hown hK hP 0 rfl rfl 13 (by decide) lk173 (fun _ h9 => h9) rfl dX7_does_181 ?_
              have hn := bd2_1 hf hne
              refine cwi (va_runV (As := [.int (v 13 0)]) (rest := []) ⟨hx, hb, hml, hown, hts⟩ (ok_X7_turns l G a H.size v (v 13 0) hn) (cwV 1 hts gX7_does_X7_turns rfl rfl rfl (by decide +kernel) ⟨Nat.le_of_ble_eq_true rfl, Nat.le_of_ble_eq_true rfl⟩) ⟨pcW_blind, va_recv hK hP (ci := 7) (q0 := 0) rfl rfl, pcW_pre hP hD hamb⟩ rfl rfl hl.1 rfl (lv_room (Nat.le_of_ble_eq_true rfl)) dX7_does_184 ⟨Nat.zero_le _, Nat.zero_le _⟩) (wr := []) hP hD hS hA [0, 1, 2, 3, 4, 5, 6, 7, 8] [] rfl rfl (by decide) (by decide) (fun r184 v184 H locs hw hP hD hS => ?_)
              have hf := bd2_2 hf hw
              have hP : va_P G.1 vwCl (modelC G.2 a v184) H := hP
              have hD : va_D A (modelC G.2 a v184) := hD
              refine lv_istore_n (lv' := [(3, .int r184), (2, .int z0), (0, .ref (a 0)), (1, .int x1)]) hx hb dX7_does_187 rfl hl (by decide) rfl (fun ls hl => ?_)
              refine lv_iload_n hx hb dX7_does_188 rfl (lv_at hl 1 rfl) ?_
              refine lv_if_ne (tgt := 196) hx hb dX7_does_189 (by decide) (fun c => ?_) (fun c => ?_)
              · have hf := it_2 hf c
                refine lv_iconst (v := 0) hx hb dX7_does_196 (by decide) ?_
                exact W.zret (ty := .boolean) (v := 0) hx hb hr rfl (fun t ht hW => ⟨⟨0, v184, rfl, hf0.trans hf.symm, by rw [ht]; exact hP, hD⟩, hS.F ht⟩) hS.2.2 dX7_does_197
              · have hf := it_1 hf c
                refine lv_iconst (v := 1) hx hb dX7_does_192 (by decide) ?_
                refine lv_goto (tgt := 197) hx hb dX7_does_193 (by decide) ?_
                exact W.zret (ty := .boolean) (v := 1) hx hb hr rfl (fun t ht hW => ⟨⟨1, v184, rfl, hf0.trans hf.symm, by rw [ht]; exact hP, hD⟩, hS.F ht⟩) hS.2.2 dX7_does_197
            · have hf := it_1 hf c
              refine lv_aload_n hx hb dX7_does_160 rfl (lv_at hl 1 rfl) ?_
              refine lv_aload_n hx hb dX7_does_161 rfl (lv_at hl 1 rfl) ?_
              refine va_get (D := G.1) (ci := 7) (v := .int (v 13 0)) (C := RX7) (T := TX7) (N := 16) hx hb hts hinX7 hown hK hP 0 rfl rfl 13 (by decide) lk173 (fun _ h9 => h9) rfl dX7_does_162 ?_
              refine lv_aload_n hx hb dX7_does_165 rfl (lv_at hl 1 rfl) ?_
              refine va_get (D := G.1) (ci := 7) (v := .int (v 14 0)) (C := RX7) (T := TX7) (N := 16) hx hb hts hinX7 hown hK hP 0 rfl rfl 14 (by decide) lk176 (fun _ h9 => h9) rfl dX7_does_166 ?_
              refine lv_aload_n hx hb dX7_does_169 rfl (lv_at hl 1 rfl) ?_
              refine va_get (D := G.1) (ci := 7) (v := .int (v 15 0)) (C := RX7) (T := TX7) (N := 16) hx hb hts hinX7 hown hK hP 0 rfl rfl 15 (by decide) lk179 (fun _ h9 => h9) rfl dX7_does_170 ?_
              have hn := bd2_1 hf hne
              refine cwi (va_runV (As := [.int (v 13 0), .int (v 14 0), .int (v 15 0)]) (rest := []) ⟨hx, hb, hml, hown, hts⟩ (ok_X7_putsHours l G a H.size v (v 13 0) (v 14 0) (v 15 0) hn) (cwV 3 hts gX7_does_X7_putsHours rfl rfl rfl (by decide +kernel) ⟨Nat.le_of_ble_eq_true rfl, Nat.le_of_ble_eq_true rfl⟩) ⟨pcW_blind, va_recv hK hP (ci := 7) (q0 := 0) rfl rfl, pcW_pre hP hD hamb⟩ rfl rfl hl.1 rfl (lv_room (Nat.le_of_ble_eq_true rfl)) dX7_does_173 ⟨Nat.zero_le _, Nat.zero_le _⟩) (wr := []) hP hD hS hA [0, 1, 2, 3, 4, 5, 6, 7, 8] [] rfl rfl (by decide) (by decide) (fun r173 v173 H locs hw hP hD hS => ?_)
              have hf := bd2_2 hf hw
              have hP : va_P G.1 vwCl (modelC G.2 a v173) H := hP
              have hD : va_D A (modelC G.2 a v173) := hD
              refine lv_goto (tgt := 187) hx hb dX7_does_176 (by decide) ?_
              refine lv_istore_n (lv' := [(3, .int r173), (2, .int z0), (0, .ref (a 0)), (1, .int x1)]) hx hb dX7_does_187 rfl hl (by decide) rfl (fun ls hl => ?_)
              refine lv_iload_n hx hb dX7_does_188 rfl (lv_at hl 1 rfl) ?_
              refine lv_if_ne (tgt := 196) hx hb dX7_does_189 (by decide) (fun c => ?_) (fun c => ?_)
              · have hf := it_2 hf c
                refine lv_iconst (v := 0) hx hb dX7_does_196 (by decide) ?_
                exact W.zret (ty := .boolean) (v := 0) hx hb hr rfl (fun t ht hW => ⟨⟨0, v173, rfl, hf0.trans hf.symm, by rw [ht]; exact hP, hD⟩, hS.F ht⟩) hS.2.2 dX7_does_197
              · have hf := it_1 hf c
                refine lv_iconst (v := 1) hx hb dX7_does_192 (by decide) ?_
                refine lv_goto (tgt := 197) hx hb dX7_does_193 (by decide) ?_
                exact W.zret (ty := .boolean) (v := 1) hx hb hr rfl (fun t ht hW => ⟨⟨1, v173, rfl, hf0.trans hf.symm, by rw [ht]; exact hP, hD⟩, hS.F ht⟩) hS.2.2 dX7_does_197
          · have hf := it_1 hf c
            refine lv_aload_n hx hb dX7_does_143 rfl (lv_at hl 1 rfl) ?_
            refine lv_aload_n hx hb dX7_does_144 rfl (lv_at hl 1 rfl) ?_
            refine va_get (D := G.1) (ci := 7) (v := .int (v 13 0)) (C := RX7) (T := TX7) (N := 16) hx hb hts hinX7 hown hK hP 0 rfl rfl 13 (by decide) lk173 (fun _ h9 => h9) rfl dX7_does_145 ?_
            have hn := bd2_1 hf hne
            refine cwi (va_runV (As := [.int (v 13 0)]) (rest := []) ⟨hx, hb, hml, hown, hts⟩ (ok_X7_burns l G a H.size v (v 13 0) hn) (cwV 1 hts gX7_does_X7_burns rfl rfl rfl (by decide +kernel) ⟨Nat.le_of_ble_eq_true rfl, Nat.le_of_ble_eq_true rfl⟩) ⟨pcW_blind, va_recv hK hP (ci := 7) (q0 := 0) rfl rfl, pcW_pre hP hD hamb⟩ rfl rfl hl.1 rfl (lv_room (Nat.le_of_ble_eq_true rfl)) dX7_does_148 ⟨Nat.zero_le _, Nat.zero_le _⟩) (wr := []) hP hD hS hA [0, 1, 2, 3, 4, 5, 6, 7, 8] [] rfl rfl (by decide) (by decide) (fun r148 v148 H locs hw hP hD hS => ?_)
            have hf := bd2_2 hf hw
            have hP : va_P G.1 vwCl (modelC G.2 a v148) H := hP
            have hD : va_D A (modelC G.2 a v148) := hD
            refine lv_goto (tgt := 187) hx hb dX7_does_151 (by decide) ?_
            refine lv_istore_n (lv' := [(3, .int r148), (2, .int z0), (0, .ref (a 0)), (1, .int x1)]) hx hb dX7_does_187 rfl hl (by decide) rfl (fun ls hl => ?_)
            refine lv_iload_n hx hb dX7_does_188 rfl (lv_at hl 1 rfl) ?_
            refine lv_if_ne (tgt := 196) hx hb dX7_does_189 (by decide) (fun c => ?_) (fun c => ?_)
            · have hf := it_2 hf c
              refine lv_iconst (v := 0) hx hb dX7_does_196 (by decide) ?_
              exact W.zret (ty := .boolean) (v := 0) hx hb hr rfl (fun t ht hW => ⟨⟨0, v148, rfl, hf0.trans hf.symm, by rw [ht]; exact hP, hD⟩, hS.F ht⟩) hS.2.2 dX7_does_197
            · have hf := it_1 hf c
              refine lv_iconst (v := 1) hx hb dX7_does_192 (by decide) ?_
              refine lv_goto (tgt := 197) hx hb dX7_does_193 (by decide) ?_
              exact W.zret (ty := .boolean) (v := 1) hx hb hr rfl (fun t ht hW => ⟨⟨1, v148, rfl, hf0.trans hf.symm, by rw [ht]; exact hP, hD⟩, hS.F ht⟩) hS.2.2 dX7_does_197
        · have hf := it_1 hf c
          refine lv_aload_n hx hb dX7_does_126 rfl (lv_at hl 1 rfl) ?_
          refine lv_aload_n hx hb dX7_does_127 rfl (lv_at hl 1 rfl) ?_
          refine va_get (D := G.1) (ci := 7) (v := .int (v 13 0)) (C := RX7) (T := TX7) (N := 16) hx hb hts hinX7 hown hK hP 0 rfl rfl 13 (by decide) lk173 (fun _ h9 => h9) rfl dX7_does_128 ?_
          have hn := bd2_1 hf hne
          refine cwi (va_runV (As := [.int (v 13 0)]) (rest := []) ⟨hx, hb, hml, hown, hts⟩ (ok_X7_passes l G a H.size n v (v 13 0) hn) (cwV 1 hts gX7_does_X7_passes rfl rfl rfl (by decide +kernel) ⟨Nat.le_of_ble_eq_true rfl, Nat.le_of_ble_eq_true rfl⟩) ⟨pcW_blind, va_recv hK hP (ci := 7) (q0 := 0) rfl rfl, pcW_pre hP hD hamb⟩ rfl rfl hl.1 rfl (lv_room (Nat.le_of_ble_eq_true rfl)) dX7_does_131 ⟨Nat.zero_le _, Nat.zero_le _⟩) (wr := []) hP hD hS hA [0, 1, 2, 3, 4, 5, 6, 7, 8] [] rfl rfl (by decide) (by decide) (fun r131 v131 H locs hw hP hD hS => ?_)
          have hf := bd2_2 hf hw
          have hP : va_P G.1 vwCl (modelC G.2 a v131) H := hP
          have hD : va_D A (modelC G.2 a v131) := hD
          refine lv_goto (tgt := 187) hx hb dX7_does_134 (by decide) ?_
          refine lv_istore_n (lv' := [(3, .int r131), (2, .int z0), (0, .ref (a 0)), (1, .int x1)]) hx hb dX7_does_187 rfl hl (by decide) rfl (fun ls hl => ?_)
          refine lv_iload_n hx hb dX7_does_188 rfl (lv_at hl 1 rfl) ?_
          refine lv_if_ne (tgt := 196) hx hb dX7_does_189 (by decide) (fun c => ?_) (fun c => ?_)
          · have hf := it_2 hf c
            refine lv_iconst (v := 0) hx hb dX7_does_196 (by decide) ?_
            exact W.zret (ty := .boolean) (v := 0) hx hb hr rfl (fun t ht hW => ⟨⟨0, v131, rfl, hf0.trans hf.symm, by rw [ht]; exact hP, hD⟩, hS.F ht⟩) hS.2.2 dX7_does_197
          · have hf := it_1 hf c
            refine lv_iconst (v := 1) hx hb dX7_does_192 (by decide) ?_
            refine lv_goto (tgt := 197) hx hb dX7_does_193 (by decide) ?_
            exact W.zret (ty := .boolean) (v := 1) hx hb hr rfl (fun t ht hW => ⟨⟨1, v131, rfl, hf0.trans hf.symm, by rw [ht]; exact hP, hD⟩, hS.F ht⟩) hS.2.2 dX7_does_197
      · have hf := it_1 hf c
        refine lv_aload_n hx hb dX7_does_101 rfl (lv_at hl 1 rfl) ?_
        refine lv_aload_n hx hb dX7_does_102 rfl (lv_at hl 1 rfl) ?_
        refine va_get (D := G.1) (ci := 7) (v := .int (v 13 0)) (C := RX7) (T := TX7) (N := 16) hx hb hts hinX7 hown hK hP 0 rfl rfl 13 (by decide) lk173 (fun _ h9 => h9) rfl dX7_does_103 ?_
        refine lv_aload_n hx hb dX7_does_106 rfl (lv_at hl 1 rfl) ?_
        refine va_get (D := G.1) (ci := 7) (v := .int (v 14 0)) (C := RX7) (T := TX7) (N := 16) hx hb hts hinX7 hown hK hP 0 rfl rfl 14 (by decide) lk176 (fun _ h9 => h9) rfl dX7_does_107 ?_
        refine lv_aload_n hx hb dX7_does_110 rfl (lv_at hl 1 rfl) ?_
        refine va_get (D := G.1) (ci := 7) (v := .int (v 15 0)) (C := RX7) (T := TX7) (N := 16) hx hb hts hinX7 hown hK hP 0 rfl rfl 15 (by decide) lk179 (fun _ h9 => h9) rfl dX7_does_111 ?_
        have hn := bd2_1 hf hne
        refine cwi (va_runV (As := [.int (v 13 0), .int (v 14 0), .int (v 15 0)]) (rest := []) ⟨hx, hb, hml, hown, hts⟩ (ok_X7_writes l G a H.size v (v 13 0) (v 14 0) (v 15 0) hn) (cwV 3 hts gX7_does_X7_writes rfl rfl rfl (by decide +kernel) ⟨Nat.le_of_ble_eq_true rfl, Nat.le_of_ble_eq_true rfl⟩) ⟨pcW_blind, va_recv hK hP (ci := 7) (q0 := 0) rfl rfl, pcW_pre hP hD hamb⟩ rfl rfl hl.1 rfl (lv_room (Nat.le_of_ble_eq_true rfl)) dX7_does_114 ⟨Nat.zero_le _, Nat.zero_le _⟩) (wr := []) hP hD hS hA [0, 1, 2, 3, 4, 5, 6, 7, 8] [] rfl rfl (by decide) (by decide) (fun r114 v114 H locs hw hP hD hS => ?_)
        have hf := bd2_2 hf hw
        have hP : va_P G.1 vwCl (modelC G.2 a v114) H := hP
        have hD : va_D A (modelC G.2 a v114) := hD
        refine lv_goto (tgt := 187) hx hb dX7_does_117 (by decide) ?_
        refine lv_istore_n (lv' := [(3, .int r114), (2, .int z0), (0, .ref (a 0)), (1, .int x1)]) hx hb dX7_does_187 rfl hl (by decide) rfl (fun ls hl => ?_)
        refine lv_iload_n hx hb dX7_does_188 rfl (lv_at hl 1 rfl) ?_
        refine lv_if_ne (tgt := 196) hx hb dX7_does_189 (by decide) (fun c => ?_) (fun c => ?_)
        · have hf := it_2 hf c
          refine lv_iconst (v := 0) hx hb dX7_does_196 (by decide) ?_
          exact W.zret (ty := .boolean) (v := 0) hx hb hr rfl (fun t ht hW => ⟨⟨0, v114, rfl, hf0.trans hf.symm, by rw [ht]; exact hP, hD⟩, hS.F ht⟩) hS.2.2 dX7_does_197
        · have hf := it_1 hf c
          refine lv_iconst (v := 1) hx hb dX7_does_192 (by decide) ?_
          refine lv_goto (tgt := 197) hx hb dX7_does_193 (by decide) ?_
          exact W.zret (ty := .boolean) (v := 1) hx hb hr rfl (fun t ht hW => ⟨⟨1, v114, rfl, hf0.trans hf.symm, by rw [ht]; exact hP, hD⟩, hS.F ht⟩) hS.2.2 dX7_does_197
  refine lv_aload_n hx hb dX7_does_0 rfl (lv_at hl 0 rfl) ?_
  refine va_get (D := G.1) (ci := 7) (v := .int (v0 12 0)) (C := RX7) (T := TX7) (N := 16) hx hb hts hinX7 hown hK hP 0 rfl rfl 12 (by decide) lk167 (fun _ h9 => h9) rfl dX7_does_1 ?_
  refine lv_istore_n (lv' := [(1, .int (v0 12 0)), (0, .ref (a 0))]) hx hb dX7_does_4 rfl hl (by decide) rfl (fun ls hl => ?_)
  refine lv_iload_n hx hb dX7_does_5 rfl (lv_at hl 0 rfl) ?_
  refine lv_bipush (v := 43) hx hb dX7_does_6 (by decide) ?_
  refine lv_icmp_ne (tgt := 30) hx hb dX7_does_8 (by decide) (fun c => ?_) (fun c => ?_)
  · have hf := it_2 hf c
    refine lv_iload_n hx hb dX7_does_30 rfl (lv_at hl 0 rfl) ?_
    refine lv_bipush (v := 116) hx hb dX7_does_31 (by decide) ?_
    refine lv_icmp_ne (tgt := 47) hx hb dX7_does_33 (by decide) (fun c => ?_) (fun c => ?_)
    · have hf := it_2 hf c
      refine lv_iload_n hx hb dX7_does_47 rfl (lv_at hl 0 rfl) ?_
      refine lv_bipush (v := 98) hx hb dX7_does_48 (by decide) ?_
      refine lv_icmp_ne (tgt := 64) hx hb dX7_does_50 (by decide) (fun c => ?_) (fun c => ?_)
      · have hf := it_2 hf c
        refine lv_iload_n hx hb dX7_does_64 rfl (lv_at hl 0 rfl) ?_
        refine lv_bipush (v := 117) hx hb dX7_does_65 (by decide) ?_
        refine lv_icmp_ne (tgt := 89) hx hb dX7_does_67 (by decide) (fun c => ?_) (fun c => ?_)
        · have hf := it_2 hf c
          refine lv_iconst (v := 0) hx hb dX7_does_89 (by decide) ?_
          exact J90 n0 v0 (v0 12 0) 0 s.heap [] ls hP hD hS (lv_sub hl [1, 0] rfl) hf
        · have hf := it_1 hf c
          refine lv_aload_n hx hb dX7_does_70 rfl (lv_at hl 1 rfl) ?_
          refine lv_aload_n hx hb dX7_does_71 rfl (lv_at hl 1 rfl) ?_
          refine va_get (D := G.1) (ci := 7) (v := .int (v0 13 0)) (C := RX7) (T := TX7) (N := 16) hx hb hts hinX7 hown hK hP 0 rfl rfl 13 (by decide) lk173 (fun _ h9 => h9) rfl dX7_does_72 ?_
          refine lv_aload_n hx hb dX7_does_75 rfl (lv_at hl 1 rfl) ?_
          refine va_get (D := G.1) (ci := 7) (v := .int (v0 14 0)) (C := RX7) (T := TX7) (N := 16) hx hb hts hinX7 hown hK hP 0 rfl rfl 14 (by decide) lk176 (fun _ h9 => h9) rfl dX7_does_76 ?_
          refine lv_aload_n hx hb dX7_does_79 rfl (lv_at hl 1 rfl) ?_
          refine va_get (D := G.1) (ci := 7) (v := .int (v0 15 0)) (C := RX7) (T := TX7) (N := 16) hx hb hts hinX7 hown hK hP 0 rfl rfl 15 (by decide) lk179 (fun _ h9 => h9) rfl dX7_does_80 ?_
          refine vp_callSi (W.runV (As := [.int (v0 13 0), .int (v0 14 0), .int (v0 15 0)]) (rest := []) ⟨hx, hb, hml, hown, hts⟩ (ok_X7_hoursFault l G a v0 (v0 13 0) (v0 14 0) (v0 15 0)) (cwV 3 hts gX7_does_X7_hoursFault rfl rfl rfl (by decide +kernel) ⟨Nat.le_of_ble_eq_true rfl, Nat.le_of_ble_eq_true rfl⟩) ⟨pcR_blind, va_recv hK hP (ci := 7) (q0 := 0) rfl rfl, pcR_pre hP hamb⟩ rfl rfl hl.1 rfl (lv_room (Nat.le_of_ble_eq_true rfl)) dX7_does_83 ⟨Nat.zero_le _, Nat.zero_le _⟩) (fun r83 hw => ?_)
          subst hw
          refine lv_goto (tgt := 90) hx hb dX7_does_86 (by decide) ?_
          exact J90 n0 v0 (v0 12 0) (f_X7_hoursFault v0 (v0 13 0) (v0 14 0) (v0 15 0)) s.heap [] ls hP hD hS (lv_sub hl [1, 0] rfl) hf
      · have hf := it_1 hf c
        refine lv_aload_n hx hb dX7_does_53 rfl (lv_at hl 1 rfl) ?_
        refine lv_aload_n hx hb dX7_does_54 rfl (lv_at hl 1 rfl) ?_
        refine va_get (D := G.1) (ci := 7) (v := .int (v0 13 0)) (C := RX7) (T := TX7) (N := 16) hx hb hts hinX7 hown hK hP 0 rfl rfl 13 (by decide) lk173 (fun _ h9 => h9) rfl dX7_does_55 ?_
        have hn := bd1_1 hf hne
        refine vp_callSi (W.runV (As := [.int (v0 13 0)]) (rest := []) ⟨hx, hb, hml, hown, hts⟩ (ok_X7_burnFault l G a v0 (v0 13 0) hn) (cwV 1 hts gX7_does_X7_burnFault rfl rfl rfl (by decide +kernel) ⟨Nat.le_of_ble_eq_true rfl, Nat.le_of_ble_eq_true rfl⟩) ⟨pcR_blind, va_recv hK hP (ci := 7) (q0 := 0) rfl rfl, pcR_pre hP hamb⟩ rfl rfl hl.1 rfl (lv_room (Nat.le_of_ble_eq_true rfl)) dX7_does_58 ⟨Nat.zero_le _, Nat.zero_le _⟩) (fun r58 hw => ?_)
        have hf := bd1_2 hf hw
        refine lv_goto (tgt := 90) hx hb dX7_does_61 (by decide) ?_
        exact J90 n0 v0 (v0 12 0) r58 s.heap [] ls hP hD hS (lv_sub hl [1, 0] rfl) hf
    · have hf := it_1 hf c
      refine lv_aload_n hx hb dX7_does_36 rfl (lv_at hl 1 rfl) ?_
      refine lv_aload_n hx hb dX7_does_37 rfl (lv_at hl 1 rfl) ?_
      refine va_get (D := G.1) (ci := 7) (v := .int (v0 13 0)) (C := RX7) (T := TX7) (N := 16) hx hb hts hinX7 hown hK hP 0 rfl rfl 13 (by decide) lk173 (fun _ h9 => h9) rfl dX7_does_38 ?_
      have hn := bd1_1 hf hne
      refine vp_callSi (W.runV (As := [.int (v0 13 0)]) (rest := []) ⟨hx, hb, hml, hown, hts⟩ (ok_X7_passFault l G a v0 (v0 13 0) hn) (cwV 1 hts gX7_does_X7_passFault rfl rfl rfl (by decide +kernel) ⟨Nat.le_of_ble_eq_true rfl, Nat.le_of_ble_eq_true rfl⟩) ⟨pcR_blind, va_recv hK hP (ci := 7) (q0 := 0) rfl rfl, pcR_pre hP hamb⟩ rfl rfl hl.1 rfl (lv_room (Nat.le_of_ble_eq_true rfl)) dX7_does_41 ⟨Nat.zero_le _, Nat.zero_le _⟩) (fun r41 hw => ?_)
      have hf := bd1_2 hf hw
      refine lv_goto (tgt := 90) hx hb dX7_does_44 (by decide) ?_
      exact J90 n0 v0 (v0 12 0) r41 s.heap [] ls hP hD hS (lv_sub hl [1, 0] rfl) hf
  · have hf := it_1 hf c
    refine lv_aload_n hx hb dX7_does_11 rfl (lv_at hl 1 rfl) ?_
    refine lv_aload_n hx hb dX7_does_12 rfl (lv_at hl 1 rfl) ?_
    refine va_get (D := G.1) (ci := 7) (v := .int (v0 13 0)) (C := RX7) (T := TX7) (N := 16) hx hb hts hinX7 hown hK hP 0 rfl rfl 13 (by decide) lk173 (fun _ h9 => h9) rfl dX7_does_13 ?_
    refine lv_aload_n hx hb dX7_does_16 rfl (lv_at hl 1 rfl) ?_
    refine va_get (D := G.1) (ci := 7) (v := .int (v0 14 0)) (C := RX7) (T := TX7) (N := 16) hx hb hts hinX7 hown hK hP 0 rfl rfl 14 (by decide) lk176 (fun _ h9 => h9) rfl dX7_does_17 ?_
    refine lv_aload_n hx hb dX7_does_20 rfl (lv_at hl 1 rfl) ?_
    refine va_get (D := G.1) (ci := 7) (v := .int (v0 15 0)) (C := RX7) (T := TX7) (N := 16) hx hb hts hinX7 hown hK hP 0 rfl rfl 15 (by decide) lk179 (fun _ h9 => h9) rfl dX7_does_21 ?_
    have hn := bd1_1 hf hne
    refine vp_callSi (W.runV (As := [.int (v0 13 0), .int (v0 14 0), .int (v0 15 0)]) (rest := []) ⟨hx, hb, hml, hown, hts⟩ (ok_X7_writeFault l G a n0 v0 (v0 13 0) (v0 14 0) (v0 15 0) hn) (cwV 3 hts gX7_does_X7_writeFault rfl rfl rfl (by decide +kernel) ⟨Nat.le_of_ble_eq_true rfl, Nat.le_of_ble_eq_true rfl⟩) ⟨pcR_blind, va_recv hK hP (ci := 7) (q0 := 0) rfl rfl, pcR_pre hP hamb⟩ rfl rfl hl.1 rfl (lv_room (Nat.le_of_ble_eq_true rfl)) dX7_does_24 ⟨Nat.zero_le _, Nat.zero_le _⟩) (fun r24 hw => ?_)
    have hf := bd1_2 hf hw
    refine lv_goto (tgt := 90) hx hb dX7_does_27 (by decide) ?_
    exact J90 n0 v0 (v0 12 0) r24 s.heap [] ls hP hD hS (lv_sub hl [1, 0] rfl) hf
set_option maxHeartbeats 4000000 in
set_option maxRecDepth 100000 in
theorem ok_X7_go (l : Launch) (G : Gt) (a : Nat → Nat) (sz : Nat) (n0 : Nat) (v0 : DV) (p1 : Int32) (hne : f_X7_go n0 v0 p1 ≠ none) : Met l yX7_go wsX7_go ({ frames := 6, cells := 0, slots := 0, locals := 133 } : Room) (pcW G [.ref (a 0), .int p1] (modelC G.2 a v0) sz) (va_Qi (fun r (u : DV) => f_X7_go n0 v0 p1 = some (r, u)) (fun u t => atW G (modelC G.2 a u) (va_A (modelC G.2 a v0) sz) t) (va_A (modelC G.2 a v0) sz)) 0 0 (va_A (modelC G.2 a v0) sz) := by
  refine Met.ofW (cc := cX7_go) (maxL := 6) (ret := (some .int)) (by decide) rfl ?_
  intro p e s m args below meth c s₁ B hml hv
  obtain ⟨rfl, hsz, hP, hD0, hamb⟩ := hv
  have hx := B.exec
  have hb := B.bytes
  have hr := B.returns
  have hts := atoms_spec (ws := wsX7_go) B.pre
  have hown : s.vm.findClass RX7 = some m.cls := findClass_of_methodNamed B.named
  have hlocks := B.notSynchronized
  have hK := hamb.1
  subst hsz
  have hD := hD0.self (sz := s.heap.size)
  generalize hAe : va_A (modelC G.2 a v0) s.heap.size = A at hD ⊢
  have hA : ∀ q : Nat, s.heap.size ≤ q → A q := fun q h => by rw [← hAe]; exact Or.inr h
  have hS : va_S A s.heap s.heap [] := va_S.rf
  obtain ⟨res, hf0⟩ : ∃ res, f_X7_go n0 v0 p1 = res := ⟨_, rfl⟩
  have hne : res ≠ none := hf0 ▸ hne
  have hf := hf0
  rw [f_X7_go] at hf
  have hinX7 : ∀ w ∈ u_ws RX7 TX7 16, w ∈ wsX7_go := by decide +kernel
  have lk153 := hts (.fieldLink RX7 153 "MoodDrawersModel" "place" "I") (by decide +kernel)
  have lk156 := hts (.fieldLink RX7 156 "MoodDrawersModel" "isWrong" "Z") (by decide +kernel)
  have lk119 := hts (.fieldLink RX7 119 "MoodDrawersModel" "length" "I") (by decide +kernel)
  have hl := lv_entry ([.ref (a 0), .int p1]) (n := 6) (Nat.le_of_ble_eq_true rfl)
  rw [lg_entry_eq]
  generalize (lg_sl ([.ref (a 0), .int p1]) ++ List.replicate (6 - (lg_sl ([.ref (a 0), .int p1])).length) Slot.unset).toArray = ls at hl ⊢
  have hl : lv_has ls 6 [(0, .ref (a 0)), (1, .int p1)] := hl
  have J85 : ∀ (k14 : DV → Int32 → Int32 → Int32 → Option (Int32 × DV)) (hk14 : ∀ (v : DV) (x1 : Int32) (x2 : Int32) (x3 : Int32) (H : Heap) (locs : List Loc) (ls : Array Slot), va_P G.1 vwCl (modelC G.2 a v) H → va_D A (modelC G.2 a v) → va_S A s.heap H locs → lv_has ls 6 [(0, .ref (a 0)), (1, .int x1), (2, .int x2), (3, .int x3)] → k14 v x1 x2 x3 = res → W p l e (headSpec wsX7_go ({ frames := 6, cells := 0, slots := 0, locals := 133 } : Room)).room s m ([.ref (a 0), .int p1] : List Value).toArray below meth c H locs 0 0 (MQ below (va_Qi (fun r (u : DV) => f_X7_go n0 v0 p1 = some (r, u)) (fun u t => atW G (modelC G.2 a u) A t) A) ([.ref (a 0), .int p1] : List Value).toArray s 0 0 A) (F0 m 14 ls [])) (n : Nat) (v : DV) (x1 : Int32) (x2 : Int32) (z0 : Int32) (H : Heap) (locs : List Loc) (ls : Array Slot), va_P G.1 vwCl (modelC G.2 a v) H → va_D A (modelC G.2 a v) → va_S A s.heap H locs → lv_has ls 6 [(0, .ref (a 0)), (1, .int x1), (2, .int x2)] → f_X7_go_J85 k14 n v x1 x2 z0 = res → W p l e (headSpec wsX7_go ({ frames := 6, cells := 0, slots := 0, locals := 133 } : Room)).room s m ([.ref (a 0), .int p1] : List Value).toArray below meth c H locs 0 0 (MQ below (va_Qi (fun r (u : DV) => f_X7_go n0 v0 p1 = some (r, u)) (fun u t => atW G (modelC G.2 a u) A t) A) ([.ref (a 0), .int p1] : List Value).toArray s 0 0 A) (F0 m 85 ls [.int z0]) := by
    intro k14 hk14 n v x1 x2 z0 H locs ls hP hD hS hl hf
    rw [f_X7_go_J85] at hf
    refine lv_istore_n (lv' := [(3, .int z0), (0, .ref (a 0)), (1, .int x1), (2, .int x2)]) hx hb dX7_go_85 rfl hl (by decide) rfl (fun ls hl => ?_)
    refine lv_iload_n hx hb dX7_go_86 rfl (lv_at hl 0 rfl) ?_
    refine lv_if_eq (tgt := 113) hx hb dX7_go_87 (by decide) (fun c => ?_) (fun c => ?_)
    · have hf := it_1 hf c
      refine lv_goto (tgt := 14) hx hb dX7_go_113 (by decide) ?_
      exact hk14 v x1 x2 z0 H locs ls hP hD hS (lv_sub hl [1, 2, 3, 0] rfl) hf
    · have hf := it_2 hf c
      refine lv_aload_n hx hb dX7_go_90 rfl (lv_at hl 1 rfl) ?_
      refine lv_bipush (v := 59) hx hb dX7_go_91 (by decide) ?_
      refine lv_bipush (v := 59) hx hb dX7_go_93 (by decide) ?_
      have hn := bd2_1 hf hne
      refine cwi (va_runV (As := [.int 59, .int 59]) (rest := []) ⟨hx, hb, hml, hown, hts⟩ (ok_X7_sign l G a H.size v 59 59 hn) (cwV 2 hts gX7_go_X7_sign rfl rfl rfl (by decide +kernel) ⟨Nat.le_of_ble_eq_true rfl, Nat.le_of_ble_eq_true rfl⟩) ⟨pcW_blind, va_recv hK hP (ci := 7) (q0 := 0) rfl rfl, pcW_pre hP hD hamb⟩ rfl rfl hl.1 rfl (lv_room (Nat.le_of_ble_eq_true rfl)) dX7_go_95 ⟨Nat.zero_le _, Nat.zero_le _⟩) (wr := []) hP hD hS hA [0, 1, 2, 3, 4, 5, 6, 7, 8] [] rfl rfl (by decide) (by decide) (fun r95 v95 H locs hw hP hD hS => ?_)
      have hf := bd2_2 hf hw
      have hP : va_P G.1 vwCl (modelC G.2 a v95) H := hP
      have hD : va_D A (modelC G.2 a v95) := hD
      refine lv_istore (lv' := [(5, .int r95), (3, .int z0), (0, .ref (a 0)), (1, .int x1), (2, .int x2)]) hx hb dX7_go_98 hl (by decide) rfl (fun ls hl => ?_)
      refine lv_aload_n hx hb dX7_go_100 rfl (lv_at hl 2 rfl) ?_
      refine va_get (D := G.1) (ci := 7) (v := .int (v95 11 0)) (C := RX7) (T := TX7) (N := 16) hx hb hts hinX7 hown hK hP 0 rfl rfl 11 (by decide) lk156 (fun _ h9 => h9) rfl dX7_go_101 ?_
      refine lv_if_ne (tgt := 111) hx hb dX7_go_104 (by decide) (fun c => ?_) (fun c => ?_)
      · have hf := it_2 hf c
        refine lv_iconst (v := 0) hx hb dX7_go_111 (by decide) ?_
        refine lv_istore_n (lv' := [(3, .int 0), (5, .int r95), (0, .ref (a 0)), (1, .int x1), (2, .int x2)]) hx hb dX7_go_112 rfl hl (by decide) rfl (fun ls hl => ?_)
        refine lv_goto (tgt := 14) hx hb dX7_go_113 (by decide) ?_
        exact hk14 v95 x1 x2 0 H locs ls hP hD hS (lv_sub hl [2, 3, 4, 0] rfl) hf
      · have hf := it_1 hf c
        refine lv_iconst (v := 1) hx hb dX7_go_107 (by decide) ?_
        refine lv_goto (tgt := 112) hx hb dX7_go_108 (by decide) ?_
        refine lv_istore_n (lv' := [(3, .int 1), (5, .int r95), (0, .ref (a 0)), (1, .int x1), (2, .int x2)]) hx hb dX7_go_112 rfl hl (by decide) rfl (fun ls hl => ?_)
        refine lv_goto (tgt := 14) hx hb dX7_go_113 (by decide) ?_
        exact hk14 v95 x1 x2 1 H locs ls hP hD hS (lv_sub hl [2, 3, 4, 0] rfl) hf
  have J84 : ∀ (k14 : DV → Int32 → Int32 → Int32 → Option (Int32 × DV)) (hk14 : ∀ (v : DV) (x1 : Int32) (x2 : Int32) (x3 : Int32) (H : Heap) (locs : List Loc) (ls : Array Slot), va_P G.1 vwCl (modelC G.2 a v) H → va_D A (modelC G.2 a v) → va_S A s.heap H locs → lv_has ls 6 [(0, .ref (a 0)), (1, .int x1), (2, .int x2), (3, .int x3)] → k14 v x1 x2 x3 = res → W p l e (headSpec wsX7_go ({ frames := 6, cells := 0, slots := 0, locals := 133 } : Room)).room s m ([.ref (a 0), .int p1] : List Value).toArray below meth c H locs 0 0 (MQ below (va_Qi (fun r (u : DV) => f_X7_go n0 v0 p1 = some (r, u)) (fun u t => atW G (modelC G.2 a u) A t) A) ([.ref (a 0), .int p1] : List Value).toArray s 0 0 A) (F0 m 14 ls [])) (n : Nat) (v : DV) (x1 : Int32) (x2 : Int32) (H : Heap) (locs : List Loc) (ls : Array Slot), va_P G.1 vwCl (modelC G.2 a v) H → va_D A (modelC G.2 a v) → va_S A s.heap H locs → lv_has ls 6 [(0, .ref (a 0)), (1, .int x1), (2, .int x2)] → f_X7_go_J84 k14 n v x1 x2 = res → W p l e (headSpec wsX7_go ({ frames := 6, cells := 0, slots := 0, locals := 133 } : Room)).room s m ([.ref (a 0), .int p1] : List Value).toArray below meth c H locs 0 0 (MQ below (va_Qi (fun r (u : DV) => f_X7_go n0 v0 p1 = some (r, u)) (fun u t => atW G (modelC G.2 a u) A t) A) ([.ref (a 0), .int p1] : List Value).toArray s 0 0 A) (F0 m 84 ls []) := by
    intro k14 hk14 n v x1 x2 H locs ls hP hD hS hl hf
    rw [f_X7_go_J84] at hf
    refine lv_iconst (v := 0) hx hb dX7_go_84 (by decide) ?_
    exact J85 k14 hk14 n v x1 x2 0 H locs ls hP hD hS (lv_sub hl [0, 1, 2] rfl) hf
  have J69 : ∀ (k14 : DV → Int32 → Int32 → Int32 → Option (Int32 × DV)) (hk14 : ∀ (v : DV) (x1 : Int32) (x2 : Int32) (x3 : Int32) (H : Heap) (locs : List Loc) (ls : Array Slot), va_P G.1 vwCl (modelC G.2 a v) H → va_D A (modelC G.2 a v) → va_S A s.heap H locs → lv_has ls 6 [(0, .ref (a 0)), (1, .int x1), (2, .int x2), (3, .int x3)] → k14 v x1 x2 x3 = res → W p l e (headSpec wsX7_go ({ frames := 6, cells := 0, slots := 0, locals := 133 } : Room)).room s m ([.ref (a 0), .int p1] : List Value).toArray below meth c H locs 0 0 (MQ below (va_Qi (fun r (u : DV) => f_X7_go n0 v0 p1 = some (r, u)) (fun u t => atW G (modelC G.2 a u) A t) A) ([.ref (a 0), .int p1] : List Value).toArray s 0 0 A) (F0 m 14 ls [])) (n : Nat) (v : DV) (x1 : Int32) (x2 : Int32) (H : Heap) (locs : List Loc) (ls : Array Slot), va_P G.1 vwCl (modelC G.2 a v) H → va_D A (modelC G.2 a v) → va_S A s.heap H locs → lv_has ls 6 [(0, .ref (a 0)), (1, .int x1), (2, .int x2)] → f_X7_go_J69 k14 n v x1 x2 = res → W p l e (headSpec wsX7_go ({ frames := 6, cells := 0, slots := 0, locals := 133 } : Room)).room s m ([.ref (a 0), .int p1] : List Value).toArray below meth c H locs 0 0 (MQ below (va_Qi (fun r (u : DV) => f_X7_go n0 v0 p1 = some (r, u)) (fun u t => atW G (modelC G.2 a u) A t) A) ([.ref (a 0), .int p1] : List Value).toArray s 0 0 A) (F0 m 69 ls []) := by
    intro k14 hk14 n v x1 x2 H locs ls hP hD hS hl hf
    rw [f_X7_go_J69] at hf
    refine lv_aload_n hx hb dX7_go_69 rfl (lv_at hl 0 rfl) ?_
    refine va_get (D := G.1) (ci := 7) (v := .int (v 10 0)) (C := RX7) (T := TX7) (N := 16) hx hb hts hinX7 hown hK hP 0 rfl rfl 10 (by decide) lk153 (fun _ h9 => h9) rfl dX7_go_70 ?_
    refine lv_aload_n hx hb dX7_go_73 rfl (lv_at hl 0 rfl) ?_
    refine va_get (D := G.1) (ci := 7) (v := .int (v 9 0)) (C := RX7) (T := TX7) (N := 16) hx hb hts hinX7 hown hK hP 0 rfl rfl 7 (by decide) lk119 (fun _ h9 => h9) rfl dX7_go_74 ?_
    refine lv_icmp_ge (tgt := 84) hx hb dX7_go_77 (by decide) (fun c => ?_) (fun c => ?_)
    · have hf := it_1 hf c
      exact J84 k14 hk14 n v x1 x2 H locs ls hP hD hS (lv_sub hl [0, 1, 2] rfl) hf
    · have hf := it_2 hf c
      refine lv_iconst (v := 1) hx hb dX7_go_80 (by decide) ?_
      refine lv_goto (tgt := 85) hx hb dX7_go_81 (by decide) ?_
      exact J85 k14 hk14 n v x1 x2 1 H locs ls hP hD hS (lv_sub hl [0, 1, 2] rfl) hf
  have J51 : ∀ (k14 : DV → Int32 → Int32 → Int32 → Option (Int32 × DV)) (hk14 : ∀ (v : DV) (x1 : Int32) (x2 : Int32) (x3 : Int32) (H : Heap) (locs : List Loc) (ls : Array Slot), va_P G.1 vwCl (modelC G.2 a v) H → va_D A (modelC G.2 a v) → va_S A s.heap H locs → lv_has ls 6 [(0, .ref (a 0)), (1, .int x1), (2, .int x2), (3, .int x3)] → k14 v x1 x2 x3 = res → W p l e (headSpec wsX7_go ({ frames := 6, cells := 0, slots := 0, locals := 133 } : Room)).room s m ([.ref (a 0), .int p1] : List Value).toArray below meth c H locs 0 0 (MQ below (va_Qi (fun r (u : DV) => f_X7_go n0 v0 p1 = some (r, u)) (fun u t => atW G (modelC G.2 a u) A t) A) ([.ref (a 0), .int p1] : List Value).toArray s 0 0 A) (F0 m 14 ls [])) (n : Nat) (v : DV) (x1 : Int32) (x4 : Int32) (z0 : Int32) (z1 : Int32) (H : Heap) (locs : List Loc) (ls : Array Slot), va_P G.1 vwCl (modelC G.2 a v) H → va_D A (modelC G.2 a v) → va_S A s.heap H locs → lv_has ls 6 [(0, .ref (a 0)), (1, .int x1), (4, .int x4)] → f_X7_go_J51 k14 n v x1 x4 z0 z1 = res → W p l e (headSpec wsX7_go ({ frames := 6, cells := 0, slots := 0, locals := 133 } : Room)).room s m ([.ref (a 0), .int p1] : List Value).toArray below meth c H locs 0 0 (MQ below (va_Qi (fun r (u : DV) => f_X7_go n0 v0 p1 = some (r, u)) (fun u t => atW G (modelC G.2 a u) A t) A) ([.ref (a 0), .int p1] : List Value).toArray s 0 0 A) (F0 m 51 ls [.int z0, .int z1]) := by
    intro k14 hk14 n v x1 x4 z0 z1 H locs ls hP hD hS hl hf
    rw [f_X7_go_J51] at hf
    refine lv_iadd hx hb dX7_go_51 ?_
    refine lv_istore_n (lv' := [(2, .int (z1 + z0)), (0, .ref (a 0)), (1, .int x1), (4, .int x4)]) hx hb dX7_go_52 rfl hl (by decide) rfl (fun ls hl => ?_)
    refine lv_aload_n hx hb dX7_go_53 rfl (lv_at hl 1 rfl) ?_
    refine va_get (D := G.1) (ci := 7) (v := .int (v 11 0)) (C := RX7) (T := TX7) (N := 16) hx hb hts hinX7 hown hK hP 0 rfl rfl 11 (by decide) lk156 (fun _ h9 => h9) rfl dX7_go_54 ?_
    refine lv_if_ne (tgt := 84) hx hb dX7_go_57 (by decide) (fun c => ?_) (fun c => ?_)
    · have hf := it_2 hf c
      exact J84 k14 hk14 n v x1 (z1 + z0) H locs ls hP hD hS (lv_sub hl [1, 2, 0] rfl) hf
    · have hf := it_1 hf c
      refine lv_iload hx hb dX7_go_60 (lv_at hl 3 rfl) ?_
      refine lv_if_ne (tgt := 69) hx hb dX7_go_62 (by decide) (fun c => ?_) (fun c => ?_)
      · have hf := it_2 hf c
        exact J69 k14 hk14 n v x1 (z1 + z0) H locs ls hP hD hS (lv_sub hl [1, 2, 0] rfl) hf
      · have hf := it_1 hf c
        refine lv_iload_n hx hb dX7_go_65 rfl (lv_at hl 2 rfl) ?_
        refine lv_if_ne (tgt := 84) hx hb dX7_go_66 (by decide) (fun c => ?_) (fun c => ?_)
        · have hf := it_2 hf c
          exact J84 k14 hk14 n v x1 (z1 + z0) H locs ls hP hD hS (lv_sub hl [1, 2, 0] rfl) hf
        · have hf := it_1 hf c
          exact J69 k14 hk14 n v x1 (z1 + z0) H locs ls hP hD hS (lv_sub hl [1, 2, 0] rfl) hf
  have J38 : ∀ (k14 : DV → Int32 → Int32 → Int32 → Option (Int32 × DV)) (hk14 : ∀ (v : DV) (x1 : Int32) (x2 : Int32) (x3 : Int32) (H : Heap) (locs : List Loc) (ls : Array Slot), va_P G.1 vwCl (modelC G.2 a v) H → va_D A (modelC G.2 a v) → va_S A s.heap H locs → lv_has ls 6 [(0, .ref (a 0)), (1, .int x1), (2, .int x2), (3, .int x3)] → k14 v x1 x2 x3 = res → W p l e (headSpec wsX7_go ({ frames := 6, cells := 0, slots := 0, locals := 133 } : Room)).room s m ([.ref (a 0), .int p1] : List Value).toArray below meth c H locs 0 0 (MQ below (va_Qi (fun r (u : DV) => f_X7_go n0 v0 p1 = some (r, u)) (fun u t => atW G (modelC G.2 a u) A t) A) ([.ref (a 0), .int p1] : List Value).toArray s 0 0 A) (F0 m 14 ls [])) (n : Nat) (v : DV) (x1 : Int32) (x2 : Int32) (z0 : Int32) (H : Heap) (locs : List Loc) (ls : Array Slot), va_P G.1 vwCl (modelC G.2 a v) H → va_D A (modelC G.2 a v) → va_S A s.heap H locs → lv_has ls 6 [(0, .ref (a 0)), (1, .int x1), (2, .int x2)] → f_X7_go_J38 k14 n v x1 x2 z0 = res → W p l e (headSpec wsX7_go ({ frames := 6, cells := 0, slots := 0, locals := 133 } : Room)).room s m ([.ref (a 0), .int p1] : List Value).toArray below meth c H locs 0 0 (MQ below (va_Qi (fun r (u : DV) => f_X7_go n0 v0 p1 = some (r, u)) (fun u t => atW G (modelC G.2 a u) A t) A) ([.ref (a 0), .int p1] : List Value).toArray s 0 0 A) (F0 m 38 ls [.int z0]) := by
    intro k14 hk14 n v x1 x2 z0 H locs ls hP hD hS hl hf
    rw [f_X7_go_J38] at hf
    refine lv_istore (lv' := [(4, .int z0), (0, .ref (a 0)), (1, .int x1), (2, .int x2)]) hx hb dX7_go_38 hl (by decide) rfl (fun ls hl => ?_)
    refine lv_iload_n hx hb dX7_go_40 rfl (lv_at hl 3 rfl) ?_
    refine lv_iload hx hb dX7_go_41 (lv_at hl 0 rfl) ?_
    refine lv_if_eq (tgt := 50) hx hb dX7_go_43 (by decide) (fun c => ?_) (fun c => ?_)
    · have hf := it_1 hf c
      refine lv_iconst (v := 0) hx hb dX7_go_50 (by decide) ?_
      exact J51 k14 hk14 n v x1 z0 0 x2 H locs ls hP hD hS (lv_sub hl [1, 2, 0] rfl) hf
    · have hf := it_2 hf c
      refine lv_iconst (v := 1) hx hb dX7_go_46 (by decide) ?_
      refine lv_goto (tgt := 51) hx hb dX7_go_47 (by decide) ?_
      exact J51 k14 hk14 n v x1 z0 1 x2 H locs ls hP hD hS (lv_sub hl [1, 2, 0] rfl) hf
  have J37 : ∀ (k14 : DV → Int32 → Int32 → Int32 → Option (Int32 × DV)) (hk14 : ∀ (v : DV) (x1 : Int32) (x2 : Int32) (x3 : Int32) (H : Heap) (locs : List Loc) (ls : Array Slot), va_P G.1 vwCl (modelC G.2 a v) H → va_D A (modelC G.2 a v) → va_S A s.heap H locs → lv_has ls 6 [(0, .ref (a 0)), (1, .int x1), (2, .int x2), (3, .int x3)] → k14 v x1 x2 x3 = res → W p l e (headSpec wsX7_go ({ frames := 6, cells := 0, slots := 0, locals := 133 } : Room)).room s m ([.ref (a 0), .int p1] : List Value).toArray below meth c H locs 0 0 (MQ below (va_Qi (fun r (u : DV) => f_X7_go n0 v0 p1 = some (r, u)) (fun u t => atW G (modelC G.2 a u) A t) A) ([.ref (a 0), .int p1] : List Value).toArray s 0 0 A) (F0 m 14 ls [])) (n : Nat) (v : DV) (x1 : Int32) (x2 : Int32) (H : Heap) (locs : List Loc) (ls : Array Slot), va_P G.1 vwCl (modelC G.2 a v) H → va_D A (modelC G.2 a v) → va_S A s.heap H locs → lv_has ls 6 [(0, .ref (a 0)), (1, .int x1), (2, .int x2)] → f_X7_go_J37 k14 n v x1 x2 = res → W p l e (headSpec wsX7_go ({ frames := 6, cells := 0, slots := 0, locals := 133 } : Room)).room s m ([.ref (a 0), .int p1] : List Value).toArray below meth c H locs 0 0 (MQ below (va_Qi (fun r (u : DV) => f_X7_go n0 v0 p1 = some (r, u)) (fun u t => atW G (modelC G.2 a u) A t) A) ([.ref (a 0), .int p1] : List Value).toArray s 0 0 A) (F0 m 37 ls []) := by
    intro k14 hk14 n v x1 x2 H locs ls hP hD hS hl hf
    rw [f_X7_go_J37] at hf
    refine lv_iconst (v := 0) hx hb dX7_go_37 (by decide) ?_
    exact J38 k14 hk14 n v x1 x2 0 H locs ls hP hD hS (lv_sub hl [0, 1, 2] rfl) hf
  have L14 : ∀ (n : Nat) (v : DV) (x1 : Int32) (x2 : Int32) (x3 : Int32) (H : Heap) (locs : List Loc) (ls : Array Slot), va_P G.1 vwCl (modelC G.2 a v) H → va_D A (modelC G.2 a v) → va_S A s.heap H locs → lv_has ls 6 [(0, .ref (a 0)), (1, .int x1), (2, .int x2), (3, .int x3)] → f_X7_go_L14 n v x1 x2 x3 = res → W p l e (headSpec wsX7_go ({ frames := 6, cells := 0, slots := 0, locals := 133 } : Room)).room s m ([.ref (a 0), .int p1] : List Value).toArray below meth c H locs 0 0 (MQ below (va_Qi (fun r (u : DV) => f_X7_go n0 v0 p1 = some (r, u)) (fun u t => atW G (modelC G.2 a u) A t) A) ([.ref (a 0), .int p1] : List Value).toArray s 0 0 A) (F0 m 14 ls []) := by
    intro n
    induction n with
    | zero => intro v x1 x2 x3 H locs ls hP hD hS hl hf; exact (none_1 hf hne).elim
    | succ n ih =>
      intro v x1 x2 x3 H locs ls hP hD hS hl hf
      rw [f_X7_go_L14] at hf
      refine lv_iload_n hx hb dX7_go_14 rfl (lv_at hl 3 rfl) ?_
      refine lv_if_eq (tgt := 116) hx hb dX7_go_15 (by decide) (fun c => ?_) (fun c => ?_)
      · have hf := it_1 hf c
        refine lv_iload_n hx hb dX7_go_116 rfl (lv_at hl 2 rfl) ?_
        exact W.iret (v := x2) hx hb hr (fun t ht hW => ⟨⟨x2, v, rfl, hf0.trans hf.symm, by rw [ht]; exact hP, hD⟩, hS.F ht⟩) hS.2.2 dX7_go_117
      · have hf := it_2 hf c
        refine lv_aload_n hx hb dX7_go_18 rfl (lv_at hl 0 rfl) ?_
        have hn := bd1_1 hf hne
        refine cwv (va_runV (As := []) (rest := []) ⟨hx, hb, hml, hown, hts⟩ (ok_X7_order l G a H.size v hn) (cwV 0 hts gX7_go_X7_order rfl rfl rfl (by decide +kernel) ⟨Nat.le_of_ble_eq_true rfl, Nat.le_of_ble_eq_true rfl⟩) ⟨pcW_blind, va_recv hK hP (ci := 7) (q0 := 0) rfl rfl, pcW_pre hP hD hamb⟩ rfl rfl hl.1 rfl (lv_room (Nat.le_of_ble_eq_true rfl)) dX7_go_19 ⟨Nat.zero_le _, Nat.zero_le _⟩) (wr := []) hP hD hS hA [0, 1, 2, 3, 4, 5, 6, 7, 8] [] rfl rfl (by decide) (by decide) (fun v19 H locs hw hP hD hS => ?_)
        have hf := bd1_2 hf hw
        have hP : va_P G.1 vwCl (modelC G.2 a v19) H := hP
        have hD : va_D A (modelC G.2 a v19) := hD
        refine lv_iload_n hx hb dX7_go_22 rfl (lv_at hl 1 rfl) ?_
        refine lv_if_eq (tgt := 37) hx hb dX7_go_23 (by decide) (fun c => ?_) (fun c => ?_)
        · have hf := it_1 hf c
          exact J37 (fun v x1 x2 x3 => f_X7_go_L14 n v x1 x2 x3) ih n v19 x1 x2 H locs ls hP hD hS (lv_sub hl [0, 1, 2] rfl) hf
        · have hf := it_2 hf c
          refine lv_aload_n hx hb dX7_go_26 rfl (lv_at hl 0 rfl) ?_
          have hn := bd2_1 hf hne
          refine cwi (va_runV (As := []) (rest := []) ⟨hx, hb, hml, hown, hts⟩ (ok_X7_does l G a H.size n v19 hn) (cwV 0 hts gX7_go_X7_does rfl rfl rfl (by decide +kernel) ⟨Nat.le_of_ble_eq_true rfl, Nat.le_of_ble_eq_true rfl⟩) ⟨pcW_blind, va_recv hK hP (ci := 7) (q0 := 0) rfl rfl, pcW_pre hP hD hamb⟩ rfl rfl hl.1 rfl (lv_room (Nat.le_of_ble_eq_true rfl)) dX7_go_27 ⟨Nat.zero_le _, Nat.zero_le _⟩) (wr := []) hP hD hS hA [0, 1, 2, 3, 4, 5, 6, 7, 8] [] rfl rfl (by decide) (by decide) (fun r27 v27 H locs hw hP hD hS => ?_)
          have hf := bd2_2 hf hw
          have hP : va_P G.1 vwCl (modelC G.2 a v27) H := hP
          have hD : va_D A (modelC G.2 a v27) := hD
          refine lv_if_eq (tgt := 37) hx hb dX7_go_30 (by decide) (fun c => ?_) (fun c => ?_)
          · have hf := it_1 hf c
            exact J37 (fun v x1 x2 x3 => f_X7_go_L14 n v x1 x2 x3) ih n v27 x1 x2 H locs ls hP hD hS (lv_sub hl [0, 1, 2] rfl) hf
          · have hf := it_2 hf c
            refine lv_iconst (v := 1) hx hb dX7_go_33 (by decide) ?_
            refine lv_goto (tgt := 38) hx hb dX7_go_34 (by decide) ?_
            exact J38 (fun v x1 x2 x3 => f_X7_go_L14 n v x1 x2 x3) ih n v27 x1 x2 1 H locs ls hP hD hS (lv_sub hl [0, 1, 2] rfl) hf
  refine lv_aload_n hx hb dX7_go_0 rfl (lv_at hl 0 rfl) ?_
  refine lv_iconst (v := 0) hx hb dX7_go_1 (by decide) ?_
  refine va_put (D := G.1) (ci := 7) (v := .int 0) (ty := .int) (C := RX7) (T := TX7) (N := 16) hx hb hts hinX7 tyX7 tyX7_ok nmX7 hown hK hP hD hS 0 rfl rfl 10 (by decide) lk153 (fun _ h9 => h9) rfl (by decide +kernel) rfl rfl (Nat.le_of_ble_eq_true rfl) dX7_go_2 (fun H locs hP hD hS => ?_)
  have hP : va_P G.1 vwCl (modelC G.2 a (vs v0 10 (fun _ => 0))) H := hP
  have hD : va_D A (modelC G.2 a (vs v0 10 (fun _ => 0))) := hD
  refine lv_aload_n hx hb dX7_go_5 rfl (lv_at hl 0 rfl) ?_
  refine lv_iconst (v := 0) hx hb dX7_go_6 (by decide) ?_
  refine va_put (D := G.1) (ci := 7) (v := .int 0) (ty := .boolean) (C := RX7) (T := TX7) (N := 16) hx hb hts hinX7 tyX7 tyX7_ok nmX7 hown hK hP hD hS 0 rfl rfl 11 (by decide) lk156 (fun _ h9 => h9) rfl (by decide +kernel) rfl rfl (Nat.le_of_ble_eq_true rfl) dX7_go_7 (fun H locs hP hD hS => ?_)
  have hP : va_P G.1 vwCl (modelC G.2 a (vs (vs v0 10 (fun _ => 0)) 11 (fun _ => 0))) H := hP
  have hD : va_D A (modelC G.2 a (vs (vs v0 10 (fun _ => 0)) 11 (fun _ => 0))) := hD
  refine lv_iconst (v := 0) hx hb dX7_go_10 (by decide) ?_
  refine lv_istore_n (lv' := [(2, .int 0), (0, .ref (a 0)), (1, .int p1)]) hx hb dX7_go_11 rfl hl (by decide) rfl (fun ls hl => ?_)
  refine lv_iconst (v := 1) hx hb dX7_go_12 (by decide) ?_
  refine lv_istore_n (lv' := [(3, .int 1), (2, .int 0), (0, .ref (a 0)), (1, .int p1)]) hx hb dX7_go_13 rfl hl (by decide) rfl (fun ls hl => ?_)
  exact L14 n0 (vs (vs v0 10 (fun _ => 0)) 11 (fun _ => 0)) p1 0 1 H locs ls hP hD hS (lv_sub hl [2, 3, 1, 0] rfl) hf
set_option maxHeartbeats 4000000 in
set_option maxRecDepth 100000 in
theorem ok_X7_fault (l : Launch) (G : Gt) (a : Nat → Nat) (sz : Nat) (n0 : Nat) (v0 : DV) (hne : f_X7_fault n0 v0 ≠ none) : Met l yX7_fault wsX7_fault ({ frames := 7, cells := 0, slots := 0, locals := 158 } : Room) (pcW G [.ref (a 0)] (modelC G.2 a v0) sz) (va_Qi (fun r (u : DV) => f_X7_fault n0 v0 = some (r, u)) (fun u t => atW G (modelC G.2 a u) (va_A (modelC G.2 a v0) sz) t) (va_A (modelC G.2 a v0) sz)) 0 0 (va_A (modelC G.2 a v0) sz) := by
  refine Met.ofW (cc := cX7_fault) (maxL := 2) (ret := (some .int)) (by decide) rfl ?_
  intro p e s m args below meth c s₁ B hml hv
  obtain ⟨rfl, hsz, hP, hD0, hamb⟩ := hv
  have hx := B.exec
  have hb := B.bytes
  have hr := B.returns
  have hts := atoms_spec (ws := wsX7_fault) B.pre
  have hown : s.vm.findClass RX7 = some m.cls := findClass_of_methodNamed B.named
  have hlocks := B.notSynchronized
  have hK := hamb.1
  subst hsz
  have hD := hD0.self (sz := s.heap.size)
  generalize hAe : va_A (modelC G.2 a v0) s.heap.size = A at hD ⊢
  have hA : ∀ q : Nat, s.heap.size ≤ q → A q := fun q h => by rw [← hAe]; exact Or.inr h
  have hS : va_S A s.heap s.heap [] := va_S.rf
  obtain ⟨res, hf0⟩ : ∃ res, f_X7_fault n0 v0 = res := ⟨_, rfl⟩
  have hne : res ≠ none := hf0 ▸ hne
  have hf := hf0
  rw [f_X7_fault] at hf
  have hinX7 : ∀ w ∈ u_ws RX7 TX7 16, w ∈ wsX7_fault := by decide +kernel
  have lk156 := hts (.fieldLink RX7 156 "MoodDrawersModel" "isWrong" "Z") (by decide +kernel)
  have lk153 := hts (.fieldLink RX7 153 "MoodDrawersModel" "place" "I") (by decide +kernel)
  have hl := lv_entry ([.ref (a 0)]) (n := 2) (Nat.le_of_ble_eq_true rfl)
  rw [lg_entry_eq]
  generalize (lg_sl ([.ref (a 0)]) ++ List.replicate (2 - (lg_sl ([.ref (a 0)])).length) Slot.unset).toArray = ls at hl ⊢
  have hl : lv_has ls 2 [(0, .ref (a 0))] := hl
  refine lv_aload_n hx hb dX7_fault_0 rfl (lv_at hl 0 rfl) ?_
  refine lv_iconst (v := 0) hx hb dX7_fault_1 (by decide) ?_
  have hn := bd2_1 hf hne
  refine cwi (va_runV (As := [.int 0]) (rest := []) ⟨hx, hb, hml, hown, hts⟩ (ok_X7_go l G a s.heap.size n0 v0 0 hn) (cwV 1 hts gX7_fault_X7_go rfl rfl rfl (by decide +kernel) ⟨Nat.le_of_ble_eq_true rfl, Nat.le_of_ble_eq_true rfl⟩) ⟨pcW_blind, va_recv hK hP (ci := 7) (q0 := 0) rfl rfl, pcW_pre hP hD hamb⟩ rfl rfl hl.1 rfl (lv_room (Nat.le_of_ble_eq_true rfl)) dX7_fault_2 ⟨Nat.zero_le _, Nat.zero_le _⟩) (wr := []) hP hD hS hA [0, 1, 2, 3, 4, 5, 6, 7, 8] [] rfl rfl (by decide) (by decide) (fun r2 v2 H locs hw hP hD hS => ?_)
  have hf := bd2_2 hf hw
  have hP : va_P G.1 vwCl (modelC G.2 a v2) H := hP
  have hD : va_D A (modelC G.2 a v2) := hD
  refine lv_istore_n (lv' := [(1, .int r2), (0, .ref (a 0))]) hx hb dX7_fault_5 rfl hl (by decide) rfl (fun ls hl => ?_)
  refine lv_aload_n hx hb dX7_fault_6 rfl (lv_at hl 1 rfl) ?_
  refine va_get (D := G.1) (ci := 7) (v := .int (v2 11 0)) (C := RX7) (T := TX7) (N := 16) hx hb hts hinX7 hown hK hP 0 rfl rfl 11 (by decide) lk156 (fun _ h9 => h9) rfl dX7_fault_7 ?_
  refine lv_if_eq (tgt := 20) hx hb dX7_fault_10 (by decide) (fun c => ?_) (fun c => ?_)
  · have hf := it_1 hf c
    refine lv_bipush (v := (-6)) hx hb dX7_fault_20 (by decide) ?_
    exact W.iret (v := (-6)) hx hb hr (fun t ht hW => ⟨⟨(-6), v2, rfl, hf0.trans hf.symm, by rw [ht]; exact hP, hD⟩, hS.F ht⟩) hS.2.2 dX7_fault_22
  · have hf := it_2 hf c
    refine lv_aload_n hx hb dX7_fault_13 rfl (lv_at hl 1 rfl) ?_
    refine va_get (D := G.1) (ci := 7) (v := .int (v2 10 0)) (C := RX7) (T := TX7) (N := 16) hx hb hts hinX7 hown hK hP 0 rfl rfl 10 (by decide) lk153 (fun _ h9 => h9) rfl dX7_fault_14 ?_
    refine lv_goto (tgt := 22) hx hb dX7_fault_17 (by decide) ?_
    exact W.iret (v := (v2 10 0)) hx hb hr (fun t ht hW => ⟨⟨(v2 10 0), v2, rfl, hf0.trans hf.symm, by rw [ht]; exact hP, hD⟩, hS.F ht⟩) hS.2.2 dX7_fault_22
set_option maxHeartbeats 4000000 in
set_option maxRecDepth 100000 in
theorem ok_X7_carryOut (l : Launch) (G : Gt) (a : Nat → Nat) (sz : Nat) (n0 : Nat) (v0 : DV) (hne : f_X7_carryOut n0 v0 ≠ none) : Met l yX7_carryOut wsX7_carryOut ({ frames := 7, cells := 0, slots := 0, locals := 158 } : Room) (pcW G [.ref (a 0)] (modelC G.2 a v0) sz) (va_Qi (fun r (u : DV) => f_X7_carryOut n0 v0 = some (r, u)) (fun u t => atW G (modelC G.2 a u) (va_A (modelC G.2 a v0) sz) t) (va_A (modelC G.2 a v0) sz)) 0 0 (va_A (modelC G.2 a v0) sz) := by
  refine Met.ofW (cc := cX7_carryOut) (maxL := 3) (ret := (some .int)) (by decide) rfl ?_
  intro p e s m args below meth c s₁ B hml hv
  obtain ⟨rfl, hsz, hP, hD0, hamb⟩ := hv
  have hx := B.exec
  have hb := B.bytes
  have hr := B.returns
  have hts := atoms_spec (ws := wsX7_carryOut) B.pre
  have hown : s.vm.findClass RX7 = some m.cls := findClass_of_methodNamed B.named
  have hlocks := B.notSynchronized
  have hK := hamb.1
  subst hsz
  have hD := hD0.self (sz := s.heap.size)
  generalize hAe : va_A (modelC G.2 a v0) s.heap.size = A at hD ⊢
  have hA : ∀ q : Nat, s.heap.size ≤ q → A q := fun q h => by rw [← hAe]; exact Or.inr h
  have hS : va_S A s.heap s.heap [] := va_S.rf
  obtain ⟨res, hf0⟩ : ∃ res, f_X7_carryOut n0 v0 = res := ⟨_, rfl⟩
  have hne : res ≠ none := hf0 ▸ hne
  have hf := hf0
  rw [f_X7_carryOut] at hf
  have hinX7 : ∀ w ∈ u_ws RX7 TX7 16, w ∈ wsX7_carryOut := by decide +kernel
  have lk156 := hts (.fieldLink RX7 156 "MoodDrawersModel" "isWrong" "Z") (by decide +kernel)
  have lk119 := hts (.fieldLink RX7 119 "MoodDrawersModel" "length" "I") (by decide +kernel)
  have hl := lv_entry ([.ref (a 0)]) (n := 3) (Nat.le_of_ble_eq_true rfl)
  rw [lg_entry_eq]
  generalize (lg_sl ([.ref (a 0)]) ++ List.replicate (3 - (lg_sl ([.ref (a 0)])).length) Slot.unset).toArray = ls at hl ⊢
  have hl : lv_has ls 3 [(0, .ref (a 0))] := hl
  refine lv_aload_n hx hb dX7_carryOut_0 rfl (lv_at hl 0 rfl) ?_
  refine lv_iconst (v := 0) hx hb dX7_carryOut_1 (by decide) ?_
  have hn := bd2_1 hf hne
  refine cwi (va_runV (As := [.int 0]) (rest := []) ⟨hx, hb, hml, hown, hts⟩ (ok_X7_go l G a s.heap.size n0 v0 0 hn) (cwV 1 hts gX7_carryOut_X7_go rfl rfl rfl (by decide +kernel) ⟨Nat.le_of_ble_eq_true rfl, Nat.le_of_ble_eq_true rfl⟩) ⟨pcW_blind, va_recv hK hP (ci := 7) (q0 := 0) rfl rfl, pcW_pre hP hD hamb⟩ rfl rfl hl.1 rfl (lv_room (Nat.le_of_ble_eq_true rfl)) dX7_carryOut_2 ⟨Nat.zero_le _, Nat.zero_le _⟩) (wr := []) hP hD hS hA [0, 1, 2, 3, 4, 5, 6, 7, 8] [] rfl rfl (by decide) (by decide) (fun r2 v2 H locs hw hP hD hS => ?_)
  have hf := bd2_2 hf hw
  have hP : va_P G.1 vwCl (modelC G.2 a v2) H := hP
  have hD : va_D A (modelC G.2 a v2) := hD
  refine lv_istore_n (lv' := [(1, .int r2), (0, .ref (a 0))]) hx hb dX7_carryOut_5 rfl hl (by decide) rfl (fun ls hl => ?_)
  refine lv_aload_n hx hb dX7_carryOut_6 rfl (lv_at hl 1 rfl) ?_
  refine va_get (D := G.1) (ci := 7) (v := .int (v2 11 0)) (C := RX7) (T := TX7) (N := 16) hx hb hts hinX7 hown hK hP 0 rfl rfl 11 (by decide) lk156 (fun _ h9 => h9) rfl dX7_carryOut_7 ?_
  refine lv_if_eq (tgt := 16) hx hb dX7_carryOut_10 (by decide) (fun c => ?_) (fun c => ?_)
  · have hf := it_1 hf c
    refine lv_aload_n hx hb dX7_carryOut_16 rfl (lv_at hl 1 rfl) ?_
    have hn := bd1_1 hf hne
    refine cwv (va_runV (As := []) (rest := []) ⟨hx, hb, hml, hown, hts⟩ (ok_X7_know l G a H.size n0 v2 hn) (cwV 0 hts gX7_carryOut_X7_know rfl rfl rfl (by decide +kernel) ⟨Nat.le_of_ble_eq_true rfl, Nat.le_of_ble_eq_true rfl⟩) ⟨pcW_blind, va_recv hK hP (ci := 7) (q0 := 0) rfl rfl, pcW_pre hP hD hamb⟩ rfl rfl hl.1 rfl (lv_room (Nat.le_of_ble_eq_true rfl)) dX7_carryOut_17 ⟨Nat.zero_le _, Nat.zero_le _⟩) (wr := []) hP hD hS hA [0, 1, 2, 3, 4, 5, 6, 7, 8] [] rfl rfl (by decide) (by decide) (fun v17 H locs hw hP hD hS => ?_)
    have hf := bd1_2 hf hw
    have hP : va_P G.1 vwCl (modelC G.2 a v17) H := hP
    have hD : va_D A (modelC G.2 a v17) := hD
    refine lv_aload_n hx hb dX7_carryOut_20 rfl (lv_at hl 1 rfl) ?_
    refine lv_iconst (v := 1) hx hb dX7_carryOut_21 (by decide) ?_
    have hn := bd2_1 hf hne
    refine cwi (va_runV (As := [.int 1]) (rest := []) ⟨hx, hb, hml, hown, hts⟩ (ok_X7_go l G a H.size n0 v17 1 hn) (cwV 1 hts gX7_carryOut_X7_go rfl rfl rfl (by decide +kernel) ⟨Nat.le_of_ble_eq_true rfl, Nat.le_of_ble_eq_true rfl⟩) ⟨pcW_blind, va_recv hK hP (ci := 7) (q0 := 0) rfl rfl, pcW_pre hP hD hamb⟩ rfl rfl hl.1 rfl (lv_room (Nat.le_of_ble_eq_true rfl)) dX7_carryOut_22 ⟨Nat.zero_le _, Nat.zero_le _⟩) (wr := []) hP hD hS hA [0, 1, 2, 3, 4, 5, 6, 7, 8] [] rfl rfl (by decide) (by decide) (fun r22 v22 H locs hw hP hD hS => ?_)
    have hf := bd2_2 hf hw
    have hP : va_P G.1 vwCl (modelC G.2 a v22) H := hP
    have hD : va_D A (modelC G.2 a v22) := hD
    refine lv_istore_n (lv' := [(2, .int r22), (1, .int r2), (0, .ref (a 0))]) hx hb dX7_carryOut_25 rfl hl (by decide) rfl (fun ls hl => ?_)
    refine lv_aload_n hx hb dX7_carryOut_26 rfl (lv_at hl 2 rfl) ?_
    refine lv_iconst (v := 0) hx hb dX7_carryOut_27 (by decide) ?_
    refine va_put (D := G.1) (ci := 7) (v := .int 0) (ty := .int) (C := RX7) (T := TX7) (N := 16) hx hb hts hinX7 tyX7 tyX7_ok nmX7 hown hK hP hD hS 0 rfl rfl 7 (by decide) lk119 (fun _ h9 => h9) rfl (by decide +kernel) rfl rfl (Nat.le_of_ble_eq_true rfl) dX7_carryOut_28 (fun H locs hP hD hS => ?_)
    have hP : va_P G.1 vwCl (modelC G.2 a (vs v22 9 (fun _ => 0))) H := hP
    have hD : va_D A (modelC G.2 a (vs v22 9 (fun _ => 0))) := hD
    refine lv_iload_n hx hb dX7_carryOut_31 rfl (lv_at hl 0 rfl) ?_
    exact W.iret (v := r22) hx hb hr (fun t ht hW => ⟨⟨r22, (vs v22 9 (fun _ => 0)), rfl, hf0.trans hf.symm, by rw [ht]; exact hP, hD⟩, hS.F ht⟩) hS.2.2 dX7_carryOut_32
  · have hf := it_2 hf c
    refine lv_bipush (v := (-3)) hx hb dX7_carryOut_13 (by decide) ?_
    exact W.iret (v := (-3)) hx hb hr (fun t ht hW => ⟨⟨(-3), v2, rfl, hf0.trans hf.symm, by rw [ht]; exact hP, hD⟩, hS.F ht⟩) hS.2.2 dX7_carryOut_15
set_option maxHeartbeats 4000000 in
set_option maxRecDepth 100000 in
theorem ok_X7_undo (l : Launch) (G : Gt) (a : Nat → Nat) (sz : Nat) (n0 : Nat) (v0 : DV) (hne : f_X7_undo n0 v0 ≠ none) : Met l yX7_undo wsX7_undo ({ frames := 0, cells := 0, slots := 0, locals := 0 } : Room) (pcW G [.ref (a 0)] (modelC G.2 a v0) sz) (va_Qi (fun r (u : DV) => f_X7_undo n0 v0 = some (r, u)) (fun u t => atW G (modelC G.2 a u) (va_A (modelC G.2 a v0) sz) t) (va_A (modelC G.2 a v0) sz)) 0 0 (va_A (modelC G.2 a v0) sz) := by
  refine Met.ofW (cc := cX7_undo) (maxL := 2) (ret := (some .int)) (by decide) rfl ?_
  intro p e s m args below meth c s₁ B hml hv
  obtain ⟨rfl, hsz, hP, hD0, hamb⟩ := hv
  have hx := B.exec
  have hb := B.bytes
  have hr := B.returns
  have hts := atoms_spec (ws := wsX7_undo) B.pre
  have hown : s.vm.findClass RX7 = some m.cls := findClass_of_methodNamed B.named
  have hlocks := B.notSynchronized
  have hK := hamb.1
  subst hsz
  have hD := hD0.self (sz := s.heap.size)
  generalize hAe : va_A (modelC G.2 a v0) s.heap.size = A at hD ⊢
  have hA : ∀ q : Nat, s.heap.size ≤ q → A q := fun q h => by rw [← hAe]; exact Or.inr h
  have hS : va_S A s.heap s.heap [] := va_S.rf
  obtain ⟨res, hf0⟩ : ∃ res, f_X7_undo n0 v0 = res := ⟨_, rfl⟩
  have hne : res ≠ none := hf0 ▸ hne
  have hf := hf0
  rw [f_X7_undo] at hf
  have hinX7 : ∀ w ∈ u_ws RX7 TX7 16, w ∈ wsX7_undo := by decide +kernel
  have lk43 := hts (.fieldLink RX7 43 "MoodDrawersModel" "known" "I") (by decide +kernel)
  have lk7 := hts (.fieldLink RX7 7 "MoodDrawersModel" "s" "[I") (by decide +kernel)
  have lk16 := hts (.fieldLink RX7 16 "MoodDrawersModel" "before" "[I") (by decide +kernel)
  have hl := lv_entry ([.ref (a 0)]) (n := 2) (Nat.le_of_ble_eq_true rfl)
  rw [lg_entry_eq]
  generalize (lg_sl ([.ref (a 0)]) ++ List.replicate (2 - (lg_sl ([.ref (a 0)])).length) Slot.unset).toArray = ls at hl ⊢
  have hl : lv_has ls 2 [(0, .ref (a 0))] := hl
  have L22 : ∀ (n : Nat) (v : DV) (x1 : Int32) (H : Heap) (locs : List Loc) (ls : Array Slot), va_P G.1 vwCl (modelC G.2 a v) H → va_D A (modelC G.2 a v) → va_S A s.heap H locs → lv_has ls 2 [(0, .ref (a 0)), (1, .int x1)] → f_X7_undo_L22 n v x1 = res → W p l e (headSpec wsX7_undo ({ frames := 0, cells := 0, slots := 0, locals := 0 } : Room)).room s m ([.ref (a 0)] : List Value).toArray below meth c H locs 0 0 (MQ below (va_Qi (fun r (u : DV) => f_X7_undo n0 v0 = some (r, u)) (fun u t => atW G (modelC G.2 a u) A t) A) ([.ref (a 0)] : List Value).toArray s 0 0 A) (F0 m 22 ls []) := by
    intro n
    induction n with
    | zero => intro v x1 H locs ls hP hD hS hl hf; exact (none_1 hf hne).elim
    | succ n ih =>
      intro v x1 H locs ls hP hD hS hl hf
      rw [f_X7_undo_L22] at hf
      refine lv_iload_n hx hb dX7_undo_22 rfl (lv_at hl 1 rfl) ?_
      refine lv_sipush (v := 240) hx hb dX7_undo_23 (by decide) ?_
      refine lv_icmp_ge (tgt := 56) hx hb dX7_undo_26 (by decide) (fun c => ?_) (fun c => ?_)
      · have hf := it_1 hf c
        refine lv_aload_n hx hb dX7_undo_56 rfl (lv_at hl 0 rfl) ?_
        refine va_get (D := G.1) (ci := 7) (v := .int (v 8 0)) (C := RX7) (T := TX7) (N := 16) hx hb hts hinX7 hown hK hP 0 rfl rfl 3 (by decide) lk43 (fun _ h9 => h9) rfl dX7_undo_57 ?_
        exact W.iret (v := (v 8 0)) hx hb hr (fun t ht hW => ⟨⟨(v 8 0), v, rfl, hf0.trans hf.symm, by rw [ht]; exact hP, hD⟩, hS.F ht⟩) hS.2.2 dX7_undo_60
      · have hf := it_2 hf c
        refine lv_aload_n hx hb dX7_undo_29 rfl (lv_at hl 0 rfl) ?_
        refine va_get (D := G.1) (ci := 7) (v := .ref (a 1)) (C := RX7) (T := TX7) (N := 16) hx hb hts hinX7 hown hK hP 0 rfl rfl 0 (by decide) lk7 (fun _ h9 => h9) rfl dX7_undo_30 ?_
        refine lv_iload_n hx hb dX7_undo_33 rfl (lv_at hl 1 rfl) ?_
        refine lv_aload_n hx hb dX7_undo_34 rfl (lv_at hl 0 rfl) ?_
        refine va_get (D := G.1) (ci := 7) (v := .ref (a 3)) (C := RX7) (T := TX7) (N := 16) hx hb hts hinX7 hown hK hP 0 rfl rfl 2 (by decide) lk16 (fun _ h9 => h9) rfl dX7_undo_35 ?_
        refine lv_sipush (v := 240) hx hb dX7_undo_38 (by decide) ?_
        refine lv_aload_n hx hb dX7_undo_41 rfl (lv_at hl 0 rfl) ?_
        refine va_get (D := G.1) (ci := 7) (v := .int (v 8 0)) (C := RX7) (T := TX7) (N := 16) hx hb hts hinX7 hown hK hP 0 rfl rfl 3 (by decide) lk43 (fun _ h9 => h9) rfl dX7_undo_42 ?_
        refine lv_imul hx hb dX7_undo_45 ?_
        refine lv_iload_n hx hb dX7_undo_46 rfl (lv_at hl 1 rfl) ?_
        refine lv_iadd hx hb dX7_undo_47 ?_
        obtain ⟨hi, hf⟩ := ck_1 hf hne
        refine va_iald (f := (v 2)) hx hb hK hP 3 0 rfl rfl (ixb_1 hi) dX7_undo_48 ?_
        obtain ⟨hi, hf⟩ := ck_1 hf hne
        refine va_iast (f := (v 0)) hx hb hK hP hD hS 1 0 rfl rfl (ixb_1 hi) dX7_undo_49 (fun H locs hP hD hS => ?_)
        obtain ⟨v49, hv, hf⟩ := lt_1 hf
        have hP : va_P G.1 vwCl (modelC G.2 a v49) H := by rw [hv]; exact hP
        have hD : va_D A (modelC G.2 a v49) := by rw [hv]; exact hD
        clear hv
        refine lv_iinc (v := (x1 + 1)) (lv' := [(1, .int (x1 + 1)), (0, .ref (a 0))]) hx hb dX7_undo_50 hl (k := 1) rfl rfl (by decide) rfl (fun ls hl => ?_)
        refine lv_goto (tgt := 22) hx hb dX7_undo_53 (by decide) ?_
        exact ih v49 (x1 + 1) H locs ls hP hD hS (lv_sub hl [1, 0] rfl) hf
  refine lv_aload_n hx hb dX7_undo_0 rfl (lv_at hl 0 rfl) ?_
  refine va_get (D := G.1) (ci := 7) (v := .int (v0 8 0)) (C := RX7) (T := TX7) (N := 16) hx hb hts hinX7 hown hK hP 0 rfl rfl 3 (by decide) lk43 (fun _ h9 => h9) rfl dX7_undo_1 ?_
  refine lv_if_ne (tgt := 10) hx hb dX7_undo_4 (by decide) (fun c => ?_) (fun c => ?_)
  · have hf := it_2 hf c
    refine lv_aload_n hx hb dX7_undo_10 rfl (lv_at hl 0 rfl) ?_
    refine lv_dup hx hb dX7_undo_11 rfl ?_
    refine va_get (D := G.1) (ci := 7) (v := .int (v0 8 0)) (C := RX7) (T := TX7) (N := 16) hx hb hts hinX7 hown hK hP 0 rfl rfl 3 (by decide) lk43 (fun _ h9 => h9) rfl dX7_undo_12 ?_
    refine lv_iconst (v := 1) hx hb dX7_undo_15 (by decide) ?_
    refine lv_isub hx hb dX7_undo_16 ?_
    refine va_put (D := G.1) (ci := 7) (v := .int ((v0 8 0) - 1)) (ty := .int) (C := RX7) (T := TX7) (N := 16) hx hb hts hinX7 tyX7 tyX7_ok nmX7 hown hK hP hD hS 0 rfl rfl 3 (by decide) lk43 (fun _ h9 => h9) rfl (by decide +kernel) rfl rfl (Nat.le_of_ble_eq_true rfl) dX7_undo_17 (fun H locs hP hD hS => ?_)
    have hP : va_P G.1 vwCl (modelC G.2 a (vs v0 8 (fun _ => ((v0 8 0) - 1)))) H := hP
    have hD : va_D A (modelC G.2 a (vs v0 8 (fun _ => ((v0 8 0) - 1)))) := hD
    refine lv_iconst (v := 0) hx hb dX7_undo_20 (by decide) ?_
    refine lv_istore_n (lv' := [(1, .int 0), (0, .ref (a 0))]) hx hb dX7_undo_21 rfl hl (by decide) rfl (fun ls hl => ?_)
    exact L22 n0 (vs v0 8 (fun _ => ((v0 8 0) - 1))) 0 H locs ls hP hD hS (lv_sub hl [1, 0] rfl) hf
  · have hf := it_1 hf c
    refine lv_bipush (v := (-5)) hx hb dX7_undo_7 (by decide) ?_
    exact W.iret (v := (-5)) hx hb hr (fun t ht hW => ⟨⟨(-5), v0, rfl, hf0.trans hf.symm, by rw [ht]; exact hP, hD⟩, hS.F ht⟩) hS.2.2 dX7_undo_9
set_option maxHeartbeats 4000000 in
set_option maxRecDepth 100000 in
theorem ok_X7_save (l : Launch) (G : Gt) (a : Nat → Nat) (sz : Nat) (n0 : Nat) (v0 : DV) (p1 : Int32) (hne : f_X7_save n0 v0 p1 ≠ none) : Met l yX7_save wsX7_save ({ frames := 1, cells := 0, slots := 0, locals := 22 } : Room) (pcW G [.ref (a 0), .int p1] (modelC G.2 a v0) sz) (va_Qi (fun r (u : DV) => f_X7_save n0 v0 p1 = some (r, u)) (fun u t => atW G (modelC G.2 a u) (va_A (modelC G.2 a v0) sz) t) (va_A (modelC G.2 a v0) sz)) 0 0 (va_A (modelC G.2 a v0) sz) := by
  refine Met.ofW (cc := cX7_save) (maxL := 3) (ret := (some .int)) (by decide) rfl ?_
  intro p e s m args below meth c s₁ B hml hv
  obtain ⟨rfl, hsz, hP, hD0, hamb⟩ := hv
  have hx := B.exec
  have hb := B.bytes
  have hr := B.returns
  have hts := atoms_spec (ws := wsX7_save) B.pre
  have hown : s.vm.findClass RX7 = some m.cls := findClass_of_methodNamed B.named
  have hlocks := B.notSynchronized
  have hK := hamb.1
  subst hsz
  have hD := hD0.self (sz := s.heap.size)
  generalize hAe : va_A (modelC G.2 a v0) s.heap.size = A at hD ⊢
  have hA : ∀ q : Nat, s.heap.size ≤ q → A q := fun q h => by rw [← hAe]; exact Or.inr h
  have hS : va_S A s.heap s.heap [] := va_S.rf
  obtain ⟨res, hf0⟩ : ∃ res, f_X7_save n0 v0 p1 = res := ⟨_, rfl⟩
  have hne : res ≠ none := hf0 ▸ hne
  have hf := hf0
  rw [f_X7_save] at hf
  have hinX7 : ∀ w ∈ u_ws RX7 TX7 16, w ∈ wsX7_save := by decide +kernel
  have lk22 := hts (.fieldLink RX7 22 "MoodDrawersModel" "isSaved" "[Z") (by decide +kernel)
  have lk7 := hts (.fieldLink RX7 7 "MoodDrawersModel" "s" "[I") (by decide +kernel)
  have lk19 := hts (.fieldLink RX7 19 "MoodDrawersModel" "slots" "[I") (by decide +kernel)
  have hl := lv_entry ([.ref (a 0), .int p1]) (n := 3) (Nat.le_of_ble_eq_true rfl)
  rw [lg_entry_eq]
  generalize (lg_sl ([.ref (a 0), .int p1]) ++ List.replicate (3 - (lg_sl ([.ref (a 0), .int p1])).length) Slot.unset).toArray = ls at hl ⊢
  have hl : lv_has ls 3 [(0, .ref (a 0)), (1, .int p1)] := hl
  have L14 : ∀ (n : Nat) (v : DV) (x1 : Int32) (x2 : Int32) (H : Heap) (locs : List Loc) (ls : Array Slot), va_P G.1 vwCl (modelC G.2 a v) H → va_D A (modelC G.2 a v) → va_S A s.heap H locs → lv_has ls 3 [(0, .ref (a 0)), (1, .int x1), (2, .int x2)] → f_X7_save_L14 n v x1 x2 = res → W p l e (headSpec wsX7_save ({ frames := 1, cells := 0, slots := 0, locals := 22 } : Room)).room s m ([.ref (a 0), .int p1] : List Value).toArray below meth c H locs 0 0 (MQ below (va_Qi (fun r (u : DV) => f_X7_save n0 v0 p1 = some (r, u)) (fun u t => atW G (modelC G.2 a u) A t) A) ([.ref (a 0), .int p1] : List Value).toArray s 0 0 A) (F0 m 14 ls []) := by
    intro n
    induction n with
    | zero => intro v x1 x2 H locs ls hP hD hS hl hf; exact (none_1 hf hne).elim
    | succ n ih =>
      intro v x1 x2 H locs ls hP hD hS hl hf
      rw [f_X7_save_L14] at hf
      refine lv_iload_n hx hb dX7_save_14 rfl (lv_at hl 2 rfl) ?_
      refine lv_sipush (v := 240) hx hb dX7_save_15 (by decide) ?_
      refine lv_icmp_ge (tgt := 45) hx hb dX7_save_18 (by decide) (fun c => ?_) (fun c => ?_)
      · have hf := it_1 hf c
        refine lv_aload_n hx hb dX7_save_45 rfl (lv_at hl 0 rfl) ?_
        refine va_get (D := G.1) (ci := 7) (v := .ref (a 5)) (C := RX7) (T := TX7) (N := 16) hx hb hts hinX7 hown hK hP 0 rfl rfl 5 (by decide) lk22 (fun _ h9 => h9) rfl dX7_save_46 ?_
        refine lv_iload_n hx hb dX7_save_49 rfl (lv_at hl 1 rfl) ?_
        refine lv_iconst (v := 1) hx hb dX7_save_50 (by decide) ?_
        obtain ⟨hi, hf⟩ := ck_1 hf hne
        refine va_zast (f := (v 4)) hx hb hK hP hD hS 5 2 rfl rfl (ixb_1 hi) dX7_save_51 (fun H locs hP hD hS => ?_)
        obtain ⟨v51, hv, hf⟩ := lt_1 hf
        have hP : va_P G.1 vwCl (modelC G.2 a v51) H := by rw [hv]; exact hP
        have hD : va_D A (modelC G.2 a v51) := by rw [hv]; exact hD
        clear hv
        refine lv_aload_n hx hb dX7_save_52 rfl (lv_at hl 0 rfl) ?_
        refine va_get (D := G.1) (ci := 7) (v := .ref (a 1)) (C := RX7) (T := TX7) (N := 16) hx hb hts hinX7 hown hK hP 0 rfl rfl 0 (by decide) lk7 (fun _ h9 => h9) rfl dX7_save_53 ?_
        refine lv_iconst (v := 5) hx hb dX7_save_56 (by decide) ?_
        refine va_iald (f := (v51 0)) hx hb hK hP 1 0 rfl rfl (ixb_1 (show ixb 5 240 = true from rfl)) dX7_save_57 ?_
        exact W.iret (v := ((v51 0) (Int32.toNatClampNeg 5))) hx hb hr (fun t ht hW => ⟨⟨((v51 0) (Int32.toNatClampNeg 5)), v51, rfl, hf0.trans hf.symm, by rw [ht]; exact hP, hD⟩, hS.F ht⟩) hS.2.2 dX7_save_58
      · have hf := it_2 hf c
        refine lv_aload_n hx hb dX7_save_21 rfl (lv_at hl 0 rfl) ?_
        refine va_get (D := G.1) (ci := 7) (v := .ref (a 4)) (C := RX7) (T := TX7) (N := 16) hx hb hts hinX7 hown hK hP 0 rfl rfl 4 (by decide) lk19 (fun _ h9 => h9) rfl dX7_save_22 ?_
        refine lv_sipush (v := 240) hx hb dX7_save_25 (by decide) ?_
        refine lv_iload_n hx hb dX7_save_28 rfl (lv_at hl 1 rfl) ?_
        refine lv_imul hx hb dX7_save_29 ?_
        refine lv_iload_n hx hb dX7_save_30 rfl (lv_at hl 2 rfl) ?_
        refine lv_iadd hx hb dX7_save_31 ?_
        refine lv_aload_n hx hb dX7_save_32 rfl (lv_at hl 0 rfl) ?_
        refine va_get (D := G.1) (ci := 7) (v := .ref (a 1)) (C := RX7) (T := TX7) (N := 16) hx hb hts hinX7 hown hK hP 0 rfl rfl 0 (by decide) lk7 (fun _ h9 => h9) rfl dX7_save_33 ?_
        refine lv_iload_n hx hb dX7_save_36 rfl (lv_at hl 2 rfl) ?_
        obtain ⟨hi, hf⟩ := ck_1 hf hne
        refine va_iald (f := (v 0)) hx hb hK hP 1 0 rfl rfl (ixb_1 hi) dX7_save_37 ?_
        obtain ⟨hi, hf⟩ := ck_1 hf hne
        refine va_iast (f := (v 3)) hx hb hK hP hD hS 4 0 rfl rfl (ixb_1 hi) dX7_save_38 (fun H locs hP hD hS => ?_)
        obtain ⟨v38, hv, hf⟩ := lt_1 hf
        have hP : va_P G.1 vwCl (modelC G.2 a v38) H := by rw [hv]; exact hP
        have hD : va_D A (modelC G.2 a v38) := by rw [hv]; exact hD
        clear hv
        refine lv_iinc (v := (x2 + 1)) (lv' := [(2, .int (x2 + 1)), (0, .ref (a 0)), (1, .int x1)]) hx hb dX7_save_39 hl (k := 2) rfl rfl (by decide) rfl (fun ls hl => ?_)
        refine lv_goto (tgt := 14) hx hb dX7_save_42 (by decide) ?_
        exact ih v38 x1 (x2 + 1) H locs ls hP hD hS (lv_sub hl [1, 2, 0] rfl) hf
  refine lv_iload_n hx hb dX7_save_0 rfl (lv_at hl 1 rfl) ?_
  refine lv_iconst (v := 0) hx hb dX7_save_1 (by decide) ?_
  refine lv_iconst (v := 1) hx hb dX7_save_2 (by decide) ?_
  refine vp_callSi (W.runS (As := [.int p1, .int 0, .int 1]) (rest := []) ⟨hx, hb, hml, hown, hts⟩ (ok_X7_in l p1 0 1) (va_cwS 3 hts gX7_save_X7_in rfl rfl rfl (by decide +kernel) ⟨Nat.le_of_ble_eq_true rfl, Nat.le_of_ble_eq_true rfl⟩) ⟨fun _ _ _ _ q => q, fun _ _ _ => ⟨rfl, trivial⟩⟩ rfl rfl hl.1 rfl (lv_room (Nat.le_of_ble_eq_true rfl)) dX7_save_3 ⟨Nat.zero_le _, Nat.zero_le _⟩) (fun r3 hw => ?_)
  subst hw
  refine lv_if_ne (tgt := 12) hx hb dX7_save_6 (by decide) (fun c => ?_) (fun c => ?_)
  · have hf := it_2 hf c
    refine lv_iconst (v := 0) hx hb dX7_save_12 (by decide) ?_
    refine lv_istore_n (lv' := [(2, .int 0), (0, .ref (a 0)), (1, .int p1)]) hx hb dX7_save_13 rfl hl (by decide) rfl (fun ls hl => ?_)
    exact L14 n0 v0 p1 0 s.heap [] ls hP hD hS (lv_sub hl [1, 2, 0] rfl) hf
  · have hf := it_1 hf c
    refine lv_bipush (v := (-2)) hx hb dX7_save_9 (by decide) ?_
    exact W.iret (v := (-2)) hx hb hr (fun t ht hW => ⟨⟨(-2), v0, rfl, hf0.trans hf.symm, by rw [ht]; exact hP, hD⟩, hS.F ht⟩) hS.2.2 dX7_save_11
set_option maxHeartbeats 4000000 in
set_option maxRecDepth 100000 in
theorem ok_X7_restore (l : Launch) (G : Gt) (a : Nat → Nat) (sz : Nat) (n0 : Nat) (v0 : DV) (p1 : Int32) (hne : f_X7_restore n0 v0 p1 ≠ none) : Met l yX7_restore wsX7_restore ({ frames := 1, cells := 0, slots := 0, locals := 22 } : Room) (pcW G [.ref (a 0), .int p1] (modelC G.2 a v0) sz) (va_Qi (fun r (u : DV) => f_X7_restore n0 v0 p1 = some (r, u)) (fun u t => atW G (modelC G.2 a u) (va_A (modelC G.2 a v0) sz) t) (va_A (modelC G.2 a v0) sz)) 0 0 (va_A (modelC G.2 a v0) sz) := by
  refine Met.ofW (cc := cX7_restore) (maxL := 3) (ret := (some .int)) (by decide) rfl ?_
  intro p e s m args below meth c s₁ B hml hv
  obtain ⟨rfl, hsz, hP, hD0, hamb⟩ := hv
  have hx := B.exec
  have hb := B.bytes
  have hr := B.returns
  have hts := atoms_spec (ws := wsX7_restore) B.pre
  have hown : s.vm.findClass RX7 = some m.cls := findClass_of_methodNamed B.named
  have hlocks := B.notSynchronized
  have hK := hamb.1
  subst hsz
  have hD := hD0.self (sz := s.heap.size)
  generalize hAe : va_A (modelC G.2 a v0) s.heap.size = A at hD ⊢
  have hA : ∀ q : Nat, s.heap.size ≤ q → A q := fun q h => by rw [← hAe]; exact Or.inr h
  have hS : va_S A s.heap s.heap [] := va_S.rf
  obtain ⟨res, hf0⟩ : ∃ res, f_X7_restore n0 v0 p1 = res := ⟨_, rfl⟩
  have hne : res ≠ none := hf0 ▸ hne
  have hf := hf0
  rw [f_X7_restore] at hf
  have hinX7 : ∀ w ∈ u_ws RX7 TX7 16, w ∈ wsX7_restore := by decide +kernel
  have lk22 := hts (.fieldLink RX7 22 "MoodDrawersModel" "isSaved" "[Z") (by decide +kernel)
  have lk7 := hts (.fieldLink RX7 7 "MoodDrawersModel" "s" "[I") (by decide +kernel)
  have lk19 := hts (.fieldLink RX7 19 "MoodDrawersModel" "slots" "[I") (by decide +kernel)
  have hl := lv_entry ([.ref (a 0), .int p1]) (n := 3) (Nat.le_of_ble_eq_true rfl)
  rw [lg_entry_eq]
  generalize (lg_sl ([.ref (a 0), .int p1]) ++ List.replicate (3 - (lg_sl ([.ref (a 0), .int p1])).length) Slot.unset).toArray = ls at hl ⊢
  have hl : lv_has ls 3 [(0, .ref (a 0)), (1, .int p1)] := hl
  have L30 : ∀ (n : Nat) (v : DV) (x1 : Int32) (x2 : Int32) (H : Heap) (locs : List Loc) (ls : Array Slot), va_P G.1 vwCl (modelC G.2 a v) H → va_D A (modelC G.2 a v) → va_S A s.heap H locs → lv_has ls 3 [(0, .ref (a 0)), (1, .int x1), (2, .int x2)] → f_X7_restore_L30 n v x1 x2 = res → W p l e (headSpec wsX7_restore ({ frames := 1, cells := 0, slots := 0, locals := 22 } : Room)).room s m ([.ref (a 0), .int p1] : List Value).toArray below meth c H locs 0 0 (MQ below (va_Qi (fun r (u : DV) => f_X7_restore n0 v0 p1 = some (r, u)) (fun u t => atW G (modelC G.2 a u) A t) A) ([.ref (a 0), .int p1] : List Value).toArray s 0 0 A) (F0 m 30 ls []) := by
    intro n
    induction n with
    | zero => intro v x1 x2 H locs ls hP hD hS hl hf; exact (none_1 hf hne).elim
    | succ n ih =>
      intro v x1 x2 H locs ls hP hD hS hl hf
      rw [f_X7_restore_L30] at hf
      refine lv_iload_n hx hb dX7_restore_30 rfl (lv_at hl 2 rfl) ?_
      refine lv_sipush (v := 240) hx hb dX7_restore_31 (by decide) ?_
      refine lv_icmp_ge (tgt := 61) hx hb dX7_restore_34 (by decide) (fun c => ?_) (fun c => ?_)
      · have hf := it_1 hf c
        refine lv_aload_n hx hb dX7_restore_61 rfl (lv_at hl 0 rfl) ?_
        refine va_get (D := G.1) (ci := 7) (v := .ref (a 1)) (C := RX7) (T := TX7) (N := 16) hx hb hts hinX7 hown hK hP 0 rfl rfl 0 (by decide) lk7 (fun _ h9 => h9) rfl dX7_restore_62 ?_
        refine lv_iconst (v := 5) hx hb dX7_restore_65 (by decide) ?_
        refine va_iald (f := (v 0)) hx hb hK hP 1 0 rfl rfl (ixb_1 (show ixb 5 240 = true from rfl)) dX7_restore_66 ?_
        exact W.iret (v := ((v 0) (Int32.toNatClampNeg 5))) hx hb hr (fun t ht hW => ⟨⟨((v 0) (Int32.toNatClampNeg 5)), v, rfl, hf0.trans hf.symm, by rw [ht]; exact hP, hD⟩, hS.F ht⟩) hS.2.2 dX7_restore_67
      · have hf := it_2 hf c
        refine lv_aload_n hx hb dX7_restore_37 rfl (lv_at hl 0 rfl) ?_
        refine va_get (D := G.1) (ci := 7) (v := .ref (a 1)) (C := RX7) (T := TX7) (N := 16) hx hb hts hinX7 hown hK hP 0 rfl rfl 0 (by decide) lk7 (fun _ h9 => h9) rfl dX7_restore_38 ?_
        refine lv_iload_n hx hb dX7_restore_41 rfl (lv_at hl 2 rfl) ?_
        refine lv_aload_n hx hb dX7_restore_42 rfl (lv_at hl 0 rfl) ?_
        refine va_get (D := G.1) (ci := 7) (v := .ref (a 4)) (C := RX7) (T := TX7) (N := 16) hx hb hts hinX7 hown hK hP 0 rfl rfl 4 (by decide) lk19 (fun _ h9 => h9) rfl dX7_restore_43 ?_
        refine lv_sipush (v := 240) hx hb dX7_restore_46 (by decide) ?_
        refine lv_iload_n hx hb dX7_restore_49 rfl (lv_at hl 1 rfl) ?_
        refine lv_imul hx hb dX7_restore_50 ?_
        refine lv_iload_n hx hb dX7_restore_51 rfl (lv_at hl 2 rfl) ?_
        refine lv_iadd hx hb dX7_restore_52 ?_
        obtain ⟨hi, hf⟩ := ck_1 hf hne
        refine va_iald (f := (v 3)) hx hb hK hP 4 0 rfl rfl (ixb_1 hi) dX7_restore_53 ?_
        obtain ⟨hi, hf⟩ := ck_1 hf hne
        refine va_iast (f := (v 0)) hx hb hK hP hD hS 1 0 rfl rfl (ixb_1 hi) dX7_restore_54 (fun H locs hP hD hS => ?_)
        obtain ⟨v54, hv, hf⟩ := lt_1 hf
        have hP : va_P G.1 vwCl (modelC G.2 a v54) H := by rw [hv]; exact hP
        have hD : va_D A (modelC G.2 a v54) := by rw [hv]; exact hD
        clear hv
        refine lv_iinc (v := (x2 + 1)) (lv' := [(2, .int (x2 + 1)), (0, .ref (a 0)), (1, .int x1)]) hx hb dX7_restore_55 hl (k := 2) rfl rfl (by decide) rfl (fun ls hl => ?_)
        refine lv_goto (tgt := 30) hx hb dX7_restore_58 (by decide) ?_
        exact ih v54 x1 (x2 + 1) H locs ls hP hD hS (lv_sub hl [1, 2, 0] rfl) hf
  refine lv_iload_n hx hb dX7_restore_0 rfl (lv_at hl 1 rfl) ?_
  refine lv_iconst (v := 0) hx hb dX7_restore_1 (by decide) ?_
  refine lv_iconst (v := 1) hx hb dX7_restore_2 (by decide) ?_
  refine vp_callSi (W.runS (As := [.int p1, .int 0, .int 1]) (rest := []) ⟨hx, hb, hml, hown, hts⟩ (ok_X7_in l p1 0 1) (va_cwS 3 hts gX7_restore_X7_in rfl rfl rfl (by decide +kernel) ⟨Nat.le_of_ble_eq_true rfl, Nat.le_of_ble_eq_true rfl⟩) ⟨fun _ _ _ _ q => q, fun _ _ _ => ⟨rfl, trivial⟩⟩ rfl rfl hl.1 rfl (lv_room (Nat.le_of_ble_eq_true rfl)) dX7_restore_3 ⟨Nat.zero_le _, Nat.zero_le _⟩) (fun r3 hw => ?_)
  subst hw
  refine lv_if_ne (tgt := 12) hx hb dX7_restore_6 (by decide) (fun c => ?_) (fun c => ?_)
  · have hf := it_2 hf c
    refine lv_aload_n hx hb dX7_restore_12 rfl (lv_at hl 0 rfl) ?_
    refine va_get (D := G.1) (ci := 7) (v := .ref (a 5)) (C := RX7) (T := TX7) (N := 16) hx hb hts hinX7 hown hK hP 0 rfl rfl 5 (by decide) lk22 (fun _ h9 => h9) rfl dX7_restore_13 ?_
    refine lv_iload_n hx hb dX7_restore_16 rfl (lv_at hl 1 rfl) ?_
    obtain ⟨hi, hf⟩ := ck_1 hf hne
    refine va_zald (f := (v0 4)) hx hb hK hP 5 2 rfl rfl (ixb_1 hi) dX7_restore_17 ?_
    refine lv_if_ne (tgt := 24) hx hb dX7_restore_18 (by decide) (fun c => ?_) (fun c => ?_)
    · have hf := it_2 hf c
      refine lv_aload_n hx hb dX7_restore_24 rfl (lv_at hl 0 rfl) ?_
      have hn := bd1_1 hf hne
      refine cwv (va_runV (As := []) (rest := []) ⟨hx, hb, hml, hown, hts⟩ (ok_X7_know l G a s.heap.size n0 v0 hn) (cwV 0 hts gX7_restore_X7_know rfl rfl rfl (by decide +kernel) ⟨Nat.le_of_ble_eq_true rfl, Nat.le_of_ble_eq_true rfl⟩) ⟨pcW_blind, va_recv hK hP (ci := 7) (q0 := 0) rfl rfl, pcW_pre hP hD hamb⟩ rfl rfl hl.1 rfl (lv_room (Nat.le_of_ble_eq_true rfl)) dX7_restore_25 ⟨Nat.zero_le _, Nat.zero_le _⟩) (wr := []) hP hD hS hA [0, 1, 2, 3, 4, 5, 6, 7, 8] [] rfl rfl (by decide) (by decide) (fun v25 H locs hw hP hD hS => ?_)
      have hf := bd1_2 hf hw
      have hP : va_P G.1 vwCl (modelC G.2 a v25) H := hP
      have hD : va_D A (modelC G.2 a v25) := hD
      refine lv_iconst (v := 0) hx hb dX7_restore_28 (by decide) ?_
      refine lv_istore_n (lv' := [(2, .int 0), (0, .ref (a 0)), (1, .int p1)]) hx hb dX7_restore_29 rfl hl (by decide) rfl (fun ls hl => ?_)
      exact L30 n0 v25 p1 0 H locs ls hP hD hS (lv_sub hl [1, 2, 0] rfl) hf
    · have hf := it_1 hf c
      refine lv_bipush (v := (-5)) hx hb dX7_restore_21 (by decide) ?_
      exact W.iret (v := (-5)) hx hb hr (fun t ht hW => ⟨⟨(-5), v0, rfl, hf0.trans hf.symm, by rw [ht]; exact hP, hD⟩, hS.F ht⟩) hS.2.2 dX7_restore_23
  · have hf := it_1 hf c
    refine lv_bipush (v := (-2)) hx hb dX7_restore_9 (by decide) ?_
    exact W.iret (v := (-2)) hx hb hr (fun t ht hW => ⟨⟨(-2), v0, rfl, hf0.trans hf.symm, by rw [ht]; exact hP, hD⟩, hS.F ht⟩) hS.2.2 dX7_restore_11
