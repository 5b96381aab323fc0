set_option maxHeartbeats 4000000 in
set_option maxRecDepth 100000 in
theorem ok_L_areLettersSo (l : Launch) (G : Gt) (a : Nat → Nat) (sz : Nat) (n0 : Nat) (v0 : DV) (hne : f_L_areLettersSo n0 v0 ≠ none) : Met l yL_areLettersSo wsL_areLettersSo ({ frames := 5, cells := 1, slots := 30, locals := 132 } : Room) (pcW G [.ref (a 21)] (xcoreC G.2 a v0) sz) (va_Qi (fun r (u : DV) => f_L_areLettersSo n0 v0 = some (r, u)) (fun u t => atW G (xcoreC G.2 a u) (va_A (xcoreC G.2 a v0) sz) t) (va_A (xcoreC G.2 a v0) sz)) 1 30 (va_A (xcoreC G.2 a v0) sz) := by
  refine Met.ofW (cc := cL_areLettersSo) (maxL := 11) (ret := (some .boolean)) (by decide) rfl ?_
  intro p e s m args below meth c s₁ B hml hv
  obtain ⟨rfl, hsz, hP, hD0, hamb⟩ := hv
  have hx := B.exec
  have hb := B.bytes
  have hr := B.returns
  have hts := atoms_spec (ws := wsL_areLettersSo) B.pre
  have hown : s.vm.findClass RL = some m.cls := findClass_of_methodNamed B.named
  have hlocks := B.notSynchronized
  have hK := hamb.1
  subst hsz
  have hD := hD0.self (sz := s.heap.size)
  generalize hAe : va_A (xcoreC G.2 a v0) s.heap.size = A at hD ⊢
  have hA : ∀ q : Nat, s.heap.size ≤ q → A q := fun q h => by rw [← hAe]; exact Or.inr h
  have hS : va_S A s.heap s.heap [] := va_S.rf
  obtain ⟨res, hf0⟩ : ∃ res, f_L_areLettersSo n0 v0 = res := ⟨_, rfl⟩
  have hne : res ≠ none := hf0 ▸ hne
  have hf := hf0
  rw [f_L_areLettersSo] at hf
  have lw0 := hts (.arrayClass .int) (by decide +kernel)
  have hl := lv_entry ([.ref (a 21)]) (n := 11) (Nat.le_of_ble_eq_true rfl)
  rw [lg_entry_eq]
  generalize (lg_sl ([.ref (a 21)]) ++ List.replicate (11 - (lg_sl ([.ref (a 21)])).length) Slot.unset).toArray = ls at hl ⊢
  have hl : lv_has ls 11 [(0, .ref (a 21))] := hl
  have J396 : ∀ (k33 : DV → Int32 → Int32 → Option (Int32 × DV)) (hk33 : ∀ (q : Nat) (v : DV) (x1 : Int32) (x3 : Int32) (H : Heap) (locs : List Loc) (ls : Array Slot), va_P G.1 vwCl (xcoreC G.2 a v ++ [(q, .inl (G.2 0, 30, .inl (v 30)))]) H → va_D A (xcoreC G.2 a v ++ [(q, .inl (G.2 0, 30, .inl (v 30)))]) → va_S A s.heap H locs → lv_has ls 11 [(0, .ref (a 21)), (1, .int x1), (2, .ref (q)), (3, .int x3)] → k33 v x1 x3 = res → W p l e (headSpec wsL_areLettersSo ({ frames := 5, cells := 1, slots := 30, locals := 132 } : Room)).room s m ([.ref (a 21)] : List Value).toArray below meth c H locs 1 30 (MQ below (va_Qi (fun r (u : DV) => f_L_areLettersSo n0 v0 = some (r, u)) (fun u t => atW G (xcoreC G.2 a u) A t) A) ([.ref (a 21)] : List Value).toArray s 1 30 A) (F0 m 33 ls [])) (n : Nat) (q : Nat) (v : DV) (x3 : Int32) (x5 : Int32) (x8 : Int32) (z0 : Int32) (H : Heap) (locs : List Loc) (ls : Array Slot), va_P G.1 vwCl (xcoreC G.2 a v ++ [(q, .inl (G.2 0, 30, .inl (v 30)))]) H → va_D A (xcoreC G.2 a v ++ [(q, .inl (G.2 0, 30, .inl (v 30)))]) → va_S A s.heap H locs → lv_has ls 11 [(0, .ref (a 21)), (2, .ref (q)), (3, .int x3), (5, .int x5), (8, .int x8)] → f_L_areLettersSo_J396 k33 n v x3 x5 x8 z0 = res → W p l e (headSpec wsL_areLettersSo ({ frames := 5, cells := 1, slots := 30, locals := 132 } : Room)).room s m ([.ref (a 21)] : List Value).toArray below meth c H locs 1 30 (MQ below (va_Qi (fun r (u : DV) => f_L_areLettersSo n0 v0 = some (r, u)) (fun u t => atW G (xcoreC G.2 a u) A t) A) ([.ref (a 21)] : List Value).toArray s 1 30 A) (F0 m 396 ls [.int z0]) := by
    intro k33 hk33 n q v x3 x5 x8 z0 H locs ls hP hD hS hl hf
    rw [f_L_areLettersSo_J396] at hf
    refine lv_istore_n (lv' := [(1, .int z0), (0, .ref (a 21)), (2, .ref (q)), (3, .int x3), (5, .int x5), (8, .int x8)]) hx hb dL_areLettersSo_396 rfl hl (by decide) rfl (fun ls hl => ?_)
    refine lv_iload hx hb dL_areLettersSo_397 (lv_at hl 4 rfl) ?_
    refine lv_if_lt (tgt := 424) hx hb dL_areLettersSo_399 (by decide) (fun c => ?_) (fun c => ?_)
    · have hf := it_1 hf c
      refine lv_iinc (v := (x3 + (-1))) (lv' := [(3, .int (x3 + (-1))), (1, .int z0), (0, .ref (a 21)), (2, .ref (q)), (5, .int x5), (8, .int x8)]) hx hb dL_areLettersSo_424 hl (k := 3) rfl rfl (by decide) rfl (fun ls hl => ?_)
      refine lv_goto (tgt := 33) hx hb dL_areLettersSo_427 (by decide) ?_
      exact hk33 q v z0 (x3 + (-1)) H locs ls hP hD hS (lv_sub hl [2, 1, 3, 0] rfl) hf
    · have hf := it_2 hf c
      refine lv_aload_n hx hb dL_areLettersSo_402 rfl (lv_at hl 2 rfl) ?_
      refine lv_iload hx hb dL_areLettersSo_403 (lv_at hl 4 rfl) ?_
      refine lv_iload hx hb dL_areLettersSo_405 (lv_at hl 5 rfl) ?_
      refine lv_aload_n hx hb dL_areLettersSo_407 rfl (lv_at hl 2 rfl) ?_
      refine lv_iload hx hb dL_areLettersSo_408 (lv_at hl 4 rfl) ?_
      obtain ⟨hi, hf⟩ := ck_1 hf hne
      refine va_iald (f := (v 30)) hx hb hK hP 21 0 rfl rfl (ixb_1 hi) dL_areLettersSo_410 ?_
      refine lv_icmp_le (tgt := 419) hx hb dL_areLettersSo_411 (by decide) (fun c => ?_) (fun c => ?_)
      · have hf := it_1 hf c
        refine lv_aload_n hx hb dL_areLettersSo_419 rfl (lv_at hl 2 rfl) ?_
        refine lv_iload hx hb dL_areLettersSo_420 (lv_at hl 4 rfl) ?_
        obtain ⟨hi, hf⟩ := ck_1 hf hne
        refine va_iald (f := (v 30)) hx hb hK hP 21 0 rfl rfl (ixb_1 hi) dL_areLettersSo_422 ?_
        obtain ⟨hi, hf⟩ := ck_1 hf hne
        refine va_iast (f := (v 30)) hx hb hK hP hD hS 21 0 rfl rfl (ixb_1 hi) dL_areLettersSo_423 (fun H locs hP hD hS => ?_)
        have hP : va_P G.1 vwCl (xcoreC G.2 a (vs v 30 (upd (v 30) (Int32.toNatClampNeg x5) ((v 30) (Int32.toNatClampNeg x5)))) ++ [(q, .inl (G.2 0, 30, .inl ((vs v 30 (upd (v 30) (Int32.toNatClampNeg x5) ((v 30) (Int32.toNatClampNeg x5)))) 30)))]) H := hP
        have hD : va_D A (xcoreC G.2 a (vs v 30 (upd (v 30) (Int32.toNatClampNeg x5) ((v 30) (Int32.toNatClampNeg x5)))) ++ [(q, .inl (G.2 0, 30, .inl ((vs v 30 (upd (v 30) (Int32.toNatClampNeg x5) ((v 30) (Int32.toNatClampNeg x5)))) 30)))]) := hD
        refine lv_iinc (v := (x3 + (-1))) (lv' := [(3, .int (x3 + (-1))), (1, .int z0), (0, .ref (a 21)), (2, .ref (q)), (5, .int x5), (8, .int x8)]) hx hb dL_areLettersSo_424 hl (k := 3) rfl rfl (by decide) rfl (fun ls hl => ?_)
        refine lv_goto (tgt := 33) hx hb dL_areLettersSo_427 (by decide) ?_
        exact hk33 q (vs v 30 (upd (v 30) (Int32.toNatClampNeg x5) ((v 30) (Int32.toNatClampNeg x5)))) z0 (x3 + (-1)) H locs ls hP hD hS (lv_sub hl [2, 1, 3, 0] rfl) hf
      · have hf := it_2 hf c
        refine lv_iload hx hb dL_areLettersSo_414 (lv_at hl 5 rfl) ?_
        refine lv_goto (tgt := 423) hx hb dL_areLettersSo_416 (by decide) ?_
        obtain ⟨hi, hf⟩ := ck_1 hf hne
        refine va_iast (f := (v 30)) hx hb hK hP hD hS 21 0 rfl rfl (ixb_1 hi) dL_areLettersSo_423 (fun H locs hP hD hS => ?_)
        have hP : va_P G.1 vwCl (xcoreC G.2 a (vs v 30 (upd (v 30) (Int32.toNatClampNeg x5) x8)) ++ [(q, .inl (G.2 0, 30, .inl ((vs v 30 (upd (v 30) (Int32.toNatClampNeg x5) x8)) 30)))]) H := hP
        have hD : va_D A (xcoreC G.2 a (vs v 30 (upd (v 30) (Int32.toNatClampNeg x5) x8)) ++ [(q, .inl (G.2 0, 30, .inl ((vs v 30 (upd (v 30) (Int32.toNatClampNeg x5) x8)) 30)))]) := hD
        refine lv_iinc (v := (x3 + (-1))) (lv' := [(3, .int (x3 + (-1))), (1, .int z0), (0, .ref (a 21)), (2, .ref (q)), (5, .int x5), (8, .int x8)]) hx hb dL_areLettersSo_424 hl (k := 3) rfl rfl (by decide) rfl (fun ls hl => ?_)
        refine lv_goto (tgt := 33) hx hb dL_areLettersSo_427 (by decide) ?_
        exact hk33 q (vs v 30 (upd (v 30) (Int32.toNatClampNeg x5) x8)) z0 (x3 + (-1)) H locs ls hP hD hS (lv_sub hl [2, 1, 3, 0] rfl) hf
  have J395 : ∀ (k33 : DV → Int32 → Int32 → Option (Int32 × DV)) (hk33 : ∀ (q : Nat) (v : DV) (x1 : Int32) (x3 : Int32) (H : Heap) (locs : List Loc) (ls : Array Slot), va_P G.1 vwCl (xcoreC G.2 a v ++ [(q, .inl (G.2 0, 30, .inl (v 30)))]) H → va_D A (xcoreC G.2 a v ++ [(q, .inl (G.2 0, 30, .inl (v 30)))]) → va_S A s.heap H locs → lv_has ls 11 [(0, .ref (a 21)), (1, .int x1), (2, .ref (q)), (3, .int x3)] → k33 v x1 x3 = res → W p l e (headSpec wsL_areLettersSo ({ frames := 5, cells := 1, slots := 30, locals := 132 } : Room)).room s m ([.ref (a 21)] : List Value).toArray below meth c H locs 1 30 (MQ below (va_Qi (fun r (u : DV) => f_L_areLettersSo n0 v0 = some (r, u)) (fun u t => atW G (xcoreC G.2 a u) A t) A) ([.ref (a 21)] : List Value).toArray s 1 30 A) (F0 m 33 ls [])) (n : Nat) (q : Nat) (v : DV) (x3 : Int32) (x5 : Int32) (x8 : Int32) (H : Heap) (locs : List Loc) (ls : Array Slot), va_P G.1 vwCl (xcoreC G.2 a v ++ [(q, .inl (G.2 0, 30, .inl (v 30)))]) H → va_D A (xcoreC G.2 a v ++ [(q, .inl (G.2 0, 30, .inl (v 30)))]) → va_S A s.heap H locs → lv_has ls 11 [(0, .ref (a 21)), (2, .ref (q)), (3, .int x3), (5, .int x5), (8, .int x8)] → f_L_areLettersSo_J395 k33 n v x3 x5 x8 = res → W p l e (headSpec wsL_areLettersSo ({ frames := 5, cells := 1, slots := 30, locals := 132 } : Room)).room s m ([.ref (a 21)] : List Value).toArray below meth c H locs 1 30 (MQ below (va_Qi (fun r (u : DV) => f_L_areLettersSo n0 v0 = some (r, u)) (fun u t => atW G (xcoreC G.2 a u) A t) A) ([.ref (a 21)] : List Value).toArray s 1 30 A) (F0 m 395 ls []) := by
    intro k33 hk33 n q v x3 x5 x8 H locs ls hP hD hS hl hf
    rw [f_L_areLettersSo_J395] at hf
    refine lv_iconst (v := 0) hx hb dL_areLettersSo_395 (by decide) ?_
    exact J396 k33 hk33 n q v x3 x5 x8 0 H locs ls hP hD hS (lv_sub hl [0, 1, 2, 3, 4] rfl) hf
  have J372 : ∀ (k33 : DV → Int32 → Int32 → Option (Int32 × DV)) (hk33 : ∀ (q : Nat) (v : DV) (x1 : Int32) (x3 : Int32) (H : Heap) (locs : List Loc) (ls : Array Slot), va_P G.1 vwCl (xcoreC G.2 a v ++ [(q, .inl (G.2 0, 30, .inl (v 30)))]) H → va_D A (xcoreC G.2 a v ++ [(q, .inl (G.2 0, 30, .inl (v 30)))]) → va_S A s.heap H locs → lv_has ls 11 [(0, .ref (a 21)), (1, .int x1), (2, .ref (q)), (3, .int x3)] → k33 v x1 x3 = res → W p l e (headSpec wsL_areLettersSo ({ frames := 5, cells := 1, slots := 30, locals := 132 } : Room)).room s m ([.ref (a 21)] : List Value).toArray below meth c H locs 1 30 (MQ below (va_Qi (fun r (u : DV) => f_L_areLettersSo n0 v0 = some (r, u)) (fun u t => atW G (xcoreC G.2 a u) A t) A) ([.ref (a 21)] : List Value).toArray s 1 30 A) (F0 m 33 ls [])) (n : Nat) (q : Nat) (v : DV) (x3 : Int32) (x4 : Int32) (x5 : Int32) (x8 : Int32) (z0 : Int64) (z1 : Int64) (H : Heap) (locs : List Loc) (ls : Array Slot), va_P G.1 vwCl (xcoreC G.2 a v ++ [(q, .inl (G.2 0, 30, .inl (v 30)))]) H → va_D A (xcoreC G.2 a v ++ [(q, .inl (G.2 0, 30, .inl (v 30)))]) → va_S A s.heap H locs → lv_has ls 11 [(0, .ref (a 21)), (2, .ref (q)), (3, .int x3), (4, .int x4), (5, .int x5), (8, .int x8)] → f_L_areLettersSo_J372 k33 n v x3 x4 x5 x8 z0 z1 = res → W p l e (headSpec wsL_areLettersSo ({ frames := 5, cells := 1, slots := 30, locals := 132 } : Room)).room s m ([.ref (a 21)] : List Value).toArray below meth c H locs 1 30 (MQ below (va_Qi (fun r (u : DV) => f_L_areLettersSo n0 v0 = some (r, u)) (fun u t => atW G (xcoreC G.2 a u) A t) A) ([.ref (a 21)] : List Value).toArray s 1 30 A) (F0 m 372 ls [.long z0, .long z1]) := by
    intro k33 hk33 n q v x3 x4 x5 x8 z0 z1 H locs ls hP hD hS hl hf
    rw [f_L_areLettersSo_J372] at hf
    refine W.lcmp hx hb dL_areLettersSo_372 ?_
    refine lv_if_ne (tgt := 395) hx hb dL_areLettersSo_373 (by decide) (fun c => ?_) (fun c => ?_)
    · have hf := it_2 hf c
      exact J395 k33 hk33 n q v x3 x5 x8 H locs ls hP hD hS (lv_sub hl [0, 1, 2, 4, 5] rfl) hf
    · have hf := it_1 hf c
      refine lv_aload_n hx hb dL_areLettersSo_376 rfl (lv_at hl 0 rfl) ?_
      refine lv_iload hx hb dL_areLettersSo_377 (lv_at hl 3 rfl) ?_
      have hn := bd1_1 hf hne
      refine vp_callSl (W.runV (As := [.int x4]) (rest := []) ⟨hx, hb, hml, hown, hts⟩ (ok_X6_letters l G a n v x4 hn) (cwV 1 hts gL_areLettersSo_X6_letters rfl rfl rfl (by decide +kernel) ⟨Nat.le_of_ble_eq_true rfl, Nat.le_of_ble_eq_true rfl⟩) ⟨pcR_blind, va_recv hK (va_P_left hP) (ci := 6) (q0 := 0) rfl rfl, pcR_pre (va_P_left hP) hamb⟩ rfl rfl hl.1 rfl (lv_room (Nat.le_of_ble_eq_true rfl)) dL_areLettersSo_379 ⟨Nat.le_of_ble_eq_true rfl, Nat.le_of_ble_eq_true rfl⟩) (fun r379 hw => ?_)
      have hf := bd1_2 hf hw
      refine lv_iload_n hx hb dL_areLettersSo_382 rfl (lv_at hl 2 rfl) ?_
      refine lv_lshr hx hb dL_areLettersSo_383 rfl ?_
      refine lv_lconst (v := 1) hx hb dL_areLettersSo_384 (by decide) ?_
      refine lv_land hx hb dL_areLettersSo_385 ?_
      refine lv_lconst (v := 1) hx hb dL_areLettersSo_386 (by decide) ?_
      refine W.lcmp hx hb dL_areLettersSo_387 ?_
      refine lv_if_ne (tgt := 395) hx hb dL_areLettersSo_388 (by decide) (fun c => ?_) (fun c => ?_)
      · have hf := it_2 hf c
        exact J395 k33 hk33 n q v x3 x5 x8 H locs ls hP hD hS (lv_sub hl [0, 1, 2, 4, 5] rfl) hf
      · have hf := it_1 hf c
        refine lv_iconst (v := 1) hx hb dL_areLettersSo_391 (by decide) ?_
        refine lv_goto (tgt := 396) hx hb dL_areLettersSo_392 (by decide) ?_
        exact J396 k33 hk33 n q v x3 x5 x8 1 H locs ls hP hD hS (lv_sub hl [0, 1, 2, 4, 5] rfl) hf
  have J353 : ∀ (k33 : DV → Int32 → Int32 → Option (Int32 × DV)) (hk33 : ∀ (q : Nat) (v : DV) (x1 : Int32) (x3 : Int32) (H : Heap) (locs : List Loc) (ls : Array Slot), va_P G.1 vwCl (xcoreC G.2 a v ++ [(q, .inl (G.2 0, 30, .inl (v 30)))]) H → va_D A (xcoreC G.2 a v ++ [(q, .inl (G.2 0, 30, .inl (v 30)))]) → va_S A s.heap H locs → lv_has ls 11 [(0, .ref (a 21)), (1, .int x1), (2, .ref (q)), (3, .int x3)] → k33 v x1 x3 = res → W p l e (headSpec wsL_areLettersSo ({ frames := 5, cells := 1, slots := 30, locals := 132 } : Room)).room s m ([.ref (a 21)] : List Value).toArray below meth c H locs 1 30 (MQ below (va_Qi (fun r (u : DV) => f_L_areLettersSo n0 v0 = some (r, u)) (fun u t => atW G (xcoreC G.2 a u) A t) A) ([.ref (a 21)] : List Value).toArray s 1 30 A) (F0 m 33 ls [])) (n : Nat) (q : Nat) (v : DV) (x3 : Int32) (x4 : Int32) (x5 : Int32) (x8 : Int32) (x10 : Int32) (H : Heap) (locs : List Loc) (ls : Array Slot), va_P G.1 vwCl (xcoreC G.2 a v ++ [(q, .inl (G.2 0, 30, .inl (v 30)))]) H → va_D A (xcoreC G.2 a v ++ [(q, .inl (G.2 0, 30, .inl (v 30)))]) → va_S A s.heap H locs → lv_has ls 11 [(0, .ref (a 21)), (2, .ref (q)), (3, .int x3), (4, .int x4), (5, .int x5), (8, .int x8), (10, .int x10)] → f_L_areLettersSo_J353 k33 n v x3 x4 x5 x8 x10 = res → W p l e (headSpec wsL_areLettersSo ({ frames := 5, cells := 1, slots := 30, locals := 132 } : Room)).room s m ([.ref (a 21)] : List Value).toArray below meth c H locs 1 30 (MQ below (va_Qi (fun r (u : DV) => f_L_areLettersSo n0 v0 = some (r, u)) (fun u t => atW G (xcoreC G.2 a u) A t) A) ([.ref (a 21)] : List Value).toArray s 1 30 A) (F0 m 353 ls []) := by
    intro k33 hk33 n q v x3 x4 x5 x8 x10 H locs ls hP hD hS hl hf
    rw [f_L_areLettersSo_J353] at hf
    refine lv_aload_n hx hb dL_areLettersSo_353 rfl (lv_at hl 0 rfl) ?_
    refine lv_iconst (v := 3) hx hb dL_areLettersSo_354 (by decide) ?_
    have hn := bd1_1 hf hne
    refine vp_callSl (W.runV (As := [.int 3]) (rest := []) ⟨hx, hb, hml, hown, hts⟩ (ok_X6_letters l G a n v 3 hn) (cwV 1 hts gL_areLettersSo_X6_letters rfl rfl rfl (by decide +kernel) ⟨Nat.le_of_ble_eq_true rfl, Nat.le_of_ble_eq_true rfl⟩) ⟨pcR_blind, va_recv hK (va_P_left hP) (ci := 6) (q0 := 0) rfl rfl, pcR_pre (va_P_left hP) hamb⟩ rfl rfl hl.1 rfl (lv_room (Nat.le_of_ble_eq_true rfl)) dL_areLettersSo_355 ⟨Nat.le_of_ble_eq_true rfl, Nat.le_of_ble_eq_true rfl⟩) (fun r355 hw => ?_)
    have hf := bd1_2 hf hw
    refine lv_iload_n hx hb dL_areLettersSo_358 rfl (lv_at hl 2 rfl) ?_
    refine lv_lshr hx hb dL_areLettersSo_359 rfl ?_
    refine lv_lconst (v := 1) hx hb dL_areLettersSo_360 (by decide) ?_
    refine lv_land hx hb dL_areLettersSo_361 ?_
    refine lv_iload hx hb dL_areLettersSo_362 (lv_at hl 6 rfl) ?_
    refine lv_if_eq (tgt := 371) hx hb dL_areLettersSo_364 (by decide) (fun c => ?_) (fun c => ?_)
    · have hf := it_1 hf c
      refine lv_lconst (v := 0) hx hb dL_areLettersSo_371 (by decide) ?_
      exact J372 k33 hk33 n q v x3 x4 x5 x8 0 ((r355 >>> (Int32.toInt64 x3 &&& 63)) &&& 1) H locs ls hP hD hS (lv_sub hl [0, 1, 2, 3, 4, 5] rfl) hf
    · have hf := it_2 hf c
      refine lv_lconst (v := 1) hx hb dL_areLettersSo_367 (by decide) ?_
      refine lv_goto (tgt := 372) hx hb dL_areLettersSo_368 (by decide) ?_
      exact J372 k33 hk33 n q v x3 x4 x5 x8 1 ((r355 >>> (Int32.toInt64 x3 &&& 63)) &&& 1) H locs ls hP hD hS (lv_sub hl [0, 1, 2, 3, 4, 5] rfl) hf
  have J275 : ∀ (k33 : DV → Int32 → Int32 → Option (Int32 × DV)) (hk33 : ∀ (q : Nat) (v : DV) (x1 : Int32) (x3 : Int32) (H : Heap) (locs : List Loc) (ls : Array Slot), va_P G.1 vwCl (xcoreC G.2 a v ++ [(q, .inl (G.2 0, 30, .inl (v 30)))]) H → va_D A (xcoreC G.2 a v ++ [(q, .inl (G.2 0, 30, .inl (v 30)))]) → va_S A s.heap H locs → lv_has ls 11 [(0, .ref (a 21)), (1, .int x1), (2, .ref (q)), (3, .int x3)] → k33 v x1 x3 = res → W p l e (headSpec wsL_areLettersSo ({ frames := 5, cells := 1, slots := 30, locals := 132 } : Room)).room s m ([.ref (a 21)] : List Value).toArray below meth c H locs 1 30 (MQ below (va_Qi (fun r (u : DV) => f_L_areLettersSo n0 v0 = some (r, u)) (fun u t => atW G (xcoreC G.2 a u) A t) A) ([.ref (a 21)] : List Value).toArray s 1 30 A) (F0 m 33 ls [])) (n : Nat) (q : Nat) (v : DV) (x3 : Int32) (x4 : Int32) (x5 : Int32) (x8 : Int32) (x10 : Int32) (z0 : Int32) (H : Heap) (locs : List Loc) (ls : Array Slot), va_P G.1 vwCl (xcoreC G.2 a v ++ [(q, .inl (G.2 0, 30, .inl (v 30)))]) H → va_D A (xcoreC G.2 a v ++ [(q, .inl (G.2 0, 30, .inl (v 30)))]) → va_S A s.heap H locs → lv_has ls 11 [(0, .ref (a 21)), (2, .ref (q)), (3, .int x3), (4, .int x4), (5, .int x5), (8, .int x8), (10, .int x10)] → f_L_areLettersSo_J275 k33 n v x3 x4 x5 x8 x10 z0 = res → W p l e (headSpec wsL_areLettersSo ({ frames := 5, cells := 1, slots := 30, locals := 132 } : Room)).room s m ([.ref (a 21)] : List Value).toArray below meth c H locs 1 30 (MQ below (va_Qi (fun r (u : DV) => f_L_areLettersSo n0 v0 = some (r, u)) (fun u t => atW G (xcoreC G.2 a u) A t) A) ([.ref (a 21)] : List Value).toArray s 1 30 A) (F0 m 275 ls [.int z0]) := by
    intro k33 hk33 n q v x3 x4 x5 x8 x10 z0 H locs ls hP hD hS hl hf
    rw [f_L_areLettersSo_J275] at hf
    refine lv_istore_n (lv' := [(1, .int z0), (0, .ref (a 21)), (2, .ref (q)), (3, .int x3), (4, .int x4), (5, .int x5), (8, .int x8), (10, .int x10)]) hx hb dL_areLettersSo_275 rfl hl (by decide) rfl (fun ls hl => ?_)
    refine lv_iload_n hx hb dL_areLettersSo_276 rfl (lv_at hl 0 rfl) ?_
    refine lv_if_eq (tgt := 395) hx hb dL_areLettersSo_277 (by decide) (fun c => ?_) (fun c => ?_)
    · have hf := it_1 hf c
      exact J395 k33 hk33 n q v x3 x5 x8 H locs ls hP hD hS (lv_sub hl [1, 2, 3, 5, 6] rfl) hf
    · have hf := it_2 hf c
      refine lv_iload hx hb dL_areLettersSo_280 (lv_at hl 5 rfl) ?_
      refine lv_bipush (v := (-6)) hx hb dL_areLettersSo_282 (by decide) ?_
      refine lv_icmp_ne (tgt := 300) hx hb dL_areLettersSo_284 (by decide) (fun c => ?_) (fun c => ?_)
      · have hf := it_2 hf c
        refine lv_iload hx hb dL_areLettersSo_300 (lv_at hl 5 rfl) ?_
        refine lv_iload_n hx hb dL_areLettersSo_302 rfl (lv_at hl 3 rfl) ?_
        refine lv_icmp_ge (tgt := 395) hx hb dL_areLettersSo_303 (by decide) (fun c => ?_) (fun c => ?_)
        · have hf := it_1 hf c
          exact J395 k33 hk33 n q v x3 x5 x8 H locs ls hP hD hS (lv_sub hl [1, 2, 3, 5, 6] rfl) hf
        · have hf := it_2 hf c
          refine lv_aload_n hx hb dL_areLettersSo_306 rfl (lv_at hl 1 rfl) ?_
          refine lv_iload hx hb dL_areLettersSo_307 (lv_at hl 5 rfl) ?_
          refine lv_iconst (v := 4) hx hb dL_areLettersSo_309 (by decide) ?_
          have hn := bd2_1 hf hne
          refine cwiP (w1 := fun u : DV => xcoreC G.2 a u) (ws1 := fun u : DV => xcoreC G.2 a u ++ [(q, .inl (G.2 0, 30, .inl (v 30)))]) (va_runV (As := [.int x5, .int 4]) (rest := []) ⟨hx, hb, hml, hown, hts⟩ (ok_X6_ofLetter l G a H.size n v x5 4 hn) (cwV 2 hts gL_areLettersSo_X6_ofLetter rfl rfl rfl (by decide +kernel) ⟨Nat.le_of_ble_eq_true rfl, Nat.le_of_ble_eq_true rfl⟩) ⟨pcW_blind, va_recv hK (va_P_left hP) (ci := 6) (q0 := 0) rfl rfl, pcW_pre (va_P_left hP) (va_D_left hD) hamb⟩ rfl rfl hl.1 rfl (lv_room (Nat.le_of_ble_eq_true rfl)) dL_areLettersSo_310 ⟨Nat.le_of_ble_eq_true rfl, Nat.le_of_ble_eq_true rfl⟩) hP hD hS hA (List.Perm.refl _) (fun _ => List.Perm.refl _) (fun r310 v310 H locs hw hP hD hS => ?_)
          have hf := bd2_2 hf hw
          have hP : va_P G.1 vwCl (xcoreC G.2 a (vs v310 30 (v 30)) ++ [(q, .inl (G.2 0, 30, .inl ((vs v310 30 (v 30)) 30)))]) H := hP
          have hD : va_D A (xcoreC G.2 a (vs v310 30 (v 30)) ++ [(q, .inl (G.2 0, 30, .inl ((vs v310 30 (v 30)) 30)))]) := hD
          refine lv_iconst (v := 1) hx hb dL_areLettersSo_313 (by decide) ?_
          refine lv_icmp_ne (tgt := 395) hx hb dL_areLettersSo_314 (by decide) (fun c => ?_) (fun c => ?_)
          · have hf := it_2 hf c
            exact J395 k33 hk33 n q (vs v310 30 (v 30)) x3 x5 x8 H locs ls hP hD hS (lv_sub hl [1, 2, 3, 5, 6] rfl) hf
          · have hf := it_1 hf c
            refine lv_aload_n hx hb dL_areLettersSo_317 rfl (lv_at hl 1 rfl) ?_
            refine lv_iload_n hx hb dL_areLettersSo_318 rfl (lv_at hl 3 rfl) ?_
            refine lv_bipush (v := 9) hx hb dL_areLettersSo_319 (by decide) ?_
            have hn := bd2_1 hf hne
            refine cwiP (w1 := fun u : DV => xcoreC G.2 a u) (ws1 := fun u : DV => xcoreC G.2 a u ++ [(q, .inl (G.2 0, 30, .inl ((vs v310 30 (v 30)) 30)))]) (va_runV (As := [.int x3, .int 9]) (rest := []) ⟨hx, hb, hml, hown, hts⟩ (ok_X6_ofLetter l G a H.size n (vs v310 30 (v 30)) x3 9 hn) (cwV 2 hts gL_areLettersSo_X6_ofLetter rfl rfl rfl (by decide +kernel) ⟨Nat.le_of_ble_eq_true rfl, Nat.le_of_ble_eq_true rfl⟩) ⟨pcW_blind, va_recv hK (va_P_left hP) (ci := 6) (q0 := 0) rfl rfl, pcW_pre (va_P_left hP) (va_D_left hD) hamb⟩ rfl rfl hl.1 rfl (lv_room (Nat.le_of_ble_eq_true rfl)) dL_areLettersSo_321 ⟨Nat.le_of_ble_eq_true rfl, Nat.le_of_ble_eq_true rfl⟩) hP hD hS hA (List.Perm.refl _) (fun _ => List.Perm.refl _) (fun r321 v321 H locs hw hP hD hS => ?_)
            have hf := bd2_2 hf hw
            have hP : va_P G.1 vwCl (xcoreC G.2 a (vs v321 30 ((vs v310 30 (v 30)) 30)) ++ [(q, .inl (G.2 0, 30, .inl ((vs v321 30 ((vs v310 30 (v 30)) 30)) 30)))]) H := hP
            have hD : va_D A (xcoreC G.2 a (vs v321 30 ((vs v310 30 (v 30)) 30)) ++ [(q, .inl (G.2 0, 30, .inl ((vs v321 30 ((vs v310 30 (v 30)) 30)) 30)))]) := hD
            refine lv_aload_n hx hb dL_areLettersSo_324 rfl (lv_at hl 1 rfl) ?_
            refine lv_iload hx hb dL_areLettersSo_325 (lv_at hl 5 rfl) ?_
            refine lv_bipush (v := 9) hx hb dL_areLettersSo_327 (by decide) ?_
            have hn := bd2_1 hf hne
            refine cwiP (w1 := fun u : DV => xcoreC G.2 a u) (ws1 := fun u : DV => xcoreC G.2 a u ++ [(q, .inl (G.2 0, 30, .inl ((vs v321 30 ((vs v310 30 (v 30)) 30)) 30)))]) (va_runV (As := [.int x5, .int 9]) (rest := [.int r321]) ⟨hx, hb, hml, hown, hts⟩ (ok_X6_ofLetter l G a H.size n (vs v321 30 ((vs v310 30 (v 30)) 30)) x5 9 hn) (cwV 2 hts gL_areLettersSo_X6_ofLetter rfl rfl rfl (by decide +kernel) ⟨Nat.le_of_ble_eq_true rfl, Nat.le_of_ble_eq_true rfl⟩) ⟨pcW_blind, va_recv hK (va_P_left hP) (ci := 6) (q0 := 0) rfl rfl, pcW_pre (va_P_left hP) (va_D_left hD) hamb⟩ rfl rfl hl.1 rfl (lv_room (Nat.le_of_ble_eq_true rfl)) dL_areLettersSo_329 ⟨Nat.le_of_ble_eq_true rfl, Nat.le_of_ble_eq_true rfl⟩) hP hD hS hA (List.Perm.refl _) (fun _ => List.Perm.refl _) (fun r329 v329 H locs hw hP hD hS => ?_)
            have hf := bd2_2 hf hw
            have hP : va_P G.1 vwCl (xcoreC G.2 a (vs v329 30 ((vs v321 30 ((vs v310 30 (v 30)) 30)) 30)) ++ [(q, .inl (G.2 0, 30, .inl ((vs v329 30 ((vs v321 30 ((vs v310 30 (v 30)) 30)) 30)) 30)))]) H := hP
            have hD : va_D A (xcoreC G.2 a (vs v329 30 ((vs v321 30 ((vs v310 30 (v 30)) 30)) 30)) ++ [(q, .inl (G.2 0, 30, .inl ((vs v329 30 ((vs v321 30 ((vs v310 30 (v 30)) 30)) 30)) 30)))]) := hD
            refine lv_iconst (v := 1) hx hb dL_areLettersSo_332 (by decide) ?_
            refine lv_iadd hx hb dL_areLettersSo_333 ?_
            refine lv_icmp_ne (tgt := 395) hx hb dL_areLettersSo_334 (by decide) (fun c => ?_) (fun c => ?_)
            · have hf := it_2 hf c
              exact J395 k33 hk33 n q (vs v329 30 ((vs v321 30 ((vs v310 30 (v 30)) 30)) 30)) x3 x5 x8 H locs ls hP hD hS (lv_sub hl [1, 2, 3, 5, 6] rfl) hf
            · have hf := it_1 hf c
              refine lv_aload_n hx hb dL_areLettersSo_337 rfl (lv_at hl 1 rfl) ?_
              refine lv_iload hx hb dL_areLettersSo_338 (lv_at hl 5 rfl) ?_
              refine lv_iconst (v := 5) hx hb dL_areLettersSo_340 (by decide) ?_
              have hn := bd2_1 hf hne
              refine cwiP (w1 := fun u : DV => xcoreC G.2 a u) (ws1 := fun u : DV => xcoreC G.2 a u ++ [(q, .inl (G.2 0, 30, .inl ((vs v329 30 ((vs v321 30 ((vs v310 30 (v 30)) 30)) 30)) 30)))]) (va_runV (As := [.int x5, .int 5]) (rest := []) ⟨hx, hb, hml, hown, hts⟩ (ok_X6_ofLetter l G a H.size n (vs v329 30 ((vs v321 30 ((vs v310 30 (v 30)) 30)) 30)) x5 5 hn) (cwV 2 hts gL_areLettersSo_X6_ofLetter rfl rfl rfl (by decide +kernel) ⟨Nat.le_of_ble_eq_true rfl, Nat.le_of_ble_eq_true rfl⟩) ⟨pcW_blind, va_recv hK (va_P_left hP) (ci := 6) (q0 := 0) rfl rfl, pcW_pre (va_P_left hP) (va_D_left hD) hamb⟩ rfl rfl hl.1 rfl (lv_room (Nat.le_of_ble_eq_true rfl)) dL_areLettersSo_341 ⟨Nat.le_of_ble_eq_true rfl, Nat.le_of_ble_eq_true rfl⟩) hP hD hS hA (List.Perm.refl _) (fun _ => List.Perm.refl _) (fun r341 v341 H locs hw hP hD hS => ?_)
              have hf := bd2_2 hf hw
              have hP : va_P G.1 vwCl (xcoreC G.2 a (vs v341 30 ((vs v329 30 ((vs v321 30 ((vs v310 30 (v 30)) 30)) 30)) 30)) ++ [(q, .inl (G.2 0, 30, .inl ((vs v341 30 ((vs v329 30 ((vs v321 30 ((vs v310 30 (v 30)) 30)) 30)) 30)) 30)))]) H := hP
              have hD : va_D A (xcoreC G.2 a (vs v341 30 ((vs v329 30 ((vs v321 30 ((vs v310 30 (v 30)) 30)) 30)) 30)) ++ [(q, .inl (G.2 0, 30, .inl ((vs v341 30 ((vs v329 30 ((vs v321 30 ((vs v310 30 (v 30)) 30)) 30)) 30)) 30)))]) := hD
              refine lv_aload_n hx hb dL_areLettersSo_344 rfl (lv_at hl 1 rfl) ?_
              refine lv_iload_n hx hb dL_areLettersSo_345 rfl (lv_at hl 3 rfl) ?_
              refine lv_iconst (v := 3) hx hb dL_areLettersSo_346 (by decide) ?_
              have hn := bd2_1 hf hne
              refine cwiP (w1 := fun u : DV => xcoreC G.2 a u) (ws1 := fun u : DV => xcoreC G.2 a u ++ [(q, .inl (G.2 0, 30, .inl ((vs v341 30 ((vs v329 30 ((vs v321 30 ((vs v310 30 (v 30)) 30)) 30)) 30)) 30)))]) (va_runV (As := [.int x3, .int 3]) (rest := [.int r341]) ⟨hx, hb, hml, hown, hts⟩ (ok_X6_ofLetter l G a H.size n (vs v341 30 ((vs v329 30 ((vs v321 30 ((vs v310 30 (v 30)) 30)) 30)) 30)) x3 3 hn) (cwV 2 hts gL_areLettersSo_X6_ofLetter rfl rfl rfl (by decide +kernel) ⟨Nat.le_of_ble_eq_true rfl, Nat.le_of_ble_eq_true rfl⟩) ⟨pcW_blind, va_recv hK (va_P_left hP) (ci := 6) (q0 := 0) rfl rfl, pcW_pre (va_P_left hP) (va_D_left hD) hamb⟩ rfl rfl hl.1 rfl (lv_room (Nat.le_of_ble_eq_true rfl)) dL_areLettersSo_347 ⟨Nat.le_of_ble_eq_true rfl, Nat.le_of_ble_eq_true rfl⟩) hP hD hS hA (List.Perm.refl _) (fun _ => List.Perm.refl _) (fun r347 v347 H locs hw hP hD hS => ?_)
              have hf := bd2_2 hf hw
              have hP : va_P G.1 vwCl (xcoreC G.2 a (vs v347 30 ((vs v341 30 ((vs v329 30 ((vs v321 30 ((vs v310 30 (v 30)) 30)) 30)) 30)) 30)) ++ [(q, .inl (G.2 0, 30, .inl ((vs v347 30 ((vs v341 30 ((vs v329 30 ((vs v321 30 ((vs v310 30 (v 30)) 30)) 30)) 30)) 30)) 30)))]) H := hP
              have hD : va_D A (xcoreC G.2 a (vs v347 30 ((vs v341 30 ((vs v329 30 ((vs v321 30 ((vs v310 30 (v 30)) 30)) 30)) 30)) 30)) ++ [(q, .inl (G.2 0, 30, .inl ((vs v347 30 ((vs v341 30 ((vs v329 30 ((vs v321 30 ((vs v310 30 (v 30)) 30)) 30)) 30)) 30)) 30)))]) := hD
              refine lv_icmp_gt (tgt := 395) hx hb dL_areLettersSo_350 (by decide) (fun c => ?_) (fun c => ?_)
              · have hf := it_1 hf c
                exact J395 k33 hk33 n q (vs v347 30 ((vs v341 30 ((vs v329 30 ((vs v321 30 ((vs v310 30 (v 30)) 30)) 30)) 30)) 30)) x3 x5 x8 H locs ls hP hD hS (lv_sub hl [1, 2, 3, 5, 6] rfl) hf
              · have hf := it_2 hf c
                exact J353 k33 hk33 n q (vs v347 30 ((vs v341 30 ((vs v329 30 ((vs v321 30 ((vs v310 30 (v 30)) 30)) 30)) 30)) 30)) x3 x4 x5 x8 x10 H locs ls hP hD hS (lv_sub hl [1, 2, 3, 4, 5, 6, 7] rfl) hf
      · have hf := it_1 hf c
        refine lv_aload_n hx hb dL_areLettersSo_287 rfl (lv_at hl 1 rfl) ?_
        refine lv_iload_n hx hb dL_areLettersSo_288 rfl (lv_at hl 3 rfl) ?_
        refine lv_bipush (v := 9) hx hb dL_areLettersSo_289 (by decide) ?_
        have hn := bd2_1 hf hne
        refine cwiP (w1 := fun u : DV => xcoreC G.2 a u) (ws1 := fun u : DV => xcoreC G.2 a u ++ [(q, .inl (G.2 0, 30, .inl (v 30)))]) (va_runV (As := [.int x3, .int 9]) (rest := []) ⟨hx, hb, hml, hown, hts⟩ (ok_X6_ofLetter l G a H.size n v x3 9 hn) (cwV 2 hts gL_areLettersSo_X6_ofLetter rfl rfl rfl (by decide +kernel) ⟨Nat.le_of_ble_eq_true rfl, Nat.le_of_ble_eq_true rfl⟩) ⟨pcW_blind, va_recv hK (va_P_left hP) (ci := 6) (q0 := 0) rfl rfl, pcW_pre (va_P_left hP) (va_D_left hD) hamb⟩ rfl rfl hl.1 rfl (lv_room (Nat.le_of_ble_eq_true rfl)) dL_areLettersSo_291 ⟨Nat.le_of_ble_eq_true rfl, Nat.le_of_ble_eq_true rfl⟩) hP hD hS hA (List.Perm.refl _) (fun _ => List.Perm.refl _) (fun r291 v291 H locs hw hP hD hS => ?_)
        have hf := bd2_2 hf hw
        have hP : va_P G.1 vwCl (xcoreC G.2 a (vs v291 30 (v 30)) ++ [(q, .inl (G.2 0, 30, .inl ((vs v291 30 (v 30)) 30)))]) H := hP
        have hD : va_D A (xcoreC G.2 a (vs v291 30 (v 30)) ++ [(q, .inl (G.2 0, 30, .inl ((vs v291 30 (v 30)) 30)))]) := hD
        refine lv_if_ne (tgt := 395) hx hb dL_areLettersSo_294 (by decide) (fun c => ?_) (fun c => ?_)
        · have hf := it_2 hf c
          exact J395 k33 hk33 n q (vs v291 30 (v 30)) x3 x5 x8 H locs ls hP hD hS (lv_sub hl [1, 2, 3, 5, 6] rfl) hf
        · have hf := it_1 hf c
          refine lv_goto (tgt := 353) hx hb dL_areLettersSo_297 (by decide) ?_
          exact J353 k33 hk33 n q (vs v291 30 (v 30)) x3 x4 x5 x8 x10 H locs ls hP hD hS (lv_sub hl [1, 2, 3, 4, 5, 6, 7] rfl) hf
  have J274 : ∀ (k33 : DV → Int32 → Int32 → Option (Int32 × DV)) (hk33 : ∀ (q : Nat) (v : DV) (x1 : Int32) (x3 : Int32) (H : Heap) (locs : List Loc) (ls : Array Slot), va_P G.1 vwCl (xcoreC G.2 a v ++ [(q, .inl (G.2 0, 30, .inl (v 30)))]) H → va_D A (xcoreC G.2 a v ++ [(q, .inl (G.2 0, 30, .inl (v 30)))]) → va_S A s.heap H locs → lv_has ls 11 [(0, .ref (a 21)), (1, .int x1), (2, .ref (q)), (3, .int x3)] → k33 v x1 x3 = res → W p l e (headSpec wsL_areLettersSo ({ frames := 5, cells := 1, slots := 30, locals := 132 } : Room)).room s m ([.ref (a 21)] : List Value).toArray below meth c H locs 1 30 (MQ below (va_Qi (fun r (u : DV) => f_L_areLettersSo n0 v0 = some (r, u)) (fun u t => atW G (xcoreC G.2 a u) A t) A) ([.ref (a 21)] : List Value).toArray s 1 30 A) (F0 m 33 ls [])) (n : Nat) (q : Nat) (v : DV) (x3 : Int32) (x4 : Int32) (x5 : Int32) (x8 : Int32) (x10 : Int32) (H : Heap) (locs : List Loc) (ls : Array Slot), va_P G.1 vwCl (xcoreC G.2 a v ++ [(q, .inl (G.2 0, 30, .inl (v 30)))]) H → va_D A (xcoreC G.2 a v ++ [(q, .inl (G.2 0, 30, .inl (v 30)))]) → va_S A s.heap H locs → lv_has ls 11 [(0, .ref (a 21)), (2, .ref (q)), (3, .int x3), (4, .int x4), (5, .int x5), (8, .int x8), (10, .int x10)] → f_L_areLettersSo_J274 k33 n v x3 x4 x5 x8 x10 = res → W p l e (headSpec wsL_areLettersSo ({ frames := 5, cells := 1, slots := 30, locals := 132 } : Room)).room s m ([.ref (a 21)] : List Value).toArray below meth c H locs 1 30 (MQ below (va_Qi (fun r (u : DV) => f_L_areLettersSo n0 v0 = some (r, u)) (fun u t => atW G (xcoreC G.2 a u) A t) A) ([.ref (a 21)] : List Value).toArray s 1 30 A) (F0 m 274 ls []) := by
    intro k33 hk33 n q v x3 x4 x5 x8 x10 H locs ls hP hD hS hl hf
    rw [f_L_areLettersSo_J274] at hf
    refine lv_iconst (v := 0) hx hb dL_areLettersSo_274 (by decide) ?_
    exact J275 k33 hk33 n q v x3 x4 x5 x8 x10 0 H locs ls hP hD hS (lv_sub hl [0, 1, 2, 3, 4, 5, 6] rfl) hf
  have J267 : ∀ (k33 : DV → Int32 → Int32 → Option (Int32 × DV)) (hk33 : ∀ (q : Nat) (v : DV) (x1 : Int32) (x3 : Int32) (H : Heap) (locs : List Loc) (ls : Array Slot), va_P G.1 vwCl (xcoreC G.2 a v ++ [(q, .inl (G.2 0, 30, .inl (v 30)))]) H → va_D A (xcoreC G.2 a v ++ [(q, .inl (G.2 0, 30, .inl (v 30)))]) → va_S A s.heap H locs → lv_has ls 11 [(0, .ref (a 21)), (1, .int x1), (2, .ref (q)), (3, .int x3)] → k33 v x1 x3 = res → W p l e (headSpec wsL_areLettersSo ({ frames := 5, cells := 1, slots := 30, locals := 132 } : Room)).room s m ([.ref (a 21)] : List Value).toArray below meth c H locs 1 30 (MQ below (va_Qi (fun r (u : DV) => f_L_areLettersSo n0 v0 = some (r, u)) (fun u t => atW G (xcoreC G.2 a u) A t) A) ([.ref (a 21)] : List Value).toArray s 1 30 A) (F0 m 33 ls [])) (n : Nat) (q : Nat) (v : DV) (x3 : Int32) (x4 : Int32) (x5 : Int32) (x8 : Int32) (x10 : Int32) (z0 : Int32) (z1 : Int32) (H : Heap) (locs : List Loc) (ls : Array Slot), va_P G.1 vwCl (xcoreC G.2 a v ++ [(q, .inl (G.2 0, 30, .inl (v 30)))]) H → va_D A (xcoreC G.2 a v ++ [(q, .inl (G.2 0, 30, .inl (v 30)))]) → va_S A s.heap H locs → lv_has ls 11 [(0, .ref (a 21)), (2, .ref (q)), (3, .int x3), (4, .int x4), (5, .int x5), (8, .int x8), (10, .int x10)] → f_L_areLettersSo_J267 k33 n v x3 x4 x5 x8 x10 z0 z1 = res → W p l e (headSpec wsL_areLettersSo ({ frames := 5, cells := 1, slots := 30, locals := 132 } : Room)).room s m ([.ref (a 21)] : List Value).toArray below meth c H locs 1 30 (MQ below (va_Qi (fun r (u : DV) => f_L_areLettersSo n0 v0 = some (r, u)) (fun u t => atW G (xcoreC G.2 a u) A t) A) ([.ref (a 21)] : List Value).toArray s 1 30 A) (F0 m 267 ls [.int z0, .int z1]) := by
    intro k33 hk33 n q v x3 x4 x5 x8 x10 z0 z1 H locs ls hP hD hS hl hf
    rw [f_L_areLettersSo_J267] at hf
    refine lv_icmp_ne (tgt := 274) hx hb dL_areLettersSo_267 (by decide) (fun c => ?_) (fun c => ?_)
    · have hf := it_2 hf c
      exact J274 k33 hk33 n q v x3 x4 x5 x8 x10 H locs ls hP hD hS (lv_sub hl [0, 1, 2, 3, 4, 5, 6] rfl) hf
    · have hf := it_1 hf c
      refine lv_iconst (v := 1) hx hb dL_areLettersSo_270 (by decide) ?_
      refine lv_goto (tgt := 275) hx hb dL_areLettersSo_271 (by decide) ?_
      exact J275 k33 hk33 n q v x3 x4 x5 x8 x10 1 H locs ls hP hD hS (lv_sub hl [0, 1, 2, 3, 4, 5, 6] rfl) hf
  have J225 : ∀ (k33 : DV → Int32 → Int32 → Option (Int32 × DV)) (hk33 : ∀ (q : Nat) (v : DV) (x1 : Int32) (x3 : Int32) (H : Heap) (locs : List Loc) (ls : Array Slot), va_P G.1 vwCl (xcoreC G.2 a v ++ [(q, .inl (G.2 0, 30, .inl (v 30)))]) H → va_D A (xcoreC G.2 a v ++ [(q, .inl (G.2 0, 30, .inl (v 30)))]) → va_S A s.heap H locs → lv_has ls 11 [(0, .ref (a 21)), (1, .int x1), (2, .ref (q)), (3, .int x3)] → k33 v x1 x3 = res → W p l e (headSpec wsL_areLettersSo ({ frames := 5, cells := 1, slots := 30, locals := 132 } : Room)).room s m ([.ref (a 21)] : List Value).toArray below meth c H locs 1 30 (MQ below (va_Qi (fun r (u : DV) => f_L_areLettersSo n0 v0 = some (r, u)) (fun u t => atW G (xcoreC G.2 a u) A t) A) ([.ref (a 21)] : List Value).toArray s 1 30 A) (F0 m 33 ls [])) (n : Nat) (q : Nat) (v : DV) (x3 : Int32) (x4 : Int32) (x5 : Int32) (x8 : Int32) (x10 : Int32) (z0 : Int32) (z1 : Int32) (H : Heap) (locs : List Loc) (ls : Array Slot), va_P G.1 vwCl (xcoreC G.2 a v ++ [(q, .inl (G.2 0, 30, .inl (v 30)))]) H → va_D A (xcoreC G.2 a v ++ [(q, .inl (G.2 0, 30, .inl (v 30)))]) → va_S A s.heap H locs → lv_has ls 11 [(0, .ref (a 21)), (2, .ref (q)), (3, .int x3), (4, .int x4), (5, .int x5), (8, .int x8), (10, .int x10)] → f_L_areLettersSo_J225 k33 n v x3 x4 x5 x8 x10 z0 z1 = res → W p l e (headSpec wsL_areLettersSo ({ frames := 5, cells := 1, slots := 30, locals := 132 } : Room)).room s m ([.ref (a 21)] : List Value).toArray below meth c H locs 1 30 (MQ below (va_Qi (fun r (u : DV) => f_L_areLettersSo n0 v0 = some (r, u)) (fun u t => atW G (xcoreC G.2 a u) A t) A) ([.ref (a 21)] : List Value).toArray s 1 30 A) (F0 m 225 ls [.int z0, .int z1]) := by
    intro k33 hk33 n q v x3 x4 x5 x8 x10 z0 z1 H locs ls hP hD hS hl hf
    rw [f_L_areLettersSo_J225] at hf
    refine lv_icmp_ne (tgt := 274) hx hb dL_areLettersSo_225 (by decide) (fun c => ?_) (fun c => ?_)
    · have hf := it_2 hf c
      exact J274 k33 hk33 n q v x3 x4 x5 x8 x10 H locs ls hP hD hS (lv_sub hl [0, 1, 2, 3, 4, 5, 6] rfl) hf
    · have hf := it_1 hf c
      refine lv_aload_n hx hb dL_areLettersSo_228 rfl (lv_at hl 0 rfl) ?_
      refine lv_iload_n hx hb dL_areLettersSo_229 rfl (lv_at hl 2 rfl) ?_
      refine lv_iconst (v := 2) hx hb dL_areLettersSo_230 (by decide) ?_
      have hn := bd2_1 hf hne
      refine cwiP (w1 := fun u : DV => xcoreC G.2 a u) (ws1 := fun u : DV => xcoreC G.2 a u ++ [(q, .inl (G.2 0, 30, .inl (v 30)))]) (va_runV (As := [.int x3, .int 2]) (rest := []) ⟨hx, hb, hml, hown, hts⟩ (ok_X6_ofLetter l G a H.size n v x3 2 hn) (cwV 2 hts gL_areLettersSo_X6_ofLetter rfl rfl rfl (by decide +kernel) ⟨Nat.le_of_ble_eq_true rfl, Nat.le_of_ble_eq_true rfl⟩) ⟨pcW_blind, va_recv hK (va_P_left hP) (ci := 6) (q0 := 0) rfl rfl, pcW_pre (va_P_left hP) (va_D_left hD) hamb⟩ rfl rfl hl.1 rfl (lv_room (Nat.le_of_ble_eq_true rfl)) dL_areLettersSo_231 ⟨Nat.le_of_ble_eq_true rfl, Nat.le_of_ble_eq_true rfl⟩) hP hD hS hA (List.Perm.refl _) (fun _ => List.Perm.refl _) (fun r231 v231 H locs hw hP hD hS => ?_)
      have hf := bd2_2 hf hw
      have hP : va_P G.1 vwCl (xcoreC G.2 a (vs v231 30 (v 30)) ++ [(q, .inl (G.2 0, 30, .inl ((vs v231 30 (v 30)) 30)))]) H := hP
      have hD : va_D A (xcoreC G.2 a (vs v231 30 (v 30)) ++ [(q, .inl (G.2 0, 30, .inl ((vs v231 30 (v 30)) 30)))]) := hD
      refine lv_aload_n hx hb dL_areLettersSo_234 rfl (lv_at hl 0 rfl) ?_
      refine lv_iload_n hx hb dL_areLettersSo_235 rfl (lv_at hl 2 rfl) ?_
      refine lv_iconst (v := 1) hx hb dL_areLettersSo_236 (by decide) ?_
      have hn := bd2_1 hf hne
      refine cwiP (w1 := fun u : DV => xcoreC G.2 a u) (ws1 := fun u : DV => xcoreC G.2 a u ++ [(q, .inl (G.2 0, 30, .inl ((vs v231 30 (v 30)) 30)))]) (va_runV (As := [.int x3, .int 1]) (rest := [.int r231]) ⟨hx, hb, hml, hown, hts⟩ (ok_X6_ofLetter l G a H.size n (vs v231 30 (v 30)) x3 1 hn) (cwV 2 hts gL_areLettersSo_X6_ofLetter rfl rfl rfl (by decide +kernel) ⟨Nat.le_of_ble_eq_true rfl, Nat.le_of_ble_eq_true rfl⟩) ⟨pcW_blind, va_recv hK (va_P_left hP) (ci := 6) (q0 := 0) rfl rfl, pcW_pre (va_P_left hP) (va_D_left hD) hamb⟩ rfl rfl hl.1 rfl (lv_room (Nat.le_of_ble_eq_true rfl)) dL_areLettersSo_237 ⟨Nat.le_of_ble_eq_true rfl, Nat.le_of_ble_eq_true rfl⟩) hP hD hS hA (List.Perm.refl _) (fun _ => List.Perm.refl _) (fun r237 v237 H locs hw hP hD hS => ?_)
      have hf := bd2_2 hf hw
      have hP : va_P G.1 vwCl (xcoreC G.2 a (vs v237 30 ((vs v231 30 (v 30)) 30)) ++ [(q, .inl (G.2 0, 30, .inl ((vs v237 30 ((vs v231 30 (v 30)) 30)) 30)))]) H := hP
      have hD : va_D A (xcoreC G.2 a (vs v237 30 ((vs v231 30 (v 30)) 30)) ++ [(q, .inl (G.2 0, 30, .inl ((vs v237 30 ((vs v231 30 (v 30)) 30)) 30)))]) := hD
      refine lv_icmp_gt (tgt := 274) hx hb dL_areLettersSo_240 (by decide) (fun c => ?_) (fun c => ?_)
      · have hf := it_1 hf c
        exact J274 k33 hk33 n q (vs v237 30 ((vs v231 30 (v 30)) 30)) x3 x4 x5 x8 x10 H locs ls hP hD hS (lv_sub hl [0, 1, 2, 3, 4, 5, 6] rfl) hf
      · have hf := it_2 hf c
        refine lv_iload hx hb dL_areLettersSo_243 (lv_at hl 5 rfl) ?_
        refine lv_iload hx hb dL_areLettersSo_245 (lv_at hl 3 rfl) ?_
        refine lv_iconst (v := 1) hx hb dL_areLettersSo_247 (by decide) ?_
        refine lv_icmp_ne (tgt := 266) hx hb dL_areLettersSo_248 (by decide) (fun c => ?_) (fun c => ?_)
        · have hf := it_2 hf c
          refine lv_iconst (v := 0) hx hb dL_areLettersSo_266 (by decide) ?_
          exact J267 k33 hk33 n q (vs v237 30 ((vs v231 30 (v 30)) 30)) x3 x4 x5 x8 x10 0 x8 H locs ls hP hD hS (lv_sub hl [0, 1, 2, 3, 4, 5, 6] rfl) hf
        · have hf := it_1 hf c
          refine lv_aload_n hx hb dL_areLettersSo_251 rfl (lv_at hl 0 rfl) ?_
          refine lv_iload_n hx hb dL_areLettersSo_252 rfl (lv_at hl 2 rfl) ?_
          refine lv_iconst (v := 2) hx hb dL_areLettersSo_253 (by decide) ?_
          have hn := bd2_1 hf hne
          refine cwiP (w1 := fun u : DV => xcoreC G.2 a u) (ws1 := fun u : DV => xcoreC G.2 a u ++ [(q, .inl (G.2 0, 30, .inl ((vs v237 30 ((vs v231 30 (v 30)) 30)) 30)))]) (va_runV (As := [.int x3, .int 2]) (rest := [.int x8]) ⟨hx, hb, hml, hown, hts⟩ (ok_X6_ofLetter l G a H.size n (vs v237 30 ((vs v231 30 (v 30)) 30)) x3 2 hn) (cwV 2 hts gL_areLettersSo_X6_ofLetter rfl rfl rfl (by decide +kernel) ⟨Nat.le_of_ble_eq_true rfl, Nat.le_of_ble_eq_true rfl⟩) ⟨pcW_blind, va_recv hK (va_P_left hP) (ci := 6) (q0 := 0) rfl rfl, pcW_pre (va_P_left hP) (va_D_left hD) hamb⟩ rfl rfl hl.1 rfl (lv_room (Nat.le_of_ble_eq_true rfl)) dL_areLettersSo_254 ⟨Nat.le_of_ble_eq_true rfl, Nat.le_of_ble_eq_true rfl⟩) hP hD hS hA (List.Perm.refl _) (fun _ => List.Perm.refl _) (fun r254 v254 H locs hw hP hD hS => ?_)
          have hf := bd2_2 hf hw
          have hP : va_P G.1 vwCl (xcoreC G.2 a (vs v254 30 ((vs v237 30 ((vs v231 30 (v 30)) 30)) 30)) ++ [(q, .inl (G.2 0, 30, .inl ((vs v254 30 ((vs v237 30 ((vs v231 30 (v 30)) 30)) 30)) 30)))]) H := hP
          have hD : va_D A (xcoreC G.2 a (vs v254 30 ((vs v237 30 ((vs v231 30 (v 30)) 30)) 30)) ++ [(q, .inl (G.2 0, 30, .inl ((vs v254 30 ((vs v237 30 ((vs v231 30 (v 30)) 30)) 30)) 30)))]) := hD
          refine lv_aload_n hx hb dL_areLettersSo_257 rfl (lv_at hl 1 rfl) ?_
          refine lv_iload_n hx hb dL_areLettersSo_258 rfl (lv_at hl 2 rfl) ?_
          obtain ⟨hi, hf⟩ := ck_1 hf hne
          refine va_iald (f := ((vs v254 30 ((vs v237 30 ((vs v231 30 (v 30)) 30)) 30)) 30)) hx hb hK hP 21 0 rfl rfl (ixb_1 hi) dL_areLettersSo_259 ?_
          refine lv_iconst (v := 2) hx hb dL_areLettersSo_260 (by decide) ?_
          refine lv_idiv hx hb dL_areLettersSo_261 (by decide) ?_
          refine lv_iadd hx hb dL_areLettersSo_262 ?_
          refine lv_goto (tgt := 267) hx hb dL_areLettersSo_263 (by decide) ?_
          exact J267 k33 hk33 n q (vs v254 30 ((vs v237 30 ((vs v231 30 (v 30)) 30)) 30)) x3 x4 x5 x8 x10 (r254 + ((((vs v254 30 ((vs v237 30 ((vs v231 30 (v 30)) 30)) 30)) 30) (Int32.toNatClampNeg x3)) / 2)) x8 H locs ls hP hD hS (lv_sub hl [0, 1, 2, 3, 4, 5, 6] rfl) hf
  have J211 : ∀ (k33 : DV → Int32 → Int32 → Option (Int32 × DV)) (hk33 : ∀ (q : Nat) (v : DV) (x1 : Int32) (x3 : Int32) (H : Heap) (locs : List Loc) (ls : Array Slot), va_P G.1 vwCl (xcoreC G.2 a v ++ [(q, .inl (G.2 0, 30, .inl (v 30)))]) H → va_D A (xcoreC G.2 a v ++ [(q, .inl (G.2 0, 30, .inl (v 30)))]) → va_S A s.heap H locs → lv_has ls 11 [(0, .ref (a 21)), (1, .int x1), (2, .ref (q)), (3, .int x3)] → k33 v x1 x3 = res → W p l e (headSpec wsL_areLettersSo ({ frames := 5, cells := 1, slots := 30, locals := 132 } : Room)).room s m ([.ref (a 21)] : List Value).toArray below meth c H locs 1 30 (MQ below (va_Qi (fun r (u : DV) => f_L_areLettersSo n0 v0 = some (r, u)) (fun u t => atW G (xcoreC G.2 a u) A t) A) ([.ref (a 21)] : List Value).toArray s 1 30 A) (F0 m 33 ls [])) (n : Nat) (q : Nat) (v : DV) (x3 : Int32) (x4 : Int32) (x5 : Int32) (x8 : Int32) (x10 : Int32) (z0 : Int32) (H : Heap) (locs : List Loc) (ls : Array Slot), va_P G.1 vwCl (xcoreC G.2 a v ++ [(q, .inl (G.2 0, 30, .inl (v 30)))]) H → va_D A (xcoreC G.2 a v ++ [(q, .inl (G.2 0, 30, .inl (v 30)))]) → va_S A s.heap H locs → lv_has ls 11 [(0, .ref (a 21)), (2, .ref (q)), (3, .int x3), (4, .int x4), (5, .int x5), (8, .int x8), (10, .int x10)] → f_L_areLettersSo_J211 k33 n v x3 x4 x5 x8 x10 z0 = res → W p l e (headSpec wsL_areLettersSo ({ frames := 5, cells := 1, slots := 30, locals := 132 } : Room)).room s m ([.ref (a 21)] : List Value).toArray below meth c H locs 1 30 (MQ below (va_Qi (fun r (u : DV) => f_L_areLettersSo n0 v0 = some (r, u)) (fun u t => atW G (xcoreC G.2 a u) A t) A) ([.ref (a 21)] : List Value).toArray s 1 30 A) (F0 m 211 ls [.int z0]) := by
    intro k33 hk33 n q v x3 x4 x5 x8 x10 z0 H locs ls hP hD hS hl hf
    rw [f_L_areLettersSo_J211] at hf
    refine lv_aload_n hx hb dL_areLettersSo_211 rfl (lv_at hl 0 rfl) ?_
    refine lv_iload_n hx hb dL_areLettersSo_212 rfl (lv_at hl 2 rfl) ?_
    refine lv_iconst (v := 5) hx hb dL_areLettersSo_213 (by decide) ?_
    have hn := bd2_1 hf hne
    refine cwiP (w1 := fun u : DV => xcoreC G.2 a u) (ws1 := fun u : DV => xcoreC G.2 a u ++ [(q, .inl (G.2 0, 30, .inl (v 30)))]) (va_runV (As := [.int x3, .int 5]) (rest := [.int z0]) ⟨hx, hb, hml, hown, hts⟩ (ok_X6_ofLetter l G a H.size n v x3 5 hn) (cwV 2 hts gL_areLettersSo_X6_ofLetter rfl rfl rfl (by decide +kernel) ⟨Nat.le_of_ble_eq_true rfl, Nat.le_of_ble_eq_true rfl⟩) ⟨pcW_blind, va_recv hK (va_P_left hP) (ci := 6) (q0 := 0) rfl rfl, pcW_pre (va_P_left hP) (va_D_left hD) hamb⟩ rfl rfl hl.1 rfl (lv_room (Nat.le_of_ble_eq_true rfl)) dL_areLettersSo_214 ⟨Nat.le_of_ble_eq_true rfl, Nat.le_of_ble_eq_true rfl⟩) hP hD hS hA (List.Perm.refl _) (fun _ => List.Perm.refl _) (fun r214 v214 H locs hw hP hD hS => ?_)
    have hf := bd2_2 hf hw
    have hP : va_P G.1 vwCl (xcoreC G.2 a (vs v214 30 (v 30)) ++ [(q, .inl (G.2 0, 30, .inl ((vs v214 30 (v 30)) 30)))]) H := hP
    have hD : va_D A (xcoreC G.2 a (vs v214 30 (v 30)) ++ [(q, .inl (G.2 0, 30, .inl ((vs v214 30 (v 30)) 30)))]) := hD
    refine lv_if_lt (tgt := 224) hx hb dL_areLettersSo_217 (by decide) (fun c => ?_) (fun c => ?_)
    · have hf := it_1 hf c
      refine lv_iconst (v := 0) hx hb dL_areLettersSo_224 (by decide) ?_
      exact J225 k33 hk33 n q (vs v214 30 (v 30)) x3 x4 x5 x8 x10 0 z0 H locs ls hP hD hS (lv_sub hl [0, 1, 2, 3, 4, 5, 6] rfl) hf
    · have hf := it_2 hf c
      refine lv_iconst (v := 1) hx hb dL_areLettersSo_220 (by decide) ?_
      refine lv_goto (tgt := 225) hx hb dL_areLettersSo_221 (by decide) ?_
      exact J225 k33 hk33 n q (vs v214 30 (v 30)) x3 x4 x5 x8 x10 1 z0 H locs ls hP hD hS (lv_sub hl [0, 1, 2, 3, 4, 5, 6] rfl) hf
  have J200 : ∀ (k33 : DV → Int32 → Int32 → Option (Int32 × DV)) (hk33 : ∀ (q : Nat) (v : DV) (x1 : Int32) (x3 : Int32) (H : Heap) (locs : List Loc) (ls : Array Slot), va_P G.1 vwCl (xcoreC G.2 a v ++ [(q, .inl (G.2 0, 30, .inl (v 30)))]) H → va_D A (xcoreC G.2 a v ++ [(q, .inl (G.2 0, 30, .inl (v 30)))]) → va_S A s.heap H locs → lv_has ls 11 [(0, .ref (a 21)), (1, .int x1), (2, .ref (q)), (3, .int x3)] → k33 v x1 x3 = res → W p l e (headSpec wsL_areLettersSo ({ frames := 5, cells := 1, slots := 30, locals := 132 } : Room)).room s m ([.ref (a 21)] : List Value).toArray below meth c H locs 1 30 (MQ below (va_Qi (fun r (u : DV) => f_L_areLettersSo n0 v0 = some (r, u)) (fun u t => atW G (xcoreC G.2 a u) A t) A) ([.ref (a 21)] : List Value).toArray s 1 30 A) (F0 m 33 ls [])) (n : Nat) (q : Nat) (v : DV) (x3 : Int32) (x4 : Int32) (x5 : Int32) (x8 : Int32) (x10 : Int32) (H : Heap) (locs : List Loc) (ls : Array Slot), va_P G.1 vwCl (xcoreC G.2 a v ++ [(q, .inl (G.2 0, 30, .inl (v 30)))]) H → va_D A (xcoreC G.2 a v ++ [(q, .inl (G.2 0, 30, .inl (v 30)))]) → va_S A s.heap H locs → lv_has ls 11 [(0, .ref (a 21)), (2, .ref (q)), (3, .int x3), (4, .int x4), (5, .int x5), (8, .int x8), (10, .int x10)] → f_L_areLettersSo_J200 k33 n v x3 x4 x5 x8 x10 = res → W p l e (headSpec wsL_areLettersSo ({ frames := 5, cells := 1, slots := 30, locals := 132 } : Room)).room s m ([.ref (a 21)] : List Value).toArray below meth c H locs 1 30 (MQ below (va_Qi (fun r (u : DV) => f_L_areLettersSo n0 v0 = some (r, u)) (fun u t => atW G (xcoreC G.2 a u) A t) A) ([.ref (a 21)] : List Value).toArray s 1 30 A) (F0 m 200 ls []) := by
    intro k33 hk33 n q v x3 x4 x5 x8 x10 H locs ls hP hD hS hl hf
    rw [f_L_areLettersSo_J200] at hf
    refine lv_iload hx hb dL_areLettersSo_200 (lv_at hl 3 rfl) ?_
    refine lv_iconst (v := 1) hx hb dL_areLettersSo_202 (by decide) ?_
    refine lv_icmp_ne (tgt := 210) hx hb dL_areLettersSo_203 (by decide) (fun c => ?_) (fun c => ?_)
    · have hf := it_2 hf c
      refine lv_iconst (v := 0) hx hb dL_areLettersSo_210 (by decide) ?_
      exact J211 k33 hk33 n q v x3 x4 x5 x8 x10 0 H locs ls hP hD hS (lv_sub hl [0, 1, 2, 3, 4, 5, 6] rfl) hf
    · have hf := it_1 hf c
      refine lv_iconst (v := 1) hx hb dL_areLettersSo_206 (by decide) ?_
      refine lv_goto (tgt := 211) hx hb dL_areLettersSo_207 (by decide) ?_
      exact J211 k33 hk33 n q v x3 x4 x5 x8 x10 1 H locs ls hP hD hS (lv_sub hl [0, 1, 2, 3, 4, 5, 6] rfl) hf
  have J197 : ∀ (k33 : DV → Int32 → Int32 → Option (Int32 × DV)) (hk33 : ∀ (q : Nat) (v : DV) (x1 : Int32) (x3 : Int32) (H : Heap) (locs : List Loc) (ls : Array Slot), va_P G.1 vwCl (xcoreC G.2 a v ++ [(q, .inl (G.2 0, 30, .inl (v 30)))]) H → va_D A (xcoreC G.2 a v ++ [(q, .inl (G.2 0, 30, .inl (v 30)))]) → va_S A s.heap H locs → lv_has ls 11 [(0, .ref (a 21)), (1, .int x1), (2, .ref (q)), (3, .int x3)] → k33 v x1 x3 = res → W p l e (headSpec wsL_areLettersSo ({ frames := 5, cells := 1, slots := 30, locals := 132 } : Room)).room s m ([.ref (a 21)] : List Value).toArray below meth c H locs 1 30 (MQ below (va_Qi (fun r (u : DV) => f_L_areLettersSo n0 v0 = some (r, u)) (fun u t => atW G (xcoreC G.2 a u) A t) A) ([.ref (a 21)] : List Value).toArray s 1 30 A) (F0 m 33 ls [])) (n : Nat) (q : Nat) (v : DV) (x3 : Int32) (x4 : Int32) (x5 : Int32) (x8 : Int32) (x10 : Int32) (z0 : Int32) (z1 : Int32) (H : Heap) (locs : List Loc) (ls : Array Slot), va_P G.1 vwCl (xcoreC G.2 a v ++ [(q, .inl (G.2 0, 30, .inl (v 30)))]) H → va_D A (xcoreC G.2 a v ++ [(q, .inl (G.2 0, 30, .inl (v 30)))]) → va_S A s.heap H locs → lv_has ls 11 [(0, .ref (a 21)), (2, .ref (q)), (3, .int x3), (4, .int x4), (5, .int x5), (8, .int x8), (10, .int x10)] → f_L_areLettersSo_J197 k33 n v x3 x4 x5 x8 x10 z0 z1 = res → W p l e (headSpec wsL_areLettersSo ({ frames := 5, cells := 1, slots := 30, locals := 132 } : Room)).room s m ([.ref (a 21)] : List Value).toArray below meth c H locs 1 30 (MQ below (va_Qi (fun r (u : DV) => f_L_areLettersSo n0 v0 = some (r, u)) (fun u t => atW G (xcoreC G.2 a u) A t) A) ([.ref (a 21)] : List Value).toArray s 1 30 A) (F0 m 197 ls [.int z0, .int z1]) := by
    intro k33 hk33 n q v x3 x4 x5 x8 x10 z0 z1 H locs ls hP hD hS hl hf
    rw [f_L_areLettersSo_J197] at hf
    refine lv_icmp_ne (tgt := 274) hx hb dL_areLettersSo_197 (by decide) (fun c => ?_) (fun c => ?_)
    · have hf := it_2 hf c
      exact J274 k33 hk33 n q v x3 x4 x5 x8 x10 H locs ls hP hD hS (lv_sub hl [0, 1, 2, 3, 4, 5, 6] rfl) hf
    · have hf := it_1 hf c
      exact J200 k33 hk33 n q v x3 x4 x5 x8 x10 H locs ls hP hD hS (lv_sub hl [0, 1, 2, 3, 4, 5, 6] rfl) hf
  have J168 : ∀ (k33 : DV → Int32 → Int32 → Option (Int32 × DV)) (hk33 : ∀ (q : Nat) (v : DV) (x1 : Int32) (x3 : Int32) (H : Heap) (locs : List Loc) (ls : Array Slot), va_P G.1 vwCl (xcoreC G.2 a v ++ [(q, .inl (G.2 0, 30, .inl (v 30)))]) H → va_D A (xcoreC G.2 a v ++ [(q, .inl (G.2 0, 30, .inl (v 30)))]) → va_S A s.heap H locs → lv_has ls 11 [(0, .ref (a 21)), (1, .int x1), (2, .ref (q)), (3, .int x3)] → k33 v x1 x3 = res → W p l e (headSpec wsL_areLettersSo ({ frames := 5, cells := 1, slots := 30, locals := 132 } : Room)).room s m ([.ref (a 21)] : List Value).toArray below meth c H locs 1 30 (MQ below (va_Qi (fun r (u : DV) => f_L_areLettersSo n0 v0 = some (r, u)) (fun u t => atW G (xcoreC G.2 a u) A t) A) ([.ref (a 21)] : List Value).toArray s 1 30 A) (F0 m 33 ls [])) (n : Nat) (q : Nat) (v : DV) (x1 : Int32) (x3 : Int32) (x4 : Int32) (x5 : Int32) (x7 : Int32) (x8 : Int32) (z0 : Int32) (H : Heap) (locs : List Loc) (ls : Array Slot), va_P G.1 vwCl (xcoreC G.2 a v ++ [(q, .inl (G.2 0, 30, .inl (v 30)))]) H → va_D A (xcoreC G.2 a v ++ [(q, .inl (G.2 0, 30, .inl (v 30)))]) → va_S A s.heap H locs → lv_has ls 11 [(0, .ref (a 21)), (1, .int x1), (2, .ref (q)), (3, .int x3), (4, .int x4), (5, .int x5), (7, .int x7), (8, .int x8)] → f_L_areLettersSo_J168 k33 n v x1 x3 x4 x5 x7 x8 z0 = res → W p l e (headSpec wsL_areLettersSo ({ frames := 5, cells := 1, slots := 30, locals := 132 } : Room)).room s m ([.ref (a 21)] : List Value).toArray below meth c H locs 1 30 (MQ below (va_Qi (fun r (u : DV) => f_L_areLettersSo n0 v0 = some (r, u)) (fun u t => atW G (xcoreC G.2 a u) A t) A) ([.ref (a 21)] : List Value).toArray s 1 30 A) (F0 m 168 ls [.int z0]) := by
    intro k33 hk33 n q v x1 x3 x4 x5 x7 x8 z0 H locs ls hP hD hS hl hf
    rw [f_L_areLettersSo_J168] at hf
    refine lv_istore (lv' := [(10, .int z0), (0, .ref (a 21)), (1, .int x1), (2, .ref (q)), (3, .int x3), (4, .int x4), (5, .int x5), (7, .int x7), (8, .int x8)]) hx hb dL_areLettersSo_168 hl (by decide) rfl (fun ls hl => ?_)
    refine lv_iload_n hx hb dL_areLettersSo_170 rfl (lv_at hl 2 rfl) ?_
    refine lv_if_eq (tgt := 274) hx hb dL_areLettersSo_171 (by decide) (fun c => ?_) (fun c => ?_)
    · have hf := it_1 hf c
      exact J274 k33 hk33 n q v x3 x4 x5 x8 z0 H locs ls hP hD hS (lv_sub hl [1, 3, 4, 5, 6, 8, 0] rfl) hf
    · have hf := it_2 hf c
      refine lv_iload hx hb dL_areLettersSo_174 (lv_at hl 5 rfl) ?_
      refine lv_iconst (v := 1) hx hb dL_areLettersSo_176 (by decide) ?_
      refine lv_icmp_eq (tgt := 200) hx hb dL_areLettersSo_177 (by decide) (fun c => ?_) (fun c => ?_)
      · have hf := it_1 hf c
        exact J200 k33 hk33 n q v x3 x4 x5 x8 z0 H locs ls hP hD hS (lv_sub hl [1, 3, 4, 5, 6, 8, 0] rfl) hf
      · have hf := it_2 hf c
        refine lv_aload_n hx hb dL_areLettersSo_180 rfl (lv_at hl 1 rfl) ?_
        refine lv_iload_n hx hb dL_areLettersSo_181 rfl (lv_at hl 4 rfl) ?_
        refine lv_iconst (v := 2) hx hb dL_areLettersSo_182 (by decide) ?_
        have hn := bd2_1 hf hne
        refine cwiP (w1 := fun u : DV => xcoreC G.2 a u) (ws1 := fun u : DV => xcoreC G.2 a u ++ [(q, .inl (G.2 0, 30, .inl (v 30)))]) (va_runV (As := [.int x3, .int 2]) (rest := []) ⟨hx, hb, hml, hown, hts⟩ (ok_X6_ofLetter l G a H.size n v x3 2 hn) (cwV 2 hts gL_areLettersSo_X6_ofLetter rfl rfl rfl (by decide +kernel) ⟨Nat.le_of_ble_eq_true rfl, Nat.le_of_ble_eq_true rfl⟩) ⟨pcW_blind, va_recv hK (va_P_left hP) (ci := 6) (q0 := 0) rfl rfl, pcW_pre (va_P_left hP) (va_D_left hD) hamb⟩ rfl rfl hl.1 rfl (lv_room (Nat.le_of_ble_eq_true rfl)) dL_areLettersSo_183 ⟨Nat.le_of_ble_eq_true rfl, Nat.le_of_ble_eq_true rfl⟩) hP hD hS hA (List.Perm.refl _) (fun _ => List.Perm.refl _) (fun r183 v183 H locs hw hP hD hS => ?_)
        have hf := bd2_2 hf hw
        have hP : va_P G.1 vwCl (xcoreC G.2 a (vs v183 30 (v 30)) ++ [(q, .inl (G.2 0, 30, .inl ((vs v183 30 (v 30)) 30)))]) H := hP
        have hD : va_D A (xcoreC G.2 a (vs v183 30 (v 30)) ++ [(q, .inl (G.2 0, 30, .inl ((vs v183 30 (v 30)) 30)))]) := hD
        refine lv_iload hx hb dL_areLettersSo_186 (lv_at hl 7 rfl) ?_
        refine lv_if_ge (tgt := 195) hx hb dL_areLettersSo_188 (by decide) (fun c => ?_) (fun c => ?_)
        · have hf := it_1 hf c
          refine lv_iload hx hb dL_areLettersSo_195 (lv_at hl 7 rfl) ?_
          exact J197 k33 hk33 n q (vs v183 30 (v 30)) x3 x4 x5 x8 z0 x7 r183 H locs ls hP hD hS (lv_sub hl [1, 3, 4, 5, 6, 8, 0] rfl) hf
        · have hf := it_2 hf c
          refine lv_iconst (v := 0) hx hb dL_areLettersSo_191 (by decide) ?_
          refine lv_goto (tgt := 197) hx hb dL_areLettersSo_192 (by decide) ?_
          exact J197 k33 hk33 n q (vs v183 30 (v 30)) x3 x4 x5 x8 z0 0 r183 H locs ls hP hD hS (lv_sub hl [1, 3, 4, 5, 6, 8, 0] rfl) hf
  have J167 : ∀ (k33 : DV → Int32 → Int32 → Option (Int32 × DV)) (hk33 : ∀ (q : Nat) (v : DV) (x1 : Int32) (x3 : Int32) (H : Heap) (locs : List Loc) (ls : Array Slot), va_P G.1 vwCl (xcoreC G.2 a v ++ [(q, .inl (G.2 0, 30, .inl (v 30)))]) H → va_D A (xcoreC G.2 a v ++ [(q, .inl (G.2 0, 30, .inl (v 30)))]) → va_S A s.heap H locs → lv_has ls 11 [(0, .ref (a 21)), (1, .int x1), (2, .ref (q)), (3, .int x3)] → k33 v x1 x3 = res → W p l e (headSpec wsL_areLettersSo ({ frames := 5, cells := 1, slots := 30, locals := 132 } : Room)).room s m ([.ref (a 21)] : List Value).toArray below meth c H locs 1 30 (MQ below (va_Qi (fun r (u : DV) => f_L_areLettersSo n0 v0 = some (r, u)) (fun u t => atW G (xcoreC G.2 a u) A t) A) ([.ref (a 21)] : List Value).toArray s 1 30 A) (F0 m 33 ls [])) (n : Nat) (q : Nat) (v : DV) (x1 : Int32) (x3 : Int32) (x4 : Int32) (x5 : Int32) (x7 : Int32) (x8 : Int32) (H : Heap) (locs : List Loc) (ls : Array Slot), va_P G.1 vwCl (xcoreC G.2 a v ++ [(q, .inl (G.2 0, 30, .inl (v 30)))]) H → va_D A (xcoreC G.2 a v ++ [(q, .inl (G.2 0, 30, .inl (v 30)))]) → va_S A s.heap H locs → lv_has ls 11 [(0, .ref (a 21)), (1, .int x1), (2, .ref (q)), (3, .int x3), (4, .int x4), (5, .int x5), (7, .int x7), (8, .int x8)] → f_L_areLettersSo_J167 k33 n v x1 x3 x4 x5 x7 x8 = res → W p l e (headSpec wsL_areLettersSo ({ frames := 5, cells := 1, slots := 30, locals := 132 } : Room)).room s m ([.ref (a 21)] : List Value).toArray below meth c H locs 1 30 (MQ below (va_Qi (fun r (u : DV) => f_L_areLettersSo n0 v0 = some (r, u)) (fun u t => atW G (xcoreC G.2 a u) A t) A) ([.ref (a 21)] : List Value).toArray s 1 30 A) (F0 m 167 ls []) := by
    intro k33 hk33 n q v x1 x3 x4 x5 x7 x8 H locs ls hP hD hS hl hf
    rw [f_L_areLettersSo_J167] at hf
    refine lv_iconst (v := 0) hx hb dL_areLettersSo_167 (by decide) ?_
    exact J168 k33 hk33 n q v x1 x3 x4 x5 x7 x8 0 H locs ls hP hD hS (lv_sub hl [0, 1, 2, 3, 4, 5, 6, 7] rfl) hf
  have J114 : ∀ (k33 : DV → Int32 → Int32 → Option (Int32 × DV)) (hk33 : ∀ (q : Nat) (v : DV) (x1 : Int32) (x3 : Int32) (H : Heap) (locs : List Loc) (ls : Array Slot), va_P G.1 vwCl (xcoreC G.2 a v ++ [(q, .inl (G.2 0, 30, .inl (v 30)))]) H → va_D A (xcoreC G.2 a v ++ [(q, .inl (G.2 0, 30, .inl (v 30)))]) → va_S A s.heap H locs → lv_has ls 11 [(0, .ref (a 21)), (1, .int x1), (2, .ref (q)), (3, .int x3)] → k33 v x1 x3 = res → W p l e (headSpec wsL_areLettersSo ({ frames := 5, cells := 1, slots := 30, locals := 132 } : Room)).room s m ([.ref (a 21)] : List Value).toArray below meth c H locs 1 30 (MQ below (va_Qi (fun r (u : DV) => f_L_areLettersSo n0 v0 = some (r, u)) (fun u t => atW G (xcoreC G.2 a u) A t) A) ([.ref (a 21)] : List Value).toArray s 1 30 A) (F0 m 33 ls [])) (n : Nat) (q : Nat) (v : DV) (x1 : Int32) (x3 : Int32) (x4 : Int32) (x5 : Int32) (x6 : Int32) (x7 : Int32) (x8 : Int32) (z0 : Int32) (H : Heap) (locs : List Loc) (ls : Array Slot), va_P G.1 vwCl (xcoreC G.2 a v ++ [(q, .inl (G.2 0, 30, .inl (v 30)))]) H → va_D A (xcoreC G.2 a v ++ [(q, .inl (G.2 0, 30, .inl (v 30)))]) → va_S A s.heap H locs → lv_has ls 11 [(0, .ref (a 21)), (1, .int x1), (2, .ref (q)), (3, .int x3), (4, .int x4), (5, .int x5), (6, .int x6), (7, .int x7), (8, .int x8)] → f_L_areLettersSo_J114 k33 n v x1 x3 x4 x5 x6 x7 x8 z0 = res → W p l e (headSpec wsL_areLettersSo ({ frames := 5, cells := 1, slots := 30, locals := 132 } : Room)).room s m ([.ref (a 21)] : List Value).toArray below meth c H locs 1 30 (MQ below (va_Qi (fun r (u : DV) => f_L_areLettersSo n0 v0 = some (r, u)) (fun u t => atW G (xcoreC G.2 a u) A t) A) ([.ref (a 21)] : List Value).toArray s 1 30 A) (F0 m 114 ls [.int z0]) := by
    intro k33 hk33 n q v x1 x3 x4 x5 x6 x7 x8 z0 H locs ls hP hD hS hl hf
    rw [f_L_areLettersSo_J114] at hf
    refine lv_istore (lv' := [(9, .int z0), (0, .ref (a 21)), (1, .int x1), (2, .ref (q)), (3, .int x3), (4, .int x4), (5, .int x5), (6, .int x6), (7, .int x7), (8, .int x8)]) hx hb dL_areLettersSo_114 hl (by decide) rfl (fun ls hl => ?_)
    refine lv_iload hx hb dL_areLettersSo_116 (lv_at hl 5 rfl) ?_
    refine lv_if_ne (tgt := 167) hx hb dL_areLettersSo_118 (by decide) (fun c => ?_) (fun c => ?_)
    · have hf := it_2 hf c
      exact J167 k33 hk33 n q v x1 x3 x4 x5 x7 x8 H locs ls hP hD hS (lv_sub hl [1, 2, 3, 4, 5, 6, 8, 9] rfl) hf
    · have hf := it_1 hf c
      refine lv_iload hx hb dL_areLettersSo_121 (lv_at hl 0 rfl) ?_
      refine lv_if_eq (tgt := 167) hx hb dL_areLettersSo_123 (by decide) (fun c => ?_) (fun c => ?_)
      · have hf := it_1 hf c
        exact J167 k33 hk33 n q v x1 x3 x4 x5 x7 x8 H locs ls hP hD hS (lv_sub hl [1, 2, 3, 4, 5, 6, 8, 9] rfl) hf
      · have hf := it_2 hf c
        refine lv_aload_n hx hb dL_areLettersSo_126 rfl (lv_at hl 1 rfl) ?_
        refine lv_iconst (v := 0) hx hb dL_areLettersSo_127 (by decide) ?_
        have hn := bd1_1 hf hne
        refine vp_callSi (W.runV (As := [.int 0]) (rest := []) ⟨hx, hb, hml, hown, hts⟩ (ok_X6_count l G a n v 0 hn) (cwV 1 hts gL_areLettersSo_X6_count rfl rfl rfl (by decide +kernel) ⟨Nat.le_of_ble_eq_true rfl, Nat.le_of_ble_eq_true rfl⟩) ⟨pcR_blind, va_recv hK (va_P_left hP) (ci := 6) (q0 := 0) rfl rfl, pcR_pre (va_P_left hP) hamb⟩ rfl rfl hl.1 rfl (lv_room (Nat.le_of_ble_eq_true rfl)) dL_areLettersSo_128 ⟨Nat.le_of_ble_eq_true rfl, Nat.le_of_ble_eq_true rfl⟩) (fun r128 hw => ?_)
        have hf := bd1_2 hf hw
        refine lv_aload_n hx hb dL_areLettersSo_131 rfl (lv_at hl 1 rfl) ?_
        refine lv_iload_n hx hb dL_areLettersSo_132 rfl (lv_at hl 4 rfl) ?_
        refine lv_iconst (v := 3) hx hb dL_areLettersSo_133 (by decide) ?_
        have hn := bd2_1 hf hne
        refine cwiP (w1 := fun u : DV => xcoreC G.2 a u) (ws1 := fun u : DV => xcoreC G.2 a u ++ [(q, .inl (G.2 0, 30, .inl (v 30)))]) (va_runV (As := [.int x3, .int 3]) (rest := [.int r128]) ⟨hx, hb, hml, hown, hts⟩ (ok_X6_ofLetter l G a H.size n v x3 3 hn) (cwV 2 hts gL_areLettersSo_X6_ofLetter rfl rfl rfl (by decide +kernel) ⟨Nat.le_of_ble_eq_true rfl, Nat.le_of_ble_eq_true rfl⟩) ⟨pcW_blind, va_recv hK (va_P_left hP) (ci := 6) (q0 := 0) rfl rfl, pcW_pre (va_P_left hP) (va_D_left hD) hamb⟩ rfl rfl hl.1 rfl (lv_room (Nat.le_of_ble_eq_true rfl)) dL_areLettersSo_134 ⟨Nat.le_of_ble_eq_true rfl, Nat.le_of_ble_eq_true rfl⟩) hP hD hS hA (List.Perm.refl _) (fun _ => List.Perm.refl _) (fun r134 v134 H locs hw hP hD hS => ?_)
        have hf := bd2_2 hf hw
        have hP : va_P G.1 vwCl (xcoreC G.2 a (vs v134 30 (v 30)) ++ [(q, .inl (G.2 0, 30, .inl ((vs v134 30 (v 30)) 30)))]) H := hP
        have hD : va_D A (xcoreC G.2 a (vs v134 30 (v 30)) ++ [(q, .inl (G.2 0, 30, .inl ((vs v134 30 (v 30)) 30)))]) := hD
        refine lv_isub hx hb dL_areLettersSo_137 ?_
        refine lv_aload_n hx hb dL_areLettersSo_138 rfl (lv_at hl 1 rfl) ?_
        refine lv_iload hx hb dL_areLettersSo_139 (lv_at hl 7 rfl) ?_
        refine lv_iconst (v := 2) hx hb dL_areLettersSo_141 (by decide) ?_
        have hn := bd1_1 hf hne
        refine vp_callSi (W.runV (As := [.int x6, .int 2]) (rest := [.int (r128 - r134)]) ⟨hx, hb, hml, hown, hts⟩ (ok_X6_ofDrawer l G a n (vs v134 30 (v 30)) x6 2 hn) (cwV 2 hts gL_areLettersSo_X6_ofDrawer rfl rfl rfl (by decide +kernel) ⟨Nat.le_of_ble_eq_true rfl, Nat.le_of_ble_eq_true rfl⟩) ⟨pcR_blind, va_recv hK (va_P_left hP) (ci := 6) (q0 := 0) rfl rfl, pcR_pre (va_P_left hP) hamb⟩ rfl rfl hl.1 rfl (lv_room (Nat.le_of_ble_eq_true rfl)) dL_areLettersSo_142 ⟨Nat.le_of_ble_eq_true rfl, Nat.le_of_ble_eq_true rfl⟩) (fun r142 hw => ?_)
        have hf := bd1_2 hf hw
        refine lv_icmp_lt (tgt := 167) hx hb dL_areLettersSo_145 (by decide) (fun c => ?_) (fun c => ?_)
        · have hf := it_1 hf c
          exact J167 k33 hk33 n q (vs v134 30 (v 30)) x1 x3 x4 x5 x7 x8 H locs ls hP hD hS (lv_sub hl [1, 2, 3, 4, 5, 6, 8, 9] rfl) hf
        · have hf := it_2 hf c
          refine lv_aload_n hx hb dL_areLettersSo_148 rfl (lv_at hl 1 rfl) ?_
          refine lv_iload_n hx hb dL_areLettersSo_149 rfl (lv_at hl 4 rfl) ?_
          refine lv_iconst (v := 2) hx hb dL_areLettersSo_150 (by decide) ?_
          have hn := bd2_1 hf hne
          refine cwiP (w1 := fun u : DV => xcoreC G.2 a u) (ws1 := fun u : DV => xcoreC G.2 a u ++ [(q, .inl (G.2 0, 30, .inl ((vs v134 30 (v 30)) 30)))]) (va_runV (As := [.int x3, .int 2]) (rest := []) ⟨hx, hb, hml, hown, hts⟩ (ok_X6_ofLetter l G a H.size n (vs v134 30 (v 30)) x3 2 hn) (cwV 2 hts gL_areLettersSo_X6_ofLetter rfl rfl rfl (by decide +kernel) ⟨Nat.le_of_ble_eq_true rfl, Nat.le_of_ble_eq_true rfl⟩) ⟨pcW_blind, va_recv hK (va_P_left hP) (ci := 6) (q0 := 0) rfl rfl, pcW_pre (va_P_left hP) (va_D_left hD) hamb⟩ rfl rfl hl.1 rfl (lv_room (Nat.le_of_ble_eq_true rfl)) dL_areLettersSo_151 ⟨Nat.le_of_ble_eq_true rfl, Nat.le_of_ble_eq_true rfl⟩) hP hD hS hA (List.Perm.refl _) (fun _ => List.Perm.refl _) (fun r151 v151 H locs hw hP hD hS => ?_)
          have hf := bd2_2 hf hw
          have hP : va_P G.1 vwCl (xcoreC G.2 a (vs v151 30 ((vs v134 30 (v 30)) 30)) ++ [(q, .inl (G.2 0, 30, .inl ((vs v151 30 ((vs v134 30 (v 30)) 30)) 30)))]) H := hP
          have hD : va_D A (xcoreC G.2 a (vs v151 30 ((vs v134 30 (v 30)) 30)) ++ [(q, .inl (G.2 0, 30, .inl ((vs v151 30 ((vs v134 30 (v 30)) 30)) 30)))]) := hD
          refine lv_aload_n hx hb dL_areLettersSo_154 rfl (lv_at hl 1 rfl) ?_
          refine lv_bipush (v := 8) hx hb dL_areLettersSo_155 (by decide) ?_
          have hn := bd1_1 hf hne
          refine vp_callSi (W.runV (As := [.int 8]) (rest := [.int r151]) ⟨hx, hb, hml, hown, hts⟩ (ok_X6_count l G a n (vs v151 30 ((vs v134 30 (v 30)) 30)) 8 hn) (cwV 1 hts gL_areLettersSo_X6_count rfl rfl rfl (by decide +kernel) ⟨Nat.le_of_ble_eq_true rfl, Nat.le_of_ble_eq_true rfl⟩) ⟨pcR_blind, va_recv hK (va_P_left hP) (ci := 6) (q0 := 0) rfl rfl, pcR_pre (va_P_left hP) hamb⟩ rfl rfl hl.1 rfl (lv_room (Nat.le_of_ble_eq_true rfl)) dL_areLettersSo_157 ⟨Nat.le_of_ble_eq_true rfl, Nat.le_of_ble_eq_true rfl⟩) (fun r157 hw => ?_)
          have hf := bd1_2 hf hw
          refine lv_icmp_gt (tgt := 167) hx hb dL_areLettersSo_160 (by decide) (fun c => ?_) (fun c => ?_)
          · have hf := it_1 hf c
            exact J167 k33 hk33 n q (vs v151 30 ((vs v134 30 (v 30)) 30)) x1 x3 x4 x5 x7 x8 H locs ls hP hD hS (lv_sub hl [1, 2, 3, 4, 5, 6, 8, 9] rfl) hf
          · have hf := it_2 hf c
            refine lv_iconst (v := 1) hx hb dL_areLettersSo_163 (by decide) ?_
            refine lv_goto (tgt := 168) hx hb dL_areLettersSo_164 (by decide) ?_
            exact J168 k33 hk33 n q (vs v151 30 ((vs v134 30 (v 30)) 30)) x1 x3 x4 x5 x7 x8 1 H locs ls hP hD hS (lv_sub hl [1, 2, 3, 4, 5, 6, 8, 9] rfl) hf
  have L33 : ∀ (n : Nat) (q : Nat) (v : DV) (x1 : Int32) (x3 : Int32) (H : Heap) (locs : List Loc) (ls : Array Slot), va_P G.1 vwCl (xcoreC G.2 a v ++ [(q, .inl (G.2 0, 30, .inl (v 30)))]) H → va_D A (xcoreC G.2 a v ++ [(q, .inl (G.2 0, 30, .inl (v 30)))]) → va_S A s.heap H locs → lv_has ls 11 [(0, .ref (a 21)), (1, .int x1), (2, .ref (q)), (3, .int x3)] → f_L_areLettersSo_L33 n v x1 x3 = res → W p l e (headSpec wsL_areLettersSo ({ frames := 5, cells := 1, slots := 30, locals := 132 } : Room)).room s m ([.ref (a 21)] : List Value).toArray below meth c H locs 1 30 (MQ below (va_Qi (fun r (u : DV) => f_L_areLettersSo n0 v0 = some (r, u)) (fun u t => atW G (xcoreC G.2 a u) A t) A) ([.ref (a 21)] : List Value).toArray s 1 30 A) (F0 m 33 ls []) := by
    intro n
    induction n with
    | zero => intro q v x1 x3 H locs ls hP hD hS hl hf; exact (none_1 hf hne).elim
    | succ n ih =>
      intro q v x1 x3 H locs ls hP hD hS hl hf
      rw [f_L_areLettersSo_L33] at hf
      refine lv_iload_n hx hb dL_areLettersSo_33 rfl (lv_at hl 3 rfl) ?_
      refine lv_if_lt (tgt := 430) hx hb dL_areLettersSo_34 (by decide) (fun c => ?_) (fun c => ?_)
      · have hf := it_1 hf c
        refine lv_iload_n hx hb dL_areLettersSo_430 rfl (lv_at hl 1 rfl) ?_
        obtain ⟨hz, hf⟩ := ck_1 hf hne
        exact W.zret (ty := .boolean) (v := x1) hx hb hr (okZ_1 hz) (fun t ht hW => ⟨⟨x1, v, rfl, hf0.trans hf.symm, by rw [ht]; exact va_P_left hP, va_D_left hD⟩, hS.F ht⟩) hS.2.2 dL_areLettersSo_431
      · have hf := it_2 hf c
        refine lv_aload_n hx hb dL_areLettersSo_37 rfl (lv_at hl 0 rfl) ?_
        refine lv_iload_n hx hb dL_areLettersSo_38 rfl (lv_at hl 3 rfl) ?_
        refine lv_iconst (v := 4) hx hb dL_areLettersSo_39 (by decide) ?_
        have hn := bd2_1 hf hne
        refine cwiP (w1 := fun u : DV => xcoreC G.2 a u) (ws1 := fun u : DV => xcoreC G.2 a u ++ [(q, .inl (G.2 0, 30, .inl (v 30)))]) (va_runV (As := [.int x3, .int 4]) (rest := []) ⟨hx, hb, hml, hown, hts⟩ (ok_X6_ofLetter l G a H.size n v x3 4 hn) (cwV 2 hts gL_areLettersSo_X6_ofLetter rfl rfl rfl (by decide +kernel) ⟨Nat.le_of_ble_eq_true rfl, Nat.le_of_ble_eq_true rfl⟩) ⟨pcW_blind, va_recv hK (va_P_left hP) (ci := 6) (q0 := 0) rfl rfl, pcW_pre (va_P_left hP) (va_D_left hD) hamb⟩ rfl rfl hl.1 rfl (lv_room (Nat.le_of_ble_eq_true rfl)) dL_areLettersSo_40 ⟨Nat.le_of_ble_eq_true rfl, Nat.le_of_ble_eq_true rfl⟩) hP hD hS hA (List.Perm.refl _) (fun _ => List.Perm.refl _) (fun r40 v40 H locs hw hP hD hS => ?_)
        have hf := bd2_2 hf hw
        have hP : va_P G.1 vwCl (xcoreC G.2 a (vs v40 30 (v 30)) ++ [(q, .inl (G.2 0, 30, .inl ((vs v40 30 (v 30)) 30)))]) H := hP
        have hD : va_D A (xcoreC G.2 a (vs v40 30 (v 30)) ++ [(q, .inl (G.2 0, 30, .inl ((vs v40 30 (v 30)) 30)))]) := hD
        refine lv_istore (lv' := [(4, .int r40), (0, .ref (a 21)), (1, .int x1), (2, .ref (q)), (3, .int x3)]) hx hb dL_areLettersSo_43 hl (by decide) rfl (fun ls hl => ?_)
        refine lv_aload_n hx hb dL_areLettersSo_45 rfl (lv_at hl 1 rfl) ?_
        refine lv_iload_n hx hb dL_areLettersSo_46 rfl (lv_at hl 4 rfl) ?_
        refine lv_bipush (v := 6) hx hb dL_areLettersSo_47 (by decide) ?_
        have hn := bd2_1 hf hne
        refine cwiP (w1 := fun u : DV => xcoreC G.2 a u) (ws1 := fun u : DV => xcoreC G.2 a u ++ [(q, .inl (G.2 0, 30, .inl ((vs v40 30 (v 30)) 30)))]) (va_runV (As := [.int x3, .int 6]) (rest := []) ⟨hx, hb, hml, hown, hts⟩ (ok_X6_ofLetter l G a H.size n (vs v40 30 (v 30)) x3 6 hn) (cwV 2 hts gL_areLettersSo_X6_ofLetter rfl rfl rfl (by decide +kernel) ⟨Nat.le_of_ble_eq_true rfl, Nat.le_of_ble_eq_true rfl⟩) ⟨pcW_blind, va_recv hK (va_P_left hP) (ci := 6) (q0 := 0) rfl rfl, pcW_pre (va_P_left hP) (va_D_left hD) hamb⟩ rfl rfl hl.1 rfl (lv_room (Nat.le_of_ble_eq_true rfl)) dL_areLettersSo_49 ⟨Nat.le_of_ble_eq_true rfl, Nat.le_of_ble_eq_true rfl⟩) hP hD hS hA (List.Perm.refl _) (fun _ => List.Perm.refl _) (fun r49 v49 H locs hw hP hD hS => ?_)
        have hf := bd2_2 hf hw
        have hP : va_P G.1 vwCl (xcoreC G.2 a (vs v49 30 ((vs v40 30 (v 30)) 30)) ++ [(q, .inl (G.2 0, 30, .inl ((vs v49 30 ((vs v40 30 (v 30)) 30)) 30)))]) H := hP
        have hD : va_D A (xcoreC G.2 a (vs v49 30 ((vs v40 30 (v 30)) 30)) ++ [(q, .inl (G.2 0, 30, .inl ((vs v49 30 ((vs v40 30 (v 30)) 30)) 30)))]) := hD
        refine lv_istore (lv' := [(5, .int r49), (4, .int r40), (0, .ref (a 21)), (1, .int x1), (2, .ref (q)), (3, .int x3)]) hx hb dL_areLettersSo_52 hl (by decide) rfl (fun ls hl => ?_)
        refine lv_aload_n hx hb dL_areLettersSo_54 rfl (lv_at hl 2 rfl) ?_
        refine lv_iload_n hx hb dL_areLettersSo_55 rfl (lv_at hl 5 rfl) ?_
        refine lv_iconst (v := 0) hx hb dL_areLettersSo_56 (by decide) ?_
        have hn := bd2_1 hf hne
        refine cwiP (w1 := fun u : DV => xcoreC G.2 a u) (ws1 := fun u : DV => xcoreC G.2 a u ++ [(q, .inl (G.2 0, 30, .inl ((vs v49 30 ((vs v40 30 (v 30)) 30)) 30)))]) (va_runV (As := [.int x3, .int 0]) (rest := []) ⟨hx, hb, hml, hown, hts⟩ (ok_X6_ofLetter l G a H.size n (vs v49 30 ((vs v40 30 (v 30)) 30)) x3 0 hn) (cwV 2 hts gL_areLettersSo_X6_ofLetter rfl rfl rfl (by decide +kernel) ⟨Nat.le_of_ble_eq_true rfl, Nat.le_of_ble_eq_true rfl⟩) ⟨pcW_blind, va_recv hK (va_P_left hP) (ci := 6) (q0 := 0) rfl rfl, pcW_pre (va_P_left hP) (va_D_left hD) hamb⟩ rfl rfl hl.1 rfl (lv_room (Nat.le_of_ble_eq_true rfl)) dL_areLettersSo_57 ⟨Nat.le_of_ble_eq_true rfl, Nat.le_of_ble_eq_true rfl⟩) hP hD hS hA (List.Perm.refl _) (fun _ => List.Perm.refl _) (fun r57 v57 H locs hw hP hD hS => ?_)
        have hf := bd2_2 hf hw
        have hP : va_P G.1 vwCl (xcoreC G.2 a (vs v57 30 ((vs v49 30 ((vs v40 30 (v 30)) 30)) 30)) ++ [(q, .inl (G.2 0, 30, .inl ((vs v57 30 ((vs v49 30 ((vs v40 30 (v 30)) 30)) 30)) 30)))]) H := hP
        have hD : va_D A (xcoreC G.2 a (vs v57 30 ((vs v49 30 ((vs v40 30 (v 30)) 30)) 30)) ++ [(q, .inl (G.2 0, 30, .inl ((vs v57 30 ((vs v49 30 ((vs v40 30 (v 30)) 30)) 30)) 30)))]) := hD
        refine lv_istore (lv' := [(6, .int r57), (5, .int r49), (4, .int r40), (0, .ref (a 21)), (1, .int x1), (2, .ref (q)), (3, .int x3)]) hx hb dL_areLettersSo_60 hl (by decide) rfl (fun ls hl => ?_)
        refine lv_aload_n hx hb dL_areLettersSo_62 rfl (lv_at hl 3 rfl) ?_
        refine lv_iload_n hx hb dL_areLettersSo_63 rfl (lv_at hl 6 rfl) ?_
        refine lv_iconst (v := 1) hx hb dL_areLettersSo_64 (by decide) ?_
        have hn := bd2_1 hf hne
        refine cwiP (w1 := fun u : DV => xcoreC G.2 a u) (ws1 := fun u : DV => xcoreC G.2 a u ++ [(q, .inl (G.2 0, 30, .inl ((vs v57 30 ((vs v49 30 ((vs v40 30 (v 30)) 30)) 30)) 30)))]) (va_runV (As := [.int x3, .int 1]) (rest := []) ⟨hx, hb, hml, hown, hts⟩ (ok_X6_ofLetter l G a H.size n (vs v57 30 ((vs v49 30 ((vs v40 30 (v 30)) 30)) 30)) x3 1 hn) (cwV 2 hts gL_areLettersSo_X6_ofLetter rfl rfl rfl (by decide +kernel) ⟨Nat.le_of_ble_eq_true rfl, Nat.le_of_ble_eq_true rfl⟩) ⟨pcW_blind, va_recv hK (va_P_left hP) (ci := 6) (q0 := 0) rfl rfl, pcW_pre (va_P_left hP) (va_D_left hD) hamb⟩ rfl rfl hl.1 rfl (lv_room (Nat.le_of_ble_eq_true rfl)) dL_areLettersSo_65 ⟨Nat.le_of_ble_eq_true rfl, Nat.le_of_ble_eq_true rfl⟩) hP hD hS hA (List.Perm.refl _) (fun _ => List.Perm.refl _) (fun r65 v65 H locs hw hP hD hS => ?_)
        have hf := bd2_2 hf hw
        have hP : va_P G.1 vwCl (xcoreC G.2 a (vs v65 30 ((vs v57 30 ((vs v49 30 ((vs v40 30 (v 30)) 30)) 30)) 30)) ++ [(q, .inl (G.2 0, 30, .inl ((vs v65 30 ((vs v57 30 ((vs v49 30 ((vs v40 30 (v 30)) 30)) 30)) 30)) 30)))]) H := hP
        have hD : va_D A (xcoreC G.2 a (vs v65 30 ((vs v57 30 ((vs v49 30 ((vs v40 30 (v 30)) 30)) 30)) 30)) ++ [(q, .inl (G.2 0, 30, .inl ((vs v65 30 ((vs v57 30 ((vs v49 30 ((vs v40 30 (v 30)) 30)) 30)) 30)) 30)))]) := hD
        refine lv_aload_n hx hb dL_areLettersSo_68 rfl (lv_at hl 3 rfl) ?_
        refine lv_bipush (v := 9) hx hb dL_areLettersSo_69 (by decide) ?_
        have hn := bd1_1 hf hne
        refine vp_callSi (W.runV (As := [.int 9]) (rest := [.int r65]) ⟨hx, hb, hml, hown, hts⟩ (ok_X6_count l G a n (vs v65 30 ((vs v57 30 ((vs v49 30 ((vs v40 30 (v 30)) 30)) 30)) 30)) 9 hn) (cwV 1 hts gL_areLettersSo_X6_count rfl rfl rfl (by decide +kernel) ⟨Nat.le_of_ble_eq_true rfl, Nat.le_of_ble_eq_true rfl⟩) ⟨pcR_blind, va_recv hK (va_P_left hP) (ci := 6) (q0 := 0) rfl rfl, pcR_pre (va_P_left hP) hamb⟩ rfl rfl hl.1 rfl (lv_room (Nat.le_of_ble_eq_true rfl)) dL_areLettersSo_71 ⟨Nat.le_of_ble_eq_true rfl, Nat.le_of_ble_eq_true rfl⟩) (fun r71 hw => ?_)
        have hf := bd1_2 hf hw
        refine lv_aload_n hx hb dL_areLettersSo_74 rfl (lv_at hl 3 rfl) ?_
        refine lv_iconst (v := 0) hx hb dL_areLettersSo_75 (by decide) ?_
        have hn := bd1_1 hf hne
        refine vp_callSi (W.runV (As := [.int 0]) (rest := [.int r71, .int r65]) ⟨hx, hb, hml, hown, hts⟩ (ok_X6_count l G a n (vs v65 30 ((vs v57 30 ((vs v49 30 ((vs v40 30 (v 30)) 30)) 30)) 30)) 0 hn) (cwV 1 hts gL_areLettersSo_X6_count rfl rfl rfl (by decide +kernel) ⟨Nat.le_of_ble_eq_true rfl, Nat.le_of_ble_eq_true rfl⟩) ⟨pcR_blind, va_recv hK (va_P_left hP) (ci := 6) (q0 := 0) rfl rfl, pcR_pre (va_P_left hP) hamb⟩ rfl rfl hl.1 rfl (lv_room (Nat.le_of_ble_eq_true rfl)) dL_areLettersSo_76 ⟨Nat.le_of_ble_eq_true rfl, Nat.le_of_ble_eq_true rfl⟩) (fun r76 hw => ?_)
        have hf := bd1_2 hf hw
        refine lv_aload_n hx hb dL_areLettersSo_79 rfl (lv_at hl 3 rfl) ?_
        refine lv_iload_n hx hb dL_areLettersSo_80 rfl (lv_at hl 6 rfl) ?_
        refine lv_iconst (v := 3) hx hb dL_areLettersSo_81 (by decide) ?_
        have hn := bd2_1 hf hne
        refine cwiP (w1 := fun u : DV => xcoreC G.2 a u) (ws1 := fun u : DV => xcoreC G.2 a u ++ [(q, .inl (G.2 0, 30, .inl ((vs v65 30 ((vs v57 30 ((vs v49 30 ((vs v40 30 (v 30)) 30)) 30)) 30)) 30)))]) (va_runV (As := [.int x3, .int 3]) (rest := [.int r76, .int r71, .int r65]) ⟨hx, hb, hml, hown, hts⟩ (ok_X6_ofLetter l G a H.size n (vs v65 30 ((vs v57 30 ((vs v49 30 ((vs v40 30 (v 30)) 30)) 30)) 30)) x3 3 hn) (cwV 2 hts gL_areLettersSo_X6_ofLetter rfl rfl rfl (by decide +kernel) ⟨Nat.le_of_ble_eq_true rfl, Nat.le_of_ble_eq_true rfl⟩) ⟨pcW_blind, va_recv hK (va_P_left hP) (ci := 6) (q0 := 0) rfl rfl, pcW_pre (va_P_left hP) (va_D_left hD) hamb⟩ rfl rfl hl.1 rfl (lv_room (Nat.le_of_ble_eq_true rfl)) dL_areLettersSo_82 ⟨Nat.le_of_ble_eq_true rfl, Nat.le_of_ble_eq_true rfl⟩) hP hD hS hA (List.Perm.refl _) (fun _ => List.Perm.refl _) (fun r82 v82 H locs hw hP hD hS => ?_)
        have hf := bd2_2 hf hw
        have hP : va_P G.1 vwCl (xcoreC G.2 a (vs v82 30 ((vs v65 30 ((vs v57 30 ((vs v49 30 ((vs v40 30 (v 30)) 30)) 30)) 30)) 30)) ++ [(q, .inl (G.2 0, 30, .inl ((vs v82 30 ((vs v65 30 ((vs v57 30 ((vs v49 30 ((vs v40 30 (v 30)) 30)) 30)) 30)) 30)) 30)))]) H := hP
        have hD : va_D A (xcoreC G.2 a (vs v82 30 ((vs v65 30 ((vs v57 30 ((vs v49 30 ((vs v40 30 (v 30)) 30)) 30)) 30)) 30)) ++ [(q, .inl (G.2 0, 30, .inl ((vs v82 30 ((vs v65 30 ((vs v57 30 ((vs v49 30 ((vs v40 30 (v 30)) 30)) 30)) 30)) 30)) 30)))]) := hD
        refine lv_isub hx hb dL_areLettersSo_85 ?_
        refine lv_imul hx hb dL_areLettersSo_86 ?_
        refine lv_isub hx hb dL_areLettersSo_87 ?_
        refine lv_istore (lv' := [(7, .int (r65 - (r71 * (r76 - r82)))), (6, .int r57), (5, .int r49), (4, .int r40), (0, .ref (a 21)), (1, .int x1), (2, .ref (q)), (3, .int x3)]) hx hb dL_areLettersSo_88 hl (by decide) rfl (fun ls hl => ?_)
        refine lv_aload_n hx hb dL_areLettersSo_90 rfl (lv_at hl 4 rfl) ?_
        refine lv_iload_n hx hb dL_areLettersSo_91 rfl (lv_at hl 7 rfl) ?_
        refine lv_bipush (v := 7) hx hb dL_areLettersSo_92 (by decide) ?_
        have hn := bd2_1 hf hne
        refine cwiP (w1 := fun u : DV => xcoreC G.2 a u) (ws1 := fun u : DV => xcoreC G.2 a u ++ [(q, .inl (G.2 0, 30, .inl ((vs v82 30 ((vs v65 30 ((vs v57 30 ((vs v49 30 ((vs v40 30 (v 30)) 30)) 30)) 30)) 30)) 30)))]) (va_runV (As := [.int x3, .int 7]) (rest := []) ⟨hx, hb, hml, hown, hts⟩ (ok_X6_ofLetter l G a H.size n (vs v82 30 ((vs v65 30 ((vs v57 30 ((vs v49 30 ((vs v40 30 (v 30)) 30)) 30)) 30)) 30)) x3 7 hn) (cwV 2 hts gL_areLettersSo_X6_ofLetter rfl rfl rfl (by decide +kernel) ⟨Nat.le_of_ble_eq_true rfl, Nat.le_of_ble_eq_true rfl⟩) ⟨pcW_blind, va_recv hK (va_P_left hP) (ci := 6) (q0 := 0) rfl rfl, pcW_pre (va_P_left hP) (va_D_left hD) hamb⟩ rfl rfl hl.1 rfl (lv_room (Nat.le_of_ble_eq_true rfl)) dL_areLettersSo_94 ⟨Nat.le_of_ble_eq_true rfl, Nat.le_of_ble_eq_true rfl⟩) hP hD hS hA (List.Perm.refl _) (fun _ => List.Perm.refl _) (fun r94 v94 H locs hw hP hD hS => ?_)
        have hf := bd2_2 hf hw
        have hP : va_P G.1 vwCl (xcoreC G.2 a (vs v94 30 ((vs v82 30 ((vs v65 30 ((vs v57 30 ((vs v49 30 ((vs v40 30 (v 30)) 30)) 30)) 30)) 30)) 30)) ++ [(q, .inl (G.2 0, 30, .inl ((vs v94 30 ((vs v82 30 ((vs v65 30 ((vs v57 30 ((vs v49 30 ((vs v40 30 (v 30)) 30)) 30)) 30)) 30)) 30)) 30)))]) H := hP
        have hD : va_D A (xcoreC G.2 a (vs v94 30 ((vs v82 30 ((vs v65 30 ((vs v57 30 ((vs v49 30 ((vs v40 30 (v 30)) 30)) 30)) 30)) 30)) 30)) ++ [(q, .inl (G.2 0, 30, .inl ((vs v94 30 ((vs v82 30 ((vs v65 30 ((vs v57 30 ((vs v49 30 ((vs v40 30 (v 30)) 30)) 30)) 30)) 30)) 30)) 30)))]) := hD
        refine lv_istore (lv' := [(8, .int r94), (7, .int (r65 - (r71 * (r76 - r82)))), (6, .int r57), (5, .int r49), (4, .int r40), (0, .ref (a 21)), (1, .int x1), (2, .ref (q)), (3, .int x3)]) hx hb dL_areLettersSo_97 hl (by decide) rfl (fun ls hl => ?_)
        refine lv_aload_n hx hb dL_areLettersSo_99 rfl (lv_at hl 5 rfl) ?_
        refine lv_iload hx hb dL_areLettersSo_100 (lv_at hl 2 rfl) ?_
        refine lv_iconst (v := 1) hx hb dL_areLettersSo_102 (by decide) ?_
        have hn := bd1_1 hf hne
        refine vp_callSi (W.runV (As := [.int r57, .int 1]) (rest := []) ⟨hx, hb, hml, hown, hts⟩ (ok_X6_ofDrawer l G a n (vs v94 30 ((vs v82 30 ((vs v65 30 ((vs v57 30 ((vs v49 30 ((vs v40 30 (v 30)) 30)) 30)) 30)) 30)) 30)) r57 1 hn) (cwV 2 hts gL_areLettersSo_X6_ofDrawer rfl rfl rfl (by decide +kernel) ⟨Nat.le_of_ble_eq_true rfl, Nat.le_of_ble_eq_true rfl⟩) ⟨pcR_blind, va_recv hK (va_P_left hP) (ci := 6) (q0 := 0) rfl rfl, pcR_pre (va_P_left hP) hamb⟩ rfl rfl hl.1 rfl (lv_room (Nat.le_of_ble_eq_true rfl)) dL_areLettersSo_103 ⟨Nat.le_of_ble_eq_true rfl, Nat.le_of_ble_eq_true rfl⟩) (fun r103 hw => ?_)
        have hf := bd1_2 hf hw
        refine lv_if_ne (tgt := 113) hx hb dL_areLettersSo_106 (by decide) (fun c => ?_) (fun c => ?_)
        · have hf := it_2 hf c
          refine lv_iconst (v := 0) hx hb dL_areLettersSo_113 (by decide) ?_
          exact J114 (fun v x1 x3 => f_L_areLettersSo_L33 n v x1 x3) ih n q (vs v94 30 ((vs v82 30 ((vs v65 30 ((vs v57 30 ((vs v49 30 ((vs v40 30 (v 30)) 30)) 30)) 30)) 30)) 30)) x1 x3 r40 r49 r57 (r65 - (r71 * (r76 - r82))) r94 0 H locs ls hP hD hS (lv_sub hl [5, 6, 7, 8, 4, 3, 2, 1, 0] rfl) hf
        · have hf := it_1 hf c
          refine lv_iconst (v := 1) hx hb dL_areLettersSo_109 (by decide) ?_
          refine lv_goto (tgt := 114) hx hb dL_areLettersSo_110 (by decide) ?_
          exact J114 (fun v x1 x3 => f_L_areLettersSo_L33 n v x1 x3) ih n q (vs v94 30 ((vs v82 30 ((vs v65 30 ((vs v57 30 ((vs v49 30 ((vs v40 30 (v 30)) 30)) 30)) 30)) 30)) 30)) x1 x3 r40 r49 r57 (r65 - (r71 * (r76 - r82))) r94 1 H locs ls hP hD hS (lv_sub hl [5, 6, 7, 8, 4, 3, 2, 1, 0] rfl) hf
  have J19 : ∀ (n : Nat) (v : DV) (z0 : Int32) (H : Heap) (locs : List Loc) (ls : Array Slot), va_P G.1 vwCl (xcoreC G.2 a v) H → va_D A (xcoreC G.2 a v) → va_S A s.heap H locs → lv_has ls 11 [(0, .ref (a 21))] → f_L_areLettersSo_J19 n v z0 = res → W p l e (headSpec wsL_areLettersSo ({ frames := 5, cells := 1, slots := 30, locals := 132 } : Room)).room s m ([.ref (a 21)] : List Value).toArray below meth c H locs 0 0 (MQ below (va_Qi (fun r (u : DV) => f_L_areLettersSo n0 v0 = some (r, u)) (fun u t => atW G (xcoreC G.2 a u) A t) A) ([.ref (a 21)] : List Value).toArray s 1 30 A) (F0 m 19 ls [.int z0]) := by
    intro n v z0 H locs ls hP hD hS hl hf
    rw [f_L_areLettersSo_J19] at hf
    refine lv_istore_n (lv' := [(1, .int z0), (0, .ref (a 21))]) hx hb dL_areLettersSo_19 rfl hl (by decide) rfl (fun ls hl => ?_)
    refine lv_bipush (v := 30) hx hb dL_areLettersSo_20 (by decide) ?_
    refine nwI (n := 30) (N' := 30) hx hb lw0 hK hP hD hS hA (by decide) rfl (Nat.le_of_ble_eq_true rfl) (Nat.le_of_ble_eq_true rfl) (Nat.le_of_ble_eq_true rfl) dL_areLettersSo_22 (fun q H hP hD hS => ?_)
    have hP : va_P G.1 vwCl (xcoreC G.2 a (vs v 30 (fun _ => 0)) ++ [(q, .inl (G.2 0, 30, .inl ((vs v 30 (fun _ => 0)) 30)))]) H := hP
    have hD : va_D A (xcoreC G.2 a (vs v 30 (fun _ => 0)) ++ [(q, .inl (G.2 0, 30, .inl ((vs v 30 (fun _ => 0)) 30)))]) := hD
    refine lv_astore_n (lv' := [(2, .ref (q)), (1, .int z0), (0, .ref (a 21))]) hx hb dL_areLettersSo_24 rfl hl (by decide) rfl (fun ls hl => ?_)
    refine lv_aload_n hx hb dL_areLettersSo_25 rfl (lv_at hl 2 rfl) ?_
    refine lv_iconst (v := 2) hx hb dL_areLettersSo_26 (by decide) ?_
    have hn := bd1_1 hf hne
    refine vp_callSi (W.runV (As := [.int 2]) (rest := []) ⟨hx, hb, hml, hown, hts⟩ (ok_X6_count l G a n (vs v 30 (fun _ => 0)) 2 hn) (cwV 1 hts gL_areLettersSo_X6_count rfl rfl rfl (by decide +kernel) ⟨Nat.le_of_ble_eq_true rfl, Nat.le_of_ble_eq_true rfl⟩) ⟨pcR_blind, va_recv hK (va_P_left hP) (ci := 6) (q0 := 0) rfl rfl, pcR_pre (va_P_left hP) hamb⟩ rfl rfl hl.1 rfl (lv_room (Nat.le_of_ble_eq_true rfl)) dL_areLettersSo_27 ⟨Nat.le_of_ble_eq_true rfl, Nat.le_of_ble_eq_true rfl⟩) (fun r27 hw => ?_)
    have hf := bd1_2 hf hw
    refine lv_iconst (v := 1) hx hb dL_areLettersSo_30 (by decide) ?_
    refine lv_isub hx hb dL_areLettersSo_31 ?_
    refine lv_istore_n (lv' := [(3, .int (r27 - 1)), (2, .ref (q)), (1, .int z0), (0, .ref (a 21))]) hx hb dL_areLettersSo_32 rfl hl (by decide) rfl (fun ls hl => ?_)
    exact L33 n q (vs v 30 (fun _ => 0)) z0 (r27 - 1) H locs ls hP hD hS (lv_sub hl [3, 2, 1, 0] rfl) hf
  refine lv_aload_n hx hb dL_areLettersSo_0 rfl (lv_at hl 0 rfl) ?_
  refine lv_aload_n hx hb dL_areLettersSo_1 rfl (lv_at hl 0 rfl) ?_
  refine lv_iconst (v := 2) hx hb dL_areLettersSo_2 (by decide) ?_
  have hn := bd1_1 hf hne
  refine vp_callSi (W.runV (As := [.int 2]) (rest := [.ref (a 21)]) ⟨hx, hb, hml, hown, hts⟩ (ok_X6_count l G a n0 v0 2 hn) (cwV 1 hts gL_areLettersSo_X6_count rfl rfl rfl (by decide +kernel) ⟨Nat.le_of_ble_eq_true rfl, Nat.le_of_ble_eq_true rfl⟩) ⟨pcR_blind, va_recv hK hP (ci := 6) (q0 := 0) rfl rfl, pcR_pre hP hamb⟩ rfl rfl hl.1 rfl (lv_room (Nat.le_of_ble_eq_true rfl)) dL_areLettersSo_3 ⟨Nat.le_of_ble_eq_true rfl, Nat.le_of_ble_eq_true rfl⟩) (fun r3 hw => ?_)
  have hf := bd1_2 hf hw
  refine lv_iconst (v := 0) hx hb dL_areLettersSo_6 (by decide) ?_
  have hn := bd2_1 hf hne
  refine cwiP (wr := []) (w1 := fun u : DV => xcoreC G.2 a u) (ws1 := fun u : DV => xcoreC G.2 a u) (va_runV (As := [.int r3, .int 0]) (rest := []) ⟨hx, hb, hml, hown, hts⟩ (ok_X6_ofLetter l G a s.heap.size n0 v0 r3 0 hn) (cwV 2 hts gL_areLettersSo_X6_ofLetter rfl rfl rfl (by decide +kernel) ⟨Nat.le_of_ble_eq_true rfl, Nat.le_of_ble_eq_true rfl⟩) ⟨pcW_blind, va_recv hK hP (ci := 6) (q0 := 0) rfl rfl, pcW_pre hP hD hamb⟩ rfl rfl hl.1 rfl (lv_room (Nat.le_of_ble_eq_true rfl)) dL_areLettersSo_7 ⟨Nat.le_of_ble_eq_true rfl, Nat.le_of_ble_eq_true rfl⟩) hP hD hS hA (pnl _) (fun _ => pnr _) (fun r7 v7 H locs hw hP hD hS => ?_)
  have hf := bd2_2 hf hw
  have hP : va_P G.1 vwCl (xcoreC G.2 a v7) H := hP
  have hD : va_D A (xcoreC G.2 a v7) := hD
  refine lv_iconst (v := (-1)) hx hb dL_areLettersSo_10 (by decide) ?_
  refine lv_icmp_ne (tgt := 18) hx hb dL_areLettersSo_11 (by decide) (fun c => ?_) (fun c => ?_)
  · have hf := it_2 hf c
    refine lv_iconst (v := 0) hx hb dL_areLettersSo_18 (by decide) ?_
    exact J19 n0 v7 0 H locs ls hP hD hS (lv_sub hl [0] rfl) hf
  · have hf := it_1 hf c
    refine lv_iconst (v := 1) hx hb dL_areLettersSo_14 (by decide) ?_
    refine lv_goto (tgt := 19) hx hb dL_areLettersSo_15 (by decide) ?_
    exact J19 n0 v7 1 H locs ls hP hD hS (lv_sub hl [0] rfl) hf
