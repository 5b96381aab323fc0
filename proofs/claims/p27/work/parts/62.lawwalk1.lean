set_option maxHeartbeats 4000000 in
set_option maxRecDepth 100000 in
theorem ok_L_low (l : Launch) (p0 : Int32) (p1 : Int32) (hne : f_L_low p0 p1 ≠ none) : Met l yL_low wsL_low ({ frames := 0, cells := 0, slots := 0, locals := 0 } : Room) (va_Pc [.int p0, .int p1] (fun _ => True)) (vp_Si (fun r => f_L_low p0 p1 = some r)) 0 0 (fun _ => False) := by
  refine Met.ofW (cc := cL_low) (maxL := 2) (ret := (some .int)) (by decide) rfl ?_
  intro p e s m args below meth c s₁ B hml hv
  obtain ⟨rfl, -⟩ := hv
  have hx := B.exec
  have hb := B.bytes
  have hr := B.returns
  have hts := atoms_spec (ws := wsL_low) B.pre
  have hown : s.vm.findClass RL = some m.cls := findClass_of_methodNamed B.named
  have hlocks := B.notSynchronized
  obtain ⟨res, hf0⟩ : ∃ res, f_L_low p0 p1 = res := ⟨_, rfl⟩
  have hne : res ≠ none := hf0 ▸ hne
  have hf := hf0
  rw [f_L_low] at hf
  have lw0 := hts (.constant RL 7 (2147483647)) (by decide +kernel)
  have hl := lv_entry ([.int p0, .int p1]) (n := 2) (Nat.le_of_ble_eq_true rfl)
  rw [lg_entry_eq]
  generalize (lg_sl ([.int p0, .int p1]) ++ List.replicate (2 - (lg_sl ([.int p0, .int p1])).length) Slot.unset).toArray = ls at hl ⊢
  have hl : lv_has ls 2 [(0, .int p0), (1, .int p1)] := hl
  refine lv_iload_n hx hb dL_low_0 rfl (lv_at hl 0 rfl) ?_
  refine lv_ldc (v := 2147483647) hx hb hown lw0 dL_low_1 ?_
  refine lv_iand hx hb dL_low_3 ?_
  refine lv_iload_n hx hb dL_low_4 rfl (lv_at hl 1 rfl) ?_
  obtain ⟨hd, hf⟩ := ck_1 hf hne
  refine lv_irem hx hb dL_low_5 (of_decide_eq_true hd) ?_
  exact W.iret (v := ((p0 &&& 2147483647) - (p0 &&& 2147483647) / p1 * p1)) hx hb hr (fun t ht hW => ⟨((p0 &&& 2147483647) - (p0 &&& 2147483647) / p1 * p1), rfl, hf0.trans hf.symm, ht⟩) (fun _ hq => absurd hq List.not_mem_nil) dL_low_6
set_option maxHeartbeats 4000000 in
set_option maxRecDepth 100000 in
theorem ok_L_sent (l : Launch) (G : Gt) (a : Nat → Nat) (sz : Nat) (n0 : Nat) (v0 : DV) (p1 : Int32) (hne : f_L_sent n0 v0 p1 ≠ none) : Met l yL_sent wsL_sent ({ frames := 5, cells := 0, slots := 0, locals := 132 } : Room) (pcW G [.ref (a 21), .int p1] (xcoreC G.2 a v0) sz) (va_Qi (fun r (u : DV) => f_L_sent n0 v0 p1 = some (r, u)) (fun u t => atW G (xcoreC G.2 a u) (va_A (xcoreC G.2 a v0) sz) t) (va_A (xcoreC G.2 a v0) sz)) 0 0 (va_A (xcoreC G.2 a v0) sz) := by
  refine Met.ofW (cc := cL_sent) (maxL := 4) (ret := (some .int)) (by decide) rfl ?_
  intro p e s m args below meth c s₁ B hml hv
  obtain ⟨rfl, hsz, hP, hD0, hamb⟩ := hv
  have hx := B.exec
  have hb := B.bytes
  have hr := B.returns
  have hts := atoms_spec (ws := wsL_sent) B.pre
  have hown : s.vm.findClass RL = some m.cls := findClass_of_methodNamed B.named
  have hlocks := B.notSynchronized
  have hK := hamb.1
  subst hsz
  have hD := hD0.self (sz := s.heap.size)
  generalize hAe : va_A (xcoreC G.2 a v0) s.heap.size = A at hD ⊢
  have hA : ∀ q : Nat, s.heap.size ≤ q → A q := fun q h => by rw [← hAe]; exact Or.inr h
  have hS : va_S A s.heap s.heap [] := va_S.rf
  obtain ⟨res, hf0⟩ : ∃ res, f_L_sent n0 v0 p1 = res := ⟨_, rfl⟩
  have hne : res ≠ none := hf0 ▸ hne
  have hf := hf0
  rw [f_L_sent] at hf
  have hl := lv_entry ([.ref (a 21), .int p1]) (n := 4) (Nat.le_of_ble_eq_true rfl)
  rw [lg_entry_eq]
  generalize (lg_sl ([.ref (a 21), .int p1]) ++ List.replicate (4 - (lg_sl ([.ref (a 21), .int p1])).length) Slot.unset).toArray = ls at hl ⊢
  have hl : lv_has ls 4 [(0, .ref (a 21)), (1, .int p1)] := hl
  have L24 : ∀ (n : Nat) (v : DV) (x2 : Int32) (x3 : Int32) (H : Heap) (locs : List Loc) (ls : Array Slot), va_P G.1 vwCl (xcoreC G.2 a v) H → va_D A (xcoreC G.2 a v) → va_S A s.heap H locs → lv_has ls 4 [(0, .ref (a 21)), (2, .int x2), (3, .int x3)] → f_L_sent_L24 n v x2 x3 = res → W p l e (headSpec wsL_sent ({ frames := 5, cells := 0, slots := 0, locals := 132 } : Room)).room s m ([.ref (a 21), .int p1] : List Value).toArray below meth c H locs 0 0 (MQ below (va_Qi (fun r (u : DV) => f_L_sent n0 v0 p1 = some (r, u)) (fun u t => atW G (xcoreC G.2 a u) A t) A) ([.ref (a 21), .int p1] : List Value).toArray s 0 0 A) (F0 m 24 ls []) := by
    intro n
    induction n with
    | zero => intro v x2 x3 H locs ls hP hD hS hl hf; exact (none_1 hf hne).elim
    | succ n ih =>
      intro v x2 x3 H locs ls hP hD hS hl hf
      rw [f_L_sent_L24] at hf
      refine lv_iload_n hx hb dL_sent_24 rfl (lv_at hl 2 rfl) ?_
      refine lv_aload_n hx hb dL_sent_25 rfl (lv_at hl 0 rfl) ?_
      refine lv_iconst (v := 2) hx hb dL_sent_26 (by decide) ?_
      have hn := bd1_1 hf hne
      refine vp_callSi (W.runV (As := [.int 2]) (rest := [.int x3]) ⟨hx, hb, hml, hown, hts⟩ (ok_X6_count l G a n v 2 hn) (cwV 1 hts gL_sent_X6_count rfl rfl rfl (by decide +kernel) ⟨Nat.le_of_ble_eq_true rfl, Nat.le_of_ble_eq_true rfl⟩) ⟨pcR_blind, va_recv hK hP (ci := 6) (q0 := 0) rfl rfl, pcR_pre hP hamb⟩ rfl rfl hl.1 rfl (lv_room (Nat.le_of_ble_eq_true rfl)) dL_sent_27 ⟨Nat.le_of_ble_eq_true rfl, Nat.le_of_ble_eq_true rfl⟩) (fun r27 hw => ?_)
      have hf := bd1_2 hf hw
      refine lv_icmp_ge (tgt := 67) hx hb dL_sent_30 (by decide) (fun c => ?_) (fun c => ?_)
      · have hf := it_1 hf c
        refine lv_bipush (v := (-6)) hx hb dL_sent_67 (by decide) ?_
        exact W.iret (v := (-6)) hx hb hr (fun t ht hW => ⟨⟨(-6), v, rfl, hf0.trans hf.symm, by rw [ht]; exact hP, hD⟩, hS.F ht⟩) hS.2.2 dL_sent_69
      · have hf := it_2 hf c
        refine lv_iload_n hx hb dL_sent_33 rfl (lv_at hl 1 rfl) ?_
        refine lv_if_lt (tgt := 67) hx hb dL_sent_34 (by decide) (fun c => ?_) (fun c => ?_)
        · have hf := it_1 hf c
          refine lv_bipush (v := (-6)) hx hb dL_sent_67 (by decide) ?_
          exact W.iret (v := (-6)) hx hb hr (fun t ht hW => ⟨⟨(-6), v, rfl, hf0.trans hf.symm, by rw [ht]; exact hP, hD⟩, hS.F ht⟩) hS.2.2 dL_sent_69
        · have hf := it_2 hf c
          refine lv_iload_n hx hb dL_sent_37 rfl (lv_at hl 1 rfl) ?_
          refine lv_aload_n hx hb dL_sent_38 rfl (lv_at hl 0 rfl) ?_
          refine lv_iload_n hx hb dL_sent_39 rfl (lv_at hl 2 rfl) ?_
          refine lv_iconst (v := 4) hx hb dL_sent_40 (by decide) ?_
          have hn := bd2_1 hf hne
          refine cwiP (wr := []) (w1 := fun u : DV => xcoreC G.2 a u) (ws1 := fun u : DV => xcoreC G.2 a u) (va_runV (As := [.int x3, .int 4]) (rest := [.int x2]) ⟨hx, hb, hml, hown, hts⟩ (ok_X6_ofLetter l G a H.size n v x3 4 hn) (cwV 2 hts gL_sent_X6_ofLetter rfl rfl rfl (by decide +kernel) ⟨Nat.le_of_ble_eq_true rfl, Nat.le_of_ble_eq_true rfl⟩) ⟨pcW_blind, va_recv hK hP (ci := 6) (q0 := 0) rfl rfl, pcW_pre hP hD hamb⟩ rfl rfl hl.1 rfl (lv_room (Nat.le_of_ble_eq_true rfl)) dL_sent_41 ⟨Nat.le_of_ble_eq_true rfl, Nat.le_of_ble_eq_true rfl⟩) hP hD hS hA (pnl _) (fun _ => pnr _) (fun r41 v41 H locs hw hP hD hS => ?_)
          have hf := bd2_2 hf hw
          have hP : va_P G.1 vwCl (xcoreC G.2 a v41) H := hP
          have hD : va_D A (xcoreC G.2 a v41) := hD
          refine lv_iconst (v := 1) hx hb dL_sent_44 (by decide) ?_
          refine lv_icmp_ne (tgt := 52) hx hb dL_sent_45 (by decide) (fun c => ?_) (fun c => ?_)
          · have hf := it_2 hf c
            refine lv_iconst (v := 0) hx hb dL_sent_52 (by decide) ?_
            refine lv_isub hx hb dL_sent_53 ?_
            refine lv_istore_n (lv' := [(2, .int (x2 - 0)), (0, .ref (a 21)), (3, .int x3)]) hx hb dL_sent_54 rfl hl (by decide) rfl (fun ls hl => ?_)
            refine lv_iload_n hx hb dL_sent_55 rfl (lv_at hl 0 rfl) ?_
            refine lv_if_ge (tgt := 61) hx hb dL_sent_56 (by decide) (fun c => ?_) (fun c => ?_)
            · have hf := it_1 hf c
              refine lv_iinc (v := (x3 + 1)) (lv' := [(3, .int (x3 + 1)), (2, .int (x2 - 0)), (0, .ref (a 21))]) hx hb dL_sent_61 hl (k := 2) rfl rfl (by decide) rfl (fun ls hl => ?_)
              refine lv_goto (tgt := 24) hx hb dL_sent_64 (by decide) ?_
              exact ih v41 (x2 - 0) (x3 + 1) H locs ls hP hD hS (lv_sub hl [2, 1, 0] rfl) hf
            · have hf := it_2 hf c
              refine lv_iload_n hx hb dL_sent_59 rfl (lv_at hl 2 rfl) ?_
              exact W.iret (v := x3) hx hb hr (fun t ht hW => ⟨⟨x3, v41, rfl, hf0.trans hf.symm, by rw [ht]; exact hP, hD⟩, hS.F ht⟩) hS.2.2 dL_sent_60
          · have hf := it_1 hf c
            refine lv_iconst (v := 1) hx hb dL_sent_48 (by decide) ?_
            refine lv_goto (tgt := 53) hx hb dL_sent_49 (by decide) ?_
            refine lv_isub hx hb dL_sent_53 ?_
            refine lv_istore_n (lv' := [(2, .int (x2 - 1)), (0, .ref (a 21)), (3, .int x3)]) hx hb dL_sent_54 rfl hl (by decide) rfl (fun ls hl => ?_)
            refine lv_iload_n hx hb dL_sent_55 rfl (lv_at hl 0 rfl) ?_
            refine lv_if_ge (tgt := 61) hx hb dL_sent_56 (by decide) (fun c => ?_) (fun c => ?_)
            · have hf := it_1 hf c
              refine lv_iinc (v := (x3 + 1)) (lv' := [(3, .int (x3 + 1)), (2, .int (x2 - 1)), (0, .ref (a 21))]) hx hb dL_sent_61 hl (k := 2) rfl rfl (by decide) rfl (fun ls hl => ?_)
              refine lv_goto (tgt := 24) hx hb dL_sent_64 (by decide) ?_
              exact ih v41 (x2 - 1) (x3 + 1) H locs ls hP hD hS (lv_sub hl [2, 1, 0] rfl) hf
            · have hf := it_2 hf c
              refine lv_iload_n hx hb dL_sent_59 rfl (lv_at hl 2 rfl) ?_
              exact W.iret (v := x3) hx hb hr (fun t ht hW => ⟨⟨x3, v41, rfl, hf0.trans hf.symm, by rw [ht]; exact hP, hD⟩, hS.F ht⟩) hS.2.2 dL_sent_60
  refine lv_aload_n hx hb dL_sent_0 rfl (lv_at hl 0 rfl) ?_
  refine lv_iconst (v := 4) hx hb dL_sent_1 (by decide) ?_
  have hn := bd1_1 hf hne
  refine vp_callSi (W.runV (As := [.int 4]) (rest := []) ⟨hx, hb, hml, hown, hts⟩ (ok_X6_count l G a n0 v0 4 hn) (cwV 1 hts gL_sent_X6_count rfl rfl rfl (by decide +kernel) ⟨Nat.le_of_ble_eq_true rfl, Nat.le_of_ble_eq_true rfl⟩) ⟨pcR_blind, va_recv hK hP (ci := 6) (q0 := 0) rfl rfl, pcR_pre hP hamb⟩ rfl rfl hl.1 rfl (lv_room (Nat.le_of_ble_eq_true rfl)) dL_sent_2 ⟨Nat.le_of_ble_eq_true rfl, Nat.le_of_ble_eq_true rfl⟩) (fun r2 hw => ?_)
  have hf := bd1_2 hf hw
  refine lv_if_ne (tgt := 12) hx hb dL_sent_5 (by decide) (fun c => ?_) (fun c => ?_)
  · have hf := it_2 hf c
    refine lv_iload_n hx hb dL_sent_12 rfl (lv_at hl 1 rfl) ?_
    refine lv_aload_n hx hb dL_sent_13 rfl (lv_at hl 0 rfl) ?_
    refine lv_iconst (v := 4) hx hb dL_sent_14 (by decide) ?_
    have hn := bd1_1 hf hne
    refine vp_callSi (W.runV (As := [.int 4]) (rest := [.int p1]) ⟨hx, hb, hml, hown, hts⟩ (ok_X6_count l G a n0 v0 4 hn) (cwV 1 hts gL_sent_X6_count rfl rfl rfl (by decide +kernel) ⟨Nat.le_of_ble_eq_true rfl, Nat.le_of_ble_eq_true rfl⟩) ⟨pcR_blind, va_recv hK hP (ci := 6) (q0 := 0) rfl rfl, pcR_pre hP hamb⟩ rfl rfl hl.1 rfl (lv_room (Nat.le_of_ble_eq_true rfl)) dL_sent_15 ⟨Nat.le_of_ble_eq_true rfl, Nat.le_of_ble_eq_true rfl⟩) (fun r15 hw => ?_)
    have hf := bd1_2 hf hw
    have hn := bd1_1 hf hne
    refine vp_callSi (W.runS (As := [.int p1, .int r15]) (rest := []) ⟨hx, hb, hml, hown, hts⟩ (ok_L_low l p1 r15 hn) (va_cwS 2 hts gL_sent_L_low rfl rfl rfl (by decide +kernel) ⟨Nat.le_of_ble_eq_true rfl, Nat.le_of_ble_eq_true rfl⟩) ⟨fun _ _ _ _ q => q, fun _ _ _ => ⟨rfl, trivial⟩⟩ rfl rfl hl.1 rfl (lv_room (Nat.le_of_ble_eq_true rfl)) dL_sent_18 ⟨Nat.le_of_ble_eq_true rfl, Nat.le_of_ble_eq_true rfl⟩) (fun r18 hw => ?_)
    have hf := bd1_2 hf hw
    refine lv_istore_n (lv' := [(2, .int r18), (0, .ref (a 21)), (1, .int p1)]) hx hb dL_sent_21 rfl hl (by decide) rfl (fun ls hl => ?_)
    refine lv_iconst (v := 0) hx hb dL_sent_22 (by decide) ?_
    refine lv_istore_n (lv' := [(3, .int 0), (2, .int r18), (0, .ref (a 21)), (1, .int p1)]) hx hb dL_sent_23 rfl hl (by decide) rfl (fun ls hl => ?_)
    exact L24 n0 v0 r18 0 s.heap [] ls hP hD hS (lv_sub hl [2, 1, 0] rfl) hf
  · have hf := it_1 hf c
    refine lv_iconst (v := (-1)) hx hb dL_sent_8 (by decide) ?_
    refine lv_goto (tgt := 21) hx hb dL_sent_9 (by decide) ?_
    refine lv_istore_n (lv' := [(2, .int (-1)), (0, .ref (a 21)), (1, .int p1)]) hx hb dL_sent_21 rfl hl (by decide) rfl (fun ls hl => ?_)
    refine lv_iconst (v := 0) hx hb dL_sent_22 (by decide) ?_
    refine lv_istore_n (lv' := [(3, .int 0), (2, .int (-1)), (0, .ref (a 21)), (1, .int p1)]) hx hb dL_sent_23 rfl hl (by decide) rfl (fun ls hl => ?_)
    exact L24 n0 v0 (-1) 0 s.heap [] ls hP hD hS (lv_sub hl [2, 1, 0] rfl) hf
