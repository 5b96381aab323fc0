set_option maxHeartbeats 4000000 in
set_option maxRecDepth 100000 in
theorem ok_L_does (l : Launch) (G : Gt) (a : Nat → Nat) (sz : Nat) (n0 : Nat) (v0 : DV) (hs0 : List HD) (p1 : Int32) (hne : f_L_does n0 v0 (hs0.map Prod.snd) p1 ≠ none) : Met l yL_does wsL_does ({ frames := 6, cells := 15, slots := 253, locals := 155 } : Room) (pcH G [.ref (a 21), .int p1] (XW G a v0 hs0) sz) (va_Qi (fun r (u : DV × List HD) => f_L_does n0 v0 (hs0.map Prod.snd) p1 = some (r, u.1, u.2.map Prod.snd)) (fun u t => atW G (XW G a u.1 u.2) (va_A (XW G a v0 hs0) sz) t) (va_A (XW G a v0 hs0) sz)) 15 253 (va_A (XW G a v0 hs0) sz) := by
  refine Met.ofW (cc := cL_does) (maxL := 4) (ret := (some .int)) (by decide) rfl ?_
  intro p e s m args below meth c s₁ B hml hv
  obtain ⟨rfl, hsz, hP, hD0, hamb, hHS⟩ := hv
  have hx := B.exec
  have hb := B.bytes
  have hr := B.returns
  have hts := atoms_spec (ws := wsL_does) B.pre
  have hown : s.vm.findClass RL = some m.cls := findClass_of_methodNamed B.named
  have hlocks := B.notSynchronized
  have hK := hamb.1
  subst hsz
  have hD := hD0.self (sz := s.heap.size)
  generalize hAe : va_A (XW G a v0 hs0) s.heap.size = A at hD hHS ⊢
  have hA : ∀ q : Nat, s.heap.size ≤ q → A q := fun q h => by rw [← hAe]; exact Or.inr h
  have hS : va_S A s.heap s.heap [] := va_S.rf
  obtain ⟨res, hf0⟩ : ∃ res, f_L_does n0 v0 (hs0.map Prod.snd) p1 = res := ⟨_, rfl⟩
  have hne : res ≠ none := hf0 ▸ hne
  have hf := hf0
  rw [f_L_does] at hf
  have hl := lv_entry ([.ref (a 21), .int p1]) (n := 4) (Nat.le_of_ble_eq_true rfl)
  rw [lg_entry_eq]
  generalize (lg_sl ([.ref (a 21), .int p1]) ++ List.replicate (4 - (lg_sl ([.ref (a 21), .int p1])).length) Slot.unset).toArray = ls at hl ⊢
  have hl : lv_has ls 4 [(0, .ref (a 21)), (1, .int p1)] := hl
  have J172 : ∀ (n : Nat) (v : DV) (hs : List HD) (x1 : Int32) (z0 : Int32) (z1 : Int32) (H : Heap) (locs : List Loc) (ls : Array Slot), va_P G.1 vwCl (XW G a v hs) H → va_D A (XW G a v hs) → va_S A s.heap H locs → lv_has ls 4 [(1, .int x1)] → f_L_does_J172 n v (hs.map Prod.snd) x1 z0 z1 = res → W p l e (headSpec wsL_does ({ frames := 6, cells := 15, slots := 253, locals := 155 } : Room)).room s m ([.ref (a 21), .int p1] : List Value).toArray below meth c H locs 0 0 (MQ below (va_Qi (fun r (u : DV × List HD) => f_L_does n0 v0 (hs0.map Prod.snd) p1 = some (r, u.1, u.2.map Prod.snd)) (fun u t => atW G (XW G a u.1 u.2) A t) A) ([.ref (a 21), .int p1] : List Value).toArray s 15 253 A) (F0 m 172 ls [.int z0, .int z1, .ref (a 21)]) := by
    intro n v hs x1 z0 z1 H locs ls hP hD hS hl hf
    rw [f_L_does_J172] at hf
    refine lv_iload_n hx hb dL_does_172 rfl (lv_at hl 0 rfl) ?_
    refine lv_bipush (v := 9) hx hb dL_does_173 (by decide) ?_
    refine lv_ishr hx hb dL_does_175 ?_
    refine lv_bipush (v := 24) hx hb dL_does_176 (by decide) ?_
    have hn := bd1_1 hf hne
    refine vp_callSi (W.runS (As := [.int (x1 >>> (9 &&& 31)), .int 24]) (rest := [.int z0, .int z1, .ref (a 21)]) ⟨hx, hb, hml, hown, hts⟩ (ok_L_low l (x1 >>> (9 &&& 31)) 24 hn) (va_cwS 2 hts gL_does_L_low rfl rfl rfl (by decide +kernel) ⟨Nat.le_of_ble_eq_true rfl, Nat.le_of_ble_eq_true rfl⟩) ⟨fun _ _ _ _ q => q, fun _ _ _ => ⟨rfl, trivial⟩⟩ rfl rfl hl.1 rfl (lv_room (Nat.le_of_ble_eq_true rfl)) dL_does_178 ⟨Nat.le_of_ble_eq_true rfl, Nat.le_of_ble_eq_true rfl⟩) (fun r178 hw => ?_)
    have hf := bd1_2 hf hw
    refine lv_iload_n hx hb dL_does_181 rfl (lv_at hl 0 rfl) ?_
    refine lv_bipush (v := 14) hx hb dL_does_182 (by decide) ?_
    refine lv_ishr hx hb dL_does_184 ?_
    refine lv_bipush (v := 24) hx hb dL_does_185 (by decide) ?_
    have hn := bd1_1 hf hne
    refine vp_callSi (W.runS (As := [.int (x1 >>> (14 &&& 31)), .int 24]) (rest := [.int r178, .int z0, .int z1, .ref (a 21)]) ⟨hx, hb, hml, hown, hts⟩ (ok_L_low l (x1 >>> (14 &&& 31)) 24 hn) (va_cwS 2 hts gL_does_L_low rfl rfl rfl (by decide +kernel) ⟨Nat.le_of_ble_eq_true rfl, Nat.le_of_ble_eq_true rfl⟩) ⟨fun _ _ _ _ q => q, fun _ _ _ => ⟨rfl, trivial⟩⟩ rfl rfl hl.1 rfl (lv_room (Nat.le_of_ble_eq_true rfl)) dL_does_187 ⟨Nat.le_of_ble_eq_true rfl, Nat.le_of_ble_eq_true rfl⟩) (fun r187 hw => ?_)
    have hf := bd1_2 hf hw
    refine lv_icmp_ne (tgt := 210) hx hb dL_does_190 (by decide) (fun c => ?_) (fun c => ?_)
    · have hf := it_2 hf c
      refine lv_iload_n hx hb dL_does_210 rfl (lv_at hl 0 rfl) ?_
      refine lv_bipush (v := 14) hx hb dL_does_211 (by decide) ?_
      refine lv_ishr hx hb dL_does_213 ?_
      refine lv_bipush (v := 24) hx hb dL_does_214 (by decide) ?_
      have hn := bd1_1 hf hne
      refine vp_callSi (W.runS (As := [.int (x1 >>> (14 &&& 31)), .int 24]) (rest := [.int z0, .int z1, .ref (a 21)]) ⟨hx, hb, hml, hown, hts⟩ (ok_L_low l (x1 >>> (14 &&& 31)) 24 hn) (va_cwS 2 hts gL_does_L_low rfl rfl rfl (by decide +kernel) ⟨Nat.le_of_ble_eq_true rfl, Nat.le_of_ble_eq_true rfl⟩) ⟨fun _ _ _ _ q => q, fun _ _ _ => ⟨rfl, trivial⟩⟩ rfl rfl hl.1 rfl (lv_room (Nat.le_of_ble_eq_true rfl)) dL_does_216 ⟨Nat.le_of_ble_eq_true rfl, Nat.le_of_ble_eq_true rfl⟩) (fun r216 hw => ?_)
      have hf := bd1_2 hf hw
      obtain ⟨hkk, hf⟩ := ck_1 hf hne
      obtain ⟨hk, hk6, hkl, h7⟩ := kOK_1 hkk
      have hn := chgF_ne (bd3_1 hf hne)
      refine cwiP (wr := []) (w1 := fun u : DV × List HD => XW G a u.1 u.2) (ws1 := fun u : DV × List HD => XW G a u.1 u.2) (va_runV (As := [.int z1, .int z0, .int r216]) (rest := []) ⟨hx, hb, hml, hown, hts⟩ (ok_X6_hours l G a _ v hs [] (fun _ => none) (kV v) hk hk6 hkl h7 copyFrom_ne z1 z0 r216 hn) (cwV 3 hts gL_does_X6_hours rfl rfl rfl (by decide +kernel) ⟨Nat.le_of_ble_eq_true rfl, Nat.le_of_ble_eq_true rfl⟩) ⟨pcW_blind, va_recv hK hP (ci := 6) (q0 := 0) rfl rfl, pcW_pre hP hD hamb⟩ rfl rfl hl.1 rfl (lv_room (Nat.le_of_ble_eq_true rfl)) dL_does_219 ⟨Nat.le_of_ble_eq_true rfl, Nat.le_of_ble_eq_true rfl⟩) hP hD hS hA (pnl _) (fun _ => pnr _) (fun r219 u219 H locs hw hP hD hS => ?_)
      obtain ⟨v219, hs219⟩ := u219
      have hf := bd3_2 (y := v219) (z := hs219.map Prod.snd) hf hw
      have hP : va_P G.1 vwCl (XW G a v219 hs219) H := hP
      have hD : va_D A (XW G a v219 hs219) := hD
      refine W.widen (k := 15) (n := 253) (Nat.le_of_ble_eq_true rfl) (Nat.le_of_ble_eq_true rfl) ?_
      exact W.iret (v := r219) hx hb hr (fun t ht hW => ⟨⟨r219, (v219, hs219), rfl, hf0.trans hf.symm, by rw [ht]; exact hP, hD⟩, hS.F ht⟩) hS.2.2 dL_does_222
    · have hf := it_1 hf c
      refine lv_iload_n hx hb dL_does_193 rfl (lv_at hl 0 rfl) ?_
      refine lv_bipush (v := 9) hx hb dL_does_194 (by decide) ?_
      refine lv_ishr hx hb dL_does_196 ?_
      refine lv_bipush (v := 24) hx hb dL_does_197 (by decide) ?_
      have hn := bd1_1 hf hne
      refine vp_callSi (W.runS (As := [.int (x1 >>> (9 &&& 31)), .int 24]) (rest := [.int z0, .int z1, .ref (a 21)]) ⟨hx, hb, hml, hown, hts⟩ (ok_L_low l (x1 >>> (9 &&& 31)) 24 hn) (va_cwS 2 hts gL_does_L_low rfl rfl rfl (by decide +kernel) ⟨Nat.le_of_ble_eq_true rfl, Nat.le_of_ble_eq_true rfl⟩) ⟨fun _ _ _ _ q => q, fun _ _ _ => ⟨rfl, trivial⟩⟩ rfl rfl hl.1 rfl (lv_room (Nat.le_of_ble_eq_true rfl)) dL_does_199 ⟨Nat.le_of_ble_eq_true rfl, Nat.le_of_ble_eq_true rfl⟩) (fun r199 hw => ?_)
      have hf := bd1_2 hf hw
      refine lv_iconst (v := 1) hx hb dL_does_202 (by decide) ?_
      refine lv_iadd hx hb dL_does_203 ?_
      refine lv_bipush (v := 24) hx hb dL_does_204 (by decide) ?_
      refine lv_irem hx hb dL_does_206 (by decide) ?_
      refine lv_goto (tgt := 219) hx hb dL_does_207 (by decide) ?_
      obtain ⟨hkk, hf⟩ := ck_1 hf hne
      obtain ⟨hk, hk6, hkl, h7⟩ := kOK_1 hkk
      have hn := chgF_ne (bd3_1 hf hne)
      refine cwiP (wr := []) (w1 := fun u : DV × List HD => XW G a u.1 u.2) (ws1 := fun u : DV × List HD => XW G a u.1 u.2) (va_runV (As := [.int z1, .int z0, .int ((r199 + 1) - (r199 + 1) / 24 * 24)]) (rest := []) ⟨hx, hb, hml, hown, hts⟩ (ok_X6_hours l G a _ v hs [] (fun _ => none) (kV v) hk hk6 hkl h7 copyFrom_ne z1 z0 ((r199 + 1) - (r199 + 1) / 24 * 24) hn) (cwV 3 hts gL_does_X6_hours rfl rfl rfl (by decide +kernel) ⟨Nat.le_of_ble_eq_true rfl, Nat.le_of_ble_eq_true rfl⟩) ⟨pcW_blind, va_recv hK hP (ci := 6) (q0 := 0) rfl rfl, pcW_pre hP hD hamb⟩ rfl rfl hl.1 rfl (lv_room (Nat.le_of_ble_eq_true rfl)) dL_does_219 ⟨Nat.le_of_ble_eq_true rfl, Nat.le_of_ble_eq_true rfl⟩) hP hD hS hA (pnl _) (fun _ => pnr _) (fun r219 u219 H locs hw hP hD hS => ?_)
      obtain ⟨v219, hs219⟩ := u219
      have hf := bd3_2 (y := v219) (z := hs219.map Prod.snd) hf hw
      have hP : va_P G.1 vwCl (XW G a v219 hs219) H := hP
      have hD : va_D A (XW G a v219 hs219) := hD
      refine W.widen (k := 15) (n := 253) (Nat.le_of_ble_eq_true rfl) (Nat.le_of_ble_eq_true rfl) ?_
      exact W.iret (v := r219) hx hb hr (fun t ht hW => ⟨⟨r219, (v219, hs219), rfl, hf0.trans hf.symm, by rw [ht]; exact hP, hD⟩, hS.F ht⟩) hS.2.2 dL_does_222
  refine lv_iload_n hx hb dL_does_0 rfl (lv_at hl 1 rfl) ?_
  refine lv_iconst (v := 4) hx hb dL_does_1 (by decide) ?_
  refine lv_ishr hx hb dL_does_2 ?_
  refine lv_bipush (v := 6) hx hb dL_does_3 (by decide) ?_
  have hn := bd1_1 hf hne
  refine vp_callSi (W.runS (As := [.int (p1 >>> (4 &&& 31)), .int 6]) (rest := []) ⟨hx, hb, hml, hown, hts⟩ (ok_L_low l (p1 >>> (4 &&& 31)) 6 hn) (va_cwS 2 hts gL_does_L_low rfl rfl rfl (by decide +kernel) ⟨Nat.le_of_ble_eq_true rfl, Nat.le_of_ble_eq_true rfl⟩) ⟨fun _ _ _ _ q => q, fun _ _ _ => ⟨rfl, trivial⟩⟩ rfl rfl hl.1 rfl (lv_room (Nat.le_of_ble_eq_true rfl)) dL_does_5 ⟨Nat.le_of_ble_eq_true rfl, Nat.le_of_ble_eq_true rfl⟩) (fun r5 hw => ?_)
  have hf := bd1_2 hf hw
  refine lv_istore_n (lv' := [(2, .int r5), (0, .ref (a 21)), (1, .int p1)]) hx hb dL_does_8 rfl hl (by decide) rfl (fun ls hl => ?_)
  refine lv_iload_n hx hb dL_does_9 rfl (lv_at hl 2 rfl) ?_
  refine lv_bipush (v := 15) hx hb dL_does_10 (by decide) ?_
  refine lv_iand hx hb dL_does_12 ?_
  by_cases c0 : (p1 &&& 15) = 0
  · have hf := it_1 hf c0
    refine lv_tableIn (off := 51) (tgt := 64) hx hb dL_does_13 (by rw [c0]; decide) (by rw [c0]; decide) (by rw [c0]; rfl) (by decide) ?_
    refine lv_aload_n hx hb dL_does_64 rfl (lv_at hl 1 rfl) ?_
    refine lv_iload_n hx hb dL_does_65 rfl (lv_at hl 0 rfl) ?_
    refine lv_iload_n hx hb dL_does_66 rfl (lv_at hl 2 rfl) ?_
    refine lv_bipush (v := 7) hx hb dL_does_67 (by decide) ?_
    refine lv_ishr hx hb dL_does_69 ?_
    refine lv_bipush (v := 70) hx hb dL_does_70 (by decide) ?_
    have hn := bd1_1 hf hne
    refine vp_callSi (W.runS (As := [.int (p1 >>> (7 &&& 31)), .int 70]) (rest := [.int r5, .ref (a 21)]) ⟨hx, hb, hml, hown, hts⟩ (ok_L_low l (p1 >>> (7 &&& 31)) 70 hn) (va_cwS 2 hts gL_does_L_low rfl rfl rfl (by decide +kernel) ⟨Nat.le_of_ble_eq_true rfl, Nat.le_of_ble_eq_true rfl⟩) ⟨fun _ _ _ _ q => q, fun _ _ _ => ⟨rfl, trivial⟩⟩ rfl rfl hl.1 rfl (lv_room (Nat.le_of_ble_eq_true rfl)) dL_does_72 ⟨Nat.le_of_ble_eq_true rfl, Nat.le_of_ble_eq_true rfl⟩) (fun r72 hw => ?_)
    have hf := bd1_2 hf hw
    refine lv_iload_n hx hb dL_does_75 rfl (lv_at hl 2 rfl) ?_
    refine lv_bipush (v := 14) hx hb dL_does_76 (by decide) ?_
    refine lv_ishr hx hb dL_does_78 ?_
    refine lv_iconst (v := 1) hx hb dL_does_79 (by decide) ?_
    refine lv_iand hx hb dL_does_80 ?_
    refine lv_if_ne (tgt := 89) hx hb dL_does_81 (by decide) (fun c => ?_) (fun c => ?_)
    · have hf := it_2 hf c
      refine lv_aload_n hx hb dL_does_89 rfl (lv_at hl 1 rfl) ?_
      refine lv_iload_n hx hb dL_does_90 rfl (lv_at hl 2 rfl) ?_
      refine lv_bipush (v := 15) hx hb dL_does_91 (by decide) ?_
      refine lv_ishr hx hb dL_does_93 ?_
      have hpm := XW_x G a v0 hs0
      have hPc := va_P_left (va_P_perm hP hpm)
      have hDc := va_D_left (va_D_perm hD hpm)
      have hn := bd2_1 hf hne
      refine cwiP (w1 := fun u : DV => xcoreC G.2 a u) (ws1 := fun u : DV => XW G a u hs0) (va_runS (As := [.ref (a 21), .int (p1 >>> (15 &&& 31))]) (rest := [.int r72, .int r5, .ref (a 21)]) ⟨hx, hb, hml, hown, hts⟩ (ok_L_sent l G a s.heap.size n0 v0 (p1 >>> (15 &&& 31)) hn) (va_cwS 2 hts gL_does_L_sent rfl rfl rfl (by decide +kernel) ⟨Nat.le_of_ble_eq_true rfl, Nat.le_of_ble_eq_true rfl⟩) ⟨pcW_blind, pcW_pre hPc hDc hamb⟩ rfl rfl hl.1 rfl (lv_room (Nat.le_of_ble_eq_true rfl)) dL_does_94 ⟨Nat.le_of_ble_eq_true rfl, Nat.le_of_ble_eq_true rfl⟩) hP hD hS hA hpm (fun u => (XW_x G a u hs0).symm) (fun r94 v94 H locs hw hP hD hS => ?_)
      have hf := bd2_2 hf hw
      have hP : va_P G.1 vwCl (XW G a v94 hs0) H := hP
      have hD : va_D A (XW G a v94 hs0) := hD
      obtain ⟨hkk, hf⟩ := ck_1 hf hne
      obtain ⟨hk, hk6, hkl, h7⟩ := kOK_1 hkk
      have hn := chgF_ne (bd3_1 hf hne)
      refine cwiP (wr := []) (w1 := fun u : DV × List HD => XW G a u.1 u.2) (ws1 := fun u : DV × List HD => XW G a u.1 u.2) (va_runV (As := [.int r5, .int r72, .int r94]) (rest := []) ⟨hx, hb, hml, hown, hts⟩ (ok_X6_write l G a _ n0 v94 hs0 [] (fun _ => none) (kV v94) hk hk6 hkl h7 copyFrom_ne r5 r72 r94 hn) (cwV 3 hts gL_does_X6_write rfl rfl rfl (by decide +kernel) ⟨Nat.le_of_ble_eq_true rfl, Nat.le_of_ble_eq_true rfl⟩) ⟨pcW_blind, va_recv hK hP (ci := 6) (q0 := 0) rfl rfl, pcW_pre hP hD hamb⟩ rfl rfl hl.1 rfl (lv_room (Nat.le_of_ble_eq_true rfl)) dL_does_97 ⟨Nat.le_of_ble_eq_true rfl, Nat.le_of_ble_eq_true rfl⟩) hP hD hS hA (pnl _) (fun _ => pnr _) (fun r97 u97 H locs hw hP hD hS => ?_)
      obtain ⟨v97, hs97⟩ := u97
      have hf := bd3_2 (y := v97) (z := hs97.map Prod.snd) hf hw
      have hP : va_P G.1 vwCl (XW G a v97 hs97) H := hP
      have hD : va_D A (XW G a v97 hs97) := hD
      refine W.widen (k := 15) (n := 253) (Nat.le_of_ble_eq_true rfl) (Nat.le_of_ble_eq_true rfl) ?_
      exact W.iret (v := r97) hx hb hr (fun t ht hW => ⟨⟨r97, (v97, hs97), rfl, hf0.trans hf.symm, by rw [ht]; exact hP, hD⟩, hS.F ht⟩) hS.2.2 dL_does_100
    · have hf := it_1 hf c
      refine lv_bipush (v := (-6)) hx hb dL_does_84 (by decide) ?_
      refine lv_goto (tgt := 97) hx hb dL_does_86 (by decide) ?_
      obtain ⟨hkk, hf⟩ := ck_1 hf hne
      obtain ⟨hk, hk6, hkl, h7⟩ := kOK_1 hkk
      have hn := chgF_ne (bd3_1 hf hne)
      refine cwiP (wr := []) (w1 := fun u : DV × List HD => XW G a u.1 u.2) (ws1 := fun u : DV × List HD => XW G a u.1 u.2) (va_runV (As := [.int r5, .int r72, .int (-6)]) (rest := []) ⟨hx, hb, hml, hown, hts⟩ (ok_X6_write l G a _ n0 v0 hs0 [] (fun _ => none) (kV v0) hk hk6 hkl h7 copyFrom_ne r5 r72 (-6) hn) (cwV 3 hts gL_does_X6_write rfl rfl rfl (by decide +kernel) ⟨Nat.le_of_ble_eq_true rfl, Nat.le_of_ble_eq_true rfl⟩) ⟨pcW_blind, va_recv hK hP (ci := 6) (q0 := 0) rfl rfl, pcW_pre hP hD hamb⟩ rfl rfl hl.1 rfl (lv_room (Nat.le_of_ble_eq_true rfl)) dL_does_97 ⟨Nat.le_of_ble_eq_true rfl, Nat.le_of_ble_eq_true rfl⟩) hP hD hS hA (pnl _) (fun _ => pnr _) (fun r97 u97 H locs hw hP hD hS => ?_)
      obtain ⟨v97, hs97⟩ := u97
      have hf := bd3_2 (y := v97) (z := hs97.map Prod.snd) hf hw
      have hP : va_P G.1 vwCl (XW G a v97 hs97) H := hP
      have hD : va_D A (XW G a v97 hs97) := hD
      refine W.widen (k := 15) (n := 253) (Nat.le_of_ble_eq_true rfl) (Nat.le_of_ble_eq_true rfl) ?_
      exact W.iret (v := r97) hx hb hr (fun t ht hW => ⟨⟨r97, (v97, hs97), rfl, hf0.trans hf.symm, by rw [ht]; exact hP, hD⟩, hS.F ht⟩) hS.2.2 dL_does_100
  have hf := it_2 hf c0
  by_cases c1 : (p1 &&& 15) = 1
  · have hf := it_1 hf c1
    refine lv_tableIn (off := 51) (tgt := 64) hx hb dL_does_13 (by rw [c1]; decide) (by rw [c1]; decide) (by rw [c1]; rfl) (by decide) ?_
    refine lv_aload_n hx hb dL_does_64 rfl (lv_at hl 1 rfl) ?_
    refine lv_iload_n hx hb dL_does_65 rfl (lv_at hl 0 rfl) ?_
    refine lv_iload_n hx hb dL_does_66 rfl (lv_at hl 2 rfl) ?_
    refine lv_bipush (v := 7) hx hb dL_does_67 (by decide) ?_
    refine lv_ishr hx hb dL_does_69 ?_
    refine lv_bipush (v := 70) hx hb dL_does_70 (by decide) ?_
    have hn := bd1_1 hf hne
    refine vp_callSi (W.runS (As := [.int (p1 >>> (7 &&& 31)), .int 70]) (rest := [.int r5, .ref (a 21)]) ⟨hx, hb, hml, hown, hts⟩ (ok_L_low l (p1 >>> (7 &&& 31)) 70 hn) (va_cwS 2 hts gL_does_L_low rfl rfl rfl (by decide +kernel) ⟨Nat.le_of_ble_eq_true rfl, Nat.le_of_ble_eq_true rfl⟩) ⟨fun _ _ _ _ q => q, fun _ _ _ => ⟨rfl, trivial⟩⟩ rfl rfl hl.1 rfl (lv_room (Nat.le_of_ble_eq_true rfl)) dL_does_72 ⟨Nat.le_of_ble_eq_true rfl, Nat.le_of_ble_eq_true rfl⟩) (fun r72 hw => ?_)
    have hf := bd1_2 hf hw
    refine lv_iload_n hx hb dL_does_75 rfl (lv_at hl 2 rfl) ?_
    refine lv_bipush (v := 14) hx hb dL_does_76 (by decide) ?_
    refine lv_ishr hx hb dL_does_78 ?_
    refine lv_iconst (v := 1) hx hb dL_does_79 (by decide) ?_
    refine lv_iand hx hb dL_does_80 ?_
    refine lv_if_ne (tgt := 89) hx hb dL_does_81 (by decide) (fun c => ?_) (fun c => ?_)
    · have hf := it_2 hf c
      refine lv_aload_n hx hb dL_does_89 rfl (lv_at hl 1 rfl) ?_
      refine lv_iload_n hx hb dL_does_90 rfl (lv_at hl 2 rfl) ?_
      refine lv_bipush (v := 15) hx hb dL_does_91 (by decide) ?_
      refine lv_ishr hx hb dL_does_93 ?_
      have hpm := XW_x G a v0 hs0
      have hPc := va_P_left (va_P_perm hP hpm)
      have hDc := va_D_left (va_D_perm hD hpm)
      have hn := bd2_1 hf hne
      refine cwiP (w1 := fun u : DV => xcoreC G.2 a u) (ws1 := fun u : DV => XW G a u hs0) (va_runS (As := [.ref (a 21), .int (p1 >>> (15 &&& 31))]) (rest := [.int r72, .int r5, .ref (a 21)]) ⟨hx, hb, hml, hown, hts⟩ (ok_L_sent l G a s.heap.size n0 v0 (p1 >>> (15 &&& 31)) hn) (va_cwS 2 hts gL_does_L_sent rfl rfl rfl (by decide +kernel) ⟨Nat.le_of_ble_eq_true rfl, Nat.le_of_ble_eq_true rfl⟩) ⟨pcW_blind, pcW_pre hPc hDc hamb⟩ rfl rfl hl.1 rfl (lv_room (Nat.le_of_ble_eq_true rfl)) dL_does_94 ⟨Nat.le_of_ble_eq_true rfl, Nat.le_of_ble_eq_true rfl⟩) hP hD hS hA hpm (fun u => (XW_x G a u hs0).symm) (fun r94 v94 H locs hw hP hD hS => ?_)
      have hf := bd2_2 hf hw
      have hP : va_P G.1 vwCl (XW G a v94 hs0) H := hP
      have hD : va_D A (XW G a v94 hs0) := hD
      obtain ⟨hkk, hf⟩ := ck_1 hf hne
      obtain ⟨hk, hk6, hkl, h7⟩ := kOK_1 hkk
      have hn := chgF_ne (bd3_1 hf hne)
      refine cwiP (wr := []) (w1 := fun u : DV × List HD => XW G a u.1 u.2) (ws1 := fun u : DV × List HD => XW G a u.1 u.2) (va_runV (As := [.int r5, .int r72, .int r94]) (rest := []) ⟨hx, hb, hml, hown, hts⟩ (ok_X6_write l G a _ n0 v94 hs0 [] (fun _ => none) (kV v94) hk hk6 hkl h7 copyFrom_ne r5 r72 r94 hn) (cwV 3 hts gL_does_X6_write rfl rfl rfl (by decide +kernel) ⟨Nat.le_of_ble_eq_true rfl, Nat.le_of_ble_eq_true rfl⟩) ⟨pcW_blind, va_recv hK hP (ci := 6) (q0 := 0) rfl rfl, pcW_pre hP hD hamb⟩ rfl rfl hl.1 rfl (lv_room (Nat.le_of_ble_eq_true rfl)) dL_does_97 ⟨Nat.le_of_ble_eq_true rfl, Nat.le_of_ble_eq_true rfl⟩) hP hD hS hA (pnl _) (fun _ => pnr _) (fun r97 u97 H locs hw hP hD hS => ?_)
      obtain ⟨v97, hs97⟩ := u97
      have hf := bd3_2 (y := v97) (z := hs97.map Prod.snd) hf hw
      have hP : va_P G.1 vwCl (XW G a v97 hs97) H := hP
      have hD : va_D A (XW G a v97 hs97) := hD
      refine W.widen (k := 15) (n := 253) (Nat.le_of_ble_eq_true rfl) (Nat.le_of_ble_eq_true rfl) ?_
      exact W.iret (v := r97) hx hb hr (fun t ht hW => ⟨⟨r97, (v97, hs97), rfl, hf0.trans hf.symm, by rw [ht]; exact hP, hD⟩, hS.F ht⟩) hS.2.2 dL_does_100
    · have hf := it_1 hf c
      refine lv_bipush (v := (-6)) hx hb dL_does_84 (by decide) ?_
      refine lv_goto (tgt := 97) hx hb dL_does_86 (by decide) ?_
      obtain ⟨hkk, hf⟩ := ck_1 hf hne
      obtain ⟨hk, hk6, hkl, h7⟩ := kOK_1 hkk
      have hn := chgF_ne (bd3_1 hf hne)
      refine cwiP (wr := []) (w1 := fun u : DV × List HD => XW G a u.1 u.2) (ws1 := fun u : DV × List HD => XW G a u.1 u.2) (va_runV (As := [.int r5, .int r72, .int (-6)]) (rest := []) ⟨hx, hb, hml, hown, hts⟩ (ok_X6_write l G a _ n0 v0 hs0 [] (fun _ => none) (kV v0) hk hk6 hkl h7 copyFrom_ne r5 r72 (-6) hn) (cwV 3 hts gL_does_X6_write rfl rfl rfl (by decide +kernel) ⟨Nat.le_of_ble_eq_true rfl, Nat.le_of_ble_eq_true rfl⟩) ⟨pcW_blind, va_recv hK hP (ci := 6) (q0 := 0) rfl rfl, pcW_pre hP hD hamb⟩ rfl rfl hl.1 rfl (lv_room (Nat.le_of_ble_eq_true rfl)) dL_does_97 ⟨Nat.le_of_ble_eq_true rfl, Nat.le_of_ble_eq_true rfl⟩) hP hD hS hA (pnl _) (fun _ => pnr _) (fun r97 u97 H locs hw hP hD hS => ?_)
      obtain ⟨v97, hs97⟩ := u97
      have hf := bd3_2 (y := v97) (z := hs97.map Prod.snd) hf hw
      have hP : va_P G.1 vwCl (XW G a v97 hs97) H := hP
      have hD : va_D A (XW G a v97 hs97) := hD
      refine W.widen (k := 15) (n := 253) (Nat.le_of_ble_eq_true rfl) (Nat.le_of_ble_eq_true rfl) ?_
      exact W.iret (v := r97) hx hb hr (fun t ht hW => ⟨⟨r97, (v97, hs97), rfl, hf0.trans hf.symm, by rw [ht]; exact hP, hD⟩, hS.F ht⟩) hS.2.2 dL_does_100
  have hf := it_2 hf c1
  by_cases c2 : (p1 &&& 15) = 2
  · have hf := it_1 hf c2
    refine lv_tableIn (off := 51) (tgt := 64) hx hb dL_does_13 (by rw [c2]; decide) (by rw [c2]; decide) (by rw [c2]; rfl) (by decide) ?_
    refine lv_aload_n hx hb dL_does_64 rfl (lv_at hl 1 rfl) ?_
    refine lv_iload_n hx hb dL_does_65 rfl (lv_at hl 0 rfl) ?_
    refine lv_iload_n hx hb dL_does_66 rfl (lv_at hl 2 rfl) ?_
    refine lv_bipush (v := 7) hx hb dL_does_67 (by decide) ?_
    refine lv_ishr hx hb dL_does_69 ?_
    refine lv_bipush (v := 70) hx hb dL_does_70 (by decide) ?_
    have hn := bd1_1 hf hne
    refine vp_callSi (W.runS (As := [.int (p1 >>> (7 &&& 31)), .int 70]) (rest := [.int r5, .ref (a 21)]) ⟨hx, hb, hml, hown, hts⟩ (ok_L_low l (p1 >>> (7 &&& 31)) 70 hn) (va_cwS 2 hts gL_does_L_low rfl rfl rfl (by decide +kernel) ⟨Nat.le_of_ble_eq_true rfl, Nat.le_of_ble_eq_true rfl⟩) ⟨fun _ _ _ _ q => q, fun _ _ _ => ⟨rfl, trivial⟩⟩ rfl rfl hl.1 rfl (lv_room (Nat.le_of_ble_eq_true rfl)) dL_does_72 ⟨Nat.le_of_ble_eq_true rfl, Nat.le_of_ble_eq_true rfl⟩) (fun r72 hw => ?_)
    have hf := bd1_2 hf hw
    refine lv_iload_n hx hb dL_does_75 rfl (lv_at hl 2 rfl) ?_
    refine lv_bipush (v := 14) hx hb dL_does_76 (by decide) ?_
    refine lv_ishr hx hb dL_does_78 ?_
    refine lv_iconst (v := 1) hx hb dL_does_79 (by decide) ?_
    refine lv_iand hx hb dL_does_80 ?_
    refine lv_if_ne (tgt := 89) hx hb dL_does_81 (by decide) (fun c => ?_) (fun c => ?_)
    · have hf := it_2 hf c
      refine lv_aload_n hx hb dL_does_89 rfl (lv_at hl 1 rfl) ?_
      refine lv_iload_n hx hb dL_does_90 rfl (lv_at hl 2 rfl) ?_
      refine lv_bipush (v := 15) hx hb dL_does_91 (by decide) ?_
      refine lv_ishr hx hb dL_does_93 ?_
      have hpm := XW_x G a v0 hs0
      have hPc := va_P_left (va_P_perm hP hpm)
      have hDc := va_D_left (va_D_perm hD hpm)
      have hn := bd2_1 hf hne
      refine cwiP (w1 := fun u : DV => xcoreC G.2 a u) (ws1 := fun u : DV => XW G a u hs0) (va_runS (As := [.ref (a 21), .int (p1 >>> (15 &&& 31))]) (rest := [.int r72, .int r5, .ref (a 21)]) ⟨hx, hb, hml, hown, hts⟩ (ok_L_sent l G a s.heap.size n0 v0 (p1 >>> (15 &&& 31)) hn) (va_cwS 2 hts gL_does_L_sent rfl rfl rfl (by decide +kernel) ⟨Nat.le_of_ble_eq_true rfl, Nat.le_of_ble_eq_true rfl⟩) ⟨pcW_blind, pcW_pre hPc hDc hamb⟩ rfl rfl hl.1 rfl (lv_room (Nat.le_of_ble_eq_true rfl)) dL_does_94 ⟨Nat.le_of_ble_eq_true rfl, Nat.le_of_ble_eq_true rfl⟩) hP hD hS hA hpm (fun u => (XW_x G a u hs0).symm) (fun r94 v94 H locs hw hP hD hS => ?_)
      have hf := bd2_2 hf hw
      have hP : va_P G.1 vwCl (XW G a v94 hs0) H := hP
      have hD : va_D A (XW G a v94 hs0) := hD
      obtain ⟨hkk, hf⟩ := ck_1 hf hne
      obtain ⟨hk, hk6, hkl, h7⟩ := kOK_1 hkk
      have hn := chgF_ne (bd3_1 hf hne)
      refine cwiP (wr := []) (w1 := fun u : DV × List HD => XW G a u.1 u.2) (ws1 := fun u : DV × List HD => XW G a u.1 u.2) (va_runV (As := [.int r5, .int r72, .int r94]) (rest := []) ⟨hx, hb, hml, hown, hts⟩ (ok_X6_write l G a _ n0 v94 hs0 [] (fun _ => none) (kV v94) hk hk6 hkl h7 copyFrom_ne r5 r72 r94 hn) (cwV 3 hts gL_does_X6_write rfl rfl rfl (by decide +kernel) ⟨Nat.le_of_ble_eq_true rfl, Nat.le_of_ble_eq_true rfl⟩) ⟨pcW_blind, va_recv hK hP (ci := 6) (q0 := 0) rfl rfl, pcW_pre hP hD hamb⟩ rfl rfl hl.1 rfl (lv_room (Nat.le_of_ble_eq_true rfl)) dL_does_97 ⟨Nat.le_of_ble_eq_true rfl, Nat.le_of_ble_eq_true rfl⟩) hP hD hS hA (pnl _) (fun _ => pnr _) (fun r97 u97 H locs hw hP hD hS => ?_)
      obtain ⟨v97, hs97⟩ := u97
      have hf := bd3_2 (y := v97) (z := hs97.map Prod.snd) hf hw
      have hP : va_P G.1 vwCl (XW G a v97 hs97) H := hP
      have hD : va_D A (XW G a v97 hs97) := hD
      refine W.widen (k := 15) (n := 253) (Nat.le_of_ble_eq_true rfl) (Nat.le_of_ble_eq_true rfl) ?_
      exact W.iret (v := r97) hx hb hr (fun t ht hW => ⟨⟨r97, (v97, hs97), rfl, hf0.trans hf.symm, by rw [ht]; exact hP, hD⟩, hS.F ht⟩) hS.2.2 dL_does_100
    · have hf := it_1 hf c
      refine lv_bipush (v := (-6)) hx hb dL_does_84 (by decide) ?_
      refine lv_goto (tgt := 97) hx hb dL_does_86 (by decide) ?_
      obtain ⟨hkk, hf⟩ := ck_1 hf hne
      obtain ⟨hk, hk6, hkl, h7⟩ := kOK_1 hkk
      have hn := chgF_ne (bd3_1 hf hne)
      refine cwiP (wr := []) (w1 := fun u : DV × List HD => XW G a u.1 u.2) (ws1 := fun u : DV × List HD => XW G a u.1 u.2) (va_runV (As := [.int r5, .int r72, .int (-6)]) (rest := []) ⟨hx, hb, hml, hown, hts⟩ (ok_X6_write l G a _ n0 v0 hs0 [] (fun _ => none) (kV v0) hk hk6 hkl h7 copyFrom_ne r5 r72 (-6) hn) (cwV 3 hts gL_does_X6_write rfl rfl rfl (by decide +kernel) ⟨Nat.le_of_ble_eq_true rfl, Nat.le_of_ble_eq_true rfl⟩) ⟨pcW_blind, va_recv hK hP (ci := 6) (q0 := 0) rfl rfl, pcW_pre hP hD hamb⟩ rfl rfl hl.1 rfl (lv_room (Nat.le_of_ble_eq_true rfl)) dL_does_97 ⟨Nat.le_of_ble_eq_true rfl, Nat.le_of_ble_eq_true rfl⟩) hP hD hS hA (pnl _) (fun _ => pnr _) (fun r97 u97 H locs hw hP hD hS => ?_)
      obtain ⟨v97, hs97⟩ := u97
      have hf := bd3_2 (y := v97) (z := hs97.map Prod.snd) hf hw
      have hP : va_P G.1 vwCl (XW G a v97 hs97) H := hP
      have hD : va_D A (XW G a v97 hs97) := hD
      refine W.widen (k := 15) (n := 253) (Nat.le_of_ble_eq_true rfl) (Nat.le_of_ble_eq_true rfl) ?_
      exact W.iret (v := r97) hx hb hr (fun t ht hW => ⟨⟨r97, (v97, hs97), rfl, hf0.trans hf.symm, by rw [ht]; exact hP, hD⟩, hS.F ht⟩) hS.2.2 dL_does_100
  have hf := it_2 hf c2
  by_cases c3 : (p1 &&& 15) = 3
  · have hf := it_1 hf c3
    refine lv_tableIn (off := 51) (tgt := 64) hx hb dL_does_13 (by rw [c3]; decide) (by rw [c3]; decide) (by rw [c3]; rfl) (by decide) ?_
    refine lv_aload_n hx hb dL_does_64 rfl (lv_at hl 1 rfl) ?_
    refine lv_iload_n hx hb dL_does_65 rfl (lv_at hl 0 rfl) ?_
    refine lv_iload_n hx hb dL_does_66 rfl (lv_at hl 2 rfl) ?_
    refine lv_bipush (v := 7) hx hb dL_does_67 (by decide) ?_
    refine lv_ishr hx hb dL_does_69 ?_
    refine lv_bipush (v := 70) hx hb dL_does_70 (by decide) ?_
    have hn := bd1_1 hf hne
    refine vp_callSi (W.runS (As := [.int (p1 >>> (7 &&& 31)), .int 70]) (rest := [.int r5, .ref (a 21)]) ⟨hx, hb, hml, hown, hts⟩ (ok_L_low l (p1 >>> (7 &&& 31)) 70 hn) (va_cwS 2 hts gL_does_L_low rfl rfl rfl (by decide +kernel) ⟨Nat.le_of_ble_eq_true rfl, Nat.le_of_ble_eq_true rfl⟩) ⟨fun _ _ _ _ q => q, fun _ _ _ => ⟨rfl, trivial⟩⟩ rfl rfl hl.1 rfl (lv_room (Nat.le_of_ble_eq_true rfl)) dL_does_72 ⟨Nat.le_of_ble_eq_true rfl, Nat.le_of_ble_eq_true rfl⟩) (fun r72 hw => ?_)
    have hf := bd1_2 hf hw
    refine lv_iload_n hx hb dL_does_75 rfl (lv_at hl 2 rfl) ?_
    refine lv_bipush (v := 14) hx hb dL_does_76 (by decide) ?_
    refine lv_ishr hx hb dL_does_78 ?_
    refine lv_iconst (v := 1) hx hb dL_does_79 (by decide) ?_
    refine lv_iand hx hb dL_does_80 ?_
    refine lv_if_ne (tgt := 89) hx hb dL_does_81 (by decide) (fun c => ?_) (fun c => ?_)
    · have hf := it_2 hf c
      refine lv_aload_n hx hb dL_does_89 rfl (lv_at hl 1 rfl) ?_
      refine lv_iload_n hx hb dL_does_90 rfl (lv_at hl 2 rfl) ?_
      refine lv_bipush (v := 15) hx hb dL_does_91 (by decide) ?_
      refine lv_ishr hx hb dL_does_93 ?_
      have hpm := XW_x G a v0 hs0
      have hPc := va_P_left (va_P_perm hP hpm)
      have hDc := va_D_left (va_D_perm hD hpm)
      have hn := bd2_1 hf hne
      refine cwiP (w1 := fun u : DV => xcoreC G.2 a u) (ws1 := fun u : DV => XW G a u hs0) (va_runS (As := [.ref (a 21), .int (p1 >>> (15 &&& 31))]) (rest := [.int r72, .int r5, .ref (a 21)]) ⟨hx, hb, hml, hown, hts⟩ (ok_L_sent l G a s.heap.size n0 v0 (p1 >>> (15 &&& 31)) hn) (va_cwS 2 hts gL_does_L_sent rfl rfl rfl (by decide +kernel) ⟨Nat.le_of_ble_eq_true rfl, Nat.le_of_ble_eq_true rfl⟩) ⟨pcW_blind, pcW_pre hPc hDc hamb⟩ rfl rfl hl.1 rfl (lv_room (Nat.le_of_ble_eq_true rfl)) dL_does_94 ⟨Nat.le_of_ble_eq_true rfl, Nat.le_of_ble_eq_true rfl⟩) hP hD hS hA hpm (fun u => (XW_x G a u hs0).symm) (fun r94 v94 H locs hw hP hD hS => ?_)
      have hf := bd2_2 hf hw
      have hP : va_P G.1 vwCl (XW G a v94 hs0) H := hP
      have hD : va_D A (XW G a v94 hs0) := hD
      obtain ⟨hkk, hf⟩ := ck_1 hf hne
      obtain ⟨hk, hk6, hkl, h7⟩ := kOK_1 hkk
      have hn := chgF_ne (bd3_1 hf hne)
      refine cwiP (wr := []) (w1 := fun u : DV × List HD => XW G a u.1 u.2) (ws1 := fun u : DV × List HD => XW G a u.1 u.2) (va_runV (As := [.int r5, .int r72, .int r94]) (rest := []) ⟨hx, hb, hml, hown, hts⟩ (ok_X6_write l G a _ n0 v94 hs0 [] (fun _ => none) (kV v94) hk hk6 hkl h7 copyFrom_ne r5 r72 r94 hn) (cwV 3 hts gL_does_X6_write rfl rfl rfl (by decide +kernel) ⟨Nat.le_of_ble_eq_true rfl, Nat.le_of_ble_eq_true rfl⟩) ⟨pcW_blind, va_recv hK hP (ci := 6) (q0 := 0) rfl rfl, pcW_pre hP hD hamb⟩ rfl rfl hl.1 rfl (lv_room (Nat.le_of_ble_eq_true rfl)) dL_does_97 ⟨Nat.le_of_ble_eq_true rfl, Nat.le_of_ble_eq_true rfl⟩) hP hD hS hA (pnl _) (fun _ => pnr _) (fun r97 u97 H locs hw hP hD hS => ?_)
      obtain ⟨v97, hs97⟩ := u97
      have hf := bd3_2 (y := v97) (z := hs97.map Prod.snd) hf hw
      have hP : va_P G.1 vwCl (XW G a v97 hs97) H := hP
      have hD : va_D A (XW G a v97 hs97) := hD
      refine W.widen (k := 15) (n := 253) (Nat.le_of_ble_eq_true rfl) (Nat.le_of_ble_eq_true rfl) ?_
      exact W.iret (v := r97) hx hb hr (fun t ht hW => ⟨⟨r97, (v97, hs97), rfl, hf0.trans hf.symm, by rw [ht]; exact hP, hD⟩, hS.F ht⟩) hS.2.2 dL_does_100
    · have hf := it_1 hf c
      refine lv_bipush (v := (-6)) hx hb dL_does_84 (by decide) ?_
      refine lv_goto (tgt := 97) hx hb dL_does_86 (by decide) ?_
      obtain ⟨hkk, hf⟩ := ck_1 hf hne
      obtain ⟨hk, hk6, hkl, h7⟩ := kOK_1 hkk
      have hn := chgF_ne (bd3_1 hf hne)
      refine cwiP (wr := []) (w1 := fun u : DV × List HD => XW G a u.1 u.2) (ws1 := fun u : DV × List HD => XW G a u.1 u.2) (va_runV (As := [.int r5, .int r72, .int (-6)]) (rest := []) ⟨hx, hb, hml, hown, hts⟩ (ok_X6_write l G a _ n0 v0 hs0 [] (fun _ => none) (kV v0) hk hk6 hkl h7 copyFrom_ne r5 r72 (-6) hn) (cwV 3 hts gL_does_X6_write rfl rfl rfl (by decide +kernel) ⟨Nat.le_of_ble_eq_true rfl, Nat.le_of_ble_eq_true rfl⟩) ⟨pcW_blind, va_recv hK hP (ci := 6) (q0 := 0) rfl rfl, pcW_pre hP hD hamb⟩ rfl rfl hl.1 rfl (lv_room (Nat.le_of_ble_eq_true rfl)) dL_does_97 ⟨Nat.le_of_ble_eq_true rfl, Nat.le_of_ble_eq_true rfl⟩) hP hD hS hA (pnl _) (fun _ => pnr _) (fun r97 u97 H locs hw hP hD hS => ?_)
      obtain ⟨v97, hs97⟩ := u97
      have hf := bd3_2 (y := v97) (z := hs97.map Prod.snd) hf hw
      have hP : va_P G.1 vwCl (XW G a v97 hs97) H := hP
      have hD : va_D A (XW G a v97 hs97) := hD
      refine W.widen (k := 15) (n := 253) (Nat.le_of_ble_eq_true rfl) (Nat.le_of_ble_eq_true rfl) ?_
      exact W.iret (v := r97) hx hb hr (fun t ht hW => ⟨⟨r97, (v97, hs97), rfl, hf0.trans hf.symm, by rw [ht]; exact hP, hD⟩, hS.F ht⟩) hS.2.2 dL_does_100
  have hf := it_2 hf c3
  by_cases c4 : (p1 &&& 15) = 4
  · have hf := it_1 hf c4
    refine lv_tableIn (off := 88) (tgt := 101) hx hb dL_does_13 (by rw [c4]; decide) (by rw [c4]; decide) (by rw [c4]; rfl) (by decide) ?_
    refine lv_iload_n hx hb dL_does_101 rfl (lv_at hl 2 rfl) ?_
    refine lv_bipush (v := 7) hx hb dL_does_102 (by decide) ?_
    refine lv_ishr hx hb dL_does_104 ?_
    refine lv_iconst (v := 3) hx hb dL_does_105 (by decide) ?_
    refine lv_iand hx hb dL_does_106 ?_
    refine lv_if_ne (tgt := 118) hx hb dL_does_107 (by decide) (fun c => ?_) (fun c => ?_)
    · have hf := it_2 hf c
      refine lv_aload_n hx hb dL_does_118 rfl (lv_at hl 1 rfl) ?_
      refine lv_iload_n hx hb dL_does_119 rfl (lv_at hl 0 rfl) ?_
      refine lv_iload_n hx hb dL_does_120 rfl (lv_at hl 2 rfl) ?_
      refine lv_bipush (v := 9) hx hb dL_does_121 (by decide) ?_
      refine lv_ishr hx hb dL_does_123 ?_
      refine lv_iconst (v := 4) hx hb dL_does_124 (by decide) ?_
      have hn := bd1_1 hf hne
      refine vp_callSi (W.runS (As := [.int (p1 >>> (9 &&& 31)), .int 4]) (rest := [.int r5, .ref (a 21)]) ⟨hx, hb, hml, hown, hts⟩ (ok_L_low l (p1 >>> (9 &&& 31)) 4 hn) (va_cwS 2 hts gL_does_L_low rfl rfl rfl (by decide +kernel) ⟨Nat.le_of_ble_eq_true rfl, Nat.le_of_ble_eq_true rfl⟩) ⟨fun _ _ _ _ q => q, fun _ _ _ => ⟨rfl, trivial⟩⟩ rfl rfl hl.1 rfl (lv_room (Nat.le_of_ble_eq_true rfl)) dL_does_125 ⟨Nat.le_of_ble_eq_true rfl, Nat.le_of_ble_eq_true rfl⟩) (fun r125 hw => ?_)
      have hf := bd1_2 hf hw
      obtain ⟨hkk, hf⟩ := ck_1 hf hne
      obtain ⟨hk, hk6, hkl, h7⟩ := kOK_1 hkk
      have hn := chgF_ne (bd3_1 hf hne)
      refine cwiP (wr := []) (w1 := fun u : DV × List HD => XW G a u.1 u.2) (ws1 := fun u : DV × List HD => XW G a u.1 u.2) (va_runV (As := [.int r5, .int r125]) (rest := []) ⟨hx, hb, hml, hown, hts⟩ (ok_X6_rest l G a _ v0 hs0 [] (fun _ => none) (kV v0) hk hk6 hkl h7 copyFrom_ne r5 r125 hn) (cwV 2 hts gL_does_X6_rest rfl rfl rfl (by decide +kernel) ⟨Nat.le_of_ble_eq_true rfl, Nat.le_of_ble_eq_true rfl⟩) ⟨pcW_blind, va_recv hK hP (ci := 6) (q0 := 0) rfl rfl, pcW_pre hP hD hamb⟩ rfl rfl hl.1 rfl (lv_room (Nat.le_of_ble_eq_true rfl)) dL_does_128 ⟨Nat.le_of_ble_eq_true rfl, Nat.le_of_ble_eq_true rfl⟩) hP hD hS hA (pnl _) (fun _ => pnr _) (fun r128 u128 H locs hw hP hD hS => ?_)
      obtain ⟨v128, hs128⟩ := u128
      have hf := bd3_2 (y := v128) (z := hs128.map Prod.snd) hf hw
      have hP : va_P G.1 vwCl (XW G a v128 hs128) H := hP
      have hD : va_D A (XW G a v128 hs128) := hD
      refine W.widen (k := 15) (n := 253) (Nat.le_of_ble_eq_true rfl) (Nat.le_of_ble_eq_true rfl) ?_
      exact W.iret (v := r128) hx hb hr (fun t ht hW => ⟨⟨r128, (v128, hs128), rfl, hf0.trans hf.symm, by rw [ht]; exact hP, hD⟩, hS.F ht⟩) hS.2.2 dL_does_131
    · have hf := it_1 hf c
      refine lv_aload_n hx hb dL_does_110 rfl (lv_at hl 1 rfl) ?_
      refine lv_iload_n hx hb dL_does_111 rfl (lv_at hl 0 rfl) ?_
      obtain ⟨hkk, hf⟩ := ck_1 hf hne
      obtain ⟨hk, hk6, hkl, h7⟩ := kOK_1 hkk
      have hn := chgF_ne (bd3_1 hf hne)
      refine cwiP (wr := []) (w1 := fun u : DV × List HD => XW G a u.1 u.2) (ws1 := fun u : DV × List HD => XW G a u.1 u.2) (va_runV (As := [.int r5]) (rest := []) ⟨hx, hb, hml, hown, hts⟩ (ok_X6_turn l G a _ v0 hs0 [] (fun _ => none) (kV v0) hk hk6 hkl h7 copyFrom_ne r5 hn) (cwV 1 hts gL_does_X6_turn rfl rfl rfl (by decide +kernel) ⟨Nat.le_of_ble_eq_true rfl, Nat.le_of_ble_eq_true rfl⟩) ⟨pcW_blind, va_recv hK hP (ci := 6) (q0 := 0) rfl rfl, pcW_pre hP hD hamb⟩ rfl rfl hl.1 rfl (lv_room (Nat.le_of_ble_eq_true rfl)) dL_does_112 ⟨Nat.le_of_ble_eq_true rfl, Nat.le_of_ble_eq_true rfl⟩) hP hD hS hA (pnl _) (fun _ => pnr _) (fun r112 u112 H locs hw hP hD hS => ?_)
      obtain ⟨v112, hs112⟩ := u112
      have hf := bd3_2 (y := v112) (z := hs112.map Prod.snd) hf hw
      have hP : va_P G.1 vwCl (XW G a v112 hs112) H := hP
      have hD : va_D A (XW G a v112 hs112) := hD
      refine lv_goto (tgt := 131) hx hb dL_does_115 (by decide) ?_
      refine W.widen (k := 15) (n := 253) (Nat.le_of_ble_eq_true rfl) (Nat.le_of_ble_eq_true rfl) ?_
      exact W.iret (v := r112) hx hb hr (fun t ht hW => ⟨⟨r112, (v112, hs112), rfl, hf0.trans hf.symm, by rw [ht]; exact hP, hD⟩, hS.F ht⟩) hS.2.2 dL_does_131
  have hf := it_2 hf c4
  by_cases c5 : (p1 &&& 15) = 5
  · have hf := it_1 hf c5
    refine lv_tableIn (off := 119) (tgt := 132) hx hb dL_does_13 (by rw [c5]; decide) (by rw [c5]; decide) (by rw [c5]; rfl) (by decide) ?_
    refine lv_aload_n hx hb dL_does_132 rfl (lv_at hl 1 rfl) ?_
    refine lv_iload_n hx hb dL_does_133 rfl (lv_at hl 0 rfl) ?_
    refine lv_iload_n hx hb dL_does_134 rfl (lv_at hl 2 rfl) ?_
    refine lv_bipush (v := 7) hx hb dL_does_135 (by decide) ?_
    refine lv_ishr hx hb dL_does_137 ?_
    refine lv_bipush (v := 31) hx hb dL_does_138 (by decide) ?_
    have hn := bd1_1 hf hne
    refine vp_callSi (W.runS (As := [.int (p1 >>> (7 &&& 31)), .int 31]) (rest := [.int r5, .ref (a 21)]) ⟨hx, hb, hml, hown, hts⟩ (ok_L_low l (p1 >>> (7 &&& 31)) 31 hn) (va_cwS 2 hts gL_does_L_low rfl rfl rfl (by decide +kernel) ⟨Nat.le_of_ble_eq_true rfl, Nat.le_of_ble_eq_true rfl⟩) ⟨fun _ _ _ _ q => q, fun _ _ _ => ⟨rfl, trivial⟩⟩ rfl rfl hl.1 rfl (lv_room (Nat.le_of_ble_eq_true rfl)) dL_does_140 ⟨Nat.le_of_ble_eq_true rfl, Nat.le_of_ble_eq_true rfl⟩) (fun r140 hw => ?_)
    have hf := bd1_2 hf hw
    obtain ⟨hkk, hf⟩ := ck_1 hf hne
    obtain ⟨hk, hk6, hkl, h7⟩ := kOK_1 hkk
    have hn := chgF_ne (bd3_1 hf hne)
    refine cwiP (wr := []) (w1 := fun u : DV × List HD => XW G a u.1 u.2) (ws1 := fun u : DV × List HD => XW G a u.1 u.2) (va_runV (As := [.int r5, .int r140]) (rest := []) ⟨hx, hb, hml, hown, hts⟩ (ok_X6_rest l G a _ v0 hs0 [] (fun _ => none) (kV v0) hk hk6 hkl h7 copyFrom_ne r5 r140 hn) (cwV 2 hts gL_does_X6_rest rfl rfl rfl (by decide +kernel) ⟨Nat.le_of_ble_eq_true rfl, Nat.le_of_ble_eq_true rfl⟩) ⟨pcW_blind, va_recv hK hP (ci := 6) (q0 := 0) rfl rfl, pcW_pre hP hD hamb⟩ rfl rfl hl.1 rfl (lv_room (Nat.le_of_ble_eq_true rfl)) dL_does_143 ⟨Nat.le_of_ble_eq_true rfl, Nat.le_of_ble_eq_true rfl⟩) hP hD hS hA (pnl _) (fun _ => pnr _) (fun r143 u143 H locs hw hP hD hS => ?_)
    obtain ⟨v143, hs143⟩ := u143
    have hf := bd3_2 (y := v143) (z := hs143.map Prod.snd) hf hw
    have hP : va_P G.1 vwCl (XW G a v143 hs143) H := hP
    have hD : va_D A (XW G a v143 hs143) := hD
    refine W.widen (k := 15) (n := 253) (Nat.le_of_ble_eq_true rfl) (Nat.le_of_ble_eq_true rfl) ?_
    exact W.iret (v := r143) hx hb hr (fun t ht hW => ⟨⟨r143, (v143, hs143), rfl, hf0.trans hf.symm, by rw [ht]; exact hP, hD⟩, hS.F ht⟩) hS.2.2 dL_does_146
  have hf := it_2 hf c5
  by_cases c6 : (p1 &&& 15) = 6
  · have hf := it_1 hf c6
    refine lv_tableIn (off := 134) (tgt := 147) hx hb dL_does_13 (by rw [c6]; decide) (by rw [c6]; decide) (by rw [c6]; rfl) (by decide) ?_
    refine lv_aload_n hx hb dL_does_147 rfl (lv_at hl 1 rfl) ?_
    refine lv_iload_n hx hb dL_does_148 rfl (lv_at hl 0 rfl) ?_
    refine lv_iload_n hx hb dL_does_149 rfl (lv_at hl 2 rfl) ?_
    refine lv_bipush (v := 7) hx hb dL_does_150 (by decide) ?_
    refine lv_ishr hx hb dL_does_152 ?_
    refine lv_iconst (v := 3) hx hb dL_does_153 (by decide) ?_
    refine lv_iand hx hb dL_does_154 ?_
    refine lv_if_ne (tgt := 163) hx hb dL_does_155 (by decide) (fun c => ?_) (fun c => ?_)
    · have hf := it_2 hf c
      refine lv_iload_n hx hb dL_does_163 rfl (lv_at hl 2 rfl) ?_
      refine lv_bipush (v := 9) hx hb dL_does_164 (by decide) ?_
      refine lv_ishr hx hb dL_does_166 ?_
      refine lv_bipush (v := 24) hx hb dL_does_167 (by decide) ?_
      have hn := bd1_1 hf hne
      refine vp_callSi (W.runS (As := [.int (p1 >>> (9 &&& 31)), .int 24]) (rest := [.int r5, .ref (a 21)]) ⟨hx, hb, hml, hown, hts⟩ (ok_L_low l (p1 >>> (9 &&& 31)) 24 hn) (va_cwS 2 hts gL_does_L_low rfl rfl rfl (by decide +kernel) ⟨Nat.le_of_ble_eq_true rfl, Nat.le_of_ble_eq_true rfl⟩) ⟨fun _ _ _ _ q => q, fun _ _ _ => ⟨rfl, trivial⟩⟩ rfl rfl hl.1 rfl (lv_room (Nat.le_of_ble_eq_true rfl)) dL_does_169 ⟨Nat.le_of_ble_eq_true rfl, Nat.le_of_ble_eq_true rfl⟩) (fun r169 hw => ?_)
      have hf := bd1_2 hf hw
      refine W.widen (k := 0) (n := 0) (Nat.le_of_ble_eq_true rfl) (Nat.le_of_ble_eq_true rfl) ?_
      exact J172 n0 v0 hs0 p1 r169 r5 s.heap [] ls hP hD hS (lv_sub hl [2] rfl) hf
    · have hf := it_1 hf c
      refine lv_bipush (v := (-6)) hx hb dL_does_158 (by decide) ?_
      refine lv_goto (tgt := 172) hx hb dL_does_160 (by decide) ?_
      refine W.widen (k := 0) (n := 0) (Nat.le_of_ble_eq_true rfl) (Nat.le_of_ble_eq_true rfl) ?_
      exact J172 n0 v0 hs0 p1 (-6) r5 s.heap [] ls hP hD hS (lv_sub hl [2] rfl) hf
  have hf := it_2 hf c6
  by_cases c7 : (p1 &&& 15) = 7
  · have hf := it_1 hf c7
    refine lv_tableIn (off := 210) (tgt := 223) hx hb dL_does_13 (by rw [c7]; decide) (by rw [c7]; decide) (by rw [c7]; rfl) (by decide) ?_
    refine lv_aload_n hx hb dL_does_223 rfl (lv_at hl 1 rfl) ?_
    refine lv_iconst (v := 2) hx hb dL_does_224 (by decide) ?_
    have hpm := XW_x G a v0 hs0
    have hPc := va_P_left (va_P_perm hP hpm)
    have hDc := va_D_left (va_D_perm hD hpm)
    have hn := bd1_1 hf hne
    refine vp_callSi (W.runV (As := [.int 2]) (rest := []) ⟨hx, hb, hml, hown, hts⟩ (ok_X6_count l G a n0 v0 2 hn) (cwV 1 hts gL_does_X6_count rfl rfl rfl (by decide +kernel) ⟨Nat.le_of_ble_eq_true rfl, Nat.le_of_ble_eq_true rfl⟩) ⟨pcR_blind, va_recv hK hPc (ci := 6) (q0 := 0) rfl rfl, pcR_pre hPc hamb⟩ rfl rfl hl.1 rfl (lv_room (Nat.le_of_ble_eq_true rfl)) dL_does_225 ⟨Nat.le_of_ble_eq_true rfl, Nat.le_of_ble_eq_true rfl⟩) (fun r225 hw => ?_)
    have hf := bd1_2 hf hw
    refine lv_if_ne (tgt := 235) hx hb dL_does_228 (by decide) (fun c => ?_) (fun c => ?_)
    · have hf := it_2 hf c
      refine lv_aload_n hx hb dL_does_235 rfl (lv_at hl 1 rfl) ?_
      refine lv_iload_n hx hb dL_does_236 rfl (lv_at hl 2 rfl) ?_
      refine lv_iconst (v := 4) hx hb dL_does_237 (by decide) ?_
      refine lv_ishr hx hb dL_does_238 ?_
      refine lv_aload_n hx hb dL_does_239 rfl (lv_at hl 1 rfl) ?_
      refine lv_iconst (v := 2) hx hb dL_does_240 (by decide) ?_
      have hpm := XW_x G a v0 hs0
      have hPc := va_P_left (va_P_perm hP hpm)
      have hDc := va_D_left (va_D_perm hD hpm)
      have hn := bd1_1 hf hne
      refine vp_callSi (W.runV (As := [.int 2]) (rest := [.int (p1 >>> (4 &&& 31)), .ref (a 21)]) ⟨hx, hb, hml, hown, hts⟩ (ok_X6_count l G a n0 v0 2 hn) (cwV 1 hts gL_does_X6_count rfl rfl rfl (by decide +kernel) ⟨Nat.le_of_ble_eq_true rfl, Nat.le_of_ble_eq_true rfl⟩) ⟨pcR_blind, va_recv hK hPc (ci := 6) (q0 := 0) rfl rfl, pcR_pre hPc hamb⟩ rfl rfl hl.1 rfl (lv_room (Nat.le_of_ble_eq_true rfl)) dL_does_241 ⟨Nat.le_of_ble_eq_true rfl, Nat.le_of_ble_eq_true rfl⟩) (fun r241 hw => ?_)
      have hf := bd1_2 hf hw
      have hn := bd1_1 hf hne
      refine vp_callSi (W.runS (As := [.int (p1 >>> (4 &&& 31)), .int r241]) (rest := [.ref (a 21)]) ⟨hx, hb, hml, hown, hts⟩ (ok_L_low l (p1 >>> (4 &&& 31)) r241 hn) (va_cwS 2 hts gL_does_L_low rfl rfl rfl (by decide +kernel) ⟨Nat.le_of_ble_eq_true rfl, Nat.le_of_ble_eq_true rfl⟩) ⟨fun _ _ _ _ q => q, fun _ _ _ => ⟨rfl, trivial⟩⟩ rfl rfl hl.1 rfl (lv_room (Nat.le_of_ble_eq_true rfl)) dL_does_244 ⟨Nat.le_of_ble_eq_true rfl, Nat.le_of_ble_eq_true rfl⟩) (fun r244 hw => ?_)
      have hf := bd1_2 hf hw
      obtain ⟨hkk, hf⟩ := ck_1 hf hne
      obtain ⟨hk, hk6, hkl, h7⟩ := kOK_1 hkk
      have hn := chgF_ne (bd3_1 hf hne)
      refine cwiP (wr := []) (w1 := fun u : DV × List HD => XW G a u.1 u.2) (ws1 := fun u : DV × List HD => XW G a u.1 u.2) (va_runV (As := [.int r244]) (rest := []) ⟨hx, hb, hml, hown, hts⟩ (ok_X6_burn l G a _ v0 hs0 [] (fun _ => none) (kV v0) hk hk6 hkl h7 copyFrom_ne r244 hn) (cwV 1 hts gL_does_X6_burn rfl rfl rfl (by decide +kernel) ⟨Nat.le_of_ble_eq_true rfl, Nat.le_of_ble_eq_true rfl⟩) ⟨pcW_blind, va_recv hK hP (ci := 6) (q0 := 0) rfl rfl, pcW_pre hP hD hamb⟩ rfl rfl hl.1 rfl (lv_room (Nat.le_of_ble_eq_true rfl)) dL_does_247 ⟨Nat.le_of_ble_eq_true rfl, Nat.le_of_ble_eq_true rfl⟩) hP hD hS hA (pnl _) (fun _ => pnr _) (fun r247 u247 H locs hw hP hD hS => ?_)
      obtain ⟨v247, hs247⟩ := u247
      have hf := bd3_2 (y := v247) (z := hs247.map Prod.snd) hf hw
      have hP : va_P G.1 vwCl (XW G a v247 hs247) H := hP
      have hD : va_D A (XW G a v247 hs247) := hD
      refine W.widen (k := 15) (n := 253) (Nat.le_of_ble_eq_true rfl) (Nat.le_of_ble_eq_true rfl) ?_
      exact W.iret (v := r247) hx hb hr (fun t ht hW => ⟨⟨r247, (v247, hs247), rfl, hf0.trans hf.symm, by rw [ht]; exact hP, hD⟩, hS.F ht⟩) hS.2.2 dL_does_250
    · have hf := it_1 hf c
      refine lv_iconst (v := 0) hx hb dL_does_231 (by decide) ?_
      refine lv_goto (tgt := 250) hx hb dL_does_232 (by decide) ?_
      refine W.widen (k := 15) (n := 253) (Nat.le_of_ble_eq_true rfl) (Nat.le_of_ble_eq_true rfl) ?_
      exact W.iret (v := 0) hx hb hr (fun t ht hW => ⟨⟨0, (v0, hs0), rfl, hf0.trans hf.symm, by rw [ht]; exact hP, hD⟩, hS.F ht⟩) hS.2.2 dL_does_250
  have hf := it_2 hf c7
  by_cases c8 : (p1 &&& 15) = 8
  · have hf := it_1 hf c8
    refine lv_tableIn (off := 238) (tgt := 251) hx hb dL_does_13 (by rw [c8]; decide) (by rw [c8]; decide) (by rw [c8]; rfl) (by decide) ?_
    refine lv_iload_n hx hb dL_does_251 rfl (lv_at hl 2 rfl) ?_
    refine lv_iconst (v := 4) hx hb dL_does_252 (by decide) ?_
    refine lv_ishr hx hb dL_does_253 ?_
    refine lv_iconst (v := 3) hx hb dL_does_254 (by decide) ?_
    have hn := bd1_1 hf hne
    refine vp_callSi (W.runS (As := [.int (p1 >>> (4 &&& 31)), .int 3]) (rest := []) ⟨hx, hb, hml, hown, hts⟩ (ok_L_low l (p1 >>> (4 &&& 31)) 3 hn) (va_cwS 2 hts gL_does_L_low rfl rfl rfl (by decide +kernel) ⟨Nat.le_of_ble_eq_true rfl, Nat.le_of_ble_eq_true rfl⟩) ⟨fun _ _ _ _ q => q, fun _ _ _ => ⟨rfl, trivial⟩⟩ rfl rfl hl.1 rfl (lv_room (Nat.le_of_ble_eq_true rfl)) dL_does_255 ⟨Nat.le_of_ble_eq_true rfl, Nat.le_of_ble_eq_true rfl⟩) (fun r255 hw => ?_)
    have hf := bd1_2 hf hw
    refine lv_istore_n (lv' := [(3, .int r255), (2, .int r5), (0, .ref (a 21)), (1, .int p1)]) hx hb dL_does_258 rfl hl (by decide) rfl (fun ls hl => ?_)
    refine lv_aload_n hx hb dL_does_259 rfl (lv_at hl 2 rfl) ?_
    refine lv_iload_n hx hb dL_does_260 rfl (lv_at hl 0 rfl) ?_
    refine lv_iload_n hx hb dL_does_261 rfl (lv_at hl 0 rfl) ?_
    refine lv_if_ne (tgt := 277) hx hb dL_does_262 (by decide) (fun c => ?_) (fun c => ?_)
    · have hf := it_2 hf c
      refine lv_iload_n hx hb dL_does_277 rfl (lv_at hl 0 rfl) ?_
      refine lv_iconst (v := 1) hx hb dL_does_278 (by decide) ?_
      refine lv_icmp_ne (tgt := 294) hx hb dL_does_279 (by decide) (fun c => ?_) (fun c => ?_)
      · have hf := it_2 hf c
        refine lv_iload_n hx hb dL_does_294 rfl (lv_at hl 3 rfl) ?_
        refine lv_bipush (v := 6) hx hb dL_does_295 (by decide) ?_
        refine lv_ishr hx hb dL_does_297 ?_
        refine lv_bipush (v := 21) hx hb dL_does_298 (by decide) ?_
        have hn := bd1_1 hf hne
        refine vp_callSi (W.runS (As := [.int (p1 >>> (6 &&& 31)), .int 21]) (rest := [.int r255, .ref (a 21)]) ⟨hx, hb, hml, hown, hts⟩ (ok_L_low l (p1 >>> (6 &&& 31)) 21 hn) (va_cwS 2 hts gL_does_L_low rfl rfl rfl (by decide +kernel) ⟨Nat.le_of_ble_eq_true rfl, Nat.le_of_ble_eq_true rfl⟩) ⟨fun _ _ _ _ q => q, fun _ _ _ => ⟨rfl, trivial⟩⟩ rfl rfl hl.1 rfl (lv_room (Nat.le_of_ble_eq_true rfl)) dL_does_300 ⟨Nat.le_of_ble_eq_true rfl, Nat.le_of_ble_eq_true rfl⟩) (fun r300 hw => ?_)
        have hf := bd1_2 hf hw
        obtain ⟨hkk, hf⟩ := ck_1 hf hne
        obtain ⟨hk, hk6, hkl, h7⟩ := kOK_1 hkk
        have hn := chgF_ne (bd3_1 hf hne)
        refine cwiP (wr := []) (w1 := fun u : DV × List HD => XW G a u.1 u.2) (ws1 := fun u : DV × List HD => XW G a u.1 u.2) (va_runV (As := [.int r255, .int r300]) (rest := []) ⟨hx, hb, hml, hown, hts⟩ (ok_X6_set l G a _ v0 hs0 [] (fun _ => none) (kV v0) hk hk6 hkl h7 copyFrom_ne r255 r300 hn) (cwV 2 hts gL_does_X6_set rfl rfl rfl (by decide +kernel) ⟨Nat.le_of_ble_eq_true rfl, Nat.le_of_ble_eq_true rfl⟩) ⟨pcH_blind, va_recv hK hP (ci := 6) (q0 := 0) rfl rfl, pcH_pre hP hD hamb hHS hS (va_freeW hD hS hA)⟩ rfl rfl hl.1 rfl (lv_room (Nat.le_of_ble_eq_true rfl)) dL_does_303 ⟨Nat.le_of_ble_eq_true rfl, Nat.le_of_ble_eq_true rfl⟩) hP hD hS hA (pnl _) (fun _ => pnr _) (fun r303 u303 H locs hw hP hD hS => ?_)
        obtain ⟨v303, hs303⟩ := u303
        have hf := bd3_2 (y := v303) (z := hs303.map Prod.snd) hf hw
        have hP : va_P G.1 vwCl (XW G a v303 hs303) H := hP
        have hD : va_D A (XW G a v303 hs303) := hD
        refine W.widen (k := 15) (n := 253) (Nat.le_of_ble_eq_true rfl) (Nat.le_of_ble_eq_true rfl) ?_
        exact W.iret (v := r303) hx hb hr (fun t ht hW => ⟨⟨r303, (v303, hs303), rfl, hf0.trans hf.symm, by rw [ht]; exact hP, hD⟩, hS.F ht⟩) hS.2.2 dL_does_306
      · have hf := it_1 hf c
        refine lv_iload_n hx hb dL_does_282 rfl (lv_at hl 3 rfl) ?_
        refine lv_bipush (v := 6) hx hb dL_does_283 (by decide) ?_
        refine lv_ishr hx hb dL_does_285 ?_
        refine lv_bipush (v := 100) hx hb dL_does_286 (by decide) ?_
        have hn := bd1_1 hf hne
        refine vp_callSi (W.runS (As := [.int (p1 >>> (6 &&& 31)), .int 100]) (rest := [.int r255, .ref (a 21)]) ⟨hx, hb, hml, hown, hts⟩ (ok_L_low l (p1 >>> (6 &&& 31)) 100 hn) (va_cwS 2 hts gL_does_L_low rfl rfl rfl (by decide +kernel) ⟨Nat.le_of_ble_eq_true rfl, Nat.le_of_ble_eq_true rfl⟩) ⟨fun _ _ _ _ q => q, fun _ _ _ => ⟨rfl, trivial⟩⟩ rfl rfl hl.1 rfl (lv_room (Nat.le_of_ble_eq_true rfl)) dL_does_288 ⟨Nat.le_of_ble_eq_true rfl, Nat.le_of_ble_eq_true rfl⟩) (fun r288 hw => ?_)
        have hf := bd1_2 hf hw
        refine lv_goto (tgt := 303) hx hb dL_does_291 (by decide) ?_
        obtain ⟨hkk, hf⟩ := ck_1 hf hne
        obtain ⟨hk, hk6, hkl, h7⟩ := kOK_1 hkk
        have hn := chgF_ne (bd3_1 hf hne)
        refine cwiP (wr := []) (w1 := fun u : DV × List HD => XW G a u.1 u.2) (ws1 := fun u : DV × List HD => XW G a u.1 u.2) (va_runV (As := [.int r255, .int r288]) (rest := []) ⟨hx, hb, hml, hown, hts⟩ (ok_X6_set l G a _ v0 hs0 [] (fun _ => none) (kV v0) hk hk6 hkl h7 copyFrom_ne r255 r288 hn) (cwV 2 hts gL_does_X6_set rfl rfl rfl (by decide +kernel) ⟨Nat.le_of_ble_eq_true rfl, Nat.le_of_ble_eq_true rfl⟩) ⟨pcH_blind, va_recv hK hP (ci := 6) (q0 := 0) rfl rfl, pcH_pre hP hD hamb hHS hS (va_freeW hD hS hA)⟩ rfl rfl hl.1 rfl (lv_room (Nat.le_of_ble_eq_true rfl)) dL_does_303 ⟨Nat.le_of_ble_eq_true rfl, Nat.le_of_ble_eq_true rfl⟩) hP hD hS hA (pnl _) (fun _ => pnr _) (fun r303 u303 H locs hw hP hD hS => ?_)
        obtain ⟨v303, hs303⟩ := u303
        have hf := bd3_2 (y := v303) (z := hs303.map Prod.snd) hf hw
        have hP : va_P G.1 vwCl (XW G a v303 hs303) H := hP
        have hD : va_D A (XW G a v303 hs303) := hD
        refine W.widen (k := 15) (n := 253) (Nat.le_of_ble_eq_true rfl) (Nat.le_of_ble_eq_true rfl) ?_
        exact W.iret (v := r303) hx hb hr (fun t ht hW => ⟨⟨r303, (v303, hs303), rfl, hf0.trans hf.symm, by rw [ht]; exact hP, hD⟩, hS.F ht⟩) hS.2.2 dL_does_306
    · have hf := it_1 hf c
      refine lv_iload_n hx hb dL_does_265 rfl (lv_at hl 3 rfl) ?_
      refine lv_bipush (v := 6) hx hb dL_does_266 (by decide) ?_
      refine lv_ishr hx hb dL_does_268 ?_
      refine lv_bipush (v := 24) hx hb dL_does_269 (by decide) ?_
      have hn := bd1_1 hf hne
      refine vp_callSi (W.runS (As := [.int (p1 >>> (6 &&& 31)), .int 24]) (rest := [.int r255, .ref (a 21)]) ⟨hx, hb, hml, hown, hts⟩ (ok_L_low l (p1 >>> (6 &&& 31)) 24 hn) (va_cwS 2 hts gL_does_L_low rfl rfl rfl (by decide +kernel) ⟨Nat.le_of_ble_eq_true rfl, Nat.le_of_ble_eq_true rfl⟩) ⟨fun _ _ _ _ q => q, fun _ _ _ => ⟨rfl, trivial⟩⟩ rfl rfl hl.1 rfl (lv_room (Nat.le_of_ble_eq_true rfl)) dL_does_271 ⟨Nat.le_of_ble_eq_true rfl, Nat.le_of_ble_eq_true rfl⟩) (fun r271 hw => ?_)
      have hf := bd1_2 hf hw
      refine lv_goto (tgt := 303) hx hb dL_does_274 (by decide) ?_
      obtain ⟨hkk, hf⟩ := ck_1 hf hne
      obtain ⟨hk, hk6, hkl, h7⟩ := kOK_1 hkk
      have hn := chgF_ne (bd3_1 hf hne)
      refine cwiP (wr := []) (w1 := fun u : DV × List HD => XW G a u.1 u.2) (ws1 := fun u : DV × List HD => XW G a u.1 u.2) (va_runV (As := [.int r255, .int r271]) (rest := []) ⟨hx, hb, hml, hown, hts⟩ (ok_X6_set l G a _ v0 hs0 [] (fun _ => none) (kV v0) hk hk6 hkl h7 copyFrom_ne r255 r271 hn) (cwV 2 hts gL_does_X6_set rfl rfl rfl (by decide +kernel) ⟨Nat.le_of_ble_eq_true rfl, Nat.le_of_ble_eq_true rfl⟩) ⟨pcH_blind, va_recv hK hP (ci := 6) (q0 := 0) rfl rfl, pcH_pre hP hD hamb hHS hS (va_freeW hD hS hA)⟩ rfl rfl hl.1 rfl (lv_room (Nat.le_of_ble_eq_true rfl)) dL_does_303 ⟨Nat.le_of_ble_eq_true rfl, Nat.le_of_ble_eq_true rfl⟩) hP hD hS hA (pnl _) (fun _ => pnr _) (fun r303 u303 H locs hw hP hD hS => ?_)
      obtain ⟨v303, hs303⟩ := u303
      have hf := bd3_2 (y := v303) (z := hs303.map Prod.snd) hf hw
      have hP : va_P G.1 vwCl (XW G a v303 hs303) H := hP
      have hD : va_D A (XW G a v303 hs303) := hD
      refine W.widen (k := 15) (n := 253) (Nat.le_of_ble_eq_true rfl) (Nat.le_of_ble_eq_true rfl) ?_
      exact W.iret (v := r303) hx hb hr (fun t ht hW => ⟨⟨r303, (v303, hs303), rfl, hf0.trans hf.symm, by rw [ht]; exact hP, hD⟩, hS.F ht⟩) hS.2.2 dL_does_306
  have hf := it_2 hf c8
  have e0 := ne_i c0 (k := 0) (by decide)
  have e1 := ne_i c1 (k := 1) (by decide)
  have e2 := ne_i c2 (k := 2) (by decide)
  have e3 := ne_i c3 (k := 3) (by decide)
  have e4 := ne_i c4 (k := 4) (by decide)
  have e5 := ne_i c5 (k := 5) (by decide)
  have e6 := ne_i c6 (k := 6) (by decide)
  have e7 := ne_i c7 (k := 7) (by decide)
  have e8 := ne_i c8 (k := 8) (by decide)
  refine lv_tableOut (tgt := 307) hx hb dL_does_13 (by omega) (by decide) ?_
  refine lv_aload_n hx hb dL_does_307 rfl (lv_at hl 1 rfl) ?_
  refine lv_iconst (v := 1) hx hb dL_does_308 (by decide) ?_
  refine lv_iload_n hx hb dL_does_309 rfl (lv_at hl 2 rfl) ?_
  refine lv_iconst (v := 4) hx hb dL_does_310 (by decide) ?_
  refine lv_ishr hx hb dL_does_311 ?_
  refine lv_bipush (v := 40) hx hb dL_does_312 (by decide) ?_
  have hn := bd1_1 hf hne
  refine vp_callSi (W.runS (As := [.int (p1 >>> (4 &&& 31)), .int 40]) (rest := [.int 1, .ref (a 21)]) ⟨hx, hb, hml, hown, hts⟩ (ok_L_low l (p1 >>> (4 &&& 31)) 40 hn) (va_cwS 2 hts gL_does_L_low rfl rfl rfl (by decide +kernel) ⟨Nat.le_of_ble_eq_true rfl, Nat.le_of_ble_eq_true rfl⟩) ⟨fun _ _ _ _ q => q, fun _ _ _ => ⟨rfl, trivial⟩⟩ rfl rfl hl.1 rfl (lv_room (Nat.le_of_ble_eq_true rfl)) dL_does_314 ⟨Nat.le_of_ble_eq_true rfl, Nat.le_of_ble_eq_true rfl⟩) (fun r314 hw => ?_)
  have hf := bd1_2 hf hw
  refine lv_iadd hx hb dL_does_317 ?_
  obtain ⟨hkk, hf⟩ := ck_1 hf hne
  obtain ⟨hk, hk6, hkl, h7⟩ := kOK_1 hkk
  have hn := chgF_ne (bd3_1 hf hne)
  refine cwiP (wr := []) (w1 := fun u : DV × List HD => XW G a u.1 u.2) (ws1 := fun u : DV × List HD => XW G a u.1 u.2) (va_runV (As := [.int (1 + r314)]) (rest := []) ⟨hx, hb, hml, hown, hts⟩ (ok_X6_pass l G a _ n0 v0 hs0 [] (fun _ => none) (kV v0) hk hk6 hkl h7 copyFrom_ne (1 + r314) hn) (cwV 1 hts gL_does_X6_pass rfl rfl rfl (by decide +kernel) ⟨Nat.le_of_ble_eq_true rfl, Nat.le_of_ble_eq_true rfl⟩) ⟨pcW_blind, va_recv hK hP (ci := 6) (q0 := 0) rfl rfl, pcW_pre hP hD hamb⟩ rfl rfl hl.1 rfl (lv_room (Nat.le_of_ble_eq_true rfl)) dL_does_318 ⟨Nat.le_of_ble_eq_true rfl, Nat.le_of_ble_eq_true rfl⟩) hP hD hS hA (pnl _) (fun _ => pnr _) (fun r318 u318 H locs hw hP hD hS => ?_)
  obtain ⟨v318, hs318⟩ := u318
  have hf := bd3_2 (y := v318) (z := hs318.map Prod.snd) hf hw
  have hP : va_P G.1 vwCl (XW G a v318 hs318) H := hP
  have hD : va_D A (XW G a v318 hs318) := hD
  refine W.widen (k := 15) (n := 253) (Nat.le_of_ble_eq_true rfl) (Nat.le_of_ble_eq_true rfl) ?_
  exact W.iret (v := r318) hx hb hr (fun t ht hW => ⟨⟨r318, (v318, hs318), rfl, hf0.trans hf.symm, by rw [ht]; exact hP, hD⟩, hS.F ht⟩) hS.2.2 dL_does_321
set_option maxHeartbeats 4000000 in
set_option maxRecDepth 100000 in
theorem ok_L_isGoneSo (l : Launch) (G : Gt) (a : Nat → Nat) (sz : Nat) (n0 : Nat) (v0 : DV) (hs0 : List HD) (p1 : Int32) (hne : f_L_isGoneSo n0 v0 (hs0.map Prod.snd) p1 ≠ none) : Met l yL_isGoneSo wsL_isGoneSo ({ frames := 6, cells := 30, slots := 506, locals := 146 } : Room) (pcH G [.ref (a 21), .int p1] (XW G a v0 hs0) sz) (va_Qi (fun r (u : DV × List HD) => f_L_isGoneSo n0 v0 (hs0.map Prod.snd) p1 = some (r, u.1, u.2.map Prod.snd)) (fun u t => atW G (XW G a u.1 u.2) (va_A (XW G a v0 hs0) sz) t) (va_A (XW G a v0 hs0) sz)) 30 506 (va_A (XW G a v0 hs0) sz) := by
  refine Met.ofW (cc := cL_isGoneSo) (maxL := 9) (ret := (some .boolean)) (by decide) rfl ?_
  intro p e s m args below meth c s₁ B hml hv
  obtain ⟨rfl, hsz, hP, hD0, hamb, hHS⟩ := hv
  have hx := B.exec
  have hb := B.bytes
  have hr := B.returns
  have hts := atoms_spec (ws := wsL_isGoneSo) B.pre
  have hown : s.vm.findClass RL = some m.cls := findClass_of_methodNamed B.named
  have hlocks := B.notSynchronized
  have hK := hamb.1
  subst hsz
  have hD := hD0.self (sz := s.heap.size)
  generalize hAe : va_A (XW G a v0 hs0) s.heap.size = A at hD hHS ⊢
  have hA : ∀ q : Nat, s.heap.size ≤ q → A q := fun q h => by rw [← hAe]; exact Or.inr h
  have hS : va_S A s.heap s.heap [] := va_S.rf
  obtain ⟨res, hf0⟩ : ∃ res, f_L_isGoneSo n0 v0 (hs0.map Prod.snd) p1 = res := ⟨_, rfl⟩
  have hne : res ≠ none := hf0 ▸ hne
  have hf := hf0
  rw [f_L_isGoneSo] at hf
  have hl := lv_entry ([.ref (a 21), .int p1]) (n := 9) (Nat.le_of_ble_eq_true rfl)
  rw [lg_entry_eq]
  generalize (lg_sl ([.ref (a 21), .int p1]) ++ List.replicate (9 - (lg_sl ([.ref (a 21), .int p1])).length) Slot.unset).toArray = ls at hl ⊢
  have hl : lv_has ls 9 [(0, .ref (a 21)), (1, .int p1)] := hl
  have J28 : ∀ (n : Nat) (v : DV) (hs : List HD) (x2 : Int32) (x3 : Int32) (H : Heap) (locs : List Loc) (ls : Array Slot), va_P G.1 vwCl (XW G a v hs) H → va_D A (XW G a v hs) → va_S A s.heap H locs → lv_has ls 9 [(2, .int x2), (3, .int x3)] → f_L_isGoneSo_J28 n v (hs.map Prod.snd) x2 x3 = res → W p l e (headSpec wsL_isGoneSo ({ frames := 6, cells := 30, slots := 506, locals := 146 } : Room)).room s m ([.ref (a 21), .int p1] : List Value).toArray below meth c H locs 0 0 (MQ below (va_Qi (fun r (u : DV × List HD) => f_L_isGoneSo n0 v0 (hs0.map Prod.snd) p1 = some (r, u.1, u.2.map Prod.snd)) (fun u t => atW G (XW G a u.1 u.2) A t) A) ([.ref (a 21), .int p1] : List Value).toArray s 30 506 A) (F0 m 28 ls []) := by
    intro n v hs x2 x3 H locs ls hP hD hS hl hf
    rw [f_L_isGoneSo_J28] at hf
    refine lv_iload_n hx hb dL_isGoneSo_28 rfl (lv_at hl 0 rfl) ?_
    refine lv_if_eq (tgt := 47) hx hb dL_isGoneSo_29 (by decide) (fun c => ?_) (fun c => ?_)
    · have hf := it_1 hf c
      refine lv_iconst (v := 1) hx hb dL_isGoneSo_47 (by decide) ?_
      refine lv_goto (tgt := 52) hx hb dL_isGoneSo_48 (by decide) ?_
      refine W.widen (k := 30) (n := 506) (Nat.le_of_ble_eq_true rfl) (Nat.le_of_ble_eq_true rfl) ?_
      exact W.zret (ty := .boolean) (v := 1) hx hb hr rfl (fun t ht hW => ⟨⟨1, (v, hs), rfl, hf0.trans hf.symm, by rw [ht]; exact hP, hD⟩, hS.F ht⟩) hS.2.2 dL_isGoneSo_52
    · have hf := it_2 hf c
      refine lv_iload_n hx hb dL_isGoneSo_32 rfl (lv_at hl 1 rfl) ?_
      refine lv_iload_n hx hb dL_isGoneSo_33 rfl (lv_at hl 0 rfl) ?_
      refine lv_iconst (v := 1) hx hb dL_isGoneSo_34 (by decide) ?_
      refine lv_icmp_ne (tgt := 42) hx hb dL_isGoneSo_35 (by decide) (fun c => ?_) (fun c => ?_)
      · have hf := it_2 hf c
        refine lv_bipush (v := (-5)) hx hb dL_isGoneSo_42 (by decide) ?_
        refine lv_icmp_ne (tgt := 51) hx hb dL_isGoneSo_44 (by decide) (fun c => ?_) (fun c => ?_)
        · have hf := it_2 hf c
          refine lv_iconst (v := 0) hx hb dL_isGoneSo_51 (by decide) ?_
          refine W.widen (k := 30) (n := 506) (Nat.le_of_ble_eq_true rfl) (Nat.le_of_ble_eq_true rfl) ?_
          exact W.zret (ty := .boolean) (v := 0) hx hb hr rfl (fun t ht hW => ⟨⟨0, (v, hs), rfl, hf0.trans hf.symm, by rw [ht]; exact hP, hD⟩, hS.F ht⟩) hS.2.2 dL_isGoneSo_52
        · have hf := it_1 hf c
          refine lv_iconst (v := 1) hx hb dL_isGoneSo_47 (by decide) ?_
          refine lv_goto (tgt := 52) hx hb dL_isGoneSo_48 (by decide) ?_
          refine W.widen (k := 30) (n := 506) (Nat.le_of_ble_eq_true rfl) (Nat.le_of_ble_eq_true rfl) ?_
          exact W.zret (ty := .boolean) (v := 1) hx hb hr rfl (fun t ht hW => ⟨⟨1, (v, hs), rfl, hf0.trans hf.symm, by rw [ht]; exact hP, hD⟩, hS.F ht⟩) hS.2.2 dL_isGoneSo_52
      · have hf := it_1 hf c
        refine lv_iconst (v := 0) hx hb dL_isGoneSo_38 (by decide) ?_
        refine lv_goto (tgt := 44) hx hb dL_isGoneSo_39 (by decide) ?_
        refine lv_icmp_ne (tgt := 51) hx hb dL_isGoneSo_44 (by decide) (fun c => ?_) (fun c => ?_)
        · have hf := it_2 hf c
          refine lv_iconst (v := 0) hx hb dL_isGoneSo_51 (by decide) ?_
          refine W.widen (k := 30) (n := 506) (Nat.le_of_ble_eq_true rfl) (Nat.le_of_ble_eq_true rfl) ?_
          exact W.zret (ty := .boolean) (v := 0) hx hb hr rfl (fun t ht hW => ⟨⟨0, (v, hs), rfl, hf0.trans hf.symm, by rw [ht]; exact hP, hD⟩, hS.F ht⟩) hS.2.2 dL_isGoneSo_52
        · have hf := it_1 hf c
          refine lv_iconst (v := 1) hx hb dL_isGoneSo_47 (by decide) ?_
          refine lv_goto (tgt := 52) hx hb dL_isGoneSo_48 (by decide) ?_
          refine W.widen (k := 30) (n := 506) (Nat.le_of_ble_eq_true rfl) (Nat.le_of_ble_eq_true rfl) ?_
          exact W.zret (ty := .boolean) (v := 1) hx hb hr rfl (fun t ht hW => ⟨⟨1, (v, hs), rfl, hf0.trans hf.symm, by rw [ht]; exact hP, hD⟩, hS.F ht⟩) hS.2.2 dL_isGoneSo_52
  have J206 : ∀ (n : Nat) (v : DV) (hs : List HD) (x1 : Int32) (x5 : Int32) (x6 : Int32) (z0 : Int32) (H : Heap) (locs : List Loc) (ls : Array Slot), va_P G.1 vwCl (XW G a v hs) H → va_D A (XW G a v hs) → va_S A s.heap H locs → lv_has ls 9 [(0, .ref (a 21)), (1, .int x1), (5, .int x5), (6, .int x6)] → f_L_isGoneSo_J206 n v (hs.map Prod.snd) x1 x5 x6 z0 = res → W p l e (headSpec wsL_isGoneSo ({ frames := 6, cells := 30, slots := 506, locals := 146 } : Room)).room s m ([.ref (a 21), .int p1] : List Value).toArray below meth c H locs 30 506 (MQ below (va_Qi (fun r (u : DV × List HD) => f_L_isGoneSo n0 v0 (hs0.map Prod.snd) p1 = some (r, u.1, u.2.map Prod.snd)) (fun u t => atW G (XW G a u.1 u.2) A t) A) ([.ref (a 21), .int p1] : List Value).toArray s 30 506 A) (F0 m 206 ls [.int z0]) := by
    intro n v hs x1 x5 x6 z0 H locs ls hP hD hS hl hf
    rw [f_L_isGoneSo_J206] at hf
    refine lv_istore (lv' := [(8, .int z0), (0, .ref (a 21)), (1, .int x1), (5, .int x5), (6, .int x6)]) hx hb dL_isGoneSo_206 hl (by decide) rfl (fun ls hl => ?_)
    refine lv_iload hx hb dL_isGoneSo_208 (lv_at hl 4 rfl) ?_
    refine lv_if_eq (tgt := 236) hx hb dL_isGoneSo_210 (by decide) (fun c => ?_) (fun c => ?_)
    · have hf := it_1 hf c
      refine lv_iconst (v := 0) hx hb dL_isGoneSo_236 (by decide) ?_
      refine W.widen (k := 30) (n := 506) (Nat.le_of_ble_eq_true rfl) (Nat.le_of_ble_eq_true rfl) ?_
      exact W.zret (ty := .boolean) (v := 0) hx hb hr rfl (fun t ht hW => ⟨⟨0, (v, hs), rfl, hf0.trans hf.symm, by rw [ht]; exact hP, hD⟩, hS.F ht⟩) hS.2.2 dL_isGoneSo_237
    · have hf := it_2 hf c
      refine lv_iload hx hb dL_isGoneSo_213 (lv_at hl 0 rfl) ?_
      refine lv_if_lt (tgt := 236) hx hb dL_isGoneSo_215 (by decide) (fun c => ?_) (fun c => ?_)
      · have hf := it_1 hf c
        refine lv_iconst (v := 0) hx hb dL_isGoneSo_236 (by decide) ?_
        refine W.widen (k := 30) (n := 506) (Nat.le_of_ble_eq_true rfl) (Nat.le_of_ble_eq_true rfl) ?_
        exact W.zret (ty := .boolean) (v := 0) hx hb hr rfl (fun t ht hW => ⟨⟨0, (v, hs), rfl, hf0.trans hf.symm, by rw [ht]; exact hP, hD⟩, hS.F ht⟩) hS.2.2 dL_isGoneSo_237
      · have hf := it_2 hf c
        refine lv_iload hx hb dL_isGoneSo_218 (lv_at hl 3 rfl) ?_
        refine lv_if_lt (tgt := 236) hx hb dL_isGoneSo_220 (by decide) (fun c => ?_) (fun c => ?_)
        · have hf := it_1 hf c
          refine lv_iconst (v := 0) hx hb dL_isGoneSo_236 (by decide) ?_
          refine W.widen (k := 30) (n := 506) (Nat.le_of_ble_eq_true rfl) (Nat.le_of_ble_eq_true rfl) ?_
          exact W.zret (ty := .boolean) (v := 0) hx hb hr rfl (fun t ht hW => ⟨⟨0, (v, hs), rfl, hf0.trans hf.symm, by rw [ht]; exact hP, hD⟩, hS.F ht⟩) hS.2.2 dL_isGoneSo_237
        · have hf := it_2 hf c
          refine lv_aload_n hx hb dL_isGoneSo_223 rfl (lv_at hl 1 rfl) ?_
          refine lv_iload_n hx hb dL_isGoneSo_224 rfl (lv_at hl 2 rfl) ?_
          refine lv_iconst (v := 4) hx hb dL_isGoneSo_225 (by decide) ?_
          have hpm := XW_x G a v hs
          have hPc := va_P_left (va_P_perm hP hpm)
          have hDc := va_D_left (va_D_perm hD hpm)
          have hn := bd2_1 hf hne
          refine cwiP (w1 := fun u : DV => xcoreC G.2 a u) (ws1 := fun u : DV => XW G a u hs) (va_runV (As := [.int x1, .int 4]) (rest := []) ⟨hx, hb, hml, hown, hts⟩ (ok_X6_ofLetter l G a H.size n v x1 4 hn) (cwV 2 hts gL_isGoneSo_X6_ofLetter rfl rfl rfl (by decide +kernel) ⟨Nat.le_of_ble_eq_true rfl, Nat.le_of_ble_eq_true rfl⟩) ⟨pcW_blind, va_recv hK hPc (ci := 6) (q0 := 0) rfl rfl, pcW_pre hPc hDc hamb⟩ rfl rfl hl.1 rfl (lv_room (Nat.le_of_ble_eq_true rfl)) dL_isGoneSo_226 ⟨Nat.le_of_ble_eq_true rfl, Nat.le_of_ble_eq_true rfl⟩) hP hD hS hA hpm (fun u => (XW_x G a u hs).symm) (fun r226 v226 H locs hw hP hD hS => ?_)
          have hf := bd2_2 hf hw
          have hP : va_P G.1 vwCl (XW G a v226 hs) H := hP
          have hD : va_D A (XW G a v226 hs) := hD
          refine lv_if_ne (tgt := 236) hx hb dL_isGoneSo_229 (by decide) (fun c => ?_) (fun c => ?_)
          · have hf := it_2 hf c
            refine lv_iconst (v := 0) hx hb dL_isGoneSo_236 (by decide) ?_
            refine W.widen (k := 30) (n := 506) (Nat.le_of_ble_eq_true rfl) (Nat.le_of_ble_eq_true rfl) ?_
            exact W.zret (ty := .boolean) (v := 0) hx hb hr rfl (fun t ht hW => ⟨⟨0, (v226, hs), rfl, hf0.trans hf.symm, by rw [ht]; exact hP, hD⟩, hS.F ht⟩) hS.2.2 dL_isGoneSo_237
          · have hf := it_1 hf c
            refine lv_iconst (v := 1) hx hb dL_isGoneSo_232 (by decide) ?_
            refine lv_goto (tgt := 237) hx hb dL_isGoneSo_233 (by decide) ?_
            refine W.widen (k := 30) (n := 506) (Nat.le_of_ble_eq_true rfl) (Nat.le_of_ble_eq_true rfl) ?_
            exact W.zret (ty := .boolean) (v := 1) hx hb hr rfl (fun t ht hW => ⟨⟨1, (v226, hs), rfl, hf0.trans hf.symm, by rw [ht]; exact hP, hD⟩, hS.F ht⟩) hS.2.2 dL_isGoneSo_237
  have J183 : ∀ (n : Nat) (v : DV) (hs : List HD) (x1 : Int32) (x4 : Int32) (x5 : Int32) (z0 : Int32) (H : Heap) (locs : List Loc) (ls : Array Slot), va_P G.1 vwCl (XW G a v hs) H → va_D A (XW G a v hs) → va_S A s.heap H locs → lv_has ls 9 [(0, .ref (a 21)), (1, .int x1), (4, .int x4), (5, .int x5)] → f_L_isGoneSo_J183 n v (hs.map Prod.snd) x1 x4 x5 z0 = res → W p l e (headSpec wsL_isGoneSo ({ frames := 6, cells := 30, slots := 506, locals := 146 } : Room)).room s m ([.ref (a 21), .int p1] : List Value).toArray below meth c H locs 30 506 (MQ below (va_Qi (fun r (u : DV × List HD) => f_L_isGoneSo n0 v0 (hs0.map Prod.snd) p1 = some (r, u.1, u.2.map Prod.snd)) (fun u t => atW G (XW G a u.1 u.2) A t) A) ([.ref (a 21), .int p1] : List Value).toArray s 30 506 A) (F0 m 183 ls [.int z0]) := by
    intro n v hs x1 x4 x5 z0 H locs ls hP hD hS hl hf
    rw [f_L_isGoneSo_J183] at hf
    refine lv_istore (lv' := [(6, .int z0), (0, .ref (a 21)), (1, .int x1), (4, .int x4), (5, .int x5)]) hx hb dL_isGoneSo_183 hl (by decide) rfl (fun ls hl => ?_)
    refine lv_aload_n hx hb dL_isGoneSo_185 rfl (lv_at hl 1 rfl) ?_
    obtain ⟨hkk, hf⟩ := ck_1 hf hne
    obtain ⟨hk, hk6, hkl, h7⟩ := kOK_1 hkk
    refine cwiP (wr := []) (w1 := fun u : DV => XW G a u hs) (ws1 := fun u : DV => XW G a u hs) (va_runV (As := []) (rest := []) ⟨hx, hb, hml, hown, hts⟩ (ok_X6_undo l G a _ v hs [] (fun _ => none) (kV v) hk hk6 hkl copyFrom_ne) (cwV 0 hts gL_isGoneSo_X6_undo rfl rfl rfl (by decide +kernel) ⟨Nat.le_of_ble_eq_true rfl, Nat.le_of_ble_eq_true rfl⟩) ⟨pcW_blind, va_recv hK hP (ci := 6) (q0 := 0) rfl rfl, pcW_pre hP hD hamb⟩ rfl rfl hl.1 rfl (lv_room (Nat.le_of_ble_eq_true rfl)) dL_isGoneSo_186 ⟨Nat.le_of_ble_eq_true rfl, Nat.le_of_ble_eq_true rfl⟩) hP hD hS hA (pnl _) (fun _ => pnr _) (fun r186 v186 H locs hw hP hD hS => ?_)
    have hf := bd2_2 hf (undoF_of hw)
    have hP : va_P G.1 vwCl (XW G a v186 hs) H := hP
    have hD : va_D A (XW G a v186 hs) := hD
    refine lv_istore (lv' := [(8, .int r186), (6, .int z0), (0, .ref (a 21)), (1, .int x1), (4, .int x4), (5, .int x5)]) hx hb dL_isGoneSo_189 hl (by decide) rfl (fun ls hl => ?_)
    refine lv_iload hx hb dL_isGoneSo_191 (lv_at hl 4 rfl) ?_
    refine lv_iconst (v := 1) hx hb dL_isGoneSo_193 (by decide) ?_
    refine lv_icmp_le (tgt := 204) hx hb dL_isGoneSo_194 (by decide) (fun c => ?_) (fun c => ?_)
    · have hf := it_1 hf c
      refine lv_iload hx hb dL_isGoneSo_204 (lv_at hl 0 rfl) ?_
      refine W.widen (k := 30) (n := 506) (Nat.le_of_ble_eq_true rfl) (Nat.le_of_ble_eq_true rfl) ?_
      exact J206 n v186 hs x1 x5 z0 r186 H locs ls hP hD hS (lv_sub hl [2, 3, 5, 1] rfl) hf
    · have hf := it_2 hf c
      refine lv_aload_n hx hb dL_isGoneSo_197 rfl (lv_at hl 2 rfl) ?_
      obtain ⟨hkk, hf⟩ := ck_1 hf hne
      obtain ⟨hk, hk6, hkl, h7⟩ := kOK_1 hkk
      refine cwiP (wr := []) (w1 := fun u : DV => XW G a u hs) (ws1 := fun u : DV => XW G a u hs) (va_runV (As := []) (rest := []) ⟨hx, hb, hml, hown, hts⟩ (ok_X6_undo l G a _ v186 hs [] (fun _ => none) (kV v186) hk hk6 hkl copyFrom_ne) (cwV 0 hts gL_isGoneSo_X6_undo rfl rfl rfl (by decide +kernel) ⟨Nat.le_of_ble_eq_true rfl, Nat.le_of_ble_eq_true rfl⟩) ⟨pcW_blind, va_recv hK hP (ci := 6) (q0 := 0) rfl rfl, pcW_pre hP hD hamb⟩ rfl rfl hl.1 rfl (lv_room (Nat.le_of_ble_eq_true rfl)) dL_isGoneSo_198 ⟨Nat.le_of_ble_eq_true rfl, Nat.le_of_ble_eq_true rfl⟩) hP hD hS hA (pnl _) (fun _ => pnr _) (fun r198 v198 H locs hw hP hD hS => ?_)
      have hf := bd2_2 hf (undoF_of hw)
      have hP : va_P G.1 vwCl (XW G a v198 hs) H := hP
      have hD : va_D A (XW G a v198 hs) := hD
      refine lv_goto (tgt := 206) hx hb dL_isGoneSo_201 (by decide) ?_
      refine W.widen (k := 30) (n := 506) (Nat.le_of_ble_eq_true rfl) (Nat.le_of_ble_eq_true rfl) ?_
      exact J206 n v198 hs x1 x5 z0 r198 H locs ls hP hD hS (lv_sub hl [2, 3, 5, 1] rfl) hf
  have J182 : ∀ (n : Nat) (v : DV) (hs : List HD) (x1 : Int32) (x4 : Int32) (x5 : Int32) (H : Heap) (locs : List Loc) (ls : Array Slot), va_P G.1 vwCl (XW G a v hs) H → va_D A (XW G a v hs) → va_S A s.heap H locs → lv_has ls 9 [(0, .ref (a 21)), (1, .int x1), (4, .int x4), (5, .int x5)] → f_L_isGoneSo_J182 n v (hs.map Prod.snd) x1 x4 x5 = res → W p l e (headSpec wsL_isGoneSo ({ frames := 6, cells := 30, slots := 506, locals := 146 } : Room)).room s m ([.ref (a 21), .int p1] : List Value).toArray below meth c H locs 30 506 (MQ below (va_Qi (fun r (u : DV × List HD) => f_L_isGoneSo n0 v0 (hs0.map Prod.snd) p1 = some (r, u.1, u.2.map Prod.snd)) (fun u t => atW G (XW G a u.1 u.2) A t) A) ([.ref (a 21), .int p1] : List Value).toArray s 30 506 A) (F0 m 182 ls []) := by
    intro n v hs x1 x4 x5 H locs ls hP hD hS hl hf
    rw [f_L_isGoneSo_J182] at hf
    refine lv_iconst (v := 0) hx hb dL_isGoneSo_182 (by decide) ?_
    refine W.widen (k := 30) (n := 506) (Nat.le_of_ble_eq_true rfl) (Nat.le_of_ble_eq_true rfl) ?_
    exact J183 n v hs x1 x4 x5 0 H locs ls hP hD hS (lv_sub hl [0, 1, 2, 3] rfl) hf
  have J178 : ∀ (n : Nat) (v : DV) (hs : List HD) (x1 : Int32) (x4 : Int32) (x5 : Int32) (H : Heap) (locs : List Loc) (ls : Array Slot), va_P G.1 vwCl (XW G a v hs) H → va_D A (XW G a v hs) → va_S A s.heap H locs → lv_has ls 9 [(0, .ref (a 21)), (1, .int x1), (4, .int x4), (5, .int x5)] → f_L_isGoneSo_J178 n v (hs.map Prod.snd) x1 x4 x5 = res → W p l e (headSpec wsL_isGoneSo ({ frames := 6, cells := 30, slots := 506, locals := 146 } : Room)).room s m ([.ref (a 21), .int p1] : List Value).toArray below meth c H locs 30 506 (MQ below (va_Qi (fun r (u : DV × List HD) => f_L_isGoneSo n0 v0 (hs0.map Prod.snd) p1 = some (r, u.1, u.2.map Prod.snd)) (fun u t => atW G (XW G a u.1 u.2) A t) A) ([.ref (a 21), .int p1] : List Value).toArray s 30 506 A) (F0 m 178 ls []) := by
    intro n v hs x1 x4 x5 H locs ls hP hD hS hl hf
    rw [f_L_isGoneSo_J178] at hf
    refine lv_iconst (v := 1) hx hb dL_isGoneSo_178 (by decide) ?_
    refine lv_goto (tgt := 183) hx hb dL_isGoneSo_179 (by decide) ?_
    refine W.widen (k := 30) (n := 506) (Nat.le_of_ble_eq_true rfl) (Nat.le_of_ble_eq_true rfl) ?_
    exact J183 n v hs x1 x4 x5 1 H locs ls hP hD hS (lv_sub hl [0, 1, 2, 3] rfl) hf
  have J149 : ∀ (n : Nat) (v : DV) (hs : List HD) (x1 : Int32) (x3 : Int32) (x4 : Int32) (x5 : Int32) (x7 : Int32) (z0 : Int32) (z1 : Int32) (H : Heap) (locs : List Loc) (ls : Array Slot), va_P G.1 vwCl (XW G a v hs) H → va_D A (XW G a v hs) → va_S A s.heap H locs → lv_has ls 9 [(0, .ref (a 21)), (1, .int x1), (3, .int x3), (4, .int x4), (5, .int x5), (7, .int x7)] → f_L_isGoneSo_J149 n v (hs.map Prod.snd) x1 x3 x4 x5 x7 z0 z1 = res → W p l e (headSpec wsL_isGoneSo ({ frames := 6, cells := 30, slots := 506, locals := 146 } : Room)).room s m ([.ref (a 21), .int p1] : List Value).toArray below meth c H locs 30 506 (MQ below (va_Qi (fun r (u : DV × List HD) => f_L_isGoneSo n0 v0 (hs0.map Prod.snd) p1 = some (r, u.1, u.2.map Prod.snd)) (fun u t => atW G (XW G a u.1 u.2) A t) A) ([.ref (a 21), .int p1] : List Value).toArray s 30 506 A) (F0 m 149 ls [.int z0, .int z1]) := by
    intro n v hs x1 x3 x4 x5 x7 z0 z1 H locs ls hP hD hS hl hf
    rw [f_L_isGoneSo_J149] at hf
    refine lv_icmp_ne (tgt := 182) hx hb dL_isGoneSo_149 (by decide) (fun c => ?_) (fun c => ?_)
    · have hf := it_2 hf c
      refine W.widen (k := 30) (n := 506) (Nat.le_of_ble_eq_true rfl) (Nat.le_of_ble_eq_true rfl) ?_
      exact J182 n v hs x1 x4 x5 H locs ls hP hD hS (lv_sub hl [0, 1, 3, 4] rfl) hf
    · have hf := it_1 hf c
      refine lv_iload hx hb dL_isGoneSo_152 (lv_at hl 3 rfl) ?_
      refine lv_iload_n hx hb dL_isGoneSo_154 rfl (lv_at hl 2 rfl) ?_
      refine lv_icmp_ne (tgt := 178) hx hb dL_isGoneSo_155 (by decide) (fun c => ?_) (fun c => ?_)
      · have hf := it_2 hf c
        refine W.widen (k := 30) (n := 506) (Nat.le_of_ble_eq_true rfl) (Nat.le_of_ble_eq_true rfl) ?_
        exact J178 n v hs x1 x4 x5 H locs ls hP hD hS (lv_sub hl [0, 1, 3, 4] rfl) hf
      · have hf := it_1 hf c
        refine lv_iload hx hb dL_isGoneSo_158 (lv_at hl 5 rfl) ?_
        refine lv_if_le (tgt := 182) hx hb dL_isGoneSo_160 (by decide) (fun c => ?_) (fun c => ?_)
        · have hf := it_1 hf c
          refine W.widen (k := 30) (n := 506) (Nat.le_of_ble_eq_true rfl) (Nat.le_of_ble_eq_true rfl) ?_
          exact J182 n v hs x1 x4 x5 H locs ls hP hD hS (lv_sub hl [0, 1, 3, 4] rfl) hf
        · have hf := it_2 hf c
          refine lv_aload_n hx hb dL_isGoneSo_163 rfl (lv_at hl 0 rfl) ?_
          refine lv_iload_n hx hb dL_isGoneSo_164 rfl (lv_at hl 1 rfl) ?_
          refine lv_iconst (v := 2) hx hb dL_isGoneSo_165 (by decide) ?_
          have hpm := XW_x G a v hs
          have hPc := va_P_left (va_P_perm hP hpm)
          have hDc := va_D_left (va_D_perm hD hpm)
          have hn := bd2_1 hf hne
          refine cwiP (w1 := fun u : DV => xcoreC G.2 a u) (ws1 := fun u : DV => XW G a u hs) (va_runV (As := [.int x1, .int 2]) (rest := []) ⟨hx, hb, hml, hown, hts⟩ (ok_X6_ofLetter l G a H.size n v x1 2 hn) (cwV 2 hts gL_isGoneSo_X6_ofLetter rfl rfl rfl (by decide +kernel) ⟨Nat.le_of_ble_eq_true rfl, Nat.le_of_ble_eq_true rfl⟩) ⟨pcW_blind, va_recv hK hPc (ci := 6) (q0 := 0) rfl rfl, pcW_pre hPc hDc hamb⟩ rfl rfl hl.1 rfl (lv_room (Nat.le_of_ble_eq_true rfl)) dL_isGoneSo_166 ⟨Nat.le_of_ble_eq_true rfl, Nat.le_of_ble_eq_true rfl⟩) hP hD hS hA hpm (fun u => (XW_x G a u hs).symm) (fun r166 v166 H locs hw hP hD hS => ?_)
          have hf := bd2_2 hf hw
          have hP : va_P G.1 vwCl (XW G a v166 hs) H := hP
          have hD : va_D A (XW G a v166 hs) := hD
          refine lv_aload_n hx hb dL_isGoneSo_169 rfl (lv_at hl 0 rfl) ?_
          refine lv_bipush (v := 8) hx hb dL_isGoneSo_170 (by decide) ?_
          have hpm := XW_x G a v166 hs
          have hPc := va_P_left (va_P_perm hP hpm)
          have hDc := va_D_left (va_D_perm hD hpm)
          have hn := bd1_1 hf hne
          refine vp_callSi (W.runV (As := [.int 8]) (rest := [.int r166]) ⟨hx, hb, hml, hown, hts⟩ (ok_X6_count l G a n v166 8 hn) (cwV 1 hts gL_isGoneSo_X6_count rfl rfl rfl (by decide +kernel) ⟨Nat.le_of_ble_eq_true rfl, Nat.le_of_ble_eq_true rfl⟩) ⟨pcR_blind, va_recv hK hPc (ci := 6) (q0 := 0) rfl rfl, pcR_pre hPc hamb⟩ rfl rfl hl.1 rfl (lv_room (Nat.le_of_ble_eq_true rfl)) dL_isGoneSo_172 ⟨Nat.le_of_ble_eq_true rfl, Nat.le_of_ble_eq_true rfl⟩) (fun r172 hw => ?_)
          have hf := bd1_2 hf hw
          refine lv_icmp_gt (tgt := 182) hx hb dL_isGoneSo_175 (by decide) (fun c => ?_) (fun c => ?_)
          · have hf := it_1 hf c
            refine W.widen (k := 30) (n := 506) (Nat.le_of_ble_eq_true rfl) (Nat.le_of_ble_eq_true rfl) ?_
            exact J182 n v166 hs x1 x4 x5 H locs ls hP hD hS (lv_sub hl [0, 1, 3, 4] rfl) hf
          · have hf := it_2 hf c
            refine W.widen (k := 30) (n := 506) (Nat.le_of_ble_eq_true rfl) (Nat.le_of_ble_eq_true rfl) ?_
            exact J178 n v166 hs x1 x4 x5 H locs ls hP hD hS (lv_sub hl [0, 1, 3, 4] rfl) hf
  have J138 : ∀ (n : Nat) (v : DV) (hs : List HD) (x1 : Int32) (x3 : Int32) (x4 : Int32) (x5 : Int32) (x7 : Int32) (z0 : Int32) (H : Heap) (locs : List Loc) (ls : Array Slot), va_P G.1 vwCl (XW G a v hs) H → va_D A (XW G a v hs) → va_S A s.heap H locs → lv_has ls 9 [(0, .ref (a 21)), (1, .int x1), (3, .int x3), (4, .int x4), (5, .int x5), (7, .int x7)] → f_L_isGoneSo_J138 n v (hs.map Prod.snd) x1 x3 x4 x5 x7 z0 = res → W p l e (headSpec wsL_isGoneSo ({ frames := 6, cells := 30, slots := 506, locals := 146 } : Room)).room s m ([.ref (a 21), .int p1] : List Value).toArray below meth c H locs 30 506 (MQ below (va_Qi (fun r (u : DV × List HD) => f_L_isGoneSo n0 v0 (hs0.map Prod.snd) p1 = some (r, u.1, u.2.map Prod.snd)) (fun u t => atW G (XW G a u.1 u.2) A t) A) ([.ref (a 21), .int p1] : List Value).toArray s 30 506 A) (F0 m 138 ls [.int z0]) := by
    intro n v hs x1 x3 x4 x5 x7 z0 H locs ls hP hD hS hl hf
    rw [f_L_isGoneSo_J138] at hf
    refine lv_iload hx hb dL_isGoneSo_138 (lv_at hl 3 rfl) ?_
    refine lv_iload_n hx hb dL_isGoneSo_140 rfl (lv_at hl 2 rfl) ?_
    refine lv_icmp_ne (tgt := 148) hx hb dL_isGoneSo_141 (by decide) (fun c => ?_) (fun c => ?_)
    · have hf := it_2 hf c
      refine lv_iconst (v := 0) hx hb dL_isGoneSo_148 (by decide) ?_
      refine W.widen (k := 30) (n := 506) (Nat.le_of_ble_eq_true rfl) (Nat.le_of_ble_eq_true rfl) ?_
      exact J149 n v hs x1 x3 x4 x5 x7 0 z0 H locs ls hP hD hS (lv_sub hl [0, 1, 2, 3, 4, 5] rfl) hf
    · have hf := it_1 hf c
      refine lv_iconst (v := 1) hx hb dL_isGoneSo_144 (by decide) ?_
      refine lv_goto (tgt := 149) hx hb dL_isGoneSo_145 (by decide) ?_
      refine W.widen (k := 30) (n := 506) (Nat.le_of_ble_eq_true rfl) (Nat.le_of_ble_eq_true rfl) ?_
      exact J149 n v hs x1 x3 x4 x5 x7 1 z0 H locs ls hP hD hS (lv_sub hl [0, 1, 2, 3, 4, 5] rfl) hf
  have J109 : ∀ (n : Nat) (v : DV) (hs : List HD) (x1 : Int32) (x3 : Int32) (x4 : Int32) (x5 : Int32) (z0 : Int32) (H : Heap) (locs : List Loc) (ls : Array Slot), va_P G.1 vwCl (XW G a v hs) H → va_D A (XW G a v hs) → va_S A s.heap H locs → lv_has ls 9 [(0, .ref (a 21)), (1, .int x1), (3, .int x3), (4, .int x4), (5, .int x5)] → f_L_isGoneSo_J109 n v (hs.map Prod.snd) x1 x3 x4 x5 z0 = res → W p l e (headSpec wsL_isGoneSo ({ frames := 6, cells := 30, slots := 506, locals := 146 } : Room)).room s m ([.ref (a 21), .int p1] : List Value).toArray below meth c H locs 15 253 (MQ below (va_Qi (fun r (u : DV × List HD) => f_L_isGoneSo n0 v0 (hs0.map Prod.snd) p1 = some (r, u.1, u.2.map Prod.snd)) (fun u t => atW G (XW G a u.1 u.2) A t) A) ([.ref (a 21), .int p1] : List Value).toArray s 30 506 A) (F0 m 109 ls [.int z0]) := by
    intro n v hs x1 x3 x4 x5 z0 H locs ls hP hD hS hl hf
    rw [f_L_isGoneSo_J109] at hf
    refine lv_istore (lv' := [(6, .int z0), (0, .ref (a 21)), (1, .int x1), (3, .int x3), (4, .int x4), (5, .int x5)]) hx hb dL_isGoneSo_109 hl (by decide) rfl (fun ls hl => ?_)
    refine lv_aload_n hx hb dL_isGoneSo_111 rfl (lv_at hl 1 rfl) ?_
    refine lv_iconst (v := 1) hx hb dL_isGoneSo_112 (by decide) ?_
    obtain ⟨hkk, hf⟩ := ck_1 hf hne
    obtain ⟨hk, hk6, hkl, h7⟩ := kOK_1 hkk
    have hn := chgF_ne (bd3_1 hf hne)
    refine cwiP (wr := []) (w1 := fun u : DV × List HD => XW G a u.1 u.2) (ws1 := fun u : DV × List HD => XW G a u.1 u.2) (va_runV (As := [.int 1]) (rest := []) ⟨hx, hb, hml, hown, hts⟩ (ok_X6_pass l G a _ n v hs [] (fun _ => none) (kV v) hk hk6 hkl h7 copyFrom_ne 1 hn) (cwV 1 hts gL_isGoneSo_X6_pass rfl rfl rfl (by decide +kernel) ⟨Nat.le_of_ble_eq_true rfl, Nat.le_of_ble_eq_true rfl⟩) ⟨pcW_blind, va_recv hK hP (ci := 6) (q0 := 0) rfl rfl, pcW_pre hP hD hamb⟩ rfl rfl hl.1 rfl (lv_room (Nat.le_of_ble_eq_true rfl)) dL_isGoneSo_113 ⟨Nat.le_of_ble_eq_true rfl, Nat.le_of_ble_eq_true rfl⟩) hP hD hS hA (pnl _) (fun _ => pnr _) (fun r113 u113 H locs hw hP hD hS => ?_)
    obtain ⟨v113, hs113⟩ := u113
    have hf := bd3_2 (y := v113) (z := hs113.map Prod.snd) hf hw
    have hP : va_P G.1 vwCl (XW G a v113 hs113) H := hP
    have hD : va_D A (XW G a v113 hs113) := hD
    refine lv_istore (lv' := [(7, .int r113), (6, .int z0), (0, .ref (a 21)), (1, .int x1), (3, .int x3), (4, .int x4), (5, .int x5)]) hx hb dL_isGoneSo_116 hl (by decide) rfl (fun ls hl => ?_)
    refine lv_iload hx hb dL_isGoneSo_118 (lv_at hl 1 rfl) ?_
    refine lv_if_eq (tgt := 182) hx hb dL_isGoneSo_120 (by decide) (fun c => ?_) (fun c => ?_)
    · have hf := it_1 hf c
      refine W.widen (k := 30) (n := 506) (Nat.le_of_ble_eq_true rfl) (Nat.le_of_ble_eq_true rfl) ?_
      exact J182 n v113 hs113 x1 x4 x5 H locs ls hP hD hS (lv_sub hl [2, 3, 5, 6] rfl) hf
    · have hf := it_2 hf c
      refine lv_aload_n hx hb dL_isGoneSo_123 rfl (lv_at hl 2 rfl) ?_
      refine lv_iload_n hx hb dL_isGoneSo_124 rfl (lv_at hl 3 rfl) ?_
      refine lv_iconst (v := 4) hx hb dL_isGoneSo_125 (by decide) ?_
      have hpm := XW_x G a v113 hs113
      have hPc := va_P_left (va_P_perm hP hpm)
      have hDc := va_D_left (va_D_perm hD hpm)
      have hn := bd2_1 hf hne
      refine cwiP (w1 := fun u : DV => xcoreC G.2 a u) (ws1 := fun u : DV => XW G a u hs113) (va_runV (As := [.int x1, .int 4]) (rest := []) ⟨hx, hb, hml, hown, hts⟩ (ok_X6_ofLetter l G a H.size n v113 x1 4 hn) (cwV 2 hts gL_isGoneSo_X6_ofLetter rfl rfl rfl (by decide +kernel) ⟨Nat.le_of_ble_eq_true rfl, Nat.le_of_ble_eq_true rfl⟩) ⟨pcW_blind, va_recv hK hPc (ci := 6) (q0 := 0) rfl rfl, pcW_pre hPc hDc hamb⟩ rfl rfl hl.1 rfl (lv_room (Nat.le_of_ble_eq_true rfl)) dL_isGoneSo_126 ⟨Nat.le_of_ble_eq_true rfl, Nat.le_of_ble_eq_true rfl⟩) hP hD hS hA hpm (fun u => (XW_x G a u hs113).symm) (fun r126 v126 H locs hw hP hD hS => ?_)
      have hf := bd2_2 hf hw
      have hP : va_P G.1 vwCl (XW G a v126 hs113) H := hP
      have hD : va_D A (XW G a v126 hs113) := hD
      refine lv_iconst (v := 1) hx hb dL_isGoneSo_129 (by decide) ?_
      refine lv_icmp_ne (tgt := 137) hx hb dL_isGoneSo_130 (by decide) (fun c => ?_) (fun c => ?_)
      · have hf := it_2 hf c
        refine lv_iconst (v := 0) hx hb dL_isGoneSo_137 (by decide) ?_
        refine W.widen (k := 30) (n := 506) (Nat.le_of_ble_eq_true rfl) (Nat.le_of_ble_eq_true rfl) ?_
        exact J138 n v126 hs113 x1 x3 x4 x5 r113 0 H locs ls hP hD hS (lv_sub hl [2, 3, 4, 5, 6, 0] rfl) hf
      · have hf := it_1 hf c
        refine lv_iconst (v := 1) hx hb dL_isGoneSo_133 (by decide) ?_
        refine lv_goto (tgt := 138) hx hb dL_isGoneSo_134 (by decide) ?_
        refine W.widen (k := 30) (n := 506) (Nat.le_of_ble_eq_true rfl) (Nat.le_of_ble_eq_true rfl) ?_
        exact J138 n v126 hs113 x1 x3 x4 x5 r113 1 H locs ls hP hD hS (lv_sub hl [2, 3, 4, 5, 6, 0] rfl) hf
  have J93 : ∀ (n : Nat) (v : DV) (hs : List HD) (x1 : Int32) (x3 : Int32) (x4 : Int32) (z0 : Int32) (H : Heap) (locs : List Loc) (ls : Array Slot), va_P G.1 vwCl (XW G a v hs) H → va_D A (XW G a v hs) → va_S A s.heap H locs → lv_has ls 9 [(0, .ref (a 21)), (1, .int x1), (3, .int x3), (4, .int x4)] → f_L_isGoneSo_J93 n v (hs.map Prod.snd) x1 x3 x4 z0 = res → W p l e (headSpec wsL_isGoneSo ({ frames := 6, cells := 30, slots := 506, locals := 146 } : Room)).room s m ([.ref (a 21), .int p1] : List Value).toArray below meth c H locs 15 253 (MQ below (va_Qi (fun r (u : DV × List HD) => f_L_isGoneSo n0 v0 (hs0.map Prod.snd) p1 = some (r, u.1, u.2.map Prod.snd)) (fun u t => atW G (XW G a u.1 u.2) A t) A) ([.ref (a 21), .int p1] : List Value).toArray s 30 506 A) (F0 m 93 ls [.int z0]) := by
    intro n v hs x1 x3 x4 z0 H locs ls hP hD hS hl hf
    rw [f_L_isGoneSo_J93] at hf
    refine lv_istore (lv' := [(5, .int z0), (0, .ref (a 21)), (1, .int x1), (3, .int x3), (4, .int x4)]) hx hb dL_isGoneSo_93 hl (by decide) rfl (fun ls hl => ?_)
    refine lv_aload_n hx hb dL_isGoneSo_95 rfl (lv_at hl 1 rfl) ?_
    refine lv_iload_n hx hb dL_isGoneSo_96 rfl (lv_at hl 2 rfl) ?_
    refine lv_iconst (v := 4) hx hb dL_isGoneSo_97 (by decide) ?_
    have hpm := XW_x G a v hs
    have hPc := va_P_left (va_P_perm hP hpm)
    have hDc := va_D_left (va_D_perm hD hpm)
    have hn := bd2_1 hf hne
    refine cwiP (w1 := fun u : DV => xcoreC G.2 a u) (ws1 := fun u : DV => XW G a u hs) (va_runV (As := [.int x1, .int 4]) (rest := []) ⟨hx, hb, hml, hown, hts⟩ (ok_X6_ofLetter l G a H.size n v x1 4 hn) (cwV 2 hts gL_isGoneSo_X6_ofLetter rfl rfl rfl (by decide +kernel) ⟨Nat.le_of_ble_eq_true rfl, Nat.le_of_ble_eq_true rfl⟩) ⟨pcW_blind, va_recv hK hPc (ci := 6) (q0 := 0) rfl rfl, pcW_pre hPc hDc hamb⟩ rfl rfl hl.1 rfl (lv_room (Nat.le_of_ble_eq_true rfl)) dL_isGoneSo_98 ⟨Nat.le_of_ble_eq_true rfl, Nat.le_of_ble_eq_true rfl⟩) hP hD hS hA hpm (fun u => (XW_x G a u hs).symm) (fun r98 v98 H locs hw hP hD hS => ?_)
    have hf := bd2_2 hf hw
    have hP : va_P G.1 vwCl (XW G a v98 hs) H := hP
    have hD : va_D A (XW G a v98 hs) := hD
    refine lv_if_ne (tgt := 108) hx hb dL_isGoneSo_101 (by decide) (fun c => ?_) (fun c => ?_)
    · have hf := it_2 hf c
      refine lv_iconst (v := 0) hx hb dL_isGoneSo_108 (by decide) ?_
      refine W.widen (k := 15) (n := 253) (Nat.le_of_ble_eq_true rfl) (Nat.le_of_ble_eq_true rfl) ?_
      exact J109 n v98 hs x1 x3 x4 z0 0 H locs ls hP hD hS (lv_sub hl [1, 2, 3, 4, 0] rfl) hf
    · have hf := it_1 hf c
      refine lv_iconst (v := 1) hx hb dL_isGoneSo_104 (by decide) ?_
      refine lv_goto (tgt := 109) hx hb dL_isGoneSo_105 (by decide) ?_
      refine W.widen (k := 15) (n := 253) (Nat.le_of_ble_eq_true rfl) (Nat.le_of_ble_eq_true rfl) ?_
      exact J109 n v98 hs x1 x3 x4 z0 1 H locs ls hP hD hS (lv_sub hl [1, 2, 3, 4, 0] rfl) hf
  have J73 : ∀ (n : Nat) (v : DV) (hs : List HD) (x1 : Int32) (x3 : Int32) (z0 : Int32) (H : Heap) (locs : List Loc) (ls : Array Slot), va_P G.1 vwCl (XW G a v hs) H → va_D A (XW G a v hs) → va_S A s.heap H locs → lv_has ls 9 [(0, .ref (a 21)), (1, .int x1), (3, .int x3)] → f_L_isGoneSo_J73 n v (hs.map Prod.snd) x1 x3 z0 = res → W p l e (headSpec wsL_isGoneSo ({ frames := 6, cells := 30, slots := 506, locals := 146 } : Room)).room s m ([.ref (a 21), .int p1] : List Value).toArray below meth c H locs 0 0 (MQ below (va_Qi (fun r (u : DV × List HD) => f_L_isGoneSo n0 v0 (hs0.map Prod.snd) p1 = some (r, u.1, u.2.map Prod.snd)) (fun u t => atW G (XW G a u.1 u.2) A t) A) ([.ref (a 21), .int p1] : List Value).toArray s 30 506 A) (F0 m 73 ls [.int z0]) := by
    intro n v hs x1 x3 z0 H locs ls hP hD hS hl hf
    rw [f_L_isGoneSo_J73] at hf
    refine lv_istore (lv' := [(4, .int z0), (0, .ref (a 21)), (1, .int x1), (3, .int x3)]) hx hb dL_isGoneSo_73 hl (by decide) rfl (fun ls hl => ?_)
    refine lv_iload hx hb dL_isGoneSo_75 (lv_at hl 0 rfl) ?_
    refine lv_iconst (v := 1) hx hb dL_isGoneSo_77 (by decide) ?_
    refine lv_icmp_le (tgt := 92) hx hb dL_isGoneSo_78 (by decide) (fun c => ?_) (fun c => ?_)
    · have hf := it_1 hf c
      refine lv_iconst (v := 0) hx hb dL_isGoneSo_92 (by decide) ?_
      refine W.widen (k := 15) (n := 253) (Nat.le_of_ble_eq_true rfl) (Nat.le_of_ble_eq_true rfl) ?_
      exact J93 n v hs x1 x3 z0 0 H locs ls hP hD hS (lv_sub hl [1, 2, 3, 0] rfl) hf
    · have hf := it_2 hf c
      refine lv_aload_n hx hb dL_isGoneSo_81 rfl (lv_at hl 1 rfl) ?_
      refine lv_iload hx hb dL_isGoneSo_82 (lv_at hl 0 rfl) ?_
      refine lv_iconst (v := 1) hx hb dL_isGoneSo_84 (by decide) ?_
      refine lv_isub hx hb dL_isGoneSo_85 ?_
      obtain ⟨hkk, hf⟩ := ck_1 hf hne
      obtain ⟨hk, hk6, hkl, h7⟩ := kOK_1 hkk
      have hn := chgF_ne (bd3_1 hf hne)
      refine cwiP (wr := []) (w1 := fun u : DV × List HD => XW G a u.1 u.2) (ws1 := fun u : DV × List HD => XW G a u.1 u.2) (va_runV (As := [.int (z0 - 1)]) (rest := []) ⟨hx, hb, hml, hown, hts⟩ (ok_X6_pass l G a _ n v hs [] (fun _ => none) (kV v) hk hk6 hkl h7 copyFrom_ne (z0 - 1) hn) (cwV 1 hts gL_isGoneSo_X6_pass rfl rfl rfl (by decide +kernel) ⟨Nat.le_of_ble_eq_true rfl, Nat.le_of_ble_eq_true rfl⟩) ⟨pcW_blind, va_recv hK hP (ci := 6) (q0 := 0) rfl rfl, pcW_pre hP hD hamb⟩ rfl rfl hl.1 rfl (lv_room (Nat.le_of_ble_eq_true rfl)) dL_isGoneSo_86 ⟨Nat.le_of_ble_eq_true rfl, Nat.le_of_ble_eq_true rfl⟩) hP hD hS hA (pnl _) (fun _ => pnr _) (fun r86 u86 H locs hw hP hD hS => ?_)
      obtain ⟨v86, hs86⟩ := u86
      have hf := bd3_2 (y := v86) (z := hs86.map Prod.snd) hf hw
      have hP : va_P G.1 vwCl (XW G a v86 hs86) H := hP
      have hD : va_D A (XW G a v86 hs86) := hD
      refine lv_goto (tgt := 93) hx hb dL_isGoneSo_89 (by decide) ?_
      refine W.widen (k := 15) (n := 253) (Nat.le_of_ble_eq_true rfl) (Nat.le_of_ble_eq_true rfl) ?_
      exact J93 n v86 hs86 x1 x3 z0 r86 H locs ls hP hD hS (lv_sub hl [1, 2, 3, 0] rfl) hf
  have J66 : ∀ (n : Nat) (v : DV) (hs : List HD) (x1 : Int32) (x3 : Int32) (H : Heap) (locs : List Loc) (ls : Array Slot), va_P G.1 vwCl (XW G a v hs) H → va_D A (XW G a v hs) → va_S A s.heap H locs → lv_has ls 9 [(0, .ref (a 21)), (1, .int x1), (3, .int x3)] → f_L_isGoneSo_J66 n v (hs.map Prod.snd) x1 x3 = res → W p l e (headSpec wsL_isGoneSo ({ frames := 6, cells := 30, slots := 506, locals := 146 } : Room)).room s m ([.ref (a 21), .int p1] : List Value).toArray below meth c H locs 0 0 (MQ below (va_Qi (fun r (u : DV × List HD) => f_L_isGoneSo n0 v0 (hs0.map Prod.snd) p1 = some (r, u.1, u.2.map Prod.snd)) (fun u t => atW G (XW G a u.1 u.2) A t) A) ([.ref (a 21), .int p1] : List Value).toArray s 30 506 A) (F0 m 66 ls []) := by
    intro n v hs x1 x3 H locs ls hP hD hS hl hf
    rw [f_L_isGoneSo_J66] at hf
    refine lv_sipush (v := 240) hx hb dL_isGoneSo_66 (by decide) ?_
    refine lv_goto (tgt := 73) hx hb dL_isGoneSo_69 (by decide) ?_
    refine W.widen (k := 0) (n := 0) (Nat.le_of_ble_eq_true rfl) (Nat.le_of_ble_eq_true rfl) ?_
    exact J73 n v hs x1 x3 240 H locs ls hP hD hS (lv_sub hl [0, 1, 2] rfl) hf
  refine lv_aload_n hx hb dL_isGoneSo_0 rfl (lv_at hl 0 rfl) ?_
  refine lv_iload_n hx hb dL_isGoneSo_1 rfl (lv_at hl 1 rfl) ?_
  refine lv_iconst (v := 4) hx hb dL_isGoneSo_2 (by decide) ?_
  have hpm := XW_x G a v0 hs0
  have hPc := va_P_left (va_P_perm hP hpm)
  have hDc := va_D_left (va_D_perm hD hpm)
  have hn := bd2_1 hf hne
  refine cwiP (w1 := fun u : DV => xcoreC G.2 a u) (ws1 := fun u : DV => XW G a u hs0) (va_runV (As := [.int p1, .int 4]) (rest := []) ⟨hx, hb, hml, hown, hts⟩ (ok_X6_ofLetter l G a s.heap.size n0 v0 p1 4 hn) (cwV 2 hts gL_isGoneSo_X6_ofLetter rfl rfl rfl (by decide +kernel) ⟨Nat.le_of_ble_eq_true rfl, Nat.le_of_ble_eq_true rfl⟩) ⟨pcW_blind, va_recv hK hPc (ci := 6) (q0 := 0) rfl rfl, pcW_pre hPc hDc hamb⟩ rfl rfl hl.1 rfl (lv_room (Nat.le_of_ble_eq_true rfl)) dL_isGoneSo_3 ⟨Nat.le_of_ble_eq_true rfl, Nat.le_of_ble_eq_true rfl⟩) hP hD hS hA hpm (fun u => (XW_x G a u hs0).symm) (fun r3 v3 H locs hw hP hD hS => ?_)
  have hf := bd2_2 hf hw
  have hP : va_P G.1 vwCl (XW G a v3 hs0) H := hP
  have hD : va_D A (XW G a v3 hs0) := hD
  refine lv_istore_n (lv' := [(2, .int r3), (0, .ref (a 21)), (1, .int p1)]) hx hb dL_isGoneSo_6 rfl hl (by decide) rfl (fun ls hl => ?_)
  refine lv_aload_n hx hb dL_isGoneSo_7 rfl (lv_at hl 1 rfl) ?_
  refine lv_iload_n hx hb dL_isGoneSo_8 rfl (lv_at hl 2 rfl) ?_
  have hpm := XW_x G a v3 hs0
  have hPc := va_P_left (va_P_perm hP hpm)
  have hDc := va_D_left (va_D_perm hD hpm)
  have hn := bd1_1 hf hne
  refine vp_callSi (W.runV (As := [.int p1]) (rest := []) ⟨hx, hb, hml, hown, hts⟩ (ok_X6_goesIn l G a n0 v3 p1 hn) (cwV 1 hts gL_isGoneSo_X6_goesIn rfl rfl rfl (by decide +kernel) ⟨Nat.le_of_ble_eq_true rfl, Nat.le_of_ble_eq_true rfl⟩) ⟨pcR_blind, va_recv hK hPc (ci := 6) (q0 := 0) rfl rfl, pcR_pre hPc hamb⟩ rfl rfl hl.1 rfl (lv_room (Nat.le_of_ble_eq_true rfl)) dL_isGoneSo_9 ⟨Nat.le_of_ble_eq_true rfl, Nat.le_of_ble_eq_true rfl⟩) (fun r9 hw => ?_)
  have hf := bd1_2 hf hw
  refine lv_istore_n (lv' := [(3, .int r9), (2, .int r3), (0, .ref (a 21)), (1, .int p1)]) hx hb dL_isGoneSo_12 rfl hl (by decide) rfl (fun ls hl => ?_)
  refine lv_iload_n hx hb dL_isGoneSo_13 rfl (lv_at hl 1 rfl) ?_
  refine lv_if_gt (tgt := 28) hx hb dL_isGoneSo_14 (by decide) (fun c => ?_) (fun c => ?_)
  · have hf := it_1 hf c
    refine W.widen (k := 0) (n := 0) (Nat.le_of_ble_eq_true rfl) (Nat.le_of_ble_eq_true rfl) ?_
    exact J28 n0 v3 hs0 r3 r9 H locs ls hP hD hS (lv_sub hl [1, 0] rfl) hf
  · have hf := it_2 hf c
    refine lv_aload_n hx hb dL_isGoneSo_17 rfl (lv_at hl 2 rfl) ?_
    refine lv_iconst (v := 0) hx hb dL_isGoneSo_18 (by decide) ?_
    have hpm := XW_x G a v3 hs0
    have hPc := va_P_left (va_P_perm hP hpm)
    have hDc := va_D_left (va_D_perm hD hpm)
    have hn := bd1_1 hf hne
    refine vp_callSi (W.runV (As := [.int 0]) (rest := []) ⟨hx, hb, hml, hown, hts⟩ (ok_X6_count l G a n0 v3 0 hn) (cwV 1 hts gL_isGoneSo_X6_count rfl rfl rfl (by decide +kernel) ⟨Nat.le_of_ble_eq_true rfl, Nat.le_of_ble_eq_true rfl⟩) ⟨pcR_blind, va_recv hK hPc (ci := 6) (q0 := 0) rfl rfl, pcR_pre hPc hamb⟩ rfl rfl hl.1 rfl (lv_room (Nat.le_of_ble_eq_true rfl)) dL_isGoneSo_19 ⟨Nat.le_of_ble_eq_true rfl, Nat.le_of_ble_eq_true rfl⟩) (fun r19 hw => ?_)
    have hf := bd1_2 hf hw
    refine lv_sipush (v := 900) hx hb dL_isGoneSo_22 (by decide) ?_
    refine lv_icmp_le (tgt := 53) hx hb dL_isGoneSo_25 (by decide) (fun c => ?_) (fun c => ?_)
    · have hf := it_1 hf c
      refine lv_iload_n hx hb dL_isGoneSo_53 rfl (lv_at hl 0 rfl) ?_
      refine lv_bipush (v := (-6)) hx hb dL_isGoneSo_54 (by decide) ?_
      refine lv_icmp_eq (tgt := 66) hx hb dL_isGoneSo_56 (by decide) (fun c => ?_) (fun c => ?_)
      · have hf := it_1 hf c
        refine W.widen (k := 0) (n := 0) (Nat.le_of_ble_eq_true rfl) (Nat.le_of_ble_eq_true rfl) ?_
        exact J66 n0 v3 hs0 p1 r9 H locs ls hP hD hS (lv_sub hl [2, 3, 0] rfl) hf
      · have hf := it_2 hf c
        refine lv_iload_n hx hb dL_isGoneSo_59 rfl (lv_at hl 0 rfl) ?_
        refine lv_sipush (v := 240) hx hb dL_isGoneSo_60 (by decide) ?_
        refine lv_icmp_le (tgt := 72) hx hb dL_isGoneSo_63 (by decide) (fun c => ?_) (fun c => ?_)
        · have hf := it_1 hf c
          refine lv_iload_n hx hb dL_isGoneSo_72 rfl (lv_at hl 0 rfl) ?_
          refine W.widen (k := 0) (n := 0) (Nat.le_of_ble_eq_true rfl) (Nat.le_of_ble_eq_true rfl) ?_
          exact J73 n0 v3 hs0 p1 r9 r9 H locs ls hP hD hS (lv_sub hl [2, 3, 0] rfl) hf
        · have hf := it_2 hf c
          refine W.widen (k := 0) (n := 0) (Nat.le_of_ble_eq_true rfl) (Nat.le_of_ble_eq_true rfl) ?_
          exact J66 n0 v3 hs0 p1 r9 H locs ls hP hD hS (lv_sub hl [2, 3, 0] rfl) hf
    · have hf := it_2 hf c
      refine W.widen (k := 0) (n := 0) (Nat.le_of_ble_eq_true rfl) (Nat.le_of_ble_eq_true rfl) ?_
      exact J28 n0 v3 hs0 r3 r9 H locs ls hP hD hS (lv_sub hl [1, 0] rfl) hf
