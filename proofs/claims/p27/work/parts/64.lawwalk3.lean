set_option maxHeartbeats 4000000 in
set_option maxRecDepth 100000 in
theorem ok_L_areDrawersSo (l : Launch) (G : Gt) (a : Nat → Nat) (sz : Nat) (n0 : Nat) (v0 : DV) (hne : f_L_areDrawersSo n0 v0 ≠ none) : Met l yL_areDrawersSo wsL_areDrawersSo ({ frames := 5, cells := 0, slots := 0, locals := 132 } : Room) (pcW G [.ref (a 21)] (xcoreC G.2 a v0) sz) (va_Qi (fun r (u : DV) => f_L_areDrawersSo n0 v0 = some (r, u)) (fun u t => atW G (xcoreC G.2 a u) (va_A (xcoreC G.2 a v0) sz) t) (va_A (xcoreC G.2 a v0) sz)) 0 0 (va_A (xcoreC G.2 a v0) sz) := by
  refine Met.ofW (cc := cL_areDrawersSo) (maxL := 11) (ret := (some .boolean)) (by decide) rfl ?_
  intro p e s m args below meth c s₁ B hml hv
  obtain ⟨rfl, hsz, hP, hD0, hamb⟩ := hv
  have hx := B.exec
  have hb := B.bytes
  have hr := B.returns
  have hts := atoms_spec (ws := wsL_areDrawersSo) B.pre
  have hown : s.vm.findClass RL = some m.cls := findClass_of_methodNamed B.named
  have hlocks := B.notSynchronized
  have hK := hamb.1
  subst hsz
  have hD := hD0.self (sz := s.heap.size)
  generalize hAe : va_A (xcoreC G.2 a v0) s.heap.size = A at hD ⊢
  have hA : ∀ q : Nat, s.heap.size ≤ q → A q := fun q h => by rw [← hAe]; exact Or.inr h
  have hS : va_S A s.heap s.heap [] := va_S.rf
  obtain ⟨res, hf0⟩ : ∃ res, f_L_areDrawersSo n0 v0 = res := ⟨_, rfl⟩
  have hne : res ≠ none := hf0 ▸ hne
  have hf := hf0
  rw [f_L_areDrawersSo] at hf
  have hl := lv_entry ([.ref (a 21)]) (n := 11) (Nat.le_of_ble_eq_true rfl)
  rw [lg_entry_eq]
  generalize (lg_sl ([.ref (a 21)]) ++ List.replicate (11 - (lg_sl ([.ref (a 21)])).length) Slot.unset).toArray = ls at hl ⊢
  have hl : lv_has ls 11 [(0, .ref (a 21))] := hl
  have J378 : ∀ (n : Nat) (v : DV) (x2 : Int32) (z0 : Int32) (H : Heap) (locs : List Loc) (ls : Array Slot), va_P G.1 vwCl (xcoreC G.2 a v) H → va_D A (xcoreC G.2 a v) → va_S A s.heap H locs → lv_has ls 11 [(0, .ref (a 21)), (2, .int x2)] → f_L_areDrawersSo_J378 n v x2 z0 = res → W p l e (headSpec wsL_areDrawersSo ({ frames := 5, cells := 0, slots := 0, locals := 132 } : Room)).room s m ([.ref (a 21)] : List Value).toArray below meth c H locs 0 0 (MQ below (va_Qi (fun r (u : DV) => f_L_areDrawersSo n0 v0 = some (r, u)) (fun u t => atW G (xcoreC G.2 a u) A t) A) ([.ref (a 21)] : List Value).toArray s 0 0 A) (F0 m 378 ls [.int z0]) := by
    intro n v x2 z0 H locs ls hP hD hS hl hf
    rw [f_L_areDrawersSo_J378] at hf
    refine lv_iload_n hx hb dL_areDrawersSo_378 rfl (lv_at hl 1 rfl) ?_
    refine lv_if_ne (tgt := 394) hx hb dL_areDrawersSo_379 (by decide) (fun c => ?_) (fun c => ?_)
    · have hf := it_2 hf c
      refine lv_iconst (v := 0) hx hb dL_areDrawersSo_394 (by decide) ?_
      refine lv_icmp_ne (tgt := 402) hx hb dL_areDrawersSo_395 (by decide) (fun c => ?_) (fun c => ?_)
      · have hf := it_2 hf c
        refine lv_iconst (v := 0) hx hb dL_areDrawersSo_402 (by decide) ?_
        exact W.zret (ty := .boolean) (v := 0) hx hb hr rfl (fun t ht hW => ⟨⟨0, v, rfl, hf0.trans hf.symm, by rw [ht]; exact hP, hD⟩, hS.F ht⟩) hS.2.2 dL_areDrawersSo_403
      · have hf := it_1 hf c
        refine lv_iconst (v := 1) hx hb dL_areDrawersSo_398 (by decide) ?_
        refine lv_goto (tgt := 403) hx hb dL_areDrawersSo_399 (by decide) ?_
        exact W.zret (ty := .boolean) (v := 1) hx hb hr rfl (fun t ht hW => ⟨⟨1, v, rfl, hf0.trans hf.symm, by rw [ht]; exact hP, hD⟩, hS.F ht⟩) hS.2.2 dL_areDrawersSo_403
    · have hf := it_1 hf c
      refine lv_aload_n hx hb dL_areDrawersSo_382 rfl (lv_at hl 0 rfl) ?_
      refine lv_iconst (v := 2) hx hb dL_areDrawersSo_383 (by decide) ?_
      have hn := bd1_1 hf hne
      refine vp_callSi (W.runV (As := [.int 2]) (rest := [.int z0]) ⟨hx, hb, hml, hown, hts⟩ (ok_X6_count l G a n v 2 hn) (cwV 1 hts gL_areDrawersSo_X6_count rfl rfl rfl (by decide +kernel) ⟨Nat.le_of_ble_eq_true rfl, Nat.le_of_ble_eq_true rfl⟩) ⟨pcR_blind, va_recv hK hP (ci := 6) (q0 := 0) rfl rfl, pcR_pre hP hamb⟩ rfl rfl hl.1 rfl (lv_room (Nat.le_of_ble_eq_true rfl)) dL_areDrawersSo_384 ⟨Nat.le_of_ble_eq_true rfl, Nat.le_of_ble_eq_true rfl⟩) (fun r384 hw => ?_)
      have hf := bd1_2 hf hw
      refine lv_if_le (tgt := 394) hx hb dL_areDrawersSo_387 (by decide) (fun c => ?_) (fun c => ?_)
      · have hf := it_1 hf c
        refine lv_iconst (v := 0) hx hb dL_areDrawersSo_394 (by decide) ?_
        refine lv_icmp_ne (tgt := 402) hx hb dL_areDrawersSo_395 (by decide) (fun c => ?_) (fun c => ?_)
        · have hf := it_2 hf c
          refine lv_iconst (v := 0) hx hb dL_areDrawersSo_402 (by decide) ?_
          exact W.zret (ty := .boolean) (v := 0) hx hb hr rfl (fun t ht hW => ⟨⟨0, v, rfl, hf0.trans hf.symm, by rw [ht]; exact hP, hD⟩, hS.F ht⟩) hS.2.2 dL_areDrawersSo_403
        · have hf := it_1 hf c
          refine lv_iconst (v := 1) hx hb dL_areDrawersSo_398 (by decide) ?_
          refine lv_goto (tgt := 403) hx hb dL_areDrawersSo_399 (by decide) ?_
          exact W.zret (ty := .boolean) (v := 1) hx hb hr rfl (fun t ht hW => ⟨⟨1, v, rfl, hf0.trans hf.symm, by rw [ht]; exact hP, hD⟩, hS.F ht⟩) hS.2.2 dL_areDrawersSo_403
      · have hf := it_2 hf c
        refine lv_iconst (v := 1) hx hb dL_areDrawersSo_390 (by decide) ?_
        refine lv_goto (tgt := 395) hx hb dL_areDrawersSo_391 (by decide) ?_
        refine lv_icmp_ne (tgt := 402) hx hb dL_areDrawersSo_395 (by decide) (fun c => ?_) (fun c => ?_)
        · have hf := it_2 hf c
          refine lv_iconst (v := 0) hx hb dL_areDrawersSo_402 (by decide) ?_
          exact W.zret (ty := .boolean) (v := 0) hx hb hr rfl (fun t ht hW => ⟨⟨0, v, rfl, hf0.trans hf.symm, by rw [ht]; exact hP, hD⟩, hS.F ht⟩) hS.2.2 dL_areDrawersSo_403
        · have hf := it_1 hf c
          refine lv_iconst (v := 1) hx hb dL_areDrawersSo_398 (by decide) ?_
          refine lv_goto (tgt := 403) hx hb dL_areDrawersSo_399 (by decide) ?_
          exact W.zret (ty := .boolean) (v := 1) hx hb hr rfl (fun t ht hW => ⟨⟨1, v, rfl, hf0.trans hf.symm, by rw [ht]; exact hP, hD⟩, hS.F ht⟩) hS.2.2 dL_areDrawersSo_403
  have J221 : ∀ (k15 : DV → Int32 → Int32 → Int32 → Int32 → Int32 → Int32 → Option (Int32 × DV)) (hk15 : ∀ (v : DV) (x1 : Int32) (x2 : Int32) (x3 : Int32) (x4 : Int32) (x5 : Int32) (x6 : Int32) (H : Heap) (locs : List Loc) (ls : Array Slot), va_P G.1 vwCl (xcoreC G.2 a v) H → va_D A (xcoreC G.2 a v) → va_S A s.heap H locs → lv_has ls 11 [(0, .ref (a 21)), (1, .int x1), (2, .int x2), (3, .int x3), (4, .int x4), (5, .int x5), (6, .int x6)] → k15 v x1 x2 x3 x4 x5 x6 = res → W p l e (headSpec wsL_areDrawersSo ({ frames := 5, cells := 0, slots := 0, locals := 132 } : Room)).room s m ([.ref (a 21)] : List Value).toArray below meth c H locs 0 0 (MQ below (va_Qi (fun r (u : DV) => f_L_areDrawersSo n0 v0 = some (r, u)) (fun u t => atW G (xcoreC G.2 a u) A t) A) ([.ref (a 21)] : List Value).toArray s 0 0 A) (F0 m 15 ls [])) (n : Nat) (v : DV) (x1 : Int32) (x2 : Int32) (x3 : Int32) (x4 : Int32) (x6 : Int32) (z0 : Int32) (z1 : Int32) (H : Heap) (locs : List Loc) (ls : Array Slot), va_P G.1 vwCl (xcoreC G.2 a v) H → va_D A (xcoreC G.2 a v) → va_S A s.heap H locs → lv_has ls 11 [(0, .ref (a 21)), (1, .int x1), (2, .int x2), (3, .int x3), (4, .int x4), (6, .int x6)] → f_L_areDrawersSo_J221 k15 n v x1 x2 x3 x4 x6 z0 z1 = res → W p l e (headSpec wsL_areDrawersSo ({ frames := 5, cells := 0, slots := 0, locals := 132 } : Room)).room s m ([.ref (a 21)] : List Value).toArray below meth c H locs 0 0 (MQ below (va_Qi (fun r (u : DV) => f_L_areDrawersSo n0 v0 = some (r, u)) (fun u t => atW G (xcoreC G.2 a u) A t) A) ([.ref (a 21)] : List Value).toArray s 0 0 A) (F0 m 221 ls [.int z0, .int z1]) := by
    intro k15 hk15 n v x1 x2 x3 x4 x6 z0 z1 H locs ls hP hD hS hl hf
    rw [f_L_areDrawersSo_J221] at hf
    refine lv_icmp_ne (tgt := 255) hx hb dL_areDrawersSo_221 (by decide) (fun c => ?_) (fun c => ?_)
    · have hf := it_2 hf c
      refine lv_iconst (v := 0) hx hb dL_areDrawersSo_255 (by decide) ?_
      refine lv_istore (lv' := [(5, .int 0), (0, .ref (a 21)), (1, .int x1), (2, .int x2), (3, .int x3), (4, .int x4), (6, .int x6)]) hx hb dL_areDrawersSo_256 hl (by decide) rfl (fun ls hl => ?_)
      refine lv_iinc (v := (x6 + 1)) (lv' := [(6, .int (x6 + 1)), (5, .int 0), (0, .ref (a 21)), (1, .int x1), (2, .int x2), (3, .int x3), (4, .int x4)]) hx hb dL_areDrawersSo_258 hl (k := 6) rfl rfl (by decide) rfl (fun ls hl => ?_)
      refine lv_goto (tgt := 15) hx hb dL_areDrawersSo_261 (by decide) ?_
      exact hk15 v x1 x2 x3 x4 0 (x6 + 1) H locs ls hP hD hS (lv_sub hl [2, 3, 4, 5, 6, 1, 0] rfl) hf
    · have hf := it_1 hf c
      refine lv_aload_n hx hb dL_areDrawersSo_224 rfl (lv_at hl 0 rfl) ?_
      refine lv_iload hx hb dL_areDrawersSo_225 (lv_at hl 5 rfl) ?_
      refine lv_iconst (v := 3) hx hb dL_areDrawersSo_227 (by decide) ?_
      have hn := bd1_1 hf hne
      refine vp_callSi (W.runV (As := [.int x6, .int 3]) (rest := []) ⟨hx, hb, hml, hown, hts⟩ (ok_X6_ofDrawer l G a n v x6 3 hn) (cwV 2 hts gL_areDrawersSo_X6_ofDrawer rfl rfl rfl (by decide +kernel) ⟨Nat.le_of_ble_eq_true rfl, Nat.le_of_ble_eq_true rfl⟩) ⟨pcR_blind, va_recv hK hP (ci := 6) (q0 := 0) rfl rfl, pcR_pre hP hamb⟩ rfl rfl hl.1 rfl (lv_room (Nat.le_of_ble_eq_true rfl)) dL_areDrawersSo_228 ⟨Nat.le_of_ble_eq_true rfl, Nat.le_of_ble_eq_true rfl⟩) (fun r228 hw => ?_)
      have hf := bd1_2 hf hw
      refine lv_if_lt (tgt := 251) hx hb dL_areDrawersSo_231 (by decide) (fun c => ?_) (fun c => ?_)
      · have hf := it_1 hf c
        refine lv_iconst (v := 1) hx hb dL_areDrawersSo_251 (by decide) ?_
        refine lv_goto (tgt := 256) hx hb dL_areDrawersSo_252 (by decide) ?_
        refine lv_istore (lv' := [(5, .int 1), (0, .ref (a 21)), (1, .int x1), (2, .int x2), (3, .int x3), (4, .int x4), (6, .int x6)]) hx hb dL_areDrawersSo_256 hl (by decide) rfl (fun ls hl => ?_)
        refine lv_iinc (v := (x6 + 1)) (lv' := [(6, .int (x6 + 1)), (5, .int 1), (0, .ref (a 21)), (1, .int x1), (2, .int x2), (3, .int x3), (4, .int x4)]) hx hb dL_areDrawersSo_258 hl (k := 6) rfl rfl (by decide) rfl (fun ls hl => ?_)
        refine lv_goto (tgt := 15) hx hb dL_areDrawersSo_261 (by decide) ?_
        exact hk15 v x1 x2 x3 x4 1 (x6 + 1) H locs ls hP hD hS (lv_sub hl [2, 3, 4, 5, 6, 1, 0] rfl) hf
      · have hf := it_2 hf c
        refine lv_aload_n hx hb dL_areDrawersSo_234 rfl (lv_at hl 0 rfl) ?_
        refine lv_iload hx hb dL_areDrawersSo_235 (lv_at hl 5 rfl) ?_
        refine lv_iconst (v := 3) hx hb dL_areDrawersSo_237 (by decide) ?_
        have hn := bd1_1 hf hne
        refine vp_callSi (W.runV (As := [.int x6, .int 3]) (rest := []) ⟨hx, hb, hml, hown, hts⟩ (ok_X6_ofDrawer l G a n v x6 3 hn) (cwV 2 hts gL_areDrawersSo_X6_ofDrawer rfl rfl rfl (by decide +kernel) ⟨Nat.le_of_ble_eq_true rfl, Nat.le_of_ble_eq_true rfl⟩) ⟨pcR_blind, va_recv hK hP (ci := 6) (q0 := 0) rfl rfl, pcR_pre hP hamb⟩ rfl rfl hl.1 rfl (lv_room (Nat.le_of_ble_eq_true rfl)) dL_areDrawersSo_238 ⟨Nat.le_of_ble_eq_true rfl, Nat.le_of_ble_eq_true rfl⟩) (fun r238 hw => ?_)
        have hf := bd1_2 hf hw
        refine lv_aload_n hx hb dL_areDrawersSo_241 rfl (lv_at hl 0 rfl) ?_
        refine lv_iload hx hb dL_areDrawersSo_242 (lv_at hl 5 rfl) ?_
        refine lv_iconst (v := 4) hx hb dL_areDrawersSo_244 (by decide) ?_
        have hn := bd1_1 hf hne
        refine vp_callSi (W.runV (As := [.int x6, .int 4]) (rest := [.int r238]) ⟨hx, hb, hml, hown, hts⟩ (ok_X6_ofDrawer l G a n v x6 4 hn) (cwV 2 hts gL_areDrawersSo_X6_ofDrawer rfl rfl rfl (by decide +kernel) ⟨Nat.le_of_ble_eq_true rfl, Nat.le_of_ble_eq_true rfl⟩) ⟨pcR_blind, va_recv hK hP (ci := 6) (q0 := 0) rfl rfl, pcR_pre hP hamb⟩ rfl rfl hl.1 rfl (lv_room (Nat.le_of_ble_eq_true rfl)) dL_areDrawersSo_245 ⟨Nat.le_of_ble_eq_true rfl, Nat.le_of_ble_eq_true rfl⟩) (fun r245 hw => ?_)
        have hf := bd1_2 hf hw
        refine lv_icmp_eq (tgt := 255) hx hb dL_areDrawersSo_248 (by decide) (fun c => ?_) (fun c => ?_)
        · have hf := it_1 hf c
          refine lv_iconst (v := 0) hx hb dL_areDrawersSo_255 (by decide) ?_
          refine lv_istore (lv' := [(5, .int 0), (0, .ref (a 21)), (1, .int x1), (2, .int x2), (3, .int x3), (4, .int x4), (6, .int x6)]) hx hb dL_areDrawersSo_256 hl (by decide) rfl (fun ls hl => ?_)
          refine lv_iinc (v := (x6 + 1)) (lv' := [(6, .int (x6 + 1)), (5, .int 0), (0, .ref (a 21)), (1, .int x1), (2, .int x2), (3, .int x3), (4, .int x4)]) hx hb dL_areDrawersSo_258 hl (k := 6) rfl rfl (by decide) rfl (fun ls hl => ?_)
          refine lv_goto (tgt := 15) hx hb dL_areDrawersSo_261 (by decide) ?_
          exact hk15 v x1 x2 x3 x4 0 (x6 + 1) H locs ls hP hD hS (lv_sub hl [2, 3, 4, 5, 6, 1, 0] rfl) hf
        · have hf := it_2 hf c
          refine lv_iconst (v := 1) hx hb dL_areDrawersSo_251 (by decide) ?_
          refine lv_goto (tgt := 256) hx hb dL_areDrawersSo_252 (by decide) ?_
          refine lv_istore (lv' := [(5, .int 1), (0, .ref (a 21)), (1, .int x1), (2, .int x2), (3, .int x3), (4, .int x4), (6, .int x6)]) hx hb dL_areDrawersSo_256 hl (by decide) rfl (fun ls hl => ?_)
          refine lv_iinc (v := (x6 + 1)) (lv' := [(6, .int (x6 + 1)), (5, .int 1), (0, .ref (a 21)), (1, .int x1), (2, .int x2), (3, .int x3), (4, .int x4)]) hx hb dL_areDrawersSo_258 hl (k := 6) rfl rfl (by decide) rfl (fun ls hl => ?_)
          refine lv_goto (tgt := 15) hx hb dL_areDrawersSo_261 (by decide) ?_
          exact hk15 v x1 x2 x3 x4 1 (x6 + 1) H locs ls hP hD hS (lv_sub hl [2, 3, 4, 5, 6, 1, 0] rfl) hf
  have J204 : ∀ (k15 : DV → Int32 → Int32 → Int32 → Int32 → Int32 → Int32 → Option (Int32 × DV)) (hk15 : ∀ (v : DV) (x1 : Int32) (x2 : Int32) (x3 : Int32) (x4 : Int32) (x5 : Int32) (x6 : Int32) (H : Heap) (locs : List Loc) (ls : Array Slot), va_P G.1 vwCl (xcoreC G.2 a v) H → va_D A (xcoreC G.2 a v) → va_S A s.heap H locs → lv_has ls 11 [(0, .ref (a 21)), (1, .int x1), (2, .int x2), (3, .int x3), (4, .int x4), (5, .int x5), (6, .int x6)] → k15 v x1 x2 x3 x4 x5 x6 = res → W p l e (headSpec wsL_areDrawersSo ({ frames := 5, cells := 0, slots := 0, locals := 132 } : Room)).room s m ([.ref (a 21)] : List Value).toArray below meth c H locs 0 0 (MQ below (va_Qi (fun r (u : DV) => f_L_areDrawersSo n0 v0 = some (r, u)) (fun u t => atW G (xcoreC G.2 a u) A t) A) ([.ref (a 21)] : List Value).toArray s 0 0 A) (F0 m 15 ls [])) (n : Nat) (v : DV) (x1 : Int32) (x2 : Int32) (x3 : Int32) (x4 : Int32) (x6 : Int32) (z0 : Int32) (H : Heap) (locs : List Loc) (ls : Array Slot), va_P G.1 vwCl (xcoreC G.2 a v) H → va_D A (xcoreC G.2 a v) → va_S A s.heap H locs → lv_has ls 11 [(0, .ref (a 21)), (1, .int x1), (2, .int x2), (3, .int x3), (4, .int x4), (6, .int x6)] → f_L_areDrawersSo_J204 k15 n v x1 x2 x3 x4 x6 z0 = res → W p l e (headSpec wsL_areDrawersSo ({ frames := 5, cells := 0, slots := 0, locals := 132 } : Room)).room s m ([.ref (a 21)] : List Value).toArray below meth c H locs 0 0 (MQ below (va_Qi (fun r (u : DV) => f_L_areDrawersSo n0 v0 = some (r, u)) (fun u t => atW G (xcoreC G.2 a u) A t) A) ([.ref (a 21)] : List Value).toArray s 0 0 A) (F0 m 204 ls [.int z0]) := by
    intro k15 hk15 n v x1 x2 x3 x4 x6 z0 H locs ls hP hD hS hl hf
    rw [f_L_areDrawersSo_J204] at hf
    refine lv_aload_n hx hb dL_areDrawersSo_204 rfl (lv_at hl 0 rfl) ?_
    refine lv_iload hx hb dL_areDrawersSo_205 (lv_at hl 5 rfl) ?_
    refine lv_iconst (v := 4) hx hb dL_areDrawersSo_207 (by decide) ?_
    have hn := bd1_1 hf hne
    refine vp_callSi (W.runV (As := [.int x6, .int 4]) (rest := [.int z0]) ⟨hx, hb, hml, hown, hts⟩ (ok_X6_ofDrawer l G a n v x6 4 hn) (cwV 2 hts gL_areDrawersSo_X6_ofDrawer rfl rfl rfl (by decide +kernel) ⟨Nat.le_of_ble_eq_true rfl, Nat.le_of_ble_eq_true rfl⟩) ⟨pcR_blind, va_recv hK hP (ci := 6) (q0 := 0) rfl rfl, pcR_pre hP hamb⟩ rfl rfl hl.1 rfl (lv_room (Nat.le_of_ble_eq_true rfl)) dL_areDrawersSo_208 ⟨Nat.le_of_ble_eq_true rfl, Nat.le_of_ble_eq_true rfl⟩) (fun r208 hw => ?_)
    have hf := bd1_2 hf hw
    refine lv_bipush (v := (-6)) hx hb dL_areDrawersSo_211 (by decide) ?_
    refine lv_icmp_ne (tgt := 220) hx hb dL_areDrawersSo_213 (by decide) (fun c => ?_) (fun c => ?_)
    · have hf := it_2 hf c
      refine lv_iconst (v := 0) hx hb dL_areDrawersSo_220 (by decide) ?_
      exact J221 k15 hk15 n v x1 x2 x3 x4 x6 0 z0 H locs ls hP hD hS (lv_sub hl [0, 1, 2, 3, 4, 5] rfl) hf
    · have hf := it_1 hf c
      refine lv_iconst (v := 1) hx hb dL_areDrawersSo_216 (by decide) ?_
      refine lv_goto (tgt := 221) hx hb dL_areDrawersSo_217 (by decide) ?_
      exact J221 k15 hk15 n v x1 x2 x3 x4 x6 1 z0 H locs ls hP hD hS (lv_sub hl [0, 1, 2, 3, 4, 5] rfl) hf
  have J82 : ∀ (k15 : DV → Int32 → Int32 → Int32 → Int32 → Int32 → Int32 → Option (Int32 × DV)) (k31 : DV → Int32 → Int32 → Int32 → Int32 → Int32 → Int32 → Int32 → Int32 → Int32 → Option (Int32 × DV)) (hk15 : ∀ (v : DV) (x1 : Int32) (x2 : Int32) (x3 : Int32) (x4 : Int32) (x5 : Int32) (x6 : Int32) (H : Heap) (locs : List Loc) (ls : Array Slot), va_P G.1 vwCl (xcoreC G.2 a v) H → va_D A (xcoreC G.2 a v) → va_S A s.heap H locs → lv_has ls 11 [(0, .ref (a 21)), (1, .int x1), (2, .int x2), (3, .int x3), (4, .int x4), (5, .int x5), (6, .int x6)] → k15 v x1 x2 x3 x4 x5 x6 = res → W p l e (headSpec wsL_areDrawersSo ({ frames := 5, cells := 0, slots := 0, locals := 132 } : Room)).room s m ([.ref (a 21)] : List Value).toArray below meth c H locs 0 0 (MQ below (va_Qi (fun r (u : DV) => f_L_areDrawersSo n0 v0 = some (r, u)) (fun u t => atW G (xcoreC G.2 a u) A t) A) ([.ref (a 21)] : List Value).toArray s 0 0 A) (F0 m 15 ls [])) (hk31 : ∀ (v : DV) (x1 : Int32) (x2 : Int32) (x3 : Int32) (x4 : Int32) (x5 : Int32) (x6 : Int32) (x7 : Int32) (x8 : Int32) (x9 : Int32) (H : Heap) (locs : List Loc) (ls : Array Slot), va_P G.1 vwCl (xcoreC G.2 a v) H → va_D A (xcoreC G.2 a v) → va_S A s.heap H locs → lv_has ls 11 [(0, .ref (a 21)), (1, .int x1), (2, .int x2), (3, .int x3), (4, .int x4), (5, .int x5), (6, .int x6), (7, .int x7), (8, .int x8), (9, .int x9)] → k31 v x1 x2 x3 x4 x5 x6 x7 x8 x9 = res → W p l e (headSpec wsL_areDrawersSo ({ frames := 5, cells := 0, slots := 0, locals := 132 } : Room)).room s m ([.ref (a 21)] : List Value).toArray below meth c H locs 0 0 (MQ below (va_Qi (fun r (u : DV) => f_L_areDrawersSo n0 v0 = some (r, u)) (fun u t => atW G (xcoreC G.2 a u) A t) A) ([.ref (a 21)] : List Value).toArray s 0 0 A) (F0 m 31 ls [])) (n : Nat) (v : DV) (x1 : Int32) (x2 : Int32) (x3 : Int32) (x4 : Int32) (x5 : Int32) (x6 : Int32) (x8 : Int32) (x9 : Int32) (x10 : Int32) (z0 : Int32) (z1 : Int32) (H : Heap) (locs : List Loc) (ls : Array Slot), va_P G.1 vwCl (xcoreC G.2 a v) H → va_D A (xcoreC G.2 a v) → va_S A s.heap H locs → lv_has ls 11 [(0, .ref (a 21)), (1, .int x1), (2, .int x2), (3, .int x3), (4, .int x4), (5, .int x5), (6, .int x6), (8, .int x8), (9, .int x9), (10, .int x10)] → f_L_areDrawersSo_J82 k15 k31 n v x1 x2 x3 x4 x5 x6 x8 x9 x10 z0 z1 = res → W p l e (headSpec wsL_areDrawersSo ({ frames := 5, cells := 0, slots := 0, locals := 132 } : Room)).room s m ([.ref (a 21)] : List Value).toArray below meth c H locs 0 0 (MQ below (va_Qi (fun r (u : DV) => f_L_areDrawersSo n0 v0 = some (r, u)) (fun u t => atW G (xcoreC G.2 a u) A t) A) ([.ref (a 21)] : List Value).toArray s 0 0 A) (F0 m 82 ls [.int z0, .int z1]) := by
    intro k15 k31 hk15 hk31 n v x1 x2 x3 x4 x5 x6 x8 x9 x10 z0 z1 H locs ls hP hD hS hl hf
    rw [f_L_areDrawersSo_J82] at hf
    refine lv_iadd hx hb dL_areDrawersSo_82 ?_
    refine lv_istore (lv' := [(7, .int (z1 + z0)), (0, .ref (a 21)), (1, .int x1), (2, .int x2), (3, .int x3), (4, .int x4), (5, .int x5), (6, .int x6), (8, .int x8), (9, .int x9), (10, .int x10)]) hx hb dL_areDrawersSo_83 hl (by decide) rfl (fun ls hl => ?_)
    refine lv_iload hx hb dL_areDrawersSo_85 (lv_at hl 8 rfl) ?_
    refine lv_iload hx hb dL_areDrawersSo_87 (lv_at hl 10 rfl) ?_
    refine lv_if_eq (tgt := 102) hx hb dL_areDrawersSo_89 (by decide) (fun c => ?_) (fun c => ?_)
    · have hf := it_1 hf c
      refine lv_iconst (v := 0) hx hb dL_areDrawersSo_102 (by decide) ?_
      refine lv_iadd hx hb dL_areDrawersSo_103 ?_
      refine lv_istore (lv' := [(8, .int (x8 + 0)), (7, .int (z1 + z0)), (0, .ref (a 21)), (1, .int x1), (2, .int x2), (3, .int x3), (4, .int x4), (5, .int x5), (6, .int x6), (9, .int x9), (10, .int x10)]) hx hb dL_areDrawersSo_104 hl (by decide) rfl (fun ls hl => ?_)
      refine lv_iinc (v := (x9 + 1)) (lv' := [(9, .int (x9 + 1)), (8, .int (x8 + 0)), (7, .int (z1 + z0)), (0, .ref (a 21)), (1, .int x1), (2, .int x2), (3, .int x3), (4, .int x4), (5, .int x5), (6, .int x6), (10, .int x10)]) hx hb dL_areDrawersSo_106 hl (k := 9) rfl rfl (by decide) rfl (fun ls hl => ?_)
      refine lv_goto (tgt := 31) hx hb dL_areDrawersSo_109 (by decide) ?_
      exact hk31 v x1 x2 x3 x4 x5 x6 (z1 + z0) (x8 + 0) (x9 + 1) H locs ls hP hD hS (lv_sub hl [3, 4, 5, 6, 7, 8, 9, 2, 1, 0] rfl) hf
    · have hf := it_2 hf c
      refine lv_aload_n hx hb dL_areDrawersSo_92 rfl (lv_at hl 1 rfl) ?_
      refine lv_iload hx hb dL_areDrawersSo_93 (lv_at hl 9 rfl) ?_
      refine lv_iconst (v := 2) hx hb dL_areDrawersSo_95 (by decide) ?_
      have hn := bd2_1 hf hne
      refine cwiP (wr := []) (w1 := fun u : DV => xcoreC G.2 a u) (ws1 := fun u : DV => xcoreC G.2 a u) (va_runV (As := [.int x9, .int 2]) (rest := [.int x8]) ⟨hx, hb, hml, hown, hts⟩ (ok_X6_ofLetter l G a H.size n v x9 2 hn) (cwV 2 hts gL_areDrawersSo_X6_ofLetter rfl rfl rfl (by decide +kernel) ⟨Nat.le_of_ble_eq_true rfl, Nat.le_of_ble_eq_true rfl⟩) ⟨pcW_blind, va_recv hK hP (ci := 6) (q0 := 0) rfl rfl, pcW_pre hP hD hamb⟩ rfl rfl hl.1 rfl (lv_room (Nat.le_of_ble_eq_true rfl)) dL_areDrawersSo_96 ⟨Nat.le_of_ble_eq_true rfl, Nat.le_of_ble_eq_true rfl⟩) hP hD hS hA (pnl _) (fun _ => pnr _) (fun r96 v96 H locs hw hP hD hS => ?_)
      have hf := bd2_2 hf hw
      have hP : va_P G.1 vwCl (xcoreC G.2 a v96) H := hP
      have hD : va_D A (xcoreC G.2 a v96) := hD
      refine lv_goto (tgt := 103) hx hb dL_areDrawersSo_99 (by decide) ?_
      refine lv_iadd hx hb dL_areDrawersSo_103 ?_
      refine lv_istore (lv' := [(8, .int (x8 + r96)), (7, .int (z1 + z0)), (0, .ref (a 21)), (1, .int x1), (2, .int x2), (3, .int x3), (4, .int x4), (5, .int x5), (6, .int x6), (9, .int x9), (10, .int x10)]) hx hb dL_areDrawersSo_104 hl (by decide) rfl (fun ls hl => ?_)
      refine lv_iinc (v := (x9 + 1)) (lv' := [(9, .int (x9 + 1)), (8, .int (x8 + r96)), (7, .int (z1 + z0)), (0, .ref (a 21)), (1, .int x1), (2, .int x2), (3, .int x3), (4, .int x4), (5, .int x5), (6, .int x6), (10, .int x10)]) hx hb dL_areDrawersSo_106 hl (k := 9) rfl rfl (by decide) rfl (fun ls hl => ?_)
      refine lv_goto (tgt := 31) hx hb dL_areDrawersSo_109 (by decide) ?_
      exact hk31 v96 x1 x2 x3 x4 x5 x6 (z1 + z0) (x8 + r96) (x9 + 1) H locs ls hP hD hS (lv_sub hl [3, 4, 5, 6, 7, 8, 9, 2, 1, 0] rfl) hf
  have J68 : ∀ (k15 : DV → Int32 → Int32 → Int32 → Int32 → Int32 → Int32 → Option (Int32 × DV)) (k31 : DV → Int32 → Int32 → Int32 → Int32 → Int32 → Int32 → Int32 → Int32 → Int32 → Option (Int32 × DV)) (hk15 : ∀ (v : DV) (x1 : Int32) (x2 : Int32) (x3 : Int32) (x4 : Int32) (x5 : Int32) (x6 : Int32) (H : Heap) (locs : List Loc) (ls : Array Slot), va_P G.1 vwCl (xcoreC G.2 a v) H → va_D A (xcoreC G.2 a v) → va_S A s.heap H locs → lv_has ls 11 [(0, .ref (a 21)), (1, .int x1), (2, .int x2), (3, .int x3), (4, .int x4), (5, .int x5), (6, .int x6)] → k15 v x1 x2 x3 x4 x5 x6 = res → W p l e (headSpec wsL_areDrawersSo ({ frames := 5, cells := 0, slots := 0, locals := 132 } : Room)).room s m ([.ref (a 21)] : List Value).toArray below meth c H locs 0 0 (MQ below (va_Qi (fun r (u : DV) => f_L_areDrawersSo n0 v0 = some (r, u)) (fun u t => atW G (xcoreC G.2 a u) A t) A) ([.ref (a 21)] : List Value).toArray s 0 0 A) (F0 m 15 ls [])) (hk31 : ∀ (v : DV) (x1 : Int32) (x2 : Int32) (x3 : Int32) (x4 : Int32) (x5 : Int32) (x6 : Int32) (x7 : Int32) (x8 : Int32) (x9 : Int32) (H : Heap) (locs : List Loc) (ls : Array Slot), va_P G.1 vwCl (xcoreC G.2 a v) H → va_D A (xcoreC G.2 a v) → va_S A s.heap H locs → lv_has ls 11 [(0, .ref (a 21)), (1, .int x1), (2, .int x2), (3, .int x3), (4, .int x4), (5, .int x5), (6, .int x6), (7, .int x7), (8, .int x8), (9, .int x9)] → k31 v x1 x2 x3 x4 x5 x6 x7 x8 x9 = res → W p l e (headSpec wsL_areDrawersSo ({ frames := 5, cells := 0, slots := 0, locals := 132 } : Room)).room s m ([.ref (a 21)] : List Value).toArray below meth c H locs 0 0 (MQ below (va_Qi (fun r (u : DV) => f_L_areDrawersSo n0 v0 = some (r, u)) (fun u t => atW G (xcoreC G.2 a u) A t) A) ([.ref (a 21)] : List Value).toArray s 0 0 A) (F0 m 31 ls [])) (n : Nat) (v : DV) (x1 : Int32) (x2 : Int32) (x3 : Int32) (x4 : Int32) (x5 : Int32) (x6 : Int32) (x7 : Int32) (x8 : Int32) (x9 : Int32) (z0 : Int32) (H : Heap) (locs : List Loc) (ls : Array Slot), va_P G.1 vwCl (xcoreC G.2 a v) H → va_D A (xcoreC G.2 a v) → va_S A s.heap H locs → lv_has ls 11 [(0, .ref (a 21)), (1, .int x1), (2, .int x2), (3, .int x3), (4, .int x4), (5, .int x5), (6, .int x6), (7, .int x7), (8, .int x8), (9, .int x9)] → f_L_areDrawersSo_J68 k15 k31 n v x1 x2 x3 x4 x5 x6 x7 x8 x9 z0 = res → W p l e (headSpec wsL_areDrawersSo ({ frames := 5, cells := 0, slots := 0, locals := 132 } : Room)).room s m ([.ref (a 21)] : List Value).toArray below meth c H locs 0 0 (MQ below (va_Qi (fun r (u : DV) => f_L_areDrawersSo n0 v0 = some (r, u)) (fun u t => atW G (xcoreC G.2 a u) A t) A) ([.ref (a 21)] : List Value).toArray s 0 0 A) (F0 m 68 ls [.int z0]) := by
    intro k15 k31 hk15 hk31 n v x1 x2 x3 x4 x5 x6 x7 x8 x9 z0 H locs ls hP hD hS hl hf
    rw [f_L_areDrawersSo_J68] at hf
    refine lv_istore (lv' := [(10, .int z0), (0, .ref (a 21)), (1, .int x1), (2, .int x2), (3, .int x3), (4, .int x4), (5, .int x5), (6, .int x6), (7, .int x7), (8, .int x8), (9, .int x9)]) hx hb dL_areDrawersSo_68 hl (by decide) rfl (fun ls hl => ?_)
    refine lv_iload hx hb dL_areDrawersSo_70 (lv_at hl 8 rfl) ?_
    refine lv_iload hx hb dL_areDrawersSo_72 (lv_at hl 0 rfl) ?_
    refine lv_if_eq (tgt := 81) hx hb dL_areDrawersSo_74 (by decide) (fun c => ?_) (fun c => ?_)
    · have hf := it_1 hf c
      refine lv_iconst (v := 0) hx hb dL_areDrawersSo_81 (by decide) ?_
      exact J82 k15 k31 hk15 hk31 n v x1 x2 x3 x4 x5 x6 x8 x9 z0 0 x7 H locs ls hP hD hS (lv_sub hl [1, 2, 3, 4, 5, 6, 7, 9, 10, 0] rfl) hf
    · have hf := it_2 hf c
      refine lv_iconst (v := 1) hx hb dL_areDrawersSo_77 (by decide) ?_
      refine lv_goto (tgt := 82) hx hb dL_areDrawersSo_78 (by decide) ?_
      exact J82 k15 k31 hk15 hk31 n v x1 x2 x3 x4 x5 x6 x8 x9 z0 1 x7 H locs ls hP hD hS (lv_sub hl [1, 2, 3, 4, 5, 6, 7, 9, 10, 0] rfl) hf
  have J67 : ∀ (k15 : DV → Int32 → Int32 → Int32 → Int32 → Int32 → Int32 → Option (Int32 × DV)) (k31 : DV → Int32 → Int32 → Int32 → Int32 → Int32 → Int32 → Int32 → Int32 → Int32 → Option (Int32 × DV)) (hk15 : ∀ (v : DV) (x1 : Int32) (x2 : Int32) (x3 : Int32) (x4 : Int32) (x5 : Int32) (x6 : Int32) (H : Heap) (locs : List Loc) (ls : Array Slot), va_P G.1 vwCl (xcoreC G.2 a v) H → va_D A (xcoreC G.2 a v) → va_S A s.heap H locs → lv_has ls 11 [(0, .ref (a 21)), (1, .int x1), (2, .int x2), (3, .int x3), (4, .int x4), (5, .int x5), (6, .int x6)] → k15 v x1 x2 x3 x4 x5 x6 = res → W p l e (headSpec wsL_areDrawersSo ({ frames := 5, cells := 0, slots := 0, locals := 132 } : Room)).room s m ([.ref (a 21)] : List Value).toArray below meth c H locs 0 0 (MQ below (va_Qi (fun r (u : DV) => f_L_areDrawersSo n0 v0 = some (r, u)) (fun u t => atW G (xcoreC G.2 a u) A t) A) ([.ref (a 21)] : List Value).toArray s 0 0 A) (F0 m 15 ls [])) (hk31 : ∀ (v : DV) (x1 : Int32) (x2 : Int32) (x3 : Int32) (x4 : Int32) (x5 : Int32) (x6 : Int32) (x7 : Int32) (x8 : Int32) (x9 : Int32) (H : Heap) (locs : List Loc) (ls : Array Slot), va_P G.1 vwCl (xcoreC G.2 a v) H → va_D A (xcoreC G.2 a v) → va_S A s.heap H locs → lv_has ls 11 [(0, .ref (a 21)), (1, .int x1), (2, .int x2), (3, .int x3), (4, .int x4), (5, .int x5), (6, .int x6), (7, .int x7), (8, .int x8), (9, .int x9)] → k31 v x1 x2 x3 x4 x5 x6 x7 x8 x9 = res → W p l e (headSpec wsL_areDrawersSo ({ frames := 5, cells := 0, slots := 0, locals := 132 } : Room)).room s m ([.ref (a 21)] : List Value).toArray below meth c H locs 0 0 (MQ below (va_Qi (fun r (u : DV) => f_L_areDrawersSo n0 v0 = some (r, u)) (fun u t => atW G (xcoreC G.2 a u) A t) A) ([.ref (a 21)] : List Value).toArray s 0 0 A) (F0 m 31 ls [])) (n : Nat) (v : DV) (x1 : Int32) (x2 : Int32) (x3 : Int32) (x4 : Int32) (x5 : Int32) (x6 : Int32) (x7 : Int32) (x8 : Int32) (x9 : Int32) (H : Heap) (locs : List Loc) (ls : Array Slot), va_P G.1 vwCl (xcoreC G.2 a v) H → va_D A (xcoreC G.2 a v) → va_S A s.heap H locs → lv_has ls 11 [(0, .ref (a 21)), (1, .int x1), (2, .int x2), (3, .int x3), (4, .int x4), (5, .int x5), (6, .int x6), (7, .int x7), (8, .int x8), (9, .int x9)] → f_L_areDrawersSo_J67 k15 k31 n v x1 x2 x3 x4 x5 x6 x7 x8 x9 = res → W p l e (headSpec wsL_areDrawersSo ({ frames := 5, cells := 0, slots := 0, locals := 132 } : Room)).room s m ([.ref (a 21)] : List Value).toArray below meth c H locs 0 0 (MQ below (va_Qi (fun r (u : DV) => f_L_areDrawersSo n0 v0 = some (r, u)) (fun u t => atW G (xcoreC G.2 a u) A t) A) ([.ref (a 21)] : List Value).toArray s 0 0 A) (F0 m 67 ls []) := by
    intro k15 k31 hk15 hk31 n v x1 x2 x3 x4 x5 x6 x7 x8 x9 H locs ls hP hD hS hl hf
    rw [f_L_areDrawersSo_J67] at hf
    refine lv_iconst (v := 0) hx hb dL_areDrawersSo_67 (by decide) ?_
    exact J68 k15 k31 hk15 hk31 n v x1 x2 x3 x4 x5 x6 x7 x8 x9 0 H locs ls hP hD hS (lv_sub hl [0, 1, 2, 3, 4, 5, 6, 7, 8, 9] rfl) hf
  have L31 : ∀ (k15 : DV → Int32 → Int32 → Int32 → Int32 → Int32 → Int32 → Option (Int32 × DV)) (hk15 : ∀ (v : DV) (x1 : Int32) (x2 : Int32) (x3 : Int32) (x4 : Int32) (x5 : Int32) (x6 : Int32) (H : Heap) (locs : List Loc) (ls : Array Slot), va_P G.1 vwCl (xcoreC G.2 a v) H → va_D A (xcoreC G.2 a v) → va_S A s.heap H locs → lv_has ls 11 [(0, .ref (a 21)), (1, .int x1), (2, .int x2), (3, .int x3), (4, .int x4), (5, .int x5), (6, .int x6)] → k15 v x1 x2 x3 x4 x5 x6 = res → W p l e (headSpec wsL_areDrawersSo ({ frames := 5, cells := 0, slots := 0, locals := 132 } : Room)).room s m ([.ref (a 21)] : List Value).toArray below meth c H locs 0 0 (MQ below (va_Qi (fun r (u : DV) => f_L_areDrawersSo n0 v0 = some (r, u)) (fun u t => atW G (xcoreC G.2 a u) A t) A) ([.ref (a 21)] : List Value).toArray s 0 0 A) (F0 m 15 ls [])) (n : Nat) (v : DV) (x1 : Int32) (x2 : Int32) (x3 : Int32) (x4 : Int32) (x5 : Int32) (x6 : Int32) (x7 : Int32) (x8 : Int32) (x9 : Int32) (H : Heap) (locs : List Loc) (ls : Array Slot), va_P G.1 vwCl (xcoreC G.2 a v) H → va_D A (xcoreC G.2 a v) → va_S A s.heap H locs → lv_has ls 11 [(0, .ref (a 21)), (1, .int x1), (2, .int x2), (3, .int x3), (4, .int x4), (5, .int x5), (6, .int x6), (7, .int x7), (8, .int x8), (9, .int x9)] → f_L_areDrawersSo_L31 k15 n v x1 x2 x3 x4 x5 x6 x7 x8 x9 = res → W p l e (headSpec wsL_areDrawersSo ({ frames := 5, cells := 0, slots := 0, locals := 132 } : Room)).room s m ([.ref (a 21)] : List Value).toArray below meth c H locs 0 0 (MQ below (va_Qi (fun r (u : DV) => f_L_areDrawersSo n0 v0 = some (r, u)) (fun u t => atW G (xcoreC G.2 a u) A t) A) ([.ref (a 21)] : List Value).toArray s 0 0 A) (F0 m 31 ls []) := by
    intro k15 hk15 n
    induction n with
    | zero => intro v x1 x2 x3 x4 x5 x6 x7 x8 x9 H locs ls hP hD hS hl hf; exact (none_1 hf hne).elim
    | succ n ih =>
      intro v x1 x2 x3 x4 x5 x6 x7 x8 x9 H locs ls hP hD hS hl hf
      rw [f_L_areDrawersSo_L31] at hf
      refine lv_iload hx hb dL_areDrawersSo_31 (lv_at hl 9 rfl) ?_
      refine lv_aload_n hx hb dL_areDrawersSo_33 rfl (lv_at hl 0 rfl) ?_
      refine lv_iconst (v := 2) hx hb dL_areDrawersSo_34 (by decide) ?_
      have hn := bd1_1 hf hne
      refine vp_callSi (W.runV (As := [.int 2]) (rest := [.int x9]) ⟨hx, hb, hml, hown, hts⟩ (ok_X6_count l G a n v 2 hn) (cwV 1 hts gL_areDrawersSo_X6_count rfl rfl rfl (by decide +kernel) ⟨Nat.le_of_ble_eq_true rfl, Nat.le_of_ble_eq_true rfl⟩) ⟨pcR_blind, va_recv hK hP (ci := 6) (q0 := 0) rfl rfl, pcR_pre hP hamb⟩ rfl rfl hl.1 rfl (lv_room (Nat.le_of_ble_eq_true rfl)) dL_areDrawersSo_35 ⟨Nat.le_of_ble_eq_true rfl, Nat.le_of_ble_eq_true rfl⟩) (fun r35 hw => ?_)
      have hf := bd1_2 hf hw
      refine lv_icmp_ge (tgt := 112) hx hb dL_areDrawersSo_38 (by decide) (fun c => ?_) (fun c => ?_)
      · have hf := it_1 hf c
        refine lv_iload_n hx hb dL_areDrawersSo_112 rfl (lv_at hl 1 rfl) ?_
        refine lv_iload hx hb dL_areDrawersSo_113 (lv_at hl 7 rfl) ?_
        refine lv_iadd hx hb dL_areDrawersSo_115 ?_
        refine lv_istore_n (lv' := [(1, .int (x1 + x7)), (0, .ref (a 21)), (2, .int x2), (3, .int x3), (4, .int x4), (5, .int x5), (6, .int x6), (7, .int x7), (8, .int x8), (9, .int x9)]) hx hb dL_areDrawersSo_116 rfl hl (by decide) rfl (fun ls hl => ?_)
        refine lv_iload_n hx hb dL_areDrawersSo_117 rfl (lv_at hl 2 rfl) ?_
        refine lv_aload_n hx hb dL_areDrawersSo_118 rfl (lv_at hl 1 rfl) ?_
        refine lv_iload hx hb dL_areDrawersSo_119 (lv_at hl 6 rfl) ?_
        refine lv_bipush (v := 6) hx hb dL_areDrawersSo_121 (by decide) ?_
        have hn := bd1_1 hf hne
        refine vp_callSi (W.runV (As := [.int x6, .int 6]) (rest := [.int x2]) ⟨hx, hb, hml, hown, hts⟩ (ok_X6_ofDrawer l G a n v x6 6 hn) (cwV 2 hts gL_areDrawersSo_X6_ofDrawer rfl rfl rfl (by decide +kernel) ⟨Nat.le_of_ble_eq_true rfl, Nat.le_of_ble_eq_true rfl⟩) ⟨pcR_blind, va_recv hK hP (ci := 6) (q0 := 0) rfl rfl, pcR_pre hP hamb⟩ rfl rfl hl.1 rfl (lv_room (Nat.le_of_ble_eq_true rfl)) dL_areDrawersSo_123 ⟨Nat.le_of_ble_eq_true rfl, Nat.le_of_ble_eq_true rfl⟩) (fun r123 hw => ?_)
        have hf := bd1_2 hf hw
        refine lv_iadd hx hb dL_areDrawersSo_126 ?_
        refine lv_istore_n (lv' := [(2, .int (x2 + r123)), (1, .int (x1 + x7)), (0, .ref (a 21)), (3, .int x3), (4, .int x4), (5, .int x5), (6, .int x6), (7, .int x7), (8, .int x8), (9, .int x9)]) hx hb dL_areDrawersSo_127 rfl hl (by decide) rfl (fun ls hl => ?_)
        refine lv_iload_n hx hb dL_areDrawersSo_128 rfl (lv_at hl 3 rfl) ?_
        refine lv_aload_n hx hb dL_areDrawersSo_129 rfl (lv_at hl 2 rfl) ?_
        refine lv_iload hx hb dL_areDrawersSo_130 (lv_at hl 6 rfl) ?_
        refine lv_bipush (v := 7) hx hb dL_areDrawersSo_132 (by decide) ?_
        have hn := bd1_1 hf hne
        refine vp_callSi (W.runV (As := [.int x6, .int 7]) (rest := [.int x3]) ⟨hx, hb, hml, hown, hts⟩ (ok_X6_ofDrawer l G a n v x6 7 hn) (cwV 2 hts gL_areDrawersSo_X6_ofDrawer rfl rfl rfl (by decide +kernel) ⟨Nat.le_of_ble_eq_true rfl, Nat.le_of_ble_eq_true rfl⟩) ⟨pcR_blind, va_recv hK hP (ci := 6) (q0 := 0) rfl rfl, pcR_pre hP hamb⟩ rfl rfl hl.1 rfl (lv_room (Nat.le_of_ble_eq_true rfl)) dL_areDrawersSo_134 ⟨Nat.le_of_ble_eq_true rfl, Nat.le_of_ble_eq_true rfl⟩) (fun r134 hw => ?_)
        have hf := bd1_2 hf hw
        refine lv_iadd hx hb dL_areDrawersSo_137 ?_
        refine lv_istore_n (lv' := [(3, .int (x3 + r134)), (2, .int (x2 + r123)), (1, .int (x1 + x7)), (0, .ref (a 21)), (4, .int x4), (5, .int x5), (6, .int x6), (7, .int x7), (8, .int x8), (9, .int x9)]) hx hb dL_areDrawersSo_138 rfl hl (by decide) rfl (fun ls hl => ?_)
        refine lv_iload hx hb dL_areDrawersSo_139 (lv_at hl 4 rfl) ?_
        refine lv_aload_n hx hb dL_areDrawersSo_141 rfl (lv_at hl 3 rfl) ?_
        refine lv_iload hx hb dL_areDrawersSo_142 (lv_at hl 6 rfl) ?_
        refine lv_iconst (v := 1) hx hb dL_areDrawersSo_144 (by decide) ?_
        have hn := bd1_1 hf hne
        refine vp_callSi (W.runV (As := [.int x6, .int 1]) (rest := [.int x4]) ⟨hx, hb, hml, hown, hts⟩ (ok_X6_ofDrawer l G a n v x6 1 hn) (cwV 2 hts gL_areDrawersSo_X6_ofDrawer rfl rfl rfl (by decide +kernel) ⟨Nat.le_of_ble_eq_true rfl, Nat.le_of_ble_eq_true rfl⟩) ⟨pcR_blind, va_recv hK hP (ci := 6) (q0 := 0) rfl rfl, pcR_pre hP hamb⟩ rfl rfl hl.1 rfl (lv_room (Nat.le_of_ble_eq_true rfl)) dL_areDrawersSo_145 ⟨Nat.le_of_ble_eq_true rfl, Nat.le_of_ble_eq_true rfl⟩) (fun r145 hw => ?_)
        have hf := bd1_2 hf hw
        refine lv_iadd hx hb dL_areDrawersSo_148 ?_
        refine lv_istore (lv' := [(4, .int (x4 + r145)), (3, .int (x3 + r134)), (2, .int (x2 + r123)), (1, .int (x1 + x7)), (0, .ref (a 21)), (5, .int x5), (6, .int x6), (7, .int x7), (8, .int x8), (9, .int x9)]) hx hb dL_areDrawersSo_149 hl (by decide) rfl (fun ls hl => ?_)
        refine lv_iload hx hb dL_areDrawersSo_151 (lv_at hl 5 rfl) ?_
        refine lv_if_eq (tgt := 255) hx hb dL_areDrawersSo_153 (by decide) (fun c => ?_) (fun c => ?_)
        · have hf := it_1 hf c
          refine lv_iconst (v := 0) hx hb dL_areDrawersSo_255 (by decide) ?_
          refine lv_istore (lv' := [(5, .int 0), (4, .int (x4 + r145)), (3, .int (x3 + r134)), (2, .int (x2 + r123)), (1, .int (x1 + x7)), (0, .ref (a 21)), (6, .int x6), (7, .int x7), (8, .int x8), (9, .int x9)]) hx hb dL_areDrawersSo_256 hl (by decide) rfl (fun ls hl => ?_)
          refine lv_iinc (v := (x6 + 1)) (lv' := [(6, .int (x6 + 1)), (5, .int 0), (4, .int (x4 + r145)), (3, .int (x3 + r134)), (2, .int (x2 + r123)), (1, .int (x1 + x7)), (0, .ref (a 21)), (7, .int x7), (8, .int x8), (9, .int x9)]) hx hb dL_areDrawersSo_258 hl (k := 6) rfl rfl (by decide) rfl (fun ls hl => ?_)
          refine lv_goto (tgt := 15) hx hb dL_areDrawersSo_261 (by decide) ?_
          exact hk15 v (x1 + x7) (x2 + r123) (x3 + r134) (x4 + r145) 0 (x6 + 1) H locs ls hP hD hS (lv_sub hl [6, 5, 4, 3, 2, 1, 0] rfl) hf
        · have hf := it_2 hf c
          refine lv_iload hx hb dL_areDrawersSo_156 (lv_at hl 7 rfl) ?_
          refine lv_aload_n hx hb dL_areDrawersSo_158 rfl (lv_at hl 4 rfl) ?_
          refine lv_iload hx hb dL_areDrawersSo_159 (lv_at hl 6 rfl) ?_
          refine lv_iconst (v := 0) hx hb dL_areDrawersSo_161 (by decide) ?_
          have hn := bd1_1 hf hne
          refine vp_callSi (W.runV (As := [.int x6, .int 0]) (rest := [.int x7]) ⟨hx, hb, hml, hown, hts⟩ (ok_X6_ofDrawer l G a n v x6 0 hn) (cwV 2 hts gL_areDrawersSo_X6_ofDrawer rfl rfl rfl (by decide +kernel) ⟨Nat.le_of_ble_eq_true rfl, Nat.le_of_ble_eq_true rfl⟩) ⟨pcR_blind, va_recv hK hP (ci := 6) (q0 := 0) rfl rfl, pcR_pre hP hamb⟩ rfl rfl hl.1 rfl (lv_room (Nat.le_of_ble_eq_true rfl)) dL_areDrawersSo_162 ⟨Nat.le_of_ble_eq_true rfl, Nat.le_of_ble_eq_true rfl⟩) (fun r162 hw => ?_)
          have hf := bd1_2 hf hw
          refine lv_icmp_ne (tgt := 255) hx hb dL_areDrawersSo_165 (by decide) (fun c => ?_) (fun c => ?_)
          · have hf := it_2 hf c
            refine lv_iconst (v := 0) hx hb dL_areDrawersSo_255 (by decide) ?_
            refine lv_istore (lv' := [(5, .int 0), (4, .int (x4 + r145)), (3, .int (x3 + r134)), (2, .int (x2 + r123)), (1, .int (x1 + x7)), (0, .ref (a 21)), (6, .int x6), (7, .int x7), (8, .int x8), (9, .int x9)]) hx hb dL_areDrawersSo_256 hl (by decide) rfl (fun ls hl => ?_)
            refine lv_iinc (v := (x6 + 1)) (lv' := [(6, .int (x6 + 1)), (5, .int 0), (4, .int (x4 + r145)), (3, .int (x3 + r134)), (2, .int (x2 + r123)), (1, .int (x1 + x7)), (0, .ref (a 21)), (7, .int x7), (8, .int x8), (9, .int x9)]) hx hb dL_areDrawersSo_258 hl (k := 6) rfl rfl (by decide) rfl (fun ls hl => ?_)
            refine lv_goto (tgt := 15) hx hb dL_areDrawersSo_261 (by decide) ?_
            exact hk15 v (x1 + x7) (x2 + r123) (x3 + r134) (x4 + r145) 0 (x6 + 1) H locs ls hP hD hS (lv_sub hl [6, 5, 4, 3, 2, 1, 0] rfl) hf
          · have hf := it_1 hf c
            refine lv_iload hx hb dL_areDrawersSo_168 (lv_at hl 7 rfl) ?_
            refine lv_bipush (v := 8) hx hb dL_areDrawersSo_170 (by decide) ?_
            refine lv_icmp_gt (tgt := 255) hx hb dL_areDrawersSo_172 (by decide) (fun c => ?_) (fun c => ?_)
            · have hf := it_1 hf c
              refine lv_iconst (v := 0) hx hb dL_areDrawersSo_255 (by decide) ?_
              refine lv_istore (lv' := [(5, .int 0), (4, .int (x4 + r145)), (3, .int (x3 + r134)), (2, .int (x2 + r123)), (1, .int (x1 + x7)), (0, .ref (a 21)), (6, .int x6), (7, .int x7), (8, .int x8), (9, .int x9)]) hx hb dL_areDrawersSo_256 hl (by decide) rfl (fun ls hl => ?_)
              refine lv_iinc (v := (x6 + 1)) (lv' := [(6, .int (x6 + 1)), (5, .int 0), (4, .int (x4 + r145)), (3, .int (x3 + r134)), (2, .int (x2 + r123)), (1, .int (x1 + x7)), (0, .ref (a 21)), (7, .int x7), (8, .int x8), (9, .int x9)]) hx hb dL_areDrawersSo_258 hl (k := 6) rfl rfl (by decide) rfl (fun ls hl => ?_)
              refine lv_goto (tgt := 15) hx hb dL_areDrawersSo_261 (by decide) ?_
              exact hk15 v (x1 + x7) (x2 + r123) (x3 + r134) (x4 + r145) 0 (x6 + 1) H locs ls hP hD hS (lv_sub hl [6, 5, 4, 3, 2, 1, 0] rfl) hf
            · have hf := it_2 hf c
              refine lv_iload hx hb dL_areDrawersSo_175 (lv_at hl 8 rfl) ?_
              refine lv_aload_n hx hb dL_areDrawersSo_177 rfl (lv_at hl 4 rfl) ?_
              refine lv_iload hx hb dL_areDrawersSo_178 (lv_at hl 6 rfl) ?_
              refine lv_iconst (v := 5) hx hb dL_areDrawersSo_180 (by decide) ?_
              have hn := bd1_1 hf hne
              refine vp_callSi (W.runV (As := [.int x6, .int 5]) (rest := [.int x8]) ⟨hx, hb, hml, hown, hts⟩ (ok_X6_ofDrawer l G a n v x6 5 hn) (cwV 2 hts gL_areDrawersSo_X6_ofDrawer rfl rfl rfl (by decide +kernel) ⟨Nat.le_of_ble_eq_true rfl, Nat.le_of_ble_eq_true rfl⟩) ⟨pcR_blind, va_recv hK hP (ci := 6) (q0 := 0) rfl rfl, pcR_pre hP hamb⟩ rfl rfl hl.1 rfl (lv_room (Nat.le_of_ble_eq_true rfl)) dL_areDrawersSo_181 ⟨Nat.le_of_ble_eq_true rfl, Nat.le_of_ble_eq_true rfl⟩) (fun r181 hw => ?_)
              have hf := bd1_2 hf hw
              refine lv_icmp_ne (tgt := 255) hx hb dL_areDrawersSo_184 (by decide) (fun c => ?_) (fun c => ?_)
              · have hf := it_2 hf c
                refine lv_iconst (v := 0) hx hb dL_areDrawersSo_255 (by decide) ?_
                refine lv_istore (lv' := [(5, .int 0), (4, .int (x4 + r145)), (3, .int (x3 + r134)), (2, .int (x2 + r123)), (1, .int (x1 + x7)), (0, .ref (a 21)), (6, .int x6), (7, .int x7), (8, .int x8), (9, .int x9)]) hx hb dL_areDrawersSo_256 hl (by decide) rfl (fun ls hl => ?_)
                refine lv_iinc (v := (x6 + 1)) (lv' := [(6, .int (x6 + 1)), (5, .int 0), (4, .int (x4 + r145)), (3, .int (x3 + r134)), (2, .int (x2 + r123)), (1, .int (x1 + x7)), (0, .ref (a 21)), (7, .int x7), (8, .int x8), (9, .int x9)]) hx hb dL_areDrawersSo_258 hl (k := 6) rfl rfl (by decide) rfl (fun ls hl => ?_)
                refine lv_goto (tgt := 15) hx hb dL_areDrawersSo_261 (by decide) ?_
                exact hk15 v (x1 + x7) (x2 + r123) (x3 + r134) (x4 + r145) 0 (x6 + 1) H locs ls hP hD hS (lv_sub hl [6, 5, 4, 3, 2, 1, 0] rfl) hf
              · have hf := it_1 hf c
                refine lv_aload_n hx hb dL_areDrawersSo_187 rfl (lv_at hl 4 rfl) ?_
                refine lv_iload hx hb dL_areDrawersSo_188 (lv_at hl 6 rfl) ?_
                refine lv_iconst (v := 3) hx hb dL_areDrawersSo_190 (by decide) ?_
                have hn := bd1_1 hf hne
                refine vp_callSi (W.runV (As := [.int x6, .int 3]) (rest := []) ⟨hx, hb, hml, hown, hts⟩ (ok_X6_ofDrawer l G a n v x6 3 hn) (cwV 2 hts gL_areDrawersSo_X6_ofDrawer rfl rfl rfl (by decide +kernel) ⟨Nat.le_of_ble_eq_true rfl, Nat.le_of_ble_eq_true rfl⟩) ⟨pcR_blind, va_recv hK hP (ci := 6) (q0 := 0) rfl rfl, pcR_pre hP hamb⟩ rfl rfl hl.1 rfl (lv_room (Nat.le_of_ble_eq_true rfl)) dL_areDrawersSo_191 ⟨Nat.le_of_ble_eq_true rfl, Nat.le_of_ble_eq_true rfl⟩) (fun r191 hw => ?_)
                have hf := bd1_2 hf hw
                refine lv_bipush (v := (-6)) hx hb dL_areDrawersSo_194 (by decide) ?_
                refine lv_icmp_ne (tgt := 203) hx hb dL_areDrawersSo_196 (by decide) (fun c => ?_) (fun c => ?_)
                · have hf := it_2 hf c
                  refine lv_iconst (v := 0) hx hb dL_areDrawersSo_203 (by decide) ?_
                  exact J204 k15 hk15 n v (x1 + x7) (x2 + r123) (x3 + r134) (x4 + r145) x6 0 H locs ls hP hD hS (lv_sub hl [4, 3, 2, 1, 0, 6] rfl) hf
                · have hf := it_1 hf c
                  refine lv_iconst (v := 1) hx hb dL_areDrawersSo_199 (by decide) ?_
                  refine lv_goto (tgt := 204) hx hb dL_areDrawersSo_200 (by decide) ?_
                  exact J204 k15 hk15 n v (x1 + x7) (x2 + r123) (x3 + r134) (x4 + r145) x6 1 H locs ls hP hD hS (lv_sub hl [4, 3, 2, 1, 0, 6] rfl) hf
      · have hf := it_2 hf c
        refine lv_aload_n hx hb dL_areDrawersSo_41 rfl (lv_at hl 0 rfl) ?_
        refine lv_iload hx hb dL_areDrawersSo_42 (lv_at hl 9 rfl) ?_
        refine lv_iconst (v := 0) hx hb dL_areDrawersSo_44 (by decide) ?_
        have hn := bd2_1 hf hne
        refine cwiP (wr := []) (w1 := fun u : DV => xcoreC G.2 a u) (ws1 := fun u : DV => xcoreC G.2 a u) (va_runV (As := [.int x9, .int 0]) (rest := []) ⟨hx, hb, hml, hown, hts⟩ (ok_X6_ofLetter l G a H.size n v x9 0 hn) (cwV 2 hts gL_areDrawersSo_X6_ofLetter rfl rfl rfl (by decide +kernel) ⟨Nat.le_of_ble_eq_true rfl, Nat.le_of_ble_eq_true rfl⟩) ⟨pcW_blind, va_recv hK hP (ci := 6) (q0 := 0) rfl rfl, pcW_pre hP hD hamb⟩ rfl rfl hl.1 rfl (lv_room (Nat.le_of_ble_eq_true rfl)) dL_areDrawersSo_45 ⟨Nat.le_of_ble_eq_true rfl, Nat.le_of_ble_eq_true rfl⟩) hP hD hS hA (pnl _) (fun _ => pnr _) (fun r45 v45 H locs hw hP hD hS => ?_)
        have hf := bd2_2 hf hw
        have hP : va_P G.1 vwCl (xcoreC G.2 a v45) H := hP
        have hD : va_D A (xcoreC G.2 a v45) := hD
        refine lv_iload hx hb dL_areDrawersSo_48 (lv_at hl 6 rfl) ?_
        refine lv_icmp_ne (tgt := 67) hx hb dL_areDrawersSo_50 (by decide) (fun c => ?_) (fun c => ?_)
        · have hf := it_2 hf c
          exact J67 k15 (fun v x1 x2 x3 x4 x5 x6 x7 x8 x9 => f_L_areDrawersSo_L31 k15 n v x1 x2 x3 x4 x5 x6 x7 x8 x9) hk15 ih n v45 x1 x2 x3 x4 x5 x6 x7 x8 x9 H locs ls hP hD hS (lv_sub hl [0, 1, 2, 3, 4, 5, 6, 7, 8, 9] rfl) hf
        · have hf := it_1 hf c
          refine lv_aload_n hx hb dL_areDrawersSo_53 rfl (lv_at hl 0 rfl) ?_
          refine lv_iload hx hb dL_areDrawersSo_54 (lv_at hl 9 rfl) ?_
          refine lv_iconst (v := 4) hx hb dL_areDrawersSo_56 (by decide) ?_
          have hn := bd2_1 hf hne
          refine cwiP (wr := []) (w1 := fun u : DV => xcoreC G.2 a u) (ws1 := fun u : DV => xcoreC G.2 a u) (va_runV (As := [.int x9, .int 4]) (rest := []) ⟨hx, hb, hml, hown, hts⟩ (ok_X6_ofLetter l G a H.size n v45 x9 4 hn) (cwV 2 hts gL_areDrawersSo_X6_ofLetter rfl rfl rfl (by decide +kernel) ⟨Nat.le_of_ble_eq_true rfl, Nat.le_of_ble_eq_true rfl⟩) ⟨pcW_blind, va_recv hK hP (ci := 6) (q0 := 0) rfl rfl, pcW_pre hP hD hamb⟩ rfl rfl hl.1 rfl (lv_room (Nat.le_of_ble_eq_true rfl)) dL_areDrawersSo_57 ⟨Nat.le_of_ble_eq_true rfl, Nat.le_of_ble_eq_true rfl⟩) hP hD hS hA (pnl _) (fun _ => pnr _) (fun r57 v57 H locs hw hP hD hS => ?_)
          have hf := bd2_2 hf hw
          have hP : va_P G.1 vwCl (xcoreC G.2 a v57) H := hP
          have hD : va_D A (xcoreC G.2 a v57) := hD
          refine lv_if_ne (tgt := 67) hx hb dL_areDrawersSo_60 (by decide) (fun c => ?_) (fun c => ?_)
          · have hf := it_2 hf c
            exact J67 k15 (fun v x1 x2 x3 x4 x5 x6 x7 x8 x9 => f_L_areDrawersSo_L31 k15 n v x1 x2 x3 x4 x5 x6 x7 x8 x9) hk15 ih n v57 x1 x2 x3 x4 x5 x6 x7 x8 x9 H locs ls hP hD hS (lv_sub hl [0, 1, 2, 3, 4, 5, 6, 7, 8, 9] rfl) hf
          · have hf := it_1 hf c
            refine lv_iconst (v := 1) hx hb dL_areDrawersSo_63 (by decide) ?_
            refine lv_goto (tgt := 68) hx hb dL_areDrawersSo_64 (by decide) ?_
            exact J68 k15 (fun v x1 x2 x3 x4 x5 x6 x7 x8 x9 => f_L_areDrawersSo_L31 k15 n v x1 x2 x3 x4 x5 x6 x7 x8 x9) hk15 ih n v57 x1 x2 x3 x4 x5 x6 x7 x8 x9 1 H locs ls hP hD hS (lv_sub hl [0, 1, 2, 3, 4, 5, 6, 7, 8, 9] rfl) hf
  have L15 : ∀ (n : Nat) (v : DV) (x1 : Int32) (x2 : Int32) (x3 : Int32) (x4 : Int32) (x5 : Int32) (x6 : Int32) (H : Heap) (locs : List Loc) (ls : Array Slot), va_P G.1 vwCl (xcoreC G.2 a v) H → va_D A (xcoreC G.2 a v) → va_S A s.heap H locs → lv_has ls 11 [(0, .ref (a 21)), (1, .int x1), (2, .int x2), (3, .int x3), (4, .int x4), (5, .int x5), (6, .int x6)] → f_L_areDrawersSo_L15 n v x1 x2 x3 x4 x5 x6 = res → W p l e (headSpec wsL_areDrawersSo ({ frames := 5, cells := 0, slots := 0, locals := 132 } : Room)).room s m ([.ref (a 21)] : List Value).toArray below meth c H locs 0 0 (MQ below (va_Qi (fun r (u : DV) => f_L_areDrawersSo n0 v0 = some (r, u)) (fun u t => atW G (xcoreC G.2 a u) A t) A) ([.ref (a 21)] : List Value).toArray s 0 0 A) (F0 m 15 ls []) := by
    intro n
    induction n with
    | zero => intro v x1 x2 x3 x4 x5 x6 H locs ls hP hD hS hl hf; exact (none_1 hf hne).elim
    | succ n ih =>
      intro v x1 x2 x3 x4 x5 x6 H locs ls hP hD hS hl hf
      rw [f_L_areDrawersSo_L15] at hf
      refine lv_iload hx hb dL_areDrawersSo_15 (lv_at hl 6 rfl) ?_
      refine lv_bipush (v := 6) hx hb dL_areDrawersSo_17 (by decide) ?_
      refine lv_icmp_ge (tgt := 264) hx hb dL_areDrawersSo_19 (by decide) (fun c => ?_) (fun c => ?_)
      · have hf := it_1 hf c
        refine lv_iload hx hb dL_areDrawersSo_264 (lv_at hl 5 rfl) ?_
        refine lv_if_eq (tgt := 402) hx hb dL_areDrawersSo_266 (by decide) (fun c => ?_) (fun c => ?_)
        · have hf := it_1 hf c
          refine lv_iconst (v := 0) hx hb dL_areDrawersSo_402 (by decide) ?_
          exact W.zret (ty := .boolean) (v := 0) hx hb hr rfl (fun t ht hW => ⟨⟨0, v, rfl, hf0.trans hf.symm, by rw [ht]; exact hP, hD⟩, hS.F ht⟩) hS.2.2 dL_areDrawersSo_403
        · have hf := it_2 hf c
          refine lv_iload_n hx hb dL_areDrawersSo_269 rfl (lv_at hl 1 rfl) ?_
          refine lv_aload_n hx hb dL_areDrawersSo_270 rfl (lv_at hl 0 rfl) ?_
          refine lv_iconst (v := 3) hx hb dL_areDrawersSo_271 (by decide) ?_
          have hn := bd1_1 hf hne
          refine vp_callSi (W.runV (As := [.int 3]) (rest := [.int x1]) ⟨hx, hb, hml, hown, hts⟩ (ok_X6_count l G a n v 3 hn) (cwV 1 hts gL_areDrawersSo_X6_count rfl rfl rfl (by decide +kernel) ⟨Nat.le_of_ble_eq_true rfl, Nat.le_of_ble_eq_true rfl⟩) ⟨pcR_blind, va_recv hK hP (ci := 6) (q0 := 0) rfl rfl, pcR_pre hP hamb⟩ rfl rfl hl.1 rfl (lv_room (Nat.le_of_ble_eq_true rfl)) dL_areDrawersSo_272 ⟨Nat.le_of_ble_eq_true rfl, Nat.le_of_ble_eq_true rfl⟩) (fun r272 hw => ?_)
          have hf := bd1_2 hf hw
          refine lv_icmp_ne (tgt := 402) hx hb dL_areDrawersSo_275 (by decide) (fun c => ?_) (fun c => ?_)
          · have hf := it_2 hf c
            refine lv_iconst (v := 0) hx hb dL_areDrawersSo_402 (by decide) ?_
            exact W.zret (ty := .boolean) (v := 0) hx hb hr rfl (fun t ht hW => ⟨⟨0, v, rfl, hf0.trans hf.symm, by rw [ht]; exact hP, hD⟩, hS.F ht⟩) hS.2.2 dL_areDrawersSo_403
          · have hf := it_1 hf c
            refine lv_iload_n hx hb dL_areDrawersSo_278 rfl (lv_at hl 2 rfl) ?_
            refine lv_aload_n hx hb dL_areDrawersSo_279 rfl (lv_at hl 0 rfl) ?_
            refine lv_iconst (v := 4) hx hb dL_areDrawersSo_280 (by decide) ?_
            have hn := bd1_1 hf hne
            refine vp_callSi (W.runV (As := [.int 4]) (rest := [.int x2]) ⟨hx, hb, hml, hown, hts⟩ (ok_X6_count l G a n v 4 hn) (cwV 1 hts gL_areDrawersSo_X6_count rfl rfl rfl (by decide +kernel) ⟨Nat.le_of_ble_eq_true rfl, Nat.le_of_ble_eq_true rfl⟩) ⟨pcR_blind, va_recv hK hP (ci := 6) (q0 := 0) rfl rfl, pcR_pre hP hamb⟩ rfl rfl hl.1 rfl (lv_room (Nat.le_of_ble_eq_true rfl)) dL_areDrawersSo_281 ⟨Nat.le_of_ble_eq_true rfl, Nat.le_of_ble_eq_true rfl⟩) (fun r281 hw => ?_)
            have hf := bd1_2 hf hw
            refine lv_icmp_ne (tgt := 402) hx hb dL_areDrawersSo_284 (by decide) (fun c => ?_) (fun c => ?_)
            · have hf := it_2 hf c
              refine lv_iconst (v := 0) hx hb dL_areDrawersSo_402 (by decide) ?_
              exact W.zret (ty := .boolean) (v := 0) hx hb hr rfl (fun t ht hW => ⟨⟨0, v, rfl, hf0.trans hf.symm, by rw [ht]; exact hP, hD⟩, hS.F ht⟩) hS.2.2 dL_areDrawersSo_403
            · have hf := it_1 hf c
              refine lv_iload_n hx hb dL_areDrawersSo_287 rfl (lv_at hl 3 rfl) ?_
              refine lv_aload_n hx hb dL_areDrawersSo_288 rfl (lv_at hl 0 rfl) ?_
              refine lv_iconst (v := 5) hx hb dL_areDrawersSo_289 (by decide) ?_
              have hn := bd1_1 hf hne
              refine vp_callSi (W.runV (As := [.int 5]) (rest := [.int x3]) ⟨hx, hb, hml, hown, hts⟩ (ok_X6_count l G a n v 5 hn) (cwV 1 hts gL_areDrawersSo_X6_count rfl rfl rfl (by decide +kernel) ⟨Nat.le_of_ble_eq_true rfl, Nat.le_of_ble_eq_true rfl⟩) ⟨pcR_blind, va_recv hK hP (ci := 6) (q0 := 0) rfl rfl, pcR_pre hP hamb⟩ rfl rfl hl.1 rfl (lv_room (Nat.le_of_ble_eq_true rfl)) dL_areDrawersSo_290 ⟨Nat.le_of_ble_eq_true rfl, Nat.le_of_ble_eq_true rfl⟩) (fun r290 hw => ?_)
              have hf := bd1_2 hf hw
              refine lv_icmp_ne (tgt := 402) hx hb dL_areDrawersSo_293 (by decide) (fun c => ?_) (fun c => ?_)
              · have hf := it_2 hf c
                refine lv_iconst (v := 0) hx hb dL_areDrawersSo_402 (by decide) ?_
                exact W.zret (ty := .boolean) (v := 0) hx hb hr rfl (fun t ht hW => ⟨⟨0, v, rfl, hf0.trans hf.symm, by rw [ht]; exact hP, hD⟩, hS.F ht⟩) hS.2.2 dL_areDrawersSo_403
              · have hf := it_1 hf c
                refine lv_iload hx hb dL_areDrawersSo_296 (lv_at hl 4 rfl) ?_
                refine lv_aload_n hx hb dL_areDrawersSo_298 rfl (lv_at hl 0 rfl) ?_
                refine lv_bipush (v := 6) hx hb dL_areDrawersSo_299 (by decide) ?_
                have hn := bd1_1 hf hne
                refine vp_callSi (W.runV (As := [.int 6]) (rest := [.int x4]) ⟨hx, hb, hml, hown, hts⟩ (ok_X6_count l G a n v 6 hn) (cwV 1 hts gL_areDrawersSo_X6_count rfl rfl rfl (by decide +kernel) ⟨Nat.le_of_ble_eq_true rfl, Nat.le_of_ble_eq_true rfl⟩) ⟨pcR_blind, va_recv hK hP (ci := 6) (q0 := 0) rfl rfl, pcR_pre hP hamb⟩ rfl rfl hl.1 rfl (lv_room (Nat.le_of_ble_eq_true rfl)) dL_areDrawersSo_301 ⟨Nat.le_of_ble_eq_true rfl, Nat.le_of_ble_eq_true rfl⟩) (fun r301 hw => ?_)
                have hf := bd1_2 hf hw
                refine lv_icmp_ne (tgt := 402) hx hb dL_areDrawersSo_304 (by decide) (fun c => ?_) (fun c => ?_)
                · have hf := it_2 hf c
                  refine lv_iconst (v := 0) hx hb dL_areDrawersSo_402 (by decide) ?_
                  exact W.zret (ty := .boolean) (v := 0) hx hb hr rfl (fun t ht hW => ⟨⟨0, v, rfl, hf0.trans hf.symm, by rw [ht]; exact hP, hD⟩, hS.F ht⟩) hS.2.2 dL_areDrawersSo_403
                · have hf := it_1 hf c
                  refine lv_iload_n hx hb dL_areDrawersSo_307 rfl (lv_at hl 1 rfl) ?_
                  refine lv_iload_n hx hb dL_areDrawersSo_308 rfl (lv_at hl 2 rfl) ?_
                  refine lv_iadd hx hb dL_areDrawersSo_309 ?_
                  refine lv_iload_n hx hb dL_areDrawersSo_310 rfl (lv_at hl 3 rfl) ?_
                  refine lv_iadd hx hb dL_areDrawersSo_311 ?_
                  refine lv_aload_n hx hb dL_areDrawersSo_312 rfl (lv_at hl 0 rfl) ?_
                  refine lv_iconst (v := 2) hx hb dL_areDrawersSo_313 (by decide) ?_
                  have hn := bd1_1 hf hne
                  refine vp_callSi (W.runV (As := [.int 2]) (rest := [.int ((x1 + x2) + x3)]) ⟨hx, hb, hml, hown, hts⟩ (ok_X6_count l G a n v 2 hn) (cwV 1 hts gL_areDrawersSo_X6_count rfl rfl rfl (by decide +kernel) ⟨Nat.le_of_ble_eq_true rfl, Nat.le_of_ble_eq_true rfl⟩) ⟨pcR_blind, va_recv hK hP (ci := 6) (q0 := 0) rfl rfl, pcR_pre hP hamb⟩ rfl rfl hl.1 rfl (lv_room (Nat.le_of_ble_eq_true rfl)) dL_areDrawersSo_314 ⟨Nat.le_of_ble_eq_true rfl, Nat.le_of_ble_eq_true rfl⟩) (fun r314 hw => ?_)
                  have hf := bd1_2 hf hw
                  refine lv_icmp_ne (tgt := 402) hx hb dL_areDrawersSo_317 (by decide) (fun c => ?_) (fun c => ?_)
                  · have hf := it_2 hf c
                    refine lv_iconst (v := 0) hx hb dL_areDrawersSo_402 (by decide) ?_
                    exact W.zret (ty := .boolean) (v := 0) hx hb hr rfl (fun t ht hW => ⟨⟨0, v, rfl, hf0.trans hf.symm, by rw [ht]; exact hP, hD⟩, hS.F ht⟩) hS.2.2 dL_areDrawersSo_403
                  · have hf := it_1 hf c
                    refine lv_aload_n hx hb dL_areDrawersSo_320 rfl (lv_at hl 0 rfl) ?_
                    refine lv_iconst (v := 0) hx hb dL_areDrawersSo_321 (by decide) ?_
                    have hn := bd1_1 hf hne
                    refine vp_callSl (W.runV (As := [.int 0]) (rest := []) ⟨hx, hb, hml, hown, hts⟩ (ok_X6_letters l G a n v 0 hn) (cwV 1 hts gL_areDrawersSo_X6_letters rfl rfl rfl (by decide +kernel) ⟨Nat.le_of_ble_eq_true rfl, Nat.le_of_ble_eq_true rfl⟩) ⟨pcR_blind, va_recv hK hP (ci := 6) (q0 := 0) rfl rfl, pcR_pre hP hamb⟩ rfl rfl hl.1 rfl (lv_room (Nat.le_of_ble_eq_true rfl)) dL_areDrawersSo_322 ⟨Nat.le_of_ble_eq_true rfl, Nat.le_of_ble_eq_true rfl⟩) (fun r322 hw => ?_)
                    have hf := bd1_2 hf hw
                    refine lv_aload_n hx hb dL_areDrawersSo_325 rfl (lv_at hl 0 rfl) ?_
                    refine lv_iconst (v := 1) hx hb dL_areDrawersSo_326 (by decide) ?_
                    have hn := bd1_1 hf hne
                    refine vp_callSl (W.runV (As := [.int 1]) (rest := [.long r322]) ⟨hx, hb, hml, hown, hts⟩ (ok_X6_letters l G a n v 1 hn) (cwV 1 hts gL_areDrawersSo_X6_letters rfl rfl rfl (by decide +kernel) ⟨Nat.le_of_ble_eq_true rfl, Nat.le_of_ble_eq_true rfl⟩) ⟨pcR_blind, va_recv hK hP (ci := 6) (q0 := 0) rfl rfl, pcR_pre hP hamb⟩ rfl rfl hl.1 rfl (lv_room (Nat.le_of_ble_eq_true rfl)) dL_areDrawersSo_327 ⟨Nat.le_of_ble_eq_true rfl, Nat.le_of_ble_eq_true rfl⟩) (fun r327 hw => ?_)
                    have hf := bd1_2 hf hw
                    refine lv_land hx hb dL_areDrawersSo_330 ?_
                    refine lv_lconst (v := 0) hx hb dL_areDrawersSo_331 (by decide) ?_
                    refine W.lcmp hx hb dL_areDrawersSo_332 ?_
                    refine lv_if_ne (tgt := 402) hx hb dL_areDrawersSo_333 (by decide) (fun c => ?_) (fun c => ?_)
                    · have hf := it_2 hf c
                      refine lv_iconst (v := 0) hx hb dL_areDrawersSo_402 (by decide) ?_
                      exact W.zret (ty := .boolean) (v := 0) hx hb hr rfl (fun t ht hW => ⟨⟨0, v, rfl, hf0.trans hf.symm, by rw [ht]; exact hP, hD⟩, hS.F ht⟩) hS.2.2 dL_areDrawersSo_403
                    · have hf := it_1 hf c
                      refine lv_aload_n hx hb dL_areDrawersSo_336 rfl (lv_at hl 0 rfl) ?_
                      refine lv_iconst (v := 0) hx hb dL_areDrawersSo_337 (by decide) ?_
                      have hn := bd1_1 hf hne
                      refine vp_callSl (W.runV (As := [.int 0]) (rest := []) ⟨hx, hb, hml, hown, hts⟩ (ok_X6_letters l G a n v 0 hn) (cwV 1 hts gL_areDrawersSo_X6_letters rfl rfl rfl (by decide +kernel) ⟨Nat.le_of_ble_eq_true rfl, Nat.le_of_ble_eq_true rfl⟩) ⟨pcR_blind, va_recv hK hP (ci := 6) (q0 := 0) rfl rfl, pcR_pre hP hamb⟩ rfl rfl hl.1 rfl (lv_room (Nat.le_of_ble_eq_true rfl)) dL_areDrawersSo_338 ⟨Nat.le_of_ble_eq_true rfl, Nat.le_of_ble_eq_true rfl⟩) (fun r338 hw => ?_)
                      have hf := bd1_2 hf hw
                      refine lv_aload_n hx hb dL_areDrawersSo_341 rfl (lv_at hl 0 rfl) ?_
                      refine lv_iconst (v := 1) hx hb dL_areDrawersSo_342 (by decide) ?_
                      have hn := bd1_1 hf hne
                      refine vp_callSl (W.runV (As := [.int 1]) (rest := [.long r338]) ⟨hx, hb, hml, hown, hts⟩ (ok_X6_letters l G a n v 1 hn) (cwV 1 hts gL_areDrawersSo_X6_letters rfl rfl rfl (by decide +kernel) ⟨Nat.le_of_ble_eq_true rfl, Nat.le_of_ble_eq_true rfl⟩) ⟨pcR_blind, va_recv hK hP (ci := 6) (q0 := 0) rfl rfl, pcR_pre hP hamb⟩ rfl rfl hl.1 rfl (lv_room (Nat.le_of_ble_eq_true rfl)) dL_areDrawersSo_343 ⟨Nat.le_of_ble_eq_true rfl, Nat.le_of_ble_eq_true rfl⟩) (fun r343 hw => ?_)
                      have hf := bd1_2 hf hw
                      refine lv_lor hx hb dL_areDrawersSo_346 ?_
                      refine lv_aload_n hx hb dL_areDrawersSo_347 rfl (lv_at hl 0 rfl) ?_
                      refine lv_iconst (v := 2) hx hb dL_areDrawersSo_348 (by decide) ?_
                      have hn := bd1_1 hf hne
                      refine vp_callSl (W.runV (As := [.int 2]) (rest := [.long (r338 ||| r343)]) ⟨hx, hb, hml, hown, hts⟩ (ok_X6_letters l G a n v 2 hn) (cwV 1 hts gL_areDrawersSo_X6_letters rfl rfl rfl (by decide +kernel) ⟨Nat.le_of_ble_eq_true rfl, Nat.le_of_ble_eq_true rfl⟩) ⟨pcR_blind, va_recv hK hP (ci := 6) (q0 := 0) rfl rfl, pcR_pre hP hamb⟩ rfl rfl hl.1 rfl (lv_room (Nat.le_of_ble_eq_true rfl)) dL_areDrawersSo_349 ⟨Nat.le_of_ble_eq_true rfl, Nat.le_of_ble_eq_true rfl⟩) (fun r349 hw => ?_)
                      have hf := bd1_2 hf hw
                      refine lv_lor hx hb dL_areDrawersSo_352 ?_
                      refine lv_lconst (v := 1) hx hb dL_areDrawersSo_353 (by decide) ?_
                      refine lv_aload_n hx hb dL_areDrawersSo_354 rfl (lv_at hl 0 rfl) ?_
                      refine lv_iconst (v := 2) hx hb dL_areDrawersSo_355 (by decide) ?_
                      have hn := bd1_1 hf hne
                      refine vp_callSi (W.runV (As := [.int 2]) (rest := [.long 1, .long ((r338 ||| r343) ||| r349)]) ⟨hx, hb, hml, hown, hts⟩ (ok_X6_count l G a n v 2 hn) (cwV 1 hts gL_areDrawersSo_X6_count rfl rfl rfl (by decide +kernel) ⟨Nat.le_of_ble_eq_true rfl, Nat.le_of_ble_eq_true rfl⟩) ⟨pcR_blind, va_recv hK hP (ci := 6) (q0 := 0) rfl rfl, pcR_pre hP hamb⟩ rfl rfl hl.1 rfl (lv_room (Nat.le_of_ble_eq_true rfl)) dL_areDrawersSo_356 ⟨Nat.le_of_ble_eq_true rfl, Nat.le_of_ble_eq_true rfl⟩) (fun r356 hw => ?_)
                      have hf := bd1_2 hf hw
                      refine lv_lshl hx hb dL_areDrawersSo_359 rfl ?_
                      refine lv_lconst (v := 1) hx hb dL_areDrawersSo_360 (by decide) ?_
                      refine lv_lsub hx hb dL_areDrawersSo_361 ?_
                      refine W.lcmp hx hb dL_areDrawersSo_362 ?_
                      refine lv_if_ne (tgt := 402) hx hb dL_areDrawersSo_363 (by decide) (fun c => ?_) (fun c => ?_)
                      · have hf := it_2 hf c
                        refine lv_iconst (v := 0) hx hb dL_areDrawersSo_402 (by decide) ?_
                        exact W.zret (ty := .boolean) (v := 0) hx hb hr rfl (fun t ht hW => ⟨⟨0, v, rfl, hf0.trans hf.symm, by rw [ht]; exact hP, hD⟩, hS.F ht⟩) hS.2.2 dL_areDrawersSo_403
                      · have hf := it_1 hf c
                        refine lv_aload_n hx hb dL_areDrawersSo_366 rfl (lv_at hl 0 rfl) ?_
                        have hn := bd1_1 hf hne
                        refine vp_callSi (W.runV (As := []) (rest := []) ⟨hx, hb, hml, hown, hts⟩ (ok_X6_share l G a n v hn) (cwV 0 hts gL_areDrawersSo_X6_share rfl rfl rfl (by decide +kernel) ⟨Nat.le_of_ble_eq_true rfl, Nat.le_of_ble_eq_true rfl⟩) ⟨pcR_blind, va_recv hK hP (ci := 6) (q0 := 0) rfl rfl, pcR_pre hP hamb⟩ rfl rfl hl.1 rfl (lv_room (Nat.le_of_ble_eq_true rfl)) dL_areDrawersSo_367 ⟨Nat.le_of_ble_eq_true rfl, Nat.le_of_ble_eq_true rfl⟩) (fun r367 hw => ?_)
                        have hf := bd1_2 hf hw
                        refine lv_if_ne (tgt := 377) hx hb dL_areDrawersSo_370 (by decide) (fun c => ?_) (fun c => ?_)
                        · have hf := it_2 hf c
                          refine lv_iconst (v := 0) hx hb dL_areDrawersSo_377 (by decide) ?_
                          exact J378 n v x2 0 H locs ls hP hD hS (lv_sub hl [0, 2] rfl) hf
                        · have hf := it_1 hf c
                          refine lv_iconst (v := 1) hx hb dL_areDrawersSo_373 (by decide) ?_
                          refine lv_goto (tgt := 378) hx hb dL_areDrawersSo_374 (by decide) ?_
                          exact J378 n v x2 1 H locs ls hP hD hS (lv_sub hl [0, 2] rfl) hf
      · have hf := it_2 hf c
        refine lv_iconst (v := 0) hx hb dL_areDrawersSo_22 (by decide) ?_
        refine lv_istore (lv' := [(7, .int 0), (0, .ref (a 21)), (1, .int x1), (2, .int x2), (3, .int x3), (4, .int x4), (5, .int x5), (6, .int x6)]) hx hb dL_areDrawersSo_23 hl (by decide) rfl (fun ls hl => ?_)
        refine lv_iconst (v := 0) hx hb dL_areDrawersSo_25 (by decide) ?_
        refine lv_istore (lv' := [(8, .int 0), (7, .int 0), (0, .ref (a 21)), (1, .int x1), (2, .int x2), (3, .int x3), (4, .int x4), (5, .int x5), (6, .int x6)]) hx hb dL_areDrawersSo_26 hl (by decide) rfl (fun ls hl => ?_)
        refine lv_iconst (v := 0) hx hb dL_areDrawersSo_28 (by decide) ?_
        refine lv_istore (lv' := [(9, .int 0), (8, .int 0), (7, .int 0), (0, .ref (a 21)), (1, .int x1), (2, .int x2), (3, .int x3), (4, .int x4), (5, .int x5), (6, .int x6)]) hx hb dL_areDrawersSo_29 hl (by decide) rfl (fun ls hl => ?_)
        exact L31 (fun v x1 x2 x3 x4 x5 x6 => f_L_areDrawersSo_L15 n v x1 x2 x3 x4 x5 x6) ih n v x1 x2 x3 x4 x5 x6 0 0 0 H locs ls hP hD hS (lv_sub hl [3, 4, 5, 6, 7, 8, 9, 2, 1, 0] rfl) hf
  refine lv_iconst (v := 0) hx hb dL_areDrawersSo_0 (by decide) ?_
  refine lv_istore_n (lv' := [(1, .int 0), (0, .ref (a 21))]) hx hb dL_areDrawersSo_1 rfl hl (by decide) rfl (fun ls hl => ?_)
  refine lv_iconst (v := 0) hx hb dL_areDrawersSo_2 (by decide) ?_
  refine lv_istore_n (lv' := [(2, .int 0), (1, .int 0), (0, .ref (a 21))]) hx hb dL_areDrawersSo_3 rfl hl (by decide) rfl (fun ls hl => ?_)
  refine lv_iconst (v := 0) hx hb dL_areDrawersSo_4 (by decide) ?_
  refine lv_istore_n (lv' := [(3, .int 0), (2, .int 0), (1, .int 0), (0, .ref (a 21))]) hx hb dL_areDrawersSo_5 rfl hl (by decide) rfl (fun ls hl => ?_)
  refine lv_iconst (v := 0) hx hb dL_areDrawersSo_6 (by decide) ?_
  refine lv_istore (lv' := [(4, .int 0), (3, .int 0), (2, .int 0), (1, .int 0), (0, .ref (a 21))]) hx hb dL_areDrawersSo_7 hl (by decide) rfl (fun ls hl => ?_)
  refine lv_iconst (v := 1) hx hb dL_areDrawersSo_9 (by decide) ?_
  refine lv_istore (lv' := [(5, .int 1), (4, .int 0), (3, .int 0), (2, .int 0), (1, .int 0), (0, .ref (a 21))]) hx hb dL_areDrawersSo_10 hl (by decide) rfl (fun ls hl => ?_)
  refine lv_iconst (v := 0) hx hb dL_areDrawersSo_12 (by decide) ?_
  refine lv_istore (lv' := [(6, .int 0), (5, .int 1), (4, .int 0), (3, .int 0), (2, .int 0), (1, .int 0), (0, .ref (a 21))]) hx hb dL_areDrawersSo_13 hl (by decide) rfl (fun ls hl => ?_)
  exact L15 n0 v0 0 0 0 0 1 0 s.heap [] ls hP hD hS (lv_sub hl [6, 5, 4, 3, 2, 1, 0] rfl) hf
set_option maxHeartbeats 4000000 in
set_option maxRecDepth 100000 in
theorem ok_L_isRegretSo (l : Launch) (G : Gt) (a : Nat → Nat) (sz : Nat) (n0 : Nat) (v0 : DV) (p1 : Int32) (p2 : Int32) (hne : f_L_isRegretSo n0 v0 p1 p2 ≠ none) : Met l yL_isRegretSo wsL_isRegretSo ({ frames := 5, cells := 0, slots := 0, locals := 133 } : Room) (pcW G [.ref (a 21), .int p1, .int p2] (xcoreC G.2 a v0) sz) (va_Qi (fun r (u : DV) => f_L_isRegretSo n0 v0 p1 p2 = some (r, u)) (fun u t => atW G (xcoreC G.2 a u) (va_A (xcoreC G.2 a v0) sz) t) (va_A (xcoreC G.2 a v0) sz)) 0 0 (va_A (xcoreC G.2 a v0) sz) := by
  refine Met.ofW (cc := cL_isRegretSo) (maxL := 7) (ret := (some .boolean)) (by decide) rfl ?_
  intro p e s m args below meth c s₁ B hml hv
  obtain ⟨rfl, hsz, hP, hD0, hamb⟩ := hv
  have hx := B.exec
  have hb := B.bytes
  have hr := B.returns
  have hts := atoms_spec (ws := wsL_isRegretSo) B.pre
  have hown : s.vm.findClass RL = some m.cls := findClass_of_methodNamed B.named
  have hlocks := B.notSynchronized
  have hK := hamb.1
  subst hsz
  have hD := hD0.self (sz := s.heap.size)
  generalize hAe : va_A (xcoreC G.2 a v0) s.heap.size = A at hD ⊢
  have hA : ∀ q : Nat, s.heap.size ≤ q → A q := fun q h => by rw [← hAe]; exact Or.inr h
  have hS : va_S A s.heap s.heap [] := va_S.rf
  obtain ⟨res, hf0⟩ : ∃ res, f_L_isRegretSo n0 v0 p1 p2 = res := ⟨_, rfl⟩
  have hne : res ≠ none := hf0 ▸ hne
  have hf := hf0
  rw [f_L_isRegretSo] at hf
  have hl := lv_entry ([.ref (a 21), .int p1, .int p2]) (n := 7) (Nat.le_of_ble_eq_true rfl)
  rw [lg_entry_eq]
  generalize (lg_sl ([.ref (a 21), .int p1, .int p2]) ++ List.replicate (7 - (lg_sl ([.ref (a 21), .int p1, .int p2])).length) Slot.unset).toArray = ls at hl ⊢
  have hl : lv_has ls 7 [(0, .ref (a 21)), (1, .int p1), (2, .int p2)] := hl
  have J159 : ∀ (n : Nat) (v : DV) (x3 : Int32) (x5 : Int32) (H : Heap) (locs : List Loc) (ls : Array Slot), va_P G.1 vwCl (xcoreC G.2 a v) H → va_D A (xcoreC G.2 a v) → va_S A s.heap H locs → lv_has ls 7 [(3, .int x3), (5, .int x5)] → f_L_isRegretSo_J159 n v x3 x5 = res → W p l e (headSpec wsL_isRegretSo ({ frames := 5, cells := 0, slots := 0, locals := 133 } : Room)).room s m ([.ref (a 21), .int p1, .int p2] : List Value).toArray below meth c H locs 0 0 (MQ below (va_Qi (fun r (u : DV) => f_L_isRegretSo n0 v0 p1 p2 = some (r, u)) (fun u t => atW G (xcoreC G.2 a u) A t) A) ([.ref (a 21), .int p1, .int p2] : List Value).toArray s 0 0 A) (F0 m 159 ls []) := by
    intro n v x3 x5 H locs ls hP hD hS hl hf
    rw [f_L_isRegretSo_J159] at hf
    refine lv_iload hx hb dL_isRegretSo_159 (lv_at hl 1 rfl) ?_
    refine lv_if_eq (tgt := 174) hx hb dL_isRegretSo_161 (by decide) (fun c => ?_) (fun c => ?_)
    · have hf := it_1 hf c
      refine lv_iconst (v := 0) hx hb dL_isRegretSo_174 (by decide) ?_
      exact W.zret (ty := .boolean) (v := 0) hx hb hr rfl (fun t ht hW => ⟨⟨0, v, rfl, hf0.trans hf.symm, by rw [ht]; exact hP, hD⟩, hS.F ht⟩) hS.2.2 dL_isRegretSo_175
    · have hf := it_2 hf c
      refine lv_iload_n hx hb dL_isRegretSo_164 rfl (lv_at hl 0 rfl) ?_
      refine lv_bipush (v := (-5)) hx hb dL_isRegretSo_165 (by decide) ?_
      refine lv_icmp_ne (tgt := 174) hx hb dL_isRegretSo_167 (by decide) (fun c => ?_) (fun c => ?_)
      · have hf := it_2 hf c
        refine lv_iconst (v := 0) hx hb dL_isRegretSo_174 (by decide) ?_
        exact W.zret (ty := .boolean) (v := 0) hx hb hr rfl (fun t ht hW => ⟨⟨0, v, rfl, hf0.trans hf.symm, by rw [ht]; exact hP, hD⟩, hS.F ht⟩) hS.2.2 dL_isRegretSo_175
      · have hf := it_1 hf c
        refine lv_iconst (v := 1) hx hb dL_isRegretSo_170 (by decide) ?_
        refine lv_goto (tgt := 175) hx hb dL_isRegretSo_171 (by decide) ?_
        exact W.zret (ty := .boolean) (v := 1) hx hb hr rfl (fun t ht hW => ⟨⟨1, v, rfl, hf0.trans hf.symm, by rw [ht]; exact hP, hD⟩, hS.F ht⟩) hS.2.2 dL_isRegretSo_175
  have J140 : ∀ (n : Nat) (v : DV) (x1 : Int32) (x2 : Int32) (x3 : Int32) (x5 : Int32) (H : Heap) (locs : List Loc) (ls : Array Slot), va_P G.1 vwCl (xcoreC G.2 a v) H → va_D A (xcoreC G.2 a v) → va_S A s.heap H locs → lv_has ls 7 [(0, .ref (a 21)), (1, .int x1), (2, .int x2), (3, .int x3), (5, .int x5)] → f_L_isRegretSo_J140 n v x1 x2 x3 x5 = res → W p l e (headSpec wsL_isRegretSo ({ frames := 5, cells := 0, slots := 0, locals := 133 } : Room)).room s m ([.ref (a 21), .int p1, .int p2] : List Value).toArray below meth c H locs 0 0 (MQ below (va_Qi (fun r (u : DV) => f_L_isRegretSo n0 v0 p1 p2 = some (r, u)) (fun u t => atW G (xcoreC G.2 a u) A t) A) ([.ref (a 21), .int p1, .int p2] : List Value).toArray s 0 0 A) (F0 m 140 ls []) := by
    intro n v x1 x2 x3 x5 H locs ls hP hD hS hl hf
    rw [f_L_isRegretSo_J140] at hf
    refine lv_aload_n hx hb dL_isRegretSo_140 rfl (lv_at hl 0 rfl) ?_
    refine lv_iload_n hx hb dL_isRegretSo_141 rfl (lv_at hl 1 rfl) ?_
    refine lv_iconst (v := 4) hx hb dL_isRegretSo_142 (by decide) ?_
    have hn := bd2_1 hf hne
    refine cwiP (wr := []) (w1 := fun u : DV => xcoreC G.2 a u) (ws1 := fun u : DV => xcoreC G.2 a u) (va_runV (As := [.int x1, .int 4]) (rest := []) ⟨hx, hb, hml, hown, hts⟩ (ok_X6_ofLetter l G a H.size n v x1 4 hn) (cwV 2 hts gL_isRegretSo_X6_ofLetter rfl rfl rfl (by decide +kernel) ⟨Nat.le_of_ble_eq_true rfl, Nat.le_of_ble_eq_true rfl⟩) ⟨pcW_blind, va_recv hK hP (ci := 6) (q0 := 0) rfl rfl, pcW_pre hP hD hamb⟩ rfl rfl hl.1 rfl (lv_room (Nat.le_of_ble_eq_true rfl)) dL_isRegretSo_143 ⟨Nat.le_of_ble_eq_true rfl, Nat.le_of_ble_eq_true rfl⟩) hP hD hS hA (pnl _) (fun _ => pnr _) (fun r143 v143 H locs hw hP hD hS => ?_)
    have hf := bd2_2 hf hw
    have hP : va_P G.1 vwCl (xcoreC G.2 a v143) H := hP
    have hD : va_D A (xcoreC G.2 a v143) := hD
    refine lv_iconst (v := 1) hx hb dL_isRegretSo_146 (by decide) ?_
    refine lv_icmp_ne (tgt := 159) hx hb dL_isRegretSo_147 (by decide) (fun c => ?_) (fun c => ?_)
    · have hf := it_2 hf c
      exact J159 n v143 x3 x5 H locs ls hP hD hS (lv_sub hl [3, 4] rfl) hf
    · have hf := it_1 hf c
      refine lv_aload_n hx hb dL_isRegretSo_150 rfl (lv_at hl 0 rfl) ?_
      refine lv_iload_n hx hb dL_isRegretSo_151 rfl (lv_at hl 2 rfl) ?_
      refine lv_iconst (v := 4) hx hb dL_isRegretSo_152 (by decide) ?_
      have hn := bd2_1 hf hne
      refine cwiP (wr := []) (w1 := fun u : DV => xcoreC G.2 a u) (ws1 := fun u : DV => xcoreC G.2 a u) (va_runV (As := [.int x2, .int 4]) (rest := []) ⟨hx, hb, hml, hown, hts⟩ (ok_X6_ofLetter l G a H.size n v143 x2 4 hn) (cwV 2 hts gL_isRegretSo_X6_ofLetter rfl rfl rfl (by decide +kernel) ⟨Nat.le_of_ble_eq_true rfl, Nat.le_of_ble_eq_true rfl⟩) ⟨pcW_blind, va_recv hK hP (ci := 6) (q0 := 0) rfl rfl, pcW_pre hP hD hamb⟩ rfl rfl hl.1 rfl (lv_room (Nat.le_of_ble_eq_true rfl)) dL_isRegretSo_153 ⟨Nat.le_of_ble_eq_true rfl, Nat.le_of_ble_eq_true rfl⟩) hP hD hS hA (pnl _) (fun _ => pnr _) (fun r153 v153 H locs hw hP hD hS => ?_)
      have hf := bd2_2 hf hw
      have hP : va_P G.1 vwCl (xcoreC G.2 a v153) H := hP
      have hD : va_D A (xcoreC G.2 a v153) := hD
      refine lv_if_eq (tgt := 176) hx hb dL_isRegretSo_156 (by decide) (fun c => ?_) (fun c => ?_)
      · have hf := it_1 hf c
        refine lv_aload_n hx hb dL_isRegretSo_176 rfl (lv_at hl 0 rfl) ?_
        refine lv_iload_n hx hb dL_isRegretSo_177 rfl (lv_at hl 1 rfl) ?_
        refine lv_bipush (v := 7) hx hb dL_isRegretSo_178 (by decide) ?_
        have hn := bd2_1 hf hne
        refine cwiP (wr := []) (w1 := fun u : DV => xcoreC G.2 a u) (ws1 := fun u : DV => xcoreC G.2 a u) (va_runV (As := [.int x1, .int 7]) (rest := []) ⟨hx, hb, hml, hown, hts⟩ (ok_X6_ofLetter l G a H.size n v153 x1 7 hn) (cwV 2 hts gL_isRegretSo_X6_ofLetter rfl rfl rfl (by decide +kernel) ⟨Nat.le_of_ble_eq_true rfl, Nat.le_of_ble_eq_true rfl⟩) ⟨pcW_blind, va_recv hK hP (ci := 6) (q0 := 0) rfl rfl, pcW_pre hP hD hamb⟩ rfl rfl hl.1 rfl (lv_room (Nat.le_of_ble_eq_true rfl)) dL_isRegretSo_180 ⟨Nat.le_of_ble_eq_true rfl, Nat.le_of_ble_eq_true rfl⟩) hP hD hS hA (pnl _) (fun _ => pnr _) (fun r180 v180 H locs hw hP hD hS => ?_)
        have hf := bd2_2 hf hw
        have hP : va_P G.1 vwCl (xcoreC G.2 a v180) H := hP
        have hD : va_D A (xcoreC G.2 a v180) := hD
        refine lv_istore (lv' := [(6, .int r180), (0, .ref (a 21)), (1, .int x1), (2, .int x2), (3, .int x3), (5, .int x5)]) hx hb dL_isRegretSo_183 hl (by decide) rfl (fun ls hl => ?_)
        refine lv_iload hx hb dL_isRegretSo_185 (lv_at hl 5 rfl) ?_
        refine lv_if_eq (tgt := 230) hx hb dL_isRegretSo_187 (by decide) (fun c => ?_) (fun c => ?_)
        · have hf := it_1 hf c
          refine lv_iconst (v := 0) hx hb dL_isRegretSo_230 (by decide) ?_
          exact W.zret (ty := .boolean) (v := 0) hx hb hr rfl (fun t ht hW => ⟨⟨0, v180, rfl, hf0.trans hf.symm, by rw [ht]; exact hP, hD⟩, hS.F ht⟩) hS.2.2 dL_isRegretSo_231
        · have hf := it_2 hf c
          refine lv_iload_n hx hb dL_isRegretSo_190 rfl (lv_at hl 4 rfl) ?_
          refine lv_iload hx hb dL_isRegretSo_191 (lv_at hl 0 rfl) ?_
          refine lv_icmp_lt (tgt := 230) hx hb dL_isRegretSo_193 (by decide) (fun c => ?_) (fun c => ?_)
          · have hf := it_1 hf c
            refine lv_iconst (v := 0) hx hb dL_isRegretSo_230 (by decide) ?_
            exact W.zret (ty := .boolean) (v := 0) hx hb hr rfl (fun t ht hW => ⟨⟨0, v180, rfl, hf0.trans hf.symm, by rw [ht]; exact hP, hD⟩, hS.F ht⟩) hS.2.2 dL_isRegretSo_231
          · have hf := it_2 hf c
            refine lv_aload_n hx hb dL_isRegretSo_196 rfl (lv_at hl 1 rfl) ?_
            refine lv_iload_n hx hb dL_isRegretSo_197 rfl (lv_at hl 3 rfl) ?_
            refine lv_bipush (v := 6) hx hb dL_isRegretSo_198 (by decide) ?_
            have hn := bd2_1 hf hne
            refine cwiP (wr := []) (w1 := fun u : DV => xcoreC G.2 a u) (ws1 := fun u : DV => xcoreC G.2 a u) (va_runV (As := [.int x2, .int 6]) (rest := []) ⟨hx, hb, hml, hown, hts⟩ (ok_X6_ofLetter l G a H.size n v180 x2 6 hn) (cwV 2 hts gL_isRegretSo_X6_ofLetter rfl rfl rfl (by decide +kernel) ⟨Nat.le_of_ble_eq_true rfl, Nat.le_of_ble_eq_true rfl⟩) ⟨pcW_blind, va_recv hK hP (ci := 6) (q0 := 0) rfl rfl, pcW_pre hP hD hamb⟩ rfl rfl hl.1 rfl (lv_room (Nat.le_of_ble_eq_true rfl)) dL_isRegretSo_200 ⟨Nat.le_of_ble_eq_true rfl, Nat.le_of_ble_eq_true rfl⟩) hP hD hS hA (pnl _) (fun _ => pnr _) (fun r200 v200 H locs hw hP hD hS => ?_)
            have hf := bd2_2 hf hw
            have hP : va_P G.1 vwCl (xcoreC G.2 a v200) H := hP
            have hD : va_D A (xcoreC G.2 a v200) := hD
            refine lv_iload_n hx hb dL_isRegretSo_203 rfl (lv_at hl 2 rfl) ?_
            refine lv_icmp_ne (tgt := 226) hx hb dL_isRegretSo_204 (by decide) (fun c => ?_) (fun c => ?_)
            · have hf := it_2 hf c
              refine lv_iconst (v := 1) hx hb dL_isRegretSo_226 (by decide) ?_
              refine lv_goto (tgt := 231) hx hb dL_isRegretSo_227 (by decide) ?_
              exact W.zret (ty := .boolean) (v := 1) hx hb hr rfl (fun t ht hW => ⟨⟨1, v200, rfl, hf0.trans hf.symm, by rw [ht]; exact hP, hD⟩, hS.F ht⟩) hS.2.2 dL_isRegretSo_231
            · have hf := it_1 hf c
              refine lv_iload_n hx hb dL_isRegretSo_207 rfl (lv_at hl 4 rfl) ?_
              refine lv_aload_n hx hb dL_isRegretSo_208 rfl (lv_at hl 1 rfl) ?_
              refine lv_iload_n hx hb dL_isRegretSo_209 rfl (lv_at hl 2 rfl) ?_
              refine lv_iconst (v := 2) hx hb dL_isRegretSo_210 (by decide) ?_
              have hn := bd2_1 hf hne
              refine cwiP (wr := []) (w1 := fun u : DV => xcoreC G.2 a u) (ws1 := fun u : DV => xcoreC G.2 a u) (va_runV (As := [.int x1, .int 2]) (rest := [.int x3]) ⟨hx, hb, hml, hown, hts⟩ (ok_X6_ofLetter l G a H.size n v200 x1 2 hn) (cwV 2 hts gL_isRegretSo_X6_ofLetter rfl rfl rfl (by decide +kernel) ⟨Nat.le_of_ble_eq_true rfl, Nat.le_of_ble_eq_true rfl⟩) ⟨pcW_blind, va_recv hK hP (ci := 6) (q0 := 0) rfl rfl, pcW_pre hP hD hamb⟩ rfl rfl hl.1 rfl (lv_room (Nat.le_of_ble_eq_true rfl)) dL_isRegretSo_211 ⟨Nat.le_of_ble_eq_true rfl, Nat.le_of_ble_eq_true rfl⟩) hP hD hS hA (pnl _) (fun _ => pnr _) (fun r211 v211 H locs hw hP hD hS => ?_)
              have hf := bd2_2 hf hw
              have hP : va_P G.1 vwCl (xcoreC G.2 a v211) H := hP
              have hD : va_D A (xcoreC G.2 a v211) := hD
              refine lv_aload_n hx hb dL_isRegretSo_214 rfl (lv_at hl 1 rfl) ?_
              refine lv_iload_n hx hb dL_isRegretSo_215 rfl (lv_at hl 3 rfl) ?_
              refine lv_iconst (v := 2) hx hb dL_isRegretSo_216 (by decide) ?_
              have hn := bd2_1 hf hne
              refine cwiP (wr := []) (w1 := fun u : DV => xcoreC G.2 a u) (ws1 := fun u : DV => xcoreC G.2 a u) (va_runV (As := [.int x2, .int 2]) (rest := [.int r211, .int x3]) ⟨hx, hb, hml, hown, hts⟩ (ok_X6_ofLetter l G a H.size n v211 x2 2 hn) (cwV 2 hts gL_isRegretSo_X6_ofLetter rfl rfl rfl (by decide +kernel) ⟨Nat.le_of_ble_eq_true rfl, Nat.le_of_ble_eq_true rfl⟩) ⟨pcW_blind, va_recv hK hP (ci := 6) (q0 := 0) rfl rfl, pcW_pre hP hD hamb⟩ rfl rfl hl.1 rfl (lv_room (Nat.le_of_ble_eq_true rfl)) dL_isRegretSo_217 ⟨Nat.le_of_ble_eq_true rfl, Nat.le_of_ble_eq_true rfl⟩) hP hD hS hA (pnl _) (fun _ => pnr _) (fun r217 v217 H locs hw hP hD hS => ?_)
              have hf := bd2_2 hf hw
              have hP : va_P G.1 vwCl (xcoreC G.2 a v217) H := hP
              have hD : va_D A (xcoreC G.2 a v217) := hD
              refine lv_iconst (v := 2) hx hb dL_isRegretSo_220 (by decide) ?_
              refine lv_idiv hx hb dL_isRegretSo_221 (by decide) ?_
              refine lv_iadd hx hb dL_isRegretSo_222 ?_
              refine lv_icmp_lt (tgt := 230) hx hb dL_isRegretSo_223 (by decide) (fun c => ?_) (fun c => ?_)
              · have hf := it_1 hf c
                refine lv_iconst (v := 0) hx hb dL_isRegretSo_230 (by decide) ?_
                exact W.zret (ty := .boolean) (v := 0) hx hb hr rfl (fun t ht hW => ⟨⟨0, v217, rfl, hf0.trans hf.symm, by rw [ht]; exact hP, hD⟩, hS.F ht⟩) hS.2.2 dL_isRegretSo_231
              · have hf := it_2 hf c
                refine lv_iconst (v := 1) hx hb dL_isRegretSo_226 (by decide) ?_
                refine lv_goto (tgt := 231) hx hb dL_isRegretSo_227 (by decide) ?_
                exact W.zret (ty := .boolean) (v := 1) hx hb hr rfl (fun t ht hW => ⟨⟨1, v217, rfl, hf0.trans hf.symm, by rw [ht]; exact hP, hD⟩, hS.F ht⟩) hS.2.2 dL_isRegretSo_231
      · have hf := it_2 hf c
        exact J159 n v153 x3 x5 H locs ls hP hD hS (lv_sub hl [3, 4] rfl) hf
  have L51 : ∀ (n : Nat) (v : DV) (x1 : Int32) (x2 : Int32) (x3 : Int32) (x4 : Int32) (x5 : Int32) (x6 : Int32) (H : Heap) (locs : List Loc) (ls : Array Slot), va_P G.1 vwCl (xcoreC G.2 a v) H → va_D A (xcoreC G.2 a v) → va_S A s.heap H locs → lv_has ls 7 [(0, .ref (a 21)), (1, .int x1), (2, .int x2), (3, .int x3), (4, .int x4), (5, .int x5), (6, .int x6)] → f_L_isRegretSo_L51 n v x1 x2 x3 x4 x5 x6 = res → W p l e (headSpec wsL_isRegretSo ({ frames := 5, cells := 0, slots := 0, locals := 133 } : Room)).room s m ([.ref (a 21), .int p1, .int p2] : List Value).toArray below meth c H locs 0 0 (MQ below (va_Qi (fun r (u : DV) => f_L_isRegretSo n0 v0 p1 p2 = some (r, u)) (fun u t => atW G (xcoreC G.2 a u) A t) A) ([.ref (a 21), .int p1, .int p2] : List Value).toArray s 0 0 A) (F0 m 51 ls []) := by
    intro n
    induction n with
    | zero => intro v x1 x2 x3 x4 x5 x6 H locs ls hP hD hS hl hf; exact (none_1 hf hne).elim
    | succ n ih =>
      intro v x1 x2 x3 x4 x5 x6 H locs ls hP hD hS hl hf
      rw [f_L_isRegretSo_L51] at hf
      refine lv_iload hx hb dL_isRegretSo_51 (lv_at hl 6 rfl) ?_
      refine lv_aload_n hx hb dL_isRegretSo_53 rfl (lv_at hl 0 rfl) ?_
      refine lv_iconst (v := 2) hx hb dL_isRegretSo_54 (by decide) ?_
      have hn := bd1_1 hf hne
      refine vp_callSi (W.runV (As := [.int 2]) (rest := [.int x6]) ⟨hx, hb, hml, hown, hts⟩ (ok_X6_count l G a n v 2 hn) (cwV 1 hts gL_isRegretSo_X6_count rfl rfl rfl (by decide +kernel) ⟨Nat.le_of_ble_eq_true rfl, Nat.le_of_ble_eq_true rfl⟩) ⟨pcR_blind, va_recv hK hP (ci := 6) (q0 := 0) rfl rfl, pcR_pre hP hamb⟩ rfl rfl hl.1 rfl (lv_room (Nat.le_of_ble_eq_true rfl)) dL_isRegretSo_55 ⟨Nat.le_of_ble_eq_true rfl, Nat.le_of_ble_eq_true rfl⟩) (fun r55 hw => ?_)
      have hf := bd1_2 hf hw
      refine lv_icmp_ge (tgt := 140) hx hb dL_isRegretSo_58 (by decide) (fun c => ?_) (fun c => ?_)
      · have hf := it_1 hf c
        exact J140 n v x1 x2 x3 x5 H locs ls hP hD hS (lv_sub hl [0, 1, 2, 3, 5] rfl) hf
      · have hf := it_2 hf c
        refine lv_iload hx hb dL_isRegretSo_61 (lv_at hl 4 rfl) ?_
        refine lv_if_lt (tgt := 140) hx hb dL_isRegretSo_63 (by decide) (fun c => ?_) (fun c => ?_)
        · have hf := it_1 hf c
          exact J140 n v x1 x2 x3 x5 H locs ls hP hD hS (lv_sub hl [0, 1, 2, 3, 5] rfl) hf
        · have hf := it_2 hf c
          refine lv_iload hx hb dL_isRegretSo_66 (lv_at hl 5 rfl) ?_
          refine lv_if_eq (tgt := 131) hx hb dL_isRegretSo_68 (by decide) (fun c => ?_) (fun c => ?_)
          · have hf := it_1 hf c
            refine lv_iconst (v := 0) hx hb dL_isRegretSo_131 (by decide) ?_
            refine lv_istore (lv' := [(5, .int 0), (0, .ref (a 21)), (1, .int x1), (2, .int x2), (3, .int x3), (4, .int x4), (6, .int x6)]) hx hb dL_isRegretSo_132 hl (by decide) rfl (fun ls hl => ?_)
            refine lv_iinc (v := (x6 + 1)) (lv' := [(6, .int (x6 + 1)), (5, .int 0), (0, .ref (a 21)), (1, .int x1), (2, .int x2), (3, .int x3), (4, .int x4)]) hx hb dL_isRegretSo_134 hl (k := 6) rfl rfl (by decide) rfl (fun ls hl => ?_)
            refine lv_goto (tgt := 51) hx hb dL_isRegretSo_137 (by decide) ?_
            exact ih v x1 x2 x3 x4 0 (x6 + 1) H locs ls hP hD hS (lv_sub hl [2, 3, 4, 5, 6, 1, 0] rfl) hf
          · have hf := it_2 hf c
            refine lv_aload_n hx hb dL_isRegretSo_71 rfl (lv_at hl 0 rfl) ?_
            refine lv_iload hx hb dL_isRegretSo_72 (lv_at hl 6 rfl) ?_
            refine lv_bipush (v := 7) hx hb dL_isRegretSo_74 (by decide) ?_
            have hn := bd2_1 hf hne
            refine cwiP (wr := []) (w1 := fun u : DV => xcoreC G.2 a u) (ws1 := fun u : DV => xcoreC G.2 a u) (va_runV (As := [.int x6, .int 7]) (rest := []) ⟨hx, hb, hml, hown, hts⟩ (ok_X6_ofLetter l G a H.size n v x6 7 hn) (cwV 2 hts gL_isRegretSo_X6_ofLetter rfl rfl rfl (by decide +kernel) ⟨Nat.le_of_ble_eq_true rfl, Nat.le_of_ble_eq_true rfl⟩) ⟨pcW_blind, va_recv hK hP (ci := 6) (q0 := 0) rfl rfl, pcW_pre hP hD hamb⟩ rfl rfl hl.1 rfl (lv_room (Nat.le_of_ble_eq_true rfl)) dL_isRegretSo_76 ⟨Nat.le_of_ble_eq_true rfl, Nat.le_of_ble_eq_true rfl⟩) hP hD hS hA (pnl _) (fun _ => pnr _) (fun r76 v76 H locs hw hP hD hS => ?_)
            have hf := bd2_2 hf hw
            have hP : va_P G.1 vwCl (xcoreC G.2 a v76) H := hP
            have hD : va_D A (xcoreC G.2 a v76) := hD
            refine lv_aload_n hx hb dL_isRegretSo_79 rfl (lv_at hl 0 rfl) ?_
            refine lv_iload hx hb dL_isRegretSo_80 (lv_at hl 4 rfl) ?_
            refine lv_bipush (v := 7) hx hb dL_isRegretSo_82 (by decide) ?_
            have hn := bd2_1 hf hne
            refine cwiP (wr := []) (w1 := fun u : DV => xcoreC G.2 a u) (ws1 := fun u : DV => xcoreC G.2 a u) (va_runV (As := [.int x4, .int 7]) (rest := [.int r76]) ⟨hx, hb, hml, hown, hts⟩ (ok_X6_ofLetter l G a H.size n v76 x4 7 hn) (cwV 2 hts gL_isRegretSo_X6_ofLetter rfl rfl rfl (by decide +kernel) ⟨Nat.le_of_ble_eq_true rfl, Nat.le_of_ble_eq_true rfl⟩) ⟨pcW_blind, va_recv hK hP (ci := 6) (q0 := 0) rfl rfl, pcW_pre hP hD hamb⟩ rfl rfl hl.1 rfl (lv_room (Nat.le_of_ble_eq_true rfl)) dL_isRegretSo_84 ⟨Nat.le_of_ble_eq_true rfl, Nat.le_of_ble_eq_true rfl⟩) hP hD hS hA (pnl _) (fun _ => pnr _) (fun r84 v84 H locs hw hP hD hS => ?_)
            have hf := bd2_2 hf hw
            have hP : va_P G.1 vwCl (xcoreC G.2 a v84) H := hP
            have hD : va_D A (xcoreC G.2 a v84) := hD
            refine lv_icmp_lt (tgt := 127) hx hb dL_isRegretSo_87 (by decide) (fun c => ?_) (fun c => ?_)
            · have hf := it_1 hf c
              refine lv_iconst (v := 1) hx hb dL_isRegretSo_127 (by decide) ?_
              refine lv_goto (tgt := 132) hx hb dL_isRegretSo_128 (by decide) ?_
              refine lv_istore (lv' := [(5, .int 1), (0, .ref (a 21)), (1, .int x1), (2, .int x2), (3, .int x3), (4, .int x4), (6, .int x6)]) hx hb dL_isRegretSo_132 hl (by decide) rfl (fun ls hl => ?_)
              refine lv_iinc (v := (x6 + 1)) (lv' := [(6, .int (x6 + 1)), (5, .int 1), (0, .ref (a 21)), (1, .int x1), (2, .int x2), (3, .int x3), (4, .int x4)]) hx hb dL_isRegretSo_134 hl (k := 6) rfl rfl (by decide) rfl (fun ls hl => ?_)
              refine lv_goto (tgt := 51) hx hb dL_isRegretSo_137 (by decide) ?_
              exact ih v84 x1 x2 x3 x4 1 (x6 + 1) H locs ls hP hD hS (lv_sub hl [2, 3, 4, 5, 6, 1, 0] rfl) hf
            · have hf := it_2 hf c
              refine lv_aload_n hx hb dL_isRegretSo_90 rfl (lv_at hl 0 rfl) ?_
              refine lv_iload hx hb dL_isRegretSo_91 (lv_at hl 6 rfl) ?_
              refine lv_bipush (v := 7) hx hb dL_isRegretSo_93 (by decide) ?_
              have hn := bd2_1 hf hne
              refine cwiP (wr := []) (w1 := fun u : DV => xcoreC G.2 a u) (ws1 := fun u : DV => xcoreC G.2 a u) (va_runV (As := [.int x6, .int 7]) (rest := []) ⟨hx, hb, hml, hown, hts⟩ (ok_X6_ofLetter l G a H.size n v84 x6 7 hn) (cwV 2 hts gL_isRegretSo_X6_ofLetter rfl rfl rfl (by decide +kernel) ⟨Nat.le_of_ble_eq_true rfl, Nat.le_of_ble_eq_true rfl⟩) ⟨pcW_blind, va_recv hK hP (ci := 6) (q0 := 0) rfl rfl, pcW_pre hP hD hamb⟩ rfl rfl hl.1 rfl (lv_room (Nat.le_of_ble_eq_true rfl)) dL_isRegretSo_95 ⟨Nat.le_of_ble_eq_true rfl, Nat.le_of_ble_eq_true rfl⟩) hP hD hS hA (pnl _) (fun _ => pnr _) (fun r95 v95 H locs hw hP hD hS => ?_)
              have hf := bd2_2 hf hw
              have hP : va_P G.1 vwCl (xcoreC G.2 a v95) H := hP
              have hD : va_D A (xcoreC G.2 a v95) := hD
              refine lv_aload_n hx hb dL_isRegretSo_98 rfl (lv_at hl 0 rfl) ?_
              refine lv_iload hx hb dL_isRegretSo_99 (lv_at hl 4 rfl) ?_
              refine lv_bipush (v := 7) hx hb dL_isRegretSo_101 (by decide) ?_
              have hn := bd2_1 hf hne
              refine cwiP (wr := []) (w1 := fun u : DV => xcoreC G.2 a u) (ws1 := fun u : DV => xcoreC G.2 a u) (va_runV (As := [.int x4, .int 7]) (rest := [.int r95]) ⟨hx, hb, hml, hown, hts⟩ (ok_X6_ofLetter l G a H.size n v95 x4 7 hn) (cwV 2 hts gL_isRegretSo_X6_ofLetter rfl rfl rfl (by decide +kernel) ⟨Nat.le_of_ble_eq_true rfl, Nat.le_of_ble_eq_true rfl⟩) ⟨pcW_blind, va_recv hK hP (ci := 6) (q0 := 0) rfl rfl, pcW_pre hP hD hamb⟩ rfl rfl hl.1 rfl (lv_room (Nat.le_of_ble_eq_true rfl)) dL_isRegretSo_103 ⟨Nat.le_of_ble_eq_true rfl, Nat.le_of_ble_eq_true rfl⟩) hP hD hS hA (pnl _) (fun _ => pnr _) (fun r103 v103 H locs hw hP hD hS => ?_)
              have hf := bd2_2 hf hw
              have hP : va_P G.1 vwCl (xcoreC G.2 a v103) H := hP
              have hD : va_D A (xcoreC G.2 a v103) := hD
              refine lv_icmp_ne (tgt := 131) hx hb dL_isRegretSo_106 (by decide) (fun c => ?_) (fun c => ?_)
              · have hf := it_2 hf c
                refine lv_iconst (v := 0) hx hb dL_isRegretSo_131 (by decide) ?_
                refine lv_istore (lv' := [(5, .int 0), (0, .ref (a 21)), (1, .int x1), (2, .int x2), (3, .int x3), (4, .int x4), (6, .int x6)]) hx hb dL_isRegretSo_132 hl (by decide) rfl (fun ls hl => ?_)
                refine lv_iinc (v := (x6 + 1)) (lv' := [(6, .int (x6 + 1)), (5, .int 0), (0, .ref (a 21)), (1, .int x1), (2, .int x2), (3, .int x3), (4, .int x4)]) hx hb dL_isRegretSo_134 hl (k := 6) rfl rfl (by decide) rfl (fun ls hl => ?_)
                refine lv_goto (tgt := 51) hx hb dL_isRegretSo_137 (by decide) ?_
                exact ih v103 x1 x2 x3 x4 0 (x6 + 1) H locs ls hP hD hS (lv_sub hl [2, 3, 4, 5, 6, 1, 0] rfl) hf
              · have hf := it_1 hf c
                refine lv_iload hx hb dL_isRegretSo_109 (lv_at hl 6 rfl) ?_
                refine lv_iload hx hb dL_isRegretSo_111 (lv_at hl 4 rfl) ?_
                refine lv_icmp_ge (tgt := 127) hx hb dL_isRegretSo_113 (by decide) (fun c => ?_) (fun c => ?_)
                · have hf := it_1 hf c
                  refine lv_iconst (v := 1) hx hb dL_isRegretSo_127 (by decide) ?_
                  refine lv_goto (tgt := 132) hx hb dL_isRegretSo_128 (by decide) ?_
                  refine lv_istore (lv' := [(5, .int 1), (0, .ref (a 21)), (1, .int x1), (2, .int x2), (3, .int x3), (4, .int x4), (6, .int x6)]) hx hb dL_isRegretSo_132 hl (by decide) rfl (fun ls hl => ?_)
                  refine lv_iinc (v := (x6 + 1)) (lv' := [(6, .int (x6 + 1)), (5, .int 1), (0, .ref (a 21)), (1, .int x1), (2, .int x2), (3, .int x3), (4, .int x4)]) hx hb dL_isRegretSo_134 hl (k := 6) rfl rfl (by decide) rfl (fun ls hl => ?_)
                  refine lv_goto (tgt := 51) hx hb dL_isRegretSo_137 (by decide) ?_
                  exact ih v103 x1 x2 x3 x4 1 (x6 + 1) H locs ls hP hD hS (lv_sub hl [2, 3, 4, 5, 6, 1, 0] rfl) hf
                · have hf := it_2 hf c
                  refine lv_aload_n hx hb dL_isRegretSo_116 rfl (lv_at hl 0 rfl) ?_
                  refine lv_iload hx hb dL_isRegretSo_117 (lv_at hl 6 rfl) ?_
                  refine lv_iconst (v := 4) hx hb dL_isRegretSo_119 (by decide) ?_
                  have hn := bd2_1 hf hne
                  refine cwiP (wr := []) (w1 := fun u : DV => xcoreC G.2 a u) (ws1 := fun u : DV => xcoreC G.2 a u) (va_runV (As := [.int x6, .int 4]) (rest := []) ⟨hx, hb, hml, hown, hts⟩ (ok_X6_ofLetter l G a H.size n v103 x6 4 hn) (cwV 2 hts gL_isRegretSo_X6_ofLetter rfl rfl rfl (by decide +kernel) ⟨Nat.le_of_ble_eq_true rfl, Nat.le_of_ble_eq_true rfl⟩) ⟨pcW_blind, va_recv hK hP (ci := 6) (q0 := 0) rfl rfl, pcW_pre hP hD hamb⟩ rfl rfl hl.1 rfl (lv_room (Nat.le_of_ble_eq_true rfl)) dL_isRegretSo_120 ⟨Nat.le_of_ble_eq_true rfl, Nat.le_of_ble_eq_true rfl⟩) hP hD hS hA (pnl _) (fun _ => pnr _) (fun r120 v120 H locs hw hP hD hS => ?_)
                  have hf := bd2_2 hf hw
                  have hP : va_P G.1 vwCl (xcoreC G.2 a v120) H := hP
                  have hD : va_D A (xcoreC G.2 a v120) := hD
                  refine lv_iconst (v := 1) hx hb dL_isRegretSo_123 (by decide) ?_
                  refine lv_icmp_eq (tgt := 131) hx hb dL_isRegretSo_124 (by decide) (fun c => ?_) (fun c => ?_)
                  · have hf := it_1 hf c
                    refine lv_iconst (v := 0) hx hb dL_isRegretSo_131 (by decide) ?_
                    refine lv_istore (lv' := [(5, .int 0), (0, .ref (a 21)), (1, .int x1), (2, .int x2), (3, .int x3), (4, .int x4), (6, .int x6)]) hx hb dL_isRegretSo_132 hl (by decide) rfl (fun ls hl => ?_)
                    refine lv_iinc (v := (x6 + 1)) (lv' := [(6, .int (x6 + 1)), (5, .int 0), (0, .ref (a 21)), (1, .int x1), (2, .int x2), (3, .int x3), (4, .int x4)]) hx hb dL_isRegretSo_134 hl (k := 6) rfl rfl (by decide) rfl (fun ls hl => ?_)
                    refine lv_goto (tgt := 51) hx hb dL_isRegretSo_137 (by decide) ?_
                    exact ih v120 x1 x2 x3 x4 0 (x6 + 1) H locs ls hP hD hS (lv_sub hl [2, 3, 4, 5, 6, 1, 0] rfl) hf
                  · have hf := it_2 hf c
                    refine lv_iconst (v := 1) hx hb dL_isRegretSo_127 (by decide) ?_
                    refine lv_goto (tgt := 132) hx hb dL_isRegretSo_128 (by decide) ?_
                    refine lv_istore (lv' := [(5, .int 1), (0, .ref (a 21)), (1, .int x1), (2, .int x2), (3, .int x3), (4, .int x4), (6, .int x6)]) hx hb dL_isRegretSo_132 hl (by decide) rfl (fun ls hl => ?_)
                    refine lv_iinc (v := (x6 + 1)) (lv' := [(6, .int (x6 + 1)), (5, .int 1), (0, .ref (a 21)), (1, .int x1), (2, .int x2), (3, .int x3), (4, .int x4)]) hx hb dL_isRegretSo_134 hl (k := 6) rfl rfl (by decide) rfl (fun ls hl => ?_)
                    refine lv_goto (tgt := 51) hx hb dL_isRegretSo_137 (by decide) ?_
                    exact ih v120 x1 x2 x3 x4 1 (x6 + 1) H locs ls hP hD hS (lv_sub hl [2, 3, 4, 5, 6, 1, 0] rfl) hf
  have J25 : ∀ (n : Nat) (v : DV) (x1 : Int32) (x2 : Int32) (x3 : Int32) (x4 : Int32) (z0 : Int32) (H : Heap) (locs : List Loc) (ls : Array Slot), va_P G.1 vwCl (xcoreC G.2 a v) H → va_D A (xcoreC G.2 a v) → va_S A s.heap H locs → lv_has ls 7 [(0, .ref (a 21)), (1, .int x1), (2, .int x2), (3, .int x3), (4, .int x4)] → f_L_isRegretSo_J25 n v x1 x2 x3 x4 z0 = res → W p l e (headSpec wsL_isRegretSo ({ frames := 5, cells := 0, slots := 0, locals := 133 } : Room)).room s m ([.ref (a 21), .int p1, .int p2] : List Value).toArray below meth c H locs 0 0 (MQ below (va_Qi (fun r (u : DV) => f_L_isRegretSo n0 v0 p1 p2 = some (r, u)) (fun u t => atW G (xcoreC G.2 a u) A t) A) ([.ref (a 21), .int p1, .int p2] : List Value).toArray s 0 0 A) (F0 m 25 ls [.int z0]) := by
    intro n v x1 x2 x3 x4 z0 H locs ls hP hD hS hl hf
    rw [f_L_isRegretSo_J25] at hf
    refine lv_aload_n hx hb dL_isRegretSo_25 rfl (lv_at hl 0 rfl) ?_
    refine lv_iconst (v := 4) hx hb dL_isRegretSo_26 (by decide) ?_
    have hn := bd1_1 hf hne
    refine vp_callSi (W.runV (As := [.int 4]) (rest := [.int z0]) ⟨hx, hb, hml, hown, hts⟩ (ok_X6_count l G a n v 4 hn) (cwV 1 hts gL_isRegretSo_X6_count rfl rfl rfl (by decide +kernel) ⟨Nat.le_of_ble_eq_true rfl, Nat.le_of_ble_eq_true rfl⟩) ⟨pcR_blind, va_recv hK hP (ci := 6) (q0 := 0) rfl rfl, pcR_pre hP hamb⟩ rfl rfl hl.1 rfl (lv_room (Nat.le_of_ble_eq_true rfl)) dL_isRegretSo_27 ⟨Nat.le_of_ble_eq_true rfl, Nat.le_of_ble_eq_true rfl⟩) (fun r27 hw => ?_)
    have hf := bd1_2 hf hw
    refine lv_if_ne (tgt := 37) hx hb dL_isRegretSo_30 (by decide) (fun c => ?_) (fun c => ?_)
    · have hf := it_2 hf c
      refine lv_iconst (v := 0) hx hb dL_isRegretSo_37 (by decide) ?_
      refine lv_icmp_ne (tgt := 45) hx hb dL_isRegretSo_38 (by decide) (fun c => ?_) (fun c => ?_)
      · have hf := it_2 hf c
        refine lv_iconst (v := 0) hx hb dL_isRegretSo_45 (by decide) ?_
        refine lv_istore (lv' := [(5, .int 0), (0, .ref (a 21)), (1, .int x1), (2, .int x2), (3, .int x3), (4, .int x4)]) hx hb dL_isRegretSo_46 hl (by decide) rfl (fun ls hl => ?_)
        refine lv_iconst (v := 0) hx hb dL_isRegretSo_48 (by decide) ?_
        refine lv_istore (lv' := [(6, .int 0), (5, .int 0), (0, .ref (a 21)), (1, .int x1), (2, .int x2), (3, .int x3), (4, .int x4)]) hx hb dL_isRegretSo_49 hl (by decide) rfl (fun ls hl => ?_)
        exact L51 n v x1 x2 x3 x4 0 0 H locs ls hP hD hS (lv_sub hl [2, 3, 4, 5, 6, 1, 0] rfl) hf
      · have hf := it_1 hf c
        refine lv_iconst (v := 1) hx hb dL_isRegretSo_41 (by decide) ?_
        refine lv_goto (tgt := 46) hx hb dL_isRegretSo_42 (by decide) ?_
        refine lv_istore (lv' := [(5, .int 1), (0, .ref (a 21)), (1, .int x1), (2, .int x2), (3, .int x3), (4, .int x4)]) hx hb dL_isRegretSo_46 hl (by decide) rfl (fun ls hl => ?_)
        refine lv_iconst (v := 0) hx hb dL_isRegretSo_48 (by decide) ?_
        refine lv_istore (lv' := [(6, .int 0), (5, .int 1), (0, .ref (a 21)), (1, .int x1), (2, .int x2), (3, .int x3), (4, .int x4)]) hx hb dL_isRegretSo_49 hl (by decide) rfl (fun ls hl => ?_)
        exact L51 n v x1 x2 x3 x4 1 0 H locs ls hP hD hS (lv_sub hl [2, 3, 4, 5, 6, 1, 0] rfl) hf
    · have hf := it_1 hf c
      refine lv_iconst (v := 1) hx hb dL_isRegretSo_33 (by decide) ?_
      refine lv_goto (tgt := 38) hx hb dL_isRegretSo_34 (by decide) ?_
      refine lv_icmp_ne (tgt := 45) hx hb dL_isRegretSo_38 (by decide) (fun c => ?_) (fun c => ?_)
      · have hf := it_2 hf c
        refine lv_iconst (v := 0) hx hb dL_isRegretSo_45 (by decide) ?_
        refine lv_istore (lv' := [(5, .int 0), (0, .ref (a 21)), (1, .int x1), (2, .int x2), (3, .int x3), (4, .int x4)]) hx hb dL_isRegretSo_46 hl (by decide) rfl (fun ls hl => ?_)
        refine lv_iconst (v := 0) hx hb dL_isRegretSo_48 (by decide) ?_
        refine lv_istore (lv' := [(6, .int 0), (5, .int 0), (0, .ref (a 21)), (1, .int x1), (2, .int x2), (3, .int x3), (4, .int x4)]) hx hb dL_isRegretSo_49 hl (by decide) rfl (fun ls hl => ?_)
        exact L51 n v x1 x2 x3 x4 0 0 H locs ls hP hD hS (lv_sub hl [2, 3, 4, 5, 6, 1, 0] rfl) hf
      · have hf := it_1 hf c
        refine lv_iconst (v := 1) hx hb dL_isRegretSo_41 (by decide) ?_
        refine lv_goto (tgt := 46) hx hb dL_isRegretSo_42 (by decide) ?_
        refine lv_istore (lv' := [(5, .int 1), (0, .ref (a 21)), (1, .int x1), (2, .int x2), (3, .int x3), (4, .int x4)]) hx hb dL_isRegretSo_46 hl (by decide) rfl (fun ls hl => ?_)
        refine lv_iconst (v := 0) hx hb dL_isRegretSo_48 (by decide) ?_
        refine lv_istore (lv' := [(6, .int 0), (5, .int 1), (0, .ref (a 21)), (1, .int x1), (2, .int x2), (3, .int x3), (4, .int x4)]) hx hb dL_isRegretSo_49 hl (by decide) rfl (fun ls hl => ?_)
        exact L51 n v x1 x2 x3 x4 1 0 H locs ls hP hD hS (lv_sub hl [2, 3, 4, 5, 6, 1, 0] rfl) hf
  refine lv_aload_n hx hb dL_isRegretSo_0 rfl (lv_at hl 0 rfl) ?_
  refine lv_iload_n hx hb dL_isRegretSo_1 rfl (lv_at hl 1 rfl) ?_
  refine lv_iload_n hx hb dL_isRegretSo_2 rfl (lv_at hl 2 rfl) ?_
  have hn := bd2_1 hf hne
  refine cwiP (wr := []) (w1 := fun u : DV => xcoreC G.2 a u) (ws1 := fun u : DV => xcoreC G.2 a u) (va_runV (As := [.int p1, .int p2]) (rest := []) ⟨hx, hb, hml, hown, hts⟩ (ok_X6_ifSent l G a s.heap.size n0 v0 p1 p2 hn) (cwV 2 hts gL_isRegretSo_X6_ifSent rfl rfl rfl (by decide +kernel) ⟨Nat.le_of_ble_eq_true rfl, Nat.le_of_ble_eq_true rfl⟩) ⟨pcW_blind, va_recv hK hP (ci := 6) (q0 := 0) rfl rfl, pcW_pre hP hD hamb⟩ rfl rfl hl.1 rfl (lv_room (Nat.le_of_ble_eq_true rfl)) dL_isRegretSo_3 ⟨Nat.le_of_ble_eq_true rfl, Nat.le_of_ble_eq_true rfl⟩) hP hD hS hA (pnl _) (fun _ => pnr _) (fun r3 v3 H locs hw hP hD hS => ?_)
  have hf := bd2_2 hf hw
  have hP : va_P G.1 vwCl (xcoreC G.2 a v3) H := hP
  have hD : va_D A (xcoreC G.2 a v3) := hD
  refine lv_istore_n (lv' := [(3, .int r3), (0, .ref (a 21)), (1, .int p1), (2, .int p2)]) hx hb dL_isRegretSo_6 rfl hl (by decide) rfl (fun ls hl => ?_)
  refine lv_aload_n hx hb dL_isRegretSo_7 rfl (lv_at hl 1 rfl) ?_
  have hn := bd2_1 hf hne
  refine cwiP (wr := []) (w1 := fun u : DV => xcoreC G.2 a u) (ws1 := fun u : DV => xcoreC G.2 a u) (va_runV (As := []) (rest := []) ⟨hx, hb, hml, hown, hts⟩ (ok_X6_mostRegretted l G a H.size n0 v3 hn) (cwV 0 hts gL_isRegretSo_X6_mostRegretted rfl rfl rfl (by decide +kernel) ⟨Nat.le_of_ble_eq_true rfl, Nat.le_of_ble_eq_true rfl⟩) ⟨pcW_blind, va_recv hK hP (ci := 6) (q0 := 0) rfl rfl, pcW_pre hP hD hamb⟩ rfl rfl hl.1 rfl (lv_room (Nat.le_of_ble_eq_true rfl)) dL_isRegretSo_8 ⟨Nat.le_of_ble_eq_true rfl, Nat.le_of_ble_eq_true rfl⟩) hP hD hS hA (pnl _) (fun _ => pnr _) (fun r8 v8 H locs hw hP hD hS => ?_)
  have hf := bd2_2 hf hw
  have hP : va_P G.1 vwCl (xcoreC G.2 a v8) H := hP
  have hD : va_D A (xcoreC G.2 a v8) := hD
  refine lv_istore (lv' := [(4, .int r8), (3, .int r3), (0, .ref (a 21)), (1, .int p1), (2, .int p2)]) hx hb dL_isRegretSo_11 hl (by decide) rfl (fun ls hl => ?_)
  refine lv_iload hx hb dL_isRegretSo_13 (lv_at hl 0 rfl) ?_
  refine lv_bipush (v := (-6)) hx hb dL_isRegretSo_15 (by decide) ?_
  refine lv_icmp_ne (tgt := 24) hx hb dL_isRegretSo_17 (by decide) (fun c => ?_) (fun c => ?_)
  · have hf := it_2 hf c
    refine lv_iconst (v := 0) hx hb dL_isRegretSo_24 (by decide) ?_
    exact J25 n0 v8 p1 p2 r3 r8 0 H locs ls hP hD hS (lv_sub hl [2, 3, 4, 1, 0] rfl) hf
  · have hf := it_1 hf c
    refine lv_iconst (v := 1) hx hb dL_isRegretSo_20 (by decide) ?_
    refine lv_goto (tgt := 25) hx hb dL_isRegretSo_21 (by decide) ?_
    exact J25 n0 v8 p1 p2 r3 r8 1 H locs ls hP hD hS (lv_sub hl [2, 3, 4, 1, 0] rfl) hf
