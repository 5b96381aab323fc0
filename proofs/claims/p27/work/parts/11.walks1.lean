set_option maxHeartbeats 4000000 in
set_option maxRecDepth 100000 in
theorem ok_X1_turnKeysBy (l : Launch) (G : Gt) (a : Nat → Nat) (sz : Nat) (n0 : Nat) (v0 : DV) (p1 : Int32) (hne : f_X1_turnKeysBy n0 v0 p1 ≠ none) : Met l yX1_turnKeysBy wsX1_turnKeysBy ({ frames := 0, cells := 0, slots := 0, locals := 0 } : Room) (pcW G [.ref (a 2), .int p1] (drawersC G.2 a v0) sz) (va_Qv (fun (u : DV) => f_X1_turnKeysBy n0 v0 p1 = some u) (fun u t => atW G (drawersC G.2 a u) (va_A (drawersC G.2 a v0) sz) t) (va_A (drawersC G.2 a v0) sz)) 0 0 (va_A (drawersC G.2 a v0) sz) := by
  refine Met.ofW (cc := cX1_turnKeysBy) (maxL := 3) (ret := none) (by decide) rfl ?_
  intro p e s m args below meth c s₁ B hml hv
  obtain ⟨rfl, hsz, hP, hD0, hamb⟩ := hv
  have hx := B.exec
  have hb := B.bytes
  have hr := B.returns
  have hts := atoms_spec (ws := wsX1_turnKeysBy) B.pre
  have hown : s.vm.findClass RX1 = some m.cls := findClass_of_methodNamed B.named
  have hlocks := B.notSynchronized
  have hK := hamb.1
  subst hsz
  have hD := hD0.self (sz := s.heap.size)
  generalize hAe : va_A (drawersC G.2 a v0) s.heap.size = A at hD ⊢
  have hA : ∀ q : Nat, s.heap.size ≤ q → A q := fun q h => by rw [← hAe]; exact Or.inr h
  have hS : va_S A s.heap s.heap [] := va_S.rf
  obtain ⟨res, hf0⟩ : ∃ res, f_X1_turnKeysBy n0 v0 p1 = res := ⟨_, rfl⟩
  have hne : res ≠ none := hf0 ▸ hne
  have hf := hf0
  rw [f_X1_turnKeysBy] at hf
  have hinX1 : ∀ w ∈ u_ws RX1 TX1 4, w ∈ wsX1_turnKeysBy := by decide +kernel
  have lk18 := hts (.fieldLink RX1 18 "MoodDrawers$Drawers" "unlockHour" "[I") (by decide +kernel)
  have lk21 := hts (.fieldLink RX1 21 "MoodDrawers$Drawers" "lockHour" "[I") (by decide +kernel)
  have lk15 := hts (.fieldLink RX1 15 "MoodDrawers$Drawers" "locked" "[I") (by decide +kernel)
  have hl := lv_entry ([.ref (a 2), .int p1]) (n := 3) (Nat.le_of_ble_eq_true rfl)
  rw [lg_entry_eq]
  generalize (lg_sl ([.ref (a 2), .int p1]) ++ List.replicate (3 - (lg_sl ([.ref (a 2), .int p1])).length) Slot.unset).toArray = ls at hl ⊢
  have hl : lv_has ls 3 [(0, .ref (a 2)), (1, .int p1)] := hl
  have J25 : ∀ (k2 : DV → Int32 → Int32 → Option (DV)) (hk2 : ∀ (v : DV) (x1 : Int32) (x2 : Int32) (H : Heap) (locs : List Loc) (ls : Array Slot), va_P G.1 vwCl (drawersC G.2 a v) H → va_D A (drawersC G.2 a v) → va_S A s.heap H locs → lv_has ls 3 [(0, .ref (a 2)), (1, .int x1), (2, .int x2)] → k2 v x1 x2 = res → W p l e (headSpec wsX1_turnKeysBy ({ frames := 0, cells := 0, slots := 0, locals := 0 } : Room)).room s m ([.ref (a 2), .int p1] : List Value).toArray below meth c H locs 0 0 (MQ below (va_Qv (fun (u : DV) => f_X1_turnKeysBy n0 v0 p1 = some u) (fun u t => atW G (drawersC G.2 a u) A t) A) ([.ref (a 2), .int p1] : List Value).toArray s 0 0 A) (F0 m 2 ls [])) (n : Nat) (v : DV) (x1 : Int32) (x2 : Int32) (H : Heap) (locs : List Loc) (ls : Array Slot), va_P G.1 vwCl (drawersC G.2 a v) H → va_D A (drawersC G.2 a v) → va_S A s.heap H locs → lv_has ls 3 [(0, .ref (a 2)), (1, .int x1), (2, .int x2)] → f_X1_turnKeysBy_J25 k2 n v x1 x2 = res → W p l e (headSpec wsX1_turnKeysBy ({ frames := 0, cells := 0, slots := 0, locals := 0 } : Room)).room s m ([.ref (a 2), .int p1] : List Value).toArray below meth c H locs 0 0 (MQ below (va_Qv (fun (u : DV) => f_X1_turnKeysBy n0 v0 p1 = some u) (fun u t => atW G (drawersC G.2 a u) A t) A) ([.ref (a 2), .int p1] : List Value).toArray s 0 0 A) (F0 m 25 ls []) := by
    intro k2 hk2 n v x1 x2 H locs ls hP hD hS hl hf
    rw [f_X1_turnKeysBy_J25] at hf
    refine lv_aload_n hx hb dX1_turnKeysBy_25 rfl (lv_at hl 0 rfl) ?_
    refine va_get (D := G.1) (ci := 1) (v := .ref (a 6)) (C := RX1) (T := TX1) (N := 4) hx hb hts hinX1 hown hK hP 0 rfl rfl 3 (by decide) lk21 (fun _ h9 => h9) rfl dX1_turnKeysBy_26 ?_
    refine lv_iload_n hx hb dX1_turnKeysBy_29 rfl (lv_at hl 2 rfl) ?_
    obtain ⟨hi, hf⟩ := ck_1 hf hne
    refine va_iald (f := (v 6)) hx hb hK hP 4 0 rfl rfl (ixb_1 hi) dX1_turnKeysBy_30 ?_
    refine lv_iload_n hx hb dX1_turnKeysBy_31 rfl (lv_at hl 1 rfl) ?_
    refine lv_icmp_ne (tgt := 42) hx hb dX1_turnKeysBy_32 (by decide) (fun c => ?_) (fun c => ?_)
    · have hf := it_2 hf c
      refine lv_iinc (v := (x2 + 1)) (lv' := [(2, .int (x2 + 1)), (0, .ref (a 2)), (1, .int x1)]) hx hb dX1_turnKeysBy_42 hl (k := 2) rfl rfl (by decide) rfl (fun ls hl => ?_)
      refine lv_goto (tgt := 2) hx hb dX1_turnKeysBy_45 (by decide) ?_
      exact hk2 v x1 (x2 + 1) H locs ls hP hD hS (lv_sub hl [1, 2, 0] rfl) hf
    · have hf := it_1 hf c
      refine lv_aload_n hx hb dX1_turnKeysBy_35 rfl (lv_at hl 0 rfl) ?_
      refine va_get (D := G.1) (ci := 1) (v := .ref (a 4)) (C := RX1) (T := TX1) (N := 4) hx hb hts hinX1 hown hK hP 0 rfl rfl 1 (by decide) lk15 (fun _ h9 => h9) rfl dX1_turnKeysBy_36 ?_
      refine lv_iload_n hx hb dX1_turnKeysBy_39 rfl (lv_at hl 2 rfl) ?_
      refine lv_iconst (v := 1) hx hb dX1_turnKeysBy_40 (by decide) ?_
      obtain ⟨hi, hf⟩ := ck_1 hf hne
      refine va_iast (f := (v 4)) hx hb hK hP hD hS 2 0 rfl rfl (ixb_1 hi) dX1_turnKeysBy_41 (fun H locs hP hD hS => ?_)
      have hP : va_P G.1 vwCl (drawersC G.2 a (vs v 4 (upd (v 4) (Int32.toNatClampNeg x2) 1))) H := hP
      have hD : va_D A (drawersC G.2 a (vs v 4 (upd (v 4) (Int32.toNatClampNeg x2) 1))) := hD
      refine lv_iinc (v := (x2 + 1)) (lv' := [(2, .int (x2 + 1)), (0, .ref (a 2)), (1, .int x1)]) hx hb dX1_turnKeysBy_42 hl (k := 2) rfl rfl (by decide) rfl (fun ls hl => ?_)
      refine lv_goto (tgt := 2) hx hb dX1_turnKeysBy_45 (by decide) ?_
      exact hk2 (vs v 4 (upd (v 4) (Int32.toNatClampNeg x2) 1)) x1 (x2 + 1) H locs ls hP hD hS (lv_sub hl [1, 2, 0] rfl) hf
  have L2 : ∀ (n : Nat) (v : DV) (x1 : Int32) (x2 : Int32) (H : Heap) (locs : List Loc) (ls : Array Slot), va_P G.1 vwCl (drawersC G.2 a v) H → va_D A (drawersC G.2 a v) → va_S A s.heap H locs → lv_has ls 3 [(0, .ref (a 2)), (1, .int x1), (2, .int x2)] → f_X1_turnKeysBy_L2 n v x1 x2 = res → W p l e (headSpec wsX1_turnKeysBy ({ frames := 0, cells := 0, slots := 0, locals := 0 } : Room)).room s m ([.ref (a 2), .int p1] : List Value).toArray below meth c H locs 0 0 (MQ below (va_Qv (fun (u : DV) => f_X1_turnKeysBy n0 v0 p1 = some u) (fun u t => atW G (drawersC G.2 a u) A t) A) ([.ref (a 2), .int p1] : List Value).toArray s 0 0 A) (F0 m 2 ls []) := by
    intro n
    induction n with
    | zero => intro v x1 x2 H locs ls hP hD hS hl hf; exact (none_1 hf hne).elim
    | succ n ih =>
      intro v x1 x2 H locs ls hP hD hS hl hf
      rw [f_X1_turnKeysBy_L2] at hf
      refine lv_iload_n hx hb dX1_turnKeysBy_2 rfl (lv_at hl 2 rfl) ?_
      refine lv_bipush (v := 6) hx hb dX1_turnKeysBy_3 (by decide) ?_
      refine lv_icmp_ge (tgt := 48) hx hb dX1_turnKeysBy_5 (by decide) (fun c => ?_) (fun c => ?_)
      · have hf := it_1 hf c
        exact W.vret hx hb hr (fun t ht hW => ⟨⟨v, rfl, hf0.trans hf.symm, by rw [ht]; exact hP, hD⟩, hS.F ht⟩) hS.2.2 dX1_turnKeysBy_48
      · have hf := it_2 hf c
        refine lv_aload_n hx hb dX1_turnKeysBy_8 rfl (lv_at hl 0 rfl) ?_
        refine va_get (D := G.1) (ci := 1) (v := .ref (a 5)) (C := RX1) (T := TX1) (N := 4) hx hb hts hinX1 hown hK hP 0 rfl rfl 2 (by decide) lk18 (fun _ h9 => h9) rfl dX1_turnKeysBy_9 ?_
        refine lv_iload_n hx hb dX1_turnKeysBy_12 rfl (lv_at hl 2 rfl) ?_
        obtain ⟨hi, hf⟩ := ck_1 hf hne
        refine va_iald (f := (v 5)) hx hb hK hP 3 0 rfl rfl (ixb_1 hi) dX1_turnKeysBy_13 ?_
        refine lv_iload_n hx hb dX1_turnKeysBy_14 rfl (lv_at hl 1 rfl) ?_
        refine lv_icmp_ne (tgt := 25) hx hb dX1_turnKeysBy_15 (by decide) (fun c => ?_) (fun c => ?_)
        · have hf := it_2 hf c
          exact J25 (fun v x1 x2 => f_X1_turnKeysBy_L2 n v x1 x2) ih n v x1 x2 H locs ls hP hD hS (lv_sub hl [0, 1, 2] rfl) hf
        · have hf := it_1 hf c
          refine lv_aload_n hx hb dX1_turnKeysBy_18 rfl (lv_at hl 0 rfl) ?_
          refine va_get (D := G.1) (ci := 1) (v := .ref (a 4)) (C := RX1) (T := TX1) (N := 4) hx hb hts hinX1 hown hK hP 0 rfl rfl 1 (by decide) lk15 (fun _ h9 => h9) rfl dX1_turnKeysBy_19 ?_
          refine lv_iload_n hx hb dX1_turnKeysBy_22 rfl (lv_at hl 2 rfl) ?_
          refine lv_iconst (v := 0) hx hb dX1_turnKeysBy_23 (by decide) ?_
          obtain ⟨hi, hf⟩ := ck_1 hf hne
          refine va_iast (f := (v 4)) hx hb hK hP hD hS 2 0 rfl rfl (ixb_1 hi) dX1_turnKeysBy_24 (fun H locs hP hD hS => ?_)
          have hP : va_P G.1 vwCl (drawersC G.2 a (vs v 4 (upd (v 4) (Int32.toNatClampNeg x2) 0))) H := hP
          have hD : va_D A (drawersC G.2 a (vs v 4 (upd (v 4) (Int32.toNatClampNeg x2) 0))) := hD
          exact J25 (fun v x1 x2 => f_X1_turnKeysBy_L2 n v x1 x2) ih n (vs v 4 (upd (v 4) (Int32.toNatClampNeg x2) 0)) x1 x2 H locs ls hP hD hS (lv_sub hl [0, 1, 2] rfl) hf
  refine lv_iconst (v := 0) hx hb dX1_turnKeysBy_0 (by decide) ?_
  refine lv_istore_n (lv' := [(2, .int 0), (0, .ref (a 2)), (1, .int p1)]) hx hb dX1_turnKeysBy_1 rfl hl (by decide) rfl (fun ls hl => ?_)
  exact L2 n0 v0 p1 0 s.heap [] ls hP hD hS (lv_sub hl [1, 2, 0] rfl) hf
set_option maxHeartbeats 4000000 in
set_option maxRecDepth 100000 in
theorem ok_J9_floorMod_7cf53 (l : Launch) (p0 : Int32) (p1 : Int32) (hne : f_J9_floorMod_7cf53 p0 p1 ≠ none) : Met l yJ9_floorMod_7cf53 wsJ9_floorMod_7cf53 ({ frames := 0, cells := 0, slots := 0, locals := 0 } : Room) (va_Pc [.int p0, .int p1] (fun _ => True)) (vp_Si (fun r => f_J9_floorMod_7cf53 p0 p1 = some r)) 0 0 (fun _ => False) := by
  refine va_MetF (cc := cJ9_floorMod_7cf53) (maxL := 3) (ret := (some .int)) (by decide +kernel) rfl ?_
  intro p e s m args below meth c s₁ B hml hv
  obtain ⟨rfl, -⟩ := hv
  have hx := B.exec
  have hb := B.bytes
  have hr := B.returns
  have hts := atoms_spec (ws := wsJ9_floorMod_7cf53) B.pre
  have hown : s.vm.findClass RJ9 = some m.cls := findClass_of_methodNamed B.named
  have hlocks := B.notSynchronized
  obtain ⟨res, hf0⟩ : ∃ res, f_J9_floorMod_7cf53 p0 p1 = res := ⟨_, rfl⟩
  have hne : res ≠ none := hf0 ▸ hne
  have hf := hf0
  rw [f_J9_floorMod_7cf53] at hf
  have hl := lv_entry ([.int p0, .int p1]) (n := 3) (Nat.le_of_ble_eq_true rfl)
  rw [lg_entry_eq]
  generalize (lg_sl ([.int p0, .int p1]) ++ List.replicate (3 - (lg_sl ([.int p0, .int p1])).length) Slot.unset).toArray = ls at hl ⊢
  have hl : lv_has ls 3 [(0, .int p0), (1, .int p1)] := hl
  refine lv_iload_n hx hb dJ9_floorMod_7cf53_0 rfl (lv_at hl 0 rfl) ?_
  refine lv_iload_n hx hb dJ9_floorMod_7cf53_1 rfl (lv_at hl 1 rfl) ?_
  obtain ⟨hd, hf⟩ := ck_1 hf hne
  refine lv_irem hx hb dJ9_floorMod_7cf53_2 (of_decide_eq_true hd) ?_
  refine lv_istore_n (lv' := [(2, .int (p0 - p0 / p1 * p1)), (0, .int p0), (1, .int p1)]) hx hb dJ9_floorMod_7cf53_3 rfl hl (by decide) rfl (fun ls hl => ?_)
  refine lv_iload_n hx hb dJ9_floorMod_7cf53_4 rfl (lv_at hl 1 rfl) ?_
  refine lv_iload_n hx hb dJ9_floorMod_7cf53_5 rfl (lv_at hl 2 rfl) ?_
  refine lv_ixor hx hb dJ9_floorMod_7cf53_6 ?_
  refine lv_if_ge (tgt := 18) hx hb dJ9_floorMod_7cf53_7 (by decide) (fun c => ?_) (fun c => ?_)
  · have hf := it_1 hf c
    refine lv_iload_n hx hb dJ9_floorMod_7cf53_18 rfl (lv_at hl 0 rfl) ?_
    exact W.iret (v := (p0 - p0 / p1 * p1)) hx hb hr (fun t ht hW => ⟨(p0 - p0 / p1 * p1), rfl, hf0.trans hf.symm, ht⟩) (fun _ hq => absurd hq List.not_mem_nil) dJ9_floorMod_7cf53_19
  · have hf := it_2 hf c
    refine lv_iload_n hx hb dJ9_floorMod_7cf53_10 rfl (lv_at hl 0 rfl) ?_
    refine lv_if_eq (tgt := 18) hx hb dJ9_floorMod_7cf53_11 (by decide) (fun c => ?_) (fun c => ?_)
    · have hf := it_1 hf c
      refine lv_iload_n hx hb dJ9_floorMod_7cf53_18 rfl (lv_at hl 0 rfl) ?_
      exact W.iret (v := (p0 - p0 / p1 * p1)) hx hb hr (fun t ht hW => ⟨(p0 - p0 / p1 * p1), rfl, hf0.trans hf.symm, ht⟩) (fun _ hq => absurd hq List.not_mem_nil) dJ9_floorMod_7cf53_19
    · have hf := it_2 hf c
      refine lv_iload_n hx hb dJ9_floorMod_7cf53_14 rfl (lv_at hl 0 rfl) ?_
      refine lv_iload_n hx hb dJ9_floorMod_7cf53_15 rfl (lv_at hl 2 rfl) ?_
      refine lv_iadd hx hb dJ9_floorMod_7cf53_16 ?_
      exact W.iret (v := ((p0 - p0 / p1 * p1) + p1)) hx hb hr (fun t ht hW => ⟨((p0 - p0 / p1 * p1) + p1), rfl, hf0.trans hf.symm, ht⟩) (fun _ hq => absurd hq List.not_mem_nil) dJ9_floorMod_7cf53_17
set_option maxHeartbeats 4000000 in
set_option maxRecDepth 100000 in
theorem ok_X1_isLockedAt (l : Launch) (G : Gt) (a : Nat → Nat) (v0 : DV) (p1 : Int32) (p2 : Int32) (p3 : Int32) (hne : f_X1_isLockedAt v0 p1 p2 p3 ≠ none) : Met l yX1_isLockedAt wsX1_isLockedAt ({ frames := 1, cells := 0, slots := 0, locals := 40 } : Room) (pcR G [.ref (a 2), .int p1, .int p2, .int p3] (drawersC G.2 a v0)) (vp_Si (fun r => f_X1_isLockedAt v0 p1 p2 p3 = some r)) 0 0 (fun _ => False) := by
  refine Met.ofW (cc := cX1_isLockedAt) (maxL := 6) (ret := (some .boolean)) (by decide) rfl ?_
  intro p e s m args below meth c s₁ B hml hv
  obtain ⟨rfl, hP, hamb⟩ := hv
  have hx := B.exec
  have hb := B.bytes
  have hr := B.returns
  have hts := atoms_spec (ws := wsX1_isLockedAt) B.pre
  have hown : s.vm.findClass RX1 = some m.cls := findClass_of_methodNamed B.named
  have hlocks := B.notSynchronized
  have hK := hamb.1
  obtain ⟨res, hf0⟩ : ∃ res, f_X1_isLockedAt v0 p1 p2 p3 = res := ⟨_, rfl⟩
  have hne : res ≠ none := hf0 ▸ hne
  have hf := hf0
  rw [f_X1_isLockedAt] at hf
  have hinX1 : ∀ w ∈ u_ws RX1 TX1 4, w ∈ wsX1_isLockedAt := by decide +kernel
  have lk18 := hts (.fieldLink RX1 18 "MoodDrawers$Drawers" "unlockHour" "[I") (by decide +kernel)
  have lk21 := hts (.fieldLink RX1 21 "MoodDrawers$Drawers" "lockHour" "[I") (by decide +kernel)
  have lw2 := hts (.methodLink RX1 34 Lib.Math.min.name) (by decide +kernel)
  have lw3 := hts (.static Lib.Math.min.name) (by decide +kernel)
  have lw4 := hts (.initialized "java/lang/Math") (by decide +kernel)
  have lw5 := hts (.code Lib.Math.min.name Lib.Math.min.code 2 (some .int)) (by decide +kernel)
  have lk15 := hts (.fieldLink RX1 15 "MoodDrawers$Drawers" "locked" "[I") (by decide +kernel)
  have hl := lv_entry ([.ref (a 2), .int p1, .int p2, .int p3]) (n := 6) (Nat.le_of_ble_eq_true rfl)
  rw [lg_entry_eq]
  generalize (lg_sl ([.ref (a 2), .int p1, .int p2, .int p3]) ++ List.replicate (6 - (lg_sl ([.ref (a 2), .int p1, .int p2, .int p3])).length) Slot.unset).toArray = ls at hl ⊢
  have hl : lv_has ls 6 [(0, .ref (a 2)), (1, .int p1), (2, .int p2), (3, .int p3)] := hl
  refine lv_aload_n hx hb dX1_isLockedAt_0 rfl (lv_at hl 0 rfl) ?_
  refine va_get (D := G.1) (ci := 1) (v := .ref (a 5)) (C := RX1) (T := TX1) (N := 4) hx hb hts hinX1 hown hK hP 0 rfl rfl 2 (by decide) lk18 (fun _ h9 => h9) rfl dX1_isLockedAt_1 ?_
  refine lv_iload_n hx hb dX1_isLockedAt_4 rfl (lv_at hl 1 rfl) ?_
  obtain ⟨hi, hf⟩ := ck_1 hf hne
  refine va_iald (f := (v0 5)) hx hb hK hP 3 0 rfl rfl (ixb_1 hi) dX1_isLockedAt_5 ?_
  refine lv_bipush (v := (-6)) hx hb dX1_isLockedAt_6 (by decide) ?_
  refine lv_icmp_ne (tgt := 27) hx hb dX1_isLockedAt_8 (by decide) (fun c => ?_) (fun c => ?_)
  · have hf := it_2 hf c
    refine lv_iload_n hx hb dX1_isLockedAt_27 rfl (lv_at hl 3 rfl) ?_
    refine lv_aload_n hx hb dX1_isLockedAt_28 rfl (lv_at hl 0 rfl) ?_
    refine va_get (D := G.1) (ci := 1) (v := .ref (a 5)) (C := RX1) (T := TX1) (N := 4) hx hb hts hinX1 hown hK hP 0 rfl rfl 2 (by decide) lk18 (fun _ h9 => h9) rfl dX1_isLockedAt_29 ?_
    refine lv_iload_n hx hb dX1_isLockedAt_32 rfl (lv_at hl 1 rfl) ?_
    obtain ⟨hi, hf⟩ := ck_1 hf hne
    refine va_iald (f := (v0 5)) hx hb hK hP 3 0 rfl rfl (ixb_1 hi) dX1_isLockedAt_33 ?_
    refine lv_isub hx hb dX1_isLockedAt_34 ?_
    refine lv_bipush (v := 24) hx hb dX1_isLockedAt_35 (by decide) ?_
    have hn := bd1_1 hf hne
    refine vp_callSi (W.runS (As := [.int (p3 - ((v0 5) (Int32.toNatClampNeg p1))), .int 24]) (rest := []) ⟨hx, hb, hml, hown, hts⟩ (ok_J9_floorMod_7cf53 l (p3 - ((v0 5) (Int32.toNatClampNeg p1))) 24 hn) (va_cwS 2 hts gX1_isLockedAt_J9_floorMod_7cf53 rfl rfl rfl (by decide +kernel) ⟨Nat.le_of_ble_eq_true rfl, Nat.le_of_ble_eq_true rfl⟩) ⟨fun _ _ _ _ q => q, fun _ _ _ => ⟨rfl, trivial⟩⟩ rfl rfl hl.1 rfl (lv_room (Nat.le_of_ble_eq_true rfl)) dX1_isLockedAt_37 ⟨Nat.zero_le _, Nat.zero_le _⟩) (fun r37 hw => ?_)
    have hf := bd1_2 hf hw
    refine lv_istore (lv' := [(4, .int r37), (0, .ref (a 2)), (1, .int p1), (2, .int p2), (3, .int p3)]) hx hb dX1_isLockedAt_40 hl (by decide) rfl (fun ls hl => ?_)
    refine lv_iload_n hx hb dX1_isLockedAt_42 rfl (lv_at hl 4 rfl) ?_
    refine lv_aload_n hx hb dX1_isLockedAt_43 rfl (lv_at hl 1 rfl) ?_
    refine va_get (D := G.1) (ci := 1) (v := .ref (a 6)) (C := RX1) (T := TX1) (N := 4) hx hb hts hinX1 hown hK hP 0 rfl rfl 3 (by decide) lk21 (fun _ h9 => h9) rfl dX1_isLockedAt_44 ?_
    refine lv_iload_n hx hb dX1_isLockedAt_47 rfl (lv_at hl 2 rfl) ?_
    obtain ⟨hi, hf⟩ := ck_1 hf hne
    refine va_iald (f := (v0 6)) hx hb hK hP 4 0 rfl rfl (ixb_1 hi) dX1_isLockedAt_48 ?_
    refine lv_isub hx hb dX1_isLockedAt_49 ?_
    refine lv_bipush (v := 24) hx hb dX1_isLockedAt_50 (by decide) ?_
    have hn := bd1_1 hf hne
    refine vp_callSi (W.runS (As := [.int (p3 - ((v0 6) (Int32.toNatClampNeg p1))), .int 24]) (rest := []) ⟨hx, hb, hml, hown, hts⟩ (ok_J9_floorMod_7cf53 l (p3 - ((v0 6) (Int32.toNatClampNeg p1))) 24 hn) (va_cwS 2 hts gX1_isLockedAt_J9_floorMod_7cf53 rfl rfl rfl (by decide +kernel) ⟨Nat.le_of_ble_eq_true rfl, Nat.le_of_ble_eq_true rfl⟩) ⟨fun _ _ _ _ q => q, fun _ _ _ => ⟨rfl, trivial⟩⟩ rfl rfl hl.1 rfl (lv_room (Nat.le_of_ble_eq_true rfl)) dX1_isLockedAt_52 ⟨Nat.zero_le _, Nat.zero_le _⟩) (fun r52 hw => ?_)
    have hf := bd1_2 hf hw
    refine lv_istore (lv' := [(5, .int r52), (4, .int r37), (0, .ref (a 2)), (1, .int p1), (2, .int p2), (3, .int p3)]) hx hb dX1_isLockedAt_55 hl (by decide) rfl (fun ls hl => ?_)
    refine lv_iload hx hb dX1_isLockedAt_57 (lv_at hl 1 rfl) ?_
    refine lv_iload hx hb dX1_isLockedAt_59 (lv_at hl 0 rfl) ?_
    refine va_mmin (rest := []) hx hb (hml.trans hl.1.symm) hown lw2 lw3 lw4 lw5 (Nat.le_of_ble_eq_true rfl) (Nat.le_of_ble_eq_true rfl) (Nat.zero_le _) (Nat.zero_le _) dX1_isLockedAt_61 ?_
    refine lv_iload_n hx hb dX1_isLockedAt_64 rfl (lv_at hl 5 rfl) ?_
    refine lv_iload_n hx hb dX1_isLockedAt_65 rfl (lv_at hl 4 rfl) ?_
    refine lv_isub hx hb dX1_isLockedAt_66 ?_
    refine lv_icmp_le (tgt := 86) hx hb dX1_isLockedAt_67 (by decide) (fun c => ?_) (fun c => ?_)
    · have hf := it_1 hf c
      refine lv_iload hx hb dX1_isLockedAt_86 (lv_at hl 0 rfl) ?_
      refine lv_iload hx hb dX1_isLockedAt_88 (lv_at hl 1 rfl) ?_
      refine lv_icmp_ge (tgt := 97) hx hb dX1_isLockedAt_90 (by decide) (fun c => ?_) (fun c => ?_)
      · have hf := it_1 hf c
        refine lv_iconst (v := 0) hx hb dX1_isLockedAt_97 (by decide) ?_
        exact W.zret (ty := .boolean) (v := 0) hx hb hr rfl (fun t ht hW => ⟨0, rfl, hf0.trans hf.symm, ht⟩) (fun _ hq => absurd hq List.not_mem_nil) dX1_isLockedAt_98
      · have hf := it_2 hf c
        refine lv_iconst (v := 1) hx hb dX1_isLockedAt_93 (by decide) ?_
        refine lv_goto (tgt := 98) hx hb dX1_isLockedAt_94 (by decide) ?_
        exact W.zret (ty := .boolean) (v := 1) hx hb hr rfl (fun t ht hW => ⟨1, rfl, hf0.trans hf.symm, ht⟩) (fun _ hq => absurd hq List.not_mem_nil) dX1_isLockedAt_98
    · have hf := it_2 hf c
      refine lv_aload_n hx hb dX1_isLockedAt_70 rfl (lv_at hl 2 rfl) ?_
      refine va_get (D := G.1) (ci := 1) (v := .ref (a 4)) (C := RX1) (T := TX1) (N := 4) hx hb hts hinX1 hown hK hP 0 rfl rfl 1 (by decide) lk15 (fun _ h9 => h9) rfl dX1_isLockedAt_71 ?_
      refine lv_iload_n hx hb dX1_isLockedAt_74 rfl (lv_at hl 3 rfl) ?_
      obtain ⟨hi, hf⟩ := ck_1 hf hne
      refine va_iald (f := (v0 4)) hx hb hK hP 2 0 rfl rfl (ixb_1 hi) dX1_isLockedAt_75 ?_
      refine lv_iconst (v := 1) hx hb dX1_isLockedAt_76 (by decide) ?_
      refine lv_icmp_ne (tgt := 84) hx hb dX1_isLockedAt_77 (by decide) (fun c => ?_) (fun c => ?_)
      · have hf := it_2 hf c
        refine lv_iconst (v := 0) hx hb dX1_isLockedAt_84 (by decide) ?_
        exact W.zret (ty := .boolean) (v := 0) hx hb hr rfl (fun t ht hW => ⟨0, rfl, hf0.trans hf.symm, ht⟩) (fun _ hq => absurd hq List.not_mem_nil) dX1_isLockedAt_85
      · have hf := it_1 hf c
        refine lv_iconst (v := 1) hx hb dX1_isLockedAt_80 (by decide) ?_
        refine lv_goto (tgt := 85) hx hb dX1_isLockedAt_81 (by decide) ?_
        exact W.zret (ty := .boolean) (v := 1) hx hb hr rfl (fun t ht hW => ⟨1, rfl, hf0.trans hf.symm, ht⟩) (fun _ hq => absurd hq List.not_mem_nil) dX1_isLockedAt_85
  · have hf := it_1 hf c
    refine lv_aload_n hx hb dX1_isLockedAt_11 rfl (lv_at hl 0 rfl) ?_
    refine va_get (D := G.1) (ci := 1) (v := .ref (a 4)) (C := RX1) (T := TX1) (N := 4) hx hb hts hinX1 hown hK hP 0 rfl rfl 1 (by decide) lk15 (fun _ h9 => h9) rfl dX1_isLockedAt_12 ?_
    refine lv_iload_n hx hb dX1_isLockedAt_15 rfl (lv_at hl 1 rfl) ?_
    obtain ⟨hi, hf⟩ := ck_1 hf hne
    refine va_iald (f := (v0 4)) hx hb hK hP 2 0 rfl rfl (ixb_1 hi) dX1_isLockedAt_16 ?_
    refine lv_iconst (v := 1) hx hb dX1_isLockedAt_17 (by decide) ?_
    refine lv_icmp_ne (tgt := 25) hx hb dX1_isLockedAt_18 (by decide) (fun c => ?_) (fun c => ?_)
    · have hf := it_2 hf c
      refine lv_iconst (v := 0) hx hb dX1_isLockedAt_25 (by decide) ?_
      exact W.zret (ty := .boolean) (v := 0) hx hb hr rfl (fun t ht hW => ⟨0, rfl, hf0.trans hf.symm, ht⟩) (fun _ hq => absurd hq List.not_mem_nil) dX1_isLockedAt_26
    · have hf := it_1 hf c
      refine lv_iconst (v := 1) hx hb dX1_isLockedAt_21 (by decide) ?_
      refine lv_goto (tgt := 26) hx hb dX1_isLockedAt_22 (by decide) ?_
      exact W.zret (ty := .boolean) (v := 1) hx hb hr rfl (fun t ht hW => ⟨1, rfl, hf0.trans hf.symm, ht⟩) (fun _ hq => absurd hq List.not_mem_nil) dX1_isLockedAt_26
set_option maxHeartbeats 4000000 in
set_option maxRecDepth 100000 in
theorem ok_X1_howManyLocked (l : Launch) (G : Gt) (a : Nat → Nat) (n0 : Nat) (v0 : DV) (hne : f_X1_howManyLocked n0 v0 ≠ none) : Met l yX1_howManyLocked wsX1_howManyLocked ({ frames := 0, cells := 0, slots := 0, locals := 0 } : Room) (pcR G [.ref (a 2)] (drawersC G.2 a v0)) (vp_Si (fun r => f_X1_howManyLocked n0 v0 = some r)) 0 0 (fun _ => False) := by
  refine Met.ofW (cc := cX1_howManyLocked) (maxL := 3) (ret := (some .int)) (by decide) rfl ?_
  intro p e s m args below meth c s₁ B hml hv
  obtain ⟨rfl, hP, hamb⟩ := hv
  have hx := B.exec
  have hb := B.bytes
  have hr := B.returns
  have hts := atoms_spec (ws := wsX1_howManyLocked) B.pre
  have hown : s.vm.findClass RX1 = some m.cls := findClass_of_methodNamed B.named
  have hlocks := B.notSynchronized
  have hK := hamb.1
  obtain ⟨res, hf0⟩ : ∃ res, f_X1_howManyLocked n0 v0 = res := ⟨_, rfl⟩
  have hne : res ≠ none := hf0 ▸ hne
  have hf := hf0
  rw [f_X1_howManyLocked] at hf
  have hinX1 : ∀ w ∈ u_ws RX1 TX1 4, w ∈ wsX1_howManyLocked := by decide +kernel
  have lk15 := hts (.fieldLink RX1 15 "MoodDrawers$Drawers" "locked" "[I") (by decide +kernel)
  have hl := lv_entry ([.ref (a 2)]) (n := 3) (Nat.le_of_ble_eq_true rfl)
  rw [lg_entry_eq]
  generalize (lg_sl ([.ref (a 2)]) ++ List.replicate (3 - (lg_sl ([.ref (a 2)])).length) Slot.unset).toArray = ls at hl ⊢
  have hl : lv_has ls 3 [(0, .ref (a 2))] := hl
  have L4 : ∀ (n : Nat) (v : DV) (x1 : Int32) (x2 : Int32) (ls : Array Slot), va_P G.1 vwCl (drawersC G.2 a v) s.heap → lv_has ls 3 [(0, .ref (a 2)), (1, .int x1), (2, .int x2)] → f_X1_howManyLocked_L4 n v x1 x2 = res → W p l e (headSpec wsX1_howManyLocked ({ frames := 0, cells := 0, slots := 0, locals := 0 } : Room)).room s m ([.ref (a 2)] : List Value).toArray below meth c s.heap [] 0 0 (MQ below (vp_Si (fun r => f_X1_howManyLocked n0 v0 = some r)) ([.ref (a 2)] : List Value).toArray s 0 0 (fun _ => False)) (F0 m 4 ls []) := by
    intro n
    induction n with
    | zero => intro v x1 x2 ls hP hl hf; exact (none_1 hf hne).elim
    | succ n ih =>
      intro v x1 x2 ls hP hl hf
      rw [f_X1_howManyLocked_L4] at hf
      refine lv_iload_n hx hb dX1_howManyLocked_4 rfl (lv_at hl 2 rfl) ?_
      refine lv_bipush (v := 6) hx hb dX1_howManyLocked_5 (by decide) ?_
      refine lv_icmp_ge (tgt := 25) hx hb dX1_howManyLocked_7 (by decide) (fun c => ?_) (fun c => ?_)
      · have hf := it_1 hf c
        refine lv_iload_n hx hb dX1_howManyLocked_25 rfl (lv_at hl 1 rfl) ?_
        exact W.iret (v := x1) hx hb hr (fun t ht hW => ⟨x1, rfl, hf0.trans hf.symm, ht⟩) (fun _ hq => absurd hq List.not_mem_nil) dX1_howManyLocked_26
      · have hf := it_2 hf c
        refine lv_iload_n hx hb dX1_howManyLocked_10 rfl (lv_at hl 1 rfl) ?_
        refine lv_aload_n hx hb dX1_howManyLocked_11 rfl (lv_at hl 0 rfl) ?_
        refine va_get (D := G.1) (ci := 1) (v := .ref (a 4)) (C := RX1) (T := TX1) (N := 4) hx hb hts hinX1 hown hK hP 0 rfl rfl 1 (by decide) lk15 (fun _ h9 => h9) rfl dX1_howManyLocked_12 ?_
        refine lv_iload_n hx hb dX1_howManyLocked_15 rfl (lv_at hl 2 rfl) ?_
        obtain ⟨hi, hf⟩ := ck_1 hf hne
        refine va_iald (f := (v 4)) hx hb hK hP 2 0 rfl rfl (ixb_1 hi) dX1_howManyLocked_16 ?_
        refine lv_iadd hx hb dX1_howManyLocked_17 ?_
        refine lv_istore_n (lv' := [(1, .int (x1 + ((v 4) (Int32.toNatClampNeg x2)))), (0, .ref (a 2)), (2, .int x2)]) hx hb dX1_howManyLocked_18 rfl hl (by decide) rfl (fun ls hl => ?_)
        refine lv_iinc (v := (x2 + 1)) (lv' := [(2, .int (x2 + 1)), (1, .int (x1 + ((v 4) (Int32.toNatClampNeg x2)))), (0, .ref (a 2))]) hx hb dX1_howManyLocked_19 hl (k := 2) rfl rfl (by decide) rfl (fun ls hl => ?_)
        refine lv_goto (tgt := 4) hx hb dX1_howManyLocked_22 (by decide) ?_
        exact ih v (x1 + ((v 4) (Int32.toNatClampNeg x2))) (x2 + 1) ls hP (lv_sub hl [2, 1, 0] rfl) hf
  refine lv_iconst (v := 0) hx hb dX1_howManyLocked_0 (by decide) ?_
  refine lv_istore_n (lv' := [(1, .int 0), (0, .ref (a 2))]) hx hb dX1_howManyLocked_1 rfl hl (by decide) rfl (fun ls hl => ?_)
  refine lv_iconst (v := 0) hx hb dX1_howManyLocked_2 (by decide) ?_
  refine lv_istore_n (lv' := [(2, .int 0), (1, .int 0), (0, .ref (a 2))]) hx hb dX1_howManyLocked_3 rfl hl (by decide) rfl (fun ls hl => ?_)
  exact L4 n0 v0 0 0 ls hP (lv_sub hl [2, 1, 0] rfl) hf
set_option maxHeartbeats 4000000 in
set_option maxRecDepth 100000 in
theorem ok_X1_copyFrom (l : Launch) (G : Gt) (a b : Nat → Nat) (sz : Nat) (v0 w : DV) (hne : f_X1_copyFrom v0 w ≠ none) : Met l yX1_copyFrom wsX1_copyFrom ({ frames := 2, cells := 0, slots := 0, locals := 61 } : Room) (pcW G [.ref (a 2), .ref (b 2)] (drawersC G.2 a v0 ++ drawersC G.2 b w) sz) (va_Qv (fun (u : DV) => f_X1_copyFrom v0 w = some u) (fun u t => atW G (drawersC G.2 a u ++ drawersC G.2 b w) (va_A (drawersC G.2 a v0 ++ drawersC G.2 b w) sz) t) (va_A (drawersC G.2 a v0 ++ drawersC G.2 b w) sz)) 0 0 (va_A (drawersC G.2 a v0 ++ drawersC G.2 b w) sz) := by
  refine Met.ofW (cc := cX1_copyFrom) (maxL := 2) (ret := none) (by decide) rfl ?_
  intro p e s m args below meth c s₁ B hml hv
  obtain ⟨rfl, hsz, hP, hD0, hamb⟩ := hv
  have hx := B.exec
  have hb := B.bytes
  have hr := B.returns
  have hts := atoms_spec (ws := wsX1_copyFrom) B.pre
  have hown : s.vm.findClass RX1 = some m.cls := findClass_of_methodNamed B.named
  have hlocks := B.notSynchronized
  have hK := hamb.1
  subst hsz
  have hD := hD0.self (sz := s.heap.size)
  generalize hAe : va_A (drawersC G.2 a v0 ++ drawersC G.2 b w) s.heap.size = A at hD ⊢
  have hA : ∀ q : Nat, s.heap.size ≤ q → A q := fun q h => by rw [← hAe]; exact Or.inr h
  have hS : va_S A s.heap s.heap [] := va_S.rf
  obtain ⟨res, hf0⟩ : ∃ res, f_X1_copyFrom v0 w = res := ⟨_, rfl⟩
  have hne : res ≠ none := hf0 ▸ hne
  have hf := hf0
  rw [f_X1_copyFrom] at hf
  have hinX1 : ∀ w ∈ u_ws RX1 TX1 4, w ∈ wsX1_copyFrom := by decide +kernel
  have lk9 := hts (.fieldLink RX1 9 "MoodDrawers$Drawers" "restDays" "[I") (by decide +kernel)
  have lw1 := hts (.initialized RX6) (by decide +kernel)
  have lw2 := hts (.static yX6_copy) (by decide +kernel)
  have lk15 := hts (.fieldLink RX1 15 "MoodDrawers$Drawers" "locked" "[I") (by decide +kernel)
  have lk18 := hts (.fieldLink RX1 18 "MoodDrawers$Drawers" "unlockHour" "[I") (by decide +kernel)
  have lk21 := hts (.fieldLink RX1 21 "MoodDrawers$Drawers" "lockHour" "[I") (by decide +kernel)
  have hl := lv_entry ([.ref (a 2), .ref (b 2)]) (n := 2) (Nat.le_of_ble_eq_true rfl)
  rw [lg_entry_eq]
  generalize (lg_sl ([.ref (a 2), .ref (b 2)]) ++ List.replicate (2 - (lg_sl ([.ref (a 2), .ref (b 2)])).length) Slot.unset).toArray = ls at hl ⊢
  have hl : lv_has ls 2 [(0, .ref (a 2)), (1, .ref (b 2))] := hl
  refine lv_aload_n hx hb dX1_copyFrom_0 rfl (lv_at hl 1 rfl) ?_
  refine va_get (D := G.1) (ci := 1) (v := .ref (b 3)) (C := RX1) (T := TX1) (N := 4) hx hb hts hinX1 hown hK hP 5 rfl rfl 0 (by decide) lk9 (fun _ h9 => h9) rfl dX1_copyFrom_1 ?_
  refine lv_aload_n hx hb dX1_copyFrom_4 rfl (lv_at hl 0 rfl) ?_
  refine va_get (D := G.1) (ci := 1) (v := .ref (a 3)) (C := RX1) (T := TX1) (N := 4) hx hb hts hinX1 hown hK hP 0 rfl rfl 0 (by decide) lk9 (fun _ h9 => h9) rfl dX1_copyFrom_5 ?_
  refine cwv (va_runSN (As := [.ref (b 3), .ref (a 3)]) (rest := []) ⟨hx, hb, hml, hown, hts⟩ (ok_X6_copy l G (b 3) (a 3) 6 (w 3) (v0 3) s.heap.size (by decide)) ⟨va_cnB 2 hts gX1_copyFrom_X6_copy_n24 rfl rfl rfl (hamb.2.1 (.methodLinkNest RX1 24 yX6_copy RX6) (List.mem_of_getElem? (i := 8) rfl)) lw1 (by decide +kernel) ⟨Nat.le_of_ble_eq_true rfl, Nat.le_of_ble_eq_true rfl⟩, lw2, trivial⟩ ⟨pcW_blind, pcW_pre (hP.sub (ws' := [(b 3, .inl (G.2 0, 6, .inl (w 3))), (a 3, .inl (G.2 0, 6, .inl (v0 3)))]) [6, 1] rfl) (hD.sub (ws' := [(b 3, .inl (G.2 0, 6, .inl (w 3))), (a 3, .inl (G.2 0, 6, .inl (v0 3)))]) [6, 1] (by decide) rfl) hamb⟩ rfl rfl hl.1 rfl (lv_room (Nat.le_of_ble_eq_true rfl)) dX1_copyFrom_8 ⟨Nat.zero_le _, Nat.zero_le _⟩) (wr := [(a 2, .inr (1, [.ref (a 3), .ref (a 4), .ref (a 5), .ref (a 6)])), (a 4, .inl (G.2 0, 6, .inl (v0 4))), (a 5, .inl (G.2 0, 6, .inl (v0 5))), (a 6, .inl (G.2 0, 6, .inl (v0 6))), (b 2, .inr (1, [.ref (b 3), .ref (b 4), .ref (b 5), .ref (b 6)])), (b 4, .inl (G.2 0, 6, .inl (w 4))), (b 5, .inl (G.2 0, 6, .inl (w 5))), (b 6, .inl (G.2 0, 6, .inl (w 6)))]) hP hD hS hA [6, 1] [0, 2, 3, 4, 5, 7, 8, 9] rfl rfl (by decide) (by decide) (fun _ H locs _ hP hD hS => ?_)
  have hP : va_P G.1 vwCl (drawersC G.2 a (vs v0 3 (va_cpy (w 3) (v0 3) 0 0 6)) ++ drawersC G.2 b w) H := hP.sub [0, 9, 1, 2, 3, 4, 8, 5, 6, 7] rfl
  have hD : va_D A (drawersC G.2 a (vs v0 3 (va_cpy (w 3) (v0 3) 0 0 6)) ++ drawersC G.2 b w) := hD.sub [0, 9, 1, 2, 3, 4, 8, 5, 6, 7] (by decide) rfl
  refine lv_aload_n hx hb dX1_copyFrom_11 rfl (lv_at hl 1 rfl) ?_
  refine va_get (D := G.1) (ci := 1) (v := .ref (b 4)) (C := RX1) (T := TX1) (N := 4) hx hb hts hinX1 hown hK hP 5 rfl rfl 1 (by decide) lk15 (fun _ h9 => h9) rfl dX1_copyFrom_12 ?_
  refine lv_aload_n hx hb dX1_copyFrom_15 rfl (lv_at hl 0 rfl) ?_
  refine va_get (D := G.1) (ci := 1) (v := .ref (a 4)) (C := RX1) (T := TX1) (N := 4) hx hb hts hinX1 hown hK hP 0 rfl rfl 1 (by decide) lk15 (fun _ h9 => h9) rfl dX1_copyFrom_16 ?_
  refine cwv (va_runSN (As := [.ref (b 4), .ref (a 4)]) (rest := []) ⟨hx, hb, hml, hown, hts⟩ (ok_X6_copy l G (b 4) (a 4) 6 (w 4) (v0 4) H.size (by decide)) ⟨va_cnB 2 hts gX1_copyFrom_X6_copy_n24 rfl rfl rfl (hamb.2.1 (.methodLinkNest RX1 24 yX6_copy RX6) (List.mem_of_getElem? (i := 8) rfl)) lw1 (by decide +kernel) ⟨Nat.le_of_ble_eq_true rfl, Nat.le_of_ble_eq_true rfl⟩, lw2, trivial⟩ ⟨pcW_blind, pcW_pre (hP.sub (ws' := [(b 4, .inl (G.2 0, 6, .inl (w 4))), (a 4, .inl (G.2 0, 6, .inl (v0 4)))]) [7, 2] rfl) (hD.sub (ws' := [(b 4, .inl (G.2 0, 6, .inl (w 4))), (a 4, .inl (G.2 0, 6, .inl (v0 4)))]) [7, 2] (by decide) rfl) hamb⟩ rfl rfl hl.1 rfl (lv_room (Nat.le_of_ble_eq_true rfl)) dX1_copyFrom_19 ⟨Nat.zero_le _, Nat.zero_le _⟩) (wr := [(a 2, .inr (1, [.ref (a 3), .ref (a 4), .ref (a 5), .ref (a 6)])), (a 3, .inl (G.2 0, 6, .inl ((vs v0 3 (va_cpy (w 3) (v0 3) 0 0 6)) 3))), (a 5, .inl (G.2 0, 6, .inl ((vs v0 3 (va_cpy (w 3) (v0 3) 0 0 6)) 5))), (a 6, .inl (G.2 0, 6, .inl ((vs v0 3 (va_cpy (w 3) (v0 3) 0 0 6)) 6))), (b 2, .inr (1, [.ref (b 3), .ref (b 4), .ref (b 5), .ref (b 6)])), (b 3, .inl (G.2 0, 6, .inl (w 3))), (b 5, .inl (G.2 0, 6, .inl (w 5))), (b 6, .inl (G.2 0, 6, .inl (w 6)))]) hP hD hS hA [7, 2] [0, 1, 3, 4, 5, 6, 8, 9] rfl rfl (by decide) (by decide) (fun _ H locs _ hP hD hS => ?_)
  have hP : va_P G.1 vwCl (drawersC G.2 a (vs (vs v0 3 (va_cpy (w 3) (v0 3) 0 0 6)) 4 (va_cpy (w 4) (v0 4) 0 0 6)) ++ drawersC G.2 b w) H := hP.sub [0, 1, 9, 2, 3, 4, 5, 8, 6, 7] rfl
  have hD : va_D A (drawersC G.2 a (vs (vs v0 3 (va_cpy (w 3) (v0 3) 0 0 6)) 4 (va_cpy (w 4) (v0 4) 0 0 6)) ++ drawersC G.2 b w) := hD.sub [0, 1, 9, 2, 3, 4, 5, 8, 6, 7] (by decide) rfl
  refine lv_aload_n hx hb dX1_copyFrom_22 rfl (lv_at hl 1 rfl) ?_
  refine va_get (D := G.1) (ci := 1) (v := .ref (b 5)) (C := RX1) (T := TX1) (N := 4) hx hb hts hinX1 hown hK hP 5 rfl rfl 2 (by decide) lk18 (fun _ h9 => h9) rfl dX1_copyFrom_23 ?_
  refine lv_aload_n hx hb dX1_copyFrom_26 rfl (lv_at hl 0 rfl) ?_
  refine va_get (D := G.1) (ci := 1) (v := .ref (a 5)) (C := RX1) (T := TX1) (N := 4) hx hb hts hinX1 hown hK hP 0 rfl rfl 2 (by decide) lk18 (fun _ h9 => h9) rfl dX1_copyFrom_27 ?_
  refine cwv (va_runSN (As := [.ref (b 5), .ref (a 5)]) (rest := []) ⟨hx, hb, hml, hown, hts⟩ (ok_X6_copy l G (b 5) (a 5) 6 (w 5) (v0 5) H.size (by decide)) ⟨va_cnB 2 hts gX1_copyFrom_X6_copy_n24 rfl rfl rfl (hamb.2.1 (.methodLinkNest RX1 24 yX6_copy RX6) (List.mem_of_getElem? (i := 8) rfl)) lw1 (by decide +kernel) ⟨Nat.le_of_ble_eq_true rfl, Nat.le_of_ble_eq_true rfl⟩, lw2, trivial⟩ ⟨pcW_blind, pcW_pre (hP.sub (ws' := [(b 5, .inl (G.2 0, 6, .inl (w 5))), (a 5, .inl (G.2 0, 6, .inl (v0 5)))]) [8, 3] rfl) (hD.sub (ws' := [(b 5, .inl (G.2 0, 6, .inl (w 5))), (a 5, .inl (G.2 0, 6, .inl (v0 5)))]) [8, 3] (by decide) rfl) hamb⟩ rfl rfl hl.1 rfl (lv_room (Nat.le_of_ble_eq_true rfl)) dX1_copyFrom_30 ⟨Nat.zero_le _, Nat.zero_le _⟩) (wr := [(a 2, .inr (1, [.ref (a 3), .ref (a 4), .ref (a 5), .ref (a 6)])), (a 3, .inl (G.2 0, 6, .inl ((vs (vs v0 3 (va_cpy (w 3) (v0 3) 0 0 6)) 4 (va_cpy (w 4) (v0 4) 0 0 6)) 3))), (a 4, .inl (G.2 0, 6, .inl ((vs (vs v0 3 (va_cpy (w 3) (v0 3) 0 0 6)) 4 (va_cpy (w 4) (v0 4) 0 0 6)) 4))), (a 6, .inl (G.2 0, 6, .inl ((vs (vs v0 3 (va_cpy (w 3) (v0 3) 0 0 6)) 4 (va_cpy (w 4) (v0 4) 0 0 6)) 6))), (b 2, .inr (1, [.ref (b 3), .ref (b 4), .ref (b 5), .ref (b 6)])), (b 3, .inl (G.2 0, 6, .inl (w 3))), (b 4, .inl (G.2 0, 6, .inl (w 4))), (b 6, .inl (G.2 0, 6, .inl (w 6)))]) hP hD hS hA [8, 3] [0, 1, 2, 4, 5, 6, 7, 9] rfl rfl (by decide) (by decide) (fun _ H locs _ hP hD hS => ?_)
  have hP : va_P G.1 vwCl (drawersC G.2 a (vs (vs (vs v0 3 (va_cpy (w 3) (v0 3) 0 0 6)) 4 (va_cpy (w 4) (v0 4) 0 0 6)) 5 (va_cpy (w 5) (v0 5) 0 0 6)) ++ drawersC G.2 b w) H := hP.sub [0, 1, 2, 9, 3, 4, 5, 6, 8, 7] rfl
  have hD : va_D A (drawersC G.2 a (vs (vs (vs v0 3 (va_cpy (w 3) (v0 3) 0 0 6)) 4 (va_cpy (w 4) (v0 4) 0 0 6)) 5 (va_cpy (w 5) (v0 5) 0 0 6)) ++ drawersC G.2 b w) := hD.sub [0, 1, 2, 9, 3, 4, 5, 6, 8, 7] (by decide) rfl
  refine lv_aload_n hx hb dX1_copyFrom_33 rfl (lv_at hl 1 rfl) ?_
  refine va_get (D := G.1) (ci := 1) (v := .ref (b 6)) (C := RX1) (T := TX1) (N := 4) hx hb hts hinX1 hown hK hP 5 rfl rfl 3 (by decide) lk21 (fun _ h9 => h9) rfl dX1_copyFrom_34 ?_
  refine lv_aload_n hx hb dX1_copyFrom_37 rfl (lv_at hl 0 rfl) ?_
  refine va_get (D := G.1) (ci := 1) (v := .ref (a 6)) (C := RX1) (T := TX1) (N := 4) hx hb hts hinX1 hown hK hP 0 rfl rfl 3 (by decide) lk21 (fun _ h9 => h9) rfl dX1_copyFrom_38 ?_
  refine cwv (va_runSN (As := [.ref (b 6), .ref (a 6)]) (rest := []) ⟨hx, hb, hml, hown, hts⟩ (ok_X6_copy l G (b 6) (a 6) 6 (w 6) (v0 6) H.size (by decide)) ⟨va_cnB 2 hts gX1_copyFrom_X6_copy_n24 rfl rfl rfl (hamb.2.1 (.methodLinkNest RX1 24 yX6_copy RX6) (List.mem_of_getElem? (i := 8) rfl)) lw1 (by decide +kernel) ⟨Nat.le_of_ble_eq_true rfl, Nat.le_of_ble_eq_true rfl⟩, lw2, trivial⟩ ⟨pcW_blind, pcW_pre (hP.sub (ws' := [(b 6, .inl (G.2 0, 6, .inl (w 6))), (a 6, .inl (G.2 0, 6, .inl (v0 6)))]) [9, 4] rfl) (hD.sub (ws' := [(b 6, .inl (G.2 0, 6, .inl (w 6))), (a 6, .inl (G.2 0, 6, .inl (v0 6)))]) [9, 4] (by decide) rfl) hamb⟩ rfl rfl hl.1 rfl (lv_room (Nat.le_of_ble_eq_true rfl)) dX1_copyFrom_41 ⟨Nat.zero_le _, Nat.zero_le _⟩) (wr := [(a 2, .inr (1, [.ref (a 3), .ref (a 4), .ref (a 5), .ref (a 6)])), (a 3, .inl (G.2 0, 6, .inl ((vs (vs (vs v0 3 (va_cpy (w 3) (v0 3) 0 0 6)) 4 (va_cpy (w 4) (v0 4) 0 0 6)) 5 (va_cpy (w 5) (v0 5) 0 0 6)) 3))), (a 4, .inl (G.2 0, 6, .inl ((vs (vs (vs v0 3 (va_cpy (w 3) (v0 3) 0 0 6)) 4 (va_cpy (w 4) (v0 4) 0 0 6)) 5 (va_cpy (w 5) (v0 5) 0 0 6)) 4))), (a 5, .inl (G.2 0, 6, .inl ((vs (vs (vs v0 3 (va_cpy (w 3) (v0 3) 0 0 6)) 4 (va_cpy (w 4) (v0 4) 0 0 6)) 5 (va_cpy (w 5) (v0 5) 0 0 6)) 5))), (b 2, .inr (1, [.ref (b 3), .ref (b 4), .ref (b 5), .ref (b 6)])), (b 3, .inl (G.2 0, 6, .inl (w 3))), (b 4, .inl (G.2 0, 6, .inl (w 4))), (b 5, .inl (G.2 0, 6, .inl (w 5)))]) hP hD hS hA [9, 4] [0, 1, 2, 3, 5, 6, 7, 8] rfl rfl (by decide) (by decide) (fun _ H locs _ hP hD hS => ?_)
  have hP : va_P G.1 vwCl (drawersC G.2 a (vs (vs (vs (vs v0 3 (va_cpy (w 3) (v0 3) 0 0 6)) 4 (va_cpy (w 4) (v0 4) 0 0 6)) 5 (va_cpy (w 5) (v0 5) 0 0 6)) 6 (va_cpy (w 6) (v0 6) 0 0 6)) ++ drawersC G.2 b w) H := hP.sub [0, 1, 2, 3, 9, 4, 5, 6, 7, 8] rfl
  have hD : va_D A (drawersC G.2 a (vs (vs (vs (vs v0 3 (va_cpy (w 3) (v0 3) 0 0 6)) 4 (va_cpy (w 4) (v0 4) 0 0 6)) 5 (va_cpy (w 5) (v0 5) 0 0 6)) 6 (va_cpy (w 6) (v0 6) 0 0 6)) ++ drawersC G.2 b w) := hD.sub [0, 1, 2, 3, 9, 4, 5, 6, 7, 8] (by decide) rfl
  exact W.vret hx hb hr (fun t ht hW => ⟨⟨(vs (vs (vs (vs v0 3 (va_cpy (w 3) (v0 3) 0 0 6)) 4 (va_cpy (w 4) (v0 4) 0 0 6)) 5 (va_cpy (w 5) (v0 5) 0 0 6)) 6 (va_cpy (w 6) (v0 6) 0 0 6)), rfl, hf0.trans hf.symm, by rw [ht]; exact hP, hD⟩, hS.F ht⟩) hS.2.2 dX1_copyFrom_44
set_option maxHeartbeats 4000000 in
set_option maxRecDepth 100000 in
theorem ok_X3_isLetter (l : Launch) (G : Gt) (a : Nat → Nat) (v0 : DV) (p1 : Int32) : Met l yX3_isLetter wsX3_isLetter ({ frames := 0, cells := 0, slots := 0, locals := 0 } : Room) (pcR G [.ref (a 7), .int p1] (lettersC G.2 a v0)) (vp_Si (fun r => r = f_X3_isLetter v0 p1)) 0 0 (fun _ => False) := by
  refine Met.ofW (cc := cX3_isLetter) (maxL := 2) (ret := (some .boolean)) (by decide) rfl ?_
  intro p e s m args below meth c s₁ B hml hv
  obtain ⟨rfl, hP, hamb⟩ := hv
  have hx := B.exec
  have hb := B.bytes
  have hr := B.returns
  have hts := atoms_spec (ws := wsX3_isLetter) B.pre
  have hown : s.vm.findClass RX3 = some m.cls := findClass_of_methodNamed B.named
  have hlocks := B.notSynchronized
  have hK := hamb.1
  obtain ⟨res, hf0⟩ : ∃ res, f_X3_isLetter v0 p1 = res := ⟨_, rfl⟩
  have hf := hf0
  rw [f_X3_isLetter] at hf
  have hinX3 : ∀ w ∈ u_ws RX3 TX3 8, w ∈ wsX3_isLetter := by decide +kernel
  have lk33 := hts (.fieldLink RX3 33 "MoodDrawers$Letters" "written" "I") (by decide +kernel)
  have hl := lv_entry ([.ref (a 7), .int p1]) (n := 2) (Nat.le_of_ble_eq_true rfl)
  rw [lg_entry_eq]
  generalize (lg_sl ([.ref (a 7), .int p1]) ++ List.replicate (2 - (lg_sl ([.ref (a 7), .int p1])).length) Slot.unset).toArray = ls at hl ⊢
  have hl : lv_has ls 2 [(0, .ref (a 7)), (1, .int p1)] := hl
  refine lv_iload_n hx hb dX3_isLetter_0 rfl (lv_at hl 1 rfl) ?_
  refine lv_if_lt (tgt := 22) hx hb dX3_isLetter_1 (by decide) (fun c => ?_) (fun c => ?_)
  · have hf := it_1 hf c
    refine lv_iconst (v := 0) hx hb dX3_isLetter_22 (by decide) ?_
    exact W.zret (ty := .boolean) (v := 0) hx hb hr rfl (fun t ht hW => ⟨0, rfl, hf.trans hf0.symm, ht⟩) (fun _ hq => absurd hq List.not_mem_nil) dX3_isLetter_23
  · have hf := it_2 hf c
    refine lv_iload_n hx hb dX3_isLetter_4 rfl (lv_at hl 1 rfl) ?_
    refine lv_aload_n hx hb dX3_isLetter_5 rfl (lv_at hl 0 rfl) ?_
    refine va_get (D := G.1) (ci := 3) (v := .int (v0 1 0)) (C := RX3) (T := TX3) (N := 8) hx hb hts hinX3 hown hK hP 0 rfl rfl 0 (by decide) lk33 (fun _ h9 => h9) rfl dX3_isLetter_6 ?_
    refine lv_icmp_ge (tgt := 22) hx hb dX3_isLetter_9 (by decide) (fun c => ?_) (fun c => ?_)
    · have hf := it_1 hf c
      refine lv_iconst (v := 0) hx hb dX3_isLetter_22 (by decide) ?_
      exact W.zret (ty := .boolean) (v := 0) hx hb hr rfl (fun t ht hW => ⟨0, rfl, hf.trans hf0.symm, ht⟩) (fun _ hq => absurd hq List.not_mem_nil) dX3_isLetter_23
    · have hf := it_2 hf c
      refine lv_iload_n hx hb dX3_isLetter_12 rfl (lv_at hl 1 rfl) ?_
      refine lv_bipush (v := 30) hx hb dX3_isLetter_13 (by decide) ?_
      refine lv_icmp_ge (tgt := 22) hx hb dX3_isLetter_15 (by decide) (fun c => ?_) (fun c => ?_)
      · have hf := it_1 hf c
        refine lv_iconst (v := 0) hx hb dX3_isLetter_22 (by decide) ?_
        exact W.zret (ty := .boolean) (v := 0) hx hb hr rfl (fun t ht hW => ⟨0, rfl, hf.trans hf0.symm, ht⟩) (fun _ hq => absurd hq List.not_mem_nil) dX3_isLetter_23
      · have hf := it_2 hf c
        refine lv_iconst (v := 1) hx hb dX3_isLetter_18 (by decide) ?_
        refine lv_goto (tgt := 23) hx hb dX3_isLetter_19 (by decide) ?_
        exact W.zret (ty := .boolean) (v := 1) hx hb hr rfl (fun t ht hW => ⟨1, rfl, hf.trans hf0.symm, ht⟩) (fun _ hq => absurd hq List.not_mem_nil) dX3_isLetter_23
set_option maxHeartbeats 4000000 in
set_option maxRecDepth 100000 in
theorem ok_X3_lies (l : Launch) (G : Gt) (a : Nat → Nat) (v0 : DV) (p1 : Int32) (p2 : Int32) (hne : f_X3_lies v0 p1 p2 ≠ none) : Met l yX3_lies wsX3_lies ({ frames := 0, cells := 0, slots := 0, locals := 0 } : Room) (pcR G [.ref (a 7), .int p1, .int p2] (lettersC G.2 a v0)) (vp_Si (fun r => f_X3_lies v0 p1 p2 = some r)) 0 0 (fun _ => False) := by
  refine Met.ofW (cc := cX3_lies) (maxL := 3) (ret := (some .boolean)) (by decide) rfl ?_
  intro p e s m args below meth c s₁ B hml hv
  obtain ⟨rfl, hP, hamb⟩ := hv
  have hx := B.exec
  have hb := B.bytes
  have hr := B.returns
  have hts := atoms_spec (ws := wsX3_lies) B.pre
  have hown : s.vm.findClass RX3 = some m.cls := findClass_of_methodNamed B.named
  have hlocks := B.notSynchronized
  have hK := hamb.1
  obtain ⟨res, hf0⟩ : ∃ res, f_X3_lies v0 p1 p2 = res := ⟨_, rfl⟩
  have hne : res ≠ none := hf0 ▸ hne
  have hf := hf0
  rw [f_X3_lies] at hf
  have hinX3 : ∀ w ∈ u_ws RX3 TX3 8, w ∈ wsX3_lies := by decide +kernel
  have lk9 := hts (.fieldLink RX3 9 "MoodDrawers$Letters" "mood" "[I") (by decide +kernel)
  have lk24 := hts (.fieldLink RX3 24 "MoodDrawers$Letters" "how" "[I") (by decide +kernel)
  have hl := lv_entry ([.ref (a 7), .int p1, .int p2]) (n := 3) (Nat.le_of_ble_eq_true rfl)
  rw [lg_entry_eq]
  generalize (lg_sl ([.ref (a 7), .int p1, .int p2]) ++ List.replicate (3 - (lg_sl ([.ref (a 7), .int p1, .int p2])).length) Slot.unset).toArray = ls at hl ⊢
  have hl : lv_has ls 3 [(0, .ref (a 7)), (1, .int p1), (2, .int p2)] := hl
  refine lv_aload_n hx hb dX3_lies_0 rfl (lv_at hl 0 rfl) ?_
  refine va_get (D := G.1) (ci := 3) (v := .ref (a 8)) (C := RX3) (T := TX3) (N := 8) hx hb hts hinX3 hown hK hP 0 rfl rfl 1 (by decide) lk9 (fun _ h9 => h9) rfl dX3_lies_1 ?_
  refine lv_iload_n hx hb dX3_lies_4 rfl (lv_at hl 1 rfl) ?_
  obtain ⟨hi, hf⟩ := ck_1 hf hne
  refine va_iald (f := (v0 7)) hx hb hK hP 1 0 rfl rfl (ixb_1 hi) dX3_lies_5 ?_
  refine lv_iload_n hx hb dX3_lies_6 rfl (lv_at hl 2 rfl) ?_
  refine lv_icmp_ne (tgt := 23) hx hb dX3_lies_7 (by decide) (fun c => ?_) (fun c => ?_)
  · have hf := it_2 hf c
    refine lv_iconst (v := 0) hx hb dX3_lies_23 (by decide) ?_
    exact W.zret (ty := .boolean) (v := 0) hx hb hr rfl (fun t ht hW => ⟨0, rfl, hf0.trans hf.symm, ht⟩) (fun _ hq => absurd hq List.not_mem_nil) dX3_lies_24
  · have hf := it_1 hf c
    refine lv_aload_n hx hb dX3_lies_10 rfl (lv_at hl 0 rfl) ?_
    refine va_get (D := G.1) (ci := 3) (v := .ref (a 12)) (C := RX3) (T := TX3) (N := 8) hx hb hts hinX3 hown hK hP 0 rfl rfl 5 (by decide) lk24 (fun _ h9 => h9) rfl dX3_lies_11 ?_
    refine lv_iload_n hx hb dX3_lies_14 rfl (lv_at hl 1 rfl) ?_
    obtain ⟨hi, hf⟩ := ck_1 hf hne
    refine va_iald (f := (v0 11)) hx hb hK hP 5 0 rfl rfl (ixb_1 hi) dX3_lies_15 ?_
    refine lv_if_ne (tgt := 23) hx hb dX3_lies_16 (by decide) (fun c => ?_) (fun c => ?_)
    · have hf := it_2 hf c
      refine lv_iconst (v := 0) hx hb dX3_lies_23 (by decide) ?_
      exact W.zret (ty := .boolean) (v := 0) hx hb hr rfl (fun t ht hW => ⟨0, rfl, hf0.trans hf.symm, ht⟩) (fun _ hq => absurd hq List.not_mem_nil) dX3_lies_24
    · have hf := it_1 hf c
      refine lv_iconst (v := 1) hx hb dX3_lies_19 (by decide) ?_
      refine lv_goto (tgt := 24) hx hb dX3_lies_20 (by decide) ?_
      exact W.zret (ty := .boolean) (v := 1) hx hb hr rfl (fun t ht hW => ⟨1, rfl, hf0.trans hf.symm, ht⟩) (fun _ hq => absurd hq List.not_mem_nil) dX3_lies_24
set_option maxHeartbeats 4000000 in
set_option maxRecDepth 100000 in
theorem ok_X3_ofMood (l : Launch) (G : Gt) (a : Nat → Nat) (n0 : Nat) (v0 : DV) (p1 : Int32) (p2 : Int32) (hne : f_X3_ofMood n0 v0 p1 p2 ≠ none) : Met l yX3_ofMood wsX3_ofMood ({ frames := 0, cells := 0, slots := 0, locals := 0 } : Room) (pcR G [.ref (a 7), .int p1, .int p2] (lettersC G.2 a v0)) (vp_Si (fun r => f_X3_ofMood n0 v0 p1 p2 = some r)) 0 0 (fun _ => False) := by
  refine Met.ofW (cc := cX3_ofMood) (maxL := 5) (ret := (some .int)) (by decide) rfl ?_
  intro p e s m args below meth c s₁ B hml hv
  obtain ⟨rfl, hP, hamb⟩ := hv
  have hx := B.exec
  have hb := B.bytes
  have hr := B.returns
  have hts := atoms_spec (ws := wsX3_ofMood) B.pre
  have hown : s.vm.findClass RX3 = some m.cls := findClass_of_methodNamed B.named
  have hlocks := B.notSynchronized
  have hK := hamb.1
  obtain ⟨res, hf0⟩ : ∃ res, f_X3_ofMood n0 v0 p1 p2 = res := ⟨_, rfl⟩
  have hne : res ≠ none := hf0 ▸ hne
  have hf := hf0
  rw [f_X3_ofMood] at hf
  have hinX3 : ∀ w ∈ u_ws RX3 TX3 8, w ∈ wsX3_ofMood := by decide +kernel
  have lk33 := hts (.fieldLink RX3 33 "MoodDrawers$Letters" "written" "I") (by decide +kernel)
  have lk9 := hts (.fieldLink RX3 9 "MoodDrawers$Letters" "mood" "[I") (by decide +kernel)
  have lk24 := hts (.fieldLink RX3 24 "MoodDrawers$Letters" "how" "[I") (by decide +kernel)
  have hl := lv_entry ([.ref (a 7), .int p1, .int p2]) (n := 5) (Nat.le_of_ble_eq_true rfl)
  rw [lg_entry_eq]
  generalize (lg_sl ([.ref (a 7), .int p1, .int p2]) ++ List.replicate (5 - (lg_sl ([.ref (a 7), .int p1, .int p2])).length) Slot.unset).toArray = ls at hl ⊢
  have hl : lv_has ls 5 [(0, .ref (a 7)), (1, .int p1), (2, .int p2)] := hl
  have L5 : ∀ (n : Nat) (v : DV) (x1 : Int32) (x2 : Int32) (x3 : Int32) (x4 : Int32) (ls : Array Slot), va_P G.1 vwCl (lettersC G.2 a v) s.heap → lv_has ls 5 [(0, .ref (a 7)), (1, .int x1), (2, .int x2), (3, .int x3), (4, .int x4)] → f_X3_ofMood_L5 n v x1 x2 x3 x4 = res → W p l e (headSpec wsX3_ofMood ({ frames := 0, cells := 0, slots := 0, locals := 0 } : Room)).room s m ([.ref (a 7), .int p1, .int p2] : List Value).toArray below meth c s.heap [] 0 0 (MQ below (vp_Si (fun r => f_X3_ofMood n0 v0 p1 p2 = some r)) ([.ref (a 7), .int p1, .int p2] : List Value).toArray s 0 0 (fun _ => False)) (F0 m 5 ls []) := by
    intro n
    induction n with
    | zero => intro v x1 x2 x3 x4 ls hP hl hf; exact (none_1 hf hne).elim
    | succ n ih =>
      intro v x1 x2 x3 x4 ls hP hl hf
      rw [f_X3_ofMood_L5] at hf
      refine lv_iload hx hb dX3_ofMood_5 (lv_at hl 4 rfl) ?_
      refine lv_aload_n hx hb dX3_ofMood_7 rfl (lv_at hl 0 rfl) ?_
      refine va_get (D := G.1) (ci := 3) (v := .int (v 1 0)) (C := RX3) (T := TX3) (N := 8) hx hb hts hinX3 hown hK hP 0 rfl rfl 0 (by decide) lk33 (fun _ h9 => h9) rfl dX3_ofMood_8 ?_
      refine lv_icmp_ge (tgt := 45) hx hb dX3_ofMood_11 (by decide) (fun c => ?_) (fun c => ?_)
      · have hf := it_1 hf c
        refine lv_iload_n hx hb dX3_ofMood_45 rfl (lv_at hl 3 rfl) ?_
        exact W.iret (v := x3) hx hb hr (fun t ht hW => ⟨x3, rfl, hf0.trans hf.symm, ht⟩) (fun _ hq => absurd hq List.not_mem_nil) dX3_ofMood_46
      · have hf := it_2 hf c
        refine lv_aload_n hx hb dX3_ofMood_14 rfl (lv_at hl 0 rfl) ?_
        refine va_get (D := G.1) (ci := 3) (v := .ref (a 8)) (C := RX3) (T := TX3) (N := 8) hx hb hts hinX3 hown hK hP 0 rfl rfl 1 (by decide) lk9 (fun _ h9 => h9) rfl dX3_ofMood_15 ?_
        refine lv_iload hx hb dX3_ofMood_18 (lv_at hl 4 rfl) ?_
        obtain ⟨hi, hf⟩ := ck_1 hf hne
        refine va_iald (f := (v 7)) hx hb hK hP 1 0 rfl rfl (ixb_1 hi) dX3_ofMood_20 ?_
        refine lv_iload_n hx hb dX3_ofMood_21 rfl (lv_at hl 1 rfl) ?_
        refine lv_icmp_ne (tgt := 39) hx hb dX3_ofMood_22 (by decide) (fun c => ?_) (fun c => ?_)
        · have hf := it_2 hf c
          refine lv_iinc (v := (x4 + 1)) (lv' := [(4, .int (x4 + 1)), (0, .ref (a 7)), (1, .int x1), (2, .int x2), (3, .int x3)]) hx hb dX3_ofMood_39 hl (k := 4) rfl rfl (by decide) rfl (fun ls hl => ?_)
          refine lv_goto (tgt := 5) hx hb dX3_ofMood_42 (by decide) ?_
          exact ih v x1 x2 x3 (x4 + 1) ls hP (lv_sub hl [1, 2, 3, 4, 0] rfl) hf
        · have hf := it_1 hf c
          refine lv_aload_n hx hb dX3_ofMood_25 rfl (lv_at hl 0 rfl) ?_
          refine va_get (D := G.1) (ci := 3) (v := .ref (a 12)) (C := RX3) (T := TX3) (N := 8) hx hb hts hinX3 hown hK hP 0 rfl rfl 5 (by decide) lk24 (fun _ h9 => h9) rfl dX3_ofMood_26 ?_
          refine lv_iload hx hb dX3_ofMood_29 (lv_at hl 4 rfl) ?_
          obtain ⟨hi, hf⟩ := ck_1 hf hne
          refine va_iald (f := (v 11)) hx hb hK hP 5 0 rfl rfl (ixb_1 hi) dX3_ofMood_31 ?_
          refine lv_iload_n hx hb dX3_ofMood_32 rfl (lv_at hl 2 rfl) ?_
          refine lv_icmp_ne (tgt := 39) hx hb dX3_ofMood_33 (by decide) (fun c => ?_) (fun c => ?_)
          · have hf := it_2 hf c
            refine lv_iinc (v := (x4 + 1)) (lv' := [(4, .int (x4 + 1)), (0, .ref (a 7)), (1, .int x1), (2, .int x2), (3, .int x3)]) hx hb dX3_ofMood_39 hl (k := 4) rfl rfl (by decide) rfl (fun ls hl => ?_)
            refine lv_goto (tgt := 5) hx hb dX3_ofMood_42 (by decide) ?_
            exact ih v x1 x2 x3 (x4 + 1) ls hP (lv_sub hl [1, 2, 3, 4, 0] rfl) hf
          · have hf := it_1 hf c
            refine lv_iinc (v := (x3 + 1)) (lv' := [(3, .int (x3 + 1)), (0, .ref (a 7)), (1, .int x1), (2, .int x2), (4, .int x4)]) hx hb dX3_ofMood_36 hl (k := 3) rfl rfl (by decide) rfl (fun ls hl => ?_)
            refine lv_iinc (v := (x4 + 1)) (lv' := [(4, .int (x4 + 1)), (3, .int (x3 + 1)), (0, .ref (a 7)), (1, .int x1), (2, .int x2)]) hx hb dX3_ofMood_39 hl (k := 4) rfl rfl (by decide) rfl (fun ls hl => ?_)
            refine lv_goto (tgt := 5) hx hb dX3_ofMood_42 (by decide) ?_
            exact ih v x1 x2 (x3 + 1) (x4 + 1) ls hP (lv_sub hl [2, 3, 4, 1, 0] rfl) hf
  refine lv_iconst (v := 0) hx hb dX3_ofMood_0 (by decide) ?_
  refine lv_istore_n (lv' := [(3, .int 0), (0, .ref (a 7)), (1, .int p1), (2, .int p2)]) hx hb dX3_ofMood_1 rfl hl (by decide) rfl (fun ls hl => ?_)
  refine lv_iconst (v := 0) hx hb dX3_ofMood_2 (by decide) ?_
  refine lv_istore (lv' := [(4, .int 0), (3, .int 0), (0, .ref (a 7)), (1, .int p1), (2, .int p2)]) hx hb dX3_ofMood_3 hl (by decide) rfl (fun ls hl => ?_)
  exact L5 n0 v0 p1 p2 0 0 ls hP (lv_sub hl [2, 3, 4, 1, 0] rfl) hf
set_option maxHeartbeats 4000000 in
set_option maxRecDepth 100000 in
theorem ok_X3_setOf (l : Launch) (G : Gt) (a : Nat → Nat) (n0 : Nat) (v0 : DV) (p1 : Int32) (hne : f_X3_setOf n0 v0 p1 ≠ none) : Met l yX3_setOf wsX3_setOf ({ frames := 0, cells := 0, slots := 0, locals := 0 } : Room) (pcR G [.ref (a 7), .int p1] (lettersC G.2 a v0)) (vp_Sl (fun r => f_X3_setOf n0 v0 p1 = some r)) 0 0 (fun _ => False) := by
  refine Met.ofW (cc := cX3_setOf) (maxL := 5) (ret := (some .long)) (by decide) rfl ?_
  intro p e s m args below meth c s₁ B hml hv
  obtain ⟨rfl, hP, hamb⟩ := hv
  have hx := B.exec
  have hb := B.bytes
  have hr := B.returns
  have hts := atoms_spec (ws := wsX3_setOf) B.pre
  have hown : s.vm.findClass RX3 = some m.cls := findClass_of_methodNamed B.named
  have hlocks := B.notSynchronized
  have hK := hamb.1
  obtain ⟨res, hf0⟩ : ∃ res, f_X3_setOf n0 v0 p1 = res := ⟨_, rfl⟩
  have hne : res ≠ none := hf0 ▸ hne
  have hf := hf0
  rw [f_X3_setOf] at hf
  have hinX3 : ∀ w ∈ u_ws RX3 TX3 8, w ∈ wsX3_setOf := by decide +kernel
  have lk33 := hts (.fieldLink RX3 33 "MoodDrawers$Letters" "written" "I") (by decide +kernel)
  have lk24 := hts (.fieldLink RX3 24 "MoodDrawers$Letters" "how" "[I") (by decide +kernel)
  have hl := lv_entry ([.ref (a 7), .int p1]) (n := 5) (Nat.le_of_ble_eq_true rfl)
  rw [lg_entry_eq]
  generalize (lg_sl ([.ref (a 7), .int p1]) ++ List.replicate (5 - (lg_sl ([.ref (a 7), .int p1])).length) Slot.unset).toArray = ls at hl ⊢
  have hl : lv_has ls 5 [(0, .ref (a 7)), (1, .int p1)] := hl
  have L5 : ∀ (n : Nat) (v : DV) (x1 : Int32) (x2 : Int64) (x4 : Int32) (ls : Array Slot), va_P G.1 vwCl (lettersC G.2 a v) s.heap → lv_has ls 5 [(0, .ref (a 7)), (1, .int x1), (2, .long x2), (4, .int x4)] → f_X3_setOf_L5 n v x1 x2 x4 = res → W p l e (headSpec wsX3_setOf ({ frames := 0, cells := 0, slots := 0, locals := 0 } : Room)).room s m ([.ref (a 7), .int p1] : List Value).toArray below meth c s.heap [] 0 0 (MQ below (vp_Sl (fun r => f_X3_setOf n0 v0 p1 = some r)) ([.ref (a 7), .int p1] : List Value).toArray s 0 0 (fun _ => False)) (F0 m 5 ls []) := by
    intro n
    induction n with
    | zero => intro v x1 x2 x4 ls hP hl hf; exact (none_1 hf hne).elim
    | succ n ih =>
      intro v x1 x2 x4 ls hP hl hf
      rw [f_X3_setOf_L5] at hf
      refine lv_iload hx hb dX3_setOf_5 (lv_at hl 3 rfl) ?_
      refine lv_aload_n hx hb dX3_setOf_7 rfl (lv_at hl 0 rfl) ?_
      refine va_get (D := G.1) (ci := 3) (v := .int (v 1 0)) (C := RX3) (T := TX3) (N := 8) hx hb hts hinX3 hown hK hP 0 rfl rfl 0 (by decide) lk33 (fun _ h9 => h9) rfl dX3_setOf_8 ?_
      refine lv_icmp_ge (tgt := 38) hx hb dX3_setOf_11 (by decide) (fun c => ?_) (fun c => ?_)
      · have hf := it_1 hf c
        refine lv_lload_n hx hb dX3_setOf_38 rfl (lv_at hl 2 rfl) ?_
        exact W.lret (v := x2) hx hb hr (fun t ht hW => ⟨x2, rfl, hf0.trans hf.symm, ht⟩) (fun _ hq => absurd hq List.not_mem_nil) dX3_setOf_39
      · have hf := it_2 hf c
        refine lv_aload_n hx hb dX3_setOf_14 rfl (lv_at hl 0 rfl) ?_
        refine va_get (D := G.1) (ci := 3) (v := .ref (a 12)) (C := RX3) (T := TX3) (N := 8) hx hb hts hinX3 hown hK hP 0 rfl rfl 5 (by decide) lk24 (fun _ h9 => h9) rfl dX3_setOf_15 ?_
        refine lv_iload hx hb dX3_setOf_18 (lv_at hl 3 rfl) ?_
        obtain ⟨hi, hf⟩ := ck_1 hf hne
        refine va_iald (f := (v 11)) hx hb hK hP 5 0 rfl rfl (ixb_1 hi) dX3_setOf_20 ?_
        refine lv_iload_n hx hb dX3_setOf_21 rfl (lv_at hl 1 rfl) ?_
        refine lv_icmp_ne (tgt := 32) hx hb dX3_setOf_22 (by decide) (fun c => ?_) (fun c => ?_)
        · have hf := it_2 hf c
          refine lv_iinc (v := (x4 + 1)) (lv' := [(4, .int (x4 + 1)), (0, .ref (a 7)), (1, .int x1), (2, .long x2)]) hx hb dX3_setOf_32 hl (k := 3) rfl rfl (by decide) rfl (fun ls hl => ?_)
          refine lv_goto (tgt := 5) hx hb dX3_setOf_35 (by decide) ?_
          exact ih v x1 x2 (x4 + 1) ls hP (lv_sub hl [1, 2, 3, 0] rfl) hf
        · have hf := it_1 hf c
          refine lv_lload_n hx hb dX3_setOf_25 rfl (lv_at hl 2 rfl) ?_
          refine lv_lconst (v := 1) hx hb dX3_setOf_26 (by decide) ?_
          refine lv_iload hx hb dX3_setOf_27 (lv_at hl 3 rfl) ?_
          refine lv_lshl hx hb dX3_setOf_29 rfl ?_
          refine lv_lor hx hb dX3_setOf_30 ?_
          refine lv_lstore_n (lv' := [(2, .long (x2 ||| (1 <<< (Int32.toInt64 x4 &&& 63)))), (0, .ref (a 7)), (1, .int x1), (4, .int x4)]) hx hb dX3_setOf_31 rfl hl (by decide) rfl (fun ls hl => ?_)
          refine lv_iinc (v := (x4 + 1)) (lv' := [(4, .int (x4 + 1)), (2, .long (x2 ||| (1 <<< (Int32.toInt64 x4 &&& 63)))), (0, .ref (a 7)), (1, .int x1)]) hx hb dX3_setOf_32 hl (k := 3) rfl rfl (by decide) rfl (fun ls hl => ?_)
          refine lv_goto (tgt := 5) hx hb dX3_setOf_35 (by decide) ?_
          exact ih v x1 (x2 ||| (1 <<< (Int32.toInt64 x4 &&& 63))) (x4 + 1) ls hP (lv_sub hl [2, 3, 1, 0] rfl) hf
  refine lv_lconst (v := 0) hx hb dX3_setOf_0 (by decide) ?_
  refine lv_lstore_n (lv' := [(2, .long 0), (0, .ref (a 7)), (1, .int p1)]) hx hb dX3_setOf_1 rfl hl (by decide) rfl (fun ls hl => ?_)
  refine lv_iconst (v := 0) hx hb dX3_setOf_2 (by decide) ?_
  refine lv_istore (lv' := [(4, .int 0), (2, .long 0), (0, .ref (a 7)), (1, .int p1)]) hx hb dX3_setOf_3 hl (by decide) rfl (fun ls hl => ?_)
  exact L5 n0 v0 p1 0 0 ls hP (lv_sub hl [2, 3, 1, 0] rfl) hf
set_option maxHeartbeats 4000000 in
set_option maxRecDepth 100000 in
theorem ok_X3_answersTo (l : Launch) (G : Gt) (a : Nat → Nat) (n0 : Nat) (v0 : DV) (p1 : Int32) (hne : f_X3_answersTo n0 v0 p1 ≠ none) : Met l yX3_answersTo wsX3_answersTo ({ frames := 0, cells := 0, slots := 0, locals := 0 } : Room) (pcR G [.ref (a 7), .int p1] (lettersC G.2 a v0)) (vp_Si (fun r => f_X3_answersTo n0 v0 p1 = some r)) 0 0 (fun _ => False) := by
  refine Met.ofW (cc := cX3_answersTo) (maxL := 4) (ret := (some .int)) (by decide) rfl ?_
  intro p e s m args below meth c s₁ B hml hv
  obtain ⟨rfl, hP, hamb⟩ := hv
  have hx := B.exec
  have hb := B.bytes
  have hr := B.returns
  have hts := atoms_spec (ws := wsX3_answersTo) B.pre
  have hown : s.vm.findClass RX3 = some m.cls := findClass_of_methodNamed B.named
  have hlocks := B.notSynchronized
  have hK := hamb.1
  obtain ⟨res, hf0⟩ : ∃ res, f_X3_answersTo n0 v0 p1 = res := ⟨_, rfl⟩
  have hne : res ≠ none := hf0 ▸ hne
  have hf := hf0
  rw [f_X3_answersTo] at hf
  have hinX3 : ∀ w ∈ u_ws RX3 TX3 8, w ∈ wsX3_answersTo := by decide +kernel
  have lk33 := hts (.fieldLink RX3 33 "MoodDrawers$Letters" "written" "I") (by decide +kernel)
  have lk21 := hts (.fieldLink RX3 21 "MoodDrawers$Letters" "answered" "[I") (by decide +kernel)
  have hl := lv_entry ([.ref (a 7), .int p1]) (n := 4) (Nat.le_of_ble_eq_true rfl)
  rw [lg_entry_eq]
  generalize (lg_sl ([.ref (a 7), .int p1]) ++ List.replicate (4 - (lg_sl ([.ref (a 7), .int p1])).length) Slot.unset).toArray = ls at hl ⊢
  have hl : lv_has ls 4 [(0, .ref (a 7)), (1, .int p1)] := hl
  have L4 : ∀ (n : Nat) (v : DV) (x1 : Int32) (x2 : Int32) (x3 : Int32) (ls : Array Slot), va_P G.1 vwCl (lettersC G.2 a v) s.heap → lv_has ls 4 [(0, .ref (a 7)), (1, .int x1), (2, .int x2), (3, .int x3)] → f_X3_answersTo_L4 n v x1 x2 x3 = res → W p l e (headSpec wsX3_answersTo ({ frames := 0, cells := 0, slots := 0, locals := 0 } : Room)).room s m ([.ref (a 7), .int p1] : List Value).toArray below meth c s.heap [] 0 0 (MQ below (vp_Si (fun r => f_X3_answersTo n0 v0 p1 = some r)) ([.ref (a 7), .int p1] : List Value).toArray s 0 0 (fun _ => False)) (F0 m 4 ls []) := by
    intro n
    induction n with
    | zero => intro v x1 x2 x3 ls hP hl hf; exact (none_1 hf hne).elim
    | succ n ih =>
      intro v x1 x2 x3 ls hP hl hf
      rw [f_X3_answersTo_L4] at hf
      refine lv_iload_n hx hb dX3_answersTo_4 rfl (lv_at hl 3 rfl) ?_
      refine lv_aload_n hx hb dX3_answersTo_5 rfl (lv_at hl 0 rfl) ?_
      refine va_get (D := G.1) (ci := 3) (v := .int (v 1 0)) (C := RX3) (T := TX3) (N := 8) hx hb hts hinX3 hown hK hP 0 rfl rfl 0 (by decide) lk33 (fun _ h9 => h9) rfl dX3_answersTo_6 ?_
      refine lv_icmp_ge (tgt := 31) hx hb dX3_answersTo_9 (by decide) (fun c => ?_) (fun c => ?_)
      · have hf := it_1 hf c
        refine lv_iload_n hx hb dX3_answersTo_31 rfl (lv_at hl 2 rfl) ?_
        exact W.iret (v := x2) hx hb hr (fun t ht hW => ⟨x2, rfl, hf0.trans hf.symm, ht⟩) (fun _ hq => absurd hq List.not_mem_nil) dX3_answersTo_32
      · have hf := it_2 hf c
        refine lv_aload_n hx hb dX3_answersTo_12 rfl (lv_at hl 0 rfl) ?_
        refine va_get (D := G.1) (ci := 3) (v := .ref (a 11)) (C := RX3) (T := TX3) (N := 8) hx hb hts hinX3 hown hK hP 0 rfl rfl 4 (by decide) lk21 (fun _ h9 => h9) rfl dX3_answersTo_13 ?_
        refine lv_iload_n hx hb dX3_answersTo_16 rfl (lv_at hl 3 rfl) ?_
        obtain ⟨hi, hf⟩ := ck_1 hf hne
        refine va_iald (f := (v 10)) hx hb hK hP 4 0 rfl rfl (ixb_1 hi) dX3_answersTo_17 ?_
        refine lv_iload_n hx hb dX3_answersTo_18 rfl (lv_at hl 1 rfl) ?_
        refine lv_icmp_ne (tgt := 25) hx hb dX3_answersTo_19 (by decide) (fun c => ?_) (fun c => ?_)
        · have hf := it_2 hf c
          refine lv_iinc (v := (x3 + 1)) (lv' := [(3, .int (x3 + 1)), (0, .ref (a 7)), (1, .int x1), (2, .int x2)]) hx hb dX3_answersTo_25 hl (k := 3) rfl rfl (by decide) rfl (fun ls hl => ?_)
          refine lv_goto (tgt := 4) hx hb dX3_answersTo_28 (by decide) ?_
          exact ih v x1 x2 (x3 + 1) ls hP (lv_sub hl [1, 2, 3, 0] rfl) hf
        · have hf := it_1 hf c
          refine lv_iinc (v := (x2 + 1)) (lv' := [(2, .int (x2 + 1)), (0, .ref (a 7)), (1, .int x1), (3, .int x3)]) hx hb dX3_answersTo_22 hl (k := 2) rfl rfl (by decide) rfl (fun ls hl => ?_)
          refine lv_iinc (v := (x3 + 1)) (lv' := [(3, .int (x3 + 1)), (2, .int (x2 + 1)), (0, .ref (a 7)), (1, .int x1)]) hx hb dX3_answersTo_25 hl (k := 3) rfl rfl (by decide) rfl (fun ls hl => ?_)
          refine lv_goto (tgt := 4) hx hb dX3_answersTo_28 (by decide) ?_
          exact ih v x1 (x2 + 1) (x3 + 1) ls hP (lv_sub hl [2, 3, 1, 0] rfl) hf
  refine lv_iconst (v := 0) hx hb dX3_answersTo_0 (by decide) ?_
  refine lv_istore_n (lv' := [(2, .int 0), (0, .ref (a 7)), (1, .int p1)]) hx hb dX3_answersTo_1 rfl hl (by decide) rfl (fun ls hl => ?_)
  refine lv_iconst (v := 0) hx hb dX3_answersTo_2 (by decide) ?_
  refine lv_istore_n (lv' := [(3, .int 0), (2, .int 0), (0, .ref (a 7)), (1, .int p1)]) hx hb dX3_answersTo_3 rfl hl (by decide) rfl (fun ls hl => ?_)
  exact L4 n0 v0 p1 0 0 ls hP (lv_sub hl [2, 3, 1, 0] rfl) hf
set_option maxHeartbeats 4000000 in
set_option maxRecDepth 100000 in
theorem ok_X3_depthOf (l : Launch) (G : Gt) (a : Nat → Nat) (n0 : Nat) (v0 : DV) (p1 : Int32) (hne : f_X3_depthOf n0 v0 p1 ≠ none) : Met l yX3_depthOf wsX3_depthOf ({ frames := 1, cells := 0, slots := 0, locals := 21 } : Room) (pcR G [.ref (a 7), .int p1] (lettersC G.2 a v0)) (vp_Si (fun r => f_X3_depthOf n0 v0 p1 = some r)) 0 0 (fun _ => False) := by
  refine Met.ofW (cc := cX3_depthOf) (maxL := 4) (ret := (some .int)) (by decide) rfl ?_
  intro p e s m args below meth c s₁ B hml hv
  obtain ⟨rfl, hP, hamb⟩ := hv
  have hx := B.exec
  have hb := B.bytes
  have hr := B.returns
  have hts := atoms_spec (ws := wsX3_depthOf) B.pre
  have hown : s.vm.findClass RX3 = some m.cls := findClass_of_methodNamed B.named
  have hlocks := B.notSynchronized
  have hK := hamb.1
  obtain ⟨res, hf0⟩ : ∃ res, f_X3_depthOf n0 v0 p1 = res := ⟨_, rfl⟩
  have hne : res ≠ none := hf0 ▸ hne
  have hf := hf0
  rw [f_X3_depthOf] at hf
  have hinX3 : ∀ w ∈ u_ws RX3 TX3 8, w ∈ wsX3_depthOf := by decide +kernel
  have lk21 := hts (.fieldLink RX3 21 "MoodDrawers$Letters" "answered" "[I") (by decide +kernel)
  have hl := lv_entry ([.ref (a 7), .int p1]) (n := 4) (Nat.le_of_ble_eq_true rfl)
  rw [lg_entry_eq]
  generalize (lg_sl ([.ref (a 7), .int p1]) ++ List.replicate (4 - (lg_sl ([.ref (a 7), .int p1])).length) Slot.unset).toArray = ls at hl ⊢
  have hl : lv_has ls 4 [(0, .ref (a 7)), (1, .int p1)] := hl
  have L9 : ∀ (n : Nat) (v : DV) (x2 : Int32) (x3 : Int32) (ls : Array Slot), va_P G.1 vwCl (lettersC G.2 a v) s.heap → lv_has ls 4 [(0, .ref (a 7)), (2, .int x2), (3, .int x3)] → f_X3_depthOf_L9 n v x2 x3 = res → W p l e (headSpec wsX3_depthOf ({ frames := 1, cells := 0, slots := 0, locals := 21 } : Room)).room s m ([.ref (a 7), .int p1] : List Value).toArray below meth c s.heap [] 0 0 (MQ below (vp_Si (fun r => f_X3_depthOf n0 v0 p1 = some r)) ([.ref (a 7), .int p1] : List Value).toArray s 0 0 (fun _ => False)) (F0 m 9 ls []) := by
    intro n
    induction n with
    | zero => intro v x2 x3 ls hP hl hf; exact (none_1 hf hne).elim
    | succ n ih =>
      intro v x2 x3 ls hP hl hf
      rw [f_X3_depthOf_L9] at hf
      refine lv_aload_n hx hb dX3_depthOf_9 rfl (lv_at hl 0 rfl) ?_
      refine lv_iload_n hx hb dX3_depthOf_10 rfl (lv_at hl 2 rfl) ?_
      refine vp_callSi (W.runV (As := [.int x3]) (rest := []) ⟨hx, hb, hml, hown, hts⟩ (ok_X3_isLetter l G a v x3) (cwV 1 hts gX3_depthOf_X3_isLetter rfl rfl rfl (by decide +kernel) ⟨Nat.le_of_ble_eq_true rfl, Nat.le_of_ble_eq_true rfl⟩) ⟨pcR_blind, va_recv hK hP (ci := 3) (q0 := 0) rfl rfl, pcR_pre hP hamb⟩ rfl rfl hl.1 rfl (lv_room (Nat.le_of_ble_eq_true rfl)) dX3_depthOf_11 ⟨Nat.zero_le _, Nat.zero_le _⟩) (fun r11 hw => ?_)
      subst hw
      refine lv_if_eq (tgt := 36) hx hb dX3_depthOf_14 (by decide) (fun c => ?_) (fun c => ?_)
      · have hf := it_1 hf c
        refine lv_iload_n hx hb dX3_depthOf_36 rfl (lv_at hl 1 rfl) ?_
        exact W.iret (v := x2) hx hb hr (fun t ht hW => ⟨x2, rfl, hf0.trans hf.symm, ht⟩) (fun _ hq => absurd hq List.not_mem_nil) dX3_depthOf_37
      · have hf := it_2 hf c
        refine lv_iload_n hx hb dX3_depthOf_17 rfl (lv_at hl 1 rfl) ?_
        refine lv_bipush (v := 30) hx hb dX3_depthOf_18 (by decide) ?_
        refine lv_icmp_ge (tgt := 36) hx hb dX3_depthOf_20 (by decide) (fun c => ?_) (fun c => ?_)
        · have hf := it_1 hf c
          refine lv_iload_n hx hb dX3_depthOf_36 rfl (lv_at hl 1 rfl) ?_
          exact W.iret (v := x2) hx hb hr (fun t ht hW => ⟨x2, rfl, hf0.trans hf.symm, ht⟩) (fun _ hq => absurd hq List.not_mem_nil) dX3_depthOf_37
        · have hf := it_2 hf c
          refine lv_iinc (v := (x2 + 1)) (lv' := [(2, .int (x2 + 1)), (0, .ref (a 7)), (3, .int x3)]) hx hb dX3_depthOf_23 hl (k := 1) rfl rfl (by decide) rfl (fun ls hl => ?_)
          refine lv_aload_n hx hb dX3_depthOf_26 rfl (lv_at hl 1 rfl) ?_
          refine va_get (D := G.1) (ci := 3) (v := .ref (a 11)) (C := RX3) (T := TX3) (N := 8) hx hb hts hinX3 hown hK hP 0 rfl rfl 4 (by decide) lk21 (fun _ h9 => h9) rfl dX3_depthOf_27 ?_
          refine lv_iload_n hx hb dX3_depthOf_30 rfl (lv_at hl 2 rfl) ?_
          obtain ⟨hi, hf⟩ := ck_1 hf hne
          refine va_iald (f := (v 10)) hx hb hK hP 4 0 rfl rfl (ixb_1 hi) dX3_depthOf_31 ?_
          refine lv_istore_n (lv' := [(3, .int ((v 10) (Int32.toNatClampNeg x3))), (2, .int (x2 + 1)), (0, .ref (a 7))]) hx hb dX3_depthOf_32 rfl hl (by decide) rfl (fun ls hl => ?_)
          refine lv_goto (tgt := 9) hx hb dX3_depthOf_33 (by decide) ?_
          exact ih v (x2 + 1) ((v 10) (Int32.toNatClampNeg x3)) ls hP (lv_sub hl [2, 1, 0] rfl) hf
  refine lv_iconst (v := 0) hx hb dX3_depthOf_0 (by decide) ?_
  refine lv_istore_n (lv' := [(2, .int 0), (0, .ref (a 7)), (1, .int p1)]) hx hb dX3_depthOf_1 rfl hl (by decide) rfl (fun ls hl => ?_)
  refine lv_aload_n hx hb dX3_depthOf_2 rfl (lv_at hl 1 rfl) ?_
  refine va_get (D := G.1) (ci := 3) (v := .ref (a 11)) (C := RX3) (T := TX3) (N := 8) hx hb hts hinX3 hown hK hP 0 rfl rfl 4 (by decide) lk21 (fun _ h9 => h9) rfl dX3_depthOf_3 ?_
  refine lv_iload_n hx hb dX3_depthOf_6 rfl (lv_at hl 2 rfl) ?_
  obtain ⟨hi, hf⟩ := ck_1 hf hne
  refine va_iald (f := (v0 10)) hx hb hK hP 4 0 rfl rfl (ixb_1 hi) dX3_depthOf_7 ?_
  refine lv_istore_n (lv' := [(3, .int ((v0 10) (Int32.toNatClampNeg p1))), (2, .int 0), (0, .ref (a 7)), (1, .int p1)]) hx hb dX3_depthOf_8 rfl hl (by decide) rfl (fun ls hl => ?_)
  exact L9 n0 v0 0 ((v0 10) (Int32.toNatClampNeg p1)) ls hP (lv_sub hl [2, 1, 0] rfl) hf
set_option maxHeartbeats 4000000 in
set_option maxRecDepth 100000 in
theorem ok_X3_copyFrom (l : Launch) (G : Gt) (a b : Nat → Nat) (sz : Nat) (v0 w : DV) (hne : f_X3_copyFrom v0 w ≠ none) : Met l yX3_copyFrom wsX3_copyFrom ({ frames := 2, cells := 0, slots := 0, locals := 61 } : Room) (pcW G [.ref (a 7), .ref (b 7)] (lettersC G.2 a v0 ++ lettersC G.2 b w) sz) (va_Qv (fun (u : DV) => f_X3_copyFrom v0 w = some u) (fun u t => atW G (lettersC G.2 a u ++ lettersC G.2 b w) (va_A (lettersC G.2 a v0 ++ lettersC G.2 b w) sz) t) (va_A (lettersC G.2 a v0 ++ lettersC G.2 b w) sz)) 0 0 (va_A (lettersC G.2 a v0 ++ lettersC G.2 b w) sz) := by
  refine Met.ofW (cc := cX3_copyFrom) (maxL := 2) (ret := none) (by decide) rfl ?_
  intro p e s m args below meth c s₁ B hml hv
  obtain ⟨rfl, hsz, hP, hD0, hamb⟩ := hv
  have hx := B.exec
  have hb := B.bytes
  have hr := B.returns
  have hts := atoms_spec (ws := wsX3_copyFrom) B.pre
  have hown : s.vm.findClass RX3 = some m.cls := findClass_of_methodNamed B.named
  have hlocks := B.notSynchronized
  have hK := hamb.1
  subst hsz
  have hD := hD0.self (sz := s.heap.size)
  generalize hAe : va_A (lettersC G.2 a v0 ++ lettersC G.2 b w) s.heap.size = A at hD ⊢
  have hA : ∀ q : Nat, s.heap.size ≤ q → A q := fun q h => by rw [← hAe]; exact Or.inr h
  have hS : va_S A s.heap s.heap [] := va_S.rf
  obtain ⟨res, hf0⟩ : ∃ res, f_X3_copyFrom v0 w = res := ⟨_, rfl⟩
  have hne : res ≠ none := hf0 ▸ hne
  have hf := hf0
  rw [f_X3_copyFrom] at hf
  have hinX3 : ∀ w ∈ u_ws RX3 TX3 8, w ∈ wsX3_copyFrom := by decide +kernel
  have lk33 := hts (.fieldLink RX3 33 "MoodDrawers$Letters" "written" "I") (by decide +kernel)
  have lk9 := hts (.fieldLink RX3 9 "MoodDrawers$Letters" "mood" "[I") (by decide +kernel)
  have lw2 := hts (.initialized RX6) (by decide +kernel)
  have lw3 := hts (.static yX6_copy) (by decide +kernel)
  have lk15 := hts (.fieldLink RX3 15 "MoodDrawers$Letters" "heat" "[I") (by decide +kernel)
  have lk18 := hts (.fieldLink RX3 18 "MoodDrawers$Letters" "writtenOn" "[I") (by decide +kernel)
  have lk21 := hts (.fieldLink RX3 21 "MoodDrawers$Letters" "answered" "[I") (by decide +kernel)
  have lk24 := hts (.fieldLink RX3 24 "MoodDrawers$Letters" "how" "[I") (by decide +kernel)
  have lk27 := hts (.fieldLink RX3 27 "MoodDrawers$Letters" "sentOn" "[I") (by decide +kernel)
  have lk30 := hts (.fieldLink RX3 30 "MoodDrawers$Letters" "sentHeat" "[I") (by decide +kernel)
  have hl := lv_entry ([.ref (a 7), .ref (b 7)]) (n := 2) (Nat.le_of_ble_eq_true rfl)
  rw [lg_entry_eq]
  generalize (lg_sl ([.ref (a 7), .ref (b 7)]) ++ List.replicate (2 - (lg_sl ([.ref (a 7), .ref (b 7)])).length) Slot.unset).toArray = ls at hl ⊢
  have hl : lv_has ls 2 [(0, .ref (a 7)), (1, .ref (b 7))] := hl
  refine lv_aload_n hx hb dX3_copyFrom_0 rfl (lv_at hl 0 rfl) ?_
  refine lv_aload_n hx hb dX3_copyFrom_1 rfl (lv_at hl 1 rfl) ?_
  refine va_get (D := G.1) (ci := 3) (v := .int (w 1 0)) (C := RX3) (T := TX3) (N := 8) hx hb hts hinX3 hown hK hP 8 rfl rfl 0 (by decide) lk33 (fun _ h9 => h9) rfl dX3_copyFrom_2 ?_
  refine va_put (D := G.1) (ci := 3) (v := .int (w 1 0)) (ty := .int) (C := RX3) (T := TX3) (N := 8) hx hb hts hinX3 tyX3 tyX3_ok nmX3 hown hK hP hD hS 0 rfl rfl 0 (by decide) lk33 (fun _ h9 => h9) rfl (by decide +kernel) rfl rfl (Nat.le_of_ble_eq_true rfl) dX3_copyFrom_5 (fun H locs hP hD hS => ?_)
  have hP : va_P G.1 vwCl (lettersC G.2 a (vs v0 1 (fun _ => (w 1 0))) ++ lettersC G.2 b w) H := hP
  have hD : va_D A (lettersC G.2 a (vs v0 1 (fun _ => (w 1 0))) ++ lettersC G.2 b w) := hD
  refine lv_aload_n hx hb dX3_copyFrom_8 rfl (lv_at hl 1 rfl) ?_
  refine va_get (D := G.1) (ci := 3) (v := .ref (b 8)) (C := RX3) (T := TX3) (N := 8) hx hb hts hinX3 hown hK hP 8 rfl rfl 1 (by decide) lk9 (fun _ h9 => h9) rfl dX3_copyFrom_9 ?_
  refine lv_aload_n hx hb dX3_copyFrom_12 rfl (lv_at hl 0 rfl) ?_
  refine va_get (D := G.1) (ci := 3) (v := .ref (a 8)) (C := RX3) (T := TX3) (N := 8) hx hb hts hinX3 hown hK hP 0 rfl rfl 1 (by decide) lk9 (fun _ h9 => h9) rfl dX3_copyFrom_13 ?_
  refine cwv (va_runSN (As := [.ref (b 8), .ref (a 8)]) (rest := []) ⟨hx, hb, hml, hown, hts⟩ (ok_X6_copy l G (b 8) (a 8) 30 (w 7) (v0 7) H.size (by decide)) ⟨va_cnB 2 hts gX3_copyFrom_X6_copy_n37 rfl rfl rfl (hamb.2.1 (.methodLinkNest RX3 37 yX6_copy RX6) (List.mem_of_getElem? (i := 9) rfl)) lw2 (by decide +kernel) ⟨Nat.le_of_ble_eq_true rfl, Nat.le_of_ble_eq_true rfl⟩, lw3, trivial⟩ ⟨pcW_blind, pcW_pre (hP.sub (ws' := [(b 8, .inl (G.2 0, 30, .inl (w 7))), (a 8, .inl (G.2 0, 30, .inl (v0 7)))]) [9, 1] rfl) (hD.sub (ws' := [(b 8, .inl (G.2 0, 30, .inl (w 7))), (a 8, .inl (G.2 0, 30, .inl (v0 7)))]) [9, 1] (by decide) rfl) hamb⟩ rfl rfl hl.1 rfl (lv_room (Nat.le_of_ble_eq_true rfl)) dX3_copyFrom_16 ⟨Nat.zero_le _, Nat.zero_le _⟩) (wr := [(a 7, .inr (3, [.int ((vs v0 1 (fun _ => (w 1 0))) 1 0), .ref (a 8), .ref (a 9), .ref (a 10), .ref (a 11), .ref (a 12), .ref (a 13), .ref (a 14)])), (a 9, .inl (G.2 0, 30, .inl ((vs v0 1 (fun _ => (w 1 0))) 8))), (a 10, .inl (G.2 0, 30, .inl ((vs v0 1 (fun _ => (w 1 0))) 9))), (a 11, .inl (G.2 0, 30, .inl ((vs v0 1 (fun _ => (w 1 0))) 10))), (a 12, .inl (G.2 0, 30, .inl ((vs v0 1 (fun _ => (w 1 0))) 11))), (a 13, .inl (G.2 0, 30, .inl ((vs v0 1 (fun _ => (w 1 0))) 12))), (a 14, .inl (G.2 0, 30, .inl ((vs v0 1 (fun _ => (w 1 0))) 13))), (b 7, .inr (3, [.int (w 1 0), .ref (b 8), .ref (b 9), .ref (b 10), .ref (b 11), .ref (b 12), .ref (b 13), .ref (b 14)])), (b 9, .inl (G.2 0, 30, .inl (w 8))), (b 10, .inl (G.2 0, 30, .inl (w 9))), (b 11, .inl (G.2 0, 30, .inl (w 10))), (b 12, .inl (G.2 0, 30, .inl (w 11))), (b 13, .inl (G.2 0, 30, .inl (w 12))), (b 14, .inl (G.2 0, 30, .inl (w 13)))]) hP hD hS hA [9, 1] [0, 2, 3, 4, 5, 6, 7, 8, 10, 11, 12, 13, 14, 15] rfl rfl (by decide) (by decide) (fun _ H locs _ hP hD hS => ?_)
  have hP : va_P G.1 vwCl (lettersC G.2 a (vs (vs v0 1 (fun _ => (w 1 0))) 7 (va_cpy (w 7) (v0 7) 0 0 30)) ++ lettersC G.2 b w) H := hP.sub [0, 15, 1, 2, 3, 4, 5, 6, 7, 14, 8, 9, 10, 11, 12, 13] rfl
  have hD : va_D A (lettersC G.2 a (vs (vs v0 1 (fun _ => (w 1 0))) 7 (va_cpy (w 7) (v0 7) 0 0 30)) ++ lettersC G.2 b w) := hD.sub [0, 15, 1, 2, 3, 4, 5, 6, 7, 14, 8, 9, 10, 11, 12, 13] (by decide) rfl
  refine lv_aload_n hx hb dX3_copyFrom_19 rfl (lv_at hl 1 rfl) ?_
  refine va_get (D := G.1) (ci := 3) (v := .ref (b 9)) (C := RX3) (T := TX3) (N := 8) hx hb hts hinX3 hown hK hP 8 rfl rfl 2 (by decide) lk15 (fun _ h9 => h9) rfl dX3_copyFrom_20 ?_
  refine lv_aload_n hx hb dX3_copyFrom_23 rfl (lv_at hl 0 rfl) ?_
  refine va_get (D := G.1) (ci := 3) (v := .ref (a 9)) (C := RX3) (T := TX3) (N := 8) hx hb hts hinX3 hown hK hP 0 rfl rfl 2 (by decide) lk15 (fun _ h9 => h9) rfl dX3_copyFrom_24 ?_
  refine cwv (va_runSN (As := [.ref (b 9), .ref (a 9)]) (rest := []) ⟨hx, hb, hml, hown, hts⟩ (ok_X6_copy l G (b 9) (a 9) 30 (w 8) (v0 8) H.size (by decide)) ⟨va_cnB 2 hts gX3_copyFrom_X6_copy_n37 rfl rfl rfl (hamb.2.1 (.methodLinkNest RX3 37 yX6_copy RX6) (List.mem_of_getElem? (i := 9) rfl)) lw2 (by decide +kernel) ⟨Nat.le_of_ble_eq_true rfl, Nat.le_of_ble_eq_true rfl⟩, lw3, trivial⟩ ⟨pcW_blind, pcW_pre (hP.sub (ws' := [(b 9, .inl (G.2 0, 30, .inl (w 8))), (a 9, .inl (G.2 0, 30, .inl (v0 8)))]) [10, 2] rfl) (hD.sub (ws' := [(b 9, .inl (G.2 0, 30, .inl (w 8))), (a 9, .inl (G.2 0, 30, .inl (v0 8)))]) [10, 2] (by decide) rfl) hamb⟩ rfl rfl hl.1 rfl (lv_room (Nat.le_of_ble_eq_true rfl)) dX3_copyFrom_27 ⟨Nat.zero_le _, Nat.zero_le _⟩) (wr := [(a 7, .inr (3, [.int ((vs (vs v0 1 (fun _ => (w 1 0))) 7 (va_cpy (w 7) (v0 7) 0 0 30)) 1 0), .ref (a 8), .ref (a 9), .ref (a 10), .ref (a 11), .ref (a 12), .ref (a 13), .ref (a 14)])), (a 8, .inl (G.2 0, 30, .inl ((vs (vs v0 1 (fun _ => (w 1 0))) 7 (va_cpy (w 7) (v0 7) 0 0 30)) 7))), (a 10, .inl (G.2 0, 30, .inl ((vs (vs v0 1 (fun _ => (w 1 0))) 7 (va_cpy (w 7) (v0 7) 0 0 30)) 9))), (a 11, .inl (G.2 0, 30, .inl ((vs (vs v0 1 (fun _ => (w 1 0))) 7 (va_cpy (w 7) (v0 7) 0 0 30)) 10))), (a 12, .inl (G.2 0, 30, .inl ((vs (vs v0 1 (fun _ => (w 1 0))) 7 (va_cpy (w 7) (v0 7) 0 0 30)) 11))), (a 13, .inl (G.2 0, 30, .inl ((vs (vs v0 1 (fun _ => (w 1 0))) 7 (va_cpy (w 7) (v0 7) 0 0 30)) 12))), (a 14, .inl (G.2 0, 30, .inl ((vs (vs v0 1 (fun _ => (w 1 0))) 7 (va_cpy (w 7) (v0 7) 0 0 30)) 13))), (b 7, .inr (3, [.int (w 1 0), .ref (b 8), .ref (b 9), .ref (b 10), .ref (b 11), .ref (b 12), .ref (b 13), .ref (b 14)])), (b 8, .inl (G.2 0, 30, .inl (w 7))), (b 10, .inl (G.2 0, 30, .inl (w 9))), (b 11, .inl (G.2 0, 30, .inl (w 10))), (b 12, .inl (G.2 0, 30, .inl (w 11))), (b 13, .inl (G.2 0, 30, .inl (w 12))), (b 14, .inl (G.2 0, 30, .inl (w 13)))]) hP hD hS hA [10, 2] [0, 1, 3, 4, 5, 6, 7, 8, 9, 11, 12, 13, 14, 15] rfl rfl (by decide) (by decide) (fun _ H locs _ hP hD hS => ?_)
  have hP : va_P G.1 vwCl (lettersC G.2 a (vs (vs (vs v0 1 (fun _ => (w 1 0))) 7 (va_cpy (w 7) (v0 7) 0 0 30)) 8 (va_cpy (w 8) (v0 8) 0 0 30)) ++ lettersC G.2 b w) H := hP.sub [0, 1, 15, 2, 3, 4, 5, 6, 7, 8, 14, 9, 10, 11, 12, 13] rfl
  have hD : va_D A (lettersC G.2 a (vs (vs (vs v0 1 (fun _ => (w 1 0))) 7 (va_cpy (w 7) (v0 7) 0 0 30)) 8 (va_cpy (w 8) (v0 8) 0 0 30)) ++ lettersC G.2 b w) := hD.sub [0, 1, 15, 2, 3, 4, 5, 6, 7, 8, 14, 9, 10, 11, 12, 13] (by decide) rfl
  refine lv_aload_n hx hb dX3_copyFrom_30 rfl (lv_at hl 1 rfl) ?_
  refine va_get (D := G.1) (ci := 3) (v := .ref (b 10)) (C := RX3) (T := TX3) (N := 8) hx hb hts hinX3 hown hK hP 8 rfl rfl 3 (by decide) lk18 (fun _ h9 => h9) rfl dX3_copyFrom_31 ?_
  refine lv_aload_n hx hb dX3_copyFrom_34 rfl (lv_at hl 0 rfl) ?_
  refine va_get (D := G.1) (ci := 3) (v := .ref (a 10)) (C := RX3) (T := TX3) (N := 8) hx hb hts hinX3 hown hK hP 0 rfl rfl 3 (by decide) lk18 (fun _ h9 => h9) rfl dX3_copyFrom_35 ?_
  refine cwv (va_runSN (As := [.ref (b 10), .ref (a 10)]) (rest := []) ⟨hx, hb, hml, hown, hts⟩ (ok_X6_copy l G (b 10) (a 10) 30 (w 9) (v0 9) H.size (by decide)) ⟨va_cnB 2 hts gX3_copyFrom_X6_copy_n37 rfl rfl rfl (hamb.2.1 (.methodLinkNest RX3 37 yX6_copy RX6) (List.mem_of_getElem? (i := 9) rfl)) lw2 (by decide +kernel) ⟨Nat.le_of_ble_eq_true rfl, Nat.le_of_ble_eq_true rfl⟩, lw3, trivial⟩ ⟨pcW_blind, pcW_pre (hP.sub (ws' := [(b 10, .inl (G.2 0, 30, .inl (w 9))), (a 10, .inl (G.2 0, 30, .inl (v0 9)))]) [11, 3] rfl) (hD.sub (ws' := [(b 10, .inl (G.2 0, 30, .inl (w 9))), (a 10, .inl (G.2 0, 30, .inl (v0 9)))]) [11, 3] (by decide) rfl) hamb⟩ rfl rfl hl.1 rfl (lv_room (Nat.le_of_ble_eq_true rfl)) dX3_copyFrom_38 ⟨Nat.zero_le _, Nat.zero_le _⟩) (wr := [(a 7, .inr (3, [.int ((vs (vs (vs v0 1 (fun _ => (w 1 0))) 7 (va_cpy (w 7) (v0 7) 0 0 30)) 8 (va_cpy (w 8) (v0 8) 0 0 30)) 1 0), .ref (a 8), .ref (a 9), .ref (a 10), .ref (a 11), .ref (a 12), .ref (a 13), .ref (a 14)])), (a 8, .inl (G.2 0, 30, .inl ((vs (vs (vs v0 1 (fun _ => (w 1 0))) 7 (va_cpy (w 7) (v0 7) 0 0 30)) 8 (va_cpy (w 8) (v0 8) 0 0 30)) 7))), (a 9, .inl (G.2 0, 30, .inl ((vs (vs (vs v0 1 (fun _ => (w 1 0))) 7 (va_cpy (w 7) (v0 7) 0 0 30)) 8 (va_cpy (w 8) (v0 8) 0 0 30)) 8))), (a 11, .inl (G.2 0, 30, .inl ((vs (vs (vs v0 1 (fun _ => (w 1 0))) 7 (va_cpy (w 7) (v0 7) 0 0 30)) 8 (va_cpy (w 8) (v0 8) 0 0 30)) 10))), (a 12, .inl (G.2 0, 30, .inl ((vs (vs (vs v0 1 (fun _ => (w 1 0))) 7 (va_cpy (w 7) (v0 7) 0 0 30)) 8 (va_cpy (w 8) (v0 8) 0 0 30)) 11))), (a 13, .inl (G.2 0, 30, .inl ((vs (vs (vs v0 1 (fun _ => (w 1 0))) 7 (va_cpy (w 7) (v0 7) 0 0 30)) 8 (va_cpy (w 8) (v0 8) 0 0 30)) 12))), (a 14, .inl (G.2 0, 30, .inl ((vs (vs (vs v0 1 (fun _ => (w 1 0))) 7 (va_cpy (w 7) (v0 7) 0 0 30)) 8 (va_cpy (w 8) (v0 8) 0 0 30)) 13))), (b 7, .inr (3, [.int (w 1 0), .ref (b 8), .ref (b 9), .ref (b 10), .ref (b 11), .ref (b 12), .ref (b 13), .ref (b 14)])), (b 8, .inl (G.2 0, 30, .inl (w 7))), (b 9, .inl (G.2 0, 30, .inl (w 8))), (b 11, .inl (G.2 0, 30, .inl (w 10))), (b 12, .inl (G.2 0, 30, .inl (w 11))), (b 13, .inl (G.2 0, 30, .inl (w 12))), (b 14, .inl (G.2 0, 30, .inl (w 13)))]) hP hD hS hA [11, 3] [0, 1, 2, 4, 5, 6, 7, 8, 9, 10, 12, 13, 14, 15] rfl rfl (by decide) (by decide) (fun _ H locs _ hP hD hS => ?_)
  have hP : va_P G.1 vwCl (lettersC G.2 a (vs (vs (vs (vs v0 1 (fun _ => (w 1 0))) 7 (va_cpy (w 7) (v0 7) 0 0 30)) 8 (va_cpy (w 8) (v0 8) 0 0 30)) 9 (va_cpy (w 9) (v0 9) 0 0 30)) ++ lettersC G.2 b w) H := hP.sub [0, 1, 2, 15, 3, 4, 5, 6, 7, 8, 9, 14, 10, 11, 12, 13] rfl
  have hD : va_D A (lettersC G.2 a (vs (vs (vs (vs v0 1 (fun _ => (w 1 0))) 7 (va_cpy (w 7) (v0 7) 0 0 30)) 8 (va_cpy (w 8) (v0 8) 0 0 30)) 9 (va_cpy (w 9) (v0 9) 0 0 30)) ++ lettersC G.2 b w) := hD.sub [0, 1, 2, 15, 3, 4, 5, 6, 7, 8, 9, 14, 10, 11, 12, 13] (by decide) rfl
  refine lv_aload_n hx hb dX3_copyFrom_41 rfl (lv_at hl 1 rfl) ?_
  refine va_get (D := G.1) (ci := 3) (v := .ref (b 11)) (C := RX3) (T := TX3) (N := 8) hx hb hts hinX3 hown hK hP 8 rfl rfl 4 (by decide) lk21 (fun _ h9 => h9) rfl dX3_copyFrom_42 ?_
  refine lv_aload_n hx hb dX3_copyFrom_45 rfl (lv_at hl 0 rfl) ?_
  refine va_get (D := G.1) (ci := 3) (v := .ref (a 11)) (C := RX3) (T := TX3) (N := 8) hx hb hts hinX3 hown hK hP 0 rfl rfl 4 (by decide) lk21 (fun _ h9 => h9) rfl dX3_copyFrom_46 ?_
  refine cwv (va_runSN (As := [.ref (b 11), .ref (a 11)]) (rest := []) ⟨hx, hb, hml, hown, hts⟩ (ok_X6_copy l G (b 11) (a 11) 30 (w 10) (v0 10) H.size (by decide)) ⟨va_cnB 2 hts gX3_copyFrom_X6_copy_n37 rfl rfl rfl (hamb.2.1 (.methodLinkNest RX3 37 yX6_copy RX6) (List.mem_of_getElem? (i := 9) rfl)) lw2 (by decide +kernel) ⟨Nat.le_of_ble_eq_true rfl, Nat.le_of_ble_eq_true rfl⟩, lw3, trivial⟩ ⟨pcW_blind, pcW_pre (hP.sub (ws' := [(b 11, .inl (G.2 0, 30, .inl (w 10))), (a 11, .inl (G.2 0, 30, .inl (v0 10)))]) [12, 4] rfl) (hD.sub (ws' := [(b 11, .inl (G.2 0, 30, .inl (w 10))), (a 11, .inl (G.2 0, 30, .inl (v0 10)))]) [12, 4] (by decide) rfl) hamb⟩ rfl rfl hl.1 rfl (lv_room (Nat.le_of_ble_eq_true rfl)) dX3_copyFrom_49 ⟨Nat.zero_le _, Nat.zero_le _⟩) (wr := [(a 7, .inr (3, [.int ((vs (vs (vs (vs v0 1 (fun _ => (w 1 0))) 7 (va_cpy (w 7) (v0 7) 0 0 30)) 8 (va_cpy (w 8) (v0 8) 0 0 30)) 9 (va_cpy (w 9) (v0 9) 0 0 30)) 1 0), .ref (a 8), .ref (a 9), .ref (a 10), .ref (a 11), .ref (a 12), .ref (a 13), .ref (a 14)])), (a 8, .inl (G.2 0, 30, .inl ((vs (vs (vs (vs v0 1 (fun _ => (w 1 0))) 7 (va_cpy (w 7) (v0 7) 0 0 30)) 8 (va_cpy (w 8) (v0 8) 0 0 30)) 9 (va_cpy (w 9) (v0 9) 0 0 30)) 7))), (a 9, .inl (G.2 0, 30, .inl ((vs (vs (vs (vs v0 1 (fun _ => (w 1 0))) 7 (va_cpy (w 7) (v0 7) 0 0 30)) 8 (va_cpy (w 8) (v0 8) 0 0 30)) 9 (va_cpy (w 9) (v0 9) 0 0 30)) 8))), (a 10, .inl (G.2 0, 30, .inl ((vs (vs (vs (vs v0 1 (fun _ => (w 1 0))) 7 (va_cpy (w 7) (v0 7) 0 0 30)) 8 (va_cpy (w 8) (v0 8) 0 0 30)) 9 (va_cpy (w 9) (v0 9) 0 0 30)) 9))), (a 12, .inl (G.2 0, 30, .inl ((vs (vs (vs (vs v0 1 (fun _ => (w 1 0))) 7 (va_cpy (w 7) (v0 7) 0 0 30)) 8 (va_cpy (w 8) (v0 8) 0 0 30)) 9 (va_cpy (w 9) (v0 9) 0 0 30)) 11))), (a 13, .inl (G.2 0, 30, .inl ((vs (vs (vs (vs v0 1 (fun _ => (w 1 0))) 7 (va_cpy (w 7) (v0 7) 0 0 30)) 8 (va_cpy (w 8) (v0 8) 0 0 30)) 9 (va_cpy (w 9) (v0 9) 0 0 30)) 12))), (a 14, .inl (G.2 0, 30, .inl ((vs (vs (vs (vs v0 1 (fun _ => (w 1 0))) 7 (va_cpy (w 7) (v0 7) 0 0 30)) 8 (va_cpy (w 8) (v0 8) 0 0 30)) 9 (va_cpy (w 9) (v0 9) 0 0 30)) 13))), (b 7, .inr (3, [.int (w 1 0), .ref (b 8), .ref (b 9), .ref (b 10), .ref (b 11), .ref (b 12), .ref (b 13), .ref (b 14)])), (b 8, .inl (G.2 0, 30, .inl (w 7))), (b 9, .inl (G.2 0, 30, .inl (w 8))), (b 10, .inl (G.2 0, 30, .inl (w 9))), (b 12, .inl (G.2 0, 30, .inl (w 11))), (b 13, .inl (G.2 0, 30, .inl (w 12))), (b 14, .inl (G.2 0, 30, .inl (w 13)))]) hP hD hS hA [12, 4] [0, 1, 2, 3, 5, 6, 7, 8, 9, 10, 11, 13, 14, 15] rfl rfl (by decide) (by decide) (fun _ H locs _ hP hD hS => ?_)
  have hP : va_P G.1 vwCl (lettersC G.2 a (vs (vs (vs (vs (vs v0 1 (fun _ => (w 1 0))) 7 (va_cpy (w 7) (v0 7) 0 0 30)) 8 (va_cpy (w 8) (v0 8) 0 0 30)) 9 (va_cpy (w 9) (v0 9) 0 0 30)) 10 (va_cpy (w 10) (v0 10) 0 0 30)) ++ lettersC G.2 b w) H := hP.sub [0, 1, 2, 3, 15, 4, 5, 6, 7, 8, 9, 10, 14, 11, 12, 13] rfl
  have hD : va_D A (lettersC G.2 a (vs (vs (vs (vs (vs v0 1 (fun _ => (w 1 0))) 7 (va_cpy (w 7) (v0 7) 0 0 30)) 8 (va_cpy (w 8) (v0 8) 0 0 30)) 9 (va_cpy (w 9) (v0 9) 0 0 30)) 10 (va_cpy (w 10) (v0 10) 0 0 30)) ++ lettersC G.2 b w) := hD.sub [0, 1, 2, 3, 15, 4, 5, 6, 7, 8, 9, 10, 14, 11, 12, 13] (by decide) rfl
  refine lv_aload_n hx hb dX3_copyFrom_52 rfl (lv_at hl 1 rfl) ?_
  refine va_get (D := G.1) (ci := 3) (v := .ref (b 12)) (C := RX3) (T := TX3) (N := 8) hx hb hts hinX3 hown hK hP 8 rfl rfl 5 (by decide) lk24 (fun _ h9 => h9) rfl dX3_copyFrom_53 ?_
  refine lv_aload_n hx hb dX3_copyFrom_56 rfl (lv_at hl 0 rfl) ?_
  refine va_get (D := G.1) (ci := 3) (v := .ref (a 12)) (C := RX3) (T := TX3) (N := 8) hx hb hts hinX3 hown hK hP 0 rfl rfl 5 (by decide) lk24 (fun _ h9 => h9) rfl dX3_copyFrom_57 ?_
  refine cwv (va_runSN (As := [.ref (b 12), .ref (a 12)]) (rest := []) ⟨hx, hb, hml, hown, hts⟩ (ok_X6_copy l G (b 12) (a 12) 30 (w 11) (v0 11) H.size (by decide)) ⟨va_cnB 2 hts gX3_copyFrom_X6_copy_n37 rfl rfl rfl (hamb.2.1 (.methodLinkNest RX3 37 yX6_copy RX6) (List.mem_of_getElem? (i := 9) rfl)) lw2 (by decide +kernel) ⟨Nat.le_of_ble_eq_true rfl, Nat.le_of_ble_eq_true rfl⟩, lw3, trivial⟩ ⟨pcW_blind, pcW_pre (hP.sub (ws' := [(b 12, .inl (G.2 0, 30, .inl (w 11))), (a 12, .inl (G.2 0, 30, .inl (v0 11)))]) [13, 5] rfl) (hD.sub (ws' := [(b 12, .inl (G.2 0, 30, .inl (w 11))), (a 12, .inl (G.2 0, 30, .inl (v0 11)))]) [13, 5] (by decide) rfl) hamb⟩ rfl rfl hl.1 rfl (lv_room (Nat.le_of_ble_eq_true rfl)) dX3_copyFrom_60 ⟨Nat.zero_le _, Nat.zero_le _⟩) (wr := [(a 7, .inr (3, [.int ((vs (vs (vs (vs (vs v0 1 (fun _ => (w 1 0))) 7 (va_cpy (w 7) (v0 7) 0 0 30)) 8 (va_cpy (w 8) (v0 8) 0 0 30)) 9 (va_cpy (w 9) (v0 9) 0 0 30)) 10 (va_cpy (w 10) (v0 10) 0 0 30)) 1 0), .ref (a 8), .ref (a 9), .ref (a 10), .ref (a 11), .ref (a 12), .ref (a 13), .ref (a 14)])), (a 8, .inl (G.2 0, 30, .inl ((vs (vs (vs (vs (vs v0 1 (fun _ => (w 1 0))) 7 (va_cpy (w 7) (v0 7) 0 0 30)) 8 (va_cpy (w 8) (v0 8) 0 0 30)) 9 (va_cpy (w 9) (v0 9) 0 0 30)) 10 (va_cpy (w 10) (v0 10) 0 0 30)) 7))), (a 9, .inl (G.2 0, 30, .inl ((vs (vs (vs (vs (vs v0 1 (fun _ => (w 1 0))) 7 (va_cpy (w 7) (v0 7) 0 0 30)) 8 (va_cpy (w 8) (v0 8) 0 0 30)) 9 (va_cpy (w 9) (v0 9) 0 0 30)) 10 (va_cpy (w 10) (v0 10) 0 0 30)) 8))), (a 10, .inl (G.2 0, 30, .inl ((vs (vs (vs (vs (vs v0 1 (fun _ => (w 1 0))) 7 (va_cpy (w 7) (v0 7) 0 0 30)) 8 (va_cpy (w 8) (v0 8) 0 0 30)) 9 (va_cpy (w 9) (v0 9) 0 0 30)) 10 (va_cpy (w 10) (v0 10) 0 0 30)) 9))), (a 11, .inl (G.2 0, 30, .inl ((vs (vs (vs (vs (vs v0 1 (fun _ => (w 1 0))) 7 (va_cpy (w 7) (v0 7) 0 0 30)) 8 (va_cpy (w 8) (v0 8) 0 0 30)) 9 (va_cpy (w 9) (v0 9) 0 0 30)) 10 (va_cpy (w 10) (v0 10) 0 0 30)) 10))), (a 13, .inl (G.2 0, 30, .inl ((vs (vs (vs (vs (vs v0 1 (fun _ => (w 1 0))) 7 (va_cpy (w 7) (v0 7) 0 0 30)) 8 (va_cpy (w 8) (v0 8) 0 0 30)) 9 (va_cpy (w 9) (v0 9) 0 0 30)) 10 (va_cpy (w 10) (v0 10) 0 0 30)) 12))), (a 14, .inl (G.2 0, 30, .inl ((vs (vs (vs (vs (vs v0 1 (fun _ => (w 1 0))) 7 (va_cpy (w 7) (v0 7) 0 0 30)) 8 (va_cpy (w 8) (v0 8) 0 0 30)) 9 (va_cpy (w 9) (v0 9) 0 0 30)) 10 (va_cpy (w 10) (v0 10) 0 0 30)) 13))), (b 7, .inr (3, [.int (w 1 0), .ref (b 8), .ref (b 9), .ref (b 10), .ref (b 11), .ref (b 12), .ref (b 13), .ref (b 14)])), (b 8, .inl (G.2 0, 30, .inl (w 7))), (b 9, .inl (G.2 0, 30, .inl (w 8))), (b 10, .inl (G.2 0, 30, .inl (w 9))), (b 11, .inl (G.2 0, 30, .inl (w 10))), (b 13, .inl (G.2 0, 30, .inl (w 12))), (b 14, .inl (G.2 0, 30, .inl (w 13)))]) hP hD hS hA [13, 5] [0, 1, 2, 3, 4, 6, 7, 8, 9, 10, 11, 12, 14, 15] rfl rfl (by decide) (by decide) (fun _ H locs _ hP hD hS => ?_)
  have hP : va_P G.1 vwCl (lettersC G.2 a (vs (vs (vs (vs (vs (vs v0 1 (fun _ => (w 1 0))) 7 (va_cpy (w 7) (v0 7) 0 0 30)) 8 (va_cpy (w 8) (v0 8) 0 0 30)) 9 (va_cpy (w 9) (v0 9) 0 0 30)) 10 (va_cpy (w 10) (v0 10) 0 0 30)) 11 (va_cpy (w 11) (v0 11) 0 0 30)) ++ lettersC G.2 b w) H := hP.sub [0, 1, 2, 3, 4, 15, 5, 6, 7, 8, 9, 10, 11, 14, 12, 13] rfl
  have hD : va_D A (lettersC G.2 a (vs (vs (vs (vs (vs (vs v0 1 (fun _ => (w 1 0))) 7 (va_cpy (w 7) (v0 7) 0 0 30)) 8 (va_cpy (w 8) (v0 8) 0 0 30)) 9 (va_cpy (w 9) (v0 9) 0 0 30)) 10 (va_cpy (w 10) (v0 10) 0 0 30)) 11 (va_cpy (w 11) (v0 11) 0 0 30)) ++ lettersC G.2 b w) := hD.sub [0, 1, 2, 3, 4, 15, 5, 6, 7, 8, 9, 10, 11, 14, 12, 13] (by decide) rfl
  refine lv_aload_n hx hb dX3_copyFrom_63 rfl (lv_at hl 1 rfl) ?_
  refine va_get (D := G.1) (ci := 3) (v := .ref (b 13)) (C := RX3) (T := TX3) (N := 8) hx hb hts hinX3 hown hK hP 8 rfl rfl 6 (by decide) lk27 (fun _ h9 => h9) rfl dX3_copyFrom_64 ?_
  refine lv_aload_n hx hb dX3_copyFrom_67 rfl (lv_at hl 0 rfl) ?_
  refine va_get (D := G.1) (ci := 3) (v := .ref (a 13)) (C := RX3) (T := TX3) (N := 8) hx hb hts hinX3 hown hK hP 0 rfl rfl 6 (by decide) lk27 (fun _ h9 => h9) rfl dX3_copyFrom_68 ?_
  refine cwv (va_runSN (As := [.ref (b 13), .ref (a 13)]) (rest := []) ⟨hx, hb, hml, hown, hts⟩ (ok_X6_copy l G (b 13) (a 13) 30 (w 12) (v0 12) H.size (by decide)) ⟨va_cnB 2 hts gX3_copyFrom_X6_copy_n37 rfl rfl rfl (hamb.2.1 (.methodLinkNest RX3 37 yX6_copy RX6) (List.mem_of_getElem? (i := 9) rfl)) lw2 (by decide +kernel) ⟨Nat.le_of_ble_eq_true rfl, Nat.le_of_ble_eq_true rfl⟩, lw3, trivial⟩ ⟨pcW_blind, pcW_pre (hP.sub (ws' := [(b 13, .inl (G.2 0, 30, .inl (w 12))), (a 13, .inl (G.2 0, 30, .inl (v0 12)))]) [14, 6] rfl) (hD.sub (ws' := [(b 13, .inl (G.2 0, 30, .inl (w 12))), (a 13, .inl (G.2 0, 30, .inl (v0 12)))]) [14, 6] (by decide) rfl) hamb⟩ rfl rfl hl.1 rfl (lv_room (Nat.le_of_ble_eq_true rfl)) dX3_copyFrom_71 ⟨Nat.zero_le _, Nat.zero_le _⟩) (wr := [(a 7, .inr (3, [.int ((vs (vs (vs (vs (vs (vs v0 1 (fun _ => (w 1 0))) 7 (va_cpy (w 7) (v0 7) 0 0 30)) 8 (va_cpy (w 8) (v0 8) 0 0 30)) 9 (va_cpy (w 9) (v0 9) 0 0 30)) 10 (va_cpy (w 10) (v0 10) 0 0 30)) 11 (va_cpy (w 11) (v0 11) 0 0 30)) 1 0), .ref (a 8), .ref (a 9), .ref (a 10), .ref (a 11), .ref (a 12), .ref (a 13), .ref (a 14)])), (a 8, .inl (G.2 0, 30, .inl ((vs (vs (vs (vs (vs (vs v0 1 (fun _ => (w 1 0))) 7 (va_cpy (w 7) (v0 7) 0 0 30)) 8 (va_cpy (w 8) (v0 8) 0 0 30)) 9 (va_cpy (w 9) (v0 9) 0 0 30)) 10 (va_cpy (w 10) (v0 10) 0 0 30)) 11 (va_cpy (w 11) (v0 11) 0 0 30)) 7))), (a 9, .inl (G.2 0, 30, .inl ((vs (vs (vs (vs (vs (vs v0 1 (fun _ => (w 1 0))) 7 (va_cpy (w 7) (v0 7) 0 0 30)) 8 (va_cpy (w 8) (v0 8) 0 0 30)) 9 (va_cpy (w 9) (v0 9) 0 0 30)) 10 (va_cpy (w 10) (v0 10) 0 0 30)) 11 (va_cpy (w 11) (v0 11) 0 0 30)) 8))), (a 10, .inl (G.2 0, 30, .inl ((vs (vs (vs (vs (vs (vs v0 1 (fun _ => (w 1 0))) 7 (va_cpy (w 7) (v0 7) 0 0 30)) 8 (va_cpy (w 8) (v0 8) 0 0 30)) 9 (va_cpy (w 9) (v0 9) 0 0 30)) 10 (va_cpy (w 10) (v0 10) 0 0 30)) 11 (va_cpy (w 11) (v0 11) 0 0 30)) 9))), (a 11, .inl (G.2 0, 30, .inl ((vs (vs (vs (vs (vs (vs v0 1 (fun _ => (w 1 0))) 7 (va_cpy (w 7) (v0 7) 0 0 30)) 8 (va_cpy (w 8) (v0 8) 0 0 30)) 9 (va_cpy (w 9) (v0 9) 0 0 30)) 10 (va_cpy (w 10) (v0 10) 0 0 30)) 11 (va_cpy (w 11) (v0 11) 0 0 30)) 10))), (a 12, .inl (G.2 0, 30, .inl ((vs (vs (vs (vs (vs (vs v0 1 (fun _ => (w 1 0))) 7 (va_cpy (w 7) (v0 7) 0 0 30)) 8 (va_cpy (w 8) (v0 8) 0 0 30)) 9 (va_cpy (w 9) (v0 9) 0 0 30)) 10 (va_cpy (w 10) (v0 10) 0 0 30)) 11 (va_cpy (w 11) (v0 11) 0 0 30)) 11))), (a 14, .inl (G.2 0, 30, .inl ((vs (vs (vs (vs (vs (vs v0 1 (fun _ => (w 1 0))) 7 (va_cpy (w 7) (v0 7) 0 0 30)) 8 (va_cpy (w 8) (v0 8) 0 0 30)) 9 (va_cpy (w 9) (v0 9) 0 0 30)) 10 (va_cpy (w 10) (v0 10) 0 0 30)) 11 (va_cpy (w 11) (v0 11) 0 0 30)) 13))), (b 7, .inr (3, [.int (w 1 0), .ref (b 8), .ref (b 9), .ref (b 10), .ref (b 11), .ref (b 12), .ref (b 13), .ref (b 14)])), (b 8, .inl (G.2 0, 30, .inl (w 7))), (b 9, .inl (G.2 0, 30, .inl (w 8))), (b 10, .inl (G.2 0, 30, .inl (w 9))), (b 11, .inl (G.2 0, 30, .inl (w 10))), (b 12, .inl (G.2 0, 30, .inl (w 11))), (b 14, .inl (G.2 0, 30, .inl (w 13)))]) hP hD hS hA [14, 6] [0, 1, 2, 3, 4, 5, 7, 8, 9, 10, 11, 12, 13, 15] rfl rfl (by decide) (by decide) (fun _ H locs _ hP hD hS => ?_)
  have hP : va_P G.1 vwCl (lettersC G.2 a (vs (vs (vs (vs (vs (vs (vs v0 1 (fun _ => (w 1 0))) 7 (va_cpy (w 7) (v0 7) 0 0 30)) 8 (va_cpy (w 8) (v0 8) 0 0 30)) 9 (va_cpy (w 9) (v0 9) 0 0 30)) 10 (va_cpy (w 10) (v0 10) 0 0 30)) 11 (va_cpy (w 11) (v0 11) 0 0 30)) 12 (va_cpy (w 12) (v0 12) 0 0 30)) ++ lettersC G.2 b w) H := hP.sub [0, 1, 2, 3, 4, 5, 15, 6, 7, 8, 9, 10, 11, 12, 14, 13] rfl
  have hD : va_D A (lettersC G.2 a (vs (vs (vs (vs (vs (vs (vs v0 1 (fun _ => (w 1 0))) 7 (va_cpy (w 7) (v0 7) 0 0 30)) 8 (va_cpy (w 8) (v0 8) 0 0 30)) 9 (va_cpy (w 9) (v0 9) 0 0 30)) 10 (va_cpy (w 10) (v0 10) 0 0 30)) 11 (va_cpy (w 11) (v0 11) 0 0 30)) 12 (va_cpy (w 12) (v0 12) 0 0 30)) ++ lettersC G.2 b w) := hD.sub [0, 1, 2, 3, 4, 5, 15, 6, 7, 8, 9, 10, 11, 12, 14, 13] (by decide) rfl
  refine lv_aload_n hx hb dX3_copyFrom_74 rfl (lv_at hl 1 rfl) ?_
  refine va_get (D := G.1) (ci := 3) (v := .ref (b 14)) (C := RX3) (T := TX3) (N := 8) hx hb hts hinX3 hown hK hP 8 rfl rfl 7 (by decide) lk30 (fun _ h9 => h9) rfl dX3_copyFrom_75 ?_
  refine lv_aload_n hx hb dX3_copyFrom_78 rfl (lv_at hl 0 rfl) ?_
  refine va_get (D := G.1) (ci := 3) (v := .ref (a 14)) (C := RX3) (T := TX3) (N := 8) hx hb hts hinX3 hown hK hP 0 rfl rfl 7 (by decide) lk30 (fun _ h9 => h9) rfl dX3_copyFrom_79 ?_
  refine cwv (va_runSN (As := [.ref (b 14), .ref (a 14)]) (rest := []) ⟨hx, hb, hml, hown, hts⟩ (ok_X6_copy l G (b 14) (a 14) 30 (w 13) (v0 13) H.size (by decide)) ⟨va_cnB 2 hts gX3_copyFrom_X6_copy_n37 rfl rfl rfl (hamb.2.1 (.methodLinkNest RX3 37 yX6_copy RX6) (List.mem_of_getElem? (i := 9) rfl)) lw2 (by decide +kernel) ⟨Nat.le_of_ble_eq_true rfl, Nat.le_of_ble_eq_true rfl⟩, lw3, trivial⟩ ⟨pcW_blind, pcW_pre (hP.sub (ws' := [(b 14, .inl (G.2 0, 30, .inl (w 13))), (a 14, .inl (G.2 0, 30, .inl (v0 13)))]) [15, 7] rfl) (hD.sub (ws' := [(b 14, .inl (G.2 0, 30, .inl (w 13))), (a 14, .inl (G.2 0, 30, .inl (v0 13)))]) [15, 7] (by decide) rfl) hamb⟩ rfl rfl hl.1 rfl (lv_room (Nat.le_of_ble_eq_true rfl)) dX3_copyFrom_82 ⟨Nat.zero_le _, Nat.zero_le _⟩) (wr := [(a 7, .inr (3, [.int ((vs (vs (vs (vs (vs (vs (vs v0 1 (fun _ => (w 1 0))) 7 (va_cpy (w 7) (v0 7) 0 0 30)) 8 (va_cpy (w 8) (v0 8) 0 0 30)) 9 (va_cpy (w 9) (v0 9) 0 0 30)) 10 (va_cpy (w 10) (v0 10) 0 0 30)) 11 (va_cpy (w 11) (v0 11) 0 0 30)) 12 (va_cpy (w 12) (v0 12) 0 0 30)) 1 0), .ref (a 8), .ref (a 9), .ref (a 10), .ref (a 11), .ref (a 12), .ref (a 13), .ref (a 14)])), (a 8, .inl (G.2 0, 30, .inl ((vs (vs (vs (vs (vs (vs (vs v0 1 (fun _ => (w 1 0))) 7 (va_cpy (w 7) (v0 7) 0 0 30)) 8 (va_cpy (w 8) (v0 8) 0 0 30)) 9 (va_cpy (w 9) (v0 9) 0 0 30)) 10 (va_cpy (w 10) (v0 10) 0 0 30)) 11 (va_cpy (w 11) (v0 11) 0 0 30)) 12 (va_cpy (w 12) (v0 12) 0 0 30)) 7))), (a 9, .inl (G.2 0, 30, .inl ((vs (vs (vs (vs (vs (vs (vs v0 1 (fun _ => (w 1 0))) 7 (va_cpy (w 7) (v0 7) 0 0 30)) 8 (va_cpy (w 8) (v0 8) 0 0 30)) 9 (va_cpy (w 9) (v0 9) 0 0 30)) 10 (va_cpy (w 10) (v0 10) 0 0 30)) 11 (va_cpy (w 11) (v0 11) 0 0 30)) 12 (va_cpy (w 12) (v0 12) 0 0 30)) 8))), (a 10, .inl (G.2 0, 30, .inl ((vs (vs (vs (vs (vs (vs (vs v0 1 (fun _ => (w 1 0))) 7 (va_cpy (w 7) (v0 7) 0 0 30)) 8 (va_cpy (w 8) (v0 8) 0 0 30)) 9 (va_cpy (w 9) (v0 9) 0 0 30)) 10 (va_cpy (w 10) (v0 10) 0 0 30)) 11 (va_cpy (w 11) (v0 11) 0 0 30)) 12 (va_cpy (w 12) (v0 12) 0 0 30)) 9))), (a 11, .inl (G.2 0, 30, .inl ((vs (vs (vs (vs (vs (vs (vs v0 1 (fun _ => (w 1 0))) 7 (va_cpy (w 7) (v0 7) 0 0 30)) 8 (va_cpy (w 8) (v0 8) 0 0 30)) 9 (va_cpy (w 9) (v0 9) 0 0 30)) 10 (va_cpy (w 10) (v0 10) 0 0 30)) 11 (va_cpy (w 11) (v0 11) 0 0 30)) 12 (va_cpy (w 12) (v0 12) 0 0 30)) 10))), (a 12, .inl (G.2 0, 30, .inl ((vs (vs (vs (vs (vs (vs (vs v0 1 (fun _ => (w 1 0))) 7 (va_cpy (w 7) (v0 7) 0 0 30)) 8 (va_cpy (w 8) (v0 8) 0 0 30)) 9 (va_cpy (w 9) (v0 9) 0 0 30)) 10 (va_cpy (w 10) (v0 10) 0 0 30)) 11 (va_cpy (w 11) (v0 11) 0 0 30)) 12 (va_cpy (w 12) (v0 12) 0 0 30)) 11))), (a 13, .inl (G.2 0, 30, .inl ((vs (vs (vs (vs (vs (vs (vs v0 1 (fun _ => (w 1 0))) 7 (va_cpy (w 7) (v0 7) 0 0 30)) 8 (va_cpy (w 8) (v0 8) 0 0 30)) 9 (va_cpy (w 9) (v0 9) 0 0 30)) 10 (va_cpy (w 10) (v0 10) 0 0 30)) 11 (va_cpy (w 11) (v0 11) 0 0 30)) 12 (va_cpy (w 12) (v0 12) 0 0 30)) 12))), (b 7, .inr (3, [.int (w 1 0), .ref (b 8), .ref (b 9), .ref (b 10), .ref (b 11), .ref (b 12), .ref (b 13), .ref (b 14)])), (b 8, .inl (G.2 0, 30, .inl (w 7))), (b 9, .inl (G.2 0, 30, .inl (w 8))), (b 10, .inl (G.2 0, 30, .inl (w 9))), (b 11, .inl (G.2 0, 30, .inl (w 10))), (b 12, .inl (G.2 0, 30, .inl (w 11))), (b 13, .inl (G.2 0, 30, .inl (w 12)))]) hP hD hS hA [15, 7] [0, 1, 2, 3, 4, 5, 6, 8, 9, 10, 11, 12, 13, 14] rfl rfl (by decide) (by decide) (fun _ H locs _ hP hD hS => ?_)
  have hP : va_P G.1 vwCl (lettersC G.2 a (vs (vs (vs (vs (vs (vs (vs (vs v0 1 (fun _ => (w 1 0))) 7 (va_cpy (w 7) (v0 7) 0 0 30)) 8 (va_cpy (w 8) (v0 8) 0 0 30)) 9 (va_cpy (w 9) (v0 9) 0 0 30)) 10 (va_cpy (w 10) (v0 10) 0 0 30)) 11 (va_cpy (w 11) (v0 11) 0 0 30)) 12 (va_cpy (w 12) (v0 12) 0 0 30)) 13 (va_cpy (w 13) (v0 13) 0 0 30)) ++ lettersC G.2 b w) H := hP.sub [0, 1, 2, 3, 4, 5, 6, 15, 7, 8, 9, 10, 11, 12, 13, 14] rfl
  have hD : va_D A (lettersC G.2 a (vs (vs (vs (vs (vs (vs (vs (vs v0 1 (fun _ => (w 1 0))) 7 (va_cpy (w 7) (v0 7) 0 0 30)) 8 (va_cpy (w 8) (v0 8) 0 0 30)) 9 (va_cpy (w 9) (v0 9) 0 0 30)) 10 (va_cpy (w 10) (v0 10) 0 0 30)) 11 (va_cpy (w 11) (v0 11) 0 0 30)) 12 (va_cpy (w 12) (v0 12) 0 0 30)) 13 (va_cpy (w 13) (v0 13) 0 0 30)) ++ lettersC G.2 b w) := hD.sub [0, 1, 2, 3, 4, 5, 6, 15, 7, 8, 9, 10, 11, 12, 13, 14] (by decide) rfl
  exact W.vret hx hb hr (fun t ht hW => ⟨⟨(vs (vs (vs (vs (vs (vs (vs (vs v0 1 (fun _ => (w 1 0))) 7 (va_cpy (w 7) (v0 7) 0 0 30)) 8 (va_cpy (w 8) (v0 8) 0 0 30)) 9 (va_cpy (w 9) (v0 9) 0 0 30)) 10 (va_cpy (w 10) (v0 10) 0 0 30)) 11 (va_cpy (w 11) (v0 11) 0 0 30)) 12 (va_cpy (w 12) (v0 12) 0 0 30)) 13 (va_cpy (w 13) (v0 13) 0 0 30)), rfl, hf0.trans hf.symm, by rw [ht]; exact hP, hD⟩, hS.F ht⟩) hS.2.2 dX3_copyFrom_85
set_option maxHeartbeats 4000000 in
set_option maxRecDepth 100000 in
theorem ok_X6_isMood (l : Launch) (p0 : Int32) : Met l yX6_isMood wsX6_isMood ({ frames := 0, cells := 0, slots := 0, locals := 0 } : Room) (va_Pc [.int p0] (fun _ => True)) (vp_Si (fun r => r = f_X6_isMood p0)) 0 0 (fun _ => False) := by
  refine Met.ofW (cc := cX6_isMood) (maxL := 1) (ret := (some .boolean)) (by decide) rfl ?_
  intro p e s m args below meth c s₁ B hml hv
  obtain ⟨rfl, -⟩ := hv
  have hx := B.exec
  have hb := B.bytes
  have hr := B.returns
  have hts := atoms_spec (ws := wsX6_isMood) B.pre
  have hown : s.vm.findClass RX6 = some m.cls := findClass_of_methodNamed B.named
  have hlocks := B.notSynchronized
  obtain ⟨res, hf0⟩ : ∃ res, f_X6_isMood p0 = res := ⟨_, rfl⟩
  have hf := hf0
  rw [f_X6_isMood] at hf
  have hl := lv_entry ([.int p0]) (n := 1) (Nat.le_of_ble_eq_true rfl)
  rw [lg_entry_eq]
  generalize (lg_sl ([.int p0]) ++ List.replicate (1 - (lg_sl ([.int p0])).length) Slot.unset).toArray = ls at hl ⊢
  have hl : lv_has ls 1 [(0, .int p0)] := hl
  refine lv_iload_n hx hb dX6_isMood_0 rfl (lv_at hl 0 rfl) ?_
  refine lv_if_lt (tgt := 14) hx hb dX6_isMood_1 (by decide) (fun c => ?_) (fun c => ?_)
  · have hf := it_1 hf c
    refine lv_iconst (v := 0) hx hb dX6_isMood_14 (by decide) ?_
    exact W.zret (ty := .boolean) (v := 0) hx hb hr rfl (fun t ht hW => ⟨0, rfl, hf.trans hf0.symm, ht⟩) (fun _ hq => absurd hq List.not_mem_nil) dX6_isMood_15
  · have hf := it_2 hf c
    refine lv_iload_n hx hb dX6_isMood_4 rfl (lv_at hl 0 rfl) ?_
    refine lv_bipush (v := 6) hx hb dX6_isMood_5 (by decide) ?_
    refine lv_icmp_ge (tgt := 14) hx hb dX6_isMood_7 (by decide) (fun c => ?_) (fun c => ?_)
    · have hf := it_1 hf c
      refine lv_iconst (v := 0) hx hb dX6_isMood_14 (by decide) ?_
      exact W.zret (ty := .boolean) (v := 0) hx hb hr rfl (fun t ht hW => ⟨0, rfl, hf.trans hf0.symm, ht⟩) (fun _ hq => absurd hq List.not_mem_nil) dX6_isMood_15
    · have hf := it_2 hf c
      refine lv_iconst (v := 1) hx hb dX6_isMood_10 (by decide) ?_
      refine lv_goto (tgt := 15) hx hb dX6_isMood_11 (by decide) ?_
      exact W.zret (ty := .boolean) (v := 1) hx hb hr rfl (fun t ht hW => ⟨1, rfl, hf.trans hf0.symm, ht⟩) (fun _ hq => absurd hq List.not_mem_nil) dX6_isMood_15
set_option maxHeartbeats 4000000 in
set_option maxRecDepth 100000 in
theorem ok_X6_isHour (l : Launch) (p0 : Int32) : Met l yX6_isHour wsX6_isHour ({ frames := 0, cells := 0, slots := 0, locals := 0 } : Room) (va_Pc [.int p0] (fun _ => True)) (vp_Si (fun r => r = f_X6_isHour p0)) 0 0 (fun _ => False) := by
  refine Met.ofW (cc := cX6_isHour) (maxL := 1) (ret := (some .boolean)) (by decide) rfl ?_
  intro p e s m args below meth c s₁ B hml hv
  obtain ⟨rfl, -⟩ := hv
  have hx := B.exec
  have hb := B.bytes
  have hr := B.returns
  have hts := atoms_spec (ws := wsX6_isHour) B.pre
  have hown : s.vm.findClass RX6 = some m.cls := findClass_of_methodNamed B.named
  have hlocks := B.notSynchronized
  obtain ⟨res, hf0⟩ : ∃ res, f_X6_isHour p0 = res := ⟨_, rfl⟩
  have hf := hf0
  rw [f_X6_isHour] at hf
  have hl := lv_entry ([.int p0]) (n := 1) (Nat.le_of_ble_eq_true rfl)
  rw [lg_entry_eq]
  generalize (lg_sl ([.int p0]) ++ List.replicate (1 - (lg_sl ([.int p0])).length) Slot.unset).toArray = ls at hl ⊢
  have hl : lv_has ls 1 [(0, .int p0)] := hl
  refine lv_iload_n hx hb dX6_isHour_0 rfl (lv_at hl 0 rfl) ?_
  refine lv_if_lt (tgt := 14) hx hb dX6_isHour_1 (by decide) (fun c => ?_) (fun c => ?_)
  · have hf := it_1 hf c
    refine lv_iconst (v := 0) hx hb dX6_isHour_14 (by decide) ?_
    exact W.zret (ty := .boolean) (v := 0) hx hb hr rfl (fun t ht hW => ⟨0, rfl, hf.trans hf0.symm, ht⟩) (fun _ hq => absurd hq List.not_mem_nil) dX6_isHour_15
  · have hf := it_2 hf c
    refine lv_iload_n hx hb dX6_isHour_4 rfl (lv_at hl 0 rfl) ?_
    refine lv_bipush (v := 24) hx hb dX6_isHour_5 (by decide) ?_
    refine lv_icmp_ge (tgt := 14) hx hb dX6_isHour_7 (by decide) (fun c => ?_) (fun c => ?_)
    · have hf := it_1 hf c
      refine lv_iconst (v := 0) hx hb dX6_isHour_14 (by decide) ?_
      exact W.zret (ty := .boolean) (v := 0) hx hb hr rfl (fun t ht hW => ⟨0, rfl, hf.trans hf0.symm, ht⟩) (fun _ hq => absurd hq List.not_mem_nil) dX6_isHour_15
    · have hf := it_2 hf c
      refine lv_iconst (v := 1) hx hb dX6_isHour_10 (by decide) ?_
      refine lv_goto (tgt := 15) hx hb dX6_isHour_11 (by decide) ?_
      exact W.zret (ty := .boolean) (v := 1) hx hb hr rfl (fun t ht hW => ⟨1, rfl, hf.trans hf0.symm, ht⟩) (fun _ hq => absurd hq List.not_mem_nil) dX6_isHour_15
set_option maxHeartbeats 4000000 in
set_option maxRecDepth 100000 in
theorem ok_X6_bitsOf (l : Launch) (n0 : Nat) (p0 : UInt64) (p2 : Int32) (p3 : Int32) (hne : f_X6_bitsOf n0 p0 p2 p3 ≠ none) : Met l yX6_bitsOf wsX6_bitsOf ({ frames := 0, cells := 0, slots := 0, locals := 0 } : Room) (va_Pc [.double p0, .int p2, .int p3] (fun _ => True)) (vp_Sl (fun r => f_X6_bitsOf n0 p0 p2 p3 = some r)) 0 0 (fun _ => False) := by
  refine Met.ofW (cc := cX6_bitsOf) (maxL := 9) (ret := (some .long)) (by decide) rfl ?_
  intro p e s m args below meth c s₁ B hml hv
  obtain ⟨rfl, -⟩ := hv
  have hx := B.exec
  have hb := B.bytes
  have hr := B.returns
  have hts := atoms_spec (ws := wsX6_bitsOf) B.pre
  have hown : s.vm.findClass RX6 = some m.cls := findClass_of_methodNamed B.named
  have hlocks := B.notSynchronized
  obtain ⟨res, hf0⟩ : ∃ res, f_X6_bitsOf n0 p0 p2 p3 = res := ⟨_, rfl⟩
  have hne : res ≠ none := hf0 ▸ hne
  have hf := hf0
  rw [f_X6_bitsOf] at hf
  have lw0 := hts (.constantDouble RX6 266 (4611686018427387904)) (by decide +kernel)
  have hl := lv_entry ([.double p0, .int p2, .int p3]) (n := 9) (Nat.le_of_ble_eq_true rfl)
  rw [lg_entry_eq]
  generalize (lg_sl ([.double p0, .int p2, .int p3]) ++ List.replicate (9 - (lg_sl ([.double p0, .int p2, .int p3])).length) Slot.unset).toArray = ls at hl ⊢
  have hl : lv_has ls 9 [(0, .double p0), (2, .int p2), (3, .int p3)] := hl
  have J72 : ∀ (n : Nat) (x2 : Int32) (x3 : Int32) (x4 : Int32) (x5 : UInt64) (ls : Array Slot), lv_has ls 9 [(2, .int x2), (3, .int x3), (4, .int x4), (5, .double x5)] → f_X6_bitsOf_J72 n x2 x3 x4 x5 = res → W p l e (headSpec wsX6_bitsOf ({ frames := 0, cells := 0, slots := 0, locals := 0 } : Room)).room s m ([.double p0, .int p2, .int p3] : List Value).toArray below meth c s.heap [] 0 0 (MQ below (vp_Sl (fun r => f_X6_bitsOf n0 p0 p2 p3 = some r)) ([.double p0, .int p2, .int p3] : List Value).toArray s 0 0 (fun _ => False)) (F0 m 72 ls []) := by
    intro n x2 x3 x4 x5 ls hl hf
    rw [f_X6_bitsOf_J72] at hf
    refine lv_dload hx hb dX6_bitsOf_72 (lv_at hl 3 rfl) ?_
    refine lv_dconst1 hx hb dX6_bitsOf_74 ?_
    obtain ⟨hd, hf⟩ := ck_1 hf hne
    refine lv_dsub hx hb dX6_bitsOf_75 (nn64_1 hd) ?_
    refine lv_lconst (v := 1) hx hb dX6_bitsOf_76 (by decide) ?_
    refine lv_iload_n hx hb dX6_bitsOf_77 rfl (lv_at hl 1 rfl) ?_
    refine lv_lshl hx hb dX6_bitsOf_78 rfl ?_
    refine lv_l2d hx hb dX6_bitsOf_79 ?_
    obtain ⟨hd, hf⟩ := ck_1 hf hne
    refine lv_dmul hx hb dX6_bitsOf_80 (nn64_1 hd) ?_
    refine lv_d2l hx hb dX6_bitsOf_81 ?_
    refine lv_lstore (lv' := [(7, .long (FP.d2l (FP.dmul (FP.dsub x5 FP.dconst1) (FP.l2d (1 <<< (Int32.toInt64 x3 &&& 63)))))), (2, .int x2), (3, .int x3), (4, .int x4), (5, .double x5)]) hx hb dX6_bitsOf_82 hl (by decide) rfl (fun ls hl => ?_)
    refine lv_iload hx hb dX6_bitsOf_84 (lv_at hl 3 rfl) ?_
    refine lv_iload_n hx hb dX6_bitsOf_86 rfl (lv_at hl 1 rfl) ?_
    refine lv_iadd hx hb dX6_bitsOf_87 ?_
    refine lv_i2l hx hb dX6_bitsOf_88 rfl ?_
    refine lv_iload_n hx hb dX6_bitsOf_89 rfl (lv_at hl 2 rfl) ?_
    refine lv_lshl hx hb dX6_bitsOf_90 rfl ?_
    refine lv_lload hx hb dX6_bitsOf_91 (lv_at hl 0 rfl) ?_
    refine lv_ladd hx hb dX6_bitsOf_93 ?_
    exact W.lret (v := (((Int32.toInt64 (x4 + x2)) <<< (Int32.toInt64 x3 &&& 63)) + (FP.d2l (FP.dmul (FP.dsub x5 FP.dconst1) (FP.l2d (1 <<< (Int32.toInt64 x3 &&& 63))))))) hx hb hr (fun t ht hW => ⟨(((Int32.toInt64 (x4 + x2)) <<< (Int32.toInt64 x3 &&& 63)) + (FP.d2l (FP.dmul (FP.dsub x5 FP.dconst1) (FP.l2d (1 <<< (Int32.toInt64 x3 &&& 63)))))), rfl, hf0.trans hf.symm, ht⟩) (fun _ hq => absurd hq List.not_mem_nil) dX6_bitsOf_94
  have L43 : ∀ (n : Nat) (x2 : Int32) (x3 : Int32) (x4 : Int32) (x5 : UInt64) (ls : Array Slot), lv_has ls 9 [(2, .int x2), (3, .int x3), (4, .int x4), (5, .double x5)] → f_X6_bitsOf_L43 n x2 x3 x4 x5 = res → W p l e (headSpec wsX6_bitsOf ({ frames := 0, cells := 0, slots := 0, locals := 0 } : Room)).room s m ([.double p0, .int p2, .int p3] : List Value).toArray below meth c s.heap [] 0 0 (MQ below (vp_Sl (fun r => f_X6_bitsOf n0 p0 p2 p3 = some r)) ([.double p0, .int p2, .int p3] : List Value).toArray s 0 0 (fun _ => False)) (F0 m 43 ls []) := by
    intro n
    induction n with
    | zero => intro x2 x3 x4 x5 ls hl hf; exact (none_1 hf hne).elim
    | succ n ih =>
      intro x2 x3 x4 x5 ls hl hf
      rw [f_X6_bitsOf_L43] at hf
      refine lv_dload hx hb dX6_bitsOf_43 (lv_at hl 3 rfl) ?_
      refine lv_dconst1 hx hb dX6_bitsOf_45 ?_
      refine lv_dcmp hx hb dX6_bitsOf_46 ?_
      refine lv_if_ge (tgt := 72) hx hb dX6_bitsOf_47 (by decide) (fun c => ?_) (fun c => ?_)
      · have hf := it_1 hf c
        exact J72 n x2 x3 x4 x5 ls (lv_sub hl [0, 1, 2, 3] rfl) hf
      · have hf := it_2 hf c
        refine lv_iload hx hb dX6_bitsOf_50 (lv_at hl 2 rfl) ?_
        refine lv_iconst (v := 1) hx hb dX6_bitsOf_52 (by decide) ?_
        refine lv_iload_n hx hb dX6_bitsOf_53 rfl (lv_at hl 0 rfl) ?_
        refine lv_isub hx hb dX6_bitsOf_54 ?_
        refine lv_icmp_le (tgt := 72) hx hb dX6_bitsOf_55 (by decide) (fun c => ?_) (fun c => ?_)
        · have hf := it_1 hf c
          exact J72 n x2 x3 x4 x5 ls (lv_sub hl [0, 1, 2, 3] rfl) hf
        · have hf := it_2 hf c
          refine lv_dload hx hb dX6_bitsOf_58 (lv_at hl 3 rfl) ?_
          refine lv_ldc2d (v := 4611686018427387904) hx hb hown lw0 dX6_bitsOf_60 ?_
          obtain ⟨hd, hf⟩ := ck_1 hf hne
          refine lv_dmul hx hb dX6_bitsOf_63 (nn64_1 hd) ?_
          refine lv_dstore (lv' := [(5, .double (FP.dmul x5 4611686018427387904)), (2, .int x2), (3, .int x3), (4, .int x4)]) hx hb dX6_bitsOf_64 hl (by decide) rfl (fun ls hl => ?_)
          refine lv_iinc (v := (x4 + (-1))) (lv' := [(4, .int (x4 + (-1))), (5, .double (FP.dmul x5 4611686018427387904)), (2, .int x2), (3, .int x3)]) hx hb dX6_bitsOf_66 hl (k := 3) rfl rfl (by decide) rfl (fun ls hl => ?_)
          refine lv_goto (tgt := 43) hx hb dX6_bitsOf_69 (by decide) ?_
          exact ih x2 x3 (x4 + (-1)) (FP.dmul x5 4611686018427387904) ls (lv_sub hl [2, 3, 0, 1] rfl) hf
  have L14 : ∀ (n : Nat) (x2 : Int32) (x3 : Int32) (x4 : Int32) (x5 : UInt64) (ls : Array Slot), lv_has ls 9 [(2, .int x2), (3, .int x3), (4, .int x4), (5, .double x5)] → f_X6_bitsOf_L14 n x2 x3 x4 x5 = res → W p l e (headSpec wsX6_bitsOf ({ frames := 0, cells := 0, slots := 0, locals := 0 } : Room)).room s m ([.double p0, .int p2, .int p3] : List Value).toArray below meth c s.heap [] 0 0 (MQ below (vp_Sl (fun r => f_X6_bitsOf n0 p0 p2 p3 = some r)) ([.double p0, .int p2, .int p3] : List Value).toArray s 0 0 (fun _ => False)) (F0 m 14 ls []) := by
    intro n
    induction n with
    | zero => intro x2 x3 x4 x5 ls hl hf; exact (none_1 hf hne).elim
    | succ n ih =>
      intro x2 x3 x4 x5 ls hl hf
      rw [f_X6_bitsOf_L14] at hf
      refine lv_dload hx hb dX6_bitsOf_14 (lv_at hl 3 rfl) ?_
      refine lv_ldc2d (v := 4611686018427387904) hx hb hown lw0 dX6_bitsOf_16 ?_
      refine lv_dcmp hx hb dX6_bitsOf_19 ?_
      refine lv_if_lt (tgt := 43) hx hb dX6_bitsOf_20 (by decide) (fun c => ?_) (fun c => ?_)
      · have hf := it_1 hf c
        exact L43 n x2 x3 x4 x5 ls (lv_sub hl [0, 1, 2, 3] rfl) hf
      · have hf := it_2 hf c
        refine lv_iload hx hb dX6_bitsOf_23 (lv_at hl 2 rfl) ?_
        refine lv_iload_n hx hb dX6_bitsOf_25 rfl (lv_at hl 0 rfl) ?_
        refine lv_icmp_ge (tgt := 43) hx hb dX6_bitsOf_26 (by decide) (fun c => ?_) (fun c => ?_)
        · have hf := it_1 hf c
          exact L43 n x2 x3 x4 x5 ls (lv_sub hl [0, 1, 2, 3] rfl) hf
        · have hf := it_2 hf c
          refine lv_dload hx hb dX6_bitsOf_29 (lv_at hl 3 rfl) ?_
          refine lv_ldc2d (v := 4611686018427387904) hx hb hown lw0 dX6_bitsOf_31 ?_
          obtain ⟨hd, hf⟩ := ck_1 hf hne
          refine lv_ddiv hx hb dX6_bitsOf_34 (nn64_1 hd) ?_
          refine lv_dstore (lv' := [(5, .double (FP.ddiv x5 4611686018427387904)), (2, .int x2), (3, .int x3), (4, .int x4)]) hx hb dX6_bitsOf_35 hl (by decide) rfl (fun ls hl => ?_)
          refine lv_iinc (v := (x4 + 1)) (lv' := [(4, .int (x4 + 1)), (5, .double (FP.ddiv x5 4611686018427387904)), (2, .int x2), (3, .int x3)]) hx hb dX6_bitsOf_37 hl (k := 3) rfl rfl (by decide) rfl (fun ls hl => ?_)
          refine lv_goto (tgt := 14) hx hb dX6_bitsOf_40 (by decide) ?_
          exact ih x2 x3 (x4 + 1) (FP.ddiv x5 4611686018427387904) ls (lv_sub hl [2, 3, 0, 1] rfl) hf
  refine lv_dload_n hx hb dX6_bitsOf_0 rfl (lv_at hl 0 rfl) ?_
  refine lv_dconst0 hx hb dX6_bitsOf_1 ?_
  refine lv_dcmp hx hb dX6_bitsOf_2 ?_
  refine lv_if_gt (tgt := 8) hx hb dX6_bitsOf_3 (by decide) (fun c => ?_) (fun c => ?_)
  · have hf := it_1 hf c
    refine lv_iconst (v := 0) hx hb dX6_bitsOf_8 (by decide) ?_
    refine lv_istore (lv' := [(4, .int 0), (0, .double p0), (2, .int p2), (3, .int p3)]) hx hb dX6_bitsOf_9 hl (by decide) rfl (fun ls hl => ?_)
    refine lv_dload_n hx hb dX6_bitsOf_11 rfl (lv_at hl 1 rfl) ?_
    refine lv_dstore (lv' := [(5, .double p0), (4, .int 0), (0, .double p0), (2, .int p2), (3, .int p3)]) hx hb dX6_bitsOf_12 hl (by decide) rfl (fun ls hl => ?_)
    exact L14 n0 p2 p3 0 p0 ls (lv_sub hl [3, 4, 1, 0] rfl) hf
  · have hf := it_2 hf c
    refine lv_lconst (v := 0) hx hb dX6_bitsOf_6 (by decide) ?_
    exact W.lret (v := 0) hx hb hr (fun t ht hW => ⟨0, rfl, hf0.trans hf.symm, ht⟩) (fun _ hq => absurd hq List.not_mem_nil) dX6_bitsOf_7
set_option maxHeartbeats 4000000 in
set_option maxRecDepth 100000 in
theorem ok_J13_bitCount_95d88 (l : Launch) (p0 : Int64) : Met l yJ13_bitCount_95d88 wsJ13_bitCount_95d88 ({ frames := 0, cells := 0, slots := 0, locals := 0 } : Room) (va_Pc [.long p0] (fun _ => True)) (vp_Si (fun r => r = f_J13_bitCount_95d88 p0)) 0 0 (fun _ => False) := by
  refine va_MetF (cc := cJ13_bitCount_95d88) (maxL := 2) (ret := (some .int)) (by decide +kernel) rfl ?_
  intro p e s m args below meth c s₁ B hml hv
  obtain ⟨rfl, -⟩ := hv
  have hx := B.exec
  have hb := B.bytes
  have hr := B.returns
  have hts := atoms_spec (ws := wsJ13_bitCount_95d88) B.pre
  have hown : s.vm.findClass RJ13 = some m.cls := findClass_of_methodNamed B.named
  have hlocks := B.notSynchronized
  obtain ⟨res, hf0⟩ : ∃ res, f_J13_bitCount_95d88 p0 = res := ⟨_, rfl⟩
  have hf := hf0
  rw [f_J13_bitCount_95d88] at hf
  have lw0 := hts (.constantLong RJ13 314 (6148914691236517205)) (by decide +kernel)
  have lw1 := hts (.constantLong RJ13 316 (3689348814741910323)) (by decide +kernel)
  have lw2 := hts (.constantLong RJ13 318 (1085102592571150095)) (by decide +kernel)
  have hl := lv_entry ([.long p0]) (n := 2) (Nat.le_of_ble_eq_true rfl)
  rw [lg_entry_eq]
  generalize (lg_sl ([.long p0]) ++ List.replicate (2 - (lg_sl ([.long p0])).length) Slot.unset).toArray = ls at hl ⊢
  have hl : lv_has ls 2 [(0, .long p0)] := hl
  have J55 : ∀ (x0 : Int64) (ls : Array Slot), lv_has ls 2 [(0, .long x0)] → f_J13_bitCount_95d88_J55 x0 = res → W p l e (headSpec wsJ13_bitCount_95d88 ({ frames := 0, cells := 0, slots := 0, locals := 0 } : Room)).room s m ([.long p0] : List Value).toArray below meth c s.heap [] 0 0 (MQ below (vp_Si (fun r => r = f_J13_bitCount_95d88 p0)) ([.long p0] : List Value).toArray s 0 0 (fun _ => False)) (F0 m 55 ls []) := by
    intro x0 ls hl hf
    rw [f_J13_bitCount_95d88_J55] at hf
    refine lv_lload_n hx hb dJ13_bitCount_95d88_55 rfl (lv_at hl 0 rfl) ?_
    refine lv_l2i hx hb dJ13_bitCount_95d88_56 rfl ?_
    refine lv_bipush (v := 127) hx hb dJ13_bitCount_95d88_57 (by decide) ?_
    refine lv_iand hx hb dJ13_bitCount_95d88_59 ?_
    exact W.iret (v := ((Int64.toInt32 x0) &&& 127)) hx hb hr (fun t ht hW => ⟨((Int64.toInt32 x0) &&& 127), rfl, hf.trans hf0.symm, ht⟩) (fun _ hq => absurd hq List.not_mem_nil) dJ13_bitCount_95d88_60
  have J48 : ∀ (x0 : Int64) (ls : Array Slot), lv_has ls 2 [(0, .long x0)] → f_J13_bitCount_95d88_J48 x0 = res → W p l e (headSpec wsJ13_bitCount_95d88 ({ frames := 0, cells := 0, slots := 0, locals := 0 } : Room)).room s m ([.long p0] : List Value).toArray below meth c s.heap [] 0 0 (MQ below (vp_Si (fun r => r = f_J13_bitCount_95d88 p0)) ([.long p0] : List Value).toArray s 0 0 (fun _ => False)) (F0 m 48 ls []) := by
    intro x0 ls hl hf
    rw [f_J13_bitCount_95d88_J48] at hf
    refine lv_lload_n hx hb dJ13_bitCount_95d88_48 rfl (lv_at hl 0 rfl) ?_
    refine lv_lload_n hx hb dJ13_bitCount_95d88_49 rfl (lv_at hl 0 rfl) ?_
    refine lv_bipush (v := 32) hx hb dJ13_bitCount_95d88_50 (by decide) ?_
    refine lv_lushr hx hb dJ13_bitCount_95d88_52 rfl ?_
    refine lv_ladd hx hb dJ13_bitCount_95d88_53 ?_
    refine lv_lstore_n (lv' := [(0, .long (x0 + (UInt64.toInt64 (Int64.toUInt64 x0 >>> (Int64.toUInt64 (Int32.toInt64 32) &&& Int64.toUInt64 63)))))]) hx hb dJ13_bitCount_95d88_54 rfl hl (by decide) rfl (fun ls hl => ?_)
    exact J55 (x0 + (UInt64.toInt64 (Int64.toUInt64 x0 >>> (Int64.toUInt64 (Int32.toInt64 32) &&& Int64.toUInt64 63)))) ls (lv_sub hl [0] rfl) hf
  have J41 : ∀ (x0 : Int64) (ls : Array Slot), lv_has ls 2 [(0, .long x0)] → f_J13_bitCount_95d88_J41 x0 = res → W p l e (headSpec wsJ13_bitCount_95d88 ({ frames := 0, cells := 0, slots := 0, locals := 0 } : Room)).room s m ([.long p0] : List Value).toArray below meth c s.heap [] 0 0 (MQ below (vp_Si (fun r => r = f_J13_bitCount_95d88 p0)) ([.long p0] : List Value).toArray s 0 0 (fun _ => False)) (F0 m 41 ls []) := by
    intro x0 ls hl hf
    rw [f_J13_bitCount_95d88_J41] at hf
    refine lv_lload_n hx hb dJ13_bitCount_95d88_41 rfl (lv_at hl 0 rfl) ?_
    refine lv_lload_n hx hb dJ13_bitCount_95d88_42 rfl (lv_at hl 0 rfl) ?_
    refine lv_bipush (v := 16) hx hb dJ13_bitCount_95d88_43 (by decide) ?_
    refine lv_lushr hx hb dJ13_bitCount_95d88_45 rfl ?_
    refine lv_ladd hx hb dJ13_bitCount_95d88_46 ?_
    refine lv_lstore_n (lv' := [(0, .long (x0 + (UInt64.toInt64 (Int64.toUInt64 x0 >>> (Int64.toUInt64 (Int32.toInt64 16) &&& Int64.toUInt64 63)))))]) hx hb dJ13_bitCount_95d88_47 rfl hl (by decide) rfl (fun ls hl => ?_)
    exact J48 (x0 + (UInt64.toInt64 (Int64.toUInt64 x0 >>> (Int64.toUInt64 (Int32.toInt64 16) &&& Int64.toUInt64 63)))) ls (lv_sub hl [0] rfl) hf
  have J34 : ∀ (x0 : Int64) (ls : Array Slot), lv_has ls 2 [(0, .long x0)] → f_J13_bitCount_95d88_J34 x0 = res → W p l e (headSpec wsJ13_bitCount_95d88 ({ frames := 0, cells := 0, slots := 0, locals := 0 } : Room)).room s m ([.long p0] : List Value).toArray below meth c s.heap [] 0 0 (MQ below (vp_Si (fun r => r = f_J13_bitCount_95d88 p0)) ([.long p0] : List Value).toArray s 0 0 (fun _ => False)) (F0 m 34 ls []) := by
    intro x0 ls hl hf
    rw [f_J13_bitCount_95d88_J34] at hf
    refine lv_lload_n hx hb dJ13_bitCount_95d88_34 rfl (lv_at hl 0 rfl) ?_
    refine lv_lload_n hx hb dJ13_bitCount_95d88_35 rfl (lv_at hl 0 rfl) ?_
    refine lv_bipush (v := 8) hx hb dJ13_bitCount_95d88_36 (by decide) ?_
    refine lv_lushr hx hb dJ13_bitCount_95d88_38 rfl ?_
    refine lv_ladd hx hb dJ13_bitCount_95d88_39 ?_
    refine lv_lstore_n (lv' := [(0, .long (x0 + (UInt64.toInt64 (Int64.toUInt64 x0 >>> (Int64.toUInt64 (Int32.toInt64 8) &&& Int64.toUInt64 63)))))]) hx hb dJ13_bitCount_95d88_40 rfl hl (by decide) rfl (fun ls hl => ?_)
    exact J41 (x0 + (UInt64.toInt64 (Int64.toUInt64 x0 >>> (Int64.toUInt64 (Int32.toInt64 8) &&& Int64.toUInt64 63)))) ls (lv_sub hl [0] rfl) hf
  have J24 : ∀ (x0 : Int64) (ls : Array Slot), lv_has ls 2 [(0, .long x0)] → f_J13_bitCount_95d88_J24 x0 = res → W p l e (headSpec wsJ13_bitCount_95d88 ({ frames := 0, cells := 0, slots := 0, locals := 0 } : Room)).room s m ([.long p0] : List Value).toArray below meth c s.heap [] 0 0 (MQ below (vp_Si (fun r => r = f_J13_bitCount_95d88 p0)) ([.long p0] : List Value).toArray s 0 0 (fun _ => False)) (F0 m 24 ls []) := by
    intro x0 ls hl hf
    rw [f_J13_bitCount_95d88_J24] at hf
    refine lv_lload_n hx hb dJ13_bitCount_95d88_24 rfl (lv_at hl 0 rfl) ?_
    refine lv_lload_n hx hb dJ13_bitCount_95d88_25 rfl (lv_at hl 0 rfl) ?_
    refine lv_iconst (v := 4) hx hb dJ13_bitCount_95d88_26 (by decide) ?_
    refine lv_lushr hx hb dJ13_bitCount_95d88_27 rfl ?_
    refine lv_ladd hx hb dJ13_bitCount_95d88_28 ?_
    refine lv_ldc2 (v := 1085102592571150095) hx hb hown lw2 dJ13_bitCount_95d88_29 ?_
    refine lv_land hx hb dJ13_bitCount_95d88_32 ?_
    refine lv_lstore_n (lv' := [(0, .long ((x0 + (UInt64.toInt64 (Int64.toUInt64 x0 >>> (Int64.toUInt64 (Int32.toInt64 4) &&& Int64.toUInt64 63)))) &&& 1085102592571150095))]) hx hb dJ13_bitCount_95d88_33 rfl hl (by decide) rfl (fun ls hl => ?_)
    exact J34 ((x0 + (UInt64.toInt64 (Int64.toUInt64 x0 >>> (Int64.toUInt64 (Int32.toInt64 4) &&& Int64.toUInt64 63)))) &&& 1085102592571150095) ls (lv_sub hl [0] rfl) hf
  have J10 : ∀ (x0 : Int64) (ls : Array Slot), lv_has ls 2 [(0, .long x0)] → f_J13_bitCount_95d88_J10 x0 = res → W p l e (headSpec wsJ13_bitCount_95d88 ({ frames := 0, cells := 0, slots := 0, locals := 0 } : Room)).room s m ([.long p0] : List Value).toArray below meth c s.heap [] 0 0 (MQ below (vp_Si (fun r => r = f_J13_bitCount_95d88 p0)) ([.long p0] : List Value).toArray s 0 0 (fun _ => False)) (F0 m 10 ls []) := by
    intro x0 ls hl hf
    rw [f_J13_bitCount_95d88_J10] at hf
    refine lv_lload_n hx hb dJ13_bitCount_95d88_10 rfl (lv_at hl 0 rfl) ?_
    refine lv_ldc2 (v := 3689348814741910323) hx hb hown lw1 dJ13_bitCount_95d88_11 ?_
    refine lv_land hx hb dJ13_bitCount_95d88_14 ?_
    refine lv_lload_n hx hb dJ13_bitCount_95d88_15 rfl (lv_at hl 0 rfl) ?_
    refine lv_iconst (v := 2) hx hb dJ13_bitCount_95d88_16 (by decide) ?_
    refine lv_lushr hx hb dJ13_bitCount_95d88_17 rfl ?_
    refine lv_ldc2 (v := 3689348814741910323) hx hb hown lw1 dJ13_bitCount_95d88_18 ?_
    refine lv_land hx hb dJ13_bitCount_95d88_21 ?_
    refine lv_ladd hx hb dJ13_bitCount_95d88_22 ?_
    refine lv_lstore_n (lv' := [(0, .long ((x0 &&& 3689348814741910323) + ((UInt64.toInt64 (Int64.toUInt64 x0 >>> (Int64.toUInt64 (Int32.toInt64 2) &&& Int64.toUInt64 63))) &&& 3689348814741910323)))]) hx hb dJ13_bitCount_95d88_23 rfl hl (by decide) rfl (fun ls hl => ?_)
    exact J24 ((x0 &&& 3689348814741910323) + ((UInt64.toInt64 (Int64.toUInt64 x0 >>> (Int64.toUInt64 (Int32.toInt64 2) &&& Int64.toUInt64 63))) &&& 3689348814741910323)) ls (lv_sub hl [0] rfl) hf
  refine lv_lload_n hx hb dJ13_bitCount_95d88_0 rfl (lv_at hl 0 rfl) ?_
  refine lv_lload_n hx hb dJ13_bitCount_95d88_1 rfl (lv_at hl 0 rfl) ?_
  refine lv_iconst (v := 1) hx hb dJ13_bitCount_95d88_2 (by decide) ?_
  refine lv_lushr hx hb dJ13_bitCount_95d88_3 rfl ?_
  refine lv_ldc2 (v := 6148914691236517205) hx hb hown lw0 dJ13_bitCount_95d88_4 ?_
  refine lv_land hx hb dJ13_bitCount_95d88_7 ?_
  refine lv_lsub hx hb dJ13_bitCount_95d88_8 ?_
  refine lv_lstore_n (lv' := [(0, .long (p0 - ((UInt64.toInt64 (Int64.toUInt64 p0 >>> (Int64.toUInt64 (Int32.toInt64 1) &&& Int64.toUInt64 63))) &&& 6148914691236517205)))]) hx hb dJ13_bitCount_95d88_9 rfl hl (by decide) rfl (fun ls hl => ?_)
  exact J10 (p0 - ((UInt64.toInt64 (Int64.toUInt64 p0 >>> (Int64.toUInt64 (Int32.toInt64 1) &&& Int64.toUInt64 63))) &&& 6148914691236517205)) ls (lv_sub hl [0] rfl) hf
