def iv_X1_init : DV := (vs (vs (vs zeroV 3 (upd (upd (upd (upd (upd (upd (fun _ => 0) (Int32.toNatClampNeg 0) 2) (Int32.toNatClampNeg 1) 2) (Int32.toNatClampNeg 2) 2) (Int32.toNatClampNeg 3) 2) (Int32.toNatClampNeg 4) 2) (Int32.toNatClampNeg 5) 2)) 5 (upd (upd (upd (upd (upd (upd (fun _ => 0) (Int32.toNatClampNeg 0) (-6)) (Int32.toNatClampNeg 1) (-6)) (Int32.toNatClampNeg 2) (-6)) (Int32.toNatClampNeg 3) (-6)) (Int32.toNatClampNeg 4) (-6)) (Int32.toNatClampNeg 5) (-6))) 6 (upd (upd (upd (upd (upd (upd (fun _ => 0) (Int32.toNatClampNeg 0) (-6)) (Int32.toNatClampNeg 1) (-6)) (Int32.toNatClampNeg 2) (-6)) (Int32.toNatClampNeg 3) (-6)) (Int32.toNatClampNeg 4) (-6)) (Int32.toNatClampNeg 5) (-6)))
set_option maxHeartbeats 4000000 in
set_option maxRecDepth 100000 in
theorem ok_X1_init (l : Launch) (G : Gt) (h0 : Nat) (sz : Nat) : Met l yX1_init wsX1_init ({ frames := 1, cells := 4, slots := 24, locals := 40 } : Room) (pcW G [.ref h0] [(h0, .inr (1, [.null, .null, .null, .null]))] sz) (va_Qv (fun u : Nat → Nat => u 2 = h0) (fun u t => atW G (drawersC G.2 u iv_X1_init) (va_A [(h0, .inr (1, [.null, .null, .null, .null]))] sz) t) (va_A [(h0, .inr (1, [.null, .null, .null, .null]))] sz)) 4 24 (va_A [(h0, .inr (1, [.null, .null, .null, .null]))] sz) := by
  refine Met.ofW (cc := cX1_init) (maxL := 1) (ret := none) (by decide) rfl ?_
  intro p e s m args below meth c s₁ B hml hv
  obtain ⟨rfl, hsz, hP, hD0, hamb⟩ := hv
  have hx := B.exec
  have hb := B.bytes
  have hr := B.returns
  have hts := atoms_spec (ws := wsX1_init) B.pre
  have hown : s.vm.findClass RX1 = some m.cls := findClass_of_methodNamed B.named
  have hlocks := B.notSynchronized
  have hin : meth.name = "<init>" := (name_of_methodNamed B.named B.method).1
  have hK := hamb.1
  subst hsz
  have hD := hD0.self (sz := s.heap.size)
  generalize hAe : va_A [(h0, .inr (1, [.null, .null, .null, .null]))] s.heap.size = A at hD ⊢
  have hA : ∀ q : Nat, s.heap.size ≤ q → A q := fun q h => by rw [← hAe]; exact Or.inr h
  have hS : va_S A s.heap s.heap [] := va_S.rf
  have hinX1 : ∀ w ∈ u_ws RX1 TX1 4, w ∈ wsX1_init := by decide +kernel
  have lw0 := hts (.methodLink RX1 3 objectInit) (by decide +kernel)
  have lw1 := hts (.instanceMethod objectInit) (by decide +kernel)
  have lw2 := hts (.arrayClass .int) (by decide +kernel)
  have lw3 := hts (.fieldLink RX1 9 "MoodDrawers$Drawers" "restDays" "[I") (by decide +kernel)
  have lw4 := hts (.fieldLink RX1 15 "MoodDrawers$Drawers" "locked" "[I") (by decide +kernel)
  have lw5 := hts (.fieldLink RX1 18 "MoodDrawers$Drawers" "unlockHour" "[I") (by decide +kernel)
  have lw6 := hts (.fieldLink RX1 21 "MoodDrawers$Drawers" "lockHour" "[I") (by decide +kernel)
  have hl := lv_entry ([.ref h0]) (n := 1) (Nat.le_of_ble_eq_true rfl)
  rw [lg_entry_eq]
  generalize (lg_sl ([.ref h0]) ++ List.replicate (1 - (lg_sl ([.ref h0])).length) Slot.unset).toArray = ls at hl ⊢
  have hl : lv_has ls 1 [(0, .ref h0)] := hl
  refine lv_aload_n hx hb dX1_init_0 rfl (lv_at hl 0 rfl) ?_
  refine W.objInit hx hb hown lw0 lw1 (hts (.code objectInit ⟨#[0xb1]⟩ 1 none) (List.mem_of_getElem? (i := 3) rfl)) rfl (by rw [hml]; exact hl.1) rfl dX1_init_1 (Nat.le_of_ble_eq_true rfl) (Nat.le_of_ble_eq_true rfl) ?_
  refine W.eq (g2 := F0 m 4 ls []) rfl ?_
  refine lv_aload_n hx hb dX1_init_4 rfl (lv_at hl 0 rfl) ?_
  refine lv_bipush (v := 6) hx hb dX1_init_5 (by decide) ?_
  refine nwI (n := 6) (N' := 6) hx hb lw2 hK hP hD hS hA (by decide) rfl (Nat.le_of_ble_eq_true rfl) (Nat.le_of_ble_eq_true rfl) (Nat.le_of_ble_eq_true rfl) dX1_init_7 (fun q7 H hP hD hS => ?_)
  have hP : va_P G.1 vwCl ([(h0, .inr (1, [.null, .null, .null, .null])), (q7, .inl (G.2 0, 6, .inl (fun _ => 0)))]) H := hP
  have hD : va_D A ([(h0, .inr (1, [.null, .null, .null, .null])), (q7, .inl (G.2 0, 6, .inl (fun _ => 0)))]) := hD
  refine lv_dup hx hb dX1_init_9 rfl ?_
  refine lv_iconst (v := 0) hx hb dX1_init_10 (by decide) ?_
  refine lv_iconst (v := 2) hx hb dX1_init_11 (by decide) ?_
  refine va_iast (f := (fun _ => 0)) hx hb hK hP hD hS 1 0 rfl rfl (ixb_1 (show ixb 0 6 = true from rfl)) dX1_init_12 (fun H locs hP hD hS => ?_)
  have hP : va_P G.1 vwCl ([(h0, .inr (1, [.null, .null, .null, .null])), (q7, .inl (G.2 0, 6, .inl (upd (fun _ => 0) (Int32.toNatClampNeg 0) 2)))]) H := hP
  have hD : va_D A ([(h0, .inr (1, [.null, .null, .null, .null])), (q7, .inl (G.2 0, 6, .inl (upd (fun _ => 0) (Int32.toNatClampNeg 0) 2)))]) := hD
  refine lv_dup hx hb dX1_init_13 rfl ?_
  refine lv_iconst (v := 1) hx hb dX1_init_14 (by decide) ?_
  refine lv_iconst (v := 2) hx hb dX1_init_15 (by decide) ?_
  refine va_iast (f := (upd (fun _ => 0) (Int32.toNatClampNeg 0) 2)) hx hb hK hP hD hS 1 0 rfl rfl (ixb_1 (show ixb 1 6 = true from rfl)) dX1_init_16 (fun H locs hP hD hS => ?_)
  have hP : va_P G.1 vwCl ([(h0, .inr (1, [.null, .null, .null, .null])), (q7, .inl (G.2 0, 6, .inl (upd (upd (fun _ => 0) (Int32.toNatClampNeg 0) 2) (Int32.toNatClampNeg 1) 2)))]) H := hP
  have hD : va_D A ([(h0, .inr (1, [.null, .null, .null, .null])), (q7, .inl (G.2 0, 6, .inl (upd (upd (fun _ => 0) (Int32.toNatClampNeg 0) 2) (Int32.toNatClampNeg 1) 2)))]) := hD
  refine lv_dup hx hb dX1_init_17 rfl ?_
  refine lv_iconst (v := 2) hx hb dX1_init_18 (by decide) ?_
  refine lv_iconst (v := 2) hx hb dX1_init_19 (by decide) ?_
  refine va_iast (f := (upd (upd (fun _ => 0) (Int32.toNatClampNeg 0) 2) (Int32.toNatClampNeg 1) 2)) hx hb hK hP hD hS 1 0 rfl rfl (ixb_1 (show ixb 2 6 = true from rfl)) dX1_init_20 (fun H locs hP hD hS => ?_)
  have hP : va_P G.1 vwCl ([(h0, .inr (1, [.null, .null, .null, .null])), (q7, .inl (G.2 0, 6, .inl (upd (upd (upd (fun _ => 0) (Int32.toNatClampNeg 0) 2) (Int32.toNatClampNeg 1) 2) (Int32.toNatClampNeg 2) 2)))]) H := hP
  have hD : va_D A ([(h0, .inr (1, [.null, .null, .null, .null])), (q7, .inl (G.2 0, 6, .inl (upd (upd (upd (fun _ => 0) (Int32.toNatClampNeg 0) 2) (Int32.toNatClampNeg 1) 2) (Int32.toNatClampNeg 2) 2)))]) := hD
  refine lv_dup hx hb dX1_init_21 rfl ?_
  refine lv_iconst (v := 3) hx hb dX1_init_22 (by decide) ?_
  refine lv_iconst (v := 2) hx hb dX1_init_23 (by decide) ?_
  refine va_iast (f := (upd (upd (upd (fun _ => 0) (Int32.toNatClampNeg 0) 2) (Int32.toNatClampNeg 1) 2) (Int32.toNatClampNeg 2) 2)) hx hb hK hP hD hS 1 0 rfl rfl (ixb_1 (show ixb 3 6 = true from rfl)) dX1_init_24 (fun H locs hP hD hS => ?_)
  have hP : va_P G.1 vwCl ([(h0, .inr (1, [.null, .null, .null, .null])), (q7, .inl (G.2 0, 6, .inl (upd (upd (upd (upd (fun _ => 0) (Int32.toNatClampNeg 0) 2) (Int32.toNatClampNeg 1) 2) (Int32.toNatClampNeg 2) 2) (Int32.toNatClampNeg 3) 2)))]) H := hP
  have hD : va_D A ([(h0, .inr (1, [.null, .null, .null, .null])), (q7, .inl (G.2 0, 6, .inl (upd (upd (upd (upd (fun _ => 0) (Int32.toNatClampNeg 0) 2) (Int32.toNatClampNeg 1) 2) (Int32.toNatClampNeg 2) 2) (Int32.toNatClampNeg 3) 2)))]) := hD
  refine lv_dup hx hb dX1_init_25 rfl ?_
  refine lv_iconst (v := 4) hx hb dX1_init_26 (by decide) ?_
  refine lv_iconst (v := 2) hx hb dX1_init_27 (by decide) ?_
  refine va_iast (f := (upd (upd (upd (upd (fun _ => 0) (Int32.toNatClampNeg 0) 2) (Int32.toNatClampNeg 1) 2) (Int32.toNatClampNeg 2) 2) (Int32.toNatClampNeg 3) 2)) hx hb hK hP hD hS 1 0 rfl rfl (ixb_1 (show ixb 4 6 = true from rfl)) dX1_init_28 (fun H locs hP hD hS => ?_)
  have hP : va_P G.1 vwCl ([(h0, .inr (1, [.null, .null, .null, .null])), (q7, .inl (G.2 0, 6, .inl (upd (upd (upd (upd (upd (fun _ => 0) (Int32.toNatClampNeg 0) 2) (Int32.toNatClampNeg 1) 2) (Int32.toNatClampNeg 2) 2) (Int32.toNatClampNeg 3) 2) (Int32.toNatClampNeg 4) 2)))]) H := hP
  have hD : va_D A ([(h0, .inr (1, [.null, .null, .null, .null])), (q7, .inl (G.2 0, 6, .inl (upd (upd (upd (upd (upd (fun _ => 0) (Int32.toNatClampNeg 0) 2) (Int32.toNatClampNeg 1) 2) (Int32.toNatClampNeg 2) 2) (Int32.toNatClampNeg 3) 2) (Int32.toNatClampNeg 4) 2)))]) := hD
  refine lv_dup hx hb dX1_init_29 rfl ?_
  refine lv_iconst (v := 5) hx hb dX1_init_30 (by decide) ?_
  refine lv_iconst (v := 2) hx hb dX1_init_31 (by decide) ?_
  refine va_iast (f := (upd (upd (upd (upd (upd (fun _ => 0) (Int32.toNatClampNeg 0) 2) (Int32.toNatClampNeg 1) 2) (Int32.toNatClampNeg 2) 2) (Int32.toNatClampNeg 3) 2) (Int32.toNatClampNeg 4) 2)) hx hb hK hP hD hS 1 0 rfl rfl (ixb_1 (show ixb 5 6 = true from rfl)) dX1_init_32 (fun H locs hP hD hS => ?_)
  have hP : va_P G.1 vwCl ([(h0, .inr (1, [.null, .null, .null, .null])), (q7, .inl (G.2 0, 6, .inl (upd (upd (upd (upd (upd (upd (fun _ => 0) (Int32.toNatClampNeg 0) 2) (Int32.toNatClampNeg 1) 2) (Int32.toNatClampNeg 2) 2) (Int32.toNatClampNeg 3) 2) (Int32.toNatClampNeg 4) 2) (Int32.toNatClampNeg 5) 2)))]) H := hP
  have hD : va_D A ([(h0, .inr (1, [.null, .null, .null, .null])), (q7, .inl (G.2 0, 6, .inl (upd (upd (upd (upd (upd (upd (fun _ => 0) (Int32.toNatClampNeg 0) 2) (Int32.toNatClampNeg 1) 2) (Int32.toNatClampNeg 2) 2) (Int32.toNatClampNeg 3) 2) (Int32.toNatClampNeg 4) 2) (Int32.toNatClampNeg 5) 2)))]) := hD
  refine va_putF (D := G.1) (ci := 1) (v := .ref q7) (ty := .array .int) (C := RX1) (T := TX1) (N := 4) hx hb hts hinX1 tyX1 tyX1_ok nmX1 hown hK hP hD hS 0 rfl rfl 0 (by decide) lw3 (fun _ h9 => h9) rfl hin rfl (by decide +kernel) rfl rfl (Nat.le_of_ble_eq_true rfl) dX1_init_33 (fun H locs hP hD hS => ?_)
  have hP : va_P G.1 vwCl ([(h0, .inr (1, [.ref q7, .null, .null, .null])), (q7, .inl (G.2 0, 6, .inl (upd (upd (upd (upd (upd (upd (fun _ => 0) (Int32.toNatClampNeg 0) 2) (Int32.toNatClampNeg 1) 2) (Int32.toNatClampNeg 2) 2) (Int32.toNatClampNeg 3) 2) (Int32.toNatClampNeg 4) 2) (Int32.toNatClampNeg 5) 2)))]) H := hP
  have hD : va_D A ([(h0, .inr (1, [.ref q7, .null, .null, .null])), (q7, .inl (G.2 0, 6, .inl (upd (upd (upd (upd (upd (upd (fun _ => 0) (Int32.toNatClampNeg 0) 2) (Int32.toNatClampNeg 1) 2) (Int32.toNatClampNeg 2) 2) (Int32.toNatClampNeg 3) 2) (Int32.toNatClampNeg 4) 2) (Int32.toNatClampNeg 5) 2)))]) := hD
  refine lv_aload_n hx hb dX1_init_36 rfl (lv_at hl 0 rfl) ?_
  refine lv_bipush (v := 6) hx hb dX1_init_37 (by decide) ?_
  refine nwI (n := 6) (N' := 6) hx hb lw2 hK hP hD hS hA (by decide) rfl (Nat.le_of_ble_eq_true rfl) (Nat.le_of_ble_eq_true rfl) (Nat.le_of_ble_eq_true rfl) dX1_init_39 (fun q39 H hP hD hS => ?_)
  have hP : va_P G.1 vwCl ([(h0, .inr (1, [.ref q7, .null, .null, .null])), (q7, .inl (G.2 0, 6, .inl (upd (upd (upd (upd (upd (upd (fun _ => 0) (Int32.toNatClampNeg 0) 2) (Int32.toNatClampNeg 1) 2) (Int32.toNatClampNeg 2) 2) (Int32.toNatClampNeg 3) 2) (Int32.toNatClampNeg 4) 2) (Int32.toNatClampNeg 5) 2))), (q39, .inl (G.2 0, 6, .inl (fun _ => 0)))]) H := hP
  have hD : va_D A ([(h0, .inr (1, [.ref q7, .null, .null, .null])), (q7, .inl (G.2 0, 6, .inl (upd (upd (upd (upd (upd (upd (fun _ => 0) (Int32.toNatClampNeg 0) 2) (Int32.toNatClampNeg 1) 2) (Int32.toNatClampNeg 2) 2) (Int32.toNatClampNeg 3) 2) (Int32.toNatClampNeg 4) 2) (Int32.toNatClampNeg 5) 2))), (q39, .inl (G.2 0, 6, .inl (fun _ => 0)))]) := hD
  refine va_putF (D := G.1) (ci := 1) (v := .ref q39) (ty := .array .int) (C := RX1) (T := TX1) (N := 4) hx hb hts hinX1 tyX1 tyX1_ok nmX1 hown hK hP hD hS 0 rfl rfl 1 (by decide) lw4 (fun _ h9 => h9) rfl hin rfl (by decide +kernel) rfl rfl (Nat.le_of_ble_eq_true rfl) dX1_init_41 (fun H locs hP hD hS => ?_)
  have hP : va_P G.1 vwCl ([(h0, .inr (1, [.ref q7, .ref q39, .null, .null])), (q7, .inl (G.2 0, 6, .inl (upd (upd (upd (upd (upd (upd (fun _ => 0) (Int32.toNatClampNeg 0) 2) (Int32.toNatClampNeg 1) 2) (Int32.toNatClampNeg 2) 2) (Int32.toNatClampNeg 3) 2) (Int32.toNatClampNeg 4) 2) (Int32.toNatClampNeg 5) 2))), (q39, .inl (G.2 0, 6, .inl (fun _ => 0)))]) H := hP
  have hD : va_D A ([(h0, .inr (1, [.ref q7, .ref q39, .null, .null])), (q7, .inl (G.2 0, 6, .inl (upd (upd (upd (upd (upd (upd (fun _ => 0) (Int32.toNatClampNeg 0) 2) (Int32.toNatClampNeg 1) 2) (Int32.toNatClampNeg 2) 2) (Int32.toNatClampNeg 3) 2) (Int32.toNatClampNeg 4) 2) (Int32.toNatClampNeg 5) 2))), (q39, .inl (G.2 0, 6, .inl (fun _ => 0)))]) := hD
  refine lv_aload_n hx hb dX1_init_44 rfl (lv_at hl 0 rfl) ?_
  refine lv_bipush (v := 6) hx hb dX1_init_45 (by decide) ?_
  refine nwI (n := 6) (N' := 6) hx hb lw2 hK hP hD hS hA (by decide) rfl (Nat.le_of_ble_eq_true rfl) (Nat.le_of_ble_eq_true rfl) (Nat.le_of_ble_eq_true rfl) dX1_init_47 (fun q47 H hP hD hS => ?_)
  have hP : va_P G.1 vwCl ([(h0, .inr (1, [.ref q7, .ref q39, .null, .null])), (q7, .inl (G.2 0, 6, .inl (upd (upd (upd (upd (upd (upd (fun _ => 0) (Int32.toNatClampNeg 0) 2) (Int32.toNatClampNeg 1) 2) (Int32.toNatClampNeg 2) 2) (Int32.toNatClampNeg 3) 2) (Int32.toNatClampNeg 4) 2) (Int32.toNatClampNeg 5) 2))), (q39, .inl (G.2 0, 6, .inl (fun _ => 0))), (q47, .inl (G.2 0, 6, .inl (fun _ => 0)))]) H := hP
  have hD : va_D A ([(h0, .inr (1, [.ref q7, .ref q39, .null, .null])), (q7, .inl (G.2 0, 6, .inl (upd (upd (upd (upd (upd (upd (fun _ => 0) (Int32.toNatClampNeg 0) 2) (Int32.toNatClampNeg 1) 2) (Int32.toNatClampNeg 2) 2) (Int32.toNatClampNeg 3) 2) (Int32.toNatClampNeg 4) 2) (Int32.toNatClampNeg 5) 2))), (q39, .inl (G.2 0, 6, .inl (fun _ => 0))), (q47, .inl (G.2 0, 6, .inl (fun _ => 0)))]) := hD
  refine lv_dup hx hb dX1_init_49 rfl ?_
  refine lv_iconst (v := 0) hx hb dX1_init_50 (by decide) ?_
  refine lv_bipush (v := (-6)) hx hb dX1_init_51 (by decide) ?_
  refine va_iast (f := (fun _ => 0)) hx hb hK hP hD hS 3 0 rfl rfl (ixb_1 (show ixb 0 6 = true from rfl)) dX1_init_53 (fun H locs hP hD hS => ?_)
  have hP : va_P G.1 vwCl ([(h0, .inr (1, [.ref q7, .ref q39, .null, .null])), (q7, .inl (G.2 0, 6, .inl (upd (upd (upd (upd (upd (upd (fun _ => 0) (Int32.toNatClampNeg 0) 2) (Int32.toNatClampNeg 1) 2) (Int32.toNatClampNeg 2) 2) (Int32.toNatClampNeg 3) 2) (Int32.toNatClampNeg 4) 2) (Int32.toNatClampNeg 5) 2))), (q39, .inl (G.2 0, 6, .inl (fun _ => 0))), (q47, .inl (G.2 0, 6, .inl (upd (fun _ => 0) (Int32.toNatClampNeg 0) (-6))))]) H := hP
  have hD : va_D A ([(h0, .inr (1, [.ref q7, .ref q39, .null, .null])), (q7, .inl (G.2 0, 6, .inl (upd (upd (upd (upd (upd (upd (fun _ => 0) (Int32.toNatClampNeg 0) 2) (Int32.toNatClampNeg 1) 2) (Int32.toNatClampNeg 2) 2) (Int32.toNatClampNeg 3) 2) (Int32.toNatClampNeg 4) 2) (Int32.toNatClampNeg 5) 2))), (q39, .inl (G.2 0, 6, .inl (fun _ => 0))), (q47, .inl (G.2 0, 6, .inl (upd (fun _ => 0) (Int32.toNatClampNeg 0) (-6))))]) := hD
  refine lv_dup hx hb dX1_init_54 rfl ?_
  refine lv_iconst (v := 1) hx hb dX1_init_55 (by decide) ?_
  refine lv_bipush (v := (-6)) hx hb dX1_init_56 (by decide) ?_
  refine va_iast (f := (upd (fun _ => 0) (Int32.toNatClampNeg 0) (-6))) hx hb hK hP hD hS 3 0 rfl rfl (ixb_1 (show ixb 1 6 = true from rfl)) dX1_init_58 (fun H locs hP hD hS => ?_)
  have hP : va_P G.1 vwCl ([(h0, .inr (1, [.ref q7, .ref q39, .null, .null])), (q7, .inl (G.2 0, 6, .inl (upd (upd (upd (upd (upd (upd (fun _ => 0) (Int32.toNatClampNeg 0) 2) (Int32.toNatClampNeg 1) 2) (Int32.toNatClampNeg 2) 2) (Int32.toNatClampNeg 3) 2) (Int32.toNatClampNeg 4) 2) (Int32.toNatClampNeg 5) 2))), (q39, .inl (G.2 0, 6, .inl (fun _ => 0))), (q47, .inl (G.2 0, 6, .inl (upd (upd (fun _ => 0) (Int32.toNatClampNeg 0) (-6)) (Int32.toNatClampNeg 1) (-6))))]) H := hP
  have hD : va_D A ([(h0, .inr (1, [.ref q7, .ref q39, .null, .null])), (q7, .inl (G.2 0, 6, .inl (upd (upd (upd (upd (upd (upd (fun _ => 0) (Int32.toNatClampNeg 0) 2) (Int32.toNatClampNeg 1) 2) (Int32.toNatClampNeg 2) 2) (Int32.toNatClampNeg 3) 2) (Int32.toNatClampNeg 4) 2) (Int32.toNatClampNeg 5) 2))), (q39, .inl (G.2 0, 6, .inl (fun _ => 0))), (q47, .inl (G.2 0, 6, .inl (upd (upd (fun _ => 0) (Int32.toNatClampNeg 0) (-6)) (Int32.toNatClampNeg 1) (-6))))]) := hD
  refine lv_dup hx hb dX1_init_59 rfl ?_
  refine lv_iconst (v := 2) hx hb dX1_init_60 (by decide) ?_
  refine lv_bipush (v := (-6)) hx hb dX1_init_61 (by decide) ?_
  refine va_iast (f := (upd (upd (fun _ => 0) (Int32.toNatClampNeg 0) (-6)) (Int32.toNatClampNeg 1) (-6))) hx hb hK hP hD hS 3 0 rfl rfl (ixb_1 (show ixb 2 6 = true from rfl)) dX1_init_63 (fun H locs hP hD hS => ?_)
  have hP : va_P G.1 vwCl ([(h0, .inr (1, [.ref q7, .ref q39, .null, .null])), (q7, .inl (G.2 0, 6, .inl (upd (upd (upd (upd (upd (upd (fun _ => 0) (Int32.toNatClampNeg 0) 2) (Int32.toNatClampNeg 1) 2) (Int32.toNatClampNeg 2) 2) (Int32.toNatClampNeg 3) 2) (Int32.toNatClampNeg 4) 2) (Int32.toNatClampNeg 5) 2))), (q39, .inl (G.2 0, 6, .inl (fun _ => 0))), (q47, .inl (G.2 0, 6, .inl (upd (upd (upd (fun _ => 0) (Int32.toNatClampNeg 0) (-6)) (Int32.toNatClampNeg 1) (-6)) (Int32.toNatClampNeg 2) (-6))))]) H := hP
  have hD : va_D A ([(h0, .inr (1, [.ref q7, .ref q39, .null, .null])), (q7, .inl (G.2 0, 6, .inl (upd (upd (upd (upd (upd (upd (fun _ => 0) (Int32.toNatClampNeg 0) 2) (Int32.toNatClampNeg 1) 2) (Int32.toNatClampNeg 2) 2) (Int32.toNatClampNeg 3) 2) (Int32.toNatClampNeg 4) 2) (Int32.toNatClampNeg 5) 2))), (q39, .inl (G.2 0, 6, .inl (fun _ => 0))), (q47, .inl (G.2 0, 6, .inl (upd (upd (upd (fun _ => 0) (Int32.toNatClampNeg 0) (-6)) (Int32.toNatClampNeg 1) (-6)) (Int32.toNatClampNeg 2) (-6))))]) := hD
  refine lv_dup hx hb dX1_init_64 rfl ?_
  refine lv_iconst (v := 3) hx hb dX1_init_65 (by decide) ?_
  refine lv_bipush (v := (-6)) hx hb dX1_init_66 (by decide) ?_
  refine va_iast (f := (upd (upd (upd (fun _ => 0) (Int32.toNatClampNeg 0) (-6)) (Int32.toNatClampNeg 1) (-6)) (Int32.toNatClampNeg 2) (-6))) hx hb hK hP hD hS 3 0 rfl rfl (ixb_1 (show ixb 3 6 = true from rfl)) dX1_init_68 (fun H locs hP hD hS => ?_)
  have hP : va_P G.1 vwCl ([(h0, .inr (1, [.ref q7, .ref q39, .null, .null])), (q7, .inl (G.2 0, 6, .inl (upd (upd (upd (upd (upd (upd (fun _ => 0) (Int32.toNatClampNeg 0) 2) (Int32.toNatClampNeg 1) 2) (Int32.toNatClampNeg 2) 2) (Int32.toNatClampNeg 3) 2) (Int32.toNatClampNeg 4) 2) (Int32.toNatClampNeg 5) 2))), (q39, .inl (G.2 0, 6, .inl (fun _ => 0))), (q47, .inl (G.2 0, 6, .inl (upd (upd (upd (upd (fun _ => 0) (Int32.toNatClampNeg 0) (-6)) (Int32.toNatClampNeg 1) (-6)) (Int32.toNatClampNeg 2) (-6)) (Int32.toNatClampNeg 3) (-6))))]) H := hP
  have hD : va_D A ([(h0, .inr (1, [.ref q7, .ref q39, .null, .null])), (q7, .inl (G.2 0, 6, .inl (upd (upd (upd (upd (upd (upd (fun _ => 0) (Int32.toNatClampNeg 0) 2) (Int32.toNatClampNeg 1) 2) (Int32.toNatClampNeg 2) 2) (Int32.toNatClampNeg 3) 2) (Int32.toNatClampNeg 4) 2) (Int32.toNatClampNeg 5) 2))), (q39, .inl (G.2 0, 6, .inl (fun _ => 0))), (q47, .inl (G.2 0, 6, .inl (upd (upd (upd (upd (fun _ => 0) (Int32.toNatClampNeg 0) (-6)) (Int32.toNatClampNeg 1) (-6)) (Int32.toNatClampNeg 2) (-6)) (Int32.toNatClampNeg 3) (-6))))]) := hD
  refine lv_dup hx hb dX1_init_69 rfl ?_
  refine lv_iconst (v := 4) hx hb dX1_init_70 (by decide) ?_
  refine lv_bipush (v := (-6)) hx hb dX1_init_71 (by decide) ?_
  refine va_iast (f := (upd (upd (upd (upd (fun _ => 0) (Int32.toNatClampNeg 0) (-6)) (Int32.toNatClampNeg 1) (-6)) (Int32.toNatClampNeg 2) (-6)) (Int32.toNatClampNeg 3) (-6))) hx hb hK hP hD hS 3 0 rfl rfl (ixb_1 (show ixb 4 6 = true from rfl)) dX1_init_73 (fun H locs hP hD hS => ?_)
  have hP : va_P G.1 vwCl ([(h0, .inr (1, [.ref q7, .ref q39, .null, .null])), (q7, .inl (G.2 0, 6, .inl (upd (upd (upd (upd (upd (upd (fun _ => 0) (Int32.toNatClampNeg 0) 2) (Int32.toNatClampNeg 1) 2) (Int32.toNatClampNeg 2) 2) (Int32.toNatClampNeg 3) 2) (Int32.toNatClampNeg 4) 2) (Int32.toNatClampNeg 5) 2))), (q39, .inl (G.2 0, 6, .inl (fun _ => 0))), (q47, .inl (G.2 0, 6, .inl (upd (upd (upd (upd (upd (fun _ => 0) (Int32.toNatClampNeg 0) (-6)) (Int32.toNatClampNeg 1) (-6)) (Int32.toNatClampNeg 2) (-6)) (Int32.toNatClampNeg 3) (-6)) (Int32.toNatClampNeg 4) (-6))))]) H := hP
  have hD : va_D A ([(h0, .inr (1, [.ref q7, .ref q39, .null, .null])), (q7, .inl (G.2 0, 6, .inl (upd (upd (upd (upd (upd (upd (fun _ => 0) (Int32.toNatClampNeg 0) 2) (Int32.toNatClampNeg 1) 2) (Int32.toNatClampNeg 2) 2) (Int32.toNatClampNeg 3) 2) (Int32.toNatClampNeg 4) 2) (Int32.toNatClampNeg 5) 2))), (q39, .inl (G.2 0, 6, .inl (fun _ => 0))), (q47, .inl (G.2 0, 6, .inl (upd (upd (upd (upd (upd (fun _ => 0) (Int32.toNatClampNeg 0) (-6)) (Int32.toNatClampNeg 1) (-6)) (Int32.toNatClampNeg 2) (-6)) (Int32.toNatClampNeg 3) (-6)) (Int32.toNatClampNeg 4) (-6))))]) := hD
  refine lv_dup hx hb dX1_init_74 rfl ?_
  refine lv_iconst (v := 5) hx hb dX1_init_75 (by decide) ?_
  refine lv_bipush (v := (-6)) hx hb dX1_init_76 (by decide) ?_
  refine va_iast (f := (upd (upd (upd (upd (upd (fun _ => 0) (Int32.toNatClampNeg 0) (-6)) (Int32.toNatClampNeg 1) (-6)) (Int32.toNatClampNeg 2) (-6)) (Int32.toNatClampNeg 3) (-6)) (Int32.toNatClampNeg 4) (-6))) hx hb hK hP hD hS 3 0 rfl rfl (ixb_1 (show ixb 5 6 = true from rfl)) dX1_init_78 (fun H locs hP hD hS => ?_)
  have hP : va_P G.1 vwCl ([(h0, .inr (1, [.ref q7, .ref q39, .null, .null])), (q7, .inl (G.2 0, 6, .inl (upd (upd (upd (upd (upd (upd (fun _ => 0) (Int32.toNatClampNeg 0) 2) (Int32.toNatClampNeg 1) 2) (Int32.toNatClampNeg 2) 2) (Int32.toNatClampNeg 3) 2) (Int32.toNatClampNeg 4) 2) (Int32.toNatClampNeg 5) 2))), (q39, .inl (G.2 0, 6, .inl (fun _ => 0))), (q47, .inl (G.2 0, 6, .inl (upd (upd (upd (upd (upd (upd (fun _ => 0) (Int32.toNatClampNeg 0) (-6)) (Int32.toNatClampNeg 1) (-6)) (Int32.toNatClampNeg 2) (-6)) (Int32.toNatClampNeg 3) (-6)) (Int32.toNatClampNeg 4) (-6)) (Int32.toNatClampNeg 5) (-6))))]) H := hP
  have hD : va_D A ([(h0, .inr (1, [.ref q7, .ref q39, .null, .null])), (q7, .inl (G.2 0, 6, .inl (upd (upd (upd (upd (upd (upd (fun _ => 0) (Int32.toNatClampNeg 0) 2) (Int32.toNatClampNeg 1) 2) (Int32.toNatClampNeg 2) 2) (Int32.toNatClampNeg 3) 2) (Int32.toNatClampNeg 4) 2) (Int32.toNatClampNeg 5) 2))), (q39, .inl (G.2 0, 6, .inl (fun _ => 0))), (q47, .inl (G.2 0, 6, .inl (upd (upd (upd (upd (upd (upd (fun _ => 0) (Int32.toNatClampNeg 0) (-6)) (Int32.toNatClampNeg 1) (-6)) (Int32.toNatClampNeg 2) (-6)) (Int32.toNatClampNeg 3) (-6)) (Int32.toNatClampNeg 4) (-6)) (Int32.toNatClampNeg 5) (-6))))]) := hD
  refine va_putF (D := G.1) (ci := 1) (v := .ref q47) (ty := .array .int) (C := RX1) (T := TX1) (N := 4) hx hb hts hinX1 tyX1 tyX1_ok nmX1 hown hK hP hD hS 0 rfl rfl 2 (by decide) lw5 (fun _ h9 => h9) rfl hin rfl (by decide +kernel) rfl rfl (Nat.le_of_ble_eq_true rfl) dX1_init_79 (fun H locs hP hD hS => ?_)
  have hP : va_P G.1 vwCl ([(h0, .inr (1, [.ref q7, .ref q39, .ref q47, .null])), (q7, .inl (G.2 0, 6, .inl (upd (upd (upd (upd (upd (upd (fun _ => 0) (Int32.toNatClampNeg 0) 2) (Int32.toNatClampNeg 1) 2) (Int32.toNatClampNeg 2) 2) (Int32.toNatClampNeg 3) 2) (Int32.toNatClampNeg 4) 2) (Int32.toNatClampNeg 5) 2))), (q39, .inl (G.2 0, 6, .inl (fun _ => 0))), (q47, .inl (G.2 0, 6, .inl (upd (upd (upd (upd (upd (upd (fun _ => 0) (Int32.toNatClampNeg 0) (-6)) (Int32.toNatClampNeg 1) (-6)) (Int32.toNatClampNeg 2) (-6)) (Int32.toNatClampNeg 3) (-6)) (Int32.toNatClampNeg 4) (-6)) (Int32.toNatClampNeg 5) (-6))))]) H := hP
  have hD : va_D A ([(h0, .inr (1, [.ref q7, .ref q39, .ref q47, .null])), (q7, .inl (G.2 0, 6, .inl (upd (upd (upd (upd (upd (upd (fun _ => 0) (Int32.toNatClampNeg 0) 2) (Int32.toNatClampNeg 1) 2) (Int32.toNatClampNeg 2) 2) (Int32.toNatClampNeg 3) 2) (Int32.toNatClampNeg 4) 2) (Int32.toNatClampNeg 5) 2))), (q39, .inl (G.2 0, 6, .inl (fun _ => 0))), (q47, .inl (G.2 0, 6, .inl (upd (upd (upd (upd (upd (upd (fun _ => 0) (Int32.toNatClampNeg 0) (-6)) (Int32.toNatClampNeg 1) (-6)) (Int32.toNatClampNeg 2) (-6)) (Int32.toNatClampNeg 3) (-6)) (Int32.toNatClampNeg 4) (-6)) (Int32.toNatClampNeg 5) (-6))))]) := hD
  refine lv_aload_n hx hb dX1_init_82 rfl (lv_at hl 0 rfl) ?_
  refine lv_bipush (v := 6) hx hb dX1_init_83 (by decide) ?_
  refine nwI (n := 6) (N' := 6) hx hb lw2 hK hP hD hS hA (by decide) rfl (Nat.le_of_ble_eq_true rfl) (Nat.le_of_ble_eq_true rfl) (Nat.le_of_ble_eq_true rfl) dX1_init_85 (fun q85 H hP hD hS => ?_)
  have hP : va_P G.1 vwCl ([(h0, .inr (1, [.ref q7, .ref q39, .ref q47, .null])), (q7, .inl (G.2 0, 6, .inl (upd (upd (upd (upd (upd (upd (fun _ => 0) (Int32.toNatClampNeg 0) 2) (Int32.toNatClampNeg 1) 2) (Int32.toNatClampNeg 2) 2) (Int32.toNatClampNeg 3) 2) (Int32.toNatClampNeg 4) 2) (Int32.toNatClampNeg 5) 2))), (q39, .inl (G.2 0, 6, .inl (fun _ => 0))), (q47, .inl (G.2 0, 6, .inl (upd (upd (upd (upd (upd (upd (fun _ => 0) (Int32.toNatClampNeg 0) (-6)) (Int32.toNatClampNeg 1) (-6)) (Int32.toNatClampNeg 2) (-6)) (Int32.toNatClampNeg 3) (-6)) (Int32.toNatClampNeg 4) (-6)) (Int32.toNatClampNeg 5) (-6)))), (q85, .inl (G.2 0, 6, .inl (fun _ => 0)))]) H := hP
  have hD : va_D A ([(h0, .inr (1, [.ref q7, .ref q39, .ref q47, .null])), (q7, .inl (G.2 0, 6, .inl (upd (upd (upd (upd (upd (upd (fun _ => 0) (Int32.toNatClampNeg 0) 2) (Int32.toNatClampNeg 1) 2) (Int32.toNatClampNeg 2) 2) (Int32.toNatClampNeg 3) 2) (Int32.toNatClampNeg 4) 2) (Int32.toNatClampNeg 5) 2))), (q39, .inl (G.2 0, 6, .inl (fun _ => 0))), (q47, .inl (G.2 0, 6, .inl (upd (upd (upd (upd (upd (upd (fun _ => 0) (Int32.toNatClampNeg 0) (-6)) (Int32.toNatClampNeg 1) (-6)) (Int32.toNatClampNeg 2) (-6)) (Int32.toNatClampNeg 3) (-6)) (Int32.toNatClampNeg 4) (-6)) (Int32.toNatClampNeg 5) (-6)))), (q85, .inl (G.2 0, 6, .inl (fun _ => 0)))]) := hD
  refine lv_dup hx hb dX1_init_87 rfl ?_
  refine lv_iconst (v := 0) hx hb dX1_init_88 (by decide) ?_
  refine lv_bipush (v := (-6)) hx hb dX1_init_89 (by decide) ?_
  refine va_iast (f := (fun _ => 0)) hx hb hK hP hD hS 4 0 rfl rfl (ixb_1 (show ixb 0 6 = true from rfl)) dX1_init_91 (fun H locs hP hD hS => ?_)
  have hP : va_P G.1 vwCl ([(h0, .inr (1, [.ref q7, .ref q39, .ref q47, .null])), (q7, .inl (G.2 0, 6, .inl (upd (upd (upd (upd (upd (upd (fun _ => 0) (Int32.toNatClampNeg 0) 2) (Int32.toNatClampNeg 1) 2) (Int32.toNatClampNeg 2) 2) (Int32.toNatClampNeg 3) 2) (Int32.toNatClampNeg 4) 2) (Int32.toNatClampNeg 5) 2))), (q39, .inl (G.2 0, 6, .inl (fun _ => 0))), (q47, .inl (G.2 0, 6, .inl (upd (upd (upd (upd (upd (upd (fun _ => 0) (Int32.toNatClampNeg 0) (-6)) (Int32.toNatClampNeg 1) (-6)) (Int32.toNatClampNeg 2) (-6)) (Int32.toNatClampNeg 3) (-6)) (Int32.toNatClampNeg 4) (-6)) (Int32.toNatClampNeg 5) (-6)))), (q85, .inl (G.2 0, 6, .inl (upd (fun _ => 0) (Int32.toNatClampNeg 0) (-6))))]) H := hP
  have hD : va_D A ([(h0, .inr (1, [.ref q7, .ref q39, .ref q47, .null])), (q7, .inl (G.2 0, 6, .inl (upd (upd (upd (upd (upd (upd (fun _ => 0) (Int32.toNatClampNeg 0) 2) (Int32.toNatClampNeg 1) 2) (Int32.toNatClampNeg 2) 2) (Int32.toNatClampNeg 3) 2) (Int32.toNatClampNeg 4) 2) (Int32.toNatClampNeg 5) 2))), (q39, .inl (G.2 0, 6, .inl (fun _ => 0))), (q47, .inl (G.2 0, 6, .inl (upd (upd (upd (upd (upd (upd (fun _ => 0) (Int32.toNatClampNeg 0) (-6)) (Int32.toNatClampNeg 1) (-6)) (Int32.toNatClampNeg 2) (-6)) (Int32.toNatClampNeg 3) (-6)) (Int32.toNatClampNeg 4) (-6)) (Int32.toNatClampNeg 5) (-6)))), (q85, .inl (G.2 0, 6, .inl (upd (fun _ => 0) (Int32.toNatClampNeg 0) (-6))))]) := hD
  refine lv_dup hx hb dX1_init_92 rfl ?_
  refine lv_iconst (v := 1) hx hb dX1_init_93 (by decide) ?_
  refine lv_bipush (v := (-6)) hx hb dX1_init_94 (by decide) ?_
  refine va_iast (f := (upd (fun _ => 0) (Int32.toNatClampNeg 0) (-6))) hx hb hK hP hD hS 4 0 rfl rfl (ixb_1 (show ixb 1 6 = true from rfl)) dX1_init_96 (fun H locs hP hD hS => ?_)
  have hP : va_P G.1 vwCl ([(h0, .inr (1, [.ref q7, .ref q39, .ref q47, .null])), (q7, .inl (G.2 0, 6, .inl (upd (upd (upd (upd (upd (upd (fun _ => 0) (Int32.toNatClampNeg 0) 2) (Int32.toNatClampNeg 1) 2) (Int32.toNatClampNeg 2) 2) (Int32.toNatClampNeg 3) 2) (Int32.toNatClampNeg 4) 2) (Int32.toNatClampNeg 5) 2))), (q39, .inl (G.2 0, 6, .inl (fun _ => 0))), (q47, .inl (G.2 0, 6, .inl (upd (upd (upd (upd (upd (upd (fun _ => 0) (Int32.toNatClampNeg 0) (-6)) (Int32.toNatClampNeg 1) (-6)) (Int32.toNatClampNeg 2) (-6)) (Int32.toNatClampNeg 3) (-6)) (Int32.toNatClampNeg 4) (-6)) (Int32.toNatClampNeg 5) (-6)))), (q85, .inl (G.2 0, 6, .inl (upd (upd (fun _ => 0) (Int32.toNatClampNeg 0) (-6)) (Int32.toNatClampNeg 1) (-6))))]) H := hP
  have hD : va_D A ([(h0, .inr (1, [.ref q7, .ref q39, .ref q47, .null])), (q7, .inl (G.2 0, 6, .inl (upd (upd (upd (upd (upd (upd (fun _ => 0) (Int32.toNatClampNeg 0) 2) (Int32.toNatClampNeg 1) 2) (Int32.toNatClampNeg 2) 2) (Int32.toNatClampNeg 3) 2) (Int32.toNatClampNeg 4) 2) (Int32.toNatClampNeg 5) 2))), (q39, .inl (G.2 0, 6, .inl (fun _ => 0))), (q47, .inl (G.2 0, 6, .inl (upd (upd (upd (upd (upd (upd (fun _ => 0) (Int32.toNatClampNeg 0) (-6)) (Int32.toNatClampNeg 1) (-6)) (Int32.toNatClampNeg 2) (-6)) (Int32.toNatClampNeg 3) (-6)) (Int32.toNatClampNeg 4) (-6)) (Int32.toNatClampNeg 5) (-6)))), (q85, .inl (G.2 0, 6, .inl (upd (upd (fun _ => 0) (Int32.toNatClampNeg 0) (-6)) (Int32.toNatClampNeg 1) (-6))))]) := hD
  refine lv_dup hx hb dX1_init_97 rfl ?_
  refine lv_iconst (v := 2) hx hb dX1_init_98 (by decide) ?_
  refine lv_bipush (v := (-6)) hx hb dX1_init_99 (by decide) ?_
  refine va_iast (f := (upd (upd (fun _ => 0) (Int32.toNatClampNeg 0) (-6)) (Int32.toNatClampNeg 1) (-6))) hx hb hK hP hD hS 4 0 rfl rfl (ixb_1 (show ixb 2 6 = true from rfl)) dX1_init_101 (fun H locs hP hD hS => ?_)
  have hP : va_P G.1 vwCl ([(h0, .inr (1, [.ref q7, .ref q39, .ref q47, .null])), (q7, .inl (G.2 0, 6, .inl (upd (upd (upd (upd (upd (upd (fun _ => 0) (Int32.toNatClampNeg 0) 2) (Int32.toNatClampNeg 1) 2) (Int32.toNatClampNeg 2) 2) (Int32.toNatClampNeg 3) 2) (Int32.toNatClampNeg 4) 2) (Int32.toNatClampNeg 5) 2))), (q39, .inl (G.2 0, 6, .inl (fun _ => 0))), (q47, .inl (G.2 0, 6, .inl (upd (upd (upd (upd (upd (upd (fun _ => 0) (Int32.toNatClampNeg 0) (-6)) (Int32.toNatClampNeg 1) (-6)) (Int32.toNatClampNeg 2) (-6)) (Int32.toNatClampNeg 3) (-6)) (Int32.toNatClampNeg 4) (-6)) (Int32.toNatClampNeg 5) (-6)))), (q85, .inl (G.2 0, 6, .inl (upd (upd (upd (fun _ => 0) (Int32.toNatClampNeg 0) (-6)) (Int32.toNatClampNeg 1) (-6)) (Int32.toNatClampNeg 2) (-6))))]) H := hP
  have hD : va_D A ([(h0, .inr (1, [.ref q7, .ref q39, .ref q47, .null])), (q7, .inl (G.2 0, 6, .inl (upd (upd (upd (upd (upd (upd (fun _ => 0) (Int32.toNatClampNeg 0) 2) (Int32.toNatClampNeg 1) 2) (Int32.toNatClampNeg 2) 2) (Int32.toNatClampNeg 3) 2) (Int32.toNatClampNeg 4) 2) (Int32.toNatClampNeg 5) 2))), (q39, .inl (G.2 0, 6, .inl (fun _ => 0))), (q47, .inl (G.2 0, 6, .inl (upd (upd (upd (upd (upd (upd (fun _ => 0) (Int32.toNatClampNeg 0) (-6)) (Int32.toNatClampNeg 1) (-6)) (Int32.toNatClampNeg 2) (-6)) (Int32.toNatClampNeg 3) (-6)) (Int32.toNatClampNeg 4) (-6)) (Int32.toNatClampNeg 5) (-6)))), (q85, .inl (G.2 0, 6, .inl (upd (upd (upd (fun _ => 0) (Int32.toNatClampNeg 0) (-6)) (Int32.toNatClampNeg 1) (-6)) (Int32.toNatClampNeg 2) (-6))))]) := hD
  refine lv_dup hx hb dX1_init_102 rfl ?_
  refine lv_iconst (v := 3) hx hb dX1_init_103 (by decide) ?_
  refine lv_bipush (v := (-6)) hx hb dX1_init_104 (by decide) ?_
  refine va_iast (f := (upd (upd (upd (fun _ => 0) (Int32.toNatClampNeg 0) (-6)) (Int32.toNatClampNeg 1) (-6)) (Int32.toNatClampNeg 2) (-6))) hx hb hK hP hD hS 4 0 rfl rfl (ixb_1 (show ixb 3 6 = true from rfl)) dX1_init_106 (fun H locs hP hD hS => ?_)
  have hP : va_P G.1 vwCl ([(h0, .inr (1, [.ref q7, .ref q39, .ref q47, .null])), (q7, .inl (G.2 0, 6, .inl (upd (upd (upd (upd (upd (upd (fun _ => 0) (Int32.toNatClampNeg 0) 2) (Int32.toNatClampNeg 1) 2) (Int32.toNatClampNeg 2) 2) (Int32.toNatClampNeg 3) 2) (Int32.toNatClampNeg 4) 2) (Int32.toNatClampNeg 5) 2))), (q39, .inl (G.2 0, 6, .inl (fun _ => 0))), (q47, .inl (G.2 0, 6, .inl (upd (upd (upd (upd (upd (upd (fun _ => 0) (Int32.toNatClampNeg 0) (-6)) (Int32.toNatClampNeg 1) (-6)) (Int32.toNatClampNeg 2) (-6)) (Int32.toNatClampNeg 3) (-6)) (Int32.toNatClampNeg 4) (-6)) (Int32.toNatClampNeg 5) (-6)))), (q85, .inl (G.2 0, 6, .inl (upd (upd (upd (upd (fun _ => 0) (Int32.toNatClampNeg 0) (-6)) (Int32.toNatClampNeg 1) (-6)) (Int32.toNatClampNeg 2) (-6)) (Int32.toNatClampNeg 3) (-6))))]) H := hP
  have hD : va_D A ([(h0, .inr (1, [.ref q7, .ref q39, .ref q47, .null])), (q7, .inl (G.2 0, 6, .inl (upd (upd (upd (upd (upd (upd (fun _ => 0) (Int32.toNatClampNeg 0) 2) (Int32.toNatClampNeg 1) 2) (Int32.toNatClampNeg 2) 2) (Int32.toNatClampNeg 3) 2) (Int32.toNatClampNeg 4) 2) (Int32.toNatClampNeg 5) 2))), (q39, .inl (G.2 0, 6, .inl (fun _ => 0))), (q47, .inl (G.2 0, 6, .inl (upd (upd (upd (upd (upd (upd (fun _ => 0) (Int32.toNatClampNeg 0) (-6)) (Int32.toNatClampNeg 1) (-6)) (Int32.toNatClampNeg 2) (-6)) (Int32.toNatClampNeg 3) (-6)) (Int32.toNatClampNeg 4) (-6)) (Int32.toNatClampNeg 5) (-6)))), (q85, .inl (G.2 0, 6, .inl (upd (upd (upd (upd (fun _ => 0) (Int32.toNatClampNeg 0) (-6)) (Int32.toNatClampNeg 1) (-6)) (Int32.toNatClampNeg 2) (-6)) (Int32.toNatClampNeg 3) (-6))))]) := hD
  refine lv_dup hx hb dX1_init_107 rfl ?_
  refine lv_iconst (v := 4) hx hb dX1_init_108 (by decide) ?_
  refine lv_bipush (v := (-6)) hx hb dX1_init_109 (by decide) ?_
  refine va_iast (f := (upd (upd (upd (upd (fun _ => 0) (Int32.toNatClampNeg 0) (-6)) (Int32.toNatClampNeg 1) (-6)) (Int32.toNatClampNeg 2) (-6)) (Int32.toNatClampNeg 3) (-6))) hx hb hK hP hD hS 4 0 rfl rfl (ixb_1 (show ixb 4 6 = true from rfl)) dX1_init_111 (fun H locs hP hD hS => ?_)
  have hP : va_P G.1 vwCl ([(h0, .inr (1, [.ref q7, .ref q39, .ref q47, .null])), (q7, .inl (G.2 0, 6, .inl (upd (upd (upd (upd (upd (upd (fun _ => 0) (Int32.toNatClampNeg 0) 2) (Int32.toNatClampNeg 1) 2) (Int32.toNatClampNeg 2) 2) (Int32.toNatClampNeg 3) 2) (Int32.toNatClampNeg 4) 2) (Int32.toNatClampNeg 5) 2))), (q39, .inl (G.2 0, 6, .inl (fun _ => 0))), (q47, .inl (G.2 0, 6, .inl (upd (upd (upd (upd (upd (upd (fun _ => 0) (Int32.toNatClampNeg 0) (-6)) (Int32.toNatClampNeg 1) (-6)) (Int32.toNatClampNeg 2) (-6)) (Int32.toNatClampNeg 3) (-6)) (Int32.toNatClampNeg 4) (-6)) (Int32.toNatClampNeg 5) (-6)))), (q85, .inl (G.2 0, 6, .inl (upd (upd (upd (upd (upd (fun _ => 0) (Int32.toNatClampNeg 0) (-6)) (Int32.toNatClampNeg 1) (-6)) (Int32.toNatClampNeg 2) (-6)) (Int32.toNatClampNeg 3) (-6)) (Int32.toNatClampNeg 4) (-6))))]) H := hP
  have hD : va_D A ([(h0, .inr (1, [.ref q7, .ref q39, .ref q47, .null])), (q7, .inl (G.2 0, 6, .inl (upd (upd (upd (upd (upd (upd (fun _ => 0) (Int32.toNatClampNeg 0) 2) (Int32.toNatClampNeg 1) 2) (Int32.toNatClampNeg 2) 2) (Int32.toNatClampNeg 3) 2) (Int32.toNatClampNeg 4) 2) (Int32.toNatClampNeg 5) 2))), (q39, .inl (G.2 0, 6, .inl (fun _ => 0))), (q47, .inl (G.2 0, 6, .inl (upd (upd (upd (upd (upd (upd (fun _ => 0) (Int32.toNatClampNeg 0) (-6)) (Int32.toNatClampNeg 1) (-6)) (Int32.toNatClampNeg 2) (-6)) (Int32.toNatClampNeg 3) (-6)) (Int32.toNatClampNeg 4) (-6)) (Int32.toNatClampNeg 5) (-6)))), (q85, .inl (G.2 0, 6, .inl (upd (upd (upd (upd (upd (fun _ => 0) (Int32.toNatClampNeg 0) (-6)) (Int32.toNatClampNeg 1) (-6)) (Int32.toNatClampNeg 2) (-6)) (Int32.toNatClampNeg 3) (-6)) (Int32.toNatClampNeg 4) (-6))))]) := hD
  refine lv_dup hx hb dX1_init_112 rfl ?_
  refine lv_iconst (v := 5) hx hb dX1_init_113 (by decide) ?_
  refine lv_bipush (v := (-6)) hx hb dX1_init_114 (by decide) ?_
  refine va_iast (f := (upd (upd (upd (upd (upd (fun _ => 0) (Int32.toNatClampNeg 0) (-6)) (Int32.toNatClampNeg 1) (-6)) (Int32.toNatClampNeg 2) (-6)) (Int32.toNatClampNeg 3) (-6)) (Int32.toNatClampNeg 4) (-6))) hx hb hK hP hD hS 4 0 rfl rfl (ixb_1 (show ixb 5 6 = true from rfl)) dX1_init_116 (fun H locs hP hD hS => ?_)
  have hP : va_P G.1 vwCl ([(h0, .inr (1, [.ref q7, .ref q39, .ref q47, .null])), (q7, .inl (G.2 0, 6, .inl (upd (upd (upd (upd (upd (upd (fun _ => 0) (Int32.toNatClampNeg 0) 2) (Int32.toNatClampNeg 1) 2) (Int32.toNatClampNeg 2) 2) (Int32.toNatClampNeg 3) 2) (Int32.toNatClampNeg 4) 2) (Int32.toNatClampNeg 5) 2))), (q39, .inl (G.2 0, 6, .inl (fun _ => 0))), (q47, .inl (G.2 0, 6, .inl (upd (upd (upd (upd (upd (upd (fun _ => 0) (Int32.toNatClampNeg 0) (-6)) (Int32.toNatClampNeg 1) (-6)) (Int32.toNatClampNeg 2) (-6)) (Int32.toNatClampNeg 3) (-6)) (Int32.toNatClampNeg 4) (-6)) (Int32.toNatClampNeg 5) (-6)))), (q85, .inl (G.2 0, 6, .inl (upd (upd (upd (upd (upd (upd (fun _ => 0) (Int32.toNatClampNeg 0) (-6)) (Int32.toNatClampNeg 1) (-6)) (Int32.toNatClampNeg 2) (-6)) (Int32.toNatClampNeg 3) (-6)) (Int32.toNatClampNeg 4) (-6)) (Int32.toNatClampNeg 5) (-6))))]) H := hP
  have hD : va_D A ([(h0, .inr (1, [.ref q7, .ref q39, .ref q47, .null])), (q7, .inl (G.2 0, 6, .inl (upd (upd (upd (upd (upd (upd (fun _ => 0) (Int32.toNatClampNeg 0) 2) (Int32.toNatClampNeg 1) 2) (Int32.toNatClampNeg 2) 2) (Int32.toNatClampNeg 3) 2) (Int32.toNatClampNeg 4) 2) (Int32.toNatClampNeg 5) 2))), (q39, .inl (G.2 0, 6, .inl (fun _ => 0))), (q47, .inl (G.2 0, 6, .inl (upd (upd (upd (upd (upd (upd (fun _ => 0) (Int32.toNatClampNeg 0) (-6)) (Int32.toNatClampNeg 1) (-6)) (Int32.toNatClampNeg 2) (-6)) (Int32.toNatClampNeg 3) (-6)) (Int32.toNatClampNeg 4) (-6)) (Int32.toNatClampNeg 5) (-6)))), (q85, .inl (G.2 0, 6, .inl (upd (upd (upd (upd (upd (upd (fun _ => 0) (Int32.toNatClampNeg 0) (-6)) (Int32.toNatClampNeg 1) (-6)) (Int32.toNatClampNeg 2) (-6)) (Int32.toNatClampNeg 3) (-6)) (Int32.toNatClampNeg 4) (-6)) (Int32.toNatClampNeg 5) (-6))))]) := hD
  refine va_putF (D := G.1) (ci := 1) (v := .ref q85) (ty := .array .int) (C := RX1) (T := TX1) (N := 4) hx hb hts hinX1 tyX1 tyX1_ok nmX1 hown hK hP hD hS 0 rfl rfl 3 (by decide) lw6 (fun _ h9 => h9) rfl hin rfl (by decide +kernel) rfl rfl (Nat.le_of_ble_eq_true rfl) dX1_init_117 (fun H locs hP hD hS => ?_)
  have hP : va_P G.1 vwCl ([(h0, .inr (1, [.ref q7, .ref q39, .ref q47, .ref q85])), (q7, .inl (G.2 0, 6, .inl (upd (upd (upd (upd (upd (upd (fun _ => 0) (Int32.toNatClampNeg 0) 2) (Int32.toNatClampNeg 1) 2) (Int32.toNatClampNeg 2) 2) (Int32.toNatClampNeg 3) 2) (Int32.toNatClampNeg 4) 2) (Int32.toNatClampNeg 5) 2))), (q39, .inl (G.2 0, 6, .inl (fun _ => 0))), (q47, .inl (G.2 0, 6, .inl (upd (upd (upd (upd (upd (upd (fun _ => 0) (Int32.toNatClampNeg 0) (-6)) (Int32.toNatClampNeg 1) (-6)) (Int32.toNatClampNeg 2) (-6)) (Int32.toNatClampNeg 3) (-6)) (Int32.toNatClampNeg 4) (-6)) (Int32.toNatClampNeg 5) (-6)))), (q85, .inl (G.2 0, 6, .inl (upd (upd (upd (upd (upd (upd (fun _ => 0) (Int32.toNatClampNeg 0) (-6)) (Int32.toNatClampNeg 1) (-6)) (Int32.toNatClampNeg 2) (-6)) (Int32.toNatClampNeg 3) (-6)) (Int32.toNatClampNeg 4) (-6)) (Int32.toNatClampNeg 5) (-6))))]) H := hP
  have hD : va_D A ([(h0, .inr (1, [.ref q7, .ref q39, .ref q47, .ref q85])), (q7, .inl (G.2 0, 6, .inl (upd (upd (upd (upd (upd (upd (fun _ => 0) (Int32.toNatClampNeg 0) 2) (Int32.toNatClampNeg 1) 2) (Int32.toNatClampNeg 2) 2) (Int32.toNatClampNeg 3) 2) (Int32.toNatClampNeg 4) 2) (Int32.toNatClampNeg 5) 2))), (q39, .inl (G.2 0, 6, .inl (fun _ => 0))), (q47, .inl (G.2 0, 6, .inl (upd (upd (upd (upd (upd (upd (fun _ => 0) (Int32.toNatClampNeg 0) (-6)) (Int32.toNatClampNeg 1) (-6)) (Int32.toNatClampNeg 2) (-6)) (Int32.toNatClampNeg 3) (-6)) (Int32.toNatClampNeg 4) (-6)) (Int32.toNatClampNeg 5) (-6)))), (q85, .inl (G.2 0, 6, .inl (upd (upd (upd (upd (upd (upd (fun _ => 0) (Int32.toNatClampNeg 0) (-6)) (Int32.toNatClampNeg 1) (-6)) (Int32.toNatClampNeg 2) (-6)) (Int32.toNatClampNeg 3) (-6)) (Int32.toNatClampNeg 4) (-6)) (Int32.toNatClampNeg 5) (-6))))]) := hD
  refine W.widen (k := 4) (n := 24) (Nat.le_of_ble_eq_true rfl) (Nat.le_of_ble_eq_true rfl) ?_
  have hP : va_P G.1 vwCl (drawersC G.2 (fun k => ([0, 0, h0, q7, q39, q47, q85] : List Nat).getD k 0) iv_X1_init) H := hP
  have hD : va_D A (drawersC G.2 (fun k => ([0, 0, h0, q7, q39, q47, q85] : List Nat).getD k 0) iv_X1_init) := hD
  exact W.vret hx hb hr (fun t ht hW => ⟨⟨(fun k => ([0, 0, h0, q7, q39, q47, q85] : List Nat).getD k 0), rfl, rfl, by rw [ht]; exact hP, hD⟩, hS.F ht⟩) hS.2.2 dX1_init_120
def iv_X3_init : DV := zeroV
set_option maxHeartbeats 4000000 in
set_option maxRecDepth 100000 in
theorem ok_X3_init (l : Launch) (G : Gt) (h0 : Nat) (sz : Nat) : Met l yX3_init wsX3_init ({ frames := 1, cells := 7, slots := 210, locals := 40 } : Room) (pcW G [.ref h0] [(h0, .inr (3, [.int 0, .null, .null, .null, .null, .null, .null, .null]))] sz) (va_Qv (fun u : Nat → Nat => u 7 = h0) (fun u t => atW G (lettersC G.2 u iv_X3_init) (va_A [(h0, .inr (3, [.int 0, .null, .null, .null, .null, .null, .null, .null]))] sz) t) (va_A [(h0, .inr (3, [.int 0, .null, .null, .null, .null, .null, .null, .null]))] sz)) 7 210 (va_A [(h0, .inr (3, [.int 0, .null, .null, .null, .null, .null, .null, .null]))] sz) := by
  refine Met.ofW (cc := cX3_init) (maxL := 1) (ret := none) (by decide) rfl ?_
  intro p e s m args below meth c s₁ B hml hv
  obtain ⟨rfl, hsz, hP, hD0, hamb⟩ := hv
  have hx := B.exec
  have hb := B.bytes
  have hr := B.returns
  have hts := atoms_spec (ws := wsX3_init) B.pre
  have hown : s.vm.findClass RX3 = some m.cls := findClass_of_methodNamed B.named
  have hlocks := B.notSynchronized
  have hin : meth.name = "<init>" := (name_of_methodNamed B.named B.method).1
  have hK := hamb.1
  subst hsz
  have hD := hD0.self (sz := s.heap.size)
  generalize hAe : va_A [(h0, .inr (3, [.int 0, .null, .null, .null, .null, .null, .null, .null]))] s.heap.size = A at hD ⊢
  have hA : ∀ q : Nat, s.heap.size ≤ q → A q := fun q h => by rw [← hAe]; exact Or.inr h
  have hS : va_S A s.heap s.heap [] := va_S.rf
  have hinX3 : ∀ w ∈ u_ws RX3 TX3 8, w ∈ wsX3_init := by decide +kernel
  have lw0 := hts (.methodLink RX3 3 objectInit) (by decide +kernel)
  have lw1 := hts (.instanceMethod objectInit) (by decide +kernel)
  have lw2 := hts (.arrayClass .int) (by decide +kernel)
  have lw3 := hts (.fieldLink RX3 9 "MoodDrawers$Letters" "mood" "[I") (by decide +kernel)
  have lw4 := hts (.fieldLink RX3 15 "MoodDrawers$Letters" "heat" "[I") (by decide +kernel)
  have lw5 := hts (.fieldLink RX3 18 "MoodDrawers$Letters" "writtenOn" "[I") (by decide +kernel)
  have lw6 := hts (.fieldLink RX3 21 "MoodDrawers$Letters" "answered" "[I") (by decide +kernel)
  have lw7 := hts (.fieldLink RX3 24 "MoodDrawers$Letters" "how" "[I") (by decide +kernel)
  have lw8 := hts (.fieldLink RX3 27 "MoodDrawers$Letters" "sentOn" "[I") (by decide +kernel)
  have lw9 := hts (.fieldLink RX3 30 "MoodDrawers$Letters" "sentHeat" "[I") (by decide +kernel)
  have hl := lv_entry ([.ref h0]) (n := 1) (Nat.le_of_ble_eq_true rfl)
  rw [lg_entry_eq]
  generalize (lg_sl ([.ref h0]) ++ List.replicate (1 - (lg_sl ([.ref h0])).length) Slot.unset).toArray = ls at hl ⊢
  have hl : lv_has ls 1 [(0, .ref h0)] := hl
  refine lv_aload_n hx hb dX3_init_0 rfl (lv_at hl 0 rfl) ?_
  refine W.objInit hx hb hown lw0 lw1 (hts (.code objectInit ⟨#[0xb1]⟩ 1 none) (List.mem_of_getElem? (i := 3) rfl)) rfl (by rw [hml]; exact hl.1) rfl dX3_init_1 (Nat.le_of_ble_eq_true rfl) (Nat.le_of_ble_eq_true rfl) ?_
  refine W.eq (g2 := F0 m 4 ls []) rfl ?_
  refine lv_aload_n hx hb dX3_init_4 rfl (lv_at hl 0 rfl) ?_
  refine lv_bipush (v := 30) hx hb dX3_init_5 (by decide) ?_
  refine nwI (n := 30) (N' := 30) hx hb lw2 hK hP hD hS hA (by decide) rfl (Nat.le_of_ble_eq_true rfl) (Nat.le_of_ble_eq_true rfl) (Nat.le_of_ble_eq_true rfl) dX3_init_7 (fun q7 H hP hD hS => ?_)
  have hP : va_P G.1 vwCl ([(h0, .inr (3, [.int 0, .null, .null, .null, .null, .null, .null, .null])), (q7, .inl (G.2 0, 30, .inl (fun _ => 0)))]) H := hP
  have hD : va_D A ([(h0, .inr (3, [.int 0, .null, .null, .null, .null, .null, .null, .null])), (q7, .inl (G.2 0, 30, .inl (fun _ => 0)))]) := hD
  refine va_putF (D := G.1) (ci := 3) (v := .ref q7) (ty := .array .int) (C := RX3) (T := TX3) (N := 8) hx hb hts hinX3 tyX3 tyX3_ok nmX3 hown hK hP hD hS 0 rfl rfl 1 (by decide) lw3 (fun _ h9 => h9) rfl hin rfl (by decide +kernel) rfl rfl (Nat.le_of_ble_eq_true rfl) dX3_init_9 (fun H locs hP hD hS => ?_)
  have hP : va_P G.1 vwCl ([(h0, .inr (3, [.int 0, .ref q7, .null, .null, .null, .null, .null, .null])), (q7, .inl (G.2 0, 30, .inl (fun _ => 0)))]) H := hP
  have hD : va_D A ([(h0, .inr (3, [.int 0, .ref q7, .null, .null, .null, .null, .null, .null])), (q7, .inl (G.2 0, 30, .inl (fun _ => 0)))]) := hD
  refine lv_aload_n hx hb dX3_init_12 rfl (lv_at hl 0 rfl) ?_
  refine lv_bipush (v := 30) hx hb dX3_init_13 (by decide) ?_
  refine nwI (n := 30) (N' := 30) hx hb lw2 hK hP hD hS hA (by decide) rfl (Nat.le_of_ble_eq_true rfl) (Nat.le_of_ble_eq_true rfl) (Nat.le_of_ble_eq_true rfl) dX3_init_15 (fun q15 H hP hD hS => ?_)
  have hP : va_P G.1 vwCl ([(h0, .inr (3, [.int 0, .ref q7, .null, .null, .null, .null, .null, .null])), (q7, .inl (G.2 0, 30, .inl (fun _ => 0))), (q15, .inl (G.2 0, 30, .inl (fun _ => 0)))]) H := hP
  have hD : va_D A ([(h0, .inr (3, [.int 0, .ref q7, .null, .null, .null, .null, .null, .null])), (q7, .inl (G.2 0, 30, .inl (fun _ => 0))), (q15, .inl (G.2 0, 30, .inl (fun _ => 0)))]) := hD
  refine va_putF (D := G.1) (ci := 3) (v := .ref q15) (ty := .array .int) (C := RX3) (T := TX3) (N := 8) hx hb hts hinX3 tyX3 tyX3_ok nmX3 hown hK hP hD hS 0 rfl rfl 2 (by decide) lw4 (fun _ h9 => h9) rfl hin rfl (by decide +kernel) rfl rfl (Nat.le_of_ble_eq_true rfl) dX3_init_17 (fun H locs hP hD hS => ?_)
  have hP : va_P G.1 vwCl ([(h0, .inr (3, [.int 0, .ref q7, .ref q15, .null, .null, .null, .null, .null])), (q7, .inl (G.2 0, 30, .inl (fun _ => 0))), (q15, .inl (G.2 0, 30, .inl (fun _ => 0)))]) H := hP
  have hD : va_D A ([(h0, .inr (3, [.int 0, .ref q7, .ref q15, .null, .null, .null, .null, .null])), (q7, .inl (G.2 0, 30, .inl (fun _ => 0))), (q15, .inl (G.2 0, 30, .inl (fun _ => 0)))]) := hD
  refine lv_aload_n hx hb dX3_init_20 rfl (lv_at hl 0 rfl) ?_
  refine lv_bipush (v := 30) hx hb dX3_init_21 (by decide) ?_
  refine nwI (n := 30) (N' := 30) hx hb lw2 hK hP hD hS hA (by decide) rfl (Nat.le_of_ble_eq_true rfl) (Nat.le_of_ble_eq_true rfl) (Nat.le_of_ble_eq_true rfl) dX3_init_23 (fun q23 H hP hD hS => ?_)
  have hP : va_P G.1 vwCl ([(h0, .inr (3, [.int 0, .ref q7, .ref q15, .null, .null, .null, .null, .null])), (q7, .inl (G.2 0, 30, .inl (fun _ => 0))), (q15, .inl (G.2 0, 30, .inl (fun _ => 0))), (q23, .inl (G.2 0, 30, .inl (fun _ => 0)))]) H := hP
  have hD : va_D A ([(h0, .inr (3, [.int 0, .ref q7, .ref q15, .null, .null, .null, .null, .null])), (q7, .inl (G.2 0, 30, .inl (fun _ => 0))), (q15, .inl (G.2 0, 30, .inl (fun _ => 0))), (q23, .inl (G.2 0, 30, .inl (fun _ => 0)))]) := hD
  refine va_putF (D := G.1) (ci := 3) (v := .ref q23) (ty := .array .int) (C := RX3) (T := TX3) (N := 8) hx hb hts hinX3 tyX3 tyX3_ok nmX3 hown hK hP hD hS 0 rfl rfl 3 (by decide) lw5 (fun _ h9 => h9) rfl hin rfl (by decide +kernel) rfl rfl (Nat.le_of_ble_eq_true rfl) dX3_init_25 (fun H locs hP hD hS => ?_)
  have hP : va_P G.1 vwCl ([(h0, .inr (3, [.int 0, .ref q7, .ref q15, .ref q23, .null, .null, .null, .null])), (q7, .inl (G.2 0, 30, .inl (fun _ => 0))), (q15, .inl (G.2 0, 30, .inl (fun _ => 0))), (q23, .inl (G.2 0, 30, .inl (fun _ => 0)))]) H := hP
  have hD : va_D A ([(h0, .inr (3, [.int 0, .ref q7, .ref q15, .ref q23, .null, .null, .null, .null])), (q7, .inl (G.2 0, 30, .inl (fun _ => 0))), (q15, .inl (G.2 0, 30, .inl (fun _ => 0))), (q23, .inl (G.2 0, 30, .inl (fun _ => 0)))]) := hD
  refine lv_aload_n hx hb dX3_init_28 rfl (lv_at hl 0 rfl) ?_
  refine lv_bipush (v := 30) hx hb dX3_init_29 (by decide) ?_
  refine nwI (n := 30) (N' := 30) hx hb lw2 hK hP hD hS hA (by decide) rfl (Nat.le_of_ble_eq_true rfl) (Nat.le_of_ble_eq_true rfl) (Nat.le_of_ble_eq_true rfl) dX3_init_31 (fun q31 H hP hD hS => ?_)
  have hP : va_P G.1 vwCl ([(h0, .inr (3, [.int 0, .ref q7, .ref q15, .ref q23, .null, .null, .null, .null])), (q7, .inl (G.2 0, 30, .inl (fun _ => 0))), (q15, .inl (G.2 0, 30, .inl (fun _ => 0))), (q23, .inl (G.2 0, 30, .inl (fun _ => 0))), (q31, .inl (G.2 0, 30, .inl (fun _ => 0)))]) H := hP
  have hD : va_D A ([(h0, .inr (3, [.int 0, .ref q7, .ref q15, .ref q23, .null, .null, .null, .null])), (q7, .inl (G.2 0, 30, .inl (fun _ => 0))), (q15, .inl (G.2 0, 30, .inl (fun _ => 0))), (q23, .inl (G.2 0, 30, .inl (fun _ => 0))), (q31, .inl (G.2 0, 30, .inl (fun _ => 0)))]) := hD
  refine va_putF (D := G.1) (ci := 3) (v := .ref q31) (ty := .array .int) (C := RX3) (T := TX3) (N := 8) hx hb hts hinX3 tyX3 tyX3_ok nmX3 hown hK hP hD hS 0 rfl rfl 4 (by decide) lw6 (fun _ h9 => h9) rfl hin rfl (by decide +kernel) rfl rfl (Nat.le_of_ble_eq_true rfl) dX3_init_33 (fun H locs hP hD hS => ?_)
  have hP : va_P G.1 vwCl ([(h0, .inr (3, [.int 0, .ref q7, .ref q15, .ref q23, .ref q31, .null, .null, .null])), (q7, .inl (G.2 0, 30, .inl (fun _ => 0))), (q15, .inl (G.2 0, 30, .inl (fun _ => 0))), (q23, .inl (G.2 0, 30, .inl (fun _ => 0))), (q31, .inl (G.2 0, 30, .inl (fun _ => 0)))]) H := hP
  have hD : va_D A ([(h0, .inr (3, [.int 0, .ref q7, .ref q15, .ref q23, .ref q31, .null, .null, .null])), (q7, .inl (G.2 0, 30, .inl (fun _ => 0))), (q15, .inl (G.2 0, 30, .inl (fun _ => 0))), (q23, .inl (G.2 0, 30, .inl (fun _ => 0))), (q31, .inl (G.2 0, 30, .inl (fun _ => 0)))]) := hD
  refine lv_aload_n hx hb dX3_init_36 rfl (lv_at hl 0 rfl) ?_
  refine lv_bipush (v := 30) hx hb dX3_init_37 (by decide) ?_
  refine nwI (n := 30) (N' := 30) hx hb lw2 hK hP hD hS hA (by decide) rfl (Nat.le_of_ble_eq_true rfl) (Nat.le_of_ble_eq_true rfl) (Nat.le_of_ble_eq_true rfl) dX3_init_39 (fun q39 H hP hD hS => ?_)
  have hP : va_P G.1 vwCl ([(h0, .inr (3, [.int 0, .ref q7, .ref q15, .ref q23, .ref q31, .null, .null, .null])), (q7, .inl (G.2 0, 30, .inl (fun _ => 0))), (q15, .inl (G.2 0, 30, .inl (fun _ => 0))), (q23, .inl (G.2 0, 30, .inl (fun _ => 0))), (q31, .inl (G.2 0, 30, .inl (fun _ => 0))), (q39, .inl (G.2 0, 30, .inl (fun _ => 0)))]) H := hP
  have hD : va_D A ([(h0, .inr (3, [.int 0, .ref q7, .ref q15, .ref q23, .ref q31, .null, .null, .null])), (q7, .inl (G.2 0, 30, .inl (fun _ => 0))), (q15, .inl (G.2 0, 30, .inl (fun _ => 0))), (q23, .inl (G.2 0, 30, .inl (fun _ => 0))), (q31, .inl (G.2 0, 30, .inl (fun _ => 0))), (q39, .inl (G.2 0, 30, .inl (fun _ => 0)))]) := hD
  refine va_putF (D := G.1) (ci := 3) (v := .ref q39) (ty := .array .int) (C := RX3) (T := TX3) (N := 8) hx hb hts hinX3 tyX3 tyX3_ok nmX3 hown hK hP hD hS 0 rfl rfl 5 (by decide) lw7 (fun _ h9 => h9) rfl hin rfl (by decide +kernel) rfl rfl (Nat.le_of_ble_eq_true rfl) dX3_init_41 (fun H locs hP hD hS => ?_)
  have hP : va_P G.1 vwCl ([(h0, .inr (3, [.int 0, .ref q7, .ref q15, .ref q23, .ref q31, .ref q39, .null, .null])), (q7, .inl (G.2 0, 30, .inl (fun _ => 0))), (q15, .inl (G.2 0, 30, .inl (fun _ => 0))), (q23, .inl (G.2 0, 30, .inl (fun _ => 0))), (q31, .inl (G.2 0, 30, .inl (fun _ => 0))), (q39, .inl (G.2 0, 30, .inl (fun _ => 0)))]) H := hP
  have hD : va_D A ([(h0, .inr (3, [.int 0, .ref q7, .ref q15, .ref q23, .ref q31, .ref q39, .null, .null])), (q7, .inl (G.2 0, 30, .inl (fun _ => 0))), (q15, .inl (G.2 0, 30, .inl (fun _ => 0))), (q23, .inl (G.2 0, 30, .inl (fun _ => 0))), (q31, .inl (G.2 0, 30, .inl (fun _ => 0))), (q39, .inl (G.2 0, 30, .inl (fun _ => 0)))]) := hD
  refine lv_aload_n hx hb dX3_init_44 rfl (lv_at hl 0 rfl) ?_
  refine lv_bipush (v := 30) hx hb dX3_init_45 (by decide) ?_
  refine nwI (n := 30) (N' := 30) hx hb lw2 hK hP hD hS hA (by decide) rfl (Nat.le_of_ble_eq_true rfl) (Nat.le_of_ble_eq_true rfl) (Nat.le_of_ble_eq_true rfl) dX3_init_47 (fun q47 H hP hD hS => ?_)
  have hP : va_P G.1 vwCl ([(h0, .inr (3, [.int 0, .ref q7, .ref q15, .ref q23, .ref q31, .ref q39, .null, .null])), (q7, .inl (G.2 0, 30, .inl (fun _ => 0))), (q15, .inl (G.2 0, 30, .inl (fun _ => 0))), (q23, .inl (G.2 0, 30, .inl (fun _ => 0))), (q31, .inl (G.2 0, 30, .inl (fun _ => 0))), (q39, .inl (G.2 0, 30, .inl (fun _ => 0))), (q47, .inl (G.2 0, 30, .inl (fun _ => 0)))]) H := hP
  have hD : va_D A ([(h0, .inr (3, [.int 0, .ref q7, .ref q15, .ref q23, .ref q31, .ref q39, .null, .null])), (q7, .inl (G.2 0, 30, .inl (fun _ => 0))), (q15, .inl (G.2 0, 30, .inl (fun _ => 0))), (q23, .inl (G.2 0, 30, .inl (fun _ => 0))), (q31, .inl (G.2 0, 30, .inl (fun _ => 0))), (q39, .inl (G.2 0, 30, .inl (fun _ => 0))), (q47, .inl (G.2 0, 30, .inl (fun _ => 0)))]) := hD
  refine va_putF (D := G.1) (ci := 3) (v := .ref q47) (ty := .array .int) (C := RX3) (T := TX3) (N := 8) hx hb hts hinX3 tyX3 tyX3_ok nmX3 hown hK hP hD hS 0 rfl rfl 6 (by decide) lw8 (fun _ h9 => h9) rfl hin rfl (by decide +kernel) rfl rfl (Nat.le_of_ble_eq_true rfl) dX3_init_49 (fun H locs hP hD hS => ?_)
  have hP : va_P G.1 vwCl ([(h0, .inr (3, [.int 0, .ref q7, .ref q15, .ref q23, .ref q31, .ref q39, .ref q47, .null])), (q7, .inl (G.2 0, 30, .inl (fun _ => 0))), (q15, .inl (G.2 0, 30, .inl (fun _ => 0))), (q23, .inl (G.2 0, 30, .inl (fun _ => 0))), (q31, .inl (G.2 0, 30, .inl (fun _ => 0))), (q39, .inl (G.2 0, 30, .inl (fun _ => 0))), (q47, .inl (G.2 0, 30, .inl (fun _ => 0)))]) H := hP
  have hD : va_D A ([(h0, .inr (3, [.int 0, .ref q7, .ref q15, .ref q23, .ref q31, .ref q39, .ref q47, .null])), (q7, .inl (G.2 0, 30, .inl (fun _ => 0))), (q15, .inl (G.2 0, 30, .inl (fun _ => 0))), (q23, .inl (G.2 0, 30, .inl (fun _ => 0))), (q31, .inl (G.2 0, 30, .inl (fun _ => 0))), (q39, .inl (G.2 0, 30, .inl (fun _ => 0))), (q47, .inl (G.2 0, 30, .inl (fun _ => 0)))]) := hD
  refine lv_aload_n hx hb dX3_init_52 rfl (lv_at hl 0 rfl) ?_
  refine lv_bipush (v := 30) hx hb dX3_init_53 (by decide) ?_
  refine nwI (n := 30) (N' := 30) hx hb lw2 hK hP hD hS hA (by decide) rfl (Nat.le_of_ble_eq_true rfl) (Nat.le_of_ble_eq_true rfl) (Nat.le_of_ble_eq_true rfl) dX3_init_55 (fun q55 H hP hD hS => ?_)
  have hP : va_P G.1 vwCl ([(h0, .inr (3, [.int 0, .ref q7, .ref q15, .ref q23, .ref q31, .ref q39, .ref q47, .null])), (q7, .inl (G.2 0, 30, .inl (fun _ => 0))), (q15, .inl (G.2 0, 30, .inl (fun _ => 0))), (q23, .inl (G.2 0, 30, .inl (fun _ => 0))), (q31, .inl (G.2 0, 30, .inl (fun _ => 0))), (q39, .inl (G.2 0, 30, .inl (fun _ => 0))), (q47, .inl (G.2 0, 30, .inl (fun _ => 0))), (q55, .inl (G.2 0, 30, .inl (fun _ => 0)))]) H := hP
  have hD : va_D A ([(h0, .inr (3, [.int 0, .ref q7, .ref q15, .ref q23, .ref q31, .ref q39, .ref q47, .null])), (q7, .inl (G.2 0, 30, .inl (fun _ => 0))), (q15, .inl (G.2 0, 30, .inl (fun _ => 0))), (q23, .inl (G.2 0, 30, .inl (fun _ => 0))), (q31, .inl (G.2 0, 30, .inl (fun _ => 0))), (q39, .inl (G.2 0, 30, .inl (fun _ => 0))), (q47, .inl (G.2 0, 30, .inl (fun _ => 0))), (q55, .inl (G.2 0, 30, .inl (fun _ => 0)))]) := hD
  refine va_putF (D := G.1) (ci := 3) (v := .ref q55) (ty := .array .int) (C := RX3) (T := TX3) (N := 8) hx hb hts hinX3 tyX3 tyX3_ok nmX3 hown hK hP hD hS 0 rfl rfl 7 (by decide) lw9 (fun _ h9 => h9) rfl hin rfl (by decide +kernel) rfl rfl (Nat.le_of_ble_eq_true rfl) dX3_init_57 (fun H locs hP hD hS => ?_)
  have hP : va_P G.1 vwCl ([(h0, .inr (3, [.int 0, .ref q7, .ref q15, .ref q23, .ref q31, .ref q39, .ref q47, .ref q55])), (q7, .inl (G.2 0, 30, .inl (fun _ => 0))), (q15, .inl (G.2 0, 30, .inl (fun _ => 0))), (q23, .inl (G.2 0, 30, .inl (fun _ => 0))), (q31, .inl (G.2 0, 30, .inl (fun _ => 0))), (q39, .inl (G.2 0, 30, .inl (fun _ => 0))), (q47, .inl (G.2 0, 30, .inl (fun _ => 0))), (q55, .inl (G.2 0, 30, .inl (fun _ => 0)))]) H := hP
  have hD : va_D A ([(h0, .inr (3, [.int 0, .ref q7, .ref q15, .ref q23, .ref q31, .ref q39, .ref q47, .ref q55])), (q7, .inl (G.2 0, 30, .inl (fun _ => 0))), (q15, .inl (G.2 0, 30, .inl (fun _ => 0))), (q23, .inl (G.2 0, 30, .inl (fun _ => 0))), (q31, .inl (G.2 0, 30, .inl (fun _ => 0))), (q39, .inl (G.2 0, 30, .inl (fun _ => 0))), (q47, .inl (G.2 0, 30, .inl (fun _ => 0))), (q55, .inl (G.2 0, 30, .inl (fun _ => 0)))]) := hD
  refine W.widen (k := 7) (n := 210) (Nat.le_of_ble_eq_true rfl) (Nat.le_of_ble_eq_true rfl) ?_
  have hP : va_P G.1 vwCl (lettersC G.2 (fun k => ([0, 0, 0, 0, 0, 0, 0, h0, q7, q15, q23, q31, q39, q47, q55] : List Nat).getD k 0) iv_X3_init) H := hP
  have hD : va_D A (lettersC G.2 (fun k => ([0, 0, 0, 0, 0, 0, 0, h0, q7, q15, q23, q31, q39, q47, q55] : List Nat).getD k 0) iv_X3_init) := hD
  exact W.vret hx hb hr (fun t ht hW => ⟨⟨(fun k => ([0, 0, 0, 0, 0, 0, 0, h0, q7, q15, q23, q31, q39, q47, q55] : List Nat).getD k 0), rfl, rfl, by rw [ht]; exact hP, hD⟩, hS.F ht⟩) hS.2.2 dX3_init_60
def iv_X0_init : DV := (mx [1, 7, 8, 9, 10, 11, 12, 13] (mx [3, 4, 5, 6] (vs zeroV 2 (upd (upd (upd (fun _ => 0) (Int32.toNatClampNeg 0) 17) (Int32.toNatClampNeg 1) 30) (Int32.toNatClampNeg 2) 5)) iv_X1_init) iv_X3_init)
set_option maxHeartbeats 4000000 in
set_option maxRecDepth 100000 in
theorem ok_X0_init (l : Launch) (G : Gt) (h0 : Nat) (sz : Nat) : Met l yX0_init wsX0_init ({ frames := 2, cells := 14, slots := 249, locals := 60 } : Room) (pcW G [.ref h0] [(h0, .inr (0, [.null, .int 0, .null, .null]))] sz) (va_Qv (fun u : Nat → Nat => u 0 = h0) (fun u t => atW G (deskC G.2 u iv_X0_init) (va_A [(h0, .inr (0, [.null, .int 0, .null, .null]))] sz) t) (va_A [(h0, .inr (0, [.null, .int 0, .null, .null]))] sz)) 14 249 (va_A [(h0, .inr (0, [.null, .int 0, .null, .null]))] sz) := by
  refine Met.ofW (cc := cX0_init) (maxL := 1) (ret := none) (by decide) rfl ?_
  intro p e s m args below meth c s₁ B hml hv
  obtain ⟨rfl, hsz, hP, hD0, hamb⟩ := hv
  have hx := B.exec
  have hb := B.bytes
  have hr := B.returns
  have hts := atoms_spec (ws := wsX0_init) B.pre
  have hown : s.vm.findClass RX0 = some m.cls := findClass_of_methodNamed B.named
  have hlocks := B.notSynchronized
  have hin : meth.name = "<init>" := (name_of_methodNamed B.named B.method).1
  have hK := hamb.1
  subst hsz
  have hD := hD0.self (sz := s.heap.size)
  generalize hAe : va_A [(h0, .inr (0, [.null, .int 0, .null, .null]))] s.heap.size = A at hD ⊢
  have hA : ∀ q : Nat, s.heap.size ≤ q → A q := fun q h => by rw [← hAe]; exact Or.inr h
  have hS : va_S A s.heap s.heap [] := va_S.rf
  have hinX0 : ∀ w ∈ u_ws RX0 TX0 4, w ∈ wsX0_init := by decide +kernel
  have hinX1 : ∀ w ∈ u_ws RX1 TX1 4, w ∈ wsX0_init := by decide +kernel
  have hinX3 : ∀ w ∈ u_ws RX3 TX3 8, w ∈ wsX0_init := by decide +kernel
  have lw0 := hts (.methodLink RX0 3 objectInit) (by decide +kernel)
  have lw1 := hts (.instanceMethod objectInit) (by decide +kernel)
  have lw2 := hts (.arrayClass .int) (by decide +kernel)
  have lw3 := hts (.fieldLink RX0 9 "MoodDrawers$Desk" "settings" "[I") (by decide +kernel)
  have lw4 := hts (.classLink RX0 15 RX1) (by decide +kernel)
  have lw5 := hts (.instantiable RX1 4) (by decide +kernel)
  have lw6 := hts (.initialized RX1) (by decide +kernel)
  have lw7 := hts (.instanceMethod yX1_init) (by decide +kernel)
  have lw8 := hts (.fieldLink RX0 18 "MoodDrawers$Desk" "drawers" "LMoodDrawers$Drawers;") (by decide +kernel)
  have lw9 := hts (.classLink RX0 22 RX3) (by decide +kernel)
  have lw10 := hts (.instantiable RX3 8) (by decide +kernel)
  have lw11 := hts (.initialized RX3) (by decide +kernel)
  have lw12 := hts (.instanceMethod yX3_init) (by decide +kernel)
  have lw13 := hts (.fieldLink RX0 25 "MoodDrawers$Desk" "letters" "LMoodDrawers$Letters;") (by decide +kernel)
  have hl := lv_entry ([.ref h0]) (n := 1) (Nat.le_of_ble_eq_true rfl)
  rw [lg_entry_eq]
  generalize (lg_sl ([.ref h0]) ++ List.replicate (1 - (lg_sl ([.ref h0])).length) Slot.unset).toArray = ls at hl ⊢
  have hl : lv_has ls 1 [(0, .ref h0)] := hl
  refine lv_aload_n hx hb dX0_init_0 rfl (lv_at hl 0 rfl) ?_
  refine W.objInit hx hb hown lw0 lw1 (hts (.code objectInit ⟨#[0xb1]⟩ 1 none) (List.mem_of_getElem? (i := 3) rfl)) rfl (by rw [hml]; exact hl.1) rfl dX0_init_1 (Nat.le_of_ble_eq_true rfl) (Nat.le_of_ble_eq_true rfl) ?_
  refine W.eq (g2 := F0 m 4 ls []) rfl ?_
  refine lv_aload_n hx hb dX0_init_4 rfl (lv_at hl 0 rfl) ?_
  refine lv_iconst (v := 3) hx hb dX0_init_5 (by decide) ?_
  refine nwI (n := 3) (N' := 3) hx hb lw2 hK hP hD hS hA (by decide) rfl (Nat.le_of_ble_eq_true rfl) (Nat.le_of_ble_eq_true rfl) (Nat.le_of_ble_eq_true rfl) dX0_init_6 (fun q6 H hP hD hS => ?_)
  have hP : va_P G.1 vwCl ([(h0, .inr (0, [.null, .int 0, .null, .null])), (q6, .inl (G.2 0, 3, .inl (fun _ => 0)))]) H := hP
  have hD : va_D A ([(h0, .inr (0, [.null, .int 0, .null, .null])), (q6, .inl (G.2 0, 3, .inl (fun _ => 0)))]) := hD
  refine lv_dup hx hb dX0_init_8 rfl ?_
  refine lv_iconst (v := 0) hx hb dX0_init_9 (by decide) ?_
  refine lv_bipush (v := 17) hx hb dX0_init_10 (by decide) ?_
  refine va_iast (f := (fun _ => 0)) hx hb hK hP hD hS 1 0 rfl rfl (ixb_1 (show ixb 0 3 = true from rfl)) dX0_init_12 (fun H locs hP hD hS => ?_)
  have hP : va_P G.1 vwCl ([(h0, .inr (0, [.null, .int 0, .null, .null])), (q6, .inl (G.2 0, 3, .inl (upd (fun _ => 0) (Int32.toNatClampNeg 0) 17)))]) H := hP
  have hD : va_D A ([(h0, .inr (0, [.null, .int 0, .null, .null])), (q6, .inl (G.2 0, 3, .inl (upd (fun _ => 0) (Int32.toNatClampNeg 0) 17)))]) := hD
  refine lv_dup hx hb dX0_init_13 rfl ?_
  refine lv_iconst (v := 1) hx hb dX0_init_14 (by decide) ?_
  refine lv_bipush (v := 30) hx hb dX0_init_15 (by decide) ?_
  refine va_iast (f := (upd (fun _ => 0) (Int32.toNatClampNeg 0) 17)) hx hb hK hP hD hS 1 0 rfl rfl (ixb_1 (show ixb 1 3 = true from rfl)) dX0_init_17 (fun H locs hP hD hS => ?_)
  have hP : va_P G.1 vwCl ([(h0, .inr (0, [.null, .int 0, .null, .null])), (q6, .inl (G.2 0, 3, .inl (upd (upd (fun _ => 0) (Int32.toNatClampNeg 0) 17) (Int32.toNatClampNeg 1) 30)))]) H := hP
  have hD : va_D A ([(h0, .inr (0, [.null, .int 0, .null, .null])), (q6, .inl (G.2 0, 3, .inl (upd (upd (fun _ => 0) (Int32.toNatClampNeg 0) 17) (Int32.toNatClampNeg 1) 30)))]) := hD
  refine lv_dup hx hb dX0_init_18 rfl ?_
  refine lv_iconst (v := 2) hx hb dX0_init_19 (by decide) ?_
  refine lv_iconst (v := 5) hx hb dX0_init_20 (by decide) ?_
  refine va_iast (f := (upd (upd (fun _ => 0) (Int32.toNatClampNeg 0) 17) (Int32.toNatClampNeg 1) 30)) hx hb hK hP hD hS 1 0 rfl rfl (ixb_1 (show ixb 2 3 = true from rfl)) dX0_init_21 (fun H locs hP hD hS => ?_)
  have hP : va_P G.1 vwCl ([(h0, .inr (0, [.null, .int 0, .null, .null])), (q6, .inl (G.2 0, 3, .inl (upd (upd (upd (fun _ => 0) (Int32.toNatClampNeg 0) 17) (Int32.toNatClampNeg 1) 30) (Int32.toNatClampNeg 2) 5)))]) H := hP
  have hD : va_D A ([(h0, .inr (0, [.null, .int 0, .null, .null])), (q6, .inl (G.2 0, 3, .inl (upd (upd (upd (fun _ => 0) (Int32.toNatClampNeg 0) 17) (Int32.toNatClampNeg 1) 30) (Int32.toNatClampNeg 2) 5)))]) := hD
  refine va_putF (D := G.1) (ci := 0) (v := .ref q6) (ty := .array .int) (C := RX0) (T := TX0) (N := 4) hx hb hts hinX0 tyX0 tyX0_ok nmX0 hown hK hP hD hS 0 rfl rfl 0 (by decide) lw3 (fun _ h9 => h9) rfl hin rfl (by decide +kernel) rfl rfl (Nat.le_of_ble_eq_true rfl) dX0_init_22 (fun H locs hP hD hS => ?_)
  have hP : va_P G.1 vwCl ([(h0, .inr (0, [.ref q6, .int 0, .null, .null])), (q6, .inl (G.2 0, 3, .inl (upd (upd (upd (fun _ => 0) (Int32.toNatClampNeg 0) 17) (Int32.toNatClampNeg 1) 30) (Int32.toNatClampNeg 2) 5)))]) H := hP
  have hD : va_D A ([(h0, .inr (0, [.ref q6, .int 0, .null, .null])), (q6, .inl (G.2 0, 3, .inl (upd (upd (upd (fun _ => 0) (Int32.toNatClampNeg 0) 17) (Int32.toNatClampNeg 1) 30) (Int32.toNatClampNeg 2) 5)))]) := hD
  refine lv_aload_n hx hb dX0_init_25 rfl (lv_at hl 0 rfl) ?_
  refine va_new (ci := 1) (fs := [.null, .null, .null, .null]) (C := RX1) (T := TX1) (N := 4) hx hb hts hinX1 tyX1 tyX1_ok hown lw4 lw5 lw6 hK hP hD hS hA rfl (fun j hj => by rcases (show j = 0 ∨ j = 1 ∨ j = 2 ∨ j = 3 by omega) with rfl | rfl | rfl | rfl <;> rfl) (Nat.le_of_ble_eq_true rfl) (Nat.le_of_ble_eq_true rfl) dX0_init_26 (fun q26 H hP hD hS => ?_)
  have hP : va_P G.1 vwCl ([(h0, .inr (0, [.ref q6, .int 0, .null, .null])), (q6, .inl (G.2 0, 3, .inl (upd (upd (upd (fun _ => 0) (Int32.toNatClampNeg 0) 17) (Int32.toNatClampNeg 1) 30) (Int32.toNatClampNeg 2) 5))), (q26, .inr (1, [.null, .null, .null, .null]))]) H := hP
  have hD : va_D A ([(h0, .inr (0, [.ref q6, .int 0, .null, .null])), (q6, .inl (G.2 0, 3, .inl (upd (upd (upd (fun _ => 0) (Int32.toNatClampNeg 0) 17) (Int32.toNatClampNeg 1) 30) (Int32.toNatClampNeg 2) 5))), (q26, .inr (1, [.null, .null, .null, .null]))]) := hD
  refine lv_dup hx hb dX0_init_29 rfl ?_
  refine cwv (va_runIN (As := []) (rest := [.ref q26, .ref h0]) ⟨hx, hb, hml, hown, hts⟩ (ok_X1_init l G q26 H.size) ⟨va_cnB 0 hts gX0_init_X1_init_n17 rfl rfl rfl (hamb.2.1 (.methodLinkNest RX0 17 yX1_init RX6) (List.mem_of_getElem? (i := 1) rfl)) lw6 (by decide +kernel) ⟨Nat.le_of_ble_eq_true rfl, Nat.le_of_ble_eq_true rfl⟩, rfl, lw7⟩ ⟨pcW_blind, pcW_pre (hP.sub (ws' := [(q26, .inr (1, [.null, .null, .null, .null]))]) [2] rfl) (hD.sub (ws' := [(q26, .inr (1, [.null, .null, .null, .null]))]) [2] (by decide) rfl) hamb⟩ rfl rfl hl.1 rfl (lv_room (Nat.le_of_ble_eq_true rfl)) dX0_init_30 ⟨Nat.le_of_ble_eq_true rfl, Nat.le_of_ble_eq_true rfl⟩) (wr := [(h0, .inr (0, [.ref q6, .int 0, .null, .null])), (q6, .inl (G.2 0, 3, .inl (upd (upd (upd (fun _ => 0) (Int32.toNatClampNeg 0) 17) (Int32.toNatClampNeg 1) 30) (Int32.toNatClampNeg 2) 5)))]) hP hD hS hA [2] [0, 1] rfl rfl (by decide) (by decide) (fun u30 H locs hw hP hD hS => ?_)
  have hw30 := hw
  have hP : va_P G.1 vwCl ([(h0, .inr (0, [.ref q6, .int 0, .null, .null])), (q6, .inl (G.2 0, 3, .inl (upd (upd (upd (fun _ => 0) (Int32.toNatClampNeg 0) 17) (Int32.toNatClampNeg 1) 30) (Int32.toNatClampNeg 2) 5)))] ++ drawersC G.2 u30 iv_X1_init) H := hP
  have hD : va_D A ([(h0, .inr (0, [.ref q6, .int 0, .null, .null])), (q6, .inl (G.2 0, 3, .inl (upd (upd (upd (fun _ => 0) (Int32.toNatClampNeg 0) 17) (Int32.toNatClampNeg 1) 30) (Int32.toNatClampNeg 2) 5)))] ++ drawersC G.2 u30 iv_X1_init) := hD
  refine va_putF (D := G.1) (ci := 0) (v := .ref q26) (ty := .object "MoodDrawers$Drawers") (C := RX0) (T := TX0) (N := 4) hx hb hts hinX0 tyX0 tyX0_ok nmX0 hown hK hP hD hS 0 rfl rfl 2 (by decide) lw8 (fun _ h9 => h9) rfl hin rfl (by decide +kernel) rfl rfl (Nat.le_of_ble_eq_true rfl) dX0_init_33 (fun H locs hP hD hS => ?_)
  have hP : va_P G.1 vwCl ([(h0, .inr (0, [.ref q6, .int 0, .ref q26, .null])), (q6, .inl (G.2 0, 3, .inl (upd (upd (upd (fun _ => 0) (Int32.toNatClampNeg 0) 17) (Int32.toNatClampNeg 1) 30) (Int32.toNatClampNeg 2) 5)))] ++ drawersC G.2 u30 iv_X1_init) H := hP
  have hD : va_D A ([(h0, .inr (0, [.ref q6, .int 0, .ref q26, .null])), (q6, .inl (G.2 0, 3, .inl (upd (upd (upd (fun _ => 0) (Int32.toNatClampNeg 0) 17) (Int32.toNatClampNeg 1) 30) (Int32.toNatClampNeg 2) 5)))] ++ drawersC G.2 u30 iv_X1_init) := hD
  refine lv_aload_n hx hb dX0_init_36 rfl (lv_at hl 0 rfl) ?_
  refine va_new (ci := 3) (fs := [.int 0, .null, .null, .null, .null, .null, .null, .null]) (C := RX3) (T := TX3) (N := 8) hx hb hts hinX3 tyX3 tyX3_ok hown lw9 lw10 lw11 hK hP hD hS hA rfl (fun j hj => by rcases (show j = 0 ∨ j = 1 ∨ j = 2 ∨ j = 3 ∨ j = 4 ∨ j = 5 ∨ j = 6 ∨ j = 7 by omega) with rfl | rfl | rfl | rfl | rfl | rfl | rfl | rfl <;> rfl) (Nat.le_of_ble_eq_true rfl) (Nat.le_of_ble_eq_true rfl) dX0_init_37 (fun q37 H hP hD hS => ?_)
  have hP : va_P G.1 vwCl ([(h0, .inr (0, [.ref q6, .int 0, .ref q26, .null])), (q6, .inl (G.2 0, 3, .inl (upd (upd (upd (fun _ => 0) (Int32.toNatClampNeg 0) 17) (Int32.toNatClampNeg 1) 30) (Int32.toNatClampNeg 2) 5)))] ++ drawersC G.2 u30 iv_X1_init ++ [(q37, .inr (3, [.int 0, .null, .null, .null, .null, .null, .null, .null]))]) H := hP
  have hD : va_D A ([(h0, .inr (0, [.ref q6, .int 0, .ref q26, .null])), (q6, .inl (G.2 0, 3, .inl (upd (upd (upd (fun _ => 0) (Int32.toNatClampNeg 0) 17) (Int32.toNatClampNeg 1) 30) (Int32.toNatClampNeg 2) 5)))] ++ drawersC G.2 u30 iv_X1_init ++ [(q37, .inr (3, [.int 0, .null, .null, .null, .null, .null, .null, .null]))]) := hD
  refine lv_dup hx hb dX0_init_40 rfl ?_
  refine cwv (va_runIN (As := []) (rest := [.ref q37, .ref h0]) ⟨hx, hb, hml, hown, hts⟩ (ok_X3_init l G q37 H.size) ⟨va_cnB 0 hts gX0_init_X3_init_n24 rfl rfl rfl (hamb.2.1 (.methodLinkNest RX0 24 yX3_init RX6) (List.mem_of_getElem? (i := 2) rfl)) lw11 (by decide +kernel) ⟨Nat.le_of_ble_eq_true rfl, Nat.le_of_ble_eq_true rfl⟩, rfl, lw12⟩ ⟨pcW_blind, pcW_pre (hP.sub (ws' := [(q37, .inr (3, [.int 0, .null, .null, .null, .null, .null, .null, .null]))]) [7] rfl) (hD.sub (ws' := [(q37, .inr (3, [.int 0, .null, .null, .null, .null, .null, .null, .null]))]) [7] (by decide) rfl) hamb⟩ rfl rfl hl.1 rfl (lv_room (Nat.le_of_ble_eq_true rfl)) dX0_init_41 ⟨Nat.le_of_ble_eq_true rfl, Nat.le_of_ble_eq_true rfl⟩) (wr := [(h0, .inr (0, [.ref q6, .int 0, .ref q26, .null])), (q6, .inl (G.2 0, 3, .inl (upd (upd (upd (fun _ => 0) (Int32.toNatClampNeg 0) 17) (Int32.toNatClampNeg 1) 30) (Int32.toNatClampNeg 2) 5)))] ++ drawersC G.2 u30 iv_X1_init) hP hD hS hA [7] [0, 1, 2, 3, 4, 5, 6] rfl rfl (by decide) (by decide) (fun u41 H locs hw hP hD hS => ?_)
  have hw41 := hw
  have hP : va_P G.1 vwCl ([(h0, .inr (0, [.ref q6, .int 0, .ref q26, .null])), (q6, .inl (G.2 0, 3, .inl (upd (upd (upd (fun _ => 0) (Int32.toNatClampNeg 0) 17) (Int32.toNatClampNeg 1) 30) (Int32.toNatClampNeg 2) 5)))] ++ drawersC G.2 u30 iv_X1_init ++ lettersC G.2 u41 iv_X3_init) H := hP
  have hD : va_D A ([(h0, .inr (0, [.ref q6, .int 0, .ref q26, .null])), (q6, .inl (G.2 0, 3, .inl (upd (upd (upd (fun _ => 0) (Int32.toNatClampNeg 0) 17) (Int32.toNatClampNeg 1) 30) (Int32.toNatClampNeg 2) 5)))] ++ drawersC G.2 u30 iv_X1_init ++ lettersC G.2 u41 iv_X3_init) := hD
  refine va_putF (D := G.1) (ci := 0) (v := .ref q37) (ty := .object "MoodDrawers$Letters") (C := RX0) (T := TX0) (N := 4) hx hb hts hinX0 tyX0 tyX0_ok nmX0 hown hK hP hD hS 0 rfl rfl 3 (by decide) lw13 (fun _ h9 => h9) rfl hin rfl (by decide +kernel) rfl rfl (Nat.le_of_ble_eq_true rfl) dX0_init_44 (fun H locs hP hD hS => ?_)
  have hP : va_P G.1 vwCl ([(h0, .inr (0, [.ref q6, .int 0, .ref q26, .ref q37])), (q6, .inl (G.2 0, 3, .inl (upd (upd (upd (fun _ => 0) (Int32.toNatClampNeg 0) 17) (Int32.toNatClampNeg 1) 30) (Int32.toNatClampNeg 2) 5)))] ++ drawersC G.2 u30 iv_X1_init ++ lettersC G.2 u41 iv_X3_init) H := hP
  have hD : va_D A ([(h0, .inr (0, [.ref q6, .int 0, .ref q26, .ref q37])), (q6, .inl (G.2 0, 3, .inl (upd (upd (upd (fun _ => 0) (Int32.toNatClampNeg 0) 17) (Int32.toNatClampNeg 1) 30) (Int32.toNatClampNeg 2) 5)))] ++ drawersC G.2 u30 iv_X1_init ++ lettersC G.2 u41 iv_X3_init) := hD
  refine W.widen (k := 14) (n := 249) (Nat.le_of_ble_eq_true rfl) (Nat.le_of_ble_eq_true rfl) ?_
  rw [← hw30] at hP hD
  rw [← hw41] at hP hD
  have hP : va_P G.1 vwCl (deskC G.2 (fun k => ([h0, q6, u30 2, u30 3, u30 4, u30 5, u30 6, u41 7, u41 8, u41 9, u41 10, u41 11, u41 12, u41 13, u41 14] : List Nat).getD k 0) iv_X0_init) H := hP
  have hD : va_D A (deskC G.2 (fun k => ([h0, q6, u30 2, u30 3, u30 4, u30 5, u30 6, u41 7, u41 8, u41 9, u41 10, u41 11, u41 12, u41 13, u41 14] : List Nat).getD k 0) iv_X0_init) := hD
  exact W.vret hx hb hr (fun t ht hW => ⟨⟨(fun k => ([h0, q6, u30 2, u30 3, u30 4, u30 5, u30 6, u41 7, u41 8, u41 9, u41 10, u41 11, u41 12, u41 13, u41 14] : List Nat).getD k 0), rfl, rfl, by rw [ht]; exact hP, hD⟩, hS.F ht⟩) hS.2.2 dX0_init_47
def reg2C (g : Nat → ClassId) (a : Nat → Nat) (v : DV) : va_W := [(a 15, .inr (5, [.ref (a 16)])), (a 16, .inl (g 0, 30, .inl (v 14)))]
def iv_X5_init : DV := zeroV
set_option maxHeartbeats 4000000 in
set_option maxRecDepth 100000 in
theorem ok_X5_init (l : Launch) (G : Gt) (h0 : Nat) (sz : Nat) : Met l yX5_init wsX5_init ({ frames := 1, cells := 1, slots := 30, locals := 40 } : Room) (pcW G [.ref h0] [(h0, .inr (5, [.null]))] sz) (va_Qv (fun u : Nat → Nat => u 15 = h0) (fun u t => atW G (reg2C G.2 u iv_X5_init) (va_A [(h0, .inr (5, [.null]))] sz) t) (va_A [(h0, .inr (5, [.null]))] sz)) 1 30 (va_A [(h0, .inr (5, [.null]))] sz) := by
  refine Met.ofW (cc := cX5_init) (maxL := 1) (ret := none) (by decide) rfl ?_
  intro p e s m args below meth c s₁ B hml hv
  obtain ⟨rfl, hsz, hP, hD0, hamb⟩ := hv
  have hx := B.exec
  have hb := B.bytes
  have hr := B.returns
  have hts := atoms_spec (ws := wsX5_init) B.pre
  have hown : s.vm.findClass RX5 = some m.cls := findClass_of_methodNamed B.named
  have hlocks := B.notSynchronized
  have hin : meth.name = "<init>" := (name_of_methodNamed B.named B.method).1
  have hK := hamb.1
  subst hsz
  have hD := hD0.self (sz := s.heap.size)
  generalize hAe : va_A [(h0, .inr (5, [.null]))] s.heap.size = A at hD ⊢
  have hA : ∀ q : Nat, s.heap.size ≤ q → A q := fun q h => by rw [← hAe]; exact Or.inr h
  have hS : va_S A s.heap s.heap [] := va_S.rf
  have hinX5 : ∀ w ∈ u_ws RX5 TX5 1, w ∈ wsX5_init := by decide +kernel
  have lw0 := hts (.methodLink RX5 3 objectInit) (by decide +kernel)
  have lw1 := hts (.instanceMethod objectInit) (by decide +kernel)
  have lw2 := hts (.arrayClass .int) (by decide +kernel)
  have lw3 := hts (.fieldLink RX5 9 "MoodDrawers$Regrets" "regret" "[I") (by decide +kernel)
  have hl := lv_entry ([.ref h0]) (n := 1) (Nat.le_of_ble_eq_true rfl)
  rw [lg_entry_eq]
  generalize (lg_sl ([.ref h0]) ++ List.replicate (1 - (lg_sl ([.ref h0])).length) Slot.unset).toArray = ls at hl ⊢
  have hl : lv_has ls 1 [(0, .ref h0)] := hl
  refine lv_aload_n hx hb dX5_init_0 rfl (lv_at hl 0 rfl) ?_
  refine W.objInit hx hb hown lw0 lw1 (hts (.code objectInit ⟨#[0xb1]⟩ 1 none) (List.mem_of_getElem? (i := 3) rfl)) rfl (by rw [hml]; exact hl.1) rfl dX5_init_1 (Nat.le_of_ble_eq_true rfl) (Nat.le_of_ble_eq_true rfl) ?_
  refine W.eq (g2 := F0 m 4 ls []) rfl ?_
  refine lv_aload_n hx hb dX5_init_4 rfl (lv_at hl 0 rfl) ?_
  refine lv_bipush (v := 30) hx hb dX5_init_5 (by decide) ?_
  refine nwI (n := 30) (N' := 30) hx hb lw2 hK hP hD hS hA (by decide) rfl (Nat.le_of_ble_eq_true rfl) (Nat.le_of_ble_eq_true rfl) (Nat.le_of_ble_eq_true rfl) dX5_init_7 (fun q7 H hP hD hS => ?_)
  have hP : va_P G.1 vwCl ([(h0, .inr (5, [.null])), (q7, .inl (G.2 0, 30, .inl (fun _ => 0)))]) H := hP
  have hD : va_D A ([(h0, .inr (5, [.null])), (q7, .inl (G.2 0, 30, .inl (fun _ => 0)))]) := hD
  refine va_putF (D := G.1) (ci := 5) (v := .ref q7) (ty := .array .int) (C := RX5) (T := TX5) (N := 1) hx hb hts hinX5 tyX5 tyX5_ok nmX5 hown hK hP hD hS 0 rfl rfl 0 (by decide) lw3 (fun _ h9 => h9) rfl hin rfl (by decide +kernel) rfl rfl (Nat.le_of_ble_eq_true rfl) dX5_init_9 (fun H locs hP hD hS => ?_)
  have hP : va_P G.1 vwCl ([(h0, .inr (5, [.ref q7])), (q7, .inl (G.2 0, 30, .inl (fun _ => 0)))]) H := hP
  have hD : va_D A ([(h0, .inr (5, [.ref q7])), (q7, .inl (G.2 0, 30, .inl (fun _ => 0)))]) := hD
  refine W.widen (k := 1) (n := 30) (Nat.le_of_ble_eq_true rfl) (Nat.le_of_ble_eq_true rfl) ?_
  have hP : va_P G.1 vwCl (reg2C G.2 (fun k => ([0, 0, 0, 0, 0, 0, 0, 0, 0, 0, 0, 0, 0, 0, 0, h0, q7] : List Nat).getD k 0) iv_X5_init) H := hP
  have hD : va_D A (reg2C G.2 (fun k => ([0, 0, 0, 0, 0, 0, 0, 0, 0, 0, 0, 0, 0, 0, 0, h0, q7] : List Nat).getD k 0) iv_X5_init) := hD
  exact W.vret hx hb hr (fun t ht hW => ⟨⟨(fun k => ([0, 0, 0, 0, 0, 0, 0, 0, 0, 0, 0, 0, 0, 0, 0, h0, q7] : List Nat).getD k 0), rfl, rfl, by rw [ht]; exact hP, hD⟩, hS.F ht⟩) hS.2.2 dX5_init_12
def iv_X4_init : DV := zeroV
set_option maxHeartbeats 4000000 in
set_option maxRecDepth 100000 in
theorem ok_X4_init (l : Launch) (G : Gt) (h0 : Nat) (sz : Nat) : Met l yX4_init wsX4_init ({ frames := 1, cells := 1, slots := 80, locals := 40 } : Room) (pcW G [.ref h0] [(h0, .inr (4, [.null, .int 0, .int 0, .int 0, .int 0, .int 0, .int 0]))] sz) (va_Qv (fun u : Nat → Nat => u 17 = h0) (fun u t => atW G (padC G.2 u iv_X4_init) (va_A [(h0, .inr (4, [.null, .int 0, .int 0, .int 0, .int 0, .int 0, .int 0]))] sz) t) (va_A [(h0, .inr (4, [.null, .int 0, .int 0, .int 0, .int 0, .int 0, .int 0]))] sz)) 1 80 (va_A [(h0, .inr (4, [.null, .int 0, .int 0, .int 0, .int 0, .int 0, .int 0]))] sz) := by
  refine Met.ofW (cc := cX4_init) (maxL := 1) (ret := none) (by decide) rfl ?_
  intro p e s m args below meth c s₁ B hml hv
  obtain ⟨rfl, hsz, hP, hD0, hamb⟩ := hv
  have hx := B.exec
  have hb := B.bytes
  have hr := B.returns
  have hts := atoms_spec (ws := wsX4_init) B.pre
  have hown : s.vm.findClass RX4 = some m.cls := findClass_of_methodNamed B.named
  have hlocks := B.notSynchronized
  have hin : meth.name = "<init>" := (name_of_methodNamed B.named B.method).1
  have hK := hamb.1
  subst hsz
  have hD := hD0.self (sz := s.heap.size)
  generalize hAe : va_A [(h0, .inr (4, [.null, .int 0, .int 0, .int 0, .int 0, .int 0, .int 0]))] s.heap.size = A at hD ⊢
  have hA : ∀ q : Nat, s.heap.size ≤ q → A q := fun q h => by rw [← hAe]; exact Or.inr h
  have hS : va_S A s.heap s.heap [] := va_S.rf
  have hinX4 : ∀ w ∈ u_ws RX4 TX4 7, w ∈ wsX4_init := by decide +kernel
  have lw0 := hts (.methodLink RX4 3 objectInit) (by decide +kernel)
  have lw1 := hts (.instanceMethod objectInit) (by decide +kernel)
  have lw2 := hts (.arrayClass .char) (by decide +kernel)
  have lw3 := hts (.fieldLink RX4 9 "MoodDrawers$Pad" "text" "[C") (by decide +kernel)
  have hl := lv_entry ([.ref h0]) (n := 1) (Nat.le_of_ble_eq_true rfl)
  rw [lg_entry_eq]
  generalize (lg_sl ([.ref h0]) ++ List.replicate (1 - (lg_sl ([.ref h0])).length) Slot.unset).toArray = ls at hl ⊢
  have hl : lv_has ls 1 [(0, .ref h0)] := hl
  refine lv_aload_n hx hb dX4_init_0 rfl (lv_at hl 0 rfl) ?_
  refine W.objInit hx hb hown lw0 lw1 (hts (.code objectInit ⟨#[0xb1]⟩ 1 none) (List.mem_of_getElem? (i := 3) rfl)) rfl (by rw [hml]; exact hl.1) rfl dX4_init_1 (Nat.le_of_ble_eq_true rfl) (Nat.le_of_ble_eq_true rfl) ?_
  refine W.eq (g2 := F0 m 4 ls []) rfl ?_
  refine lv_aload_n hx hb dX4_init_4 rfl (lv_at hl 0 rfl) ?_
  refine lv_bipush (v := 80) hx hb dX4_init_5 (by decide) ?_
  refine nwC (n := 80) (N' := 80) hx hb lw2 hK hP hD hS hA (by decide) rfl (Nat.le_of_ble_eq_true rfl) (Nat.le_of_ble_eq_true rfl) (Nat.le_of_ble_eq_true rfl) dX4_init_7 (fun q7 H hP hD hS => ?_)
  have hP : va_P G.1 vwCl ([(h0, .inr (4, [.null, .int 0, .int 0, .int 0, .int 0, .int 0, .int 0])), (q7, .inl (G.2 1, 80, .inl (fun _ => 0)))]) H := hP
  have hD : va_D A ([(h0, .inr (4, [.null, .int 0, .int 0, .int 0, .int 0, .int 0, .int 0])), (q7, .inl (G.2 1, 80, .inl (fun _ => 0)))]) := hD
  refine va_putF (D := G.1) (ci := 4) (v := .ref q7) (ty := .array .char) (C := RX4) (T := TX4) (N := 7) hx hb hts hinX4 tyX4 tyX4_ok nmX4 hown hK hP hD hS 0 rfl rfl 0 (by decide) lw3 (fun _ h9 => h9) rfl hin rfl (by decide +kernel) rfl rfl (Nat.le_of_ble_eq_true rfl) dX4_init_9 (fun H locs hP hD hS => ?_)
  have hP : va_P G.1 vwCl ([(h0, .inr (4, [.ref q7, .int 0, .int 0, .int 0, .int 0, .int 0, .int 0])), (q7, .inl (G.2 1, 80, .inl (fun _ => 0)))]) H := hP
  have hD : va_D A ([(h0, .inr (4, [.ref q7, .int 0, .int 0, .int 0, .int 0, .int 0, .int 0])), (q7, .inl (G.2 1, 80, .inl (fun _ => 0)))]) := hD
  refine W.widen (k := 1) (n := 80) (Nat.le_of_ble_eq_true rfl) (Nat.le_of_ble_eq_true rfl) ?_
  have hP : va_P G.1 vwCl (padC G.2 (fun k => ([0, 0, 0, 0, 0, 0, 0, 0, 0, 0, 0, 0, 0, 0, 0, 0, 0, h0, q7] : List Nat).getD k 0) iv_X4_init) H := hP
  have hD : va_D A (padC G.2 (fun k => ([0, 0, 0, 0, 0, 0, 0, 0, 0, 0, 0, 0, 0, 0, 0, 0, 0, h0, q7] : List Nat).getD k 0) iv_X4_init) := hD
  exact W.vret hx hb hr (fun t ht hW => ⟨⟨(fun k => ([0, 0, 0, 0, 0, 0, 0, 0, 0, 0, 0, 0, 0, 0, 0, 0, 0, h0, q7] : List Nat).getD k 0), rfl, rfl, by rw [ht]; exact hP, hD⟩, hS.F ht⟩) hS.2.2 dX4_init_12
def histC (g : Nat → ClassId) (a : Nat → Nat) : va_W := [(a 19, .inr (2, [.ref (a 20), .int 0])), (a 20, .inl (g 3, 7, .inr (.inr (.inr (.inr (fun _ => none))))))]
set_option maxHeartbeats 4000000 in
set_option maxRecDepth 100000 in
theorem ok_X2_init (l : Launch) (G : Gt) (h0 : Nat) (sz : Nat) : Met l yX2_init wsX2_init ({ frames := 1, cells := 1, slots := 7, locals := 40 } : Room) (pcW G [.ref h0] [(h0, .inr (2, [.null, .int 0]))] sz) (va_Qv (fun u : Nat → Nat => u 19 = h0) (fun u t => atW G (histC G.2 u) (va_A [(h0, .inr (2, [.null, .int 0]))] sz) t) (va_A [(h0, .inr (2, [.null, .int 0]))] sz)) 1 7 (va_A [(h0, .inr (2, [.null, .int 0]))] sz) := by
  refine Met.ofW (cc := cX2_init) (maxL := 1) (ret := none) (by decide) rfl ?_
  intro p e s m args below meth c s₁ B hml hv
  obtain ⟨rfl, hsz, hP, hD0, hamb⟩ := hv
  have hx := B.exec
  have hb := B.bytes
  have hr := B.returns
  have hts := atoms_spec (ws := wsX2_init) B.pre
  have hown : s.vm.findClass RX2 = some m.cls := findClass_of_methodNamed B.named
  have hlocks := B.notSynchronized
  have hin : meth.name = "<init>" := (name_of_methodNamed B.named B.method).1
  have hK := hamb.1
  subst hsz
  have hD := hD0.self (sz := s.heap.size)
  generalize hAe : va_A [(h0, .inr (2, [.null, .int 0]))] s.heap.size = A at hD ⊢
  have hA : ∀ q : Nat, s.heap.size ≤ q → A q := fun q h => by rw [← hAe]; exact Or.inr h
  have hS : va_S A s.heap s.heap [] := va_S.rf
  have hinX2 : ∀ w ∈ u_ws RX2 TX2 2, w ∈ wsX2_init := by decide +kernel
  have lw0 := hts (.methodLink RX2 3 objectInit) (by decide +kernel)
  have lw1 := hts (.instanceMethod objectInit) (by decide +kernel)
  have lw2 := hts (.classLink RX2 9 RX0) (by decide +kernel)
  have lw3 := hts (.fieldLink RX2 11 "MoodDrawers$History" "rows" "[LMoodDrawers$Desk;") (by decide +kernel)
  have hl := lv_entry ([.ref h0]) (n := 1) (Nat.le_of_ble_eq_true rfl)
  rw [lg_entry_eq]
  generalize (lg_sl ([.ref h0]) ++ List.replicate (1 - (lg_sl ([.ref h0])).length) Slot.unset).toArray = ls at hl ⊢
  have hl : lv_has ls 1 [(0, .ref h0)] := hl
  refine lv_aload_n hx hb dX2_init_0 rfl (lv_at hl 0 rfl) ?_
  refine W.objInit hx hb hown lw0 lw1 (hts (.code objectInit ⟨#[0xb1]⟩ 1 none) (List.mem_of_getElem? (i := 3) rfl)) rfl (by rw [hml]; exact hl.1) rfl dX2_init_1 (Nat.le_of_ble_eq_true rfl) (Nat.le_of_ble_eq_true rfl) ?_
  refine W.eq (g2 := F0 m 4 ls []) rfl ?_
  refine lv_aload_n hx hb dX2_init_4 rfl (lv_at hl 0 rfl) ?_
  refine lv_bipush (v := 7) hx hb dX2_init_5 (by decide) ?_
  refine nwD (n := 7) (N' := 7) hx hb hown lw2 hamb.2.2 hK hP hD hS hA (by decide) rfl (Nat.le_of_ble_eq_true rfl) (Nat.le_of_ble_eq_true rfl) (Nat.le_of_ble_eq_true rfl) dX2_init_7 (fun q7 H hP hD hS => ?_)
  have hP : va_P G.1 vwCl ([(h0, .inr (2, [.null, .int 0])), (q7, .inl (G.2 3, 7, .inr (.inr (.inr (.inr (fun _ => none))))))]) H := hP
  have hD : va_D A ([(h0, .inr (2, [.null, .int 0])), (q7, .inl (G.2 3, 7, .inr (.inr (.inr (.inr (fun _ => none))))))]) := hD
  refine va_putF (D := G.1) (ci := 2) (v := .ref q7) (ty := .array (.object "MoodDrawers$Desk")) (C := RX2) (T := TX2) (N := 2) hx hb hts hinX2 tyX2 tyX2_ok nmX2 hown hK hP hD hS 0 rfl rfl 0 (by decide) lw3 (fun _ h9 => h9) rfl hin rfl (by decide +kernel) rfl rfl (Nat.le_of_ble_eq_true rfl) dX2_init_10 (fun H locs hP hD hS => ?_)
  have hP : va_P G.1 vwCl ([(h0, .inr (2, [.ref q7, .int 0])), (q7, .inl (G.2 3, 7, .inr (.inr (.inr (.inr (fun _ => none))))))]) H := hP
  have hD : va_D A ([(h0, .inr (2, [.ref q7, .int 0])), (q7, .inl (G.2 3, 7, .inr (.inr (.inr (.inr (fun _ => none))))))]) := hD
  refine W.widen (k := 1) (n := 7) (Nat.le_of_ble_eq_true rfl) (Nat.le_of_ble_eq_true rfl) ?_
  have hP : va_P G.1 vwCl (histC G.2 (fun k => ([0, 0, 0, 0, 0, 0, 0, 0, 0, 0, 0, 0, 0, 0, 0, 0, 0, 0, 0, h0, q7] : List Nat).getD k 0)) H := hP
  have hD : va_D A (histC G.2 (fun k => ([0, 0, 0, 0, 0, 0, 0, 0, 0, 0, 0, 0, 0, 0, 0, 0, 0, 0, 0, h0, q7] : List Nat).getD k 0)) := hD
  exact W.vret hx hb hr (fun t ht hW => ⟨⟨(fun k => ([0, 0, 0, 0, 0, 0, 0, 0, 0, 0, 0, 0, 0, 0, 0, 0, 0, 0, 0, h0, q7] : List Nat).getD k 0), rfl, rfl, by rw [ht]; exact hP, hD⟩, hS.F ht⟩) hS.2.2 dX2_init_13
def iv_X6_init : DV := mx [15, 16, 17, 18, 19, 20, 21] (mx [14] iv_X0_init iv_X5_init) iv_X4_init
set_option maxHeartbeats 4000000 in
set_option maxRecDepth 100000 in
theorem ok_X6_init (l : Launch) (G : Gt) (h0 : Nat) (sz : Nat) : Met l yX6_init wsX6_init ({ frames := 3, cells := 22, slots := 382, locals := 80 } : Room) (pcW G [.ref h0] [(h0, .inr (6, [.null, .null, .null, .null, .null]))] sz) (va_Qv (fun u : Nat → Nat => u 21 = h0) (fun u t => atW G (xcoreC G.2 u iv_X6_init ++ [(u 20, .inl (G.2 3, 7, .inr (.inr (.inr (.inr (fun _ => none)))))), (u 22, .inl (G.2 3, 2, .inr (.inr (.inr (.inr (fun _ => none))))))]) (va_A [(h0, .inr (6, [.null, .null, .null, .null, .null]))] sz) t) (va_A [(h0, .inr (6, [.null, .null, .null, .null, .null]))] sz)) 22 382 (va_A [(h0, .inr (6, [.null, .null, .null, .null, .null]))] sz) := by
  refine Met.ofW (cc := cX6_init) (maxL := 1) (ret := none) (by decide) rfl ?_
  intro p e s m args below meth c s₁ B hml hv
  obtain ⟨rfl, hsz, hP, hD0, hamb⟩ := hv
  have hx := B.exec
  have hb := B.bytes
  have hr := B.returns
  have hts := atoms_spec (ws := wsX6_init) B.pre
  have hown : s.vm.findClass RX6 = some m.cls := findClass_of_methodNamed B.named
  have hlocks := B.notSynchronized
  have hin : meth.name = "<init>" := (name_of_methodNamed B.named B.method).1
  have hK := hamb.1
  subst hsz
  have hD := hD0.self (sz := s.heap.size)
  generalize hAe : va_A [(h0, .inr (6, [.null, .null, .null, .null, .null]))] s.heap.size = A at hD ⊢
  have hA : ∀ q : Nat, s.heap.size ≤ q → A q := fun q h => by rw [← hAe]; exact Or.inr h
  have hS : va_S A s.heap s.heap [] := va_S.rf
  have hinX0 : ∀ w ∈ u_ws RX0 TX0 4, w ∈ wsX6_init := by decide +kernel
  have hinX2 : ∀ w ∈ u_ws RX2 TX2 2, w ∈ wsX6_init := by decide +kernel
  have hinX4 : ∀ w ∈ u_ws RX4 TX4 7, w ∈ wsX6_init := by decide +kernel
  have hinX5 : ∀ w ∈ u_ws RX5 TX5 1, w ∈ wsX6_init := by decide +kernel
  have hinX6 : ∀ w ∈ u_ws RX6 TX6 5, w ∈ wsX6_init := by decide +kernel
  have lw0 := hts (.methodLink RX6 1 objectInit) (by decide +kernel)
  have lw1 := hts (.instanceMethod objectInit) (by decide +kernel)
  have lw2 := hts (.classLink RX6 7 RX0) (by decide +kernel)
  have lw3 := hts (.instantiable RX0 4) (by decide +kernel)
  have lw4 := hts (.initialized RX0) (by decide +kernel)
  have lw5 := hts (.instanceMethod yX0_init) (by decide +kernel)
  have lw6 := hts (.fieldLink RX6 10 "MoodDrawers" "desk" "LMoodDrawers$Desk;") (by decide +kernel)
  have lw7 := hts (.classLink RX6 16 RX5) (by decide +kernel)
  have lw8 := hts (.instantiable RX5 1) (by decide +kernel)
  have lw9 := hts (.initialized RX5) (by decide +kernel)
  have lw10 := hts (.instanceMethod yX5_init) (by decide +kernel)
  have lw11 := hts (.fieldLink RX6 19 "MoodDrawers" "regrets" "LMoodDrawers$Regrets;") (by decide +kernel)
  have lw12 := hts (.classLink RX6 23 RX4) (by decide +kernel)
  have lw13 := hts (.instantiable RX4 7) (by decide +kernel)
  have lw14 := hts (.initialized RX4) (by decide +kernel)
  have lw15 := hts (.instanceMethod yX4_init) (by decide +kernel)
  have lw16 := hts (.fieldLink RX6 26 "MoodDrawers" "pad" "LMoodDrawers$Pad;") (by decide +kernel)
  have lw17 := hts (.classLink RX6 30 RX2) (by decide +kernel)
  have lw18 := hts (.instantiable RX2 2) (by decide +kernel)
  have lw19 := hts (.initialized RX2) (by decide +kernel)
  have lw20 := hts (.instanceMethod yX2_init) (by decide +kernel)
  have lw21 := hts (.fieldLink RX6 33 "MoodDrawers" "history" "LMoodDrawers$History;") (by decide +kernel)
  have lw22 := hts (.fieldLink RX6 37 "MoodDrawers" "slots" "[LMoodDrawers$Desk;") (by decide +kernel)
  have hl := lv_entry ([.ref h0]) (n := 1) (Nat.le_of_ble_eq_true rfl)
  rw [lg_entry_eq]
  generalize (lg_sl ([.ref h0]) ++ List.replicate (1 - (lg_sl ([.ref h0])).length) Slot.unset).toArray = ls at hl ⊢
  have hl : lv_has ls 1 [(0, .ref h0)] := hl
  refine lv_aload_n hx hb dX6_init_0 rfl (lv_at hl 0 rfl) ?_
  refine W.objInit hx hb hown lw0 lw1 (hts (.code objectInit ⟨#[0xb1]⟩ 1 none) (List.mem_of_getElem? (i := 3) rfl)) rfl (by rw [hml]; exact hl.1) rfl dX6_init_1 (Nat.le_of_ble_eq_true rfl) (Nat.le_of_ble_eq_true rfl) ?_
  refine W.eq (g2 := F0 m 4 ls []) rfl ?_
  refine lv_aload_n hx hb dX6_init_4 rfl (lv_at hl 0 rfl) ?_
  refine va_new (ci := 0) (fs := [.null, .int 0, .null, .null]) (C := RX0) (T := TX0) (N := 4) hx hb hts hinX0 tyX0 tyX0_ok hown lw2 lw3 lw4 hK hP hD hS hA rfl (fun j hj => by rcases (show j = 0 ∨ j = 1 ∨ j = 2 ∨ j = 3 by omega) with rfl | rfl | rfl | rfl <;> rfl) (Nat.le_of_ble_eq_true rfl) (Nat.le_of_ble_eq_true rfl) dX6_init_5 (fun q5 H hP hD hS => ?_)
  have hP : va_P G.1 vwCl ([(h0, .inr (6, [.null, .null, .null, .null, .null])), (q5, .inr (0, [.null, .int 0, .null, .null]))]) H := hP
  have hD : va_D A ([(h0, .inr (6, [.null, .null, .null, .null, .null])), (q5, .inr (0, [.null, .int 0, .null, .null]))]) := hD
  refine lv_dup hx hb dX6_init_8 rfl ?_
  refine cwv (va_runIN (As := []) (rest := [.ref q5, .ref h0]) ⟨hx, hb, hml, hown, hts⟩ (ok_X0_init l G q5 H.size) ⟨va_cnB 0 hts gX6_init_X0_init_n9 rfl rfl rfl (hamb.2.1 (.methodLinkNest RX6 9 yX0_init RX6) (List.mem_of_getElem? (i := 0) rfl)) lw4 (by decide +kernel) ⟨Nat.le_of_ble_eq_true rfl, Nat.le_of_ble_eq_true rfl⟩, rfl, lw5⟩ ⟨pcW_blind, pcW_pre (hP.sub (ws' := [(q5, .inr (0, [.null, .int 0, .null, .null]))]) [1] rfl) (hD.sub (ws' := [(q5, .inr (0, [.null, .int 0, .null, .null]))]) [1] (by decide) rfl) hamb⟩ rfl rfl hl.1 rfl (lv_room (Nat.le_of_ble_eq_true rfl)) dX6_init_9 ⟨Nat.le_of_ble_eq_true rfl, Nat.le_of_ble_eq_true rfl⟩) (wr := [(h0, .inr (6, [.null, .null, .null, .null, .null]))]) hP hD hS hA [1] [0] rfl rfl (by decide) (by decide) (fun u9 H locs hw hP hD hS => ?_)
  have hw9 := hw
  have hP : va_P G.1 vwCl ([(h0, .inr (6, [.null, .null, .null, .null, .null]))] ++ deskC G.2 u9 iv_X0_init) H := hP
  have hD : va_D A ([(h0, .inr (6, [.null, .null, .null, .null, .null]))] ++ deskC G.2 u9 iv_X0_init) := hD
  refine va_putF (D := G.1) (ci := 6) (v := .ref q5) (ty := .object "MoodDrawers$Desk") (C := RX6) (T := TX6) (N := 5) hx hb hts hinX6 tyX6 tyX6_ok nmX6 hown hK hP hD hS 0 rfl rfl 0 (by decide) lw6 (fun _ h9 => h9) rfl hin rfl (by decide +kernel) rfl rfl (Nat.le_of_ble_eq_true rfl) dX6_init_12 (fun H locs hP hD hS => ?_)
  have hP : va_P G.1 vwCl ([(h0, .inr (6, [.ref q5, .null, .null, .null, .null]))] ++ deskC G.2 u9 iv_X0_init) H := hP
  have hD : va_D A ([(h0, .inr (6, [.ref q5, .null, .null, .null, .null]))] ++ deskC G.2 u9 iv_X0_init) := hD
  refine lv_aload_n hx hb dX6_init_15 rfl (lv_at hl 0 rfl) ?_
  refine va_new (ci := 5) (fs := [.null]) (C := RX5) (T := TX5) (N := 1) hx hb hts hinX5 tyX5 tyX5_ok hown lw7 lw8 lw9 hK hP hD hS hA rfl (fun j hj => by rcases (show j = 0 by omega) with rfl <;> rfl) (Nat.le_of_ble_eq_true rfl) (Nat.le_of_ble_eq_true rfl) dX6_init_16 (fun q16 H hP hD hS => ?_)
  have hP : va_P G.1 vwCl ([(h0, .inr (6, [.ref q5, .null, .null, .null, .null]))] ++ deskC G.2 u9 iv_X0_init ++ [(q16, .inr (5, [.null]))]) H := hP
  have hD : va_D A ([(h0, .inr (6, [.ref q5, .null, .null, .null, .null]))] ++ deskC G.2 u9 iv_X0_init ++ [(q16, .inr (5, [.null]))]) := hD
  refine lv_dup hx hb dX6_init_19 rfl ?_
  refine cwv (va_runIN (As := []) (rest := [.ref q16, .ref h0]) ⟨hx, hb, hml, hown, hts⟩ (ok_X5_init l G q16 H.size) ⟨va_cnB 0 hts gX6_init_X5_init_n18 rfl rfl rfl (hamb.2.1 (.methodLinkNest RX6 18 yX5_init RX6) (List.mem_of_getElem? (i := 3) rfl)) lw9 (by decide +kernel) ⟨Nat.le_of_ble_eq_true rfl, Nat.le_of_ble_eq_true rfl⟩, rfl, lw10⟩ ⟨pcW_blind, pcW_pre (hP.sub (ws' := [(q16, .inr (5, [.null]))]) [16] rfl) (hD.sub (ws' := [(q16, .inr (5, [.null]))]) [16] (by decide) rfl) hamb⟩ rfl rfl hl.1 rfl (lv_room (Nat.le_of_ble_eq_true rfl)) dX6_init_20 ⟨Nat.le_of_ble_eq_true rfl, Nat.le_of_ble_eq_true rfl⟩) (wr := [(h0, .inr (6, [.ref q5, .null, .null, .null, .null]))] ++ deskC G.2 u9 iv_X0_init) hP hD hS hA [16] [0, 1, 2, 3, 4, 5, 6, 7, 8, 9, 10, 11, 12, 13, 14, 15] rfl rfl (by decide) (by decide) (fun u20 H locs hw hP hD hS => ?_)
  have hw20 := hw
  have hP : va_P G.1 vwCl ([(h0, .inr (6, [.ref q5, .null, .null, .null, .null]))] ++ deskC G.2 u9 iv_X0_init ++ reg2C G.2 u20 iv_X5_init) H := hP
  have hD : va_D A ([(h0, .inr (6, [.ref q5, .null, .null, .null, .null]))] ++ deskC G.2 u9 iv_X0_init ++ reg2C G.2 u20 iv_X5_init) := hD
  refine va_putF (D := G.1) (ci := 6) (v := .ref q16) (ty := .object "MoodDrawers$Regrets") (C := RX6) (T := TX6) (N := 5) hx hb hts hinX6 tyX6 tyX6_ok nmX6 hown hK hP hD hS 0 rfl rfl 1 (by decide) lw11 (fun _ h9 => h9) rfl hin rfl (by decide +kernel) rfl rfl (Nat.le_of_ble_eq_true rfl) dX6_init_23 (fun H locs hP hD hS => ?_)
  have hP : va_P G.1 vwCl ([(h0, .inr (6, [.ref q5, .ref q16, .null, .null, .null]))] ++ deskC G.2 u9 iv_X0_init ++ reg2C G.2 u20 iv_X5_init) H := hP
  have hD : va_D A ([(h0, .inr (6, [.ref q5, .ref q16, .null, .null, .null]))] ++ deskC G.2 u9 iv_X0_init ++ reg2C G.2 u20 iv_X5_init) := hD
  refine lv_aload_n hx hb dX6_init_26 rfl (lv_at hl 0 rfl) ?_
  refine va_new (ci := 4) (fs := [.null, .int 0, .int 0, .int 0, .int 0, .int 0, .int 0]) (C := RX4) (T := TX4) (N := 7) hx hb hts hinX4 tyX4 tyX4_ok hown lw12 lw13 lw14 hK hP hD hS hA rfl (fun j hj => by rcases (show j = 0 ∨ j = 1 ∨ j = 2 ∨ j = 3 ∨ j = 4 ∨ j = 5 ∨ j = 6 by omega) with rfl | rfl | rfl | rfl | rfl | rfl | rfl <;> rfl) (Nat.le_of_ble_eq_true rfl) (Nat.le_of_ble_eq_true rfl) dX6_init_27 (fun q27 H hP hD hS => ?_)
  have hP : va_P G.1 vwCl ([(h0, .inr (6, [.ref q5, .ref q16, .null, .null, .null]))] ++ deskC G.2 u9 iv_X0_init ++ reg2C G.2 u20 iv_X5_init ++ [(q27, .inr (4, [.null, .int 0, .int 0, .int 0, .int 0, .int 0, .int 0]))]) H := hP
  have hD : va_D A ([(h0, .inr (6, [.ref q5, .ref q16, .null, .null, .null]))] ++ deskC G.2 u9 iv_X0_init ++ reg2C G.2 u20 iv_X5_init ++ [(q27, .inr (4, [.null, .int 0, .int 0, .int 0, .int 0, .int 0, .int 0]))]) := hD
  refine lv_dup hx hb dX6_init_30 rfl ?_
  refine cwv (va_runIN (As := []) (rest := [.ref q27, .ref h0]) ⟨hx, hb, hml, hown, hts⟩ (ok_X4_init l G q27 H.size) ⟨va_cnB 0 hts gX6_init_X4_init_n25 rfl rfl rfl (hamb.2.1 (.methodLinkNest RX6 25 yX4_init RX6) (List.mem_of_getElem? (i := 4) rfl)) lw14 (by decide +kernel) ⟨Nat.le_of_ble_eq_true rfl, Nat.le_of_ble_eq_true rfl⟩, rfl, lw15⟩ ⟨pcW_blind, pcW_pre (hP.sub (ws' := [(q27, .inr (4, [.null, .int 0, .int 0, .int 0, .int 0, .int 0, .int 0]))]) [18] rfl) (hD.sub (ws' := [(q27, .inr (4, [.null, .int 0, .int 0, .int 0, .int 0, .int 0, .int 0]))]) [18] (by decide) rfl) hamb⟩ rfl rfl hl.1 rfl (lv_room (Nat.le_of_ble_eq_true rfl)) dX6_init_31 ⟨Nat.le_of_ble_eq_true rfl, Nat.le_of_ble_eq_true rfl⟩) (wr := [(h0, .inr (6, [.ref q5, .ref q16, .null, .null, .null]))] ++ deskC G.2 u9 iv_X0_init ++ reg2C G.2 u20 iv_X5_init) hP hD hS hA [18] [0, 1, 2, 3, 4, 5, 6, 7, 8, 9, 10, 11, 12, 13, 14, 15, 16, 17] rfl rfl (by decide) (by decide) (fun u31 H locs hw hP hD hS => ?_)
  have hw31 := hw
  have hP : va_P G.1 vwCl ([(h0, .inr (6, [.ref q5, .ref q16, .null, .null, .null]))] ++ deskC G.2 u9 iv_X0_init ++ reg2C G.2 u20 iv_X5_init ++ padC G.2 u31 iv_X4_init) H := hP
  have hD : va_D A ([(h0, .inr (6, [.ref q5, .ref q16, .null, .null, .null]))] ++ deskC G.2 u9 iv_X0_init ++ reg2C G.2 u20 iv_X5_init ++ padC G.2 u31 iv_X4_init) := hD
  refine va_putF (D := G.1) (ci := 6) (v := .ref q27) (ty := .object "MoodDrawers$Pad") (C := RX6) (T := TX6) (N := 5) hx hb hts hinX6 tyX6 tyX6_ok nmX6 hown hK hP hD hS 0 rfl rfl 2 (by decide) lw16 (fun _ h9 => h9) rfl hin rfl (by decide +kernel) rfl rfl (Nat.le_of_ble_eq_true rfl) dX6_init_34 (fun H locs hP hD hS => ?_)
  have hP : va_P G.1 vwCl ([(h0, .inr (6, [.ref q5, .ref q16, .ref q27, .null, .null]))] ++ deskC G.2 u9 iv_X0_init ++ reg2C G.2 u20 iv_X5_init ++ padC G.2 u31 iv_X4_init) H := hP
  have hD : va_D A ([(h0, .inr (6, [.ref q5, .ref q16, .ref q27, .null, .null]))] ++ deskC G.2 u9 iv_X0_init ++ reg2C G.2 u20 iv_X5_init ++ padC G.2 u31 iv_X4_init) := hD
  refine lv_aload_n hx hb dX6_init_37 rfl (lv_at hl 0 rfl) ?_
  refine va_new (ci := 2) (fs := [.null, .int 0]) (C := RX2) (T := TX2) (N := 2) hx hb hts hinX2 tyX2 tyX2_ok hown lw17 lw18 lw19 hK hP hD hS hA rfl (fun j hj => by rcases (show j = 0 ∨ j = 1 by omega) with rfl | rfl <;> rfl) (Nat.le_of_ble_eq_true rfl) (Nat.le_of_ble_eq_true rfl) dX6_init_38 (fun q38 H hP hD hS => ?_)
  have hP : va_P G.1 vwCl ([(h0, .inr (6, [.ref q5, .ref q16, .ref q27, .null, .null]))] ++ deskC G.2 u9 iv_X0_init ++ reg2C G.2 u20 iv_X5_init ++ padC G.2 u31 iv_X4_init ++ [(q38, .inr (2, [.null, .int 0]))]) H := hP
  have hD : va_D A ([(h0, .inr (6, [.ref q5, .ref q16, .ref q27, .null, .null]))] ++ deskC G.2 u9 iv_X0_init ++ reg2C G.2 u20 iv_X5_init ++ padC G.2 u31 iv_X4_init ++ [(q38, .inr (2, [.null, .int 0]))]) := hD
  refine lv_dup hx hb dX6_init_41 rfl ?_
  refine cwv (va_runIN (As := []) (rest := [.ref q38, .ref h0]) ⟨hx, hb, hml, hown, hts⟩ (ok_X2_init l G q38 H.size) ⟨va_cnB 0 hts gX6_init_X2_init_n32 rfl rfl rfl (hamb.2.1 (.methodLinkNest RX6 32 yX2_init RX6) (List.mem_of_getElem? (i := 5) rfl)) lw19 (by decide +kernel) ⟨Nat.le_of_ble_eq_true rfl, Nat.le_of_ble_eq_true rfl⟩, rfl, lw20⟩ ⟨pcW_blind, pcW_pre (hP.sub (ws' := [(q38, .inr (2, [.null, .int 0]))]) [20] rfl) (hD.sub (ws' := [(q38, .inr (2, [.null, .int 0]))]) [20] (by decide) rfl) hamb⟩ rfl rfl hl.1 rfl (lv_room (Nat.le_of_ble_eq_true rfl)) dX6_init_42 ⟨Nat.le_of_ble_eq_true rfl, Nat.le_of_ble_eq_true rfl⟩) (wr := [(h0, .inr (6, [.ref q5, .ref q16, .ref q27, .null, .null]))] ++ deskC G.2 u9 iv_X0_init ++ reg2C G.2 u20 iv_X5_init ++ padC G.2 u31 iv_X4_init) hP hD hS hA [20] [0, 1, 2, 3, 4, 5, 6, 7, 8, 9, 10, 11, 12, 13, 14, 15, 16, 17, 18, 19] rfl rfl (by decide) (by decide) (fun u42 H locs hw hP hD hS => ?_)
  have hw42 := hw
  have hP : va_P G.1 vwCl ([(h0, .inr (6, [.ref q5, .ref q16, .ref q27, .null, .null]))] ++ deskC G.2 u9 iv_X0_init ++ reg2C G.2 u20 iv_X5_init ++ padC G.2 u31 iv_X4_init ++ histC G.2 u42) H := hP
  have hD : va_D A ([(h0, .inr (6, [.ref q5, .ref q16, .ref q27, .null, .null]))] ++ deskC G.2 u9 iv_X0_init ++ reg2C G.2 u20 iv_X5_init ++ padC G.2 u31 iv_X4_init ++ histC G.2 u42) := hD
  refine va_putF (D := G.1) (ci := 6) (v := .ref q38) (ty := .object "MoodDrawers$History") (C := RX6) (T := TX6) (N := 5) hx hb hts hinX6 tyX6 tyX6_ok nmX6 hown hK hP hD hS 0 rfl rfl 3 (by decide) lw21 (fun _ h9 => h9) rfl hin rfl (by decide +kernel) rfl rfl (Nat.le_of_ble_eq_true rfl) dX6_init_45 (fun H locs hP hD hS => ?_)
  have hP : va_P G.1 vwCl ([(h0, .inr (6, [.ref q5, .ref q16, .ref q27, .ref q38, .null]))] ++ deskC G.2 u9 iv_X0_init ++ reg2C G.2 u20 iv_X5_init ++ padC G.2 u31 iv_X4_init ++ histC G.2 u42) H := hP
  have hD : va_D A ([(h0, .inr (6, [.ref q5, .ref q16, .ref q27, .ref q38, .null]))] ++ deskC G.2 u9 iv_X0_init ++ reg2C G.2 u20 iv_X5_init ++ padC G.2 u31 iv_X4_init ++ histC G.2 u42) := hD
  refine lv_aload_n hx hb dX6_init_48 rfl (lv_at hl 0 rfl) ?_
  refine lv_iconst (v := 2) hx hb dX6_init_49 (by decide) ?_
  refine nwD (n := 2) (N' := 2) hx hb hown lw2 hamb.2.2 hK hP hD hS hA (by decide) rfl (Nat.le_of_ble_eq_true rfl) (Nat.le_of_ble_eq_true rfl) (Nat.le_of_ble_eq_true rfl) dX6_init_50 (fun q50 H hP hD hS => ?_)
  have hP : va_P G.1 vwCl ([(h0, .inr (6, [.ref q5, .ref q16, .ref q27, .ref q38, .null]))] ++ deskC G.2 u9 iv_X0_init ++ reg2C G.2 u20 iv_X5_init ++ padC G.2 u31 iv_X4_init ++ histC G.2 u42 ++ [(q50, .inl (G.2 3, 2, .inr (.inr (.inr (.inr (fun _ => none))))))]) H := hP
  have hD : va_D A ([(h0, .inr (6, [.ref q5, .ref q16, .ref q27, .ref q38, .null]))] ++ deskC G.2 u9 iv_X0_init ++ reg2C G.2 u20 iv_X5_init ++ padC G.2 u31 iv_X4_init ++ histC G.2 u42 ++ [(q50, .inl (G.2 3, 2, .inr (.inr (.inr (.inr (fun _ => none))))))]) := hD
  refine va_putF (D := G.1) (ci := 6) (v := .ref q50) (ty := .array (.object "MoodDrawers$Desk")) (C := RX6) (T := TX6) (N := 5) hx hb hts hinX6 tyX6 tyX6_ok nmX6 hown hK hP hD hS 0 rfl rfl 4 (by decide) lw22 (fun _ h9 => h9) rfl hin rfl (by decide +kernel) rfl rfl (Nat.le_of_ble_eq_true rfl) dX6_init_53 (fun H locs hP hD hS => ?_)
  have hP : va_P G.1 vwCl ([(h0, .inr (6, [.ref q5, .ref q16, .ref q27, .ref q38, .ref q50]))] ++ deskC G.2 u9 iv_X0_init ++ reg2C G.2 u20 iv_X5_init ++ padC G.2 u31 iv_X4_init ++ histC G.2 u42 ++ [(q50, .inl (G.2 3, 2, .inr (.inr (.inr (.inr (fun _ => none))))))]) H := hP
  have hD : va_D A ([(h0, .inr (6, [.ref q5, .ref q16, .ref q27, .ref q38, .ref q50]))] ++ deskC G.2 u9 iv_X0_init ++ reg2C G.2 u20 iv_X5_init ++ padC G.2 u31 iv_X4_init ++ histC G.2 u42 ++ [(q50, .inl (G.2 3, 2, .inr (.inr (.inr (.inr (fun _ => none))))))]) := hD
  refine W.widen (k := 22) (n := 382) (Nat.le_of_ble_eq_true rfl) (Nat.le_of_ble_eq_true rfl) ?_
  rw [← hw9] at hP hD
  rw [← hw20] at hP hD
  rw [← hw31] at hP hD
  rw [← hw42] at hP hD
  have hP : va_P G.1 vwCl (xcoreC G.2 (fun k => ([u9 0, u9 1, u9 2, u9 3, u9 4, u9 5, u9 6, u9 7, u9 8, u9 9, u9 10, u9 11, u9 12, u9 13, u9 14, u20 15, u20 16, u31 17, u31 18, u42 19, u42 20, h0, q50] : List Nat).getD k 0) iv_X6_init ++ [((fun k => ([u9 0, u9 1, u9 2, u9 3, u9 4, u9 5, u9 6, u9 7, u9 8, u9 9, u9 10, u9 11, u9 12, u9 13, u9 14, u20 15, u20 16, u31 17, u31 18, u42 19, u42 20, h0, q50] : List Nat).getD k 0) 20, .inl (G.2 3, 7, .inr (.inr (.inr (.inr (fun _ => none)))))), ((fun k => ([u9 0, u9 1, u9 2, u9 3, u9 4, u9 5, u9 6, u9 7, u9 8, u9 9, u9 10, u9 11, u9 12, u9 13, u9 14, u20 15, u20 16, u31 17, u31 18, u42 19, u42 20, h0, q50] : List Nat).getD k 0) 22, .inl (G.2 3, 2, .inr (.inr (.inr (.inr (fun _ => none))))))]) H := hP.sub [0, 16, 17, 1, 2, 3, 4, 5, 6, 7, 8, 9, 10, 11, 12, 13, 14, 15, 18, 19, 20, 21, 22] rfl
  have hD : va_D A (xcoreC G.2 (fun k => ([u9 0, u9 1, u9 2, u9 3, u9 4, u9 5, u9 6, u9 7, u9 8, u9 9, u9 10, u9 11, u9 12, u9 13, u9 14, u20 15, u20 16, u31 17, u31 18, u42 19, u42 20, h0, q50] : List Nat).getD k 0) iv_X6_init ++ [((fun k => ([u9 0, u9 1, u9 2, u9 3, u9 4, u9 5, u9 6, u9 7, u9 8, u9 9, u9 10, u9 11, u9 12, u9 13, u9 14, u20 15, u20 16, u31 17, u31 18, u42 19, u42 20, h0, q50] : List Nat).getD k 0) 20, .inl (G.2 3, 7, .inr (.inr (.inr (.inr (fun _ => none)))))), ((fun k => ([u9 0, u9 1, u9 2, u9 3, u9 4, u9 5, u9 6, u9 7, u9 8, u9 9, u9 10, u9 11, u9 12, u9 13, u9 14, u20 15, u20 16, u31 17, u31 18, u42 19, u42 20, h0, q50] : List Nat).getD k 0) 22, .inl (G.2 3, 2, .inr (.inr (.inr (.inr (fun _ => none))))))]) := hD.sub [0, 16, 17, 1, 2, 3, 4, 5, 6, 7, 8, 9, 10, 11, 12, 13, 14, 15, 18, 19, 20, 21, 22] (by decide) rfl
  exact W.vret hx hb hr (fun t ht hW => ⟨⟨(fun k => ([u9 0, u9 1, u9 2, u9 3, u9 4, u9 5, u9 6, u9 7, u9 8, u9 9, u9 10, u9 11, u9 12, u9 13, u9 14, u20 15, u20 16, u31 17, u31 18, u42 19, u42 20, h0, q50] : List Nat).getD k 0), rfl, rfl, by rw [ht]; exact hP, hD⟩, hS.F ht⟩) hS.2.2 dX6_init_56
