set_option maxHeartbeats 4000000 in
set_option maxRecDepth 100000 in
theorem ok_L_isPostSo (l : Launch) (G : Gt) (a : Nat → Nat) (sz : Nat) (n0 : Nat) (v0 : DV) (hs0 : List HD) (p1 : Int32) (p2 : Int32) (hne : f_L_isPostSo n0 v0 (hs0.map Prod.snd) p1 p2 ≠ none) : Met l yL_isPostSo wsL_isPostSo ({ frames := 6, cells := 60, slots := 1012, locals := 147 } : Room) (pcH G [.ref (a 21), .int p1, .int p2] (XW G a v0 hs0) sz) (va_Qi (fun r (u : DV × List HD) => f_L_isPostSo n0 v0 (hs0.map Prod.snd) p1 p2 = some (r, u.1, u.2.map Prod.snd)) (fun u t => atW G (XW G a u.1 u.2) (va_A (XW G a v0 hs0) sz) t) (va_A (XW G a v0 hs0) sz)) 60 1012 (va_A (XW G a v0 hs0) sz) := by
  refine Met.ofW (cc := cL_isPostSo) (maxL := 9) (ret := (some .boolean)) (by decide) rfl ?_
  intro p e s m args below meth c s₁ B hml hv
  obtain ⟨rfl, hsz, hP, hD0, hamb, hHS⟩ := hv
  have hx := B.exec
  have hb := B.bytes
  have hr := B.returns
  have hts := atoms_spec (ws := wsL_isPostSo) B.pre
  have hown : s.vm.findClass RL = some m.cls := findClass_of_methodNamed B.named
  have hlocks := B.notSynchronized
  have hK := hamb.1
  subst hsz
  have hD := hD0.self (sz := s.heap.size)
  generalize hAe : va_A (XW G a v0 hs0) s.heap.size = A at hD hHS ⊢
  have hA : ∀ q : Nat, s.heap.size ≤ q → A q := fun q h => by rw [← hAe]; exact Or.inr h
  have hS : va_S A s.heap s.heap [] := va_S.rf
  obtain ⟨res, hf0⟩ : ∃ res, f_L_isPostSo n0 v0 (hs0.map Prod.snd) p1 p2 = res := ⟨_, rfl⟩
  have hne : res ≠ none := hf0 ▸ hne
  have hf := hf0
  rw [f_L_isPostSo] at hf
  have hl := lv_entry ([.ref (a 21), .int p1, .int p2]) (n := 9) (Nat.le_of_ble_eq_true rfl)
  rw [lg_entry_eq]
  generalize (lg_sl ([.ref (a 21), .int p1, .int p2]) ++ List.replicate (9 - (lg_sl ([.ref (a 21), .int p1, .int p2])).length) Slot.unset).toArray = ls at hl ⊢
  have hl : lv_has ls 9 [(0, .ref (a 21)), (1, .int p1), (2, .int p2)] := hl
  have J130 : ∀ (n : Nat) (v : DV) (hs : List HD) (x5 : Int32) (x7 : Int32) (H : Heap) (locs : List Loc) (ls : Array Slot), va_P G.1 vwCl (XW G a v hs) H → va_D A (XW G a v hs) → va_S A s.heap H locs → lv_has ls 9 [(5, .int x5), (7, .int x7)] → f_L_isPostSo_J130 n v (hs.map Prod.snd) x5 x7 = res → W p l e (headSpec wsL_isPostSo ({ frames := 6, cells := 60, slots := 1012, locals := 147 } : Room)).room s m ([.ref (a 21), .int p1, .int p2] : List Value).toArray below meth c H locs 60 1012 (MQ below (va_Qi (fun r (u : DV × List HD) => f_L_isPostSo n0 v0 (hs0.map Prod.snd) p1 p2 = some (r, u.1, u.2.map Prod.snd)) (fun u t => atW G (XW G a u.1 u.2) A t) A) ([.ref (a 21), .int p1, .int p2] : List Value).toArray s 60 1012 A) (F0 m 130 ls []) := by
    intro n v hs x5 x7 H locs ls hP hD hS hl hf
    rw [f_L_isPostSo_J130] at hf
    refine lv_iload hx hb dL_isPostSo_130 (lv_at hl 1 rfl) ?_
    refine lv_if_lt (tgt := 144) hx hb dL_isPostSo_132 (by decide) (fun c => ?_) (fun c => ?_)
    · have hf := it_1 hf c
      refine lv_iconst (v := 0) hx hb dL_isPostSo_144 (by decide) ?_
      refine W.widen (k := 60) (n := 1012) (Nat.le_of_ble_eq_true rfl) (Nat.le_of_ble_eq_true rfl) ?_
      exact W.zret (ty := .boolean) (v := 0) hx hb hr rfl (fun t ht hW => ⟨⟨0, (v, hs), rfl, hf0.trans hf.symm, by rw [ht]; exact hP, hD⟩, hS.F ht⟩) hS.2.2 dL_isPostSo_145
    · have hf := it_2 hf c
      refine lv_iload hx hb dL_isPostSo_135 (lv_at hl 0 rfl) ?_
      refine lv_if_lt (tgt := 144) hx hb dL_isPostSo_137 (by decide) (fun c => ?_) (fun c => ?_)
      · have hf := it_1 hf c
        refine lv_iconst (v := 0) hx hb dL_isPostSo_144 (by decide) ?_
        refine W.widen (k := 60) (n := 1012) (Nat.le_of_ble_eq_true rfl) (Nat.le_of_ble_eq_true rfl) ?_
        exact W.zret (ty := .boolean) (v := 0) hx hb hr rfl (fun t ht hW => ⟨⟨0, (v, hs), rfl, hf0.trans hf.symm, by rw [ht]; exact hP, hD⟩, hS.F ht⟩) hS.2.2 dL_isPostSo_145
      · have hf := it_2 hf c
        refine lv_iconst (v := 1) hx hb dL_isPostSo_140 (by decide) ?_
        refine lv_goto (tgt := 145) hx hb dL_isPostSo_141 (by decide) ?_
        refine W.widen (k := 60) (n := 1012) (Nat.le_of_ble_eq_true rfl) (Nat.le_of_ble_eq_true rfl) ?_
        exact W.zret (ty := .boolean) (v := 1) hx hb hr rfl (fun t ht hW => ⟨⟨1, (v, hs), rfl, hf0.trans hf.symm, by rw [ht]; exact hP, hD⟩, hS.F ht⟩) hS.2.2 dL_isPostSo_145
  have J62 : ∀ (n : Nat) (v : DV) (hs : List HD) (x1 : Int32) (x2 : Int32) (x3 : Int32) (x4 : Int32) (z0 : Int32) (H : Heap) (locs : List Loc) (ls : Array Slot), va_P G.1 vwCl (XW G a v hs) H → va_D A (XW G a v hs) → va_S A s.heap H locs → lv_has ls 9 [(0, .ref (a 21)), (1, .int x1), (2, .int x2), (3, .int x3), (4, .int x4)] → f_L_isPostSo_J62 n v (hs.map Prod.snd) x1 x2 x3 x4 z0 = res → W p l e (headSpec wsL_isPostSo ({ frames := 6, cells := 60, slots := 1012, locals := 147 } : Room)).room s m ([.ref (a 21), .int p1, .int p2] : List Value).toArray below meth c H locs 30 506 (MQ below (va_Qi (fun r (u : DV × List HD) => f_L_isPostSo n0 v0 (hs0.map Prod.snd) p1 p2 = some (r, u.1, u.2.map Prod.snd)) (fun u t => atW G (XW G a u.1 u.2) A t) A) ([.ref (a 21), .int p1, .int p2] : List Value).toArray s 60 1012 A) (F0 m 62 ls [.int z0]) := by
    intro n v hs x1 x2 x3 x4 z0 H locs ls hP hD hS hl hf
    rw [f_L_isPostSo_J62] at hf
    refine lv_istore (lv' := [(6, .int z0), (0, .ref (a 21)), (1, .int x1), (2, .int x2), (3, .int x3), (4, .int x4)]) hx hb dL_isPostSo_62 hl (by decide) rfl (fun ls hl => ?_)
    refine lv_aload_n hx hb dL_isPostSo_64 rfl (lv_at hl 1 rfl) ?_
    obtain ⟨hkk, hf⟩ := ck_1 hf hne
    obtain ⟨hk, hk6, hkl, h7⟩ := kOK_1 hkk
    refine cwiP (wr := []) (w1 := fun u : DV => XW G a u hs) (ws1 := fun u : DV => XW G a u hs) (va_runV (As := []) (rest := []) ⟨hx, hb, hml, hown, hts⟩ (ok_X6_undo l G a _ v hs [] (fun _ => none) (kV v) hk hk6 hkl copyFrom_ne) (cwV 0 hts gL_isPostSo_X6_undo rfl rfl rfl (by decide +kernel) ⟨Nat.le_of_ble_eq_true rfl, Nat.le_of_ble_eq_true rfl⟩) ⟨pcW_blind, va_recv hK hP (ci := 6) (q0 := 0) rfl rfl, pcW_pre hP hD hamb⟩ rfl rfl hl.1 rfl (lv_room (Nat.le_of_ble_eq_true rfl)) dL_isPostSo_65 ⟨Nat.le_of_ble_eq_true rfl, Nat.le_of_ble_eq_true rfl⟩) hP hD hS hA (pnl _) (fun _ => pnr _) (fun r65 v65 H locs hw hP hD hS => ?_)
    have hf := bd2_2 hf (undoF_of hw)
    have hP : va_P G.1 vwCl (XW G a v65 hs) H := hP
    have hD : va_D A (XW G a v65 hs) := hD
    refine lv_istore (lv' := [(7, .int r65), (6, .int z0), (0, .ref (a 21)), (1, .int x1), (2, .int x2), (3, .int x3), (4, .int x4)]) hx hb dL_isPostSo_68 hl (by decide) rfl (fun ls hl => ?_)
    refine lv_aload_n hx hb dL_isPostSo_70 rfl (lv_at hl 2 rfl) ?_
    obtain ⟨hkk, hf⟩ := ck_1 hf hne
    obtain ⟨hk, hk6, hkl, h7⟩ := kOK_1 hkk
    refine cwiP (wr := []) (w1 := fun u : DV => XW G a u hs) (ws1 := fun u : DV => XW G a u hs) (va_runV (As := []) (rest := []) ⟨hx, hb, hml, hown, hts⟩ (ok_X6_undo l G a _ v65 hs [] (fun _ => none) (kV v65) hk hk6 hkl copyFrom_ne) (cwV 0 hts gL_isPostSo_X6_undo rfl rfl rfl (by decide +kernel) ⟨Nat.le_of_ble_eq_true rfl, Nat.le_of_ble_eq_true rfl⟩) ⟨pcW_blind, va_recv hK hP (ci := 6) (q0 := 0) rfl rfl, pcW_pre hP hD hamb⟩ rfl rfl hl.1 rfl (lv_room (Nat.le_of_ble_eq_true rfl)) dL_isPostSo_71 ⟨Nat.le_of_ble_eq_true rfl, Nat.le_of_ble_eq_true rfl⟩) hP hD hS hA (pnl _) (fun _ => pnr _) (fun r71 v71 H locs hw hP hD hS => ?_)
    have hf := bd2_2 hf (undoF_of hw)
    have hP : va_P G.1 vwCl (XW G a v71 hs) H := hP
    have hD : va_D A (XW G a v71 hs) := hD
    refine lv_istore (lv' := [(7, .int r71), (6, .int z0), (0, .ref (a 21)), (1, .int x1), (2, .int x2), (3, .int x3), (4, .int x4)]) hx hb dL_isPostSo_74 hl (by decide) rfl (fun ls hl => ?_)
    refine lv_aload_n hx hb dL_isPostSo_76 rfl (lv_at hl 2 rfl) ?_
    refine lv_iconst (v := 0) hx hb dL_isPostSo_77 (by decide) ?_
    refine lv_iload_n hx hb dL_isPostSo_78 rfl (lv_at hl 4 rfl) ?_
    obtain ⟨hkk, hf⟩ := ck_1 hf hne
    obtain ⟨hk, hk6, hkl, h7⟩ := kOK_1 hkk
    have hn := chgF_ne (bd3_1 hf hne)
    refine cwiP (wr := []) (w1 := fun u : DV × List HD => XW G a u.1 u.2) (ws1 := fun u : DV × List HD => XW G a u.1 u.2) (va_runV (As := [.int 0, .int x2]) (rest := []) ⟨hx, hb, hml, hown, hts⟩ (ok_X6_set l G a _ v71 hs [] (fun _ => none) (kV v71) hk hk6 hkl h7 copyFrom_ne 0 x2 hn) (cwV 2 hts gL_isPostSo_X6_set rfl rfl rfl (by decide +kernel) ⟨Nat.le_of_ble_eq_true rfl, Nat.le_of_ble_eq_true rfl⟩) ⟨pcH_blind, va_recv hK hP (ci := 6) (q0 := 0) rfl rfl, pcH_pre hP hD hamb hHS hS (va_freeW hD hS hA)⟩ rfl rfl hl.1 rfl (lv_room (Nat.le_of_ble_eq_true rfl)) dL_isPostSo_79 ⟨Nat.le_of_ble_eq_true rfl, Nat.le_of_ble_eq_true rfl⟩) hP hD hS hA (pnl _) (fun _ => pnr _) (fun r79 u79 H locs hw hP hD hS => ?_)
    obtain ⟨v79, hs79⟩ := u79
    have hf := bd3_2 (y := v79) (z := hs79.map Prod.snd) hf hw
    have hP : va_P G.1 vwCl (XW G a v79 hs79) H := hP
    have hD : va_D A (XW G a v79 hs79) := hD
    refine lv_istore (lv' := [(5, .int r79), (7, .int r71), (6, .int z0), (0, .ref (a 21)), (1, .int x1), (2, .int x2), (3, .int x3), (4, .int x4)]) hx hb dL_isPostSo_82 hl (by decide) rfl (fun ls hl => ?_)
    refine lv_aload_n hx hb dL_isPostSo_84 rfl (lv_at hl 3 rfl) ?_
    refine lv_bipush (v := 24) hx hb dL_isPostSo_85 (by decide) ?_
    refine lv_iload_n hx hb dL_isPostSo_87 rfl (lv_at hl 4 rfl) ?_
    refine lv_imul hx hb dL_isPostSo_88 ?_
    obtain ⟨hkk, hf⟩ := ck_1 hf hne
    obtain ⟨hk, hk6, hkl, h7⟩ := kOK_1 hkk
    have hn := chgF_ne (bd3_1 hf hne)
    refine cwiP (wr := []) (w1 := fun u : DV × List HD => XW G a u.1 u.2) (ws1 := fun u : DV × List HD => XW G a u.1 u.2) (va_runV (As := [.int (24 * x1)]) (rest := []) ⟨hx, hb, hml, hown, hts⟩ (ok_X6_pass l G a _ n v79 hs79 [] (fun _ => none) (kV v79) hk hk6 hkl h7 copyFrom_ne (24 * x1) hn) (cwV 1 hts gL_isPostSo_X6_pass rfl rfl rfl (by decide +kernel) ⟨Nat.le_of_ble_eq_true rfl, Nat.le_of_ble_eq_true rfl⟩) ⟨pcW_blind, va_recv hK hP (ci := 6) (q0 := 0) rfl rfl, pcW_pre hP hD hamb⟩ rfl rfl hl.1 rfl (lv_room (Nat.le_of_ble_eq_true rfl)) dL_isPostSo_89 ⟨Nat.le_of_ble_eq_true rfl, Nat.le_of_ble_eq_true rfl⟩) hP hD hS hA (pnl _) (fun _ => pnr _) (fun r89 u89 H locs hw hP hD hS => ?_)
    obtain ⟨v89, hs89⟩ := u89
    have hf := bd3_2 (y := v89) (z := hs89.map Prod.snd) hf hw
    have hP : va_P G.1 vwCl (XW G a v89 hs89) H := hP
    have hD : va_D A (XW G a v89 hs89) := hD
    refine lv_istore (lv' := [(8, .int r89), (5, .int r79), (7, .int r71), (6, .int z0), (0, .ref (a 21)), (1, .int x1), (2, .int x2), (3, .int x3), (4, .int x4)]) hx hb dL_isPostSo_92 hl (by decide) rfl (fun ls hl => ?_)
    refine lv_aload_n hx hb dL_isPostSo_94 rfl (lv_at hl 4 rfl) ?_
    obtain ⟨hkk, hf⟩ := ck_1 hf hne
    obtain ⟨hk, hk6, hkl, h7⟩ := kOK_1 hkk
    refine cwiP (wr := []) (w1 := fun u : DV => XW G a u hs89) (ws1 := fun u : DV => XW G a u hs89) (va_runV (As := []) (rest := []) ⟨hx, hb, hml, hown, hts⟩ (ok_X6_undo l G a _ v89 hs89 [] (fun _ => none) (kV v89) hk hk6 hkl copyFrom_ne) (cwV 0 hts gL_isPostSo_X6_undo rfl rfl rfl (by decide +kernel) ⟨Nat.le_of_ble_eq_true rfl, Nat.le_of_ble_eq_true rfl⟩) ⟨pcW_blind, va_recv hK hP (ci := 6) (q0 := 0) rfl rfl, pcW_pre hP hD hamb⟩ rfl rfl hl.1 rfl (lv_room (Nat.le_of_ble_eq_true rfl)) dL_isPostSo_95 ⟨Nat.le_of_ble_eq_true rfl, Nat.le_of_ble_eq_true rfl⟩) hP hD hS hA (pnl _) (fun _ => pnr _) (fun r95 v95 H locs hw hP hD hS => ?_)
    have hf := bd2_2 hf (undoF_of hw)
    have hP : va_P G.1 vwCl (XW G a v95 hs89) H := hP
    have hD : va_D A (XW G a v95 hs89) := hD
    refine lv_istore (lv' := [(7, .int r95), (8, .int r89), (5, .int r79), (6, .int z0), (0, .ref (a 21)), (1, .int x1), (2, .int x2), (3, .int x3), (4, .int x4)]) hx hb dL_isPostSo_98 hl (by decide) rfl (fun ls hl => ?_)
    refine lv_aload_n hx hb dL_isPostSo_100 rfl (lv_at hl 4 rfl) ?_
    obtain ⟨hkk, hf⟩ := ck_1 hf hne
    obtain ⟨hk, hk6, hkl, h7⟩ := kOK_1 hkk
    refine cwiP (wr := []) (w1 := fun u : DV => XW G a u hs89) (ws1 := fun u : DV => XW G a u hs89) (va_runV (As := []) (rest := []) ⟨hx, hb, hml, hown, hts⟩ (ok_X6_undo l G a _ v95 hs89 [] (fun _ => none) (kV v95) hk hk6 hkl copyFrom_ne) (cwV 0 hts gL_isPostSo_X6_undo rfl rfl rfl (by decide +kernel) ⟨Nat.le_of_ble_eq_true rfl, Nat.le_of_ble_eq_true rfl⟩) ⟨pcW_blind, va_recv hK hP (ci := 6) (q0 := 0) rfl rfl, pcW_pre hP hD hamb⟩ rfl rfl hl.1 rfl (lv_room (Nat.le_of_ble_eq_true rfl)) dL_isPostSo_101 ⟨Nat.le_of_ble_eq_true rfl, Nat.le_of_ble_eq_true rfl⟩) hP hD hS hA (pnl _) (fun _ => pnr _) (fun r101 v101 H locs hw hP hD hS => ?_)
    have hf := bd2_2 hf (undoF_of hw)
    have hP : va_P G.1 vwCl (XW G a v101 hs89) H := hP
    have hD : va_D A (XW G a v101 hs89) := hD
    refine lv_istore (lv' := [(7, .int r101), (8, .int r89), (5, .int r79), (6, .int z0), (0, .ref (a 21)), (1, .int x1), (2, .int x2), (3, .int x3), (4, .int x4)]) hx hb dL_isPostSo_104 hl (by decide) rfl (fun ls hl => ?_)
    refine lv_iload hx hb dL_isPostSo_106 (lv_at hl 3 rfl) ?_
    refine lv_if_eq (tgt := 144) hx hb dL_isPostSo_108 (by decide) (fun c => ?_) (fun c => ?_)
    · have hf := it_1 hf c
      refine lv_iconst (v := 0) hx hb dL_isPostSo_144 (by decide) ?_
      refine W.widen (k := 60) (n := 1012) (Nat.le_of_ble_eq_true rfl) (Nat.le_of_ble_eq_true rfl) ?_
      exact W.zret (ty := .boolean) (v := 0) hx hb hr rfl (fun t ht hW => ⟨⟨0, (v101, hs89), rfl, hf0.trans hf.symm, by rw [ht]; exact hP, hD⟩, hS.F ht⟩) hS.2.2 dL_isPostSo_145
    · have hf := it_2 hf c
      refine lv_iload hx hb dL_isPostSo_111 (lv_at hl 1 rfl) ?_
      refine lv_iload hx hb dL_isPostSo_113 (lv_at hl 8 rfl) ?_
      refine lv_icmp_lt (tgt := 130) hx hb dL_isPostSo_115 (by decide) (fun c => ?_) (fun c => ?_)
      · have hf := it_1 hf c
        refine W.widen (k := 60) (n := 1012) (Nat.le_of_ble_eq_true rfl) (Nat.le_of_ble_eq_true rfl) ?_
        exact J130 n v101 hs89 r79 r101 H locs ls hP hD hS (lv_sub hl [2, 0] rfl) hf
      · have hf := it_2 hf c
        refine lv_iload hx hb dL_isPostSo_118 (lv_at hl 1 rfl) ?_
        refine lv_iload hx hb dL_isPostSo_120 (lv_at hl 8 rfl) ?_
        refine lv_icmp_ne (tgt := 144) hx hb dL_isPostSo_122 (by decide) (fun c => ?_) (fun c => ?_)
        · have hf := it_2 hf c
          refine lv_iconst (v := 0) hx hb dL_isPostSo_144 (by decide) ?_
          refine W.widen (k := 60) (n := 1012) (Nat.le_of_ble_eq_true rfl) (Nat.le_of_ble_eq_true rfl) ?_
          exact W.zret (ty := .boolean) (v := 0) hx hb hr rfl (fun t ht hW => ⟨⟨0, (v101, hs89), rfl, hf0.trans hf.symm, by rw [ht]; exact hP, hD⟩, hS.F ht⟩) hS.2.2 dL_isPostSo_145
        · have hf := it_1 hf c
          refine lv_iload_n hx hb dL_isPostSo_125 rfl (lv_at hl 6 rfl) ?_
          refine lv_iload_n hx hb dL_isPostSo_126 rfl (lv_at hl 7 rfl) ?_
          refine lv_icmp_lt (tgt := 144) hx hb dL_isPostSo_127 (by decide) (fun c => ?_) (fun c => ?_)
          · have hf := it_1 hf c
            refine lv_iconst (v := 0) hx hb dL_isPostSo_144 (by decide) ?_
            refine W.widen (k := 60) (n := 1012) (Nat.le_of_ble_eq_true rfl) (Nat.le_of_ble_eq_true rfl) ?_
            exact W.zret (ty := .boolean) (v := 0) hx hb hr rfl (fun t ht hW => ⟨⟨0, (v101, hs89), rfl, hf0.trans hf.symm, by rw [ht]; exact hP, hD⟩, hS.F ht⟩) hS.2.2 dL_isPostSo_145
          · have hf := it_2 hf c
            refine W.widen (k := 60) (n := 1012) (Nat.le_of_ble_eq_true rfl) (Nat.le_of_ble_eq_true rfl) ?_
            exact J130 n v101 hs89 r79 r101 H locs ls hP hD hS (lv_sub hl [2, 0] rfl) hf
  refine lv_aload_n hx hb dL_isPostSo_0 rfl (lv_at hl 0 rfl) ?_
  refine lv_iload_n hx hb dL_isPostSo_1 rfl (lv_at hl 1 rfl) ?_
  refine lv_iconst (v := 0) hx hb dL_isPostSo_2 (by decide) ?_
  have hpm := XW_x G a v0 hs0
  have hPc := va_P_left (va_P_perm hP hpm)
  have hDc := va_D_left (va_D_perm hD hpm)
  have hn := bd1_1 hf hne
  refine vp_callSi (W.runV (As := [.int p1, .int 0]) (rest := []) ⟨hx, hb, hml, hown, hts⟩ (ok_X6_bestPost l G a n0 v0 p1 0 hn) (cwV 2 hts gL_isPostSo_X6_bestPost rfl rfl rfl (by decide +kernel) ⟨Nat.le_of_ble_eq_true rfl, Nat.le_of_ble_eq_true rfl⟩) ⟨pcR_blind, va_recv hK hPc (ci := 6) (q0 := 0) rfl rfl, pcR_pre hPc hamb⟩ rfl rfl hl.1 rfl (lv_room (Nat.le_of_ble_eq_true rfl)) dL_isPostSo_3 ⟨Nat.le_of_ble_eq_true rfl, Nat.le_of_ble_eq_true rfl⟩) (fun r3 hw => ?_)
  have hf := bd1_2 hf hw
  refine lv_istore_n (lv' := [(3, .int r3), (0, .ref (a 21)), (1, .int p1), (2, .int p2)]) hx hb dL_isPostSo_6 rfl hl (by decide) rfl (fun ls hl => ?_)
  refine lv_aload_n hx hb dL_isPostSo_7 rfl (lv_at hl 1 rfl) ?_
  refine lv_iload_n hx hb dL_isPostSo_8 rfl (lv_at hl 2 rfl) ?_
  refine lv_iconst (v := 1) hx hb dL_isPostSo_9 (by decide) ?_
  have hpm := XW_x G a v0 hs0
  have hPc := va_P_left (va_P_perm hP hpm)
  have hDc := va_D_left (va_D_perm hD hpm)
  have hn := bd1_1 hf hne
  refine vp_callSi (W.runV (As := [.int p1, .int 1]) (rest := []) ⟨hx, hb, hml, hown, hts⟩ (ok_X6_bestPost l G a n0 v0 p1 1 hn) (cwV 2 hts gL_isPostSo_X6_bestPost rfl rfl rfl (by decide +kernel) ⟨Nat.le_of_ble_eq_true rfl, Nat.le_of_ble_eq_true rfl⟩) ⟨pcR_blind, va_recv hK hPc (ci := 6) (q0 := 0) rfl rfl, pcR_pre hPc hamb⟩ rfl rfl hl.1 rfl (lv_room (Nat.le_of_ble_eq_true rfl)) dL_isPostSo_10 ⟨Nat.le_of_ble_eq_true rfl, Nat.le_of_ble_eq_true rfl⟩) (fun r10 hw => ?_)
  have hf := bd1_2 hf hw
  refine lv_istore (lv' := [(4, .int r10), (3, .int r3), (0, .ref (a 21)), (1, .int p1), (2, .int p2)]) hx hb dL_isPostSo_13 hl (by decide) rfl (fun ls hl => ?_)
  refine lv_aload_n hx hb dL_isPostSo_15 rfl (lv_at hl 2 rfl) ?_
  refine lv_iconst (v := 0) hx hb dL_isPostSo_16 (by decide) ?_
  have hpm := XW_x G a v0 hs0
  have hPc := va_P_left (va_P_perm hP hpm)
  have hDc := va_D_left (va_D_perm hD hpm)
  have hn := bd1_1 hf hne
  refine vp_callSi (W.runV (As := [.int 0]) (rest := []) ⟨hx, hb, hml, hown, hts⟩ (ok_X6_count l G a n0 v0 0 hn) (cwV 1 hts gL_isPostSo_X6_count rfl rfl rfl (by decide +kernel) ⟨Nat.le_of_ble_eq_true rfl, Nat.le_of_ble_eq_true rfl⟩) ⟨pcR_blind, va_recv hK hPc (ci := 6) (q0 := 0) rfl rfl, pcR_pre hPc hamb⟩ rfl rfl hl.1 rfl (lv_room (Nat.le_of_ble_eq_true rfl)) dL_isPostSo_17 ⟨Nat.le_of_ble_eq_true rfl, Nat.le_of_ble_eq_true rfl⟩) (fun r17 hw => ?_)
  have hf := bd1_2 hf hw
  refine lv_sipush (v := 900) hx hb dL_isPostSo_20 (by decide) ?_
  refine lv_icmp_le (tgt := 36) hx hb dL_isPostSo_23 (by decide) (fun c => ?_) (fun c => ?_)
  · have hf := it_1 hf c
    refine lv_aload_n hx hb dL_isPostSo_36 rfl (lv_at hl 2 rfl) ?_
    refine lv_iconst (v := 0) hx hb dL_isPostSo_37 (by decide) ?_
    refine lv_iload_n hx hb dL_isPostSo_38 rfl (lv_at hl 1 rfl) ?_
    obtain ⟨hkk, hf⟩ := ck_1 hf hne
    obtain ⟨hk, hk6, hkl, h7⟩ := kOK_1 hkk
    have hn := chgF_ne (bd3_1 hf hne)
    refine cwiP (wr := []) (w1 := fun u : DV × List HD => XW G a u.1 u.2) (ws1 := fun u : DV × List HD => XW G a u.1 u.2) (va_runV (As := [.int 0, .int r3]) (rest := []) ⟨hx, hb, hml, hown, hts⟩ (ok_X6_set l G a _ v0 hs0 [] (fun _ => none) (kV v0) hk hk6 hkl h7 copyFrom_ne 0 r3 hn) (cwV 2 hts gL_isPostSo_X6_set rfl rfl rfl (by decide +kernel) ⟨Nat.le_of_ble_eq_true rfl, Nat.le_of_ble_eq_true rfl⟩) ⟨pcH_blind, va_recv hK hP (ci := 6) (q0 := 0) rfl rfl, pcH_pre hP hD hamb hHS hS (va_freeW hD hS hA)⟩ rfl rfl hl.1 rfl (lv_room (Nat.le_of_ble_eq_true rfl)) dL_isPostSo_39 ⟨Nat.le_of_ble_eq_true rfl, Nat.le_of_ble_eq_true rfl⟩) hP hD hS hA (pnl _) (fun _ => pnr _) (fun r39 u39 H locs hw hP hD hS => ?_)
    obtain ⟨v39, hs39⟩ := u39
    have hf := bd3_2 (y := v39) (z := hs39.map Prod.snd) hf hw
    have hP : va_P G.1 vwCl (XW G a v39 hs39) H := hP
    have hD : va_D A (XW G a v39 hs39) := hD
    refine lv_istore (lv' := [(5, .int r39), (4, .int r10), (3, .int r3), (0, .ref (a 21)), (1, .int p1), (2, .int p2)]) hx hb dL_isPostSo_42 hl (by decide) rfl (fun ls hl => ?_)
    refine lv_aload_n hx hb dL_isPostSo_44 rfl (lv_at hl 3 rfl) ?_
    refine lv_bipush (v := 24) hx hb dL_isPostSo_45 (by decide) ?_
    refine lv_iload_n hx hb dL_isPostSo_47 rfl (lv_at hl 4 rfl) ?_
    refine lv_imul hx hb dL_isPostSo_48 ?_
    obtain ⟨hkk, hf⟩ := ck_1 hf hne
    obtain ⟨hk, hk6, hkl, h7⟩ := kOK_1 hkk
    have hn := chgF_ne (bd3_1 hf hne)
    refine cwiP (wr := []) (w1 := fun u : DV × List HD => XW G a u.1 u.2) (ws1 := fun u : DV × List HD => XW G a u.1 u.2) (va_runV (As := [.int (24 * p1)]) (rest := []) ⟨hx, hb, hml, hown, hts⟩ (ok_X6_pass l G a _ n0 v39 hs39 [] (fun _ => none) (kV v39) hk hk6 hkl h7 copyFrom_ne (24 * p1) hn) (cwV 1 hts gL_isPostSo_X6_pass rfl rfl rfl (by decide +kernel) ⟨Nat.le_of_ble_eq_true rfl, Nat.le_of_ble_eq_true rfl⟩) ⟨pcW_blind, va_recv hK hP (ci := 6) (q0 := 0) rfl rfl, pcW_pre hP hD hamb⟩ rfl rfl hl.1 rfl (lv_room (Nat.le_of_ble_eq_true rfl)) dL_isPostSo_49 ⟨Nat.le_of_ble_eq_true rfl, Nat.le_of_ble_eq_true rfl⟩) hP hD hS hA (pnl _) (fun _ => pnr _) (fun r49 u49 H locs hw hP hD hS => ?_)
    obtain ⟨v49, hs49⟩ := u49
    have hf := bd3_2 (y := v49) (z := hs49.map Prod.snd) hf hw
    have hP : va_P G.1 vwCl (XW G a v49 hs49) H := hP
    have hD : va_D A (XW G a v49 hs49) := hD
    refine lv_iload hx hb dL_isPostSo_52 (lv_at hl 1 rfl) ?_
    refine lv_icmp_ne (tgt := 61) hx hb dL_isPostSo_54 (by decide) (fun c => ?_) (fun c => ?_)
    · have hf := it_2 hf c
      refine lv_iconst (v := 0) hx hb dL_isPostSo_61 (by decide) ?_
      refine W.widen (k := 30) (n := 506) (Nat.le_of_ble_eq_true rfl) (Nat.le_of_ble_eq_true rfl) ?_
      exact J62 n0 v49 hs49 p1 p2 r3 r10 0 H locs ls hP hD hS (lv_sub hl [3, 4, 5, 2, 1] rfl) hf
    · have hf := it_1 hf c
      refine lv_iconst (v := 1) hx hb dL_isPostSo_57 (by decide) ?_
      refine lv_goto (tgt := 62) hx hb dL_isPostSo_58 (by decide) ?_
      refine W.widen (k := 30) (n := 506) (Nat.le_of_ble_eq_true rfl) (Nat.le_of_ble_eq_true rfl) ?_
      exact J62 n0 v49 hs49 p1 p2 r3 r10 1 H locs ls hP hD hS (lv_sub hl [3, 4, 5, 2, 1] rfl) hf
  · have hf := it_2 hf c
    refine lv_iload_n hx hb dL_isPostSo_26 rfl (lv_at hl 1 rfl) ?_
    refine lv_if_lt (tgt := 34) hx hb dL_isPostSo_27 (by decide) (fun c => ?_) (fun c => ?_)
    · have hf := it_1 hf c
      refine lv_iconst (v := 0) hx hb dL_isPostSo_34 (by decide) ?_
      refine W.widen (k := 60) (n := 1012) (Nat.le_of_ble_eq_true rfl) (Nat.le_of_ble_eq_true rfl) ?_
      exact W.zret (ty := .boolean) (v := 0) hx hb hr rfl (fun t ht hW => ⟨⟨0, (v0, hs0), rfl, hf0.trans hf.symm, by rw [ht]; exact hP, hD⟩, hS.F ht⟩) hS.2.2 dL_isPostSo_35
    · have hf := it_2 hf c
      refine lv_iconst (v := 1) hx hb dL_isPostSo_30 (by decide) ?_
      refine lv_goto (tgt := 35) hx hb dL_isPostSo_31 (by decide) ?_
      refine W.widen (k := 60) (n := 1012) (Nat.le_of_ble_eq_true rfl) (Nat.le_of_ble_eq_true rfl) ?_
      exact W.zret (ty := .boolean) (v := 1) hx hb hr rfl (fun t ht hW => ⟨⟨1, (v0, hs0), rfl, hf0.trans hf.symm, by rw [ht]; exact hP, hD⟩, hS.F ht⟩) hS.2.2 dL_isPostSo_35
