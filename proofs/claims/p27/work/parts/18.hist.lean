/-! The history: prepare, keepPrepared, takeBack, recorded. -/
def preW (l : List DV) (k : Nat) : DV := (l[k]?).getD iv_X0_init
def putAt {α : Type} (l : List α) (k : Nat) (u : α) : List α := if k < l.length then l.set k u else l ++ [u]
def keepK (k : Nat) : Nat := if k < 6 then k + 1 else k
def keepL {α : Type} (k : Nat) (l : List α) : List α := if k < 6 then l else l.tail ++ l.head?.toList
theorem keepL_perm {α : Type} (k : Nat) (l : List α) : l.Perm (keepL k l) := by
  unfold keepL
  split
  · exact List.Perm.refl _
  · cases l with
    | nil => exact List.Perm.refl _
    | cons x t => simpa using (List.perm_append_comm (l₁ := [x]) (l₂ := t))
theorem keepL_map {α β : Type} (f : α → β) (k : Nat) (l : List α) : (keepL k l).map f = keepL k (l.map f) := by
  unfold keepL
  split
  · rfl
  · cases l <;> simp
theorem putAt_map {α β : Type} (f : α → β) (k : Nat) (l : List α) (u : α) : (putAt l k u).map f = putAt (l.map f) k (f u) := by
  unfold putAt
  rw [List.length_map]
  split
  · rw [List.map_set]
  · rw [List.map_append]; rfl
theorem split_at {α : Type} {l : List α} {k : Nat} (h : k < l.length) : l = l.take k ++ l[k] :: l.drop (k + 1) := by
  rw [← List.drop_eq_getElem_cons h, List.take_append_drop]
theorem set_at {α : Type} {l : List α} {k : Nat} (h : k < l.length) (u : α) : l.set k u = l.take k ++ u :: l.drop (k + 1) := by
  rw [List.set_eq_take_append_cons_drop, if_pos h]
theorem rowsF_set {hs : List HD} {k : Nat} (h : k < hs.length) (x : DV) : rowsF (hs.set k (hs[k].1, x)) = rowsF hs := by
  funext i
  unfold rowsF
  by_cases hi : k = i
  · subst hi
    rw [List.getElem?_set_self h, List.getElem?_eq_getElem h]
    rfl
  · rw [List.getElem?_set_ne hi]
theorem rowsF_push (hs : List HD) (d : HD) : va_up (rowsF hs) hs.length (some (d.1 0)) = rowsF (hs ++ [d]) := by
  funext i
  show (if i = hs.length then some (d.1 0) else (hs[i]?).map (fun d => d.1 0)) = ((hs ++ [d])[i]?).map (fun d => d.1 0)
  by_cases hi : i = hs.length
  · subst hi
    simp
  · rw [if_neg hi]
    by_cases hl : i < hs.length
    · rw [List.getElem?_append_left hl]
    · rw [List.getElem?_eq_none (by omega), List.getElem?_eq_none (by simp; omega)]
theorem xW_new (g : Nat → ClassId) (a u : Nat → Nat) (v x : DV) (R S : Nat → Option Nat) (hs es : List HD) : ((deskC g u x ++ deskC g a v) ++ xR g a v R S (deskL g (hs ++ es))).Perm (xW g a v R S ((hs ++ [(u, x)]) ++ es)) := by
  have h := segp [deskC g u x, deskC g a v, xA g a v, padC g a v, xH a v, xArr g a R S, deskL g hs, deskL g es] 8 [2, 1, 3, 4, 5, 6, 0, 7] rfl (by decide)
  simpa [xW, xR, xcoreC_eq, deskL_app, deskL_cons, deskL, List.append_assoc] using h
theorem xW_obj {g : Nat → ClassId} {a : Nat → Nat} {v : DV} {R S : Nat → Option Nat} {ds : List HD} {d : HD} (h : d ∈ ds) : ∃ k : Nat, (xW g a v R S ds)[k]? = some (d.1 0, .inr (0, [.ref (d.1 1), .int (d.2 0 0), .ref (d.1 2), .ref (d.1 7)])) := by
  have h1 : (d.1 0, Sum.inr (0, [.ref (d.1 1), .int (d.2 0 0), .ref (d.1 2), .ref (d.1 7)])) ∈ deskC g d.1 d.2 := List.mem_cons_self
  have h2 : (d.1 0, Sum.inr (0, [.ref (d.1 1), .int (d.2 0 0), .ref (d.1 2), .ref (d.1 7)])) ∈ xW g a v R S ds := List.mem_append_right _ (List.mem_append_right _ (List.mem_flatMap.mpr ⟨d, h, h1⟩))
  exact List.getElem?_of_mem h2
theorem clampK {k : Nat} (h : k ≤ 7) : (nI k).toNatClampNeg = k := nI_clamp (by omega)
set_option maxHeartbeats 4000000 in
set_option maxRecDepth 100000 in
/-- prepare: the row behind the kept ones holds the living desk's state -/
theorem ok_X2_prepare (l : Launch) (G : Gt) (a : Nat → Nat) (sz : Nat) (v : DV) (hs es : List HD) (S : Nat → Option Nat) (k : Nat) (hk : v 22 0 = nI k) (hk6 : k ≤ 6) (hkl : k ≤ hs.length) (hcp : ∀ w, f_X0_copyFrom w v ≠ none) : Met l yX2_prepare wsX2_prepare ({ frames := 4, cells := 15, slots := 253, locals := 103 } : Room) (pcW G [.ref (a 19), .ref (a 0)] (xW G.2 a v (rowsF hs) S (hs ++ es)) sz) (va_Qv (fun u : HD => f_X0_copyFrom (preW (hs.map Prod.snd) k) v = some u.2) (fun u t => atW G (xW G.2 a v (rowsF (putAt hs k u)) S (putAt hs k u ++ es)) (va_A (xW G.2 a v (rowsF hs) S (hs ++ es)) sz) t) (va_A (xW G.2 a v (rowsF hs) S (hs ++ es)) sz)) 15 253 (va_A (xW G.2 a v (rowsF hs) S (hs ++ es)) sz) := by
  refine Met.ofW (cc := cX2_prepare) (maxL := 3) (ret := none) (by decide) rfl ?_
  intro p e s m args below meth c s₁ B hml hv
  obtain ⟨rfl, hsz, hP, hD0, hamb⟩ := hv
  have hx := B.exec
  have hb := B.bytes
  have hr := B.returns
  have hts := atoms_spec (ws := wsX2_prepare) B.pre
  have hown : s.vm.findClass RX2 = some m.cls := findClass_of_methodNamed B.named
  have hlocks := B.notSynchronized
  have hK := hamb.1
  subst hsz
  have hD := hD0.self (sz := s.heap.size)
  generalize hAe : va_A (xW G.2 a v (rowsF hs) S (hs ++ es)) s.heap.size = A at hD ⊢
  have hA : ∀ q : Nat, s.heap.size ≤ q → A q := fun q h => by rw [← hAe]; exact Or.inr h
  have hS : va_S A s.heap s.heap [] := va_S.rf
  have hinX2 : ∀ w ∈ u_ws RX2 TX2 2, w ∈ wsX2_prepare := by decide +kernel
  have hinX0 : ∀ w ∈ u_ws RX0 TX0 4, w ∈ wsX2_prepare := by decide +kernel
  have lk11 := hts (.fieldLink RX2 11 "MoodDrawers$History" "rows" "[LMoodDrawers$Desk;") (by decide +kernel)
  have lk17 := hts (.fieldLink RX2 17 "MoodDrawers$History" "kept" "I") (by decide +kernel)
  have hl := lv_entry ([.ref (a 19), .ref (a 0)]) (n := 3) (Nat.le_of_ble_eq_true rfl)
  rw [lg_entry_eq]
  generalize (lg_sl ([.ref (a 19), .ref (a 0)]) ++ List.replicate (3 - (lg_sl ([.ref (a 19), .ref (a 0)])).length) Slot.unset).toArray = ls at hl ⊢
  have hl : lv_has ls 3 [(0, .ref (a 19)), (1, .ref (a 0))] := hl
  have hck : (nI k).toNatClampNeg = k := clampK (by omega)
  have hin : vp_in (nI k) 7 := vp_in_nI (by omega) (by decide)
  refine lv_aload_n hx hb dX2_prepare_0 rfl (lv_at hl 0 rfl) ?_
  refine va_get (D := G.1) (ci := 2) (v := .ref (a 20)) (C := RX2) (T := TX2) (N := 2) hx hb hts hinX2 hown hK hP 20 rfl rfl 0 (by decide) lk11 (fun _ h9 => h9) rfl dX2_prepare_1 ?_
  refine lv_aload_n hx hb dX2_prepare_4 rfl (lv_at hl 0 rfl) ?_
  refine va_get (D := G.1) (ci := 2) (v := .int (v 22 0)) (C := RX2) (T := TX2) (N := 2) hx hb hts hinX2 hown hK hP 20 rfl rfl 1 (by decide) lk17 (fun _ h9 => h9) rfl dX2_prepare_5 ?_
  rw [hk]
  refine va_aldq (f := rowsF hs) hx hb hK hP 21 3 rfl rfl hin dX2_prepare_8 ?_
  rw [hck]
  by_cases hlt : k < hs.length
  · have e1 : rowsF hs k = some (hs[k].1 0) := by unfold rowsF; rw [List.getElem?_eq_getElem hlt]; rfl
    rw [e1]
    refine lv_astore_n (lv' := [(2, .ref (hs[k].1 0)), (0, .ref (a 19)), (1, .ref (a 0))]) hx hb dX2_prepare_9 rfl hl (by decide) rfl (fun ls hl => ?_)
    refine lv_aload_n hx hb dX2_prepare_10 rfl (lv_at hl 0 rfl) ?_
    refine lv_ifnonnull (tgt := 32) hx hb dX2_prepare_11 (by decide) ?_
    refine lv_aload_n hx hb dX2_prepare_32 rfl (lv_at hl 0 rfl) ?_
    refine lv_aload_n hx hb dX2_prepare_33 rfl (lv_at hl 2 rfl) ?_
    have e2 : hs ++ es = hs.take k ++ hs[k] :: (hs.drop (k + 1) ++ es) := by
      have h : hs ++ es = (hs.take k ++ hs[k] :: hs.drop (k + 1)) ++ es := congrArg (· ++ es) (split_at hlt)
      simp only [List.append_assoc, List.cons_append] at h
      exact h
    rw [e2] at hP hD
    have hpm := xW_split G.2 a v (rowsF hs) S (hs.take k) (hs.drop (k + 1) ++ es) hs[k]
    have hPc := va_P_left (va_P_perm hP hpm)
    have hDc := va_D_left (va_D_perm hD hpm)
    refine W.widen (k := 15) (n := 253) (Nat.le_of_ble_eq_true rfl) (Nat.le_of_ble_eq_true rfl) ?_
    refine cwvP (w1 := fun u => deskC G.2 hs[k].1 u ++ deskC G.2 a v) (ws1 := fun u => xW G.2 a v (rowsF hs) S (hs.take k ++ (hs[k].1, u) :: (hs.drop (k + 1) ++ es))) (va_runV (As := [.ref (a 0)]) (rest := []) ⟨hx, hb, hml, hown, hts⟩ (ok_X0_copyFrom l G hs[k].1 a _ hs[k].2 v (hcp _)) (cwV 1 hts gX2_prepare_X0_copyFrom rfl rfl rfl (by decide +kernel) ⟨Nat.le_of_ble_eq_true rfl, Nat.le_of_ble_eq_true rfl⟩) ⟨pcW_blind, va_recv hK hPc (ci := 0) (q0 := 0) rfl rfl, pcW_pre hPc hDc hamb⟩ rfl rfl hl.1 rfl (lv_room (Nat.le_of_ble_eq_true rfl)) dX2_prepare_34 ⟨Nat.le_of_ble_eq_true rfl, Nat.le_of_ble_eq_true rfl⟩) hP hD hS hA hpm (fun u => (xW_split G.2 a v (rowsF hs) S (hs.take k) (hs.drop (k + 1) ++ es) (hs[k].1, u)).symm) (fun u H locs hw hP hD hS => ?_)
    have e3 : preW (hs.map Prod.snd) k = hs[k].2 := by unfold preW; rw [List.getElem?_map, List.getElem?_eq_getElem hlt]; rfl
    have e4 : putAt hs k (hs[k].1, u) = hs.set k (hs[k].1, u) := by unfold putAt; rw [if_pos hlt]
    have e5 : putAt hs k (hs[k].1, u) ++ es = hs.take k ++ (hs[k].1, u) :: (hs.drop (k + 1) ++ es) := by rw [e4, set_at hlt, List.append_assoc]; rfl
    have e6 : rowsF (putAt hs k (hs[k].1, u)) = rowsF hs := by rw [e4, rowsF_set hlt]
    have hP : va_P G.1 vwCl (xW G.2 a v (rowsF (putAt hs k (hs[k].1, u))) S (putAt hs k (hs[k].1, u) ++ es)) H := by rw [e5, e6]; exact hP
    have hD : va_D A (xW G.2 a v (rowsF (putAt hs k (hs[k].1, u))) S (putAt hs k (hs[k].1, u) ++ es)) := by rw [e5, e6]; exact hD
    exact W.vret hx hb hr (fun t ht hW => ⟨⟨(hs[k].1, u), rfl, by rw [e3]; exact hw, by rw [ht]; exact hP, hD⟩, hS.F ht⟩) hS.2.2 dX2_prepare_37
  · have hke : k = hs.length := by omega
    have e1 : rowsF hs k = none := by unfold rowsF; rw [List.getElem?_eq_none (by omega)]; rfl
    rw [e1]
    refine lv_astore_nN (lv' := [(2, .null), (0, .ref (a 19)), (1, .ref (a 0))]) hx hb dX2_prepare_9 rfl hl (by decide) rfl (fun ls hl => ?_)
    refine lv_aload_nN hx hb dX2_prepare_10 rfl (lv_at hl 0 rfl) ?_
    refine lv_ifnonnullN hx hb dX2_prepare_11 ?_
    refine va_new (ci := 0) (fs := [.null, .int 0, .null, .null]) (C := RX0) (T := TX0) (N := 4) hx hb hts hinX0 tyX0 tyX0_ok hown (hts (.classLink RX2 9 RX0) (by decide +kernel)) (hts (.instantiable RX0 4) (by decide +kernel)) (hts (.initialized RX0) (by decide +kernel)) hK hP hD hS hA rfl (fun j hj => by rcases (show j = 0 ∨ j = 1 ∨ j = 2 ∨ j = 3 by omega) with rfl | rfl | rfl | rfl <;> rfl) (Nat.le_of_ble_eq_true rfl) (Nat.le_of_ble_eq_true rfl) dX2_prepare_14 (fun q H hP hD hS => ?_)
    refine lv_dup hx hb dX2_prepare_17 rfl ?_
    have hpm : (xW G.2 a v (rowsF hs) S (hs ++ es) ++ ([(q, .inr (0, [.null, .int 0, .null, .null]))] : va_W)).Perm (([(q, .inr (0, [.null, .int 0, .null, .null]))] : va_W) ++ xW G.2 a v (rowsF hs) S (hs ++ es)) := List.perm_append_comm
    have hPc := va_P_left (va_P_perm hP hpm)
    have hDc := va_D_left (va_D_perm hD hpm)
    refine cwvP (w1 := fun u => deskC G.2 u iv_X0_init) (ws1 := fun u => deskC G.2 u iv_X0_init ++ xW G.2 a v (rowsF hs) S (hs ++ es)) (va_runIN (As := []) (rest := [.ref q]) ⟨hx, hb, hml, hown, hts⟩ (ok_X0_init l G q _) ⟨va_cnB 0 hts gX2_prepare_X0_init_n21 rfl rfl rfl (hamb.2.1 (.methodLinkNest RX2 21 yX0_init RX6) (List.mem_of_getElem? (i := 6) rfl)) (hts (.initialized RX0) (by decide +kernel)) (by decide +kernel) ⟨Nat.le_of_ble_eq_true rfl, Nat.le_of_ble_eq_true rfl⟩, rfl, hts (.instanceMethod yX0_init) (by decide +kernel)⟩ ⟨pcW_blind, pcW_pre hPc hDc hamb⟩ rfl rfl hl.1 rfl (lv_room (Nat.le_of_ble_eq_true rfl)) dX2_prepare_18 ⟨Nat.le_of_ble_eq_true rfl, Nat.le_of_ble_eq_true rfl⟩) hP hD hS hA hpm (fun _ => List.Perm.refl _) (fun u H locs hw hP hD hS => ?_)
    rw [← hw]
    refine lv_astore_n (lv' := [(2, .ref (u 0)), (0, .ref (a 19)), (1, .ref (a 0))]) hx hb dX2_prepare_21 rfl hl (by decide) rfl (fun ls hl => ?_)
    refine lv_aload_n hx hb dX2_prepare_22 rfl (lv_at hl 1 rfl) ?_
    refine va_get (D := G.1) (ci := 2) (v := .ref (a 20)) (C := RX2) (T := TX2) (N := 2) hx hb hts hinX2 hown hK hP 35 rfl rfl 0 (by decide) lk11 (fun _ h9 => h9) rfl dX2_prepare_23 ?_
    refine lv_aload_n hx hb dX2_prepare_26 rfl (lv_at hl 1 rfl) ?_
    refine va_get (D := G.1) (ci := 2) (v := .int (v 22 0)) (C := RX2) (T := TX2) (N := 2) hx hb hts hinX2 hown hK hP 35 rfl rfl 1 (by decide) lk17 (fun _ h9 => h9) rfl dX2_prepare_27 ?_
    rw [hk]
    refine lv_aload_n hx hb dX2_prepare_30 rfl (lv_at hl 0 rfl) ?_
    refine va_astq (f := rowsF hs) (r := (RX0, TX0, 4)) hx hb hK hP hD hS 36 3 0 0 rfl rfl rfl rfl hin dX2_prepare_31 (fun H locs hP hD hS => ?_)
    rw [hck] at hP hD
    have hP : va_P G.1 vwCl (deskC G.2 u iv_X0_init ++ xW G.2 a v (va_up (rowsF hs) k (some (u 0))) S (hs ++ es)) H := hP
    have hD : va_D A (deskC G.2 u iv_X0_init ++ xW G.2 a v (va_up (rowsF hs) k (some (u 0))) S (hs ++ es)) := hD
    refine lv_aload_n hx hb dX2_prepare_32 rfl (lv_at hl 0 rfl) ?_
    refine lv_aload_n hx hb dX2_prepare_33 rfl (lv_at hl 2 rfl) ?_
    have hpm : (deskC G.2 u iv_X0_init ++ xW G.2 a v (va_up (rowsF hs) k (some (u 0))) S (hs ++ es)).Perm ((deskC G.2 u iv_X0_init ++ deskC G.2 a v) ++ xR G.2 a v (va_up (rowsF hs) k (some (u 0))) S (deskL G.2 (hs ++ es))) := by
      rw [List.append_assoc]
      exact List.Perm.append_left _ (xW_desk _ _ _ _ _ _)
    have hPc := va_P_left (va_P_perm hP hpm)
    have hDc := va_D_left (va_D_perm hD hpm)
    refine cwvP (w1 := fun x => deskC G.2 u x ++ deskC G.2 a v) (ws1 := fun x => xW G.2 a v (va_up (rowsF hs) k (some (u 0))) S ((hs ++ [(u, x)]) ++ es)) (va_runV (As := [.ref (a 0)]) (rest := []) ⟨hx, hb, hml, hown, hts⟩ (ok_X0_copyFrom l G u a _ iv_X0_init v (hcp _)) (cwV 1 hts gX2_prepare_X0_copyFrom rfl rfl rfl (by decide +kernel) ⟨Nat.le_of_ble_eq_true rfl, Nat.le_of_ble_eq_true rfl⟩) ⟨pcW_blind, va_recv hK hPc (ci := 0) (q0 := 0) rfl rfl, pcW_pre hPc hDc hamb⟩ rfl rfl hl.1 rfl (lv_room (Nat.le_of_ble_eq_true rfl)) dX2_prepare_34 ⟨Nat.le_of_ble_eq_true rfl, Nat.le_of_ble_eq_true rfl⟩) hP hD hS hA hpm (fun x => xW_new _ _ _ _ _ _ _ _ _) (fun x H locs hw2 hP hD hS => ?_)
    have e3 : preW (hs.map Prod.snd) k = iv_X0_init := by unfold preW; rw [List.getElem?_eq_none (by rw [List.length_map]; omega)]; rfl
    have e4 : putAt hs k (u, x) = hs ++ [(u, x)] := by unfold putAt; rw [if_neg hlt]
    have e6 : rowsF (putAt hs k (u, x)) = va_up (rowsF hs) k (some (u 0)) := by rw [e4, ← rowsF_push, hke]
    have hP : va_P G.1 vwCl (xW G.2 a v (rowsF (putAt hs k (u, x))) S (putAt hs k (u, x) ++ es)) H := by rw [e6, e4]; exact hP
    have hD : va_D A (xW G.2 a v (rowsF (putAt hs k (u, x))) S (putAt hs k (u, x) ++ es)) := by rw [e6, e4]; exact hD
    exact W.vret hx hb hr (fun t ht hW => ⟨⟨(u, x), rfl, by rw [e3]; exact hw2, by rw [ht]; exact hP, hD⟩, hS.F ht⟩) hS.2.2 dX2_prepare_37
