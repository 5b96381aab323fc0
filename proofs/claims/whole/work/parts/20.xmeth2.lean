
abbrev pks : List Nat := [15, 16, 17, 18, 19, 20, 21]
def xP (g : Nat → ClassId) (a : Nat → Nat) (v : DV) (R S : Nat → Option Nat) (T : va_W) : va_W := xA g a v ++ (deskC g a v ++ (xH a v ++ (xArr g a R S ++ T)))
theorem xW_pad (g : Nat → ClassId) (a : Nat → Nat) (v : DV) (R S : Nat → Option Nat) (ds : List HD) : (xW g a v R S ds).Perm (padC g a v ++ xP g a v R S (deskL g ds)) := by
  have h := segp [xA g a v, deskC g a v, padC g a v, xH a v, xArr g a R S, deskL g ds] 6 [2, 0, 1, 3, 4, 5] rfl (by decide)
  simpa [xW, xP, xcoreC_eq, List.append_assoc] using h
theorem xW_pad' (g : Nat → ClassId) (a : Nat → Nat) (v u : DV) (R S : Nat → Option Nat) (ds : List HD) : (padC g a u ++ xP g a v R S (deskL g ds)).Perm (xW g a (mx pks v u) R S ds) := by
  have h := (xW_pad g a (mx pks v u) R S ds).symm
  exact h
theorem xW_cons (g : Nat → ClassId) (a : Nat → Nat) (v : DV) (R S : Nat → Option Nat) (d : HD) (ds : List HD) : ((deskC g d.1 d.2 ++ deskC g a v) ++ xR g a v R S (deskL g ds)).Perm (xW g a v R S (d :: ds)) := by
  have h := (xW_split g a v R S [] ds d).symm
  exact h
def slotF (sl : Nat → Option HD) : Nat → Option Nat := fun i => (sl i).map (fun d => d.1 0)
def esF (sl : Nat → Option HD) : List HD := (sl 0).toList ++ (sl 1).toList
theorem va_up_s {α : Type} (f : Nat → α) (k : Nat) (x : α) : va_up f k x k = x := by simp [va_up]
theorem va_up_o {α : Type} (f : Nat → α) {k j : Nat} (x : α) (h : j ≠ k) : va_up f k x j = f j := by simp [va_up, h]
theorem slot_split (hs : List HD) {sl : Nat → Option HD} {j : Nat} {d : HD} (hj : j < 2) (h : sl j = some d) : ∃ l1 l2, hs ++ esF sl = l1 ++ d :: l2 ∧ ∀ x, hs ++ esF (va_up sl j (some x)) = l1 ++ x :: l2 := by
  rcases (show j = 0 ∨ j = 1 by omega) with rfl | rfl
  · refine ⟨hs, (sl 1).toList, ?_, fun x => ?_⟩
    · unfold esF; rw [h]; rfl
    · unfold esF; rw [va_up_s, va_up_o _ _ (by decide)]; rfl
  · refine ⟨hs ++ (sl 0).toList, [], ?_, fun x => ?_⟩
    · unfold esF; rw [h, List.append_assoc]; rfl
    · unfold esF; rw [va_up_s, va_up_o _ _ (by decide), List.append_assoc]; rfl
theorem slot_push (hs : List HD) {sl : Nat → Option HD} {j : Nat} (hj : j < 2) (h : sl j = none) (x : HD) : (x :: (hs ++ esF sl)).Perm (hs ++ esF (va_up sl j (some x))) := by
  rcases (show j = 0 ∨ j = 1 by omega) with rfl | rfl
  · unfold esF; rw [h, va_up_s, va_up_o _ _ (by decide)]
    exact List.perm_middle.symm
  · unfold esF; rw [h, va_up_s, va_up_o _ _ (by decide)]
    have h1 : hs ++ ((sl 0).toList ++ (none : Option HD).toList) = hs ++ (sl 0).toList := by simp
    rw [h1]
    have h2 : hs ++ ((sl 0).toList ++ (some x).toList) = (hs ++ (sl 0).toList) ++ [x] := by simp [List.append_assoc]
    rw [h2]
    exact (List.perm_append_comm (l₁ := [x]) (l₂ := hs ++ (sl 0).toList))
theorem slotF_set {sl : Nat → Option HD} {j : Nat} {d : HD} (h : sl j = some d) (x : DV) : slotF (va_up sl j (some (d.1, x))) = slotF sl := by
  funext i
  unfold slotF
  by_cases hi : i = j
  · subst hi; rw [va_up_s, h]; rfl
  · rw [va_up_o _ _ hi]
theorem slotF_push (sl : Nat → Option HD) (j : Nat) (d : HD) : va_up (slotF sl) j (some (d.1 0)) = slotF (va_up sl j (some d)) := by
  funext i
  unfold slotF
  by_cases hi : i = j
  · subst hi; rw [va_up_s, va_up_s]; rfl
  · rw [va_up_o _ _ hi, va_up_o _ _ hi]
def valS (sl : Nat → Option HD) : Nat → Option DV := fun i => (sl i).map Prod.snd
def coF (n : Nat) (k : Nat) (v : DV) (l : List DV) : Option (Int32 × DV × List DV) :=
  bd2 (f_X4_faultIndex n v) (fun r4 v4 => if r4 = -6 then bd1 (f_X0_copyFrom (preW l k) (mx pks v v4)) (fun x => bd2 (f_X6_carryOutOrders n (mx pks v v4)) (fun r27 v27 => some (r27, recV (vs v27 16 (fun _ => 0)) k r27, recL k r27 (putAt l k x)))) else some (-3, mx pks v v4, l))
def saveR (v : DV) (sl : Nat → Option HD) (p1 r : Int32) (u : Nat → Option HD) : Prop :=
  if p1 < 0 ∨ ¬ p1 < 2 then r = -2 ∧ u = sl else ∃ (x : DV) (ad : Nat → Nat), f_X0_copyFrom ((valS sl p1.toNatClampNeg).getD iv_X0_init) v = some x ∧ r = v 1 0 ∧ u = va_up sl p1.toNatClampNeg (some (ad, x))
def restR (k : Nat) (v : DV) (l : List DV) (sv : Nat → Option DV) (p1 r : Int32) (u : DV) (lu : List DV) : Prop :=
  if p1 < 0 ∨ ¬ p1 < 2 then r = -2 ∧ u = v ∧ lu = l else
    match sv p1.toNatClampNeg with
    | none => r = -5 ∧ u = v ∧ lu = l
    | some w => ∃ x y, f_X0_copyFrom (preW l k) v = some x ∧ f_X0_copyFrom v w = some y ∧ r = (mx dks v y) 1 0 ∧ u = recV (mx dks v y) k r ∧ lu = recL k r (putAt l k x)
set_option maxHeartbeats 4000000 in
set_option maxRecDepth 100000 in
theorem ok_X6_carryOut (l : Launch) (G : Gt) (a : Nat → Nat) (sz : Nat) (n0 : Nat) (v : DV) (hs es : List HD) (S : Nat → Option Nat) (k : Nat) (hk : v 22 0 = nI k) (hk6 : k ≤ 6) (hkl : k ≤ hs.length) (h7 : hs.length ≤ 7) (hcp : ∀ w u, f_X0_copyFrom w u ≠ none) (hne : coF n0 k v (hs.map Prod.snd) ≠ none) (hkp : ∀ r4 v4 r v', f_X4_faultIndex n0 v = some (r4, v4) → f_X6_carryOutOrders n0 (mx pks v v4) = some (r, v') → v' 22 0 = v 22 0) : Met l yX6_carryOut wsX6_carryOut ({ frames := 6, cells := 15, slots := 253, locals := 153 } : Room) (pcW G [.ref (a 21)] (xW G.2 a v (rowsF hs) S (hs ++ es)) sz) (va_Qi (fun r (u : DV × List HD) => coF n0 k v (hs.map Prod.snd) = some (r, u.1, u.2.map Prod.snd)) (fun u t => atW G (xW G.2 a u.1 (rowsF u.2) S (u.2 ++ es)) (va_A (xW G.2 a v (rowsF hs) S (hs ++ es)) sz) t) (va_A (xW G.2 a v (rowsF hs) S (hs ++ es)) sz)) 15 253 (va_A (xW G.2 a v (rowsF hs) S (hs ++ es)) sz) := by
  refine Met.ofW (cc := cX6_carryOut) (maxL := 2) (ret := (some .int)) (by decide) rfl ?_
  intro p e s m args below meth c s₁ B hml hv
  obtain ⟨rfl, hsz, hP, hD0, hamb⟩ := hv
  have hx := B.exec
  have hb := B.bytes
  have hr := B.returns
  have hts := atoms_spec (ws := wsX6_carryOut) B.pre
  have hown : s.vm.findClass RX6 = some m.cls := findClass_of_methodNamed B.named
  have hlocks := B.notSynchronized
  have hK := hamb.1
  subst hsz
  have hD := hD0.self (sz := s.heap.size)
  generalize hAe : va_A (xW G.2 a v (rowsF hs) S (hs ++ es)) s.heap.size = A at hD ⊢
  have hA : ∀ q : Nat, s.heap.size ≤ q → A q := fun q h => by rw [← hAe]; exact Or.inr h
  have hS : va_S A s.heap s.heap [] := va_S.rf
  have hinX6 : ∀ w ∈ u_ws RX6 TX6 5, w ∈ wsX6_carryOut := by decide +kernel
  have hinX4 : ∀ w ∈ u_ws RX4 TX4 7, w ∈ wsX6_carryOut := by decide +kernel
  have lk26 := hts (.fieldLink RX6 26 "MoodDrawers" "pad" "LMoodDrawers$Pad;") (by decide +kernel)
  have lk33 := hts (.fieldLink RX6 33 "MoodDrawers" "history" "LMoodDrawers$History;") (by decide +kernel)
  have lk10 := hts (.fieldLink RX6 10 "MoodDrawers" "desk" "LMoodDrawers$Desk;") (by decide +kernel)
  have lk177 := hts (.fieldLink RX6 177 "MoodDrawers$Pad" "length" "I") (by decide +kernel)
  have hl := lv_entry ([.ref (a 21)]) (n := 2) (Nat.le_of_ble_eq_true rfl)
  rw [lg_entry_eq]
  generalize (lg_sl ([.ref (a 21)]) ++ List.replicate (2 - (lg_sl ([.ref (a 21)])).length) Slot.unset).toArray = ls at hl ⊢
  have hl : lv_has ls 2 [(0, .ref (a 21))] := hl
  have hl : lv_has ls 2 [(0, .ref (a 21))] := hl
  obtain ⟨res, hf0⟩ : ∃ res, coF n0 k v (hs.map Prod.snd) = res := ⟨_, rfl⟩
  have hne : res ≠ none := hf0 ▸ hne
  have hf := hf0
  unfold coF at hf
  refine lv_aload_n hx hb dX6_carryOut_0 rfl (lv_at hl 0 rfl) ?_
  refine va_get (D := G.1) (ci := 6) (v := .ref (a 17)) (C := RX6) (T := TX6) (N := 5) hx hb hts hinX6 hown hK hP 0 rfl rfl 2 (by decide) lk26 (fun _ h9 => h9) rfl dX6_carryOut_1 ?_
  have hpm := xW_pad G.2 a v (rowsF hs) S (hs ++ es)
  have hPc := va_P_left (va_P_perm hP hpm)
  have hDc := va_D_left (va_D_perm hD hpm)
  have hn := bd2_1 hf hne
  refine cwiP (w1 := fun u1 => padC G.2 a u1) (ws1 := fun u1 => xW G.2 a (mx pks v u1) (rowsF hs) S (hs ++ es)) (va_runV (As := []) (rest := []) ⟨hx, hb, hml, hown, hts⟩ (ok_X4_faultIndex l G a _ n0 v hn) (cwV 0 hts gX6_carryOut_X4_faultIndex rfl rfl rfl (by decide +kernel) ⟨Nat.le_of_ble_eq_true rfl, Nat.le_of_ble_eq_true rfl⟩) ⟨pcW_blind, va_recv hK hPc (ci := 4) (q0 := 0) rfl rfl, pcW_pre hPc hDc hamb⟩ rfl rfl hl.1 rfl (lv_room (Nat.le_of_ble_eq_true rfl)) dX6_carryOut_4 ⟨Nat.le_of_ble_eq_true rfl, Nat.le_of_ble_eq_true rfl⟩) hP hD hS hA hpm (fun u1 => xW_pad' _ _ _ u1 _ _ _) (fun r4 v4 H locs hw4 hP hD hS => ?_)
  have hf := bd2_2 hf hw4
  refine lv_bipush (v := -6) hx hb dX6_carryOut_7 (by decide) ?_
  refine lv_icmp_eq (tgt := 15) hx hb dX6_carryOut_9 (by decide) (fun c9 => ?_) (fun c9 => ?_)
  · have hf := it_1 hf c9
    have hn := bd1_1 hf hne
    refine lv_aload_n hx hb dX6_carryOut_15 rfl (lv_at hl 0 rfl) ?_
    refine va_get (D := G.1) (ci := 6) (v := .ref (a 19)) (C := RX6) (T := TX6) (N := 5) hx hb hts hinX6 hown hK hP 0 rfl rfl 3 (by decide) lk33 (fun _ h9 => h9) rfl dX6_carryOut_16 ?_
    refine lv_aload_n hx hb dX6_carryOut_19 rfl (lv_at hl 0 rfl) ?_
    refine va_get (D := G.1) (ci := 6) (v := .ref (a 0)) (C := RX6) (T := TX6) (N := 5) hx hb hts hinX6 hown hK hP 0 rfl rfl 0 (by decide) lk10 (fun _ h9 => h9) rfl dX6_carryOut_20 ?_
    refine W.widen (k := 0) (n := 0) (Nat.le_of_ble_eq_true rfl) (Nat.le_of_ble_eq_true rfl) ?_
    refine cwvP (wr := []) (w1 := fun u : HD => xW G.2 a (mx pks v v4) (rowsF (putAt hs k u)) S (putAt hs k u ++ es)) (ws1 := fun u : HD => xW G.2 a (mx pks v v4) (rowsF (putAt hs k u)) S (putAt hs k u ++ es)) (va_runV (As := [.ref (a 0)]) (rest := []) ⟨hx, hb, hml, hown, hts⟩ (ok_X2_prepare l G a _ (mx pks v v4) hs es S k (show (mx pks v v4) 22 0 = nI k from hk) hk6 hkl (fun w => hcp w _)) (cwV 1 hts gX6_carryOut_X2_prepare rfl rfl rfl (by decide +kernel) ⟨Nat.le_of_ble_eq_true rfl, Nat.le_of_ble_eq_true rfl⟩) ⟨pcW_blind, va_recv hK hP (ci := 2) (q0 := 20) rfl rfl, pcW_pre hP hD hamb⟩ rfl rfl hl.1 rfl (lv_room (Nat.le_of_ble_eq_true rfl)) dX6_carryOut_23 ⟨Nat.le_of_ble_eq_true rfl, Nat.le_of_ble_eq_true rfl⟩) hP hD hS hA (by simp) (fun _ => by simp) (fun u H locs hu hP hD hS => ?_)
    have hf := bd1_2 hf hu
    have hn := bd2_1 hf hne
    refine lv_aload_n hx hb dX6_carryOut_26 rfl (lv_at hl 0 rfl) ?_
    have hPc := va_P_left (w1 := xcoreC G.2 a (mx pks v v4)) (w2 := xArr G.2 a (rowsF (putAt hs k u)) S ++ deskL G.2 (putAt hs k u ++ es)) hP
    have hDc := va_D_left (w1 := xcoreC G.2 a (mx pks v v4)) (w2 := xArr G.2 a (rowsF (putAt hs k u)) S ++ deskL G.2 (putAt hs k u ++ es)) hD
    refine cwiP (wr := xArr G.2 a (rowsF (putAt hs k u)) S ++ deskL G.2 (putAt hs k u ++ es)) (w1 := fun u1 => xcoreC G.2 a u1) (ws1 := fun u1 => xW G.2 a u1 (rowsF (putAt hs k u)) S (putAt hs k u ++ es)) (va_runV (As := []) (rest := []) ⟨hx, hb, hml, hown, hts⟩ (ok_X6_carryOutOrders l G a _ n0 (mx pks v v4) hn) (cwV 0 hts gX6_carryOut_X6_carryOutOrders rfl rfl rfl (by decide +kernel) ⟨Nat.le_of_ble_eq_true rfl, Nat.le_of_ble_eq_true rfl⟩) ⟨pcW_blind, va_recv hK hPc (ci := 6) (q0 := 0) rfl rfl, pcW_pre hPc hDc hamb⟩ rfl rfl hl.1 rfl (lv_room (Nat.le_of_ble_eq_true rfl)) dX6_carryOut_27 ⟨Nat.le_of_ble_eq_true rfl, Nat.le_of_ble_eq_true rfl⟩) hP hD hS hA (List.Perm.refl _) (fun _ => List.Perm.refl _) (fun r v27 H locs hw27 hP hD hS => ?_)
    have hf := bd2_2 hf hw27
    have hk27 : v27 22 0 = nI k := (hkp r4 v4 r v27 hw4 hw27).trans hk
    refine lv_istore_n (lv' := [(1, .int r), (0, .ref (a 21))]) hx hb dX6_carryOut_30 rfl hl (by decide) rfl (fun ls hl => ?_)
    refine lv_aload_n hx hb dX6_carryOut_31 rfl (lv_at hl 1 rfl) ?_
    refine va_get (D := G.1) (ci := 6) (v := .ref (a 17)) (C := RX6) (T := TX6) (N := 5) hx hb hts hinX6 hown hK hP 0 rfl rfl 2 (by decide) lk26 (fun _ h9 => h9) rfl dX6_carryOut_32 ?_
    refine lv_iconst (v := 0) hx hb dX6_carryOut_35 (by decide) ?_
    refine va_put (D := G.1) (ci := 4) (v := .int 0) (ty := .int) (C := RX4) (T := TX4) (N := 7) hx hb hts hinX4 tyX4 tyX4_ok nmX4 hown hK hP hD hS 18 rfl rfl 1 (by decide) lk177 (fun _ h9 => h9) rfl (by decide +kernel) rfl rfl (Nat.le_of_ble_eq_true rfl) dX6_carryOut_36 (fun H locs hP hD hS => ?_)
    have hP : va_P G.1 vwCl (xW G.2 a (vs v27 16 (fun _ => 0)) (rowsF (putAt hs k u)) S (putAt hs k u ++ es)) H := hP
    have hD : va_D A (xW G.2 a (vs v27 16 (fun _ => 0)) (rowsF (putAt hs k u)) S (putAt hs k u ++ es)) := hD
    refine lv_aload_n hx hb dX6_carryOut_39 rfl (lv_at hl 1 rfl) ?_
    refine lv_iload_n hx hb dX6_carryOut_40 rfl (lv_at hl 0 rfl) ?_
    refine cwiP (wr := []) (w1 := fun _ : Unit => xW G.2 a (recV (vs v27 16 (fun _ => 0)) k r) (rowsF (recL k r (putAt hs k u))) S (putAt hs k u ++ es)) (ws1 := fun _ : Unit => xW G.2 a (recV (vs v27 16 (fun _ => 0)) k r) (rowsF (recL k r (putAt hs k u))) S (recL k r (putAt hs k u) ++ es)) (va_runV (As := [.int r]) (rest := []) ⟨hx, hb, hml, hown, hts⟩ (ok_X6_recorded l G a _ (vs v27 16 (fun _ => 0)) (putAt hs k u) S (putAt hs k u ++ es) k (show (vs v27 16 (fun _ => 0)) 22 0 = nI k from hk27) hk6 (putAt_len u hkl h7) (fun d hd => List.mem_append_left _ hd) r) (cwV 1 hts gX6_carryOut_X6_recorded rfl rfl rfl (by decide +kernel) ⟨Nat.le_of_ble_eq_true rfl, Nat.le_of_ble_eq_true rfl⟩) ⟨pcW_blind, va_recv hK hP (ci := 6) (q0 := 0) rfl rfl, pcW_pre hP hD hamb⟩ rfl rfl hl.1 rfl (lv_room (Nat.le_of_ble_eq_true rfl)) dX6_carryOut_41 ⟨Nat.le_of_ble_eq_true rfl, Nat.le_of_ble_eq_true rfl⟩) hP hD hS hA (by simp) (fun _ => by rw [List.append_nil]; exact xW_perm _ _ _ _ _ ((recL_perm k r _).append_right _)) (fun r2 _ H locs hw2 hP hD hS => ?_)
    subst hw2
    refine W.widen (k := 15) (n := 253) (Nat.le_of_ble_eq_true rfl) (Nat.le_of_ble_eq_true rfl) ?_
    have e1 : coF n0 k v (hs.map Prod.snd) = some (r2, recV (vs v27 16 (fun _ => 0)) k r2, (recL k r2 (putAt hs k u)).map Prod.snd) := by
      rw [hf0, ← hf, recL_map, putAt_map]
    exact W.iret (v := r2) hx hb hr (fun t ht hW => ⟨⟨r2, (recV (vs v27 16 (fun _ => 0)) k r2, recL k r2 (putAt hs k u)), rfl, e1, by rw [ht]; exact hP, hD⟩, hS.F ht⟩) hS.2.2 dX6_carryOut_44
  · have hf := it_2 hf c9
    refine lv_bipush (v := -3) hx hb dX6_carryOut_12 (by decide) ?_
    refine W.widen (k := 15) (n := 253) (Nat.le_of_ble_eq_true rfl) (Nat.le_of_ble_eq_true rfl) ?_
    exact W.iret (v := -3) hx hb hr (fun t ht hW => ⟨⟨-3, (mx pks v v4, hs), rfl, by rw [hf0, ← hf], by rw [ht]; exact hP, hD⟩, hS.F ht⟩) hS.2.2 dX6_carryOut_14
set_option maxHeartbeats 4000000 in
set_option maxRecDepth 100000 in
theorem ok_X6_undo (l : Launch) (G : Gt) (a : Nat → Nat) (sz : Nat) (v : DV) (hs es : List HD) (S : Nat → Option Nat) (k : Nat) (hk : v 22 0 = nI k) (hk6 : k ≤ 6) (hkl : k ≤ hs.length) (hcp : ∀ u w, f_X0_copyFrom u w ≠ none) : Met l yX6_undo wsX6_undo ({ frames := 5, cells := 0, slots := 0, locals := 125 } : Room) (pcW G [.ref (a 21)] (xW G.2 a v (rowsF hs) S (hs ++ es)) sz) (va_Qi (fun r (u : DV) => ∃ r1, takeR v (hs.map Prod.snd) k r1 u ∧ r = if r1 = 0 then -5 else u 22 0) (fun u t => atW G (xW G.2 a u (rowsF hs) S (hs ++ es)) (va_A (xW G.2 a v (rowsF hs) S (hs ++ es)) sz) t) (va_A (xW G.2 a v (rowsF hs) S (hs ++ es)) sz)) 0 0 (va_A (xW G.2 a v (rowsF hs) S (hs ++ es)) sz) := by
  refine Met.ofW (cc := cX6_undo) (maxL := 1) (ret := (some .int)) (by decide) rfl ?_
  intro p e s m args below meth c s₁ B hml hv
  obtain ⟨rfl, hsz, hP, hD0, hamb⟩ := hv
  have hx := B.exec
  have hb := B.bytes
  have hr := B.returns
  have hts := atoms_spec (ws := wsX6_undo) B.pre
  have hown : s.vm.findClass RX6 = some m.cls := findClass_of_methodNamed B.named
  have hlocks := B.notSynchronized
  have hK := hamb.1
  subst hsz
  have hD := hD0.self (sz := s.heap.size)
  generalize hAe : va_A (xW G.2 a v (rowsF hs) S (hs ++ es)) s.heap.size = A at hD ⊢
  have hA : ∀ q : Nat, s.heap.size ≤ q → A q := fun q h => by rw [← hAe]; exact Or.inr h
  have hS : va_S A s.heap s.heap [] := va_S.rf
  have hinX6 : ∀ w ∈ u_ws RX6 TX6 5, w ∈ wsX6_undo := by decide +kernel
  have hinX2 : ∀ w ∈ u_ws RX2 TX2 2, w ∈ wsX6_undo := by decide +kernel
  have lk33 := hts (.fieldLink RX6 33 "MoodDrawers" "history" "LMoodDrawers$History;") (by decide +kernel)
  have lk10 := hts (.fieldLink RX6 10 "MoodDrawers" "desk" "LMoodDrawers$Desk;") (by decide +kernel)
  have lk180 := hts (.fieldLink RX6 180 "MoodDrawers$History" "kept" "I") (by decide +kernel)
  have hl := lv_entry ([.ref (a 21)]) (n := 1) (Nat.le_of_ble_eq_true rfl)
  rw [lg_entry_eq]
  generalize (lg_sl ([.ref (a 21)]) ++ List.replicate (1 - (lg_sl ([.ref (a 21)])).length) Slot.unset).toArray = ls at hl ⊢
  have hl : lv_has ls 1 [(0, .ref (a 21))] := hl
  refine lv_aload_n hx hb dX6_undo_0 rfl (lv_at hl 0 rfl) ?_
  refine va_get (D := G.1) (ci := 6) (v := .ref (a 19)) (C := RX6) (T := TX6) (N := 5) hx hb hts hinX6 hown hK hP 0 rfl rfl 3 (by decide) lk33 (fun _ h9 => h9) rfl dX6_undo_1 ?_
  refine lv_aload_n hx hb dX6_undo_4 rfl (lv_at hl 0 rfl) ?_
  refine va_get (D := G.1) (ci := 6) (v := .ref (a 0)) (C := RX6) (T := TX6) (N := 5) hx hb hts hinX6 hown hK hP 0 rfl rfl 0 (by decide) lk10 (fun _ h9 => h9) rfl dX6_undo_5 ?_
  refine cwiP (wr := []) (w1 := fun u : DV => xW G.2 a u (rowsF hs) S (hs ++ es)) (ws1 := fun u : DV => xW G.2 a u (rowsF hs) S (hs ++ es)) (va_runV (As := [.ref (a 0)]) (rest := []) ⟨hx, hb, hml, hown, hts⟩ (ok_X2_takeBack l G a _ v hs es S k hk hk6 hkl hcp) (cwV 1 hts gX6_undo_X2_takeBack rfl rfl rfl (by decide +kernel) ⟨Nat.le_of_ble_eq_true rfl, Nat.le_of_ble_eq_true rfl⟩) ⟨pcW_blind, va_recv hK hP (ci := 2) (q0 := 20) rfl rfl, pcW_pre hP hD hamb⟩ rfl rfl hl.1 rfl (lv_room (Nat.le_of_ble_eq_true rfl)) dX6_undo_8 ⟨Nat.zero_le _, Nat.zero_le _⟩) hP hD hS hA (by simp) (fun _ => by simp) (fun r1 u H locs hw hP hD hS => ?_)
  refine lv_if_eq (tgt := 24) hx hb dX6_undo_11 (by decide) (fun c9 => ?_) (fun c9 => ?_)
  · refine lv_bipush (v := -5) hx hb dX6_undo_24 (by decide) ?_
    exact W.iret (v := -5) hx hb hr (fun t ht hW => ⟨⟨-5, u, rfl, ⟨r1, hw, by rw [if_pos c9]⟩, by rw [ht]; exact hP, hD⟩, hS.F ht⟩) hS.2.2 dX6_undo_26
  · refine lv_aload_n hx hb dX6_undo_14 rfl (lv_at hl 0 rfl) ?_
    refine va_get (D := G.1) (ci := 6) (v := .ref (a 19)) (C := RX6) (T := TX6) (N := 5) hx hb hts hinX6 hown hK hP 0 rfl rfl 3 (by decide) lk33 (fun _ h9 => h9) rfl dX6_undo_15 ?_
    refine va_get (D := G.1) (ci := 2) (v := .int (u 22 0)) (C := RX2) (T := TX2) (N := 2) hx hb hts hinX2 hown hK hP 20 rfl rfl 1 (by decide) lk180 (fun _ h9 => h9) rfl dX6_undo_18 ?_
    refine lv_goto (tgt := 26) hx hb dX6_undo_21 (by decide) ?_
    exact W.iret (v := u 22 0) hx hb hr (fun t ht hW => ⟨⟨u 22 0, u, rfl, ⟨r1, hw, by rw [if_neg c9]⟩, by rw [ht]; exact hP, hD⟩, hS.F ht⟩) hS.2.2 dX6_undo_26
theorem slot_ix {p : Int32} (h1 : ¬ p < 0) (h2 : p < 2) : ∃ j : Nat, j < 2 ∧ p = nI j := by
  obtain ⟨j, hj, e⟩ := nI_of h1
  subst e
  have := (nI_ltI hj (by decide : 2 < 2 ^ 31)).mp h2
  exact ⟨j, this, rfl⟩
set_option maxHeartbeats 4000000 in
set_option maxRecDepth 100000 in
theorem ok_X6_save (l : Launch) (G : Gt) (a : Nat → Nat) (sz : Nat) (v : DV) (hs : List HD) (sl : Nat → Option HD) (p1 : Int32) (hcp : ∀ u w, f_X0_copyFrom u w ≠ none) : Met l yX6_save wsX6_save ({ frames := 4, cells := 15, slots := 253, locals := 103 } : Room) (pcW G [.ref (a 21), .int p1] (xW G.2 a v (rowsF hs) (slotF sl) (hs ++ esF sl)) sz) (va_Qi (fun r (u : Nat → Option HD) => saveR v sl p1 r u) (fun u t => atW G (xW G.2 a v (rowsF hs) (slotF u) (hs ++ esF u)) (va_A (xW G.2 a v (rowsF hs) (slotF sl) (hs ++ esF sl)) sz) t) (va_A (xW G.2 a v (rowsF hs) (slotF sl) (hs ++ esF sl)) sz)) 15 253 (va_A (xW G.2 a v (rowsF hs) (slotF sl) (hs ++ esF sl)) sz) := by
  refine Met.ofW (cc := cX6_save) (maxL := 3) (ret := (some .int)) (by decide) rfl ?_
  intro p e s m args below meth c s₁ B hml hv
  obtain ⟨rfl, hsz, hP, hD0, hamb⟩ := hv
  have hx := B.exec
  have hb := B.bytes
  have hr := B.returns
  have hts := atoms_spec (ws := wsX6_save) B.pre
  have hown : s.vm.findClass RX6 = some m.cls := findClass_of_methodNamed B.named
  have hlocks := B.notSynchronized
  have hK := hamb.1
  subst hsz
  have hD := hD0.self (sz := s.heap.size)
  generalize hAe : va_A (xW G.2 a v (rowsF hs) (slotF sl) (hs ++ esF sl)) s.heap.size = A at hD ⊢
  have hA : ∀ q : Nat, s.heap.size ≤ q → A q := fun q h => by rw [← hAe]; exact Or.inr h
  have hS : va_S A s.heap s.heap [] := va_S.rf
  have hinX6 : ∀ w ∈ u_ws RX6 TX6 5, w ∈ wsX6_save := by decide +kernel
  have hinX0 : ∀ w ∈ u_ws RX0 TX0 4, w ∈ wsX6_save := by decide +kernel
  have hinX3 : ∀ w ∈ u_ws RX3 TX3 8, w ∈ wsX6_save := by decide +kernel
  have lk37 := hts (.fieldLink RX6 37 "MoodDrawers" "slots" "[LMoodDrawers$Desk;") (by decide +kernel)
  have lk10 := hts (.fieldLink RX6 10 "MoodDrawers" "desk" "LMoodDrawers$Desk;") (by decide +kernel)
  have lk75 := hts (.fieldLink RX6 75 "MoodDrawers$Desk" "letters" "LMoodDrawers$Letters;") (by decide +kernel)
  have lk161 := hts (.fieldLink RX6 161 "MoodDrawers$Letters" "written" "I") (by decide +kernel)
  have hl := lv_entry ([.ref (a 21), .int p1]) (n := 3) (Nat.le_of_ble_eq_true rfl)
  rw [lg_entry_eq]
  generalize (lg_sl ([.ref (a 21), .int p1]) ++ List.replicate (3 - (lg_sl ([.ref (a 21), .int p1])).length) Slot.unset).toArray = ls at hl ⊢
  have hl : lv_has ls 3 [(0, .ref (a 21)), (1, .int p1)] := hl
  refine lv_iload_n hx hb dX6_save_0 rfl (lv_at hl 1 rfl) ?_
  refine lv_if_lt (tgt := 9) hx hb dX6_save_1 (by decide) (fun c1 => ?_) (fun c1 => ?_)
  · refine lv_bipush (v := -2) hx hb dX6_save_9 (by decide) ?_
    refine W.widen (k := 15) (n := 253) (Nat.le_of_ble_eq_true rfl) (Nat.le_of_ble_eq_true rfl) ?_
    exact W.iret (v := -2) hx hb hr (fun t ht hW => ⟨⟨-2, sl, rfl, (show saveR v sl p1 (-2) sl by unfold saveR; rw [if_pos (Or.inl c1)]; exact ⟨rfl, rfl⟩), by rw [ht]; exact hP, hD⟩, hS.F ht⟩) hS.2.2 dX6_save_11
  refine lv_iload_n hx hb dX6_save_4 rfl (lv_at hl 1 rfl) ?_
  refine lv_iconst (v := 2) hx hb dX6_save_5 (by decide) ?_
  refine lv_icmp_lt (tgt := 12) hx hb dX6_save_6 (by decide) (fun c2 => ?_) (fun c2 => ?_)
  rotate_left
  · refine lv_bipush (v := -2) hx hb dX6_save_9 (by decide) ?_
    refine W.widen (k := 15) (n := 253) (Nat.le_of_ble_eq_true rfl) (Nat.le_of_ble_eq_true rfl) ?_
    exact W.iret (v := -2) hx hb hr (fun t ht hW => ⟨⟨-2, sl, rfl, (show saveR v sl p1 (-2) sl by unfold saveR; rw [if_pos (Or.inr c2)]; exact ⟨rfl, rfl⟩), by rw [ht]; exact hP, hD⟩, hS.F ht⟩) hS.2.2 dX6_save_11
  obtain ⟨j, hj, ej⟩ := slot_ix c1 c2
  have hcl : p1.toNatClampNeg = j := by rw [ej]; exact nI_clamp (by omega)
  have hin : vp_in p1 2 := by rw [ej]; exact vp_in_nI hj (by decide)
  have hb0 : ¬ (p1 < 0 ∨ ¬ p1 < 2) := fun h => h.elim c1 (fun h => h c2)
  refine lv_aload_n hx hb dX6_save_12 rfl (lv_at hl 0 rfl) ?_
  refine va_get (D := G.1) (ci := 6) (v := .ref (a 22)) (C := RX6) (T := TX6) (N := 5) hx hb hts hinX6 hown hK hP 0 rfl rfl 4 (by decide) lk37 (fun _ h9 => h9) rfl dX6_save_13 ?_
  refine lv_iload_n hx hb dX6_save_16 rfl (lv_at hl 1 rfl) ?_
  refine va_aldq (f := slotF sl) hx hb hK hP 22 3 rfl rfl hin dX6_save_17 ?_
  rw [hcl]
  cases hsj : sl j with
  | some d =>
    have e1 : slotF sl j = some (d.1 0) := by unfold slotF; rw [hsj]; rfl
    rw [e1]
    refine lv_astore_n (lv' := [(2, .ref (d.1 0)), (0, .ref (a 21)), (1, .int p1)]) hx hb dX6_save_18 rfl hl (by decide) rfl (fun ls hl => ?_)
    refine lv_aload_n hx hb dX6_save_19 rfl (lv_at hl 0 rfl) ?_
    refine lv_ifnonnull (tgt := 38) hx hb dX6_save_20 (by decide) ?_
    refine lv_aload_n hx hb dX6_save_38 rfl (lv_at hl 0 rfl) ?_
    refine lv_aload_n hx hb dX6_save_39 rfl (lv_at hl 1 rfl) ?_
    refine va_get (D := G.1) (ci := 6) (v := .ref (a 0)) (C := RX6) (T := TX6) (N := 5) hx hb hts hinX6 hown hK hP 0 rfl rfl 0 (by decide) lk10 (fun _ h9 => h9) rfl dX6_save_40 ?_
    obtain ⟨l1, l2, e2, e3⟩ := slot_split hs hj hsj
    rw [e2] at hP hD
    have hpm := xW_split G.2 a v (rowsF hs) (slotF sl) l1 l2 d
    have hPc := va_P_left (va_P_perm hP hpm)
    have hDc := va_D_left (va_D_perm hD hpm)
    refine W.widen (k := 15) (n := 253) (Nat.le_of_ble_eq_true rfl) (Nat.le_of_ble_eq_true rfl) ?_
    refine cwvP (w1 := fun u => deskC G.2 d.1 u ++ deskC G.2 a v) (ws1 := fun u => xW G.2 a v (rowsF hs) (slotF sl) (l1 ++ (d.1, u) :: l2)) (va_runV (As := [.ref (a 0)]) (rest := []) ⟨hx, hb, hml, hown, hts⟩ (ok_X0_copyFrom l G d.1 a _ d.2 v (hcp _ _)) (cwV 1 hts gX6_save_X0_copyFrom rfl rfl rfl (by decide +kernel) ⟨Nat.le_of_ble_eq_true rfl, Nat.le_of_ble_eq_true rfl⟩) ⟨pcW_blind, va_recv hK hPc (ci := 0) (q0 := 0) rfl rfl, pcW_pre hPc hDc hamb⟩ rfl rfl hl.1 rfl (lv_room (Nat.le_of_ble_eq_true rfl)) dX6_save_43 ⟨Nat.le_of_ble_eq_true rfl, Nat.le_of_ble_eq_true rfl⟩) hP hD hS hA hpm (fun u => (xW_split G.2 a v (rowsF hs) (slotF sl) l1 l2 (d.1, u)).symm) (fun u H locs hw hP hD hS => ?_)
    rw [← e3, ← slotF_set hsj u] at hP hD
    refine lv_aload_n hx hb dX6_save_46 rfl (lv_at hl 1 rfl) ?_
    refine va_get (D := G.1) (ci := 6) (v := .ref (a 0)) (C := RX6) (T := TX6) (N := 5) hx hb hts hinX6 hown hK hP 0 rfl rfl 0 (by decide) lk10 (fun _ h9 => h9) rfl dX6_save_47 ?_
    refine va_get (D := G.1) (ci := 0) (v := .ref (a 7)) (C := RX0) (T := TX0) (N := 4) hx hb hts hinX0 hown hK hP 3 rfl rfl 3 (by decide) lk75 (fun _ h9 => h9) rfl dX6_save_50 ?_
    refine va_get (D := G.1) (ci := 3) (v := .int (v 1 0)) (C := RX3) (T := TX3) (N := 8) hx hb hts hinX3 hown hK hP 10 rfl rfl 0 (by decide) lk161 (fun _ h9 => h9) rfl dX6_save_53 ?_
    have e4 : saveR v sl p1 (v 1 0) (va_up sl j (some (d.1, u))) := by
      unfold saveR
      rw [if_neg hb0, hcl]
      refine ⟨u, d.1, ?_, rfl, rfl⟩
      show f_X0_copyFrom (((sl j).map Prod.snd).getD iv_X0_init) v = some u
      rw [hsj]; exact hw
    exact W.iret (v := v 1 0) hx hb hr (fun t ht hW => ⟨⟨v 1 0, va_up sl j (some (d.1, u)), rfl, e4, by rw [ht]; exact hP, hD⟩, hS.F ht⟩) hS.2.2 dX6_save_56
  | none =>
    have e1 : slotF sl j = none := by unfold slotF; rw [hsj]; rfl
    rw [e1]
    refine lv_astore_nN (lv' := [(2, .null), (0, .ref (a 21)), (1, .int p1)]) hx hb dX6_save_18 rfl hl (by decide) rfl (fun ls hl => ?_)
    refine lv_aload_nN hx hb dX6_save_19 rfl (lv_at hl 0 rfl) ?_
    refine lv_ifnonnullN hx hb dX6_save_20 ?_
    refine va_new (ci := 0) (fs := [.null, .int 0, .null, .null]) (C := RX0) (T := TX0) (N := 4) hx hb hts hinX0 tyX0 tyX0_ok hown (hts (.classLink RX6 7 RX0) (by decide +kernel)) (hts (.instantiable RX0 4) (by decide +kernel)) (hts (.initialized RX0) (by decide +kernel)) hK hP hD hS hA rfl (fun j hj => by rcases (show j = 0 ∨ j = 1 ∨ j = 2 ∨ j = 3 by omega) with rfl | rfl | rfl | rfl <;> rfl) (Nat.le_of_ble_eq_true rfl) (Nat.le_of_ble_eq_true rfl) dX6_save_23 (fun q H hP hD hS => ?_)
    refine lv_dup hx hb dX6_save_26 rfl ?_
    have hpm : (xW G.2 a v (rowsF hs) (slotF sl) (hs ++ esF sl) ++ ([(q, .inr (0, [.null, .int 0, .null, .null]))] : va_W)).Perm (([(q, .inr (0, [.null, .int 0, .null, .null]))] : va_W) ++ xW G.2 a v (rowsF hs) (slotF sl) (hs ++ esF sl)) := List.perm_append_comm
    have hPc := va_P_left (va_P_perm hP hpm)
    have hDc := va_D_left (va_D_perm hD hpm)
    refine cwvP (w1 := fun u => deskC G.2 u iv_X0_init) (ws1 := fun u => deskC G.2 u iv_X0_init ++ xW G.2 a v (rowsF hs) (slotF sl) (hs ++ esF sl)) (va_runIN (As := []) (rest := [.ref q]) ⟨hx, hb, hml, hown, hts⟩ (ok_X0_init l G q _) ⟨va_cnB 0 hts gX6_save_X0_init_n9 rfl rfl rfl (hamb.2.1 (.methodLinkNest RX6 9 yX0_init RX6) (List.mem_of_getElem? (i := 0) rfl)) (hts (.initialized RX0) (by decide +kernel)) (by decide +kernel) ⟨Nat.le_of_ble_eq_true rfl, Nat.le_of_ble_eq_true rfl⟩, rfl, hts (.instanceMethod yX0_init) (by decide +kernel)⟩ ⟨pcW_blind, pcW_pre hPc hDc hamb⟩ rfl rfl hl.1 rfl (lv_room (Nat.le_of_ble_eq_true rfl)) dX6_save_27 ⟨Nat.le_of_ble_eq_true rfl, Nat.le_of_ble_eq_true rfl⟩) hP hD hS hA hpm (fun _ => List.Perm.refl _) (fun u H locs hw hP hD hS => ?_)
    rw [← hw]
    refine lv_astore_n (lv' := [(2, .ref (u 0)), (0, .ref (a 21)), (1, .int p1)]) hx hb dX6_save_30 rfl hl (by decide) rfl (fun ls hl => ?_)
    refine lv_aload_n hx hb dX6_save_31 rfl (lv_at hl 1 rfl) ?_
    refine va_get (D := G.1) (ci := 6) (v := .ref (a 22)) (C := RX6) (T := TX6) (N := 5) hx hb hts hinX6 hown hK hP 15 rfl rfl 4 (by decide) lk37 (fun _ h9 => h9) rfl dX6_save_32 ?_
    refine lv_iload_n hx hb dX6_save_35 rfl (lv_at hl 2 rfl) ?_
    refine lv_aload_n hx hb dX6_save_36 rfl (lv_at hl 0 rfl) ?_
    refine va_astq (f := slotF sl) (r := (RX0, TX0, 4)) hx hb hK hP hD hS 37 3 0 0 rfl rfl rfl rfl hin dX6_save_37 (fun H locs hP hD hS => ?_)
    rw [hcl] at hP hD
    have hP : va_P G.1 vwCl (deskC G.2 u iv_X0_init ++ xW G.2 a v (rowsF hs) (va_up (slotF sl) j (some (u 0))) (hs ++ esF sl)) H := hP
    have hD : va_D A (deskC G.2 u iv_X0_init ++ xW G.2 a v (rowsF hs) (va_up (slotF sl) j (some (u 0))) (hs ++ esF sl)) := hD
    refine lv_aload_n hx hb dX6_save_38 rfl (lv_at hl 0 rfl) ?_
    refine lv_aload_n hx hb dX6_save_39 rfl (lv_at hl 1 rfl) ?_
    refine va_get (D := G.1) (ci := 6) (v := .ref (a 0)) (C := RX6) (T := TX6) (N := 5) hx hb hts hinX6 hown hK hP 15 rfl rfl 0 (by decide) lk10 (fun _ h9 => h9) rfl dX6_save_40 ?_
    have hpm : (deskC G.2 u iv_X0_init ++ xW G.2 a v (rowsF hs) (va_up (slotF sl) j (some (u 0))) (hs ++ esF sl)).Perm ((deskC G.2 u iv_X0_init ++ deskC G.2 a v) ++ xR G.2 a v (rowsF hs) (va_up (slotF sl) j (some (u 0))) (deskL G.2 (hs ++ esF sl))) := by
      rw [List.append_assoc]
      exact List.Perm.append_left _ (xW_desk _ _ _ _ _ _)
    have hPc := va_P_left (va_P_perm hP hpm)
    have hDc := va_D_left (va_D_perm hD hpm)
    refine cwvP (w1 := fun x => deskC G.2 u x ++ deskC G.2 a v) (ws1 := fun x => xW G.2 a v (rowsF hs) (slotF (va_up sl j (some (u, x)))) (hs ++ esF (va_up sl j (some (u, x))))) (va_runV (As := [.ref (a 0)]) (rest := []) ⟨hx, hb, hml, hown, hts⟩ (ok_X0_copyFrom l G u a _ iv_X0_init v (hcp _ _)) (cwV 1 hts gX6_save_X0_copyFrom rfl rfl rfl (by decide +kernel) ⟨Nat.le_of_ble_eq_true rfl, Nat.le_of_ble_eq_true rfl⟩) ⟨pcW_blind, va_recv hK hPc (ci := 0) (q0 := 0) rfl rfl, pcW_pre hPc hDc hamb⟩ rfl rfl hl.1 rfl (lv_room (Nat.le_of_ble_eq_true rfl)) dX6_save_43 ⟨Nat.le_of_ble_eq_true rfl, Nat.le_of_ble_eq_true rfl⟩) hP hD hS hA hpm (fun x => by
        rw [← slotF_push sl j (u, x)]
        exact (xW_cons G.2 a v (rowsF hs) _ (u, x) (hs ++ esF sl)).trans (xW_perm _ _ _ _ _ (slot_push hs hj hsj (u, x)))) (fun x H locs hw2 hP hD hS => ?_)
    refine lv_aload_n hx hb dX6_save_46 rfl (lv_at hl 1 rfl) ?_
    refine va_get (D := G.1) (ci := 6) (v := .ref (a 0)) (C := RX6) (T := TX6) (N := 5) hx hb hts hinX6 hown hK hP 0 rfl rfl 0 (by decide) lk10 (fun _ h9 => h9) rfl dX6_save_47 ?_
    refine va_get (D := G.1) (ci := 0) (v := .ref (a 7)) (C := RX0) (T := TX0) (N := 4) hx hb hts hinX0 hown hK hP 3 rfl rfl 3 (by decide) lk75 (fun _ h9 => h9) rfl dX6_save_50 ?_
    refine va_get (D := G.1) (ci := 3) (v := .int (v 1 0)) (C := RX3) (T := TX3) (N := 8) hx hb hts hinX3 hown hK hP 10 rfl rfl 0 (by decide) lk161 (fun _ h9 => h9) rfl dX6_save_53 ?_
    refine W.widen (k := 15) (n := 253) (Nat.le_of_ble_eq_true rfl) (Nat.le_of_ble_eq_true rfl) ?_
    have e4 : saveR v sl p1 (v 1 0) (va_up sl j (some (u, x))) := by
      unfold saveR
      rw [if_neg hb0, hcl]
      refine ⟨x, u, ?_, rfl, rfl⟩
      show f_X0_copyFrom (((sl j).map Prod.snd).getD iv_X0_init) v = some x
      rw [hsj]; exact hw2
    exact W.iret (v := v 1 0) hx hb hr (fun t ht hW => ⟨⟨v 1 0, va_up sl j (some (u, x)), rfl, e4, by rw [ht]; exact hP, hD⟩, hS.F ht⟩) hS.2.2 dX6_save_56
set_option maxHeartbeats 4000000 in
set_option maxRecDepth 100000 in
theorem ok_X6_restore (l : Launch) (G : Gt) (a : Nat → Nat) (sz : Nat) (v : DV) (hs : List HD) (sl : Nat → Option HD) (k : Nat) (hk : v 22 0 = nI k) (hk6 : k ≤ 6) (hkl : k ≤ hs.length) (h7 : hs.length ≤ 7) (p1 : Int32) (hcp : ∀ u w, f_X0_copyFrom u w ≠ none) : Met l yX6_restore wsX6_restore ({ frames := 5, cells := 15, slots := 253, locals := 125 } : Room) (pcW G [.ref (a 21), .int p1] (xW G.2 a v (rowsF hs) (slotF sl) (hs ++ esF sl)) sz) (va_Qi (fun r (u : DV × List HD) => restR k v (hs.map Prod.snd) (valS sl) p1 r u.1 (u.2.map Prod.snd)) (fun u t => atW G (xW G.2 a u.1 (rowsF u.2) (slotF sl) (u.2 ++ esF sl)) (va_A (xW G.2 a v (rowsF hs) (slotF sl) (hs ++ esF sl)) sz) t) (va_A (xW G.2 a v (rowsF hs) (slotF sl) (hs ++ esF sl)) sz)) 15 253 (va_A (xW G.2 a v (rowsF hs) (slotF sl) (hs ++ esF sl)) sz) := by
  refine Met.ofW (cc := cX6_restore) (maxL := 3) (ret := (some .int)) (by decide) rfl ?_
  intro p e s m args below meth c s₁ B hml hv
  obtain ⟨rfl, hsz, hP, hD0, hamb⟩ := hv
  have hx := B.exec
  have hb := B.bytes
  have hr := B.returns
  have hts := atoms_spec (ws := wsX6_restore) B.pre
  have hown : s.vm.findClass RX6 = some m.cls := findClass_of_methodNamed B.named
  have hlocks := B.notSynchronized
  have hK := hamb.1
  subst hsz
  have hD := hD0.self (sz := s.heap.size)
  generalize hAe : va_A (xW G.2 a v (rowsF hs) (slotF sl) (hs ++ esF sl)) s.heap.size = A at hD ⊢
  have hA : ∀ q : Nat, s.heap.size ≤ q → A q := fun q h => by rw [← hAe]; exact Or.inr h
  have hS : va_S A s.heap s.heap [] := va_S.rf
  have hinX6 : ∀ w ∈ u_ws RX6 TX6 5, w ∈ wsX6_restore := by decide +kernel
  have hinX0 : ∀ w ∈ u_ws RX0 TX0 4, w ∈ wsX6_restore := by decide +kernel
  have hinX3 : ∀ w ∈ u_ws RX3 TX3 8, w ∈ wsX6_restore := by decide +kernel
  have lk37 := hts (.fieldLink RX6 37 "MoodDrawers" "slots" "[LMoodDrawers$Desk;") (by decide +kernel)
  have lk33 := hts (.fieldLink RX6 33 "MoodDrawers" "history" "LMoodDrawers$History;") (by decide +kernel)
  have lk10 := hts (.fieldLink RX6 10 "MoodDrawers" "desk" "LMoodDrawers$Desk;") (by decide +kernel)
  have lk75 := hts (.fieldLink RX6 75 "MoodDrawers$Desk" "letters" "LMoodDrawers$Letters;") (by decide +kernel)
  have lk161 := hts (.fieldLink RX6 161 "MoodDrawers$Letters" "written" "I") (by decide +kernel)
  have hl := lv_entry ([.ref (a 21), .int p1]) (n := 3) (Nat.le_of_ble_eq_true rfl)
  rw [lg_entry_eq]
  generalize (lg_sl ([.ref (a 21), .int p1]) ++ List.replicate (3 - (lg_sl ([.ref (a 21), .int p1])).length) Slot.unset).toArray = ls at hl ⊢
  have hl : lv_has ls 3 [(0, .ref (a 21)), (1, .int p1)] := hl
  refine lv_iload_n hx hb dX6_restore_0 rfl (lv_at hl 1 rfl) ?_
  refine lv_if_lt (tgt := 9) hx hb dX6_restore_1 (by decide) (fun c1 => ?_) (fun c1 => ?_)
  · refine lv_bipush (v := -2) hx hb dX6_restore_9 (by decide) ?_
    refine W.widen (k := 15) (n := 253) (Nat.le_of_ble_eq_true rfl) (Nat.le_of_ble_eq_true rfl) ?_
    exact W.iret (v := -2) hx hb hr (fun t ht hW => ⟨⟨-2, (v, hs), rfl, (show restR k v (hs.map Prod.snd) (valS sl) p1 (-2) v (hs.map Prod.snd) by unfold restR; rw [if_pos (Or.inl c1)]; exact ⟨rfl, rfl, rfl⟩), by rw [ht]; exact hP, hD⟩, hS.F ht⟩) hS.2.2 dX6_restore_11
  refine lv_iload_n hx hb dX6_restore_4 rfl (lv_at hl 1 rfl) ?_
  refine lv_iconst (v := 2) hx hb dX6_restore_5 (by decide) ?_
  refine lv_icmp_lt (tgt := 12) hx hb dX6_restore_6 (by decide) (fun c2 => ?_) (fun c2 => ?_)
  rotate_left
  · refine lv_bipush (v := -2) hx hb dX6_restore_9 (by decide) ?_
    refine W.widen (k := 15) (n := 253) (Nat.le_of_ble_eq_true rfl) (Nat.le_of_ble_eq_true rfl) ?_
    exact W.iret (v := -2) hx hb hr (fun t ht hW => ⟨⟨-2, (v, hs), rfl, (show restR k v (hs.map Prod.snd) (valS sl) p1 (-2) v (hs.map Prod.snd) by unfold restR; rw [if_pos (Or.inr c2)]; exact ⟨rfl, rfl, rfl⟩), by rw [ht]; exact hP, hD⟩, hS.F ht⟩) hS.2.2 dX6_restore_11
  obtain ⟨j, hj, ej⟩ := slot_ix c1 c2
  have hcl : p1.toNatClampNeg = j := by rw [ej]; exact nI_clamp (by omega)
  have hin : vp_in p1 2 := by rw [ej]; exact vp_in_nI hj (by decide)
  have hb0 : ¬ (p1 < 0 ∨ ¬ p1 < 2) := fun h => h.elim c1 (fun h => h c2)
  refine lv_aload_n hx hb dX6_restore_12 rfl (lv_at hl 0 rfl) ?_
  refine va_get (D := G.1) (ci := 6) (v := .ref (a 22)) (C := RX6) (T := TX6) (N := 5) hx hb hts hinX6 hown hK hP 0 rfl rfl 4 (by decide) lk37 (fun _ h9 => h9) rfl dX6_restore_13 ?_
  refine lv_iload_n hx hb dX6_restore_16 rfl (lv_at hl 1 rfl) ?_
  refine va_aldq (f := slotF sl) hx hb hK hP 22 3 rfl rfl hin dX6_restore_17 ?_
  rw [hcl]
  cases hsj : sl j with
  | none =>
    have e1 : slotF sl j = none := by unfold slotF; rw [hsj]; rfl
    rw [e1]
    refine lv_astore_nN (lv' := [(2, .null), (0, .ref (a 21)), (1, .int p1)]) hx hb dX6_restore_18 rfl hl (by decide) rfl (fun ls hl => ?_)
    refine lv_aload_nN hx hb dX6_restore_19 rfl (lv_at hl 0 rfl) ?_
    refine lv_ifnonnullN hx hb dX6_restore_20 ?_
    refine lv_bipush (v := -5) hx hb dX6_restore_23 (by decide) ?_
    refine W.widen (k := 15) (n := 253) (Nat.le_of_ble_eq_true rfl) (Nat.le_of_ble_eq_true rfl) ?_
    have e4 : restR k v (hs.map Prod.snd) (valS sl) p1 (-5) v (hs.map Prod.snd) := by
      have e5 : valS sl j = none := by unfold valS; rw [hsj]; rfl
      unfold restR
      rw [if_neg hb0, hcl, e5]
      exact ⟨rfl, rfl, rfl⟩
    exact W.iret (v := -5) hx hb hr (fun t ht hW => ⟨⟨-5, (v, hs), rfl, e4, by rw [ht]; exact hP, hD⟩, hS.F ht⟩) hS.2.2 dX6_restore_25
  | some d =>
    have e1 : slotF sl j = some (d.1 0) := by unfold slotF; rw [hsj]; rfl
    rw [e1]
    refine lv_astore_n (lv' := [(2, .ref (d.1 0)), (0, .ref (a 21)), (1, .int p1)]) hx hb dX6_restore_18 rfl hl (by decide) rfl (fun ls hl => ?_)
    refine lv_aload_n hx hb dX6_restore_19 rfl (lv_at hl 0 rfl) ?_
    refine lv_ifnonnull (tgt := 26) hx hb dX6_restore_20 (by decide) ?_
    refine lv_aload_n hx hb dX6_restore_26 rfl (lv_at hl 1 rfl) ?_
    refine va_get (D := G.1) (ci := 6) (v := .ref (a 19)) (C := RX6) (T := TX6) (N := 5) hx hb hts hinX6 hown hK hP 0 rfl rfl 3 (by decide) lk33 (fun _ h9 => h9) rfl dX6_restore_27 ?_
    refine lv_aload_n hx hb dX6_restore_30 rfl (lv_at hl 1 rfl) ?_
    refine va_get (D := G.1) (ci := 6) (v := .ref (a 0)) (C := RX6) (T := TX6) (N := 5) hx hb hts hinX6 hown hK hP 0 rfl rfl 0 (by decide) lk10 (fun _ h9 => h9) rfl dX6_restore_31 ?_
    refine W.widen (k := 0) (n := 0) (Nat.le_of_ble_eq_true rfl) (Nat.le_of_ble_eq_true rfl) ?_
    refine cwvP (wr := []) (w1 := fun u : HD => xW G.2 a v (rowsF (putAt hs k u)) (slotF sl) (putAt hs k u ++ esF sl)) (ws1 := fun u : HD => xW G.2 a v (rowsF (putAt hs k u)) (slotF sl) (putAt hs k u ++ esF sl)) (va_runV (As := [.ref (a 0)]) (rest := []) ⟨hx, hb, hml, hown, hts⟩ (ok_X2_prepare l G a _ v hs (esF sl) (slotF sl) k hk hk6 hkl (fun w => hcp w _)) (cwV 1 hts gX6_restore_X2_prepare rfl rfl rfl (by decide +kernel) ⟨Nat.le_of_ble_eq_true rfl, Nat.le_of_ble_eq_true rfl⟩) ⟨pcW_blind, va_recv hK hP (ci := 2) (q0 := 20) rfl rfl, pcW_pre hP hD hamb⟩ rfl rfl hl.1 rfl (lv_room (Nat.le_of_ble_eq_true rfl)) dX6_restore_34 ⟨Nat.le_of_ble_eq_true rfl, Nat.le_of_ble_eq_true rfl⟩) hP hD hS hA (by simp) (fun _ => by simp) (fun u H locs hu hP hD hS => ?_)
    refine lv_aload_n hx hb dX6_restore_37 rfl (lv_at hl 1 rfl) ?_
    refine va_get (D := G.1) (ci := 6) (v := .ref (a 0)) (C := RX6) (T := TX6) (N := 5) hx hb hts hinX6 hown hK hP 0 rfl rfl 0 (by decide) lk10 (fun _ h9 => h9) rfl dX6_restore_38 ?_
    refine lv_aload_n hx hb dX6_restore_41 rfl (lv_at hl 0 rfl) ?_
    obtain ⟨l1, l2, e2, e3⟩ := slot_split (putAt hs k u) hj hsj
    rw [e2] at hP hD
    have hpm := xW_split2 G.2 a v (rowsF (putAt hs k u)) (slotF sl) l1 l2 d
    have hPc := va_P_left (va_P_perm hP hpm)
    have hDc := va_D_left (va_D_perm hD hpm)
    refine cwvP (w1 := fun y => deskC G.2 a y ++ deskC G.2 d.1 d.2) (ws1 := fun y => xW G.2 a (mx dks v y) (rowsF (putAt hs k u)) (slotF sl) (l1 ++ d :: l2)) (va_runV (As := [.ref (d.1 0)]) (rest := []) ⟨hx, hb, hml, hown, hts⟩ (ok_X0_copyFrom l G a d.1 _ v d.2 (hcp _ _)) (cwV 1 hts gX6_restore_X0_copyFrom rfl rfl rfl (by decide +kernel) ⟨Nat.le_of_ble_eq_true rfl, Nat.le_of_ble_eq_true rfl⟩) ⟨pcW_blind, va_recv hK hPc (ci := 0) (q0 := 0) rfl rfl, pcW_pre hPc hDc hamb⟩ rfl rfl hl.1 rfl (lv_room (Nat.le_of_ble_eq_true rfl)) dX6_restore_42 ⟨Nat.le_of_ble_eq_true rfl, Nat.le_of_ble_eq_true rfl⟩) hP hD hS hA hpm (fun y => (xW_split2 G.2 a (mx dks v y) (rowsF (putAt hs k u)) (slotF sl) l1 l2 d).symm) (fun y H locs hw hP hD hS => ?_)
    rw [← e2] at hP hD
    refine lv_aload_n hx hb dX6_restore_45 rfl (lv_at hl 1 rfl) ?_
    refine lv_aload_n hx hb dX6_restore_46 rfl (lv_at hl 1 rfl) ?_
    refine va_get (D := G.1) (ci := 6) (v := .ref (a 0)) (C := RX6) (T := TX6) (N := 5) hx hb hts hinX6 hown hK hP 0 rfl rfl 0 (by decide) lk10 (fun _ h9 => h9) rfl dX6_restore_47 ?_
    refine va_get (D := G.1) (ci := 0) (v := .ref (a 7)) (C := RX0) (T := TX0) (N := 4) hx hb hts hinX0 hown hK hP 3 rfl rfl 3 (by decide) lk75 (fun _ h9 => h9) rfl dX6_restore_50 ?_
    refine va_get (D := G.1) (ci := 3) (v := .int ((mx dks v y) 1 0)) (C := RX3) (T := TX3) (N := 8) hx hb hts hinX3 hown hK hP 10 rfl rfl 0 (by decide) lk161 (fun _ h9 => h9) rfl dX6_restore_53 ?_
    refine cwiP (wr := []) (w1 := fun _ : Unit => xW G.2 a (recV (mx dks v y) k (mx dks v y 1 0)) (rowsF (recL k (mx dks v y 1 0) (putAt hs k u))) (slotF sl) (putAt hs k u ++ esF sl)) (ws1 := fun _ : Unit => xW G.2 a (recV (mx dks v y) k (mx dks v y 1 0)) (rowsF (recL k (mx dks v y 1 0) (putAt hs k u))) (slotF sl) (recL k (mx dks v y 1 0) (putAt hs k u) ++ esF sl)) (va_runV (As := [.int (mx dks v y 1 0)]) (rest := []) ⟨hx, hb, hml, hown, hts⟩ (ok_X6_recorded l G a _ (mx dks v y) (putAt hs k u) (slotF sl) (putAt hs k u ++ esF sl) k hk hk6 (putAt_len u hkl h7) (fun d hd => List.mem_append_left _ hd) (mx dks v y 1 0)) (cwV 1 hts gX6_restore_X6_recorded rfl rfl rfl (by decide +kernel) ⟨Nat.le_of_ble_eq_true rfl, Nat.le_of_ble_eq_true rfl⟩) ⟨pcW_blind, va_recv hK hP (ci := 6) (q0 := 0) rfl rfl, pcW_pre hP hD hamb⟩ rfl rfl hl.1 rfl (lv_room (Nat.le_of_ble_eq_true rfl)) dX6_restore_56 ⟨Nat.le_of_ble_eq_true rfl, Nat.le_of_ble_eq_true rfl⟩) hP hD hS hA (by simp) (fun _ => by rw [List.append_nil]; exact xW_perm _ _ _ _ _ ((recL_perm k (mx dks v y 1 0) _).append_right _)) (fun r2 _ H locs hw2 hP hD hS => ?_)
    subst hw2
    refine W.widen (k := 15) (n := 253) (Nat.le_of_ble_eq_true rfl) (Nat.le_of_ble_eq_true rfl) ?_
    have e4 : restR k v (hs.map Prod.snd) (valS sl) p1 (mx dks v y 1 0) (recV (mx dks v y) k (mx dks v y 1 0)) ((recL k (mx dks v y 1 0) (putAt hs k u)).map Prod.snd) := by
      have e5 : valS sl j = some d.2 := by unfold valS; rw [hsj]; rfl
      unfold restR
      rw [if_neg hb0, hcl, e5]
      exact ⟨u.2, y, hu, hw, rfl, rfl, by rw [recL_map, putAt_map]⟩
    exact W.iret (v := mx dks v y 1 0) hx hb hr (fun t ht hW => ⟨⟨mx dks v y 1 0, (recV (mx dks v y) k (mx dks v y 1 0), recL k (mx dks v y 1 0) (putAt hs k u)), rfl, e4, by rw [ht]; exact hP, hD⟩, hS.F ht⟩) hS.2.2 dX6_restore_59
