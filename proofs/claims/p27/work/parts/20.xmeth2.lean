
abbrev pks : List Nat := [15, 16, 17, 18, 19, 20, 21]
def xP (g : Nat → ClassId) (a : Nat → Nat) (v : DV) (R S : Nat → Option Nat) (T : va_W) : va_W := xA g a v ++ (deskC g a v ++ (xH a v ++ (xArr g a R S ++ T)))
theorem xW_pad (g : Nat → ClassId) (a : Nat → Nat) (v : DV) (R S : Nat → Option Nat) (ds : List HD) : (xW g a v R S ds).Perm (padC g a v ++ xP g a v R S (deskL g ds)) := by
  have h := segp [xA g a v, deskC g a v, padC g a v, xH a v, xArr g a R S, deskL g ds] 6 [2, 0, 1, 3, 4, 5] rfl (by decide)
  simpa [xW, xP, xcoreC_eq, List.append_assoc] using h
theorem xW_pad' (g : Nat → ClassId) (a : Nat → Nat) (v u : DV) (R S : Nat → Option Nat) (ds : List HD) : (padC g a u ++ xP g a v R S (deskL g ds)).Perm (xW g a (mx pks v u) R S ds) := by
  have h := (xW_pad g a (mx pks v u) R S ds).symm
  exact h
theorem xW_cons (g : Nat → ClassId) (a : Nat → Nat) (v : DV) (R S : Nat → Option Nat) (d : HD) (ds : List HD) : ((deskC g d.1 d.2 ++ deskC g a v) ++ xR g a v R S (deskL g ds)).Perm (xW g a v R S (d :: ds)) := by
  have h := (xW_split g a v R S [] ds d).symm
  exact h
def slotF (sl : Nat → Option HD) : Nat → Option Nat := fun i => (sl i).map (fun d => d.1 0)
def esF (sl : Nat → Option HD) : List HD := (sl 0).toList ++ (sl 1).toList
theorem va_up_s {α : Type} (f : Nat → α) (k : Nat) (x : α) : va_up f k x k = x := by simp [va_up]
theorem va_up_o {α : Type} (f : Nat → α) {k j : Nat} (x : α) (h : j ≠ k) : va_up f k x j = f j := by simp [va_up, h]
theorem slot_split (hs : List HD) {sl : Nat → Option HD} {j : Nat} {d : HD} (hj : j < 2) (h : sl j = some d) : ∃ l1 l2, hs ++ esF sl = l1 ++ d :: l2 ∧ ∀ x, hs ++ esF (va_up sl j (some x)) = l1 ++ x :: l2 := by
  rcases (show j = 0 ∨ j = 1 by omega) with rfl | rfl
  · refine ⟨hs, (sl 1).toList, ?_, fun x => ?_⟩
    · unfold esF; rw [h]; rfl
    · unfold esF; rw [va_up_s, va_up_o _ _ (by decide)]; rfl
  · refine ⟨hs ++ (sl 0).toList, [], ?_, fun x => ?_⟩
    · unfold esF; rw [h, List.append_assoc]; rfl
    · unfold esF; rw [va_up_s, va_up_o _ _ (by decide), List.append_assoc]; rfl
theorem slot_push (hs : List HD) {sl : Nat → Option HD} {j : Nat} (hj : j < 2) (h : sl j = none) (x : HD) : (x :: (hs ++ esF sl)).Perm (hs ++ esF (va_up sl j (some x))) := by
  rcases (show j = 0 ∨ j = 1 by omega) with rfl | rfl
  · unfold esF; rw [h, va_up_s, va_up_o _ _ (by decide)]
    exact List.perm_middle.symm
  · unfold esF; rw [h, va_up_s, va_up_o _ _ (by decide)]
    have h1 : hs ++ ((sl 0).toList ++ (none : Option HD).toList) = hs ++ (sl 0).toList := by simp
    rw [h1]
    have h2 : hs ++ ((sl 0).toList ++ (some x).toList) = (hs ++ (sl 0).toList) ++ [x] := by simp [List.append_assoc]
    rw [h2]
    exact (List.perm_append_comm (l₁ := [x]) (l₂ := hs ++ (sl 0).toList))
theorem slotF_set {sl : Nat → Option HD} {j : Nat} {d : HD} (h : sl j = some d) (x : DV) : slotF (va_up sl j (some (d.1, x))) = slotF sl := by
  funext i
  unfold slotF
  by_cases hi : i = j
  · subst hi; rw [va_up_s, h]; rfl
  · rw [va_up_o _ _ hi]
theorem slotF_push (sl : Nat → Option HD) (j : Nat) (d : HD) : va_up (slotF sl) j (some (d.1 0)) = slotF (va_up sl j (some d)) := by
  funext i
  unfold slotF
  by_cases hi : i = j
  · subst hi; rw [va_up_s, va_up_s]; rfl
  · rw [va_up_o _ _ hi, va_up_o _ _ hi]
def valS (sl : Nat → Option HD) : Nat → Option DV := fun i => (sl i).map Prod.snd
def coF (n : Nat) (k : Nat) (v : DV) (l : List DV) : Option (Int32 × DV × List DV) :=
  bd2 (f_X4_faultIndex n v) (fun r4 v4 => if r4 = -6 then bd1 (f_X0_copyFrom (preW l k) (mx pks v v4)) (fun x => bd2 (f_X6_carryOutOrders n (mx pks v v4)) (fun r27 v27 => some (r27, recV (vs v27 16 (fun _ => 0)) k r27, recL k r27 (putAt l k x)))) else some (-3, mx pks v v4, l))
def saveR (v : DV) (sl : Nat → Option HD) (p1 r : Int32) (u : Nat → Option HD) : Prop :=
  if p1 < 0 ∨ ¬ p1 < 2 then r = -2 ∧ u = sl else ∃ (x : DV) (ad : Nat → Nat), f_X0_copyFrom ((valS sl p1.toNatClampNeg).getD iv_X0_init) v = some x ∧ r = v 1 0 ∧ u = va_up sl p1.toNatClampNeg (some (ad, x))
def restR (k : Nat) (v : DV) (l : List DV) (sv : Nat → Option DV) (p1 r : Int32) (u : DV) (lu : List DV) : Prop :=
  if p1 < 0 ∨ ¬ p1 < 2 then r = -2 ∧ u = v ∧ lu = l else
    match sv p1.toNatClampNeg with
    | none => r = -5 ∧ u = v ∧ lu = l
    | some w => ∃ x y, f_X0_copyFrom (preW l k) v = some x ∧ f_X0_copyFrom v w = some y ∧ r = (mx dks v y) 1 0 ∧ u = recV (mx dks v y) k r ∧ lu = recL k r (putAt l k x)
set_option maxHeartbeats 4000000 in
set_option maxRecDepth 100000 in
theorem ok_X6_undo (l : Launch) (G : Gt) (a : Nat → Nat) (sz : Nat) (v : DV) (hs es : List HD) (S : Nat → Option Nat) (k : Nat) (hk : v 22 0 = nI k) (hk6 : k ≤ 6) (hkl : k ≤ hs.length) (hcp : ∀ u w, f_X0_copyFrom u w ≠ none) : Met l yX6_undo wsX6_undo ({ frames := 5, cells := 0, slots := 0, locals := 125 } : Room) (pcW G [.ref (a 21)] (xW G.2 a v (rowsF hs) S (hs ++ es)) sz) (va_Qi (fun r (u : DV) => ∃ r1, takeR v (hs.map Prod.snd) k r1 u ∧ r = if r1 = 0 then -5 else u 22 0) (fun u t => atW G (xW G.2 a u (rowsF hs) S (hs ++ es)) (va_A (xW G.2 a v (rowsF hs) S (hs ++ es)) sz) t) (va_A (xW G.2 a v (rowsF hs) S (hs ++ es)) sz)) 0 0 (va_A (xW G.2 a v (rowsF hs) S (hs ++ es)) sz) := by
  refine Met.ofW (cc := cX6_undo) (maxL := 1) (ret := (some .int)) (by decide) rfl ?_
  intro p e s m args below meth c s₁ B hml hv
  obtain ⟨rfl, hsz, hP, hD0, hamb⟩ := hv
  have hx := B.exec
  have hb := B.bytes
  have hr := B.returns
  have hts := atoms_spec (ws := wsX6_undo) B.pre
  have hown : s.vm.findClass RX6 = some m.cls := findClass_of_methodNamed B.named
  have hlocks := B.notSynchronized
  have hK := hamb.1
  subst hsz
  have hD := hD0.self (sz := s.heap.size)
  generalize hAe : va_A (xW G.2 a v (rowsF hs) S (hs ++ es)) s.heap.size = A at hD ⊢
  have hA : ∀ q : Nat, s.heap.size ≤ q → A q := fun q h => by rw [← hAe]; exact Or.inr h
  have hS : va_S A s.heap s.heap [] := va_S.rf
  have hinX6 : ∀ w ∈ u_ws RX6 TX6 5, w ∈ wsX6_undo := by decide +kernel
  have hinX2 : ∀ w ∈ u_ws RX2 TX2 2, w ∈ wsX6_undo := by decide +kernel
  have lk33 := hts (.fieldLink RX6 33 "MoodDrawers" "history" "LMoodDrawers$History;") (by decide +kernel)
  have lk10 := hts (.fieldLink RX6 10 "MoodDrawers" "desk" "LMoodDrawers$Desk;") (by decide +kernel)
  have lk180 := hts (.fieldLink RX6 180 "MoodDrawers$History" "kept" "I") (by decide +kernel)
  have hl := lv_entry ([.ref (a 21)]) (n := 1) (Nat.le_of_ble_eq_true rfl)
  rw [lg_entry_eq]
  generalize (lg_sl ([.ref (a 21)]) ++ List.replicate (1 - (lg_sl ([.ref (a 21)])).length) Slot.unset).toArray = ls at hl ⊢
  have hl : lv_has ls 1 [(0, .ref (a 21))] := hl
  refine lv_aload_n hx hb dX6_undo_0 rfl (lv_at hl 0 rfl) ?_
  refine va_get (D := G.1) (ci := 6) (v := .ref (a 19)) (C := RX6) (T := TX6) (N := 5) hx hb hts hinX6 hown hK hP 0 rfl rfl 3 (by decide) lk33 (fun _ h9 => h9) rfl dX6_undo_1 ?_
  refine lv_aload_n hx hb dX6_undo_4 rfl (lv_at hl 0 rfl) ?_
  refine va_get (D := G.1) (ci := 6) (v := .ref (a 0)) (C := RX6) (T := TX6) (N := 5) hx hb hts hinX6 hown hK hP 0 rfl rfl 0 (by decide) lk10 (fun _ h9 => h9) rfl dX6_undo_5 ?_
  refine cwiP (wr := []) (w1 := fun u : DV => xW G.2 a u (rowsF hs) S (hs ++ es)) (ws1 := fun u : DV => xW G.2 a u (rowsF hs) S (hs ++ es)) (va_runV (As := [.ref (a 0)]) (rest := []) ⟨hx, hb, hml, hown, hts⟩ (ok_X2_takeBack l G a _ v hs es S k hk hk6 hkl hcp) (cwV 1 hts gX6_undo_X2_takeBack rfl rfl rfl (by decide +kernel) ⟨Nat.le_of_ble_eq_true rfl, Nat.le_of_ble_eq_true rfl⟩) ⟨pcW_blind, va_recv hK hP (ci := 2) (q0 := 20) rfl rfl, pcW_pre hP hD hamb⟩ rfl rfl hl.1 rfl (lv_room (Nat.le_of_ble_eq_true rfl)) dX6_undo_8 ⟨Nat.zero_le _, Nat.zero_le _⟩) hP hD hS hA (by simp) (fun _ => by simp) (fun r1 u H locs hw hP hD hS => ?_)
  refine lv_if_eq (tgt := 24) hx hb dX6_undo_11 (by decide) (fun c9 => ?_) (fun c9 => ?_)
  · refine lv_bipush (v := -5) hx hb dX6_undo_24 (by decide) ?_
    exact W.iret (v := -5) hx hb hr (fun t ht hW => ⟨⟨-5, u, rfl, ⟨r1, hw, by rw [if_pos c9]⟩, by rw [ht]; exact hP, hD⟩, hS.F ht⟩) hS.2.2 dX6_undo_26
  · refine lv_aload_n hx hb dX6_undo_14 rfl (lv_at hl 0 rfl) ?_
    refine va_get (D := G.1) (ci := 6) (v := .ref (a 19)) (C := RX6) (T := TX6) (N := 5) hx hb hts hinX6 hown hK hP 0 rfl rfl 3 (by decide) lk33 (fun _ h9 => h9) rfl dX6_undo_15 ?_
    refine va_get (D := G.1) (ci := 2) (v := .int (u 22 0)) (C := RX2) (T := TX2) (N := 2) hx hb hts hinX2 hown hK hP 20 rfl rfl 1 (by decide) lk180 (fun _ h9 => h9) rfl dX6_undo_18 ?_
    refine lv_goto (tgt := 26) hx hb dX6_undo_21 (by decide) ?_
    exact W.iret (v := u 22 0) hx hb hr (fun t ht hW => ⟨⟨u 22 0, u, rfl, ⟨r1, hw, by rw [if_neg c9]⟩, by rw [ht]; exact hP, hD⟩, hS.F ht⟩) hS.2.2 dX6_undo_26
