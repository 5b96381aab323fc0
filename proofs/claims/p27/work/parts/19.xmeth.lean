
theorem xW_kept {g : Nat → ClassId} {a : Nat → Nat} {v : DV} {R S : Nat → Option Nat} {ds : List HD} {x : Int32} (h : v 22 0 = x) : xW g a (vs v 22 (fun _ => x)) R S ds = xW g a v R S ds := by
  subst h
  rfl
def shiftF (hs : List HD) (i : Nat) : Nat → Option Nat := fun j => if j < i then rowsF hs (j + 1) else rowsF hs j
theorem shiftF_0 (hs : List HD) : shiftF hs 0 = rowsF hs := by
  funext j
  simp [shiftF]
theorem shiftF_s (hs : List HD) (i : Nat) : va_up (shiftF hs i) i (rowsF hs (i + 1)) = shiftF hs (i + 1) := by
  funext j
  show (if j = i then rowsF hs (i + 1) else if j < i then rowsF hs (j + 1) else rowsF hs j) = if j < i + 1 then rowsF hs (j + 1) else rowsF hs j
  by_cases h : j = i
  · subst h; simp
  · rw [if_neg h]
    by_cases h2 : j < i
    · rw [if_pos h2, if_pos (by omega)]
    · rw [if_neg h2, if_neg (by omega)]
theorem shiftF_e {hs : List HD} (h7 : hs.length = 7) (d : HD) (hd : hs[0]? = some d) : va_up (shiftF hs 6) 6 (some (d.1 0)) = rowsF (keepL 6 hs) := by
  have hk : keepL 6 hs = hs.tail ++ [d] := by
    unfold keepL
    rw [if_neg (by omega)]
    cases hs with
    | nil => simp at hd
    | cons x t => simp at hd; subst hd; rfl
  rw [hk]
  funext j
  show (if j = 6 then some (d.1 0) else if j < 6 then rowsF hs (j + 1) else rowsF hs j) = ((hs.tail ++ [d])[j]?).map (fun d => d.1 0)
  have ht : hs.tail.length = 6 := by rw [List.length_tail]; omega
  by_cases h : j = 6
  · subst h
    rw [if_pos rfl, List.getElem?_append_right (by omega), ht]
    rfl
  · rw [if_neg h]
    by_cases h2 : j < 6
    · rw [if_pos h2, List.getElem?_append_left (by omega), List.getElem?_tail]
      rfl
    · rw [if_neg h2, List.getElem?_append_right (by omega), ht]
      show (hs[j]?).map (fun d => d.1 0) = _
      rw [List.getElem?_eq_none (by omega), List.getElem?_eq_none (by simp; omega)]
def recV (v : DV) (k : Nat) (r : Int32) : DV := if r < 0 then v else vs v 22 (fun _ => nI (keepK k))
def recL {α : Type} (k : Nat) (r : Int32) (l : List α) : List α := if r < 0 then l else keepL k l
theorem recL_perm {α : Type} (k : Nat) (r : Int32) (l : List α) : l.Perm (recL k r l) := by
  unfold recL
  split
  · exact List.Perm.refl _
  · exact keepL_perm k l
theorem recL_map {α β : Type} (f : α → β) (k : Nat) (r : Int32) (l : List α) : (recL k r l).map f = recL k r (l.map f) := by
  unfold recL
  split
  · rfl
  · exact keepL_map f k l
theorem putAt_len {α : Type} {l : List α} {k : Nat} (u : α) (h : k ≤ l.length) (h7 : l.length ≤ 7) : k = 6 → (putAt l k u).length = 7 := by
  intro hk
  unfold putAt
  split
  · rw [List.length_set]; omega
  · rw [List.length_append, List.length_singleton]; omega
/-- a change's pure picture: the state before it is kept if it wasn't refused -/
def chgK (k : Nat) (F : Option (Int32 × DV)) (v : DV) (l : List DV) : Option (Int32 × DV × List DV) :=
  bd1 (f_X0_copyFrom (preW l k) v) (fun x => bd2 F (fun r v1 => some (r, recV (mx dks v v1) k r, recL k r (putAt l k x))))

set_option maxHeartbeats 4000000 in
set_option maxRecDepth 100000 in
theorem ok_X2_keepPrepared (l : Launch) (G : Gt) (a : Nat → Nat) (sz : Nat) (v : DV) (hs : List HD) (S : Nat → Option Nat) (ds : List HD) (k : Nat) (hk : v 22 0 = nI k) (hk6 : k ≤ 6) (hfull : k = 6 → hs.length = 7) (hds : ∀ d ∈ hs, d ∈ ds) : Met l yX2_keepPrepared wsX2_keepPrepared ({ frames := 0, cells := 0, slots := 0, locals := 0 } : Room) (pcW G [.ref (a 19)] (xW G.2 a v (rowsF hs) S ds) sz) (va_Qv (fun _ : Unit => True) (fun _ t => atW G (xW G.2 a (vs v 22 (fun _ => nI (keepK k))) (rowsF (keepL k hs)) S ds) (va_A (xW G.2 a v (rowsF hs) S ds) sz) t) (va_A (xW G.2 a v (rowsF hs) S ds) sz)) 0 0 (va_A (xW G.2 a v (rowsF hs) S ds) sz) := by
  refine Met.ofW (cc := cX2_keepPrepared) (maxL := 3) (ret := none) (by decide) rfl ?_
  intro p e s m args below meth c s₁ B hml hv
  obtain ⟨rfl, hsz, hP, hD0, hamb⟩ := hv
  have hx := B.exec
  have hb := B.bytes
  have hr := B.returns
  have hts := atoms_spec (ws := wsX2_keepPrepared) B.pre
  have hown : s.vm.findClass RX2 = some m.cls := findClass_of_methodNamed B.named
  have hlocks := B.notSynchronized
  have hK := hamb.1
  subst hsz
  have hD := hD0.self (sz := s.heap.size)
  generalize hAe : va_A (xW G.2 a v (rowsF hs) S ds) s.heap.size = A at hD ⊢
  have hA : ∀ q : Nat, s.heap.size ≤ q → A q := fun q h => by rw [← hAe]; exact Or.inr h
  have hS : va_S A s.heap s.heap [] := va_S.rf
  have hinX2 : ∀ w ∈ u_ws RX2 TX2 2, w ∈ wsX2_keepPrepared := by decide +kernel
  have lk11 := hts (.fieldLink RX2 11 "MoodDrawers$History" "rows" "[LMoodDrawers$Desk;") (by decide +kernel)
  have lk17 := hts (.fieldLink RX2 17 "MoodDrawers$History" "kept" "I") (by decide +kernel)
  have hl := lv_entry ([.ref (a 19)]) (n := 3) (Nat.le_of_ble_eq_true rfl)
  rw [lg_entry_eq]
  generalize (lg_sl ([.ref (a 19)]) ++ List.replicate (3 - (lg_sl ([.ref (a 19)])).length) Slot.unset).toArray = ls at hl ⊢
  have hl : lv_has ls 3 [(0, .ref (a 19))] := hl
  refine lv_aload_n hx hb dX2_keepPrepared_0 rfl (lv_at hl 0 rfl) ?_
  refine va_get (D := G.1) (ci := 2) (v := .int (v 22 0)) (C := RX2) (T := TX2) (N := 2) hx hb hts hinX2 hown hK hP 20 rfl rfl 1 (by decide) lk17 (fun _ h9 => h9) rfl dX2_keepPrepared_1 ?_
  refine lv_bipush (v := 6) hx hb dX2_keepPrepared_4 (by decide) ?_
  refine lv_icmp_ge (tgt := 20) hx hb dX2_keepPrepared_6 (by decide) (fun c9 => ?_) (fun c9 => ?_)
  · have hk' : k = 6 := by
      have h1 : nI 6 ≤ nI k := by rw [← hk]; exact c9
      have := (nI_leI (by decide) (by omega)).mp h1
      omega
    have h7 := hfull hk'
    have hd0 : hs[0]? = some (hs[0]'(by omega)) := List.getElem?_eq_getElem (by omega)
    refine lv_aload_n hx hb dX2_keepPrepared_20 rfl (lv_at hl 0 rfl) ?_
    refine va_get (D := G.1) (ci := 2) (v := .ref (a 20)) (C := RX2) (T := TX2) (N := 2) hx hb hts hinX2 hown hK hP 20 rfl rfl 0 (by decide) lk11 (fun _ h9 => h9) rfl dX2_keepPrepared_21 ?_
    refine lv_iconst (v := 0) hx hb dX2_keepPrepared_24 (by decide) ?_
    refine va_aldq (f := rowsF hs) hx hb hK hP 21 3 rfl rfl (ixb_1 (show ixb 0 7 = true from rfl)) dX2_keepPrepared_25 ?_
    have e0 : rowsF hs (Int32.toNatClampNeg 0) = some ((hs[0]'(by omega)).1 0) := by
      show (hs[0]?).map (fun d => d.1 0) = _
      rw [hd0]; rfl
    rw [e0]
    refine lv_astore_n (lv' := [(1, .ref ((hs[0]'(by omega)).1 0)), (0, .ref (a 19))]) hx hb dX2_keepPrepared_26 rfl hl (by decide) rfl (fun ls hl => ?_)
    refine lv_iconst (v := 0) hx hb dX2_keepPrepared_27 (by decide) ?_
    refine lv_istore_n (lv' := [(2, .int 0), (1, .ref ((hs[0]'(by omega)).1 0)), (0, .ref (a 19))]) hx hb dX2_keepPrepared_28 rfl hl (by decide) rfl (fun ls hl => ?_)
    have lp : ∀ (r i : Nat), i + r = 6 → ∀ (H : Heap) (locs : List Loc) (ls : Array Slot), va_P G.1 vwCl (xW G.2 a v (shiftF hs i) S ds) H → va_D A (xW G.2 a v (shiftF hs i) S ds) → va_S A s.heap H locs → lv_has ls 3 [(2, .int (nI i)), (1, .ref ((hs[0]'(by omega)).1 0)), (0, .ref (a 19))] → W p l e (headSpec wsX2_keepPrepared ({ frames := 0, cells := 0, slots := 0, locals := 0 } : Room)).room s m ([.ref (a 19)] : List Value).toArray below meth c H locs 0 0 (MQ below (va_Qv (fun _ : Unit => True) (fun _ t => atW G (xW G.2 a (vs v 22 (fun _ => nI (keepK k))) (rowsF (keepL k hs)) S ds) A t) A) ([.ref (a 19)] : List Value).toArray s 0 0 A) (F0 m 29 ls []) := by
      intro r
      induction r with
      | zero =>
        intro i hi H locs ls hP hD hS hl
        have hi6 : i = 6 := by omega
        subst hi6
        refine lv_iload_n hx hb dX2_keepPrepared_29 rfl (lv_at hl 0 rfl) ?_
        refine lv_bipush (v := 6) hx hb dX2_keepPrepared_30 (by decide) ?_
        refine lv_icmp_ge (tgt := 55) hx hb dX2_keepPrepared_32 (by decide) (fun c => ?_) (fun c => absurd (show (6 : Int32) ≤ nI 6 by decide) c)
        refine lv_aload_n hx hb dX2_keepPrepared_55 rfl (lv_at hl 2 rfl) ?_
        refine va_get (D := G.1) (ci := 2) (v := .ref (a 20)) (C := RX2) (T := TX2) (N := 2) hx hb hts hinX2 hown hK hP 20 rfl rfl 0 (by decide) lk11 (fun _ h9 => h9) rfl dX2_keepPrepared_56 ?_
        refine lv_bipush (v := 6) hx hb dX2_keepPrepared_59 (by decide) ?_
        refine lv_aload_n hx hb dX2_keepPrepared_61 rfl (lv_at hl 1 rfl) ?_
        obtain ⟨qk, hqk⟩ := xW_obj (g := G.2) (a := a) (v := v) (R := shiftF hs 6) (S := S) (hds (hs[0]'(by omega)) (List.getElem_mem _))
        refine va_astq (f := shiftF hs 6) (r := (RX0, TX0, 4)) hx hb hK hP hD hS 21 3 qk 0 rfl rfl hqk rfl (ixb_1 (show ixb 6 7 = true from rfl)) dX2_keepPrepared_62 (fun H locs hP hD hS => ?_)
        have hP : va_P G.1 vwCl (xW G.2 a v (va_up (shiftF hs 6) 6 (some ((hs[0]'(by omega)).1 0))) S ds) H := hP
        have hD : va_D A (xW G.2 a v (va_up (shiftF hs 6) 6 (some ((hs[0]'(by omega)).1 0))) S ds) := hD
        rw [shiftF_e h7 _ hd0] at hP hD
        have e1 : xW G.2 a (vs v 22 (fun _ => nI (keepK k))) (rowsF (keepL k hs)) S ds = xW G.2 a v (rowsF (keepL 6 hs)) S ds := by
          rw [xW_kept (by rw [hk, hk']; rfl), hk']
        exact W.vret hx hb hr (fun t ht hW => ⟨⟨(), rfl, trivial, by rw [ht, e1]; exact hP, by rw [e1]; exact hD⟩, hS.F ht⟩) hS.2.2 dX2_keepPrepared_63
      | succ r ih =>
        intro i hi H locs ls hP hD hS hl
        have hlt : i + 1 < hs.length := by omega
        refine lv_iload_n hx hb dX2_keepPrepared_29 rfl (lv_at hl 0 rfl) ?_
        refine lv_bipush (v := 6) hx hb dX2_keepPrepared_30 (by decide) ?_
        refine lv_icmp_ge (tgt := 55) hx hb dX2_keepPrepared_32 (by decide) (fun c => absurd c (nI_ge (a := i) (b := 6) (by omega) (by decide))) (fun c => ?_)
        refine lv_aload_n hx hb dX2_keepPrepared_35 rfl (lv_at hl 2 rfl) ?_
        refine va_get (D := G.1) (ci := 2) (v := .ref (a 20)) (C := RX2) (T := TX2) (N := 2) hx hb hts hinX2 hown hK hP 20 rfl rfl 0 (by decide) lk11 (fun _ h9 => h9) rfl dX2_keepPrepared_36 ?_
        refine lv_iload_n hx hb dX2_keepPrepared_39 rfl (lv_at hl 0 rfl) ?_
        refine lv_aload_n hx hb dX2_keepPrepared_40 rfl (lv_at hl 2 rfl) ?_
        refine va_get (D := G.1) (ci := 2) (v := .ref (a 20)) (C := RX2) (T := TX2) (N := 2) hx hb hts hinX2 hown hK hP 20 rfl rfl 0 (by decide) lk11 (fun _ h9 => h9) rfl dX2_keepPrepared_41 ?_
        refine lv_iload_n hx hb dX2_keepPrepared_44 rfl (lv_at hl 0 rfl) ?_
        refine lv_iconst (v := 1) hx hb dX2_keepPrepared_45 (by decide) ?_
        refine lv_iadd hx hb dX2_keepPrepared_46 ?_
        rw [nI_1]
        refine va_aldq (f := shiftF hs i) hx hb hK hP 21 3 rfl rfl (vp_in_nI (by omega) (by decide)) dX2_keepPrepared_47 ?_
        have e2 : rowsF hs (i + 1) = some ((hs[i + 1]).1 0) := by
          show (hs[i + 1]?).map (fun d => d.1 0) = _
          rw [List.getElem?_eq_getElem hlt]; rfl
        have e1 : shiftF hs i (Int32.toNatClampNeg (nI (i + 1))) = some ((hs[i + 1]).1 0) := by
          rw [nI_clamp (by omega), ← e2]
          show (if i + 1 < i then _ else _) = _
          rw [if_neg (by omega)]
        rw [e1]
        obtain ⟨qk, hqk⟩ := xW_obj (g := G.2) (a := a) (v := v) (R := shiftF hs i) (S := S) (hds (hs[i + 1]) (List.getElem_mem _))
        refine va_astq (f := shiftF hs i) (r := (RX0, TX0, 4)) hx hb hK hP hD hS 21 3 qk 0 rfl rfl hqk rfl (vp_in_nI (by omega) (by decide)) dX2_keepPrepared_48 (fun H locs hP hD hS => ?_)
        rw [nI_clamp (by omega), ← e2] at hP hD
        have hP : va_P G.1 vwCl (xW G.2 a v (va_up (shiftF hs i) i (rowsF hs (i + 1))) S ds) H := hP
        have hD : va_D A (xW G.2 a v (va_up (shiftF hs i) i (rowsF hs (i + 1))) S ds) := hD
        rw [shiftF_s] at hP hD
        refine lv_iinc (v := nI (i + 1)) (lv' := [(2, .int (nI (i + 1))), (1, .ref ((hs[0]'(by omega)).1 0)), (0, .ref (a 19))]) hx hb dX2_keepPrepared_49 hl (k := 0) rfl (nI_1 i) (by decide) rfl (fun ls hl => ?_)
        refine lv_goto (tgt := 29) hx hb dX2_keepPrepared_52 (by decide) ?_
        exact ih (i + 1) (by omega) H locs ls hP hD hS hl
    exact lp 6 0 rfl s.heap [] ls (by rw [shiftF_0]; exact hP) (by rw [shiftF_0]; exact hD) hS hl
  · have hk' : k < 6 := by
      rcases Nat.lt_or_ge k 6 with h | h
      · exact h
      · exact absurd (show (6 : Int32) ≤ v 22 0 by rw [hk]; exact nI_le (a := 6) h (by omega)) c9
    refine lv_aload_n hx hb dX2_keepPrepared_9 rfl (lv_at hl 0 rfl) ?_
    refine lv_dup hx hb dX2_keepPrepared_10 rfl ?_
    refine va_get (D := G.1) (ci := 2) (v := .int (v 22 0)) (C := RX2) (T := TX2) (N := 2) hx hb hts hinX2 hown hK hP 20 rfl rfl 1 (by decide) lk17 (fun _ h9 => h9) rfl dX2_keepPrepared_11 ?_
    refine lv_iconst (v := 1) hx hb dX2_keepPrepared_14 (by decide) ?_
    refine lv_iadd hx hb dX2_keepPrepared_15 ?_
    refine va_put (D := G.1) (ci := 2) (v := .int (v 22 0 + 1)) (ty := .int) (C := RX2) (T := TX2) (N := 2) hx hb hts hinX2 tyX2 tyX2_ok nmX2 hown hK hP hD hS 20 rfl rfl 1 (by decide) lk17 (fun _ h9 => h9) rfl (by decide +kernel) rfl rfl (Nat.le_of_ble_eq_true rfl) dX2_keepPrepared_16 (fun H locs hP hD hS => ?_)
    have e1 : keepL k hs = hs := by unfold keepL; rw [if_pos hk']
    have e2 : v 22 0 + 1 = nI (keepK k) := by unfold keepK; rw [if_pos hk', hk, nI_1]
    have hP : va_P G.1 vwCl (xW G.2 a (vs v 22 (fun _ => v 22 0 + 1)) (rowsF hs) S ds) H := hP
    have hD : va_D A (xW G.2 a (vs v 22 (fun _ => v 22 0 + 1)) (rowsF hs) S ds) := hD
    exact W.vret hx hb hr (fun t ht hW => ⟨⟨(), rfl, trivial, by rw [ht, e1, ← e2]; exact hP, by rw [e1, ← e2]; exact hD⟩, hS.F ht⟩) hS.2.2 dX2_keepPrepared_19
def takeR (v : DV) (l : List DV) : Nat → Int32 → DV → Prop
  | 0, r, u => r = 0 ∧ u = v
  | j + 1, r, u => ∃ w x, l[j]? = some w ∧ f_X0_copyFrom (vs v 22 (fun _ => nI j)) w = some x ∧ r = 1 ∧ u = mx dks (vs v 22 (fun _ => nI j)) x
set_option maxHeartbeats 4000000 in
set_option maxRecDepth 100000 in
theorem ok_X2_takeBack (l : Launch) (G : Gt) (a : Nat → Nat) (sz : Nat) (v : DV) (hs es : List HD) (S : Nat → Option Nat) (k : Nat) (hk : v 22 0 = nI k) (hk6 : k ≤ 6) (hkl : k ≤ hs.length) (hcp : ∀ u w, f_X0_copyFrom u w ≠ none) : Met l yX2_takeBack wsX2_takeBack ({ frames := 4, cells := 0, slots := 0, locals := 103 } : Room) (pcW G [.ref (a 19), .ref (a 0)] (xW G.2 a v (rowsF hs) S (hs ++ es)) sz) (va_Qi (fun r (u : DV) => takeR v (hs.map Prod.snd) k r u) (fun u t => atW G (xW G.2 a u (rowsF hs) S (hs ++ es)) (va_A (xW G.2 a v (rowsF hs) S (hs ++ es)) sz) t) (va_A (xW G.2 a v (rowsF hs) S (hs ++ es)) sz)) 0 0 (va_A (xW G.2 a v (rowsF hs) S (hs ++ es)) sz) := by
  refine Met.ofW (cc := cX2_takeBack) (maxL := 3) (ret := (some .boolean)) (by decide) rfl ?_
  intro p e s m args below meth c s₁ B hml hv
  obtain ⟨rfl, hsz, hP, hD0, hamb⟩ := hv
  have hx := B.exec
  have hb := B.bytes
  have hr := B.returns
  have hts := atoms_spec (ws := wsX2_takeBack) B.pre
  have hown : s.vm.findClass RX2 = some m.cls := findClass_of_methodNamed B.named
  have hlocks := B.notSynchronized
  have hK := hamb.1
  subst hsz
  have hD := hD0.self (sz := s.heap.size)
  generalize hAe : va_A (xW G.2 a v (rowsF hs) S (hs ++ es)) s.heap.size = A at hD ⊢
  have hA : ∀ q : Nat, s.heap.size ≤ q → A q := fun q h => by rw [← hAe]; exact Or.inr h
  have hS : va_S A s.heap s.heap [] := va_S.rf
  have hinX2 : ∀ w ∈ u_ws RX2 TX2 2, w ∈ wsX2_takeBack := by decide +kernel
  have lk11 := hts (.fieldLink RX2 11 "MoodDrawers$History" "rows" "[LMoodDrawers$Desk;") (by decide +kernel)
  have lk17 := hts (.fieldLink RX2 17 "MoodDrawers$History" "kept" "I") (by decide +kernel)
  have hl := lv_entry ([.ref (a 19), .ref (a 0)]) (n := 3) (Nat.le_of_ble_eq_true rfl)
  rw [lg_entry_eq]
  generalize (lg_sl ([.ref (a 19), .ref (a 0)]) ++ List.replicate (3 - (lg_sl ([.ref (a 19), .ref (a 0)])).length) Slot.unset).toArray = ls at hl ⊢
  have hl : lv_has ls 3 [(0, .ref (a 19)), (1, .ref (a 0))] := hl
  refine lv_aload_n hx hb dX2_takeBack_0 rfl (lv_at hl 0 rfl) ?_
  refine va_get (D := G.1) (ci := 2) (v := .int (v 22 0)) (C := RX2) (T := TX2) (N := 2) hx hb hts hinX2 hown hK hP 20 rfl rfl 1 (by decide) lk17 (fun _ h9 => h9) rfl dX2_takeBack_1 ?_
  refine lv_iconst (v := 1) hx hb dX2_takeBack_4 (by decide) ?_
  cases k with
  | zero =>
    refine lv_icmp_ge (tgt := 10) hx hb dX2_takeBack_5 (by decide) (fun c => absurd c (by rw [hk]; decide)) (fun c => ?_)
    refine lv_iconst (v := 0) hx hb dX2_takeBack_8 (by decide) ?_
    exact W.zret (ty := .boolean) (v := 0) hx hb hr rfl (fun t ht hW => ⟨⟨0, v, rfl, ⟨rfl, rfl⟩, by rw [ht]; exact hP, hD⟩, hS.F ht⟩) hS.2.2 dX2_takeBack_9
  | succ j =>
    refine lv_icmp_ge (tgt := 10) hx hb dX2_takeBack_5 (by decide) (fun c => ?_) (fun c => absurd (show (1 : Int32) ≤ v 22 0 by rw [hk]; exact nI_le (a := 1) (by omega) (by omega)) c)
    have hlt : j < hs.length := by omega
    have ek : v 22 0 - 1 = nI j := by rw [hk]; exact nI_pred j
    refine lv_aload_n hx hb dX2_takeBack_10 rfl (lv_at hl 0 rfl) ?_
    refine va_get (D := G.1) (ci := 2) (v := .ref (a 20)) (C := RX2) (T := TX2) (N := 2) hx hb hts hinX2 hown hK hP 20 rfl rfl 0 (by decide) lk11 (fun _ h9 => h9) rfl dX2_takeBack_11 ?_
    refine lv_aload_n hx hb dX2_takeBack_14 rfl (lv_at hl 0 rfl) ?_
    refine va_get (D := G.1) (ci := 2) (v := .int (v 22 0)) (C := RX2) (T := TX2) (N := 2) hx hb hts hinX2 hown hK hP 20 rfl rfl 1 (by decide) lk17 (fun _ h9 => h9) rfl dX2_takeBack_15 ?_
    refine lv_iconst (v := 1) hx hb dX2_takeBack_18 (by decide) ?_
    refine lv_isub hx hb dX2_takeBack_19 ?_
    rw [ek]
    refine va_aldq (f := rowsF hs) hx hb hK hP 21 3 rfl rfl (vp_in_nI (by omega) (by decide)) dX2_takeBack_20 ?_
    have e1 : rowsF hs (Int32.toNatClampNeg (nI j)) = some ((hs[j]).1 0) := by
      rw [nI_clamp (by omega)]
      show (hs[j]?).map (fun d => d.1 0) = _
      rw [List.getElem?_eq_getElem hlt]; rfl
    rw [e1]
    refine lv_astore_n (lv' := [(2, .ref ((hs[j]).1 0)), (0, .ref (a 19)), (1, .ref (a 0))]) hx hb dX2_takeBack_21 rfl hl (by decide) rfl (fun ls hl => ?_)
    refine lv_aload_n hx hb dX2_takeBack_22 rfl (lv_at hl 0 rfl) ?_
    refine lv_ifnonnull (tgt := 28) hx hb dX2_takeBack_23 (by decide) ?_
    refine lv_aload_n hx hb dX2_takeBack_28 rfl (lv_at hl 1 rfl) ?_
    refine lv_dup hx hb dX2_takeBack_29 rfl ?_
    refine va_get (D := G.1) (ci := 2) (v := .int (v 22 0)) (C := RX2) (T := TX2) (N := 2) hx hb hts hinX2 hown hK hP 20 rfl rfl 1 (by decide) lk17 (fun _ h9 => h9) rfl dX2_takeBack_30 ?_
    refine lv_iconst (v := 1) hx hb dX2_takeBack_33 (by decide) ?_
    refine lv_isub hx hb dX2_takeBack_34 ?_
    rw [ek]
    refine va_put (D := G.1) (ci := 2) (v := .int (nI j)) (ty := .int) (C := RX2) (T := TX2) (N := 2) hx hb hts hinX2 tyX2 tyX2_ok nmX2 hown hK hP hD hS 20 rfl rfl 1 (by decide) lk17 (fun _ h9 => h9) rfl (by decide +kernel) rfl rfl (Nat.le_of_ble_eq_true rfl) dX2_takeBack_35 (fun H locs hP hD hS => ?_)
    have hP : va_P G.1 vwCl (xW G.2 a (vs v 22 (fun _ => nI j)) (rowsF hs) S (hs ++ es)) H := hP
    have hD : va_D A (xW G.2 a (vs v 22 (fun _ => nI j)) (rowsF hs) S (hs ++ es)) := hD
    refine lv_aload_n hx hb dX2_takeBack_38 rfl (lv_at hl 2 rfl) ?_
    refine lv_aload_n hx hb dX2_takeBack_39 rfl (lv_at hl 0 rfl) ?_
    have e2 : hs ++ es = hs.take j ++ hs[j] :: (hs.drop (j + 1) ++ es) := by
      have h : hs ++ es = (hs.take j ++ hs[j] :: hs.drop (j + 1)) ++ es := congrArg (· ++ es) (split_at hlt)
      simp only [List.append_assoc, List.cons_append] at h
      exact h
    rw [e2] at hP hD
    have hpm := xW_split2 G.2 a (vs v 22 (fun _ => nI j)) (rowsF hs) S (hs.take j) (hs.drop (j + 1) ++ es) hs[j]
    have hPc := va_P_left (va_P_perm hP hpm)
    have hDc := va_D_left (va_D_perm hD hpm)
    refine cwvP (w1 := fun u => deskC G.2 a u ++ deskC G.2 hs[j].1 hs[j].2) (ws1 := fun u => xW G.2 a (mx dks (vs v 22 (fun _ => nI j)) u) (rowsF hs) S (hs.take j ++ hs[j] :: (hs.drop (j + 1) ++ es))) (va_runV (As := [.ref ((hs[j]).1 0)]) (rest := []) ⟨hx, hb, hml, hown, hts⟩ (ok_X0_copyFrom l G a hs[j].1 _ (vs v 22 (fun _ => nI j)) hs[j].2 (hcp _ _)) (cwV 1 hts gX2_takeBack_X0_copyFrom rfl rfl rfl (by decide +kernel) ⟨Nat.le_of_ble_eq_true rfl, Nat.le_of_ble_eq_true rfl⟩) ⟨pcW_blind, va_recv hK hPc (ci := 0) (q0 := 0) rfl rfl, pcW_pre hPc hDc hamb⟩ rfl rfl hl.1 rfl (lv_room (Nat.le_of_ble_eq_true rfl)) dX2_takeBack_40 ⟨Nat.zero_le _, Nat.zero_le _⟩) hP hD hS hA hpm (fun u => (xW_split2 G.2 a (mx dks (vs v 22 (fun _ => nI j)) u) (rowsF hs) S (hs.take j) (hs.drop (j + 1) ++ es) hs[j]).symm) (fun u H locs hw hP hD hS => ?_)
    rw [← e2] at hP hD
    refine lv_iconst (v := 1) hx hb dX2_takeBack_43 (by decide) ?_
    have e3 : (hs.map Prod.snd)[j]? = some hs[j].2 := by rw [List.getElem?_map, List.getElem?_eq_getElem hlt]; rfl
    exact W.zret (ty := .boolean) (v := 1) hx hb hr rfl (fun t ht hW => ⟨⟨1, _, rfl, ⟨hs[j].2, u, e3, hw, rfl, rfl⟩, by rw [ht]; exact hP, hD⟩, hS.F ht⟩) hS.2.2 dX2_takeBack_44
set_option maxHeartbeats 4000000 in
set_option maxRecDepth 100000 in
theorem ok_X6_recorded (l : Launch) (G : Gt) (a : Nat → Nat) (sz : Nat) (v : DV) (hs : List HD) (S : Nat → Option Nat) (ds : List HD) (k : Nat) (hk : v 22 0 = nI k) (hk6 : k ≤ 6) (hfull : k = 6 → hs.length = 7) (hds : ∀ d ∈ hs, d ∈ ds) (p1 : Int32) : Met l yX6_recorded wsX6_recorded ({ frames := 1, cells := 0, slots := 0, locals := 22 } : Room) (pcW G [.ref (a 21), .int p1] (xW G.2 a v (rowsF hs) S ds) sz) (va_Qi (fun r (_ : Unit) => r = p1) (fun _ t => atW G (xW G.2 a (recV v k p1) (rowsF (recL k p1 hs)) S ds) (va_A (xW G.2 a v (rowsF hs) S ds) sz) t) (va_A (xW G.2 a v (rowsF hs) S ds) sz)) 0 0 (va_A (xW G.2 a v (rowsF hs) S ds) sz) := by
  refine Met.ofW (cc := cX6_recorded) (maxL := 2) (ret := (some .int)) (by decide) rfl ?_
  intro p e s m args below meth c s₁ B hml hv
  obtain ⟨rfl, hsz, hP, hD0, hamb⟩ := hv
  have hx := B.exec
  have hb := B.bytes
  have hr := B.returns
  have hts := atoms_spec (ws := wsX6_recorded) B.pre
  have hown : s.vm.findClass RX6 = some m.cls := findClass_of_methodNamed B.named
  have hlocks := B.notSynchronized
  have hK := hamb.1
  subst hsz
  have hD := hD0.self (sz := s.heap.size)
  generalize hAe : va_A (xW G.2 a v (rowsF hs) S ds) s.heap.size = A at hD ⊢
  have hA : ∀ q : Nat, s.heap.size ≤ q → A q := fun q h => by rw [← hAe]; exact Or.inr h
  have hS : va_S A s.heap s.heap [] := va_S.rf
  have hinX6 : ∀ w ∈ u_ws RX6 TX6 5, w ∈ wsX6_recorded := by decide +kernel
  have lk33 := hts (.fieldLink RX6 33 "MoodDrawers" "history" "LMoodDrawers$History;") (by decide +kernel)
  have hl := lv_entry ([.ref (a 21), .int p1]) (n := 2) (Nat.le_of_ble_eq_true rfl)
  rw [lg_entry_eq]
  generalize (lg_sl ([.ref (a 21), .int p1]) ++ List.replicate (2 - (lg_sl ([.ref (a 21), .int p1])).length) Slot.unset).toArray = ls at hl ⊢
  have hl : lv_has ls 2 [(0, .ref (a 21)), (1, .int p1)] := hl
  refine lv_iload_n hx hb dX6_recorded_0 rfl (lv_at hl 1 rfl) ?_
  refine lv_if_lt (tgt := 11) hx hb dX6_recorded_1 (by decide) (fun c => ?_) (fun c => ?_)
  · refine lv_iload_n hx hb dX6_recorded_11 rfl (lv_at hl 1 rfl) ?_
    have e1 : recV v k p1 = v := by unfold recV; rw [if_pos c]
    have e2 : recL k p1 hs = hs := by unfold recL; rw [if_pos c]
    exact W.iret (v := p1) hx hb hr (fun t ht hW => ⟨⟨p1, (), rfl, rfl, by rw [ht, e1, e2]; exact hP, by rw [e1, e2]; exact hD⟩, hS.F ht⟩) hS.2.2 dX6_recorded_12
  · refine lv_aload_n hx hb dX6_recorded_4 rfl (lv_at hl 0 rfl) ?_
    refine va_get (D := G.1) (ci := 6) (v := .ref (a 19)) (C := RX6) (T := TX6) (N := 5) hx hb hts hinX6 hown hK hP 0 rfl rfl 3 (by decide) lk33 (fun _ h9 => h9) rfl dX6_recorded_5 ?_
    refine cwvP (wr := []) (w1 := fun _ : Unit => xW G.2 a (vs v 22 (fun _ => nI (keepK k))) (rowsF (keepL k hs)) S ds) (ws1 := fun _ => xW G.2 a (vs v 22 (fun _ => nI (keepK k))) (rowsF (keepL k hs)) S ds) (va_runV (As := []) (rest := []) ⟨hx, hb, hml, hown, hts⟩ (ok_X2_keepPrepared l G a _ v hs S ds k hk hk6 hfull hds) (cwV 0 hts gX6_recorded_X2_keepPrepared rfl rfl rfl (by decide +kernel) ⟨Nat.le_of_ble_eq_true rfl, Nat.le_of_ble_eq_true rfl⟩) ⟨pcW_blind, va_recv hK hP (ci := 2) (q0 := 20) rfl rfl, pcW_pre hP hD hamb⟩ rfl rfl hl.1 rfl (lv_room (Nat.le_of_ble_eq_true rfl)) dX6_recorded_8 ⟨Nat.zero_le _, Nat.zero_le _⟩) hP hD hS hA (by simp) (fun _ => by simp) (fun _ H locs hw hP hD hS => ?_)
    refine lv_iload_n hx hb dX6_recorded_11 rfl (lv_at hl 1 rfl) ?_
    have e1 : recV v k p1 = vs v 22 (fun _ => nI (keepK k)) := by unfold recV; rw [if_neg c]
    have e2 : recL k p1 hs = keepL k hs := by unfold recL; rw [if_neg c]
    exact W.iret (v := p1) hx hb hr (fun t ht hW => ⟨⟨p1, (), rfl, rfl, by rw [ht, e1, e2]; exact hP, by rw [e1, e2]; exact hD⟩, hS.F ht⟩) hS.2.2 dX6_recorded_12
theorem pcH_blind {G : Gt} {av : List Value} {ws : va_W} {sz : Nat} : FrameBlind (pcH G av ws sz) := fun _ U g mk q => ⟨q.1, q.2.1, q.2.2.1, q.2.2.2.1, amb_same (s := U) (U := U.calling g mk _) rfl q.2.2.2.2.1, va_Nw.same (u := U) (U := U.calling g mk _) rfl rfl q.2.2.2.2.2.1, by
  obtain ⟨t, h1, h2⟩ := q.2.2.2.2.2.2
  exact ⟨t, va_Z.moved (u := U) (U := U.calling g mk _) (Vm.Alike.refl U.vm) h1, va_T.moved (u := U) (U := U.calling g mk _) (Vm.Alike.refl U.vm) h2⟩⟩
theorem hsOK_move {A B : Nat → Prop} {s U : State} {H : Heap} {locs : List Loc} (h : hsOK A s) (hS : va_S A s.heap H locs) (hAB : ∀ q, B q → A q) (hU : U.heap = H) (hW : s.WarmedH U.vm) : hsOK B U := by
  obtain ⟨h0, t, h1, h2⟩ := h
  refine ⟨va_Nw.warmF hW h0, t, ?_, ?_⟩
  · have h3 := (h1.kept hS.2.1).narrow hAB
    rw [hU]
    exact va_Z.moved hW.alike h3
  · have h3 := (h2.kept hS.2.1).narrow hAB
    rw [hU]
    exact va_T.moved hW.alike h3
theorem pcH_pre {G : Gt} {av : List Value} {ws : va_W} {s : State} {H : Heap} {locs : List Loc} {A A0 : Nat → Prop} (hP : va_P G.1 vwCl ws H) (hD : va_D A ws) (ha : amb G s) (hh : hsOK A0 s) (hS : va_S A0 s.heap H locs) (hAB : ∀ q, va_A ws H.size q → A0 q) : ∀ U : State, U.heap = H → s.WarmedH U.vm → pcH G av ws H.size av.toArray U := fun U hU hW => ⟨rfl, by rw [hU], by rw [hU]; exact hP, hD.weaken (fun _ _ _ _ => trivial), amb_warm hW ha, hsOK_move hh hS hAB hU hW⟩
set_option maxHeartbeats 4000000 in
set_option maxRecDepth 100000 in
theorem ok_X6_set (l : Launch) (G : Gt) (a : Nat → Nat) (sz : Nat) (v : DV) (hs es : List HD) (S : Nat → Option Nat) (k : Nat) (hk : v 22 0 = nI k) (hk6 : k ≤ 6) (hkl : k ≤ hs.length) (h7 : hs.length ≤ 7) (hcp : ∀ w u, f_X0_copyFrom w u ≠ none) (p1 : Int32) (p2 : Int32) (hne : f_X0_changeSetting v p1 p2 ≠ none) : Met l yX6_set wsX6_set ({ frames := 5, cells := 15, slots := 253, locals := 125 } : Room) (pcH G [.ref (a 21), .int p1, .int p2] (xW G.2 a v (rowsF hs) S (hs ++ es)) sz) (va_Qi (fun r (u : DV × List HD) => chgK k (f_X0_changeSetting v p1 p2) v (hs.map Prod.snd) = some (r, u.1, u.2.map Prod.snd)) (fun u t => atW G (xW G.2 a u.1 (rowsF u.2) S (u.2 ++ es)) (va_A (xW G.2 a v (rowsF hs) S (hs ++ es)) sz) t) (va_A (xW G.2 a v (rowsF hs) S (hs ++ es)) sz)) 15 253 (va_A (xW G.2 a v (rowsF hs) S (hs ++ es)) sz) := by
  refine Met.ofW (cc := cX6_set) (maxL := 3) (ret := (some .int)) (by decide) rfl ?_
  intro p e s m args below meth c s₁ B hml hv
  obtain ⟨rfl, hsz, hP, hD0, hamb, hHS⟩ := hv
  have hx := B.exec
  have hb := B.bytes
  have hr := B.returns
  have hts := atoms_spec (ws := wsX6_set) B.pre
  have hown : s.vm.findClass RX6 = some m.cls := findClass_of_methodNamed B.named
  have hlocks := B.notSynchronized
  have hK := hamb.1
  subst hsz
  have hD := hD0.self (sz := s.heap.size)
  generalize hAe : va_A (xW G.2 a v (rowsF hs) S (hs ++ es)) s.heap.size = A at hD hHS ⊢
  have hA : ∀ q : Nat, s.heap.size ≤ q → A q := fun q h => by rw [← hAe]; exact Or.inr h
  have hS : va_S A s.heap s.heap [] := va_S.rf
  have hinX6 : ∀ w ∈ u_ws RX6 TX6 5, w ∈ wsX6_set := by decide +kernel
  have lk33 := hts (.fieldLink RX6 33 "MoodDrawers" "history" "LMoodDrawers$History;") (by decide +kernel)
  have lk10 := hts (.fieldLink RX6 10 "MoodDrawers" "desk" "LMoodDrawers$Desk;") (by decide +kernel)
  have hl := lv_entry ([.ref (a 21), .int p1, .int p2]) (n := 3) (Nat.le_of_ble_eq_true rfl)
  rw [lg_entry_eq]
  generalize (lg_sl ([.ref (a 21), .int p1, .int p2]) ++ List.replicate (3 - (lg_sl ([.ref (a 21), .int p1, .int p2])).length) Slot.unset).toArray = ls at hl ⊢
  have hl : lv_has ls 3 [(0, .ref (a 21)), (1, .int p1), (2, .int p2)] := hl
  refine lv_aload_n hx hb dX6_set_0 rfl (lv_at hl 0 rfl) ?_
  refine va_get (D := G.1) (ci := 6) (v := .ref (a 19)) (C := RX6) (T := TX6) (N := 5) hx hb hts hinX6 hown hK hP 0 rfl rfl 3 (by decide) lk33 (fun _ h9 => h9) rfl dX6_set_1 ?_
  refine lv_aload_n hx hb dX6_set_4 rfl (lv_at hl 0 rfl) ?_
  refine va_get (D := G.1) (ci := 6) (v := .ref (a 0)) (C := RX6) (T := TX6) (N := 5) hx hb hts hinX6 hown hK hP 0 rfl rfl 0 (by decide) lk10 (fun _ h9 => h9) rfl dX6_set_5 ?_
  refine W.widen (k := 0) (n := 0) (Nat.le_of_ble_eq_true rfl) (Nat.le_of_ble_eq_true rfl) ?_
  refine cwvP (wr := []) (w1 := fun u : HD => xW G.2 a v (rowsF (putAt hs k u)) S (putAt hs k u ++ es)) (ws1 := fun u : HD => xW G.2 a v (rowsF (putAt hs k u)) S (putAt hs k u ++ es)) (va_runV (As := [.ref (a 0)]) (rest := []) ⟨hx, hb, hml, hown, hts⟩ (ok_X2_prepare l G a _ v hs es S k hk hk6 hkl (fun w => hcp w _)) (cwV 1 hts gX6_set_X2_prepare rfl rfl rfl (by decide +kernel) ⟨Nat.le_of_ble_eq_true rfl, Nat.le_of_ble_eq_true rfl⟩) ⟨pcW_blind, va_recv hK hP (ci := 2) (q0 := 20) rfl rfl, pcW_pre hP hD hamb⟩ rfl rfl hl.1 rfl (lv_room (Nat.le_of_ble_eq_true rfl)) dX6_set_8 ⟨Nat.le_of_ble_eq_true rfl, Nat.le_of_ble_eq_true rfl⟩) hP hD hS hA (by simp) (fun _ => by simp) (fun u H locs hu hP hD hS => ?_)
  refine lv_aload_n hx hb dX6_set_11 rfl (lv_at hl 0 rfl) ?_
  refine lv_aload_n hx hb dX6_set_12 rfl (lv_at hl 0 rfl) ?_
  refine va_get (D := G.1) (ci := 6) (v := .ref (a 0)) (C := RX6) (T := TX6) (N := 5) hx hb hts hinX6 hown hK hP 0 rfl rfl 0 (by decide) lk10 (fun _ h9 => h9) rfl dX6_set_13 ?_
  refine lv_iload_n hx hb dX6_set_16 rfl (lv_at hl 1 rfl) ?_
  refine lv_iload_n hx hb dX6_set_17 rfl (lv_at hl 2 rfl) ?_
  have hpm := xW_desk G.2 a v (rowsF (putAt hs k u)) S (putAt hs k u ++ es)
  have hPc := va_P_left (va_P_perm hP hpm)
  have hDc := va_D_left (va_D_perm hD hpm)
  refine cwiP (w1 := fun u1 => deskC G.2 a u1) (ws1 := fun u1 => xW G.2 a (mx dks v u1) (rowsF (putAt hs k u)) S (putAt hs k u ++ es)) (va_runV (As := [.int p1, .int p2]) (rest := [.ref (a 21)]) ⟨hx, hb, hml, hown, hts⟩ (ok_X0_changeSetting l G a _ v p1 p2 hne) (cwV 2 hts gX6_set_X0_changeSetting rfl rfl rfl (by decide +kernel) ⟨Nat.le_of_ble_eq_true rfl, Nat.le_of_ble_eq_true rfl⟩) ⟨pcH_blind, va_recv hK hPc (ci := 0) (q0 := 0) rfl rfl, pcH_pre hPc hDc hamb hHS hS (va_freeA (va_D_perm hD hpm) hS hA)⟩ rfl rfl hl.1 rfl (lv_room (Nat.le_of_ble_eq_true rfl)) dX6_set_18 ⟨Nat.le_of_ble_eq_true rfl, Nat.le_of_ble_eq_true rfl⟩) hP hD hS hA hpm (fun u1 => xW_desk' _ _ _ u1 _ _ _) (fun r v1 H locs hw hP hD hS => ?_)
  refine cwiP (wr := []) (w1 := fun _ : Unit => xW G.2 a (recV (mx dks v v1) k r) (rowsF (recL k r (putAt hs k u))) S (putAt hs k u ++ es)) (ws1 := fun _ : Unit => xW G.2 a (recV (mx dks v v1) k r) (rowsF (recL k r (putAt hs k u))) S (recL k r (putAt hs k u) ++ es)) (va_runV (As := [.int r]) (rest := []) ⟨hx, hb, hml, hown, hts⟩ (ok_X6_recorded l G a _ (mx dks v v1) (putAt hs k u) S (putAt hs k u ++ es) k hk hk6 (putAt_len u hkl h7) (fun d hd => List.mem_append_left _ hd) r) (cwV 1 hts gX6_set_X6_recorded rfl rfl rfl (by decide +kernel) ⟨Nat.le_of_ble_eq_true rfl, Nat.le_of_ble_eq_true rfl⟩) ⟨pcW_blind, va_recv hK hP (ci := 6) (q0 := 0) rfl rfl, pcW_pre hP hD hamb⟩ rfl rfl hl.1 rfl (lv_room (Nat.le_of_ble_eq_true rfl)) dX6_set_21 ⟨Nat.le_of_ble_eq_true rfl, Nat.le_of_ble_eq_true rfl⟩) hP hD hS hA (by simp) (fun _ => by rw [List.append_nil]; exact xW_perm _ _ _ _ _ ((recL_perm k r _).append_right _)) (fun r2 _ H locs hw2 hP hD hS => ?_)
  subst hw2
  refine W.widen (k := 15) (n := 253) (Nat.le_of_ble_eq_true rfl) (Nat.le_of_ble_eq_true rfl) ?_
  have e1 : chgK k (f_X0_changeSetting v p1 p2) v (hs.map Prod.snd) = some (r2, recV (mx dks v v1) k r2, (recL k r2 (putAt hs k u)).map Prod.snd) := by
    unfold chgK
    rw [hu, hw, recL_map, putAt_map]
    rfl
  exact W.iret (v := r2) hx hb hr (fun t ht hW => ⟨⟨r2, (recV (mx dks v v1) k r2, recL k r2 (putAt hs k u)), rfl, e1, by rw [ht]; exact hP, hD⟩, hS.F ht⟩) hS.2.2 dX6_set_24
set_option maxHeartbeats 4000000 in
set_option maxRecDepth 100000 in
theorem ok_X6_write (l : Launch) (G : Gt) (a : Nat → Nat) (sz : Nat) (n0 : Nat) (v : DV) (hs es : List HD) (S : Nat → Option Nat) (k : Nat) (hk : v 22 0 = nI k) (hk6 : k ≤ 6) (hkl : k ≤ hs.length) (h7 : hs.length ≤ 7) (hcp : ∀ w u, f_X0_copyFrom w u ≠ none) (p1 : Int32) (p2 : Int32) (p3 : Int32) (hne : f_X0_writeLetter n0 v p1 p2 p3 ≠ none) : Met l yX6_write wsX6_write ({ frames := 5, cells := 15, slots := 253, locals := 125 } : Room) (pcW G [.ref (a 21), .int p1, .int p2, .int p3] (xW G.2 a v (rowsF hs) S (hs ++ es)) sz) (va_Qi (fun r (u : DV × List HD) => chgK k (f_X0_writeLetter n0 v p1 p2 p3) v (hs.map Prod.snd) = some (r, u.1, u.2.map Prod.snd)) (fun u t => atW G (xW G.2 a u.1 (rowsF u.2) S (u.2 ++ es)) (va_A (xW G.2 a v (rowsF hs) S (hs ++ es)) sz) t) (va_A (xW G.2 a v (rowsF hs) S (hs ++ es)) sz)) 15 253 (va_A (xW G.2 a v (rowsF hs) S (hs ++ es)) sz) := by
  refine Met.ofW (cc := cX6_write) (maxL := 4) (ret := (some .int)) (by decide) rfl ?_
  intro p e s m args below meth c s₁ B hml hv
  obtain ⟨rfl, hsz, hP, hD0, hamb⟩ := hv
  have hx := B.exec
  have hb := B.bytes
  have hr := B.returns
  have hts := atoms_spec (ws := wsX6_write) B.pre
  have hown : s.vm.findClass RX6 = some m.cls := findClass_of_methodNamed B.named
  have hlocks := B.notSynchronized
  have hK := hamb.1
  subst hsz
  have hD := hD0.self (sz := s.heap.size)
  generalize hAe : va_A (xW G.2 a v (rowsF hs) S (hs ++ es)) s.heap.size = A at hD ⊢
  have hA : ∀ q : Nat, s.heap.size ≤ q → A q := fun q h => by rw [← hAe]; exact Or.inr h
  have hS : va_S A s.heap s.heap [] := va_S.rf
  have hinX6 : ∀ w ∈ u_ws RX6 TX6 5, w ∈ wsX6_write := by decide +kernel
  have lk33 := hts (.fieldLink RX6 33 "MoodDrawers" "history" "LMoodDrawers$History;") (by decide +kernel)
  have lk10 := hts (.fieldLink RX6 10 "MoodDrawers" "desk" "LMoodDrawers$Desk;") (by decide +kernel)
  have hl := lv_entry ([.ref (a 21), .int p1, .int p2, .int p3]) (n := 4) (Nat.le_of_ble_eq_true rfl)
  rw [lg_entry_eq]
  generalize (lg_sl ([.ref (a 21), .int p1, .int p2, .int p3]) ++ List.replicate (4 - (lg_sl ([.ref (a 21), .int p1, .int p2, .int p3])).length) Slot.unset).toArray = ls at hl ⊢
  have hl : lv_has ls 4 [(0, .ref (a 21)), (1, .int p1), (2, .int p2), (3, .int p3)] := hl
  refine lv_aload_n hx hb dX6_write_0 rfl (lv_at hl 0 rfl) ?_
  refine va_get (D := G.1) (ci := 6) (v := .ref (a 19)) (C := RX6) (T := TX6) (N := 5) hx hb hts hinX6 hown hK hP 0 rfl rfl 3 (by decide) lk33 (fun _ h9 => h9) rfl dX6_write_1 ?_
  refine lv_aload_n hx hb dX6_write_4 rfl (lv_at hl 0 rfl) ?_
  refine va_get (D := G.1) (ci := 6) (v := .ref (a 0)) (C := RX6) (T := TX6) (N := 5) hx hb hts hinX6 hown hK hP 0 rfl rfl 0 (by decide) lk10 (fun _ h9 => h9) rfl dX6_write_5 ?_
  refine W.widen (k := 0) (n := 0) (Nat.le_of_ble_eq_true rfl) (Nat.le_of_ble_eq_true rfl) ?_
  refine cwvP (wr := []) (w1 := fun u : HD => xW G.2 a v (rowsF (putAt hs k u)) S (putAt hs k u ++ es)) (ws1 := fun u : HD => xW G.2 a v (rowsF (putAt hs k u)) S (putAt hs k u ++ es)) (va_runV (As := [.ref (a 0)]) (rest := []) ⟨hx, hb, hml, hown, hts⟩ (ok_X2_prepare l G a _ v hs es S k hk hk6 hkl (fun w => hcp w _)) (cwV 1 hts gX6_write_X2_prepare rfl rfl rfl (by decide +kernel) ⟨Nat.le_of_ble_eq_true rfl, Nat.le_of_ble_eq_true rfl⟩) ⟨pcW_blind, va_recv hK hP (ci := 2) (q0 := 20) rfl rfl, pcW_pre hP hD hamb⟩ rfl rfl hl.1 rfl (lv_room (Nat.le_of_ble_eq_true rfl)) dX6_write_8 ⟨Nat.le_of_ble_eq_true rfl, Nat.le_of_ble_eq_true rfl⟩) hP hD hS hA (by simp) (fun _ => by simp) (fun u H locs hu hP hD hS => ?_)
  refine lv_aload_n hx hb dX6_write_11 rfl (lv_at hl 0 rfl) ?_
  refine lv_aload_n hx hb dX6_write_12 rfl (lv_at hl 0 rfl) ?_
  refine va_get (D := G.1) (ci := 6) (v := .ref (a 0)) (C := RX6) (T := TX6) (N := 5) hx hb hts hinX6 hown hK hP 0 rfl rfl 0 (by decide) lk10 (fun _ h9 => h9) rfl dX6_write_13 ?_
  refine lv_iload_n hx hb dX6_write_16 rfl (lv_at hl 1 rfl) ?_
  refine lv_iload_n hx hb dX6_write_17 rfl (lv_at hl 2 rfl) ?_
  refine lv_iload_n hx hb dX6_write_18 rfl (lv_at hl 3 rfl) ?_
  have hpm := xW_desk G.2 a v (rowsF (putAt hs k u)) S (putAt hs k u ++ es)
  have hPc := va_P_left (va_P_perm hP hpm)
  have hDc := va_D_left (va_D_perm hD hpm)
  refine cwiP (w1 := fun u1 => deskC G.2 a u1) (ws1 := fun u1 => xW G.2 a (mx dks v u1) (rowsF (putAt hs k u)) S (putAt hs k u ++ es)) (va_runV (As := [.int p1, .int p2, .int p3]) (rest := [.ref (a 21)]) ⟨hx, hb, hml, hown, hts⟩ (ok_X0_writeLetter l G a _ n0 v p1 p2 p3 hne) (cwV 3 hts gX6_write_X0_writeLetter rfl rfl rfl (by decide +kernel) ⟨Nat.le_of_ble_eq_true rfl, Nat.le_of_ble_eq_true rfl⟩) ⟨pcW_blind, va_recv hK hPc (ci := 0) (q0 := 0) rfl rfl, pcW_pre hPc hDc hamb⟩ rfl rfl hl.1 rfl (lv_room (Nat.le_of_ble_eq_true rfl)) dX6_write_19 ⟨Nat.le_of_ble_eq_true rfl, Nat.le_of_ble_eq_true rfl⟩) hP hD hS hA hpm (fun u1 => xW_desk' _ _ _ u1 _ _ _) (fun r v1 H locs hw hP hD hS => ?_)
  refine cwiP (wr := []) (w1 := fun _ : Unit => xW G.2 a (recV (mx dks v v1) k r) (rowsF (recL k r (putAt hs k u))) S (putAt hs k u ++ es)) (ws1 := fun _ : Unit => xW G.2 a (recV (mx dks v v1) k r) (rowsF (recL k r (putAt hs k u))) S (recL k r (putAt hs k u) ++ es)) (va_runV (As := [.int r]) (rest := []) ⟨hx, hb, hml, hown, hts⟩ (ok_X6_recorded l G a _ (mx dks v v1) (putAt hs k u) S (putAt hs k u ++ es) k hk hk6 (putAt_len u hkl h7) (fun d hd => List.mem_append_left _ hd) r) (cwV 1 hts gX6_write_X6_recorded rfl rfl rfl (by decide +kernel) ⟨Nat.le_of_ble_eq_true rfl, Nat.le_of_ble_eq_true rfl⟩) ⟨pcW_blind, va_recv hK hP (ci := 6) (q0 := 0) rfl rfl, pcW_pre hP hD hamb⟩ rfl rfl hl.1 rfl (lv_room (Nat.le_of_ble_eq_true rfl)) dX6_write_22 ⟨Nat.le_of_ble_eq_true rfl, Nat.le_of_ble_eq_true rfl⟩) hP hD hS hA (by simp) (fun _ => by rw [List.append_nil]; exact xW_perm _ _ _ _ _ ((recL_perm k r _).append_right _)) (fun r2 _ H locs hw2 hP hD hS => ?_)
  subst hw2
  refine W.widen (k := 15) (n := 253) (Nat.le_of_ble_eq_true rfl) (Nat.le_of_ble_eq_true rfl) ?_
  have e1 : chgK k (f_X0_writeLetter n0 v p1 p2 p3) v (hs.map Prod.snd) = some (r2, recV (mx dks v v1) k r2, (recL k r2 (putAt hs k u)).map Prod.snd) := by
    unfold chgK
    rw [hu, hw, recL_map, putAt_map]
    rfl
  exact W.iret (v := r2) hx hb hr (fun t ht hW => ⟨⟨r2, (recV (mx dks v v1) k r2, recL k r2 (putAt hs k u)), rfl, e1, by rw [ht]; exact hP, hD⟩, hS.F ht⟩) hS.2.2 dX6_write_25
set_option maxHeartbeats 4000000 in
set_option maxRecDepth 100000 in
theorem ok_X6_turn (l : Launch) (G : Gt) (a : Nat → Nat) (sz : Nat) (v : DV) (hs es : List HD) (S : Nat → Option Nat) (k : Nat) (hk : v 22 0 = nI k) (hk6 : k ≤ 6) (hkl : k ≤ hs.length) (h7 : hs.length ≤ 7) (hcp : ∀ w u, f_X0_copyFrom w u ≠ none) (p1 : Int32) (hne : f_X0_turnKey v p1 ≠ none) : Met l yX6_turn wsX6_turn ({ frames := 5, cells := 15, slots := 253, locals := 125 } : Room) (pcW G [.ref (a 21), .int p1] (xW G.2 a v (rowsF hs) S (hs ++ es)) sz) (va_Qi (fun r (u : DV × List HD) => chgK k (f_X0_turnKey v p1) v (hs.map Prod.snd) = some (r, u.1, u.2.map Prod.snd)) (fun u t => atW G (xW G.2 a u.1 (rowsF u.2) S (u.2 ++ es)) (va_A (xW G.2 a v (rowsF hs) S (hs ++ es)) sz) t) (va_A (xW G.2 a v (rowsF hs) S (hs ++ es)) sz)) 15 253 (va_A (xW G.2 a v (rowsF hs) S (hs ++ es)) sz) := by
  refine Met.ofW (cc := cX6_turn) (maxL := 2) (ret := (some .int)) (by decide) rfl ?_
  intro p e s m args below meth c s₁ B hml hv
  obtain ⟨rfl, hsz, hP, hD0, hamb⟩ := hv
  have hx := B.exec
  have hb := B.bytes
  have hr := B.returns
  have hts := atoms_spec (ws := wsX6_turn) B.pre
  have hown : s.vm.findClass RX6 = some m.cls := findClass_of_methodNamed B.named
  have hlocks := B.notSynchronized
  have hK := hamb.1
  subst hsz
  have hD := hD0.self (sz := s.heap.size)
  generalize hAe : va_A (xW G.2 a v (rowsF hs) S (hs ++ es)) s.heap.size = A at hD ⊢
  have hA : ∀ q : Nat, s.heap.size ≤ q → A q := fun q h => by rw [← hAe]; exact Or.inr h
  have hS : va_S A s.heap s.heap [] := va_S.rf
  have hinX6 : ∀ w ∈ u_ws RX6 TX6 5, w ∈ wsX6_turn := by decide +kernel
  have lk33 := hts (.fieldLink RX6 33 "MoodDrawers" "history" "LMoodDrawers$History;") (by decide +kernel)
  have lk10 := hts (.fieldLink RX6 10 "MoodDrawers" "desk" "LMoodDrawers$Desk;") (by decide +kernel)
  have hl := lv_entry ([.ref (a 21), .int p1]) (n := 2) (Nat.le_of_ble_eq_true rfl)
  rw [lg_entry_eq]
  generalize (lg_sl ([.ref (a 21), .int p1]) ++ List.replicate (2 - (lg_sl ([.ref (a 21), .int p1])).length) Slot.unset).toArray = ls at hl ⊢
  have hl : lv_has ls 2 [(0, .ref (a 21)), (1, .int p1)] := hl
  refine lv_aload_n hx hb dX6_turn_0 rfl (lv_at hl 0 rfl) ?_
  refine va_get (D := G.1) (ci := 6) (v := .ref (a 19)) (C := RX6) (T := TX6) (N := 5) hx hb hts hinX6 hown hK hP 0 rfl rfl 3 (by decide) lk33 (fun _ h9 => h9) rfl dX6_turn_1 ?_
  refine lv_aload_n hx hb dX6_turn_4 rfl (lv_at hl 0 rfl) ?_
  refine va_get (D := G.1) (ci := 6) (v := .ref (a 0)) (C := RX6) (T := TX6) (N := 5) hx hb hts hinX6 hown hK hP 0 rfl rfl 0 (by decide) lk10 (fun _ h9 => h9) rfl dX6_turn_5 ?_
  refine W.widen (k := 0) (n := 0) (Nat.le_of_ble_eq_true rfl) (Nat.le_of_ble_eq_true rfl) ?_
  refine cwvP (wr := []) (w1 := fun u : HD => xW G.2 a v (rowsF (putAt hs k u)) S (putAt hs k u ++ es)) (ws1 := fun u : HD => xW G.2 a v (rowsF (putAt hs k u)) S (putAt hs k u ++ es)) (va_runV (As := [.ref (a 0)]) (rest := []) ⟨hx, hb, hml, hown, hts⟩ (ok_X2_prepare l G a _ v hs es S k hk hk6 hkl (fun w => hcp w _)) (cwV 1 hts gX6_turn_X2_prepare rfl rfl rfl (by decide +kernel) ⟨Nat.le_of_ble_eq_true rfl, Nat.le_of_ble_eq_true rfl⟩) ⟨pcW_blind, va_recv hK hP (ci := 2) (q0 := 20) rfl rfl, pcW_pre hP hD hamb⟩ rfl rfl hl.1 rfl (lv_room (Nat.le_of_ble_eq_true rfl)) dX6_turn_8 ⟨Nat.le_of_ble_eq_true rfl, Nat.le_of_ble_eq_true rfl⟩) hP hD hS hA (by simp) (fun _ => by simp) (fun u H locs hu hP hD hS => ?_)
  refine lv_aload_n hx hb dX6_turn_11 rfl (lv_at hl 0 rfl) ?_
  refine lv_aload_n hx hb dX6_turn_12 rfl (lv_at hl 0 rfl) ?_
  refine va_get (D := G.1) (ci := 6) (v := .ref (a 0)) (C := RX6) (T := TX6) (N := 5) hx hb hts hinX6 hown hK hP 0 rfl rfl 0 (by decide) lk10 (fun _ h9 => h9) rfl dX6_turn_13 ?_
  refine lv_iload_n hx hb dX6_turn_16 rfl (lv_at hl 1 rfl) ?_
  have hpm := xW_desk G.2 a v (rowsF (putAt hs k u)) S (putAt hs k u ++ es)
  have hPc := va_P_left (va_P_perm hP hpm)
  have hDc := va_D_left (va_D_perm hD hpm)
  refine cwiP (w1 := fun u1 => deskC G.2 a u1) (ws1 := fun u1 => xW G.2 a (mx dks v u1) (rowsF (putAt hs k u)) S (putAt hs k u ++ es)) (va_runV (As := [.int p1]) (rest := [.ref (a 21)]) ⟨hx, hb, hml, hown, hts⟩ (ok_X0_turnKey l G a _ v p1 hne) (cwV 1 hts gX6_turn_X0_turnKey rfl rfl rfl (by decide +kernel) ⟨Nat.le_of_ble_eq_true rfl, Nat.le_of_ble_eq_true rfl⟩) ⟨pcW_blind, va_recv hK hPc (ci := 0) (q0 := 0) rfl rfl, pcW_pre hPc hDc hamb⟩ rfl rfl hl.1 rfl (lv_room (Nat.le_of_ble_eq_true rfl)) dX6_turn_17 ⟨Nat.le_of_ble_eq_true rfl, Nat.le_of_ble_eq_true rfl⟩) hP hD hS hA hpm (fun u1 => xW_desk' _ _ _ u1 _ _ _) (fun r v1 H locs hw hP hD hS => ?_)
  refine cwiP (wr := []) (w1 := fun _ : Unit => xW G.2 a (recV (mx dks v v1) k r) (rowsF (recL k r (putAt hs k u))) S (putAt hs k u ++ es)) (ws1 := fun _ : Unit => xW G.2 a (recV (mx dks v v1) k r) (rowsF (recL k r (putAt hs k u))) S (recL k r (putAt hs k u) ++ es)) (va_runV (As := [.int r]) (rest := []) ⟨hx, hb, hml, hown, hts⟩ (ok_X6_recorded l G a _ (mx dks v v1) (putAt hs k u) S (putAt hs k u ++ es) k hk hk6 (putAt_len u hkl h7) (fun d hd => List.mem_append_left _ hd) r) (cwV 1 hts gX6_turn_X6_recorded rfl rfl rfl (by decide +kernel) ⟨Nat.le_of_ble_eq_true rfl, Nat.le_of_ble_eq_true rfl⟩) ⟨pcW_blind, va_recv hK hP (ci := 6) (q0 := 0) rfl rfl, pcW_pre hP hD hamb⟩ rfl rfl hl.1 rfl (lv_room (Nat.le_of_ble_eq_true rfl)) dX6_turn_20 ⟨Nat.le_of_ble_eq_true rfl, Nat.le_of_ble_eq_true rfl⟩) hP hD hS hA (by simp) (fun _ => by rw [List.append_nil]; exact xW_perm _ _ _ _ _ ((recL_perm k r _).append_right _)) (fun r2 _ H locs hw2 hP hD hS => ?_)
  subst hw2
  refine W.widen (k := 15) (n := 253) (Nat.le_of_ble_eq_true rfl) (Nat.le_of_ble_eq_true rfl) ?_
  have e1 : chgK k (f_X0_turnKey v p1) v (hs.map Prod.snd) = some (r2, recV (mx dks v v1) k r2, (recL k r2 (putAt hs k u)).map Prod.snd) := by
    unfold chgK
    rw [hu, hw, recL_map, putAt_map]
    rfl
  exact W.iret (v := r2) hx hb hr (fun t ht hW => ⟨⟨r2, (recV (mx dks v v1) k r2, recL k r2 (putAt hs k u)), rfl, e1, by rw [ht]; exact hP, hD⟩, hS.F ht⟩) hS.2.2 dX6_turn_23
set_option maxHeartbeats 4000000 in
set_option maxRecDepth 100000 in
theorem ok_X6_rest (l : Launch) (G : Gt) (a : Nat → Nat) (sz : Nat) (v : DV) (hs es : List HD) (S : Nat → Option Nat) (k : Nat) (hk : v 22 0 = nI k) (hk6 : k ≤ 6) (hkl : k ≤ hs.length) (h7 : hs.length ≤ 7) (hcp : ∀ w u, f_X0_copyFrom w u ≠ none) (p1 : Int32) (p2 : Int32) (hne : f_X0_changeRest v p1 p2 ≠ none) : Met l yX6_rest wsX6_rest ({ frames := 5, cells := 15, slots := 253, locals := 125 } : Room) (pcW G [.ref (a 21), .int p1, .int p2] (xW G.2 a v (rowsF hs) S (hs ++ es)) sz) (va_Qi (fun r (u : DV × List HD) => chgK k (f_X0_changeRest v p1 p2) v (hs.map Prod.snd) = some (r, u.1, u.2.map Prod.snd)) (fun u t => atW G (xW G.2 a u.1 (rowsF u.2) S (u.2 ++ es)) (va_A (xW G.2 a v (rowsF hs) S (hs ++ es)) sz) t) (va_A (xW G.2 a v (rowsF hs) S (hs ++ es)) sz)) 15 253 (va_A (xW G.2 a v (rowsF hs) S (hs ++ es)) sz) := by
  refine Met.ofW (cc := cX6_rest) (maxL := 3) (ret := (some .int)) (by decide) rfl ?_
  intro p e s m args below meth c s₁ B hml hv
  obtain ⟨rfl, hsz, hP, hD0, hamb⟩ := hv
  have hx := B.exec
  have hb := B.bytes
  have hr := B.returns
  have hts := atoms_spec (ws := wsX6_rest) B.pre
  have hown : s.vm.findClass RX6 = some m.cls := findClass_of_methodNamed B.named
  have hlocks := B.notSynchronized
  have hK := hamb.1
  subst hsz
  have hD := hD0.self (sz := s.heap.size)
  generalize hAe : va_A (xW G.2 a v (rowsF hs) S (hs ++ es)) s.heap.size = A at hD ⊢
  have hA : ∀ q : Nat, s.heap.size ≤ q → A q := fun q h => by rw [← hAe]; exact Or.inr h
  have hS : va_S A s.heap s.heap [] := va_S.rf
  have hinX6 : ∀ w ∈ u_ws RX6 TX6 5, w ∈ wsX6_rest := by decide +kernel
  have lk33 := hts (.fieldLink RX6 33 "MoodDrawers" "history" "LMoodDrawers$History;") (by decide +kernel)
  have lk10 := hts (.fieldLink RX6 10 "MoodDrawers" "desk" "LMoodDrawers$Desk;") (by decide +kernel)
  have hl := lv_entry ([.ref (a 21), .int p1, .int p2]) (n := 3) (Nat.le_of_ble_eq_true rfl)
  rw [lg_entry_eq]
  generalize (lg_sl ([.ref (a 21), .int p1, .int p2]) ++ List.replicate (3 - (lg_sl ([.ref (a 21), .int p1, .int p2])).length) Slot.unset).toArray = ls at hl ⊢
  have hl : lv_has ls 3 [(0, .ref (a 21)), (1, .int p1), (2, .int p2)] := hl
  refine lv_aload_n hx hb dX6_rest_0 rfl (lv_at hl 0 rfl) ?_
  refine va_get (D := G.1) (ci := 6) (v := .ref (a 19)) (C := RX6) (T := TX6) (N := 5) hx hb hts hinX6 hown hK hP 0 rfl rfl 3 (by decide) lk33 (fun _ h9 => h9) rfl dX6_rest_1 ?_
  refine lv_aload_n hx hb dX6_rest_4 rfl (lv_at hl 0 rfl) ?_
  refine va_get (D := G.1) (ci := 6) (v := .ref (a 0)) (C := RX6) (T := TX6) (N := 5) hx hb hts hinX6 hown hK hP 0 rfl rfl 0 (by decide) lk10 (fun _ h9 => h9) rfl dX6_rest_5 ?_
  refine W.widen (k := 0) (n := 0) (Nat.le_of_ble_eq_true rfl) (Nat.le_of_ble_eq_true rfl) ?_
  refine cwvP (wr := []) (w1 := fun u : HD => xW G.2 a v (rowsF (putAt hs k u)) S (putAt hs k u ++ es)) (ws1 := fun u : HD => xW G.2 a v (rowsF (putAt hs k u)) S (putAt hs k u ++ es)) (va_runV (As := [.ref (a 0)]) (rest := []) ⟨hx, hb, hml, hown, hts⟩ (ok_X2_prepare l G a _ v hs es S k hk hk6 hkl (fun w => hcp w _)) (cwV 1 hts gX6_rest_X2_prepare rfl rfl rfl (by decide +kernel) ⟨Nat.le_of_ble_eq_true rfl, Nat.le_of_ble_eq_true rfl⟩) ⟨pcW_blind, va_recv hK hP (ci := 2) (q0 := 20) rfl rfl, pcW_pre hP hD hamb⟩ rfl rfl hl.1 rfl (lv_room (Nat.le_of_ble_eq_true rfl)) dX6_rest_8 ⟨Nat.le_of_ble_eq_true rfl, Nat.le_of_ble_eq_true rfl⟩) hP hD hS hA (by simp) (fun _ => by simp) (fun u H locs hu hP hD hS => ?_)
  refine lv_aload_n hx hb dX6_rest_11 rfl (lv_at hl 0 rfl) ?_
  refine lv_aload_n hx hb dX6_rest_12 rfl (lv_at hl 0 rfl) ?_
  refine va_get (D := G.1) (ci := 6) (v := .ref (a 0)) (C := RX6) (T := TX6) (N := 5) hx hb hts hinX6 hown hK hP 0 rfl rfl 0 (by decide) lk10 (fun _ h9 => h9) rfl dX6_rest_13 ?_
  refine lv_iload_n hx hb dX6_rest_16 rfl (lv_at hl 1 rfl) ?_
  refine lv_iload_n hx hb dX6_rest_17 rfl (lv_at hl 2 rfl) ?_
  have hpm := xW_desk G.2 a v (rowsF (putAt hs k u)) S (putAt hs k u ++ es)
  have hPc := va_P_left (va_P_perm hP hpm)
  have hDc := va_D_left (va_D_perm hD hpm)
  refine cwiP (w1 := fun u1 => deskC G.2 a u1) (ws1 := fun u1 => xW G.2 a (mx dks v u1) (rowsF (putAt hs k u)) S (putAt hs k u ++ es)) (va_runV (As := [.int p1, .int p2]) (rest := [.ref (a 21)]) ⟨hx, hb, hml, hown, hts⟩ (ok_X0_changeRest l G a _ v p1 p2 hne) (cwV 2 hts gX6_rest_X0_changeRest rfl rfl rfl (by decide +kernel) ⟨Nat.le_of_ble_eq_true rfl, Nat.le_of_ble_eq_true rfl⟩) ⟨pcW_blind, va_recv hK hPc (ci := 0) (q0 := 0) rfl rfl, pcW_pre hPc hDc hamb⟩ rfl rfl hl.1 rfl (lv_room (Nat.le_of_ble_eq_true rfl)) dX6_rest_18 ⟨Nat.le_of_ble_eq_true rfl, Nat.le_of_ble_eq_true rfl⟩) hP hD hS hA hpm (fun u1 => xW_desk' _ _ _ u1 _ _ _) (fun r v1 H locs hw hP hD hS => ?_)
  refine cwiP (wr := []) (w1 := fun _ : Unit => xW G.2 a (recV (mx dks v v1) k r) (rowsF (recL k r (putAt hs k u))) S (putAt hs k u ++ es)) (ws1 := fun _ : Unit => xW G.2 a (recV (mx dks v v1) k r) (rowsF (recL k r (putAt hs k u))) S (recL k r (putAt hs k u) ++ es)) (va_runV (As := [.int r]) (rest := []) ⟨hx, hb, hml, hown, hts⟩ (ok_X6_recorded l G a _ (mx dks v v1) (putAt hs k u) S (putAt hs k u ++ es) k hk hk6 (putAt_len u hkl h7) (fun d hd => List.mem_append_left _ hd) r) (cwV 1 hts gX6_rest_X6_recorded rfl rfl rfl (by decide +kernel) ⟨Nat.le_of_ble_eq_true rfl, Nat.le_of_ble_eq_true rfl⟩) ⟨pcW_blind, va_recv hK hP (ci := 6) (q0 := 0) rfl rfl, pcW_pre hP hD hamb⟩ rfl rfl hl.1 rfl (lv_room (Nat.le_of_ble_eq_true rfl)) dX6_rest_21 ⟨Nat.le_of_ble_eq_true rfl, Nat.le_of_ble_eq_true rfl⟩) hP hD hS hA (by simp) (fun _ => by rw [List.append_nil]; exact xW_perm _ _ _ _ _ ((recL_perm k r _).append_right _)) (fun r2 _ H locs hw2 hP hD hS => ?_)
  subst hw2
  refine W.widen (k := 15) (n := 253) (Nat.le_of_ble_eq_true rfl) (Nat.le_of_ble_eq_true rfl) ?_
  have e1 : chgK k (f_X0_changeRest v p1 p2) v (hs.map Prod.snd) = some (r2, recV (mx dks v v1) k r2, (recL k r2 (putAt hs k u)).map Prod.snd) := by
    unfold chgK
    rw [hu, hw, recL_map, putAt_map]
    rfl
  exact W.iret (v := r2) hx hb hr (fun t ht hW => ⟨⟨r2, (recV (mx dks v v1) k r2, recL k r2 (putAt hs k u)), rfl, e1, by rw [ht]; exact hP, hD⟩, hS.F ht⟩) hS.2.2 dX6_rest_24
set_option maxHeartbeats 4000000 in
set_option maxRecDepth 100000 in
theorem ok_X6_hours (l : Launch) (G : Gt) (a : Nat → Nat) (sz : Nat) (v : DV) (hs es : List HD) (S : Nat → Option Nat) (k : Nat) (hk : v 22 0 = nI k) (hk6 : k ≤ 6) (hkl : k ≤ hs.length) (h7 : hs.length ≤ 7) (hcp : ∀ w u, f_X0_copyFrom w u ≠ none) (p1 : Int32) (p2 : Int32) (p3 : Int32) (hne : f_X0_changeHours v p1 p2 p3 ≠ none) : Met l yX6_hours wsX6_hours ({ frames := 5, cells := 15, slots := 253, locals := 125 } : Room) (pcW G [.ref (a 21), .int p1, .int p2, .int p3] (xW G.2 a v (rowsF hs) S (hs ++ es)) sz) (va_Qi (fun r (u : DV × List HD) => chgK k (f_X0_changeHours v p1 p2 p3) v (hs.map Prod.snd) = some (r, u.1, u.2.map Prod.snd)) (fun u t => atW G (xW G.2 a u.1 (rowsF u.2) S (u.2 ++ es)) (va_A (xW G.2 a v (rowsF hs) S (hs ++ es)) sz) t) (va_A (xW G.2 a v (rowsF hs) S (hs ++ es)) sz)) 15 253 (va_A (xW G.2 a v (rowsF hs) S (hs ++ es)) sz) := by
  refine Met.ofW (cc := cX6_hours) (maxL := 4) (ret := (some .int)) (by decide) rfl ?_
  intro p e s m args below meth c s₁ B hml hv
  obtain ⟨rfl, hsz, hP, hD0, hamb⟩ := hv
  have hx := B.exec
  have hb := B.bytes
  have hr := B.returns
  have hts := atoms_spec (ws := wsX6_hours) B.pre
  have hown : s.vm.findClass RX6 = some m.cls := findClass_of_methodNamed B.named
  have hlocks := B.notSynchronized
  have hK := hamb.1
  subst hsz
  have hD := hD0.self (sz := s.heap.size)
  generalize hAe : va_A (xW G.2 a v (rowsF hs) S (hs ++ es)) s.heap.size = A at hD ⊢
  have hA : ∀ q : Nat, s.heap.size ≤ q → A q := fun q h => by rw [← hAe]; exact Or.inr h
  have hS : va_S A s.heap s.heap [] := va_S.rf
  have hinX6 : ∀ w ∈ u_ws RX6 TX6 5, w ∈ wsX6_hours := by decide +kernel
  have lk33 := hts (.fieldLink RX6 33 "MoodDrawers" "history" "LMoodDrawers$History;") (by decide +kernel)
  have lk10 := hts (.fieldLink RX6 10 "MoodDrawers" "desk" "LMoodDrawers$Desk;") (by decide +kernel)
  have hl := lv_entry ([.ref (a 21), .int p1, .int p2, .int p3]) (n := 4) (Nat.le_of_ble_eq_true rfl)
  rw [lg_entry_eq]
  generalize (lg_sl ([.ref (a 21), .int p1, .int p2, .int p3]) ++ List.replicate (4 - (lg_sl ([.ref (a 21), .int p1, .int p2, .int p3])).length) Slot.unset).toArray = ls at hl ⊢
  have hl : lv_has ls 4 [(0, .ref (a 21)), (1, .int p1), (2, .int p2), (3, .int p3)] := hl
  refine lv_aload_n hx hb dX6_hours_0 rfl (lv_at hl 0 rfl) ?_
  refine va_get (D := G.1) (ci := 6) (v := .ref (a 19)) (C := RX6) (T := TX6) (N := 5) hx hb hts hinX6 hown hK hP 0 rfl rfl 3 (by decide) lk33 (fun _ h9 => h9) rfl dX6_hours_1 ?_
  refine lv_aload_n hx hb dX6_hours_4 rfl (lv_at hl 0 rfl) ?_
  refine va_get (D := G.1) (ci := 6) (v := .ref (a 0)) (C := RX6) (T := TX6) (N := 5) hx hb hts hinX6 hown hK hP 0 rfl rfl 0 (by decide) lk10 (fun _ h9 => h9) rfl dX6_hours_5 ?_
  refine W.widen (k := 0) (n := 0) (Nat.le_of_ble_eq_true rfl) (Nat.le_of_ble_eq_true rfl) ?_
  refine cwvP (wr := []) (w1 := fun u : HD => xW G.2 a v (rowsF (putAt hs k u)) S (putAt hs k u ++ es)) (ws1 := fun u : HD => xW G.2 a v (rowsF (putAt hs k u)) S (putAt hs k u ++ es)) (va_runV (As := [.ref (a 0)]) (rest := []) ⟨hx, hb, hml, hown, hts⟩ (ok_X2_prepare l G a _ v hs es S k hk hk6 hkl (fun w => hcp w _)) (cwV 1 hts gX6_hours_X2_prepare rfl rfl rfl (by decide +kernel) ⟨Nat.le_of_ble_eq_true rfl, Nat.le_of_ble_eq_true rfl⟩) ⟨pcW_blind, va_recv hK hP (ci := 2) (q0 := 20) rfl rfl, pcW_pre hP hD hamb⟩ rfl rfl hl.1 rfl (lv_room (Nat.le_of_ble_eq_true rfl)) dX6_hours_8 ⟨Nat.le_of_ble_eq_true rfl, Nat.le_of_ble_eq_true rfl⟩) hP hD hS hA (by simp) (fun _ => by simp) (fun u H locs hu hP hD hS => ?_)
  refine lv_aload_n hx hb dX6_hours_11 rfl (lv_at hl 0 rfl) ?_
  refine lv_aload_n hx hb dX6_hours_12 rfl (lv_at hl 0 rfl) ?_
  refine va_get (D := G.1) (ci := 6) (v := .ref (a 0)) (C := RX6) (T := TX6) (N := 5) hx hb hts hinX6 hown hK hP 0 rfl rfl 0 (by decide) lk10 (fun _ h9 => h9) rfl dX6_hours_13 ?_
  refine lv_iload_n hx hb dX6_hours_16 rfl (lv_at hl 1 rfl) ?_
  refine lv_iload_n hx hb dX6_hours_17 rfl (lv_at hl 2 rfl) ?_
  refine lv_iload_n hx hb dX6_hours_18 rfl (lv_at hl 3 rfl) ?_
  have hpm := xW_desk G.2 a v (rowsF (putAt hs k u)) S (putAt hs k u ++ es)
  have hPc := va_P_left (va_P_perm hP hpm)
  have hDc := va_D_left (va_D_perm hD hpm)
  refine cwiP (w1 := fun u1 => deskC G.2 a u1) (ws1 := fun u1 => xW G.2 a (mx dks v u1) (rowsF (putAt hs k u)) S (putAt hs k u ++ es)) (va_runV (As := [.int p1, .int p2, .int p3]) (rest := [.ref (a 21)]) ⟨hx, hb, hml, hown, hts⟩ (ok_X0_changeHours l G a _ v p1 p2 p3 hne) (cwV 3 hts gX6_hours_X0_changeHours rfl rfl rfl (by decide +kernel) ⟨Nat.le_of_ble_eq_true rfl, Nat.le_of_ble_eq_true rfl⟩) ⟨pcW_blind, va_recv hK hPc (ci := 0) (q0 := 0) rfl rfl, pcW_pre hPc hDc hamb⟩ rfl rfl hl.1 rfl (lv_room (Nat.le_of_ble_eq_true rfl)) dX6_hours_19 ⟨Nat.le_of_ble_eq_true rfl, Nat.le_of_ble_eq_true rfl⟩) hP hD hS hA hpm (fun u1 => xW_desk' _ _ _ u1 _ _ _) (fun r v1 H locs hw hP hD hS => ?_)
  refine cwiP (wr := []) (w1 := fun _ : Unit => xW G.2 a (recV (mx dks v v1) k r) (rowsF (recL k r (putAt hs k u))) S (putAt hs k u ++ es)) (ws1 := fun _ : Unit => xW G.2 a (recV (mx dks v v1) k r) (rowsF (recL k r (putAt hs k u))) S (recL k r (putAt hs k u) ++ es)) (va_runV (As := [.int r]) (rest := []) ⟨hx, hb, hml, hown, hts⟩ (ok_X6_recorded l G a _ (mx dks v v1) (putAt hs k u) S (putAt hs k u ++ es) k hk hk6 (putAt_len u hkl h7) (fun d hd => List.mem_append_left _ hd) r) (cwV 1 hts gX6_hours_X6_recorded rfl rfl rfl (by decide +kernel) ⟨Nat.le_of_ble_eq_true rfl, Nat.le_of_ble_eq_true rfl⟩) ⟨pcW_blind, va_recv hK hP (ci := 6) (q0 := 0) rfl rfl, pcW_pre hP hD hamb⟩ rfl rfl hl.1 rfl (lv_room (Nat.le_of_ble_eq_true rfl)) dX6_hours_22 ⟨Nat.le_of_ble_eq_true rfl, Nat.le_of_ble_eq_true rfl⟩) hP hD hS hA (by simp) (fun _ => by rw [List.append_nil]; exact xW_perm _ _ _ _ _ ((recL_perm k r _).append_right _)) (fun r2 _ H locs hw2 hP hD hS => ?_)
  subst hw2
  refine W.widen (k := 15) (n := 253) (Nat.le_of_ble_eq_true rfl) (Nat.le_of_ble_eq_true rfl) ?_
  have e1 : chgK k (f_X0_changeHours v p1 p2 p3) v (hs.map Prod.snd) = some (r2, recV (mx dks v v1) k r2, (recL k r2 (putAt hs k u)).map Prod.snd) := by
    unfold chgK
    rw [hu, hw, recL_map, putAt_map]
    rfl
  exact W.iret (v := r2) hx hb hr (fun t ht hW => ⟨⟨r2, (recV (mx dks v v1) k r2, recL k r2 (putAt hs k u)), rfl, e1, by rw [ht]; exact hP, hD⟩, hS.F ht⟩) hS.2.2 dX6_hours_25
set_option maxHeartbeats 4000000 in
set_option maxRecDepth 100000 in
theorem ok_X6_burn (l : Launch) (G : Gt) (a : Nat → Nat) (sz : Nat) (v : DV) (hs es : List HD) (S : Nat → Option Nat) (k : Nat) (hk : v 22 0 = nI k) (hk6 : k ≤ 6) (hkl : k ≤ hs.length) (h7 : hs.length ≤ 7) (hcp : ∀ w u, f_X0_copyFrom w u ≠ none) (p1 : Int32) (hne : f_X0_burnLetter v p1 ≠ none) : Met l yX6_burn wsX6_burn ({ frames := 5, cells := 15, slots := 253, locals := 125 } : Room) (pcW G [.ref (a 21), .int p1] (xW G.2 a v (rowsF hs) S (hs ++ es)) sz) (va_Qi (fun r (u : DV × List HD) => chgK k (f_X0_burnLetter v p1) v (hs.map Prod.snd) = some (r, u.1, u.2.map Prod.snd)) (fun u t => atW G (xW G.2 a u.1 (rowsF u.2) S (u.2 ++ es)) (va_A (xW G.2 a v (rowsF hs) S (hs ++ es)) sz) t) (va_A (xW G.2 a v (rowsF hs) S (hs ++ es)) sz)) 15 253 (va_A (xW G.2 a v (rowsF hs) S (hs ++ es)) sz) := by
  refine Met.ofW (cc := cX6_burn) (maxL := 2) (ret := (some .int)) (by decide) rfl ?_
  intro p e s m args below meth c s₁ B hml hv
  obtain ⟨rfl, hsz, hP, hD0, hamb⟩ := hv
  have hx := B.exec
  have hb := B.bytes
  have hr := B.returns
  have hts := atoms_spec (ws := wsX6_burn) B.pre
  have hown : s.vm.findClass RX6 = some m.cls := findClass_of_methodNamed B.named
  have hlocks := B.notSynchronized
  have hK := hamb.1
  subst hsz
  have hD := hD0.self (sz := s.heap.size)
  generalize hAe : va_A (xW G.2 a v (rowsF hs) S (hs ++ es)) s.heap.size = A at hD ⊢
  have hA : ∀ q : Nat, s.heap.size ≤ q → A q := fun q h => by rw [← hAe]; exact Or.inr h
  have hS : va_S A s.heap s.heap [] := va_S.rf
  have hinX6 : ∀ w ∈ u_ws RX6 TX6 5, w ∈ wsX6_burn := by decide +kernel
  have lk33 := hts (.fieldLink RX6 33 "MoodDrawers" "history" "LMoodDrawers$History;") (by decide +kernel)
  have lk10 := hts (.fieldLink RX6 10 "MoodDrawers" "desk" "LMoodDrawers$Desk;") (by decide +kernel)
  have hl := lv_entry ([.ref (a 21), .int p1]) (n := 2) (Nat.le_of_ble_eq_true rfl)
  rw [lg_entry_eq]
  generalize (lg_sl ([.ref (a 21), .int p1]) ++ List.replicate (2 - (lg_sl ([.ref (a 21), .int p1])).length) Slot.unset).toArray = ls at hl ⊢
  have hl : lv_has ls 2 [(0, .ref (a 21)), (1, .int p1)] := hl
  refine lv_aload_n hx hb dX6_burn_0 rfl (lv_at hl 0 rfl) ?_
  refine va_get (D := G.1) (ci := 6) (v := .ref (a 19)) (C := RX6) (T := TX6) (N := 5) hx hb hts hinX6 hown hK hP 0 rfl rfl 3 (by decide) lk33 (fun _ h9 => h9) rfl dX6_burn_1 ?_
  refine lv_aload_n hx hb dX6_burn_4 rfl (lv_at hl 0 rfl) ?_
  refine va_get (D := G.1) (ci := 6) (v := .ref (a 0)) (C := RX6) (T := TX6) (N := 5) hx hb hts hinX6 hown hK hP 0 rfl rfl 0 (by decide) lk10 (fun _ h9 => h9) rfl dX6_burn_5 ?_
  refine W.widen (k := 0) (n := 0) (Nat.le_of_ble_eq_true rfl) (Nat.le_of_ble_eq_true rfl) ?_
  refine cwvP (wr := []) (w1 := fun u : HD => xW G.2 a v (rowsF (putAt hs k u)) S (putAt hs k u ++ es)) (ws1 := fun u : HD => xW G.2 a v (rowsF (putAt hs k u)) S (putAt hs k u ++ es)) (va_runV (As := [.ref (a 0)]) (rest := []) ⟨hx, hb, hml, hown, hts⟩ (ok_X2_prepare l G a _ v hs es S k hk hk6 hkl (fun w => hcp w _)) (cwV 1 hts gX6_burn_X2_prepare rfl rfl rfl (by decide +kernel) ⟨Nat.le_of_ble_eq_true rfl, Nat.le_of_ble_eq_true rfl⟩) ⟨pcW_blind, va_recv hK hP (ci := 2) (q0 := 20) rfl rfl, pcW_pre hP hD hamb⟩ rfl rfl hl.1 rfl (lv_room (Nat.le_of_ble_eq_true rfl)) dX6_burn_8 ⟨Nat.le_of_ble_eq_true rfl, Nat.le_of_ble_eq_true rfl⟩) hP hD hS hA (by simp) (fun _ => by simp) (fun u H locs hu hP hD hS => ?_)
  refine lv_aload_n hx hb dX6_burn_11 rfl (lv_at hl 0 rfl) ?_
  refine lv_aload_n hx hb dX6_burn_12 rfl (lv_at hl 0 rfl) ?_
  refine va_get (D := G.1) (ci := 6) (v := .ref (a 0)) (C := RX6) (T := TX6) (N := 5) hx hb hts hinX6 hown hK hP 0 rfl rfl 0 (by decide) lk10 (fun _ h9 => h9) rfl dX6_burn_13 ?_
  refine lv_iload_n hx hb dX6_burn_16 rfl (lv_at hl 1 rfl) ?_
  have hpm := xW_desk G.2 a v (rowsF (putAt hs k u)) S (putAt hs k u ++ es)
  have hPc := va_P_left (va_P_perm hP hpm)
  have hDc := va_D_left (va_D_perm hD hpm)
  refine cwiP (w1 := fun u1 => deskC G.2 a u1) (ws1 := fun u1 => xW G.2 a (mx dks v u1) (rowsF (putAt hs k u)) S (putAt hs k u ++ es)) (va_runV (As := [.int p1]) (rest := [.ref (a 21)]) ⟨hx, hb, hml, hown, hts⟩ (ok_X0_burnLetter l G a _ v p1 hne) (cwV 1 hts gX6_burn_X0_burnLetter rfl rfl rfl (by decide +kernel) ⟨Nat.le_of_ble_eq_true rfl, Nat.le_of_ble_eq_true rfl⟩) ⟨pcW_blind, va_recv hK hPc (ci := 0) (q0 := 0) rfl rfl, pcW_pre hPc hDc hamb⟩ rfl rfl hl.1 rfl (lv_room (Nat.le_of_ble_eq_true rfl)) dX6_burn_17 ⟨Nat.le_of_ble_eq_true rfl, Nat.le_of_ble_eq_true rfl⟩) hP hD hS hA hpm (fun u1 => xW_desk' _ _ _ u1 _ _ _) (fun r v1 H locs hw hP hD hS => ?_)
  refine cwiP (wr := []) (w1 := fun _ : Unit => xW G.2 a (recV (mx dks v v1) k r) (rowsF (recL k r (putAt hs k u))) S (putAt hs k u ++ es)) (ws1 := fun _ : Unit => xW G.2 a (recV (mx dks v v1) k r) (rowsF (recL k r (putAt hs k u))) S (recL k r (putAt hs k u) ++ es)) (va_runV (As := [.int r]) (rest := []) ⟨hx, hb, hml, hown, hts⟩ (ok_X6_recorded l G a _ (mx dks v v1) (putAt hs k u) S (putAt hs k u ++ es) k hk hk6 (putAt_len u hkl h7) (fun d hd => List.mem_append_left _ hd) r) (cwV 1 hts gX6_burn_X6_recorded rfl rfl rfl (by decide +kernel) ⟨Nat.le_of_ble_eq_true rfl, Nat.le_of_ble_eq_true rfl⟩) ⟨pcW_blind, va_recv hK hP (ci := 6) (q0 := 0) rfl rfl, pcW_pre hP hD hamb⟩ rfl rfl hl.1 rfl (lv_room (Nat.le_of_ble_eq_true rfl)) dX6_burn_20 ⟨Nat.le_of_ble_eq_true rfl, Nat.le_of_ble_eq_true rfl⟩) hP hD hS hA (by simp) (fun _ => by rw [List.append_nil]; exact xW_perm _ _ _ _ _ ((recL_perm k r _).append_right _)) (fun r2 _ H locs hw2 hP hD hS => ?_)
  subst hw2
  refine W.widen (k := 15) (n := 253) (Nat.le_of_ble_eq_true rfl) (Nat.le_of_ble_eq_true rfl) ?_
  have e1 : chgK k (f_X0_burnLetter v p1) v (hs.map Prod.snd) = some (r2, recV (mx dks v v1) k r2, (recL k r2 (putAt hs k u)).map Prod.snd) := by
    unfold chgK
    rw [hu, hw, recL_map, putAt_map]
    rfl
  exact W.iret (v := r2) hx hb hr (fun t ht hW => ⟨⟨r2, (recV (mx dks v v1) k r2, recL k r2 (putAt hs k u)), rfl, e1, by rw [ht]; exact hP, hD⟩, hS.F ht⟩) hS.2.2 dX6_burn_23
set_option maxHeartbeats 4000000 in
set_option maxRecDepth 100000 in
theorem ok_X6_pass (l : Launch) (G : Gt) (a : Nat → Nat) (sz : Nat) (n0 : Nat) (v : DV) (hs es : List HD) (S : Nat → Option Nat) (k : Nat) (hk : v 22 0 = nI k) (hk6 : k ≤ 6) (hkl : k ≤ hs.length) (h7 : hs.length ≤ 7) (hcp : ∀ w u, f_X0_copyFrom w u ≠ none) (p1 : Int32) (hne : f_X0_passHours n0 v p1 ≠ none) : Met l yX6_pass wsX6_pass ({ frames := 5, cells := 15, slots := 253, locals := 125 } : Room) (pcW G [.ref (a 21), .int p1] (xW G.2 a v (rowsF hs) S (hs ++ es)) sz) (va_Qi (fun r (u : DV × List HD) => chgK k (f_X0_passHours n0 v p1) v (hs.map Prod.snd) = some (r, u.1, u.2.map Prod.snd)) (fun u t => atW G (xW G.2 a u.1 (rowsF u.2) S (u.2 ++ es)) (va_A (xW G.2 a v (rowsF hs) S (hs ++ es)) sz) t) (va_A (xW G.2 a v (rowsF hs) S (hs ++ es)) sz)) 15 253 (va_A (xW G.2 a v (rowsF hs) S (hs ++ es)) sz) := by
  refine Met.ofW (cc := cX6_pass) (maxL := 2) (ret := (some .int)) (by decide) rfl ?_
  intro p e s m args below meth c s₁ B hml hv
  obtain ⟨rfl, hsz, hP, hD0, hamb⟩ := hv
  have hx := B.exec
  have hb := B.bytes
  have hr := B.returns
  have hts := atoms_spec (ws := wsX6_pass) B.pre
  have hown : s.vm.findClass RX6 = some m.cls := findClass_of_methodNamed B.named
  have hlocks := B.notSynchronized
  have hK := hamb.1
  subst hsz
  have hD := hD0.self (sz := s.heap.size)
  generalize hAe : va_A (xW G.2 a v (rowsF hs) S (hs ++ es)) s.heap.size = A at hD ⊢
  have hA : ∀ q : Nat, s.heap.size ≤ q → A q := fun q h => by rw [← hAe]; exact Or.inr h
  have hS : va_S A s.heap s.heap [] := va_S.rf
  have hinX6 : ∀ w ∈ u_ws RX6 TX6 5, w ∈ wsX6_pass := by decide +kernel
  have lk33 := hts (.fieldLink RX6 33 "MoodDrawers" "history" "LMoodDrawers$History;") (by decide +kernel)
  have lk10 := hts (.fieldLink RX6 10 "MoodDrawers" "desk" "LMoodDrawers$Desk;") (by decide +kernel)
  have hl := lv_entry ([.ref (a 21), .int p1]) (n := 2) (Nat.le_of_ble_eq_true rfl)
  rw [lg_entry_eq]
  generalize (lg_sl ([.ref (a 21), .int p1]) ++ List.replicate (2 - (lg_sl ([.ref (a 21), .int p1])).length) Slot.unset).toArray = ls at hl ⊢
  have hl : lv_has ls 2 [(0, .ref (a 21)), (1, .int p1)] := hl
  refine lv_aload_n hx hb dX6_pass_0 rfl (lv_at hl 0 rfl) ?_
  refine va_get (D := G.1) (ci := 6) (v := .ref (a 19)) (C := RX6) (T := TX6) (N := 5) hx hb hts hinX6 hown hK hP 0 rfl rfl 3 (by decide) lk33 (fun _ h9 => h9) rfl dX6_pass_1 ?_
  refine lv_aload_n hx hb dX6_pass_4 rfl (lv_at hl 0 rfl) ?_
  refine va_get (D := G.1) (ci := 6) (v := .ref (a 0)) (C := RX6) (T := TX6) (N := 5) hx hb hts hinX6 hown hK hP 0 rfl rfl 0 (by decide) lk10 (fun _ h9 => h9) rfl dX6_pass_5 ?_
  refine W.widen (k := 0) (n := 0) (Nat.le_of_ble_eq_true rfl) (Nat.le_of_ble_eq_true rfl) ?_
  refine cwvP (wr := []) (w1 := fun u : HD => xW G.2 a v (rowsF (putAt hs k u)) S (putAt hs k u ++ es)) (ws1 := fun u : HD => xW G.2 a v (rowsF (putAt hs k u)) S (putAt hs k u ++ es)) (va_runV (As := [.ref (a 0)]) (rest := []) ⟨hx, hb, hml, hown, hts⟩ (ok_X2_prepare l G a _ v hs es S k hk hk6 hkl (fun w => hcp w _)) (cwV 1 hts gX6_pass_X2_prepare rfl rfl rfl (by decide +kernel) ⟨Nat.le_of_ble_eq_true rfl, Nat.le_of_ble_eq_true rfl⟩) ⟨pcW_blind, va_recv hK hP (ci := 2) (q0 := 20) rfl rfl, pcW_pre hP hD hamb⟩ rfl rfl hl.1 rfl (lv_room (Nat.le_of_ble_eq_true rfl)) dX6_pass_8 ⟨Nat.le_of_ble_eq_true rfl, Nat.le_of_ble_eq_true rfl⟩) hP hD hS hA (by simp) (fun _ => by simp) (fun u H locs hu hP hD hS => ?_)
  refine lv_aload_n hx hb dX6_pass_11 rfl (lv_at hl 0 rfl) ?_
  refine lv_aload_n hx hb dX6_pass_12 rfl (lv_at hl 0 rfl) ?_
  refine va_get (D := G.1) (ci := 6) (v := .ref (a 0)) (C := RX6) (T := TX6) (N := 5) hx hb hts hinX6 hown hK hP 0 rfl rfl 0 (by decide) lk10 (fun _ h9 => h9) rfl dX6_pass_13 ?_
  refine lv_iload_n hx hb dX6_pass_16 rfl (lv_at hl 1 rfl) ?_
  have hpm := xW_desk G.2 a v (rowsF (putAt hs k u)) S (putAt hs k u ++ es)
  have hPc := va_P_left (va_P_perm hP hpm)
  have hDc := va_D_left (va_D_perm hD hpm)
  refine cwiP (w1 := fun u1 => deskC G.2 a u1) (ws1 := fun u1 => xW G.2 a (mx dks v u1) (rowsF (putAt hs k u)) S (putAt hs k u ++ es)) (va_runV (As := [.int p1]) (rest := [.ref (a 21)]) ⟨hx, hb, hml, hown, hts⟩ (ok_X0_passHours l G a _ n0 v p1 hne) (cwV 1 hts gX6_pass_X0_passHours rfl rfl rfl (by decide +kernel) ⟨Nat.le_of_ble_eq_true rfl, Nat.le_of_ble_eq_true rfl⟩) ⟨pcW_blind, va_recv hK hPc (ci := 0) (q0 := 0) rfl rfl, pcW_pre hPc hDc hamb⟩ rfl rfl hl.1 rfl (lv_room (Nat.le_of_ble_eq_true rfl)) dX6_pass_17 ⟨Nat.le_of_ble_eq_true rfl, Nat.le_of_ble_eq_true rfl⟩) hP hD hS hA hpm (fun u1 => xW_desk' _ _ _ u1 _ _ _) (fun r v1 H locs hw hP hD hS => ?_)
  refine cwiP (wr := []) (w1 := fun _ : Unit => xW G.2 a (recV (mx dks v v1) k r) (rowsF (recL k r (putAt hs k u))) S (putAt hs k u ++ es)) (ws1 := fun _ : Unit => xW G.2 a (recV (mx dks v v1) k r) (rowsF (recL k r (putAt hs k u))) S (recL k r (putAt hs k u) ++ es)) (va_runV (As := [.int r]) (rest := []) ⟨hx, hb, hml, hown, hts⟩ (ok_X6_recorded l G a _ (mx dks v v1) (putAt hs k u) S (putAt hs k u ++ es) k hk hk6 (putAt_len u hkl h7) (fun d hd => List.mem_append_left _ hd) r) (cwV 1 hts gX6_pass_X6_recorded rfl rfl rfl (by decide +kernel) ⟨Nat.le_of_ble_eq_true rfl, Nat.le_of_ble_eq_true rfl⟩) ⟨pcW_blind, va_recv hK hP (ci := 6) (q0 := 0) rfl rfl, pcW_pre hP hD hamb⟩ rfl rfl hl.1 rfl (lv_room (Nat.le_of_ble_eq_true rfl)) dX6_pass_20 ⟨Nat.le_of_ble_eq_true rfl, Nat.le_of_ble_eq_true rfl⟩) hP hD hS hA (by simp) (fun _ => by rw [List.append_nil]; exact xW_perm _ _ _ _ _ ((recL_perm k r _).append_right _)) (fun r2 _ H locs hw2 hP hD hS => ?_)
  subst hw2
  refine W.widen (k := 15) (n := 253) (Nat.le_of_ble_eq_true rfl) (Nat.le_of_ble_eq_true rfl) ?_
  have e1 : chgK k (f_X0_passHours n0 v p1) v (hs.map Prod.snd) = some (r2, recV (mx dks v v1) k r2, (recL k r2 (putAt hs k u)).map Prod.snd) := by
    unfold chgK
    rw [hu, hw, recL_map, putAt_map]
    rfl
  exact W.iret (v := r2) hx hb hr (fun t ht hW => ⟨⟨r2, (recV (mx dks v v1) k r2, recL k r2 (putAt hs k u)), rfl, e1, by rw [ht]; exact hP, hD⟩, hS.F ht⟩) hS.2.2 dX6_pass_23
