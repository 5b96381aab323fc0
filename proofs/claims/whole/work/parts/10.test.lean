def f_X3_isLetter (v : DV) (p1 : Int32) : Int32 :=
(if p1 < 0 then
0
else
(if (v 1 0) ≤ p1 then
0
else
(if 30 ≤ p1 then
0
else
1)))
def f_X3_ofMood_L5 : Nat → DV → Int32 → Int32 → Int32 → Int32 → Option (Int32)
  | 0, _, _, _, _, _ => none
  | n + 1, v, x1, x2, x3, x4 =>
(if (v 1 0) ≤ x4 then
some x3
else
ck (ixb x4 30) (
(if ((v 7) (Int32.toNatClampNeg x4)) = x1 then
ck (ixb x4 30) (
(if ((v 11) (Int32.toNatClampNeg x4)) = x2 then
f_X3_ofMood_L5 n v x1 x2 (x3 + 1) (x4 + 1)
else
f_X3_ofMood_L5 n v x1 x2 x3 (x4 + 1)))
else
f_X3_ofMood_L5 n v x1 x2 x3 (x4 + 1))))
def f_X3_ofMood (n : Nat) (v : DV) (p1 : Int32) (p2 : Int32) : Option (Int32) :=
f_X3_ofMood_L5 n v p1 p2 0 0
def f_X3_setOf_L5 : Nat → DV → Int32 → Int64 → Int32 → Option (Int64)
  | 0, _, _, _, _ => none
  | n + 1, v, x1, x2, x4 =>
(if (v 1 0) ≤ x4 then
some x2
else
ck (ixb x4 30) (
(if ((v 11) (Int32.toNatClampNeg x4)) = x1 then
f_X3_setOf_L5 n v x1 (x2 ||| (1 <<< (Int32.toInt64 x4 &&& 63))) (x4 + 1)
else
f_X3_setOf_L5 n v x1 x2 (x4 + 1))))
def f_X3_setOf (n : Nat) (v : DV) (p1 : Int32) : Option (Int64) :=
f_X3_setOf_L5 n v p1 0 0
def f_X3_lies (v : DV) (p1 : Int32) (p2 : Int32) : Option (Int32) :=
ck (ixb p1 30) (
(if ((v 7) (Int32.toNatClampNeg p1)) = p2 then
ck (ixb p1 30) (
(if ((v 11) (Int32.toNatClampNeg p1)) = 0 then
some 1
else
some 0))
else
some 0))
def f_X0_today (v : DV) : Int32 :=
((v 0 0) / 24)
def f_X1_howManyLocked_L4 : Nat → DV → Int32 → Int32 → Option (Int32)
  | 0, _, _, _ => none
  | n + 1, v, x1, x2 =>
(if 6 ≤ x2 then
some x1
else
ck (ixb x2 6) (
f_X1_howManyLocked_L4 n v (x1 + ((v 4) (Int32.toNatClampNeg x2))) (x2 + 1)))
def f_X1_howManyLocked (n : Nat) (v : DV) : Option (Int32) :=
f_X1_howManyLocked_L4 n v 0 0
set_option maxHeartbeats 4000000 in
set_option maxRecDepth 100000 in
theorem ok_X3_isLetter (l : Launch) (G : Gt) (a : Nat → Nat) (v : DV) (p1 : Int32) : Met l yX3_isLetter wsX3_isLetter ({ frames := 0, cells := 0, slots := 0, locals := 0 } : Room) (pcR G [.ref (a 7), .int p1] (lettersC G.2 a v)) (vp_Si (fun r => r = f_X3_isLetter v p1)) 0 0 (fun _ => False) := by
  refine Met.ofW (cc := cX3_isLetter) (maxL := 2) (ret := (some .boolean)) (by decide) rfl ?_
  intro p e s m args below meth c s₁ B hml hv
  obtain ⟨rfl, hP, hamb⟩ := hv
  have hx := B.exec
  have hb := B.bytes
  have hr := B.returns
  have hts := atoms_spec (ws := wsX3_isLetter) B.pre
  have hown : s.vm.findClass RX3 = some m.cls := findClass_of_methodNamed B.named
  have hlocks := B.notSynchronized
  have hK := hamb.1
  obtain ⟨res, hf0⟩ : ∃ res, f_X3_isLetter v p1 = res := ⟨_, rfl⟩
  have hf := hf0
  rw [f_X3_isLetter] at hf
  have hinX3 : ∀ w ∈ u_ws RX3 TX3 8, w ∈ wsX3_isLetter := by decide +kernel
  have lk33 := hts (.fieldLink RX3 33 "MoodDrawers$Letters" "written" "I") (by decide +kernel)
  have hl := lv_entry ([.ref (a 7), .int p1]) (n := 2) (Nat.le_of_ble_eq_true rfl)
  rw [lg_entry_eq]
  generalize (lg_sl ([.ref (a 7), .int p1]) ++ List.replicate (2 - (lg_sl ([.ref (a 7), .int p1])).length) Slot.unset).toArray = ls at hl ⊢
  have hl : lv_has ls 2 [(0, .ref (a 7)), (1, .int p1)] := hl
  refine lv_iload_n hx hb dX3_isLetter_0 rfl (lv_at hl 1 rfl) ?_
  refine lv_if_lt (tgt := 22) hx hb dX3_isLetter_1 (by decide) (fun c => ?_) (fun c => ?_)
  · have hf := it_1 hf c
    refine lv_iconst (v := 0) hx hb dX3_isLetter_22 (by decide) ?_
    exact W.zret (ty := .boolean) (v := 0) hx hb hr rfl (fun t ht hW => ⟨0, rfl, hf.trans hf0.symm, ht⟩) (fun _ hq => absurd hq List.not_mem_nil) dX3_isLetter_23
  · have hf := it_2 hf c
    refine lv_iload_n hx hb dX3_isLetter_4 rfl (lv_at hl 1 rfl) ?_
    refine lv_aload_n hx hb dX3_isLetter_5 rfl (lv_at hl 0 rfl) ?_
    refine va_get (D := G.1) (ci := 3) (v := .int (v 1 0)) (C := RX3) (T := TX3) (N := 8) hx hb hts hinX3 hown hK hP 0 rfl rfl 0 (by decide) lk33 (fun _ h9 => h9) rfl dX3_isLetter_6 ?_
    refine lv_icmp_ge (tgt := 22) hx hb dX3_isLetter_9 (by decide) (fun c => ?_) (fun c => ?_)
    · have hf := it_1 hf c
      refine lv_iconst (v := 0) hx hb dX3_isLetter_22 (by decide) ?_
      exact W.zret (ty := .boolean) (v := 0) hx hb hr rfl (fun t ht hW => ⟨0, rfl, hf.trans hf0.symm, ht⟩) (fun _ hq => absurd hq List.not_mem_nil) dX3_isLetter_23
    · have hf := it_2 hf c
      refine lv_iload_n hx hb dX3_isLetter_12 rfl (lv_at hl 1 rfl) ?_
      refine lv_bipush (v := 30) hx hb dX3_isLetter_13 (by decide) ?_
      refine lv_icmp_ge (tgt := 22) hx hb dX3_isLetter_15 (by decide) (fun c => ?_) (fun c => ?_)
      · have hf := it_1 hf c
        refine lv_iconst (v := 0) hx hb dX3_isLetter_22 (by decide) ?_
        exact W.zret (ty := .boolean) (v := 0) hx hb hr rfl (fun t ht hW => ⟨0, rfl, hf.trans hf0.symm, ht⟩) (fun _ hq => absurd hq List.not_mem_nil) dX3_isLetter_23
      · have hf := it_2 hf c
        refine lv_iconst (v := 1) hx hb dX3_isLetter_18 (by decide) ?_
        refine lv_goto (tgt := 23) hx hb dX3_isLetter_19 (by decide) ?_
        exact W.zret (ty := .boolean) (v := 1) hx hb hr rfl (fun t ht hW => ⟨1, rfl, hf.trans hf0.symm, ht⟩) (fun _ hq => absurd hq List.not_mem_nil) dX3_isLetter_23
set_option maxHeartbeats 4000000 in
set_option maxRecDepth 100000 in
theorem ok_X3_ofMood (l : Launch) (G : Gt) (a : Nat → Nat) (n : Nat) (v : DV) (p1 : Int32) (p2 : Int32) (hne : f_X3_ofMood n v p1 p2 ≠ none) : Met l yX3_ofMood wsX3_ofMood ({ frames := 0, cells := 0, slots := 0, locals := 0 } : Room) (pcR G [.ref (a 7), .int p1, .int p2] (lettersC G.2 a v)) (vp_Si (fun r => f_X3_ofMood n v p1 p2 = some r)) 0 0 (fun _ => False) := by
  refine Met.ofW (cc := cX3_ofMood) (maxL := 5) (ret := (some .int)) (by decide) rfl ?_
  intro p e s m args below meth c s₁ B hml hv
  obtain ⟨rfl, hP, hamb⟩ := hv
  have hx := B.exec
  have hb := B.bytes
  have hr := B.returns
  have hts := atoms_spec (ws := wsX3_ofMood) B.pre
  have hown : s.vm.findClass RX3 = some m.cls := findClass_of_methodNamed B.named
  have hlocks := B.notSynchronized
  have hK := hamb.1
  obtain ⟨res, hf0⟩ : ∃ res, f_X3_ofMood n v p1 p2 = res := ⟨_, rfl⟩
  have hne : res ≠ none := hf0 ▸ hne
  have hf := hf0
  rw [f_X3_ofMood] at hf
  have hinX3 : ∀ w ∈ u_ws RX3 TX3 8, w ∈ wsX3_ofMood := by decide +kernel
  have lk33 := hts (.fieldLink RX3 33 "MoodDrawers$Letters" "written" "I") (by decide +kernel)
  have lk9 := hts (.fieldLink RX3 9 "MoodDrawers$Letters" "mood" "[I") (by decide +kernel)
  have lk24 := hts (.fieldLink RX3 24 "MoodDrawers$Letters" "how" "[I") (by decide +kernel)
  have hl := lv_entry ([.ref (a 7), .int p1, .int p2]) (n := 5) (Nat.le_of_ble_eq_true rfl)
  rw [lg_entry_eq]
  generalize (lg_sl ([.ref (a 7), .int p1, .int p2]) ++ List.replicate (5 - (lg_sl ([.ref (a 7), .int p1, .int p2])).length) Slot.unset).toArray = ls at hl ⊢
  have hl : lv_has ls 5 [(0, .ref (a 7)), (1, .int p1), (2, .int p2)] := hl
  have L5 : ∀ (n : Nat) (v : DV) (x1 : Int32) (x2 : Int32) (x3 : Int32) (x4 : Int32) (ls : Array Slot), va_P G.1 vwCl (lettersC G.2 a v) s.heap → lv_has ls 5 [(0, .ref (a 7)), (1, .int x1), (2, .int x2), (3, .int x3), (4, .int x4)] → f_X3_ofMood_L5 n v x1 x2 x3 x4 = res → W p l e (headSpec wsX3_ofMood ({ frames := 0, cells := 0, slots := 0, locals := 0 } : Room)).room s m ([.ref (a 7), .int p1, .int p2] : List Value).toArray below meth c s.heap [] 0 0 (MQ below (vp_Si (fun r => f_X3_ofMood n v p1 p2 = some r)) ([.ref (a 7), .int p1, .int p2] : List Value).toArray s 0 0 (fun _ => False)) (F0 m 5 ls []) := by
    intro n
    induction n with
    | zero => intro v x1 x2 x3 x4 ls hP hl hf; exact (none_1 hf hne).elim
    | succ n ih =>
      intro v x1 x2 x3 x4 ls hP hl hf
      rw [f_X3_ofMood_L5] at hf
      refine lv_iload hx hb dX3_ofMood_5 (lv_at hl 4 rfl) ?_
      refine lv_aload_n hx hb dX3_ofMood_7 rfl (lv_at hl 0 rfl) ?_
      refine va_get (D := G.1) (ci := 3) (v := .int (v 1 0)) (C := RX3) (T := TX3) (N := 8) hx hb hts hinX3 hown hK hP 0 rfl rfl 0 (by decide) lk33 (fun _ h9 => h9) rfl dX3_ofMood_8 ?_
      refine lv_icmp_ge (tgt := 45) hx hb dX3_ofMood_11 (by decide) (fun c => ?_) (fun c => ?_)
      · have hf := it_1 hf c
        refine lv_iload_n hx hb dX3_ofMood_45 rfl (lv_at hl 3 rfl) ?_
        exact W.iret (v := x3) hx hb hr (fun t ht hW => ⟨x3, rfl, hf0.trans hf.symm, ht⟩) (fun _ hq => absurd hq List.not_mem_nil) dX3_ofMood_46
      · have hf := it_2 hf c
        refine lv_aload_n hx hb dX3_ofMood_14 rfl (lv_at hl 0 rfl) ?_
        refine va_get (D := G.1) (ci := 3) (v := .ref (a 8)) (C := RX3) (T := TX3) (N := 8) hx hb hts hinX3 hown hK hP 0 rfl rfl 1 (by decide) lk9 (fun _ h9 => h9) rfl dX3_ofMood_15 ?_
        refine lv_iload hx hb dX3_ofMood_18 (lv_at hl 4 rfl) ?_
        obtain ⟨hi, hf⟩ := ck_1 hf hne
        refine va_iald (f := (v 7)) hx hb hK hP 1 0 rfl rfl (ixb_1 hi) dX3_ofMood_20 ?_
        refine lv_iload_n hx hb dX3_ofMood_21 rfl (lv_at hl 1 rfl) ?_
        refine lv_icmp_ne (tgt := 39) hx hb dX3_ofMood_22 (by decide) (fun c => ?_) (fun c => ?_)
        · have hf := it_2 hf c
          refine lv_iinc (v := (x4 + 1)) (lv' := [(4, .int (x4 + 1)), (0, .ref (a 7)), (1, .int x1), (2, .int x2), (3, .int x3)]) hx hb dX3_ofMood_39 hl (k := 4) rfl rfl (by decide) rfl (fun ls hl => ?_)
          refine lv_goto (tgt := 5) hx hb dX3_ofMood_42 (by decide) ?_
          exact ih v x1 x2 x3 (x4 + 1) ls hP (lv_sub hl [1, 2, 3, 4, 0] rfl) hf
        · have hf := it_1 hf c
          refine lv_aload_n hx hb dX3_ofMood_25 rfl (lv_at hl 0 rfl) ?_
          refine va_get (D := G.1) (ci := 3) (v := .ref (a 12)) (C := RX3) (T := TX3) (N := 8) hx hb hts hinX3 hown hK hP 0 rfl rfl 5 (by decide) lk24 (fun _ h9 => h9) rfl dX3_ofMood_26 ?_
          refine lv_iload hx hb dX3_ofMood_29 (lv_at hl 4 rfl) ?_
          obtain ⟨hi, hf⟩ := ck_1 hf hne
          refine va_iald (f := (v 11)) hx hb hK hP 5 0 rfl rfl (ixb_1 hi) dX3_ofMood_31 ?_
          refine lv_iload_n hx hb dX3_ofMood_32 rfl (lv_at hl 2 rfl) ?_
          refine lv_icmp_ne (tgt := 39) hx hb dX3_ofMood_33 (by decide) (fun c => ?_) (fun c => ?_)
          · have hf := it_2 hf c
            refine lv_iinc (v := (x4 + 1)) (lv' := [(4, .int (x4 + 1)), (0, .ref (a 7)), (1, .int x1), (2, .int x2), (3, .int x3)]) hx hb dX3_ofMood_39 hl (k := 4) rfl rfl (by decide) rfl (fun ls hl => ?_)
            refine lv_goto (tgt := 5) hx hb dX3_ofMood_42 (by decide) ?_
            exact ih v x1 x2 x3 (x4 + 1) ls hP (lv_sub hl [1, 2, 3, 4, 0] rfl) hf
          · have hf := it_1 hf c
            refine lv_iinc (v := (x3 + 1)) (lv' := [(3, .int (x3 + 1)), (0, .ref (a 7)), (1, .int x1), (2, .int x2), (4, .int x4)]) hx hb dX3_ofMood_36 hl (k := 3) rfl rfl (by decide) rfl (fun ls hl => ?_)
            refine lv_iinc (v := (x4 + 1)) (lv' := [(4, .int (x4 + 1)), (3, .int (x3 + 1)), (0, .ref (a 7)), (1, .int x1), (2, .int x2)]) hx hb dX3_ofMood_39 hl (k := 4) rfl rfl (by decide) rfl (fun ls hl => ?_)
            refine lv_goto (tgt := 5) hx hb dX3_ofMood_42 (by decide) ?_
            exact ih v x1 x2 (x3 + 1) (x4 + 1) ls hP (lv_sub hl [2, 3, 4, 1, 0] rfl) hf
  refine lv_iconst (v := 0) hx hb dX3_ofMood_0 (by decide) ?_
  refine lv_istore_n (lv' := [(3, .int 0), (0, .ref (a 7)), (1, .int p1), (2, .int p2)]) hx hb dX3_ofMood_1 rfl hl (by decide) rfl (fun ls hl => ?_)
  refine lv_iconst (v := 0) hx hb dX3_ofMood_2 (by decide) ?_
  refine lv_istore (lv' := [(4, .int 0), (3, .int 0), (0, .ref (a 7)), (1, .int p1), (2, .int p2)]) hx hb dX3_ofMood_3 hl (by decide) rfl (fun ls hl => ?_)
  exact L5 n v p1 p2 0 0 ls hP (lv_sub hl [2, 3, 4, 1, 0] rfl) hf
set_option maxHeartbeats 4000000 in
set_option maxRecDepth 100000 in
theorem ok_X3_setOf (l : Launch) (G : Gt) (a : Nat → Nat) (n : Nat) (v : DV) (p1 : Int32) (hne : f_X3_setOf n v p1 ≠ none) : Met l yX3_setOf wsX3_setOf ({ frames := 0, cells := 0, slots := 0, locals := 0 } : Room) (pcR G [.ref (a 7), .int p1] (lettersC G.2 a v)) (vp_Sl (fun r => f_X3_setOf n v p1 = some r)) 0 0 (fun _ => False) := by
  refine Met.ofW (cc := cX3_setOf) (maxL := 5) (ret := (some .long)) (by decide) rfl ?_
  intro p e s m args below meth c s₁ B hml hv
  obtain ⟨rfl, hP, hamb⟩ := hv
  have hx := B.exec
  have hb := B.bytes
  have hr := B.returns
  have hts := atoms_spec (ws := wsX3_setOf) B.pre
  have hown : s.vm.findClass RX3 = some m.cls := findClass_of_methodNamed B.named
  have hlocks := B.notSynchronized
  have hK := hamb.1
  obtain ⟨res, hf0⟩ : ∃ res, f_X3_setOf n v p1 = res := ⟨_, rfl⟩
  have hne : res ≠ none := hf0 ▸ hne
  have hf := hf0
  rw [f_X3_setOf] at hf
  have hinX3 : ∀ w ∈ u_ws RX3 TX3 8, w ∈ wsX3_setOf := by decide +kernel
  have lk33 := hts (.fieldLink RX3 33 "MoodDrawers$Letters" "written" "I") (by decide +kernel)
  have lk24 := hts (.fieldLink RX3 24 "MoodDrawers$Letters" "how" "[I") (by decide +kernel)
  have hl := lv_entry ([.ref (a 7), .int p1]) (n := 5) (Nat.le_of_ble_eq_true rfl)
  rw [lg_entry_eq]
  generalize (lg_sl ([.ref (a 7), .int p1]) ++ List.replicate (5 - (lg_sl ([.ref (a 7), .int p1])).length) Slot.unset).toArray = ls at hl ⊢
  have hl : lv_has ls 5 [(0, .ref (a 7)), (1, .int p1)] := hl
  have L5 : ∀ (n : Nat) (v : DV) (x1 : Int32) (x2 : Int64) (x4 : Int32) (ls : Array Slot), va_P G.1 vwCl (lettersC G.2 a v) s.heap → lv_has ls 5 [(0, .ref (a 7)), (1, .int x1), (2, .long x2), (4, .int x4)] → f_X3_setOf_L5 n v x1 x2 x4 = res → W p l e (headSpec wsX3_setOf ({ frames := 0, cells := 0, slots := 0, locals := 0 } : Room)).room s m ([.ref (a 7), .int p1] : List Value).toArray below meth c s.heap [] 0 0 (MQ below (vp_Sl (fun r => f_X3_setOf n v p1 = some r)) ([.ref (a 7), .int p1] : List Value).toArray s 0 0 (fun _ => False)) (F0 m 5 ls []) := by
    intro n
    induction n with
    | zero => intro v x1 x2 x4 ls hP hl hf; exact (none_1 hf hne).elim
    | succ n ih =>
      intro v x1 x2 x4 ls hP hl hf
      rw [f_X3_setOf_L5] at hf
      refine lv_iload hx hb dX3_setOf_5 (lv_at hl 3 rfl) ?_
      refine lv_aload_n hx hb dX3_setOf_7 rfl (lv_at hl 0 rfl) ?_
      refine va_get (D := G.1) (ci := 3) (v := .int (v 1 0)) (C := RX3) (T := TX3) (N := 8) hx hb hts hinX3 hown hK hP 0 rfl rfl 0 (by decide) lk33 (fun _ h9 => h9) rfl dX3_setOf_8 ?_
      refine lv_icmp_ge (tgt := 38) hx hb dX3_setOf_11 (by decide) (fun c => ?_) (fun c => ?_)
      · have hf := it_1 hf c
        refine lv_lload_n hx hb dX3_setOf_38 rfl (lv_at hl 2 rfl) ?_
        exact W.lret (v := x2) hx hb hr (fun t ht hW => ⟨x2, rfl, hf0.trans hf.symm, ht⟩) (fun _ hq => absurd hq List.not_mem_nil) dX3_setOf_39
      · have hf := it_2 hf c
        refine lv_aload_n hx hb dX3_setOf_14 rfl (lv_at hl 0 rfl) ?_
        refine va_get (D := G.1) (ci := 3) (v := .ref (a 12)) (C := RX3) (T := TX3) (N := 8) hx hb hts hinX3 hown hK hP 0 rfl rfl 5 (by decide) lk24 (fun _ h9 => h9) rfl dX3_setOf_15 ?_
        refine lv_iload hx hb dX3_setOf_18 (lv_at hl 3 rfl) ?_
        obtain ⟨hi, hf⟩ := ck_1 hf hne
        refine va_iald (f := (v 11)) hx hb hK hP 5 0 rfl rfl (ixb_1 hi) dX3_setOf_20 ?_
        refine lv_iload_n hx hb dX3_setOf_21 rfl (lv_at hl 1 rfl) ?_
        refine lv_icmp_ne (tgt := 32) hx hb dX3_setOf_22 (by decide) (fun c => ?_) (fun c => ?_)
        · have hf := it_2 hf c
          refine lv_iinc (v := (x4 + 1)) (lv' := [(4, .int (x4 + 1)), (0, .ref (a 7)), (1, .int x1), (2, .long x2)]) hx hb dX3_setOf_32 hl (k := 3) rfl rfl (by decide) rfl (fun ls hl => ?_)
          refine lv_goto (tgt := 5) hx hb dX3_setOf_35 (by decide) ?_
          exact ih v x1 x2 (x4 + 1) ls hP (lv_sub hl [1, 2, 3, 0] rfl) hf
        · have hf := it_1 hf c
          refine lv_lload_n hx hb dX3_setOf_25 rfl (lv_at hl 2 rfl) ?_
          refine lv_lconst (v := 1) hx hb dX3_setOf_26 (by decide) ?_
          refine lv_iload hx hb dX3_setOf_27 (lv_at hl 3 rfl) ?_
          refine lv_lshl hx hb dX3_setOf_29 rfl ?_
          refine lv_lor hx hb dX3_setOf_30 ?_
          refine lv_lstore_n (lv' := [(2, .long (x2 ||| (1 <<< (Int32.toInt64 x4 &&& 63)))), (0, .ref (a 7)), (1, .int x1), (4, .int x4)]) hx hb dX3_setOf_31 rfl hl (by decide) rfl (fun ls hl => ?_)
          refine lv_iinc (v := (x4 + 1)) (lv' := [(4, .int (x4 + 1)), (2, .long (x2 ||| (1 <<< (Int32.toInt64 x4 &&& 63)))), (0, .ref (a 7)), (1, .int x1)]) hx hb dX3_setOf_32 hl (k := 3) rfl rfl (by decide) rfl (fun ls hl => ?_)
          refine lv_goto (tgt := 5) hx hb dX3_setOf_35 (by decide) ?_
          exact ih v x1 (x2 ||| (1 <<< (Int32.toInt64 x4 &&& 63))) (x4 + 1) ls hP (lv_sub hl [2, 3, 1, 0] rfl) hf
  refine lv_lconst (v := 0) hx hb dX3_setOf_0 (by decide) ?_
  refine lv_lstore_n (lv' := [(2, .long 0), (0, .ref (a 7)), (1, .int p1)]) hx hb dX3_setOf_1 rfl hl (by decide) rfl (fun ls hl => ?_)
  refine lv_iconst (v := 0) hx hb dX3_setOf_2 (by decide) ?_
  refine lv_istore (lv' := [(4, .int 0), (2, .long 0), (0, .ref (a 7)), (1, .int p1)]) hx hb dX3_setOf_3 hl (by decide) rfl (fun ls hl => ?_)
  exact L5 n v p1 0 0 ls hP (lv_sub hl [2, 3, 1, 0] rfl) hf
set_option maxHeartbeats 4000000 in
set_option maxRecDepth 100000 in
theorem ok_X3_lies (l : Launch) (G : Gt) (a : Nat → Nat) (v : DV) (p1 : Int32) (p2 : Int32) (hne : f_X3_lies v p1 p2 ≠ none) : Met l yX3_lies wsX3_lies ({ frames := 0, cells := 0, slots := 0, locals := 0 } : Room) (pcR G [.ref (a 7), .int p1, .int p2] (lettersC G.2 a v)) (vp_Si (fun r => f_X3_lies v p1 p2 = some r)) 0 0 (fun _ => False) := by
  refine Met.ofW (cc := cX3_lies) (maxL := 3) (ret := (some .boolean)) (by decide) rfl ?_
  intro p e s m args below meth c s₁ B hml hv
  obtain ⟨rfl, hP, hamb⟩ := hv
  have hx := B.exec
  have hb := B.bytes
  have hr := B.returns
  have hts := atoms_spec (ws := wsX3_lies) B.pre
  have hown : s.vm.findClass RX3 = some m.cls := findClass_of_methodNamed B.named
  have hlocks := B.notSynchronized
  have hK := hamb.1
  obtain ⟨res, hf0⟩ : ∃ res, f_X3_lies v p1 p2 = res := ⟨_, rfl⟩
  have hne : res ≠ none := hf0 ▸ hne
  have hf := hf0
  rw [f_X3_lies] at hf
  have hinX3 : ∀ w ∈ u_ws RX3 TX3 8, w ∈ wsX3_lies := by decide +kernel
  have lk9 := hts (.fieldLink RX3 9 "MoodDrawers$Letters" "mood" "[I") (by decide +kernel)
  have lk24 := hts (.fieldLink RX3 24 "MoodDrawers$Letters" "how" "[I") (by decide +kernel)
  have hl := lv_entry ([.ref (a 7), .int p1, .int p2]) (n := 3) (Nat.le_of_ble_eq_true rfl)
  rw [lg_entry_eq]
  generalize (lg_sl ([.ref (a 7), .int p1, .int p2]) ++ List.replicate (3 - (lg_sl ([.ref (a 7), .int p1, .int p2])).length) Slot.unset).toArray = ls at hl ⊢
  have hl : lv_has ls 3 [(0, .ref (a 7)), (1, .int p1), (2, .int p2)] := hl
  refine lv_aload_n hx hb dX3_lies_0 rfl (lv_at hl 0 rfl) ?_
  refine va_get (D := G.1) (ci := 3) (v := .ref (a 8)) (C := RX3) (T := TX3) (N := 8) hx hb hts hinX3 hown hK hP 0 rfl rfl 1 (by decide) lk9 (fun _ h9 => h9) rfl dX3_lies_1 ?_
  refine lv_iload_n hx hb dX3_lies_4 rfl (lv_at hl 1 rfl) ?_
  obtain ⟨hi, hf⟩ := ck_1 hf hne
  refine va_iald (f := (v 7)) hx hb hK hP 1 0 rfl rfl (ixb_1 hi) dX3_lies_5 ?_
  refine lv_iload_n hx hb dX3_lies_6 rfl (lv_at hl 2 rfl) ?_
  refine lv_icmp_ne (tgt := 23) hx hb dX3_lies_7 (by decide) (fun c => ?_) (fun c => ?_)
  · have hf := it_2 hf c
    refine lv_iconst (v := 0) hx hb dX3_lies_23 (by decide) ?_
    exact W.zret (ty := .boolean) (v := 0) hx hb hr rfl (fun t ht hW => ⟨0, rfl, hf0.trans hf.symm, ht⟩) (fun _ hq => absurd hq List.not_mem_nil) dX3_lies_24
  · have hf := it_1 hf c
    refine lv_aload_n hx hb dX3_lies_10 rfl (lv_at hl 0 rfl) ?_
    refine va_get (D := G.1) (ci := 3) (v := .ref (a 12)) (C := RX3) (T := TX3) (N := 8) hx hb hts hinX3 hown hK hP 0 rfl rfl 5 (by decide) lk24 (fun _ h9 => h9) rfl dX3_lies_11 ?_
    refine lv_iload_n hx hb dX3_lies_14 rfl (lv_at hl 1 rfl) ?_
    obtain ⟨hi, hf⟩ := ck_1 hf hne
    refine va_iald (f := (v 11)) hx hb hK hP 5 0 rfl rfl (ixb_1 hi) dX3_lies_15 ?_
    refine lv_if_ne (tgt := 23) hx hb dX3_lies_16 (by decide) (fun c => ?_) (fun c => ?_)
    · have hf := it_2 hf c
      refine lv_iconst (v := 0) hx hb dX3_lies_23 (by decide) ?_
      exact W.zret (ty := .boolean) (v := 0) hx hb hr rfl (fun t ht hW => ⟨0, rfl, hf0.trans hf.symm, ht⟩) (fun _ hq => absurd hq List.not_mem_nil) dX3_lies_24
    · have hf := it_1 hf c
      refine lv_iconst (v := 1) hx hb dX3_lies_19 (by decide) ?_
      refine lv_goto (tgt := 24) hx hb dX3_lies_20 (by decide) ?_
      exact W.zret (ty := .boolean) (v := 1) hx hb hr rfl (fun t ht hW => ⟨1, rfl, hf0.trans hf.symm, ht⟩) (fun _ hq => absurd hq List.not_mem_nil) dX3_lies_24
set_option maxHeartbeats 4000000 in
set_option maxRecDepth 100000 in
theorem ok_X0_today (l : Launch) (G : Gt) (a : Nat → Nat) (v : DV) : Met l yX0_today wsX0_today ({ frames := 0, cells := 0, slots := 0, locals := 0 } : Room) (pcR G [.ref (a 0)] (deskC G.2 a v)) (vp_Si (fun r => r = f_X0_today v)) 0 0 (fun _ => False) := by
  refine Met.ofW (cc := cX0_today) (maxL := 1) (ret := (some .int)) (by decide) rfl ?_
  intro p e s m args below meth c s₁ B hml hv
  obtain ⟨rfl, hP, hamb⟩ := hv
  have hx := B.exec
  have hb := B.bytes
  have hr := B.returns
  have hts := atoms_spec (ws := wsX0_today) B.pre
  have hown : s.vm.findClass RX0 = some m.cls := findClass_of_methodNamed B.named
  have hlocks := B.notSynchronized
  have hK := hamb.1
  obtain ⟨res, hf0⟩ : ∃ res, f_X0_today v = res := ⟨_, rfl⟩
  have hf := hf0
  rw [f_X0_today] at hf
  have hinX0 : ∀ w ∈ u_ws RX0 TX0 4, w ∈ wsX0_today := by decide +kernel
  have lk33 := hts (.fieldLink RX0 33 "MoodDrawers$Desk" "now" "I") (by decide +kernel)
  have hl := lv_entry ([.ref (a 0)]) (n := 1) (Nat.le_of_ble_eq_true rfl)
  rw [lg_entry_eq]
  generalize (lg_sl ([.ref (a 0)]) ++ List.replicate (1 - (lg_sl ([.ref (a 0)])).length) Slot.unset).toArray = ls at hl ⊢
  have hl : lv_has ls 1 [(0, .ref (a 0))] := hl
  refine lv_aload_n hx hb dX0_today_0 rfl (lv_at hl 0 rfl) ?_
  refine va_get (D := G.1) (ci := 0) (v := .int (v 0 0)) (C := RX0) (T := TX0) (N := 4) hx hb hts hinX0 hown hK hP 0 rfl rfl 1 (by decide) lk33 (fun _ h9 => h9) rfl dX0_today_1 ?_
  refine lv_bipush (v := 24) hx hb dX0_today_4 (by decide) ?_
  refine lv_idiv hx hb dX0_today_6 (by decide) ?_
  exact W.iret (v := ((v 0 0) / 24)) hx hb hr (fun t ht hW => ⟨((v 0 0) / 24), rfl, hf.trans hf0.symm, ht⟩) (fun _ hq => absurd hq List.not_mem_nil) dX0_today_7
set_option maxHeartbeats 4000000 in
set_option maxRecDepth 100000 in
theorem ok_X1_howManyLocked (l : Launch) (G : Gt) (a : Nat → Nat) (n : Nat) (v : DV) (hne : f_X1_howManyLocked n v ≠ none) : Met l yX1_howManyLocked wsX1_howManyLocked ({ frames := 0, cells := 0, slots := 0, locals := 0 } : Room) (pcR G [.ref (a 2)] (drawersC G.2 a v)) (vp_Si (fun r => f_X1_howManyLocked n v = some r)) 0 0 (fun _ => False) := by
  refine Met.ofW (cc := cX1_howManyLocked) (maxL := 3) (ret := (some .int)) (by decide) rfl ?_
  intro p e s m args below meth c s₁ B hml hv
  obtain ⟨rfl, hP, hamb⟩ := hv
  have hx := B.exec
  have hb := B.bytes
  have hr := B.returns
  have hts := atoms_spec (ws := wsX1_howManyLocked) B.pre
  have hown : s.vm.findClass RX1 = some m.cls := findClass_of_methodNamed B.named
  have hlocks := B.notSynchronized
  have hK := hamb.1
  obtain ⟨res, hf0⟩ : ∃ res, f_X1_howManyLocked n v = res := ⟨_, rfl⟩
  have hne : res ≠ none := hf0 ▸ hne
  have hf := hf0
  rw [f_X1_howManyLocked] at hf
  have hinX1 : ∀ w ∈ u_ws RX1 TX1 4, w ∈ wsX1_howManyLocked := by decide +kernel
  have lk15 := hts (.fieldLink RX1 15 "MoodDrawers$Drawers" "locked" "[I") (by decide +kernel)
  have hl := lv_entry ([.ref (a 2)]) (n := 3) (Nat.le_of_ble_eq_true rfl)
  rw [lg_entry_eq]
  generalize (lg_sl ([.ref (a 2)]) ++ List.replicate (3 - (lg_sl ([.ref (a 2)])).length) Slot.unset).toArray = ls at hl ⊢
  have hl : lv_has ls 3 [(0, .ref (a 2))] := hl
  have L4 : ∀ (n : Nat) (v : DV) (x1 : Int32) (x2 : Int32) (ls : Array Slot), va_P G.1 vwCl (drawersC G.2 a v) s.heap → lv_has ls 3 [(0, .ref (a 2)), (1, .int x1), (2, .int x2)] → f_X1_howManyLocked_L4 n v x1 x2 = res → W p l e (headSpec wsX1_howManyLocked ({ frames := 0, cells := 0, slots := 0, locals := 0 } : Room)).room s m ([.ref (a 2)] : List Value).toArray below meth c s.heap [] 0 0 (MQ below (vp_Si (fun r => f_X1_howManyLocked n v = some r)) ([.ref (a 2)] : List Value).toArray s 0 0 (fun _ => False)) (F0 m 4 ls []) := by
    intro n
    induction n with
    | zero => intro v x1 x2 ls hP hl hf; exact (none_1 hf hne).elim
    | succ n ih =>
      intro v x1 x2 ls hP hl hf
      rw [f_X1_howManyLocked_L4] at hf
      refine lv_iload_n hx hb dX1_howManyLocked_4 rfl (lv_at hl 2 rfl) ?_
      refine lv_bipush (v := 6) hx hb dX1_howManyLocked_5 (by decide) ?_
      refine lv_icmp_ge (tgt := 25) hx hb dX1_howManyLocked_7 (by decide) (fun c => ?_) (fun c => ?_)
      · have hf := it_1 hf c
        refine lv_iload_n hx hb dX1_howManyLocked_25 rfl (lv_at hl 1 rfl) ?_
        exact W.iret (v := x1) hx hb hr (fun t ht hW => ⟨x1, rfl, hf0.trans hf.symm, ht⟩) (fun _ hq => absurd hq List.not_mem_nil) dX1_howManyLocked_26
      · have hf := it_2 hf c
        refine lv_iload_n hx hb dX1_howManyLocked_10 rfl (lv_at hl 1 rfl) ?_
        refine lv_aload_n hx hb dX1_howManyLocked_11 rfl (lv_at hl 0 rfl) ?_
        refine va_get (D := G.1) (ci := 1) (v := .ref (a 4)) (C := RX1) (T := TX1) (N := 4) hx hb hts hinX1 hown hK hP 0 rfl rfl 1 (by decide) lk15 (fun _ h9 => h9) rfl dX1_howManyLocked_12 ?_
        refine lv_iload_n hx hb dX1_howManyLocked_15 rfl (lv_at hl 2 rfl) ?_
        obtain ⟨hi, hf⟩ := ck_1 hf hne
        refine va_iald (f := (v 4)) hx hb hK hP 2 0 rfl rfl (ixb_1 hi) dX1_howManyLocked_16 ?_
        refine lv_iadd hx hb dX1_howManyLocked_17 ?_
        refine lv_istore_n (lv' := [(1, .int (x1 + ((v 4) (Int32.toNatClampNeg x2)))), (0, .ref (a 2)), (2, .int x2)]) hx hb dX1_howManyLocked_18 rfl hl (by decide) rfl (fun ls hl => ?_)
        refine lv_iinc (v := (x2 + 1)) (lv' := [(2, .int (x2 + 1)), (1, .int (x1 + ((v 4) (Int32.toNatClampNeg x2)))), (0, .ref (a 2))]) hx hb dX1_howManyLocked_19 hl (k := 2) rfl rfl (by decide) rfl (fun ls hl => ?_)
        refine lv_goto (tgt := 4) hx hb dX1_howManyLocked_22 (by decide) ?_
        exact ih v (x1 + ((v 4) (Int32.toNatClampNeg x2))) (x2 + 1) ls hP (lv_sub hl [2, 1, 0] rfl) hf
  refine lv_iconst (v := 0) hx hb dX1_howManyLocked_0 (by decide) ?_
  refine lv_istore_n (lv' := [(1, .int 0), (0, .ref (a 2))]) hx hb dX1_howManyLocked_1 rfl hl (by decide) rfl (fun ls hl => ?_)
  refine lv_iconst (v := 0) hx hb dX1_howManyLocked_2 (by decide) ?_
  refine lv_istore_n (lv' := [(2, .int 0), (1, .int 0), (0, .ref (a 2))]) hx hb dX1_howManyLocked_3 rfl hl (by decide) rfl (fun ls hl => ?_)
  exact L4 n v 0 0 ls hP (lv_sub hl [2, 1, 0] rfl) hf
