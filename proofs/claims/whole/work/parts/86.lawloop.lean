/-! The law's loop. -/
theorem sub4_lt {L i : Nat} (hL : L ≤ 2048) (hi : i ≤ 4096) : nI L - 4 < nI i ↔ L < i + 4 := by
  by_cases c : 4 ≤ L
  · rw [show (4 : Int32) = nI 4 from rfl, nI_subn c]
    constructor
    · intro h
      refine Decidable.byContradiction (fun q => ?_)
      exact nI_nlt (a := L - 4) (b := i) (by omega) (by omega) h
    · intro h
      exact nI_lt (by omega) (by omega)
  · refine ⟨fun _ => by omega, fun _ => ?_⟩
    rw [Int32.lt_iff_toInt_lt, nI_toInt (by omega)]
    rcases (show L = 0 ∨ L = 1 ∨ L = 2 ∨ L = 3 by omega) with q | q | q | q <;> subst q
    · rw [show (nI 0 - 4).toInt = -4 from by decide]; omega
    · rw [show (nI 1 - 4).toInt = -3 from by decide]; omega
    · rw [show (nI 2 - 4).toInt = -2 from by decide]; omega
    · rw [show (nI 3 - 4).toInt = -1 from by decide]; omega
set_option maxHeartbeats 4000000 in
set_option maxRecDepth 100000 in
/-- one call: whatever its kind, it goes on at 758 -/
theorem law_switch {p : Program} {l : Launch} {e : Env} {s : State} {m : MethodId} {args : Array Value} {below : List Frame} {meth : Method} {c : Code} {H : Heap} {locs : List Loc} {cells slots : Nat} {Q : State → Prop} {G : Gt} {a b : Nat → Nat} {A : Nat → Prop} {b0 L : Nat} {xs : Nat → Int32} {ls : Array Slot} {i : Nat} (C : LC p s m args c G A b0 L xs) {v : DV} {hs : List HD} {sl : Nat → Option HD} {k : Nat} {m0 : DV} (h : LSt G a b A s H locs v hs sl k m0) (hl : lv_has ls 4 [(0, .ref b0), (1, .ref (a 21)), (2, .ref (b 0)), (3, .int (nI i))]) (hi : i + 4 ≤ L) (hL : L ≤ 2048) (hc : cells + 15 ≤ room_1.cells) (hsl : slots + 253 ≤ room_1.slots) (kk : LK p l e room_1 s m args below meth c Q G a b A ls (cells + 15) (slots + 253) 758) (x : Int32) : W p l e room_1 s m args below meth c H locs cells slots Q (F0 m 32 ls [.int x]) := by
  have hx := C.1
  have hb := C.2.1
  by_cases ho : x.toInt < 0 ∨ 23 < x.toInt
  · exact lv_tableOut (tgt := 758) hx hb dL_law_32 ho (by decide) (W.widen (Nat.le_add_right cells 15) (Nat.le_add_right slots 253) (kk v hs sl k m0 H locs h))
  have h1 : ¬ x.toInt < 0 := fun q => ho (Or.inl q)
  have h2 : ¬ 23 < x.toInt := fun q => ho (Or.inr q)
  obtain ⟨j, hj⟩ : ∃ j : Nat, x.toInt = (j : Int) := ⟨x.toInt.toNat, by omega⟩
  have hj23 : j ≤ 23 := by omega
  rcases (show j = 0 ∨ j = 1 ∨ j = 2 ∨ j = 3 ∨ j = 4 ∨ j = 5 ∨ j = 6 ∨ j = 7 ∨ j = 8 ∨ j = 9 ∨ j = 10 ∨ j = 11 ∨ j = 12 ∨ j = 13 ∨ j = 14 ∨ j = 15 ∨ j = 16 ∨ j = 17 ∨ j = 18 ∨ j = 19 ∨ j = 20 ∨ j = 21 ∨ j = 22 ∨ j = 23 by omega) with q | q | q | q | q | q | q | q | q | q | q | q | q | q | q | q | q | q | q | q | q | q | q | q <;> subst q
  · exact lv_tableIn (off := 112) (tgt := 144) hx hb dL_law_32 h1 h2 (by rw [hj]; rfl) (by decide) (law_set C h hl hi hL hc hsl kk)
  · exact lv_tableIn (off := 145) (tgt := 177) hx hb dL_law_32 h1 h2 (by rw [hj]; rfl) (by decide) (law_write C h hl hi hL hc hsl kk)
  · exact lv_tableIn (off := 188) (tgt := 220) hx hb dL_law_32 h1 h2 (by rw [hj]; rfl) (by decide) (law_turn C h hl hi hL hc hsl kk)
  · exact lv_tableIn (off := 211) (tgt := 243) hx hb dL_law_32 h1 h2 (by rw [hj]; rfl) (by decide) (law_rest C h hl hi hL hc hsl kk)
  · exact lv_tableIn (off := 244) (tgt := 276) hx hb dL_law_32 h1 h2 (by rw [hj]; rfl) (by decide) (law_hours C h hl hi hL hc hsl kk)
  · exact lv_tableIn (off := 287) (tgt := 319) hx hb dL_law_32 h1 h2 (by rw [hj]; rfl) (by decide) (law_burn C h hl hi hL hc hsl kk)
  · exact lv_tableIn (off := 310) (tgt := 342) hx hb dL_law_32 h1 h2 (by rw [hj]; rfl) (by decide) (law_pass C h hl hi hL hc hsl kk)
  · exact lv_tableIn (off := 333) (tgt := 365) hx hb dL_law_32 h1 h2 (by rw [hj]; rfl) (by decide) (law_ofLetter C h hl hi hL hc hsl kk)
  · exact lv_tableIn (off := 366) (tgt := 398) hx hb dL_law_32 h1 h2 (by rw [hj]; rfl) (by decide) (law_ofDrawer C h hl hi hL hc hsl kk)
  · exact lv_tableIn (off := 399) (tgt := 431) hx hb dL_law_32 h1 h2 (by rw [hj]; rfl) (by decide) (law_letters C h hl hi hL hc hsl kk)
  · exact lv_tableIn (off := 423) (tgt := 455) hx hb dL_law_32 h1 h2 (by rw [hj]; rfl) (by decide) (law_count C h hl hi hL hc hsl kk)
  · exact lv_tableIn (off := 446) (tgt := 478) hx hb dL_law_32 h1 h2 (by rw [hj]; rfl) (by decide) (law_meanHeat C h hl hi hL hc hsl kk)
  · exact lv_tableIn (off := 460) (tgt := 492) hx hb dL_law_32 h1 h2 (by rw [hj]; rfl) (by decide) (law_share C h hl hi hL hc hsl kk)
  · exact lv_tableIn (off := 473) (tgt := 505) hx hb dL_law_32 h1 h2 (by rw [hj]; rfl) (by decide) (law_goesIn C h hl hi hL hc hsl kk)
  · exact lv_tableIn (off := 496) (tgt := 528) hx hb dL_law_32 h1 h2 (by rw [hj]; rfl) (by decide) (law_bestPost C h hl hi hL hc hsl kk)
  · exact lv_tableIn (off := 529) (tgt := 561) hx hb dL_law_32 h1 h2 (by rw [hj]; rfl) (by decide) (law_mostRegretted C h hl hi hL hc hsl kk)
  · exact lv_tableIn (off := 542) (tgt := 574) hx hb dL_law_32 h1 h2 (by rw [hj]; rfl) (by decide) (law_ifSent C h hl hi hL hc hsl kk)
  · exact lv_tableIn (off := 575) (tgt := 607) hx hb dL_law_32 h1 h2 (by rw [hj]; rfl) (by decide) (law_put C h hl hi hL hc hsl kk)
  · exact lv_tableIn (off := 628) (tgt := 660) hx hb dL_law_32 h1 h2 (by rw [hj]; rfl) (by decide) (law_wipe C h hl hi hL hc hsl kk)
  · exact lv_tableIn (off := 641) (tgt := 673) hx hb dL_law_32 h1 h2 (by rw [hj]; rfl) (by decide) (law_fault C h hl hi hL hc hsl kk)
  · exact lv_tableIn (off := 654) (tgt := 686) hx hb dL_law_32 h1 h2 (by rw [hj]; rfl) (by decide) (law_carryOut C h hl hi hL hc hsl kk)
  · exact lv_tableIn (off := 667) (tgt := 699) hx hb dL_law_32 h1 h2 (by rw [hj]; rfl) (by decide) (law_undo C h hl hi hL hc hsl kk)
  · exact lv_tableIn (off := 680) (tgt := 712) hx hb dL_law_32 h1 h2 (by rw [hj]; rfl) (by decide) (law_save C h hl hi hL hc hsl kk)
  · exact lv_tableIn (off := 703) (tgt := 735) hx hb dL_law_32 h1 h2 (by rw [hj]; rfl) (by decide) (law_restore C h hl hi hL hc hsl kk)
set_option maxHeartbeats 4000000 in
set_option maxRecDepth 100000 in
theorem law_loop {p : Program} {l : Launch} {e : Env} {s : State} {m : MethodId} {below : List Frame} {meth : Method} {c : Code} {G : Gt} {a b : Nat → Nat} {b0 L : Nat} {xs : Nat → Int32} (C : LC p s m #[Value.ref b0] c G (fun q : Nat => s.heap.size ≤ q) b0 L xs) (hr : meth.sig.returnType = ret) (hlocks : meth.locks = false) (hL : L ≤ 2048) : ∀ (n i : Nat) (v : DV) (hs : List HD) (sl : Nat → Option HD) (k : Nat) (m0 : DV) (H : Heap) (locs : List Loc) (cells slots : Nat) (ls : Array Slot), L < i + 4 * n → i ≤ L → cells + 15 * n ≤ 600000 → slots + 253 * n ≤ 7302250 → LSt G a b (fun q : Nat => s.heap.size ≤ q) s H locs v hs sl k m0 → lv_has ls 4 [(0, .ref b0), (1, .ref (a 21)), (2, .ref (b 0)), (3, .int (nI i))] → W p l e room_1 s m #[Value.ref b0] below meth c H locs cells slots (lw_Z below #[Value.ref b0] s) (F0 m 18 ls []) := by
  intro n
  induction n with
  | zero => intro i v hs sl k m0 H locs cells slots ls h1 h2; exact absurd h1 (by omega)
  | succ n ih =>
    intro i v hs sl k m0 H locs cells slots ls hn hi hcl hsl h hl
    obtain ⟨hx, hb, hml, hown, hts, hamb, hX, hbl, hbA, hA, hHS⟩ := id C
    obtain ⟨hSim, hP, hD, hS⟩ := id h
    refine lv_iload_n hx hb dL_law_18 rfl (lv_at hl 3 rfl) ?_
    refine lv_aload_n hx hb dL_law_19 rfl (lv_at hl 0 rfl) ?_
    refine va_slen hx hb hX hbl hbA hS dL_law_20 ?_
    refine lv_iconst (v := 4) hx hb dL_law_21 (by decide) ?_
    refine lv_isub hx hb dL_law_22 ?_
    refine lv_icmp_gt (tgt := 764) hx hb dL_law_23 (by decide) (fun c9 => ?_) (fun c9 => ?_)
    · refine lv_iconst (v := 1) hx hb dL_law_764 (by decide) ?_
      refine va_forget (fun q hq => hS.2.2 q hq) ?_
      refine W.widen (k := 600000) (n := 7302250) (by omega) (by omega) ?_
      exact lw_ret (Drawn.sameBut.refl s.drawn lw_cs) hx hb hr hlocks dL_law_765
    · have hi4 : i + 4 ≤ L := by
        refine Decidable.byContradiction (fun q => c9 ?_)
        exact (sub4_lt hL (by omega)).mpr (by omega)
      have h0 : vp_in (nI i) L := vp_in_nI (by omega) (by omega)
      refine lv_aload_n hx hb dL_law_26 rfl (lv_at hl 0 rfl) ?_
      refine lv_iload_n hx hb dL_law_27 rfl (lv_at hl 3 rfl) ?_
      refine va_sld hx hb hX hbl hbA hS h0 dL_law_28 ?_
      refine lv_bipush (v := 31) hx hb dL_law_29 (by decide) ?_
      refine lv_iand hx hb dL_law_31 ?_
      refine law_switch C h hl hi4 hL (show cells + 15 ≤ 600000 by omega) (show slots + 253 ≤ 7302250 by omega) (fun v2 hs2 sl2 k2 m2 H2 locs2 h2 => ?_) _
      refine lv_iinc (v := nI (i + 4)) (lv' := [(3, .int (nI (i + 4))), (0, .ref b0), (1, .ref (a 21)), (2, .ref (b 0))]) hx hb dL_law_758 hl (k := 3) rfl (nI_add i 4) (by decide) rfl (fun ls hl => ?_)
      refine lv_goto (tgt := 18) hx hb dL_law_761 (by decide) ?_
      exact ih (i + 4) v2 hs2 sl2 k2 m2 H2 locs2 (cells + 15) (slots + 253) ls (by omega) (by omega) (by omega) (by omega) h2 (lv_sub hl [1, 2, 3, 0] rfl)
