/-! The desk alone: a sound desk says more; one hour, hours. -/
/-- what more a sound desk keeps: when and how hot a letter went, and that answers are written later -/
def MORE (v : DV) (N w : Nat) : Prop := ∀ k, k < w → (v 11 k = 1 → (∃ t, t ≤ N / 24 ∧ v 12 k = nI t) ∧ tn (v 13 k) ≤ tn (v 8 k)) ∧ (¬ v 11 k = 1 → v 12 k = -6) ∧ (∀ j, j < k → v 10 k = nI j → tn (v 12 j) ≤ tn (v 9 k))
def GD (v : DV) (N w : Nat) : Prop := INV v N w ∧ N < 24000 ∧ MORE v N w
theorem GD_deq {u v : DV} {N w : Nat} (h : GD v N w) (e : DEQ u v) : GD u N w := by
  obtain ⟨hI, hN, hM⟩ := h
  refine ⟨INV_deq hI e, hN, fun k hk => ?_⟩
  have h30 := hI.1.2.2
  obtain ⟨e7, e8, e9, e10, e11, e12, e13⟩ := e.2.2.2.2 k (by omega)
  obtain ⟨a, b, c⟩ := hM k hk
  rw [e8, e9, e10, e11, e12, e13]
  exact ⟨a, b, fun j hj q => by rw [(e.2.2.2.2 j (by omega)).2.2.2.2.2.1]; exact c j hj q⟩
section HC
variable {N w : Nat}
theorem send_c {M : Nat} (hM : M < 2 ^ 30) {g : Nat → Bool} (hg : ∀ j, M.testBit j = (decide (j < w) && g j)) : ∀ (r i n : Nat) (v : DV), i + r = w → r < n → INV v N w → ∃ v2, f_X0_send_L2 n v (lN M) (nI i) = some (f_J13_bitCount_95d88 (lN M), v2) ∧ INV v2 N w ∧ (∀ j, j ≠ 11 → j ≠ 12 → j ≠ 13 → v2 j = v j) ∧ (∀ j, j < w → (i ≤ j ∧ g j = true → v2 11 j = 1 ∧ v2 12 j = v 0 0 / 24 ∧ v2 13 j = heatS v j) ∧ (¬ (i ≤ j ∧ g j = true) → v2 11 j = v 11 j ∧ v2 12 j = v 12 j ∧ v2 13 j = v 13 j))
  | 0, i, n, v, hi, hn, hI => by
    obtain ⟨n, rfl⟩ := up1 hn
    have h30 := hI.1.2.2
    rw [f_X0_send_L2, hI.1.2.1, if_pos (nI_le (by omega) (by omega))]
    exact ⟨v, rfl, hI, fun _ _ _ _ => rfl, fun j hj => ⟨fun h => absurd h.1 (by omega), fun _ => ⟨rfl, rfl, rfl⟩⟩⟩
  | r + 1, i, n, v, hi, hn, hI => by
    obtain ⟨n, rfl⟩ := up1 (show 0 < n by omega)
    have h30 := hI.1.2.2
    have hiw : i < w := by omega
    rw [f_X0_send_L2, hI.1.2.1, if_neg (nI_ge (by omega) (by omega))]
    have hbit : M.testBit i = g i := by rw [hg i, decide_eq_true hiw, Bool.true_and]
    simp only [nI_1]
    by_cases q : g i = true
    · rw [if_pos ((bit_test hM (by omega)).mpr (by rw [hbit, q])), heatNow_eq v (by omega)]
      simp only [bd1_s, ixb_nI (show i < 30 by omega) (by decide), ck_t, clq (show i < 2 ^ 31 by omega)]
      obtain ⟨v2, a1, a3, a7, a8⟩ := send_c hM hg r (i + 1) n (sendV v i) (by omega) (by omega) (send_INV hI hiw)
      refine ⟨v2, a1, a3, fun j j1 j2 j3 => ?_, fun j hj => ?_⟩
      · rw [a7 j j1 j2 j3]
        unfold sendV
        rw [vs_o _ _ j1, vs_o _ _ j2, vs_o _ _ j3]
      · obtain ⟨b1, b2⟩ := a8 j hj
        by_cases e : j = i
        · subst e
          obtain ⟨c1, c2, c3⟩ := b2 (fun h => absurd h.1 (by omega))
          refine ⟨fun _ => ⟨?_, ?_, ?_⟩, fun h => absurd (⟨Nat.le_refl j, q⟩ : j ≤ j ∧ g j = true) h⟩
          · rw [c1]; exact upd_s _ _ _
          · rw [c2]; exact upd_s _ _ _
          · rw [c3]; exact upd_s _ _ _
        · have hh : heatS (sendV v i) j = heatS v j := by
            show (if upd (v 11) i 1 j = 1 then upd (v 13) i (heatS v i) j else _) = _
            rw [upd_o _ _ e, upd_o _ _ e]
            rfl
          refine ⟨fun h => ?_, fun h => ?_⟩
          · obtain ⟨c1, c2, c3⟩ := b1 ⟨by omega, h.2⟩
            exact ⟨c1, c2, by rw [c3, hh]⟩
          · obtain ⟨c1, c2, c3⟩ := b2 (fun h2 => h ⟨by omega, h2.2⟩)
            refine ⟨?_, ?_, ?_⟩
            · rw [c1]; exact upd_o _ _ e
            · rw [c2]; exact upd_o _ _ e
            · rw [c3]; exact upd_o _ _ e
    · rw [if_neg (fun h => q (by rw [← hbit]; exact (bit_test hM (by omega)).mp h))]
      obtain ⟨v2, a1, a3, a7, a8⟩ := send_c hM hg r (i + 1) n v (by omega) (by omega) hI
      refine ⟨v2, a1, a3, a7, fun j hj => ?_⟩
      obtain ⟨b1, b2⟩ := a8 j hj
      refine ⟨fun h => b1 ⟨?_, h.2⟩, fun h => b2 (fun h2 => h ⟨by omega, h2.2⟩)⟩
      rcases Nat.lt_or_ge i j with e | e
      · exact e
      · have : j = i := by omega
        subst this
        exact absurd h.2 q
/-- whether a letter goes in this hour -/
def GO (v : DV) (N j : Nat) : Prop := nI (N % 24) = v 2 0 ∧ v 11 j = 0 ∧ keyS v (nI (N % 24)) (tn (v 7 j)) = 0 ∧ rdy v j ≤ N / 24
theorem hour_c {v : DV} (hI : INV v N w) (hN : N + 1 < 100000) {n : Nat} (hn : 200 ≤ n) : ∃ v2 c, (∀ x1 x2 x3, ¬ x1 ≤ x3 → f_X0_passHours_L37 (n + 1) v x1 x2 x3 = f_X0_passHours_L37 n v2 x1 (x2 + nI c) (x3 + 1)) ∧ INV v2 (N + 1) w ∧ cntP (isP v2 1) w = cntP (isP v 1) w + c ∧ (∀ j, j ≠ 0 → j ≠ 4 → j ≠ 11 → j ≠ 12 → j ≠ 13 → v2 j = v j) ∧ (∀ d, d < 6 → v2 4 d = keyS v (nI (N % 24)) d) ∧ (∀ j, j < w → (GO v N j → v2 11 j = 1 ∧ v2 12 j = nI (N / 24) ∧ v2 13 j = heatS v j) ∧ (¬ GO v N j → v2 11 j = v 11 j ∧ v2 12 j = v 12 j ∧ v2 13 j = v 13 j)) := by
  have h30 := hI.1.2.2
  have eh : f_X0_hourOfDay v = nI (N % 24) := by unfold f_X0_hourOfDay; rw [hI.1.1, hour_nI (by omega)]
  obtain ⟨c, c1, c2⟩ := turnKeys_eq v (nI (N % 24)) (show 100 ≤ n by omega)
  have hI1 := keys_INV hI (nI (N % 24)) c2
  have eh1 : f_X0_hourOfDay (vs v 4 c) = nI (N % 24) := eh
  have hstep : ∀ x1 x2 x3, ¬ x1 ≤ x3 → f_X0_passHours_L37 (n + 1) v x1 x2 x3 = (if nI (N % 24) = v 2 0 then
    bd1 (f_X0_setThatWouldGo n (vs v 4 c)) (fun r69 =>
    bd2 (f_X0_send n (vs v 4 c) r69) (fun r72 v72 =>
    f_X0_passHours_L37 n (vs v72 0 (fun _ => ((v72 0 0) + 1))) x1 (x2 + r72) (x3 + 1)))
    else
    f_X0_passHours_L37 n (vs (vs v 4 c) 0 (fun _ => nI (N + 1))) x1 x2 (x3 + 1)) := by
    intro x1 x2 x3 hx
    rw [f_X0_passHours_L37, if_neg hx, eh, c1, bd1_s, mx_keys, eh1, cl_0, show (vs v 4 c) 2 0 = v 2 0 from rfl, show (vs v 4 c) 0 0 = nI N from hI.1.1, nI_1]
  have hgo : ∀ j, j < w → (goS (vs v 4 c) (N / 24) j = true ↔ v 11 j = 0 ∧ keyS v (nI (N % 24)) (tn (v 7 j)) = 0 ∧ rdy v j ≤ N / 24) := by
    intro j hj
    have hd := (hI.let hj).1.2
    rw [← c2 (tn (v 7 j)) (by omega)]
    show (decide (v 11 j = 0) && (decide (c (tn (v 7 j)) = 0) && decide (rdy v j ≤ N / 24))) = true ↔ _
    rw [Bool.and_eq_true, Bool.and_eq_true, decide_eq_true_iff, decide_eq_true_iff, decide_eq_true_iff]
  by_cases q : nI (N % 24) = v 2 0
  · obtain ⟨M, hM, s1, s2⟩ := swg_eq hI1 (show 100 ≤ n by omega)
    obtain ⟨v2, a1, a3, a7, a8⟩ := send_c hM s2 w 0 n (vs v 4 c) (by omega) (by omega) hI1
    refine ⟨vs v2 0 (fun _ => nI (N + 1)), cntP (goS (vs v 4 c) (N / 24)) w, fun x1 x2 x3 hx => ?_, clock_INV a3 hN, ?_, fun j j0 j4 j11 j12 j13 => ?_, fun d hd => ?_, fun j hj => ?_⟩
    · rw [hstep x1 x2 x3 hx, if_pos q, s1, bd1_s]
      unfold f_X0_send
      rw [show f_X0_send_L2 n (vs v 4 c) (lN M) 0 = _ from a1, bd2_s, a3.1.1, nI_1, bitCount_pop hM, pop_cntP h30 s2]
    · show cntP (isP v2 1) w = _
      refine cntP_or (fun j hj => ?_)
      obtain ⟨b1, b2⟩ := a8 j hj
      show decide (v2 11 j = 1) = (decide (v 11 j = 1) || goS (vs v 4 c) (N / 24) j) ∧ (decide (v 11 j = 1) && goS (vs v 4 c) (N / 24) j) = false
      by_cases e : goS (vs v 4 c) (N / 24) j = true
      · have h0 : v 11 j = 0 := goS_0 (v := vs v 4 c) e
        rw [(b1 ⟨Nat.zero_le j, e⟩).1, e, h0]
        exact ⟨rfl, by decide⟩
      · have e' : goS (vs v 4 c) (N / 24) j = false := by cases h : goS (vs v 4 c) (N / 24) j with | false => rfl | true => exact absurd h e
        rw [(b2 (fun h => e h.2)).1, e', show (vs v 4 c) 11 j = v 11 j from rfl, Bool.or_false, Bool.and_false]
        exact ⟨rfl, rfl⟩
    · rw [vs_o _ _ j0, a7 j j11 j12 j13, vs_o _ _ j4]
    · show v2 4 d = _
      rw [a7 4 (by decide) (by decide) (by decide), vs_s, c2 d hd]
    · show (GO v N j → v2 11 j = 1 ∧ v2 12 j = nI (N / 24) ∧ v2 13 j = heatS v j) ∧ (¬ GO v N j → v2 11 j = v 11 j ∧ v2 12 j = v 12 j ∧ v2 13 j = v 13 j)
      obtain ⟨b1, b2⟩ := a8 j hj
      refine ⟨fun h => ?_, fun h => b2 (fun e => h ⟨q, (hgo j hj).mp e.2⟩)⟩
      obtain ⟨d1, d2, d3⟩ := b1 ⟨Nat.zero_le j, (hgo j hj).mpr h.2⟩
      refine ⟨d1, ?_, d3⟩
      rw [d2, show (vs v 4 c) 0 0 = nI N from hI.1.1, today_nI (by omega)]
  · refine ⟨vs (vs v 4 c) 0 (fun _ => nI (N + 1)), 0, fun x1 x2 x3 hx => ?_, clock_INV hI1 hN, rfl, fun j j0 j4 _ _ _ => by rw [vs_o _ _ j0, vs_o _ _ j4], fun d hd => ?_, fun j hj => ⟨fun h => absurd h.1 q, fun _ => ⟨rfl, rfl, rfl⟩⟩⟩
    · rw [hstep x1 x2 x3 hx, if_neg q]
      rw [show x2 + nI 0 = x2 from Int32.add_zero x2]
    · show (vs v 4 c) 4 d = _
      rw [vs_s, c2 d hd]
/-- a letter that goes has cooled -/
theorem go_cool {v : DV} (hI : INV v N w) {j : Nat} (hj : j < w) (h : GO v N j) : tn (heatS v j) ≤ tn (v 2 1) ∧ tn (heatS v j) ≤ tn (v 8 j) := by
  obtain ⟨-, h0, -, hr⟩ := h
  obtain ⟨-, ⟨e1, e2⟩, ⟨e3, e4⟩⟩ := hI.let hj
  have hN := hI.2.2.2.2.2
  rw [heatS_N hI hj (by rw [h0]; decide), tn_nI (by omega)]
  have := (rdyN_iff (hh := tn (v 8 j)) (cc := tn (v 2 1)) (cl := tn (v 2 2)) (rs := tn (v 3 (tn (v 7 j)))) e4 (by omega)).mp hr
  exact ⟨this.2, Nat.sub_le _ _⟩
theorem hour_GD {v v2 : DV} (h : GD v N w) (hN : N + 1 < 24000) (hI2 : INV v2 (N + 1) w) (hs : ∀ j, j ≠ 0 → j ≠ 4 → j ≠ 11 → j ≠ 12 → j ≠ 13 → v2 j = v j) (hk : ∀ j, j < w → (GO v N j → v2 11 j = 1 ∧ v2 12 j = nI (N / 24) ∧ v2 13 j = heatS v j) ∧ (¬ GO v N j → v2 11 j = v 11 j ∧ v2 12 j = v 12 j ∧ v2 13 j = v 13 j)) : GD v2 (N + 1) w := by
  obtain ⟨hI, -, hM⟩ := h
  refine ⟨hI2, hN, fun k hkw => ?_⟩
  have h30 := hI.1.2.2
  have hle : N / 24 ≤ (N + 1) / 24 := by omega
  obtain ⟨a, b, c⟩ := hM k hkw
  obtain ⟨b1, b2⟩ := hk k hkw
  rw [hs 8 (by decide) (by decide) (by decide) (by decide) (by decide), hs 9 (by decide) (by decide) (by decide) (by decide) (by decide), hs 10 (by decide) (by decide) (by decide) (by decide) (by decide)]
  have h3 : ∀ j, j < k → v 10 k = nI j → tn (v2 12 j) ≤ tn (v 9 k) := by
    intro j hj e
    have hj1 : v 11 j = 1 := by
      obtain ⟨-, -, -, ha, -⟩ := hI.2.2.2.1 k hkw
      rcases ha with e2 | ⟨i, hi, e2, e3⟩
      · exact absurd (e.symm.trans e2) (nI_ne6 (by omega))
      · have : i = j := (nI_eq (by omega) (by omega)).mp (e2.symm.trans e)
        rw [← this]; exact e3
    rw [((hk j (by omega)).2 (fun g => by rw [g.2.1] at hj1; exact absurd hj1 (by decide))).2.1]
    exact c j hj e
  by_cases q : GO v N k
  · obtain ⟨d1, d2, d3⟩ := b1 q
    refine ⟨fun _ => ⟨⟨N / 24, hle, d2⟩, ?_⟩, fun e => absurd d1 e, h3⟩
    rw [d3]
    exact (go_cool hI hkw q).2
  · obtain ⟨d1, d2, d3⟩ := b2 q
    rw [d1, d2, d3]
    refine ⟨fun e => ?_, b, h3⟩
    obtain ⟨⟨t, ht, e2⟩, e3⟩ := a e
    exact ⟨⟨t, by omega, e2⟩, e3⟩
end HC
