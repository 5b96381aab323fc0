/-! One hour on both sides; pass. -/
section PS
variable {N w : Nat}
theorem goS_0 {v : DV} {T i : Nat} (h : goS v T i = true) : v 11 i = 0 := by
  unfold goS at h
  rw [Bool.and_eq_true, decide_eq_true_iff] at h
  exact h.1
theorem send_both {M : Nat} (hM : M < 2 ^ 30) {g : Nat → Bool} (hg : ∀ j, M.testBit j = (decide (j < w) && g j)) (A : Nat) : ∀ (r i n n' : Nat) (v m : DV), i + r = w → r < n → r < n' → INV v N w → REL v (m 0) N w → v 2 0 = nI (N % 24) → (∀ j, i ≤ j → j < w → goS v (N / 24) j = g j) → cntP (isP v 1) w = A + cntP g i → ∃ v2 m2 n2, f_X0_send_L2 n v (lN M) (nI i) = some (f_J13_bitCount_95d88 (lN M), v2) ∧ f_X7_hour_L82 n' m (nI i) = f_X7_hour_J164 n2 m2 ∧ INV v2 N w ∧ REL v2 (m2 0) N w ∧ cntP (isP v2 1) w = A + cntP g w ∧ (∀ q, q ≠ 0 → m2 q = m q) ∧ (∀ j, j ≠ 11 → j ≠ 12 → j ≠ 13 → v2 j = v j) ∧ (∀ j, j < w → v2 11 j = if i ≤ j ∧ g j = true then 1 else v 11 j)
  | 0, i, n, n', v, m, hi, hn, hn', hI, hR, h2, hgo, hA => by
    obtain ⟨n, rfl⟩ := up1 hn
    obtain ⟨n', rfl⟩ := up1 hn'
    have h30 := hI.1.2.2
    have : i = w := by omega
    subst this
    rw [f_X0_send_L2, f_X7_hour_L82, hI.1.2.1, cl_5, hR.1.2.2.2.2.2, if_pos (nI_le (Nat.le_refl _) (by omega)), if_pos (nI_le (Nat.le_refl _) (by omega))]
    exact ⟨v, m, n', rfl, rfl, hI, hR, hA, fun _ _ => rfl, fun _ _ _ _ => rfl, fun j hj => by rw [if_neg (fun h => by omega)]⟩
  | r + 1, i, n, n', v, m, hi, hn, hn', hI, hR, h2, hgo, hA => by
    obtain ⟨n, rfl⟩ := up1 (show 0 < n by omega)
    obtain ⟨n', rfl⟩ := up1 (show 0 < n' by omega)
    have h30 := hI.1.2.2
    have hiw : i < w := by omega
    obtain ⟨e0, -, -, e3, e4, e5⟩ := id hR.1
    have hsnd : m 0 4 = m 0 0 := by rw [e4, e0, h2]
    rw [f_X0_send_L2, f_X7_hour_L82, hI.1.2.1, cl_5, e5, if_neg (nI_ge (by omega) (by omega)), if_neg (nI_ge (by omega) (by omega)), cl_4, cl_0, if_pos hsnd, wouldGo_eq hI hR hiw, hgo i (Nat.le_refl _) hiw]
    simp only [bd1_s, nI_1, cl_3]
    have hbit : M.testBit i = g i := by rw [hg i, decide_eq_true hiw, Bool.true_and]
    have h10 : ¬ (1 : Int32) = 0 := by decide
    by_cases q : g i = true
    · rw [if_pos ((bit_test hM (by omega)).mpr (by rw [hbit, q])), if_pos q, if_neg h10, heat_eq hI hR (by have := hI.2.2.2.2.2; omega) hiw, heatNow_eq v (by omega)]
      simp only [bd1_s, ofL_6, ofL_4, ofL_3, ixb_nI (show 36 + 7 * i < 240 by omega) (by decide), ixb_nI (show 34 + 7 * i < 240 by omega) (by decide), ixb_nI (show 33 + 7 * i < 240 by omega) (by decide), ixb_nI (show i < 30 by omega) (by decide), ck_t, lt_s1, clq (show 36 + 7 * i < 2 ^ 31 by omega), clq (show 34 + 7 * i < 2 ^ 31 by omega), clq (show 33 + 7 * i < 2 ^ 31 by omega), clq (show i < 2 ^ 31 by omega), vs_s, vs_vs]
      rw [upd_o (m 0) _ (show 3 ≠ 36 + 7 * i by omega), e3]
      have ev : v 0 0 / 24 = nI (N / 24) := by rw [hI.1.1, today_nI (by have := hI.2.2.2.2.2; omega)]
      obtain ⟨v2, m2, n2, a1, a2, a3, a4, a5, a6, a7, a8⟩ := send_both hM hg A r (i + 1) n n' (sendV v i) (vs m 0 (sendR (m 0) i (heatS v i) (v 0 0 / 24))) (by omega) (by omega) (by omega) (send_INV hI hiw) (by rw [vs_s]; exact send_REL hR hiw) h2 (fun j hj hjw => by rw [goS_send _ (by omega)]; exact hgo j (by omega) hjw) (by
        have hgi : goS v (N / 24) i = true := by rw [hgo i (Nat.le_refl _) hiw, q]
        have h0 := goS_0 hgi
        rw [cntP_flip (p := isP v 1) (i := i) hiw, hA, cntP_succ, if_pos q]
        · omega
        · unfold isP; rw [h0]; decide
        · show decide (upd (v 11) i 1 i = 1) = true
          rw [upd_s]; decide
        · intro j hj
          show decide (upd (v 11) i 1 j = 1) = decide (v 11 j = 1)
          rw [upd_o _ _ hj])
      refine ⟨v2, m2, n2, a1, ?_, a3, a4, a5, fun q hq => by rw [a6 q hq, vs_o m _ hq], fun j j1 j2 j3 => ?_, fun j hj => ?_⟩
      · rw [← a2, ev]; rfl
      · rw [a7 j j1 j2 j3]
        unfold sendV
        rw [vs_o _ _ j1, vs_o _ _ j2, vs_o _ _ j3]
      · rw [a8 j hj, show sendV v i 11 j = upd (v 11) i 1 j from rfl]
        by_cases e : j = i
        · subst e
          rw [upd_s, if_pos (⟨Nat.le_refl j, q⟩ : j ≤ j ∧ g j = true), ite_self]
        · rw [upd_o _ _ e]
          by_cases e2 : i + 1 ≤ j ∧ g j = true
          · rw [if_pos e2, if_pos ⟨by omega, e2.2⟩]
          · rw [if_neg e2, if_neg (fun h => e2 ⟨by omega, h.2⟩)]
    · have q' : g i = false := by cases h : g i with | false => rfl | true => exact absurd h q
      rw [if_neg (fun h => q (by rw [← hbit]; exact (bit_test hM (by omega)).mp h)), if_neg q, if_pos rfl]
      obtain ⟨v2, m2, n2, a1, a2, a3, a4, a5, a6, a7, a8⟩ := send_both hM hg A r (i + 1) n n' v m (by omega) (by omega) (by omega) hI hR h2 (fun j hj hjw => hgo j (by omega) hjw) (by rw [hA, cntP_succ, if_neg q]; rfl)
      refine ⟨v2, m2, n2, a1, a2, a3, a4, a5, a6, a7, fun j hj => ?_⟩
      rw [a8 j hj]
      by_cases e2 : i + 1 ≤ j ∧ g j = true
      · rw [if_pos e2, if_pos ⟨by omega, e2.2⟩]
      · rw [if_neg e2, if_neg (fun h => e2 ⟨by
          have : j ≠ i := fun e => by subst e; rw [q'] at h; exact absurd h.2 (by decide)
          omega, h.2⟩)]
theorem clock_INV {v : DV} (hI : INV v N w) (hN : N + 1 < 100000) : INV (vs v 0 (fun _ => nI (N + 1))) (N + 1) w := by
  obtain ⟨⟨h0, h1, h30⟩, h2, h3, h4, h5, h6⟩ := hI
  refine ⟨⟨rfl, h1, h30⟩, h2, h3, fun j hj => ?_, h5, hN⟩
  obtain ⟨k1, k2, k3, k4, k5, k6⟩ := h4 j hj
  exact ⟨k1, k2, k3.mono (by omega), k4, k5, k6⟩
theorem J164_eq {v m : DV} (hR : REL v (m 0) N w) (hN : N + 1 < 100000) (n : Nat) : ∃ m2, f_X7_hour_J164 n m = some m2 ∧ REL (vs v 0 (fun _ => nI (N + 1))) (m2 0) (N + 1) w ∧ ∀ q, q ≠ 0 → m2 q = m q := by
  obtain ⟨⟨a0, a1, a2, a3, a4, a5⟩, hd, hl⟩ := hR
  have gen : ∀ t : Nat → Int32, (∀ j, j ≠ 3 → j ≠ 4 → t j = m 0 j) → t 3 = nI ((N + 1) / 24) → t 4 = nI ((N + 1) % 24) → REL (vs v 0 (fun _ => nI (N + 1))) t (N + 1) w := by
    intro t ht t3 t4
    refine ⟨⟨by rw [ht _ (by decide) (by decide)]; exact a0, by rw [ht _ (by decide) (by decide)]; exact a1, by rw [ht _ (by decide) (by decide)]; exact a2, t3, t4, by rw [ht _ (by decide) (by decide)]; exact a5⟩, fun d hd6 => ?_, fun j hj => ?_⟩
    · rw [ht _ (by omega) (by omega), ht _ (by omega) (by omega), ht _ (by omega) (by omega), ht _ (by omega) (by omega)]
      exact hd d hd6
    · rw [ht _ (by omega) (by omega), ht _ (by omega) (by omega), ht _ (by omega) (by omega), ht _ (by omega) (by omega), ht _ (by omega) (by omega), ht _ (by omega) (by omega), ht _ (by omega) (by omega)]
      exact hl j hj
  unfold f_X7_hour_J164
  simp only [lt_s1, cl_4, cl_3, vs_s, vs_vs, upd_s, a4, nI_1]
  by_cases q : N % 24 + 1 = 24
  · rw [q, if_pos (show nI 24 = 24 from rfl)]
    refine ⟨_, rfl, ?_, fun q hq => vs_o m _ hq⟩
    rw [vs_s]
    refine gen _ (fun j h3 h4 => by rw [upd_o _ _ h3, upd_o _ _ h4, upd_o _ _ h4]) ?_ ?_
    · rw [upd_s, upd_o _ _ (by decide), upd_o _ _ (by decide), a3, nI_1]
      congr 1; omega
    · rw [upd_o _ _ (by decide), upd_s]
      rw [show (N + 1) % 24 = 0 by omega]; rfl
  · have hne : ¬ nI (N % 24 + 1) = 24 := fun e => q ((nI_eq (b := 24) (by omega) (by decide)).mp e)
    rw [if_neg hne]
    refine ⟨_, rfl, ?_, fun q hq => vs_o m _ hq⟩
    rw [vs_s]
    refine gen _ (fun j h3 h4 => by rw [upd_o _ _ h4]) ?_ ?_
    · rw [upd_o _ _ (by decide), a3]
      congr 1; omega
    · rw [upd_s]
      congr 1; omega
/-- one hour -/
theorem hour_eq {v m : DV} (hI : INV v N w) (hR : REL v (m 0) N w) (hN : N + 1 < 100000) {n n' : Nat} (hn : 200 ≤ n) (hn' : 200 ≤ n') : ∃ v2 m2 c, (∀ x1 x2 x3, ¬ x1 ≤ x3 → f_X0_passHours_L37 (n + 1) v x1 x2 x3 = f_X0_passHours_L37 n v2 x1 (x2 + nI c) (x3 + 1)) ∧ f_X7_hour n' m = some m2 ∧ INV v2 (N + 1) w ∧ REL v2 (m2 0) (N + 1) w ∧ cntP (isP v2 1) w = cntP (isP v 1) w + c ∧ (∀ q, q ≠ 0 → m2 q = m q) ∧ (∀ j, j ≠ 0 → j ≠ 4 → j ≠ 11 → j ≠ 12 → j ≠ 13 → v2 j = v j) ∧ (∀ d, d < 6 → v2 4 d = keyS v (nI (N % 24)) d) ∧ (∀ j, j < w → v2 11 j = if nI (N % 24) = v 2 0 ∧ v 11 j = 0 ∧ keyS v (nI (N % 24)) (tn (v 7 j)) = 0 ∧ rdy v j ≤ N / 24 then 1 else v 11 j) := by
  have h30 := hI.1.2.2
  have eh : f_X0_hourOfDay v = nI (N % 24) := by unfold f_X0_hourOfDay; rw [hI.1.1, hour_nI (by omega)]
  obtain ⟨c, c1, c2⟩ := turnKeys_eq v (nI (N % 24)) (show 100 ≤ n by omega)
  obtain ⟨m1, n1, d1, d2, d3, d4, d5⟩ := hourL2_eq hI 6 0 n' m (m 0) rfl (by omega) hR (fun d hd => by rw [if_neg (by omega)]) (fun _ _ => rfl)
  have hI1 := keys_INV hI (nI (N % 24)) c2
  have hR1 : REL (vs v 4 c) (m1 0) N w := by
    obtain ⟨⟨a0, a1, a2, a3, a4, a5⟩, hd, hl⟩ := id hR
    refine ⟨⟨?_, ?_, ?_, ?_, ?_, ?_⟩, fun d hd6 => ?_, fun j hj => ?_⟩
    · rw [d4 _ (fun d _ => by omega)]; exact a0
    · rw [d4 _ (fun d _ => by omega)]; exact a1
    · rw [d4 _ (fun d _ => by omega)]; exact a2
    · rw [d4 _ (fun d _ => by omega)]; exact a3
    · rw [d4 _ (fun d _ => by omega)]; exact a4
    · rw [d4 _ (fun d _ => by omega)]; exact a5
    · obtain ⟨b0, b1, b2, b3⟩ := hd d hd6
      refine ⟨by rw [d3 d hd6, vs_s, c2 d hd6], ?_, ?_, ?_⟩
      · rw [d4 _ (fun e _ => by omega)]; exact b1
      · rw [d4 _ (fun e _ => by omega)]; exact b2
      · rw [d4 _ (fun e _ => by omega)]; exact b3
    · rw [d4 _ (fun e _ => by omega), d4 _ (fun e _ => by omega), d4 _ (fun e _ => by omega), d4 _ (fun e _ => by omega), d4 _ (fun e _ => by omega), d4 _ (fun e _ => by omega), d4 _ (fun e _ => by omega)]
      exact hl j hj
  have eh1 : f_X0_hourOfDay (vs v 4 c) = nI (N % 24) := eh
  have hm0 : f_X7_hour n' m = f_X7_hour_L82 n1 m1 0 := d2
  have hstep : ∀ x1 x2 x3, ¬ x1 ≤ x3 → f_X0_passHours_L37 (n + 1) v x1 x2 x3 = (if nI (N % 24) = v 2 0 then
    bd1 (f_X0_setThatWouldGo n (vs v 4 c)) (fun r69 =>
    bd2 (f_X0_send n (vs v 4 c) r69) (fun r72 v72 =>
    f_X0_passHours_L37 n (vs v72 0 (fun _ => ((v72 0 0) + 1))) x1 (x2 + r72) (x3 + 1)))
    else
    f_X0_passHours_L37 n (vs (vs v 4 c) 0 (fun _ => nI (N + 1))) x1 x2 (x3 + 1)) := by
    intro x1 x2 x3 hx
    rw [f_X0_passHours_L37, if_neg hx, eh, c1, bd1_s, mx_keys, eh1, cl_0, show (vs v 4 c) 2 0 = v 2 0 from rfl, show (vs v 4 c) 0 0 = nI N from hI.1.1, nI_1]
  have hgo : ∀ j, j < w → (goS (vs v 4 c) (N / 24) j = true ↔ v 11 j = 0 ∧ keyS v (nI (N % 24)) (tn (v 7 j)) = 0 ∧ rdy v j ≤ N / 24) := by
    intro j hj
    have hd := (hI.let hj).1.2
    rw [← c2 (tn (v 7 j)) (by omega)]
    show (decide (v 11 j = 0) && (decide (c (tn (v 7 j)) = 0) && decide (rdy v j ≤ N / 24))) = true ↔ _
    rw [Bool.and_eq_true, Bool.and_eq_true, decide_eq_true_iff, decide_eq_true_iff, decide_eq_true_iff]
  by_cases q : nI (N % 24) = v 2 0
  · obtain ⟨M, hM, s1, s2⟩ := swg_eq hI1 (show 100 ≤ n by omega)
    obtain ⟨v2, m2, n2, a1, a2, a3, a4, a5, a6, a7, a8⟩ := send_both hM s2 (cntP (isP (vs v 4 c) 1) w) w 0 n n1 (vs v 4 c) m1 (by omega) (by omega) (by omega) hI1 hR1 q.symm (fun _ _ _ => rfl) rfl
    obtain ⟨m3, b1, b2, b3⟩ := J164_eq a4 hN n2
    refine ⟨vs v2 0 (fun _ => nI (N + 1)), m3, cntP (goS (vs v 4 c) (N / 24)) w, fun x1 x2 x3 hx => ?_, ?_, clock_INV a3 hN, b2, ?_, fun q hq => by rw [b3 q hq, a6 q hq, d5 q hq], fun j j0 j4 j11 j12 j13 => ?_, fun d hd => ?_, fun j hj => ?_⟩
    · rw [hstep x1 x2 x3 hx, if_pos q, s1, bd1_s]
      unfold f_X0_send
      rw [show f_X0_send_L2 n (vs v 4 c) (lN M) 0 = _ from a1, bd2_s, a3.1.1, nI_1, bitCount_pop hM, pop_cntP h30 s2]
    · rw [hm0, show f_X7_hour_L82 n1 m1 0 = _ from a2, b1]
    · show cntP (isP v2 1) w = _
      rw [a5]; rfl
    · rw [vs_o _ _ j0, a7 j j11 j12 j13, vs_o _ _ j4]
    · show v2 4 d = _
      rw [a7 4 (by decide) (by decide) (by decide), vs_s, c2 d hd]
    · show v2 11 j = _
      rw [a8 j hj, show (vs v 4 c) 11 j = v 11 j from rfl]
      by_cases e : goS (vs v 4 c) (N / 24) j = true
      · rw [if_pos ⟨Nat.zero_le j, e⟩, if_pos ⟨q, (hgo j hj).mp e⟩]
      · rw [if_neg (fun h => e h.2), if_neg (fun h => e ((hgo j hj).mpr h.2))]
  · have hL : f_X7_hour_L82 n1 m1 0 = f_X7_hour_J164 (n1 - 1) m1 := by
      obtain ⟨n1, rfl⟩ := up1 (show 0 < n1 by omega)
      rw [f_X7_hour_L82, cl_5, cl_4, cl_0, hR1.1.2.2.2.2.1, hR1.1.1, show (vs v 4 c) 2 0 = v 2 0 from rfl, if_neg q, ite_self]
      rfl
    obtain ⟨m3, b1, b2, b3⟩ := J164_eq hR1 hN (n1 - 1)
    refine ⟨vs (vs v 4 c) 0 (fun _ => nI (N + 1)), m3, 0, fun x1 x2 x3 hx => ?_, by rw [hm0, hL, b1], clock_INV hI1 hN, b2, rfl, fun q hq => by rw [b3 q hq, d5 q hq], fun j j0 j4 _ _ _ => by rw [vs_o _ _ j0, vs_o _ _ j4], fun d hd => ?_, fun j hj => ?_⟩
    · rw [hstep x1 x2 x3 hx, if_neg q]
      rw [show x2 + nI 0 = x2 from Int32.add_zero x2]
    · show (vs v 4 c) 4 d = _
      rw [vs_s, c2 d hd]
    · rw [if_neg (fun h => q h.1)]
      rfl
end PS
