/-! meanHeat. -/
theorem z_all : (List.range 30).all (fun b => FP.ddiv (FP.i2d (nI 0)) (FP.i2d (nI (b + 1))) == 0) = true := by decide +kernel
theorem bits_zero (n n' : Nat) : f_X6_bitsOf n 0 1023 52 = some 0 ∧ f_X7_bitsOfDouble n' 0 = some 0 := by
  unfold f_X6_bitsOf f_X7_bitsOfDouble
  rw [if_neg (by decide +kernel), if_pos (by decide +kernel)]
  exact ⟨rfl, rfl⟩
theorem mean_bits {a b : Nat} (ha : a < 2 ^ 31) (hb : 0 < b) (hb30 : b ≤ 30) {n n' : Nat} (hn : 300 ≤ n) (hn' : 300 ≤ n') : nn64 (FP.ddiv (FP.i2d (nI a)) (FP.i2d (nI b))) = true ∧ ∃ r, f_X6_bitsOf n (FP.ddiv (FP.i2d (nI a)) (FP.i2d (nI b))) 1023 52 = some r ∧ f_X7_bitsOfDouble n' (FP.ddiv (FP.i2d (nI a)) (FP.i2d (nI b))) = some r := by
  by_cases h0 : a = 0
  · subst h0
    have h := z_all
    rw [List.all_eq_true] at h
    have h1 := h (b - 1) (List.mem_range.mpr (by omega))
    rw [show b - 1 + 1 = b by omega] at h1
    rw [eq_of_beq h1]
    exact ⟨by decide, 0, (bits_zero n n').1, (bits_zero n n').2⟩
  · obtain ⟨c, k, h1, h2, h3⟩ := div_nrm (a := nI a) (b := nI b) (by rw [nI_toInt (by omega)]; omega) (by rw [nI_toInt (by omega)]; omega)
    exact ⟨h1.nn, bits_nrm h1 h2 h3 hn hn'⟩
section MH
variable {v m : DV} {N w : Nat}
theorem stH_sum (hI : INV v N w) : ∀ (r i s : Nat), i + r = w → ∃ s2, s2 ≤ s + 99 * r ∧ lp (stH v) r i (nI s) = nI s2
  | 0, i, s, _ => ⟨s, by omega, rfl⟩
  | r + 1, i, s, hi => by
    show ∃ s2, s2 ≤ s + 99 * (r + 1) ∧ lp (stH v) r (i + 1) (stH v i (nI s)) = nI s2
    by_cases c : v 11 i = 1
    · obtain ⟨y, hy, ey⟩ := heatS_B hI (show i < w by omega)
      unfold heatS at ey
      rw [if_pos c] at ey
      have e : stH v i (nI s) = nI (s + y) := by
        unfold stH
        rw [if_pos c, ey, nI_add]
      rw [e]
      obtain ⟨s2, h1, h2⟩ := stH_sum hI r (i + 1) (s + y) (by omega)
      exact ⟨s2, by omega, h2⟩
    · have e : stH v i (nI s) = nI s := by
        unfold stH
        rw [if_neg c]
      rw [e]
      obtain ⟨s2, h1, h2⟩ := stH_sum hI r (i + 1) s (by omega)
      exact ⟨s2, by omega, h2⟩
theorem meanM_L (hI : INV v N w) (hR : REL v (m 0) N w) (hN : N < 2 ^ 31) : ∀ (r i n : Nat) (acc : Int32), i + r = w → r < n → ∃ n2, n = n2 + (r + 1) ∧ f_X7_meanHeat_L4 n m acc (nI i) = f_X7_meanHeat_L4 (n2 + 1) m (lp (stH v) r i acc) (nI w)
  | 0, i, n, acc, hi, hn => by
    obtain ⟨n, rfl⟩ := up1 hn
    have : i = w := by omega
    subst this
    exact ⟨n, rfl, rfl⟩
  | r + 1, i, n, acc, hi, hn => by
    obtain ⟨n, rfl⟩ := up1 (show 0 < n by omega)
    have h30 := hI.1.2.2
    have hiw : i < w := by omega
    obtain ⟨n2, e2, ih⟩ := meanM_L hI hR hN r (i + 1) n (stH v i acc) (by omega) (by omega)
    refine ⟨n2, by omega, ?_⟩
    rw [f_X7_meanHeat_L4, cl_5, hR.1.2.2.2.2.2, if_neg (nI_ge (by omega) (by omega))]
    show _ = f_X7_meanHeat_L4 (n2 + 1) m (lp (stH v) r (i + 1) (stH v i acc)) (nI w)
    rw [← ih]
    simp only [ofL_3, ixb_nI (show 33 + 7 * i < 240 by omega) (by decide), ck_t, clq (show 33 + 7 * i < 2 ^ 31 by omega), (hR.2.2 i hiw).2.2.2.1, heat_eq hI hR hN hiw, bd1_s, nI_1, Int32.add_zero]
    unfold stH
    by_cases c : v 11 i = 1
    · rw [if_pos c, if_pos c]
      have e : heatS v i = v 13 i := by
        unfold heatS
        rw [if_pos c]
      rw [e]
    · rw [if_neg c, if_neg c]
theorem meanHeat_eq (hI : INV v N w) (hR : REL v (m 0) N w) (hN : N < 2 ^ 31) {n n' : Nat} (hn : 500 ≤ n) (hn' : 500 ≤ n') : ∃ r, f_X6_meanHeat n v = some r ∧ f_X7_meanHeat n' m = some r := by
  have h30 := hI.1.2.2
  unfold f_X6_meanHeat f_X7_meanHeat
  obtain ⟨M, a1, a2⟩ := setCnt_eq hI 1 (show 100 ≤ n by omega)
  obtain ⟨n2, e2, b1⟩ := meanM_L hI hR hN w 0 n' 0 (by omega) (by omega)
  rw [a1, bd1_s, a2, show f_X7_meanHeat_L4 n' m 0 0 = _ from b1, f_X7_meanHeat_L4, cl_5, hR.1.2.2.2.2.2, if_pos (nI_le (by omega) (by omega)), many_eq hI hR 6 1 (by omega), stA6_cnt, bd1_s]
  have hle := cntP_le (isP v 1) w
  by_cases q : cntP (isP v 1) w = 0
  · rw [q, if_pos (show nI 0 = 0 from rfl), if_pos (show nI 0 = 0 from rfl)]
    exact ⟨_, rfl, rfl⟩
  have q' : ¬ nI (cntP (isP v 1) w) = 0 := fun e => q ((nI_eq (b := 0) (by omega) (by decide)).mp e)
  unfold f_X3_heatOfSent
  rw [if_neg q', if_neg q', show f_X3_heatOfSent_L4 n v 0 0 = _ from heatOfSent_L v hI.1.2.1 h30 w 0 n 0 (by omega) (by omega), bd1_s]
  obtain ⟨s2, s3, s4⟩ := stH_sum hI w 0 0 (by omega)
  rw [show lp (stH v) w 0 0 = nI s2 from s4]
  obtain ⟨g1, r, g2, g3⟩ := mean_bits (a := s2) (b := cntP (isP v 1) w) (by omega) (by omega) (by omega) (show 300 ≤ n by omega) (show 300 ≤ n2 by omega)
  rw [g1, ck_t, ck_t, g2, g3]
  exact ⟨r, rfl, rfl⟩
end MH
