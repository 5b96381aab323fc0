/-! How deep a letter lies; regrets. -/
theorem vs_s (v : DV) (k : Nat) (f : Nat → Int32) : vs v k f k = f := by
  show cond (Nat.beq k k) f (v k) = f
  rw [Nat.beq_refl]
  rfl
theorem vs_o (v : DV) {k j : Nat} (f : Nat → Int32) (h : j ≠ k) : vs v k f j = v j := by
  show cond (Nat.beq j k) f (v j) = v j
  cases hb : Nat.beq j k with
  | true => exact absurd (Nat.eq_of_beq_eq_true hb) h
  | false => rfl
theorem isL_1 {v : DV} {N w k : Nat} (h : INV v N w) (hk : k < w) : f_X3_isLetter v (nI k) = 1 := by
  rcases isL_cases h (nI k) with ⟨-, e⟩ | ⟨e, -⟩
  · exact absurd ⟨k, hk, rfl⟩ e
  · exact e
theorem isL_none {v : DV} : f_X3_isLetter v (-6) = 0 := by
  unfold f_X3_isLetter
  rw [if_pos (by decide)]
theorem nI_ne6 {j : Nat} (h : j < 2 ^ 31) : ¬ nI j = -6 := fun e => nI_pos h (by rw [e]; decide)
section DP
variable {v m : DV} {N w : Nat}
theorem depth_both (h : INV v N w) (hR : REL v (m 0) N w) : ∀ (k c n : Nat), k < w → c + k < 30 → k + 1 < n → ∃ r, f_X3_depthOf_L9 n v (nI c) (v 10 k) = some r ∧ f_X7_depth_L4 n m (nI c) (nI k) = some r := by
  intro k
  induction k using Nat.strongRecOn with
  | ind k ih =>
    intro c n hk hc hn
    obtain ⟨n, rfl⟩ := up1 (show 0 < n by omega)
    have h30 := h.1.2.2
    obtain ⟨-, -, -, -, -, a5, -⟩ := hR.2.2 k hk
    rw [f_X3_depthOf_L9, f_X7_depth_L4]
    simp only [ofL_5, ixb_nI (show 35 + 7 * k < 240 by omega) (by decide), ck_t, clq (show 35 + 7 * k < 2 ^ 31 by omega), a5]
    obtain ⟨-, -, -, ha, -⟩ := h.2.2.2.1 k hk
    rcases ha with e | ⟨j, hj, e, -⟩
    · rw [e, isL_none, if_pos rfl, if_pos rfl]
      exact ⟨nI c, rfl, rfl⟩
    · rw [e, isL_1 h (show j < w by omega), if_neg (by decide), if_neg (show ¬ (30 : Int32) ≤ nI c from nI_ge (a := c) (b := 30) (by omega) (by decide)), if_neg (nI_ne6 (by omega)), ixb_nI (show j < 30 by omega) (by decide), ck_t, clq (by omega), nI_1]
      exact ih j hj (c + 1) n (by omega) (by omega) (by omega)
theorem depth_eq (h : INV v N w) (hR : REL v (m 0) N w) {k n : Nat} (hk : k < w) (hn : 100 ≤ n) : ∃ r, f_X3_depthOf n v (nI k) = some r ∧ f_X7_depth n m (nI k) = some r := by
  have h30 := h.1.2.2
  unfold f_X3_depthOf f_X7_depth
  rw [ixb_nI (show k < 30 by omega) (by decide), ck_t, clq (by omega)]
  exact depth_both h hR k 0 n hk (by omega) (by omega)
/-- one letter's step: G, the greatest regrets of answers; R, the regrets -/
def rgStep (S : Nat → Bool) (H A : Nat → Int32) (k : Nat) (p : (Nat → Int32) × (Nat → Int32)) : (Nat → Int32) × (Nat → Int32) :=
  let r := if S k = true then H k + p.1 k / 2 else 0
  (if A k = -6 then p.1 else upd p.1 (tn (A k)) (if r ≤ p.1 (tn (A k)) then p.1 (tn (A k)) else r), upd p.2 k r)
def rgF (S : Nat → Bool) (H A : Nat → Int32) : Nat → (Nat → Int32) × (Nat → Int32) → (Nat → Int32) × (Nat → Int32)
  | 0, p => p
  | k + 1, p => rgF S H A k (rgStep S H A k p)
def sentB (u : DV) (k : Nat) : Bool := decide (u 11 k = 1)
theorem upd_s (f : Nat → Int32) (k : Nat) (x : Int32) : upd f k x k = x := by simp [upd]
theorem upd_o (f : Nat → Int32) {k j : Nat} (x : Int32) (h : j ≠ k) : upd f k x j = f j := by simp [upd, h]
theorem m1_step (j : Nat) : nI (j + 1) + -1 = nI j := pk_m1 j
theorem m1_neg : (nI 0 + -1) < 0 := by decide
/-- the reference's loop -/
theorem findR_L37 (hI : INV v N w) : ∀ (k n : Nat) (m : DV), k ≤ w → k < n → REL v (m 0) N w → ∃ m2, f_X7_findRegrets_L37 n m (nI k + -1) = some m2 ∧ (m2 7, m2 6) = rgF (sentB v) (heatS v) (v 10) k (m 7, m 6) ∧ ∀ i, i ≠ 6 → i ≠ 7 → m2 i = m i
  | 0, n, m, _, hn, _ => by
    obtain ⟨n, rfl⟩ := up1 hn
    rw [f_X7_findRegrets_L37, if_pos m1_neg]
    exact ⟨m, rfl, rfl, fun _ _ _ => rfl⟩
  | k + 1, n, m, hk, hn, hR => by
    obtain ⟨n, rfl⟩ := up1 (show 0 < n by omega)
    have h30 := hI.1.2.2
    have hN := hI.2.2.2.2.2
    have hkw : k < w := by omega
    obtain ⟨-, -, -, a3, -, a5, -⟩ := hR.2.2 k hkw
    obtain ⟨-, -, -, ha, -⟩ := hI.2.2.2.1 k hkw
    rw [m1_step, f_X7_findRegrets_L37, if_neg (nI_pos (by omega))]
    have key : ∀ r : Int32, ∃ m2, f_X7_findRegrets_J78 (fun v x1 => f_X7_findRegrets_L37 n v x1) n m (nI k) r (nI k) = f_X7_findRegrets_L37 n m2 (nI k + -1) ∧ m2 6 = upd (m 6) k r ∧ m2 7 = (if v 10 k = -6 then m 7 else upd (m 7) (tn (v 10 k)) (if r ≤ m 7 (tn (v 10 k)) then m 7 (tn (v 10 k)) else r)) ∧ ∀ i, i ≠ 6 → i ≠ 7 → m2 i = m i := by
      intro r
      unfold f_X7_findRegrets_J78
      simp only [ixb_nI (show k < 30 by omega) (by decide), ck_t, lt_s1, clq (show k < 2 ^ 31 by omega), ofL_5, ixb_nI (show 35 + 7 * k < 240 by omega) (by decide), clq (show 35 + 7 * k < 2 ^ 31 by omega), vs_s, vs_o (m) (upd (m 6) k r) (show (0 : Nat) ≠ 6 by decide), vs_o (m) (upd (m 6) k r) (show (7 : Nat) ≠ 6 by decide), a5]
      rcases ha with e | ⟨j, hj, e, -⟩
      · rw [e, if_pos rfl, if_pos rfl]
        exact ⟨vs m 6 (upd (m 6) k r), rfl, vs_s _ _ _, vs_o _ _ (by decide), fun i h6 _ => vs_o _ _ h6⟩
      · rw [e, if_neg (nI_ne6 (by omega)), if_neg (nI_ne6 (by omega)), tn_nI (by omega)]
        simp only [ixb_nI (show j < 30 by omega) (by decide), ck_t, clq (show j < 2 ^ 31 by omega), upd_s]
        by_cases q : r ≤ m 7 j
        · rw [if_pos q, if_pos q]
          exact ⟨_, rfl, by rw [vs_o _ _ (by decide), vs_s], by rw [vs_s], fun i h6 h7 => by rw [vs_o _ _ h7, vs_o _ _ h6]⟩
        · rw [if_neg q, if_neg q]
          exact ⟨_, rfl, by rw [vs_o _ _ (by decide), vs_s], by rw [vs_s], fun i h6 h7 => by rw [vs_o _ _ h7, vs_o _ _ h6]⟩
    have fin : ∀ r : Int32, r = (if v 11 k = 1 then heatS v k + m 7 k / 2 else 0) → ∃ m2, f_X7_findRegrets_J78 (fun v x1 => f_X7_findRegrets_L37 n v x1) n m (nI k) r (nI k) = some m2 ∧ (m2 7, m2 6) = rgF (sentB v) (heatS v) (v 10) (k + 1) (m 7, m 6) ∧ ∀ i, i ≠ 6 → i ≠ 7 → m2 i = m i := by
      intro r hr
      obtain ⟨m1, b1, b2, b3, b4⟩ := key r
      obtain ⟨m2, c1, c2, c3⟩ := findR_L37 hI k n m1 (by omega) (by omega) (by rw [b4 0 (by decide) (by decide)]; exact hR)
      refine ⟨m2, by rw [b1, c1], ?_, fun i h6 h7 => by rw [c3 i h6 h7, b4 i h6 h7]⟩
      rw [c2, b2, b3]
      show _ = rgF (sentB v) (heatS v) (v 10) k (rgStep (sentB v) (heatS v) (v 10) k (m 7, m 6))
      have hr' : r = if sentB v k = true then heatS v k + m 7 k / 2 else 0 := by
        rw [hr]
        unfold sentB
        by_cases q : v 11 k = 1
        · rw [if_pos q, if_pos (by rw [decide_eq_true q])]
        · rw [if_neg q, if_neg (by rw [decide_eq_false q]; decide)]
      unfold rgStep
      simp only [← hr']
    simp only [ofL_3, ixb_nI (show 33 + 7 * k < 240 by omega) (by decide), ck_t, clq (show 33 + 7 * k < 2 ^ 31 by omega), a3, heat_eq hI hR (by omega) hkw, bd1_s, ixb_nI (show k < 30 by omega) (by decide), clq (show k < 2 ^ 31 by omega)]
    by_cases q : v 11 k = 1
    · rw [if_pos q]
      exact fin _ (by rw [if_pos q])
    · rw [if_neg q]
      exact fin _ (by rw [if_neg q])
/-- zeros to begin with -/
theorem findR_L2 : ∀ (r i n : Nat) (m : DV), i + r = 30 → r < n → (∀ j, j < i → m 6 j = 0 ∧ m 7 j = 0) → ∃ m2 n2, n = n2 + r ∧ f_X7_findRegrets_L2 n m (nI i) = f_X7_findRegrets_L2 n2 m2 (nI 30) ∧ (∀ j, j < 30 → m2 6 j = 0 ∧ m2 7 j = 0) ∧ ∀ q, q ≠ 6 → q ≠ 7 → m2 q = m q
  | 0, i, n, m, hi, hn, hz => by
    have : i = 30 := by omega
    subst this
    exact ⟨m, n, rfl, rfl, hz, fun _ _ _ => rfl⟩
  | r + 1, i, n, m, hi, hn, hz => by
    obtain ⟨n, rfl⟩ := up1 (show 0 < n by omega)
    rw [f_X7_findRegrets_L2, if_neg (show ¬ (30 : Int32) ≤ nI i from nI_ge (a := i) (b := 30) (by omega) (by decide))]
    simp only [ixb_nI (show i < 30 by omega) (by decide), ck_t, lt_s1, clq (show i < 2 ^ 31 by omega), nI_1]
    obtain ⟨m2, n2, h1, h2, h3, h4⟩ := findR_L2 r (i + 1) n (vs (vs m 7 (upd (m 7) i 0)) 6 (upd (vs m 7 (upd (m 7) i 0) 6) i 0)) (by omega) (by omega) (fun j hj => by
      rw [vs_s, vs_o _ _ (show (7 : Nat) ≠ 6 by decide), vs_s, vs_o _ _ (show (6 : Nat) ≠ 7 by decide)]
      by_cases q : j = i
      · subst q; rw [upd_s, upd_s]; exact ⟨rfl, rfl⟩
      · rw [upd_o _ _ q, upd_o _ _ q]; exact hz j (by omega))
    refine ⟨m2, n2, by omega, h2, h3, fun q h6 h7 => ?_⟩
    rw [h4 q h6 h7, vs_o _ _ h6, vs_o _ _ h7]
end DP
