/-! Regrets, the class's way; what changes nothing that counts. -/
theorem vs_vs (v : DV) (k : Nat) (f g : Nat → Int32) : vs (vs v k f) k g = vs v k g := by
  funext j
  show cond (Nat.beq j k) g (cond (Nat.beq j k) f (v j)) = cond (Nat.beq j k) g (v j)
  cases Nat.beq j k <;> rfl
theorem heatS_14 (v : DV) (c : Nat → Int32) (k : Nat) : heatS (vs v 14 c) k = heatS v k := rfl
theorem i0_le_max {r g : Int32} (h : 0 ≤ g) : 0 ≤ (if r ≤ g then g else r) := by
  by_cases q : r ≤ g
  · rw [if_pos q]; exact h
  · rw [if_neg q]
    rw [Int32.le_iff_toInt_le] at *
    omega
theorem max_flip (r g : Int32) : (if g < r then r else g) = if r ≤ g then g else r := by
  by_cases q : r ≤ g
  · rw [if_pos q, if_neg]
    rw [Int32.le_iff_toInt_le] at q
    rw [Int32.lt_iff_toInt_lt]
    omega
  · rw [if_neg q, if_pos]
    rw [Int32.le_iff_toInt_le] at q
    rw [Int32.lt_iff_toInt_lt]
    omega
section WO
variable {v : DV} {N w : Nat}
theorem workOut_J82 (hI : INV v N w) (F : DV → Int32 → Int32 → Option DV) (n k : Nat) (x2 : Int32) (hk : k < w) (c : Nat → Int32) : f_X5_workOut_J82 F n (vs v 14 c) x2 (nI k) = F (vs v 14 (if v 10 k = -6 then c else upd c (tn (v 10 k)) (if c k ≤ c (tn (v 10 k)) then c (tn (v 10 k)) else c k))) x2 (nI k + -1) := by
  have h30 := hI.1.2.2
  obtain ⟨-, -, -, ha, -⟩ := hI.2.2.2.1 k hk
  unfold f_X5_workOut_J82
  simp only [ixb_nI (show k < 30 by omega) (by decide), ck_t, clq (show k < 2 ^ 31 by omega)]
  show (if f_X3_isLetter v (v 10 k) = 0 then _ else _) = _
  simp only [vs_o v c (show (10 : Nat) ≠ 14 by decide), vs_s]
  rcases ha with e | ⟨j, hj, e, -⟩
  · rw [e, isL_none, if_pos rfl, if_pos rfl]
  · have h10 : ¬ (1 : Int32) = 0 := by decide
    rw [e, isL_1 hI (show j < w by omega), if_neg h10, if_neg (nI_ne6 (by omega)), tn_nI (by omega)]
    unfold f_X5_workOut_J123
    simp only [ixb_nI (show j < 30 by omega) (by decide), ck_t, clq (show j < 2 ^ 31 by omega), vs_s, vs_vs, max_flip]
theorem workOut_L37 (hI : INV v N w) (x2 : Int32) (S : Nat → Bool) (hS : ∀ k, k < w → (S k = true ↔ (v 11 k = 1 ∨ nI k = x2))) : ∀ (k n : Nat) (c G R : Nat → Int32), k ≤ w → k < n → (∀ j, j < 30 → c j = if j < k then G j else R j) → (∀ j, j < 30 → 0 ≤ G j) → (∀ j, j < 30 → S j = false → G j = 0) → ∃ c2, f_X5_workOut_L37 n (vs v 14 c) x2 (nI k + -1) = some (vs v 14 c2) ∧ ∀ j, j < 30 → c2 j = (rgF S (heatS v) (v 10) k (G, R)).2 j
  | 0, n, c, G, R, _, hn, hc, _, _ => by
    obtain ⟨n, rfl⟩ := up1 hn
    rw [f_X5_workOut_L37, if_pos m1_neg]
    exact ⟨c, rfl, fun j hj => by rw [hc j hj, if_neg (by omega)]; rfl⟩
  | k + 1, n, c, G, R, hk, hn, hc, hG, h0 => by
    obtain ⟨n, rfl⟩ := up1 (show 0 < n by omega)
    have h30 := hI.1.2.2
    have hkw : k < w := by omega
    have ih := workOut_L37 hI x2 S hS k n
    obtain ⟨-, -, -, ha, -⟩ := hI.2.2.2.1 k hkw
    have hck : c k = G k := by rw [hc k (by omega), if_pos (by omega)]
    rw [m1_step, f_X5_workOut_L37, if_neg (nI_pos (by omega))]
    simp only [ixb_nI (show k < 30 by omega) (by decide), ck_t, clq (show k < 2 ^ 31 by omega), vs_o v c (show (11 : Nat) ≠ 14 by decide)]
    -- a letter that counts
    have yes : S k = true → ∃ c2, f_X5_workOut_J59 (fun v x2 x4 => f_X5_workOut_L37 n v x2 x4) n (vs v 14 c) x2 (nI k) = some (vs v 14 c2) ∧ ∀ j, j < 30 → c2 j = (rgF S (heatS v) (v 10) (k + 1) (G, R)).2 j := by
      intro hs
      unfold f_X5_workOut_J59
      rw [heatNow_eq _ (show k < 30 by omega), heatS_14]
      simp only [bd1_s, ixb_nI (show k < 30 by omega) (by decide), ck_t, clq (show k < 2 ^ 31 by omega), vs_s, vs_vs]
      rw [workOut_J82 hI _ n k x2 hkw, hck, upd_s]
      have e1 : (rgF S (heatS v) (v 10) (k + 1) (G, R)) = rgF S (heatS v) (v 10) k (if v 10 k = -6 then G else upd G (tn (v 10 k)) (if heatS v k + G k / 2 ≤ G (tn (v 10 k)) then G (tn (v 10 k)) else heatS v k + G k / 2), upd R k (heatS v k + G k / 2)) := by
        show rgF S (heatS v) (v 10) k (rgStep S (heatS v) (v 10) k (G, R)) = _
        unfold rgStep
        simp only [if_pos hs]
      rw [e1]
      generalize heatS v k + G k / 2 = r
      rcases ha with e | ⟨t, ht, e, h1⟩
      · rw [e, if_pos rfl, if_pos rfl]
        refine ih _ _ _ (by omega) (by omega) (fun j hj => ?_) hG h0
        by_cases q : j = k
        · subst q; rw [upd_s, upd_s, if_neg (by omega)]
        · rw [upd_o _ _ q, upd_o _ _ q, hc j hj]
          by_cases q2 : j < k
          · rw [if_pos q2, if_pos (by omega)]
          · rw [if_neg q2, if_neg (by omega)]
      · rw [e, if_neg (nI_ne6 (by omega)), if_neg (nI_ne6 (by omega)), tn_nI (by omega), upd_o _ _ (show t ≠ k by omega), hc t (by omega), if_pos (show t < k + 1 by omega)]
        refine ih _ _ _ (by omega) (by omega) (fun j hj => ?_) (fun j hj => ?_) (fun j hj hs0 => ?_)
        · by_cases qt : j = t
          · subst qt; rw [upd_s, upd_s, if_pos ht]
          · rw [upd_o _ _ qt, upd_o _ _ qt]
            by_cases q : j = k
            · subst q; rw [upd_s, upd_s, if_neg (by omega)]
            · rw [upd_o _ _ q, upd_o _ _ q, hc j hj]
              by_cases q2 : j < k
              · rw [if_pos q2, if_pos (by omega)]
              · rw [if_neg q2, if_neg (by omega)]
        · by_cases qt : j = t
          · subst qt; rw [upd_s]; exact i0_le_max (hG _ hj)
          · rw [upd_o _ _ qt]; exact hG j hj
        · have : j ≠ t := fun q => by
            subst q
            rw [(hS j (by omega)).mpr (Or.inl h1)] at hs0
            exact absurd hs0 (by decide)
          rw [upd_o _ _ this]; exact h0 j hj hs0
    -- one that doesn't
    have no : S k = false → ∃ c2, f_X5_workOut_L37 n (vs v 14 c) x2 (nI k + -1) = some (vs v 14 c2) ∧ ∀ j, j < 30 → c2 j = (rgF S (heatS v) (v 10) (k + 1) (G, R)).2 j := by
      intro hs
      have hs2 : ¬ S k = true := by rw [hs]; decide
      have e1 : (rgF S (heatS v) (v 10) (k + 1) (G, R)) = rgF S (heatS v) (v 10) k (if v 10 k = -6 then G else upd G (tn (v 10 k)) (if 0 ≤ G (tn (v 10 k)) then G (tn (v 10 k)) else 0), upd R k 0) := by
        show rgF S (heatS v) (v 10) k (rgStep S (heatS v) (v 10) k (G, R)) = _
        unfold rgStep
        simp only [if_neg hs2]
      rw [e1]
      have e2 : ∀ j, j < 30 → (if v 10 k = -6 then G else upd G (tn (v 10 k)) (if 0 ≤ G (tn (v 10 k)) then G (tn (v 10 k)) else 0)) j = G j := by
        intro j hj
        rcases ha with e | ⟨t, ht, e, h1⟩
        · rw [e, if_pos rfl]
        · rw [e, if_neg (nI_ne6 (by omega)), tn_nI (by omega), if_pos (hG t (by omega))]
          by_cases qt : j = t
          · subst qt; rw [upd_s]
          · rw [upd_o _ _ qt]
      refine ih _ _ _ (by omega) (by omega) (fun j hj => ?_) (fun j hj => by rw [e2 j hj]; exact hG j hj) (fun j hj hj0 => by rw [e2 j hj]; exact h0 j hj hj0)
      rw [e2 j hj, hc j hj]
      by_cases q : j = k
      · subst q; rw [upd_s, if_pos (by omega), if_neg (by omega)]; exact h0 j hj hs
      · rw [upd_o _ _ q]
        by_cases q2 : j < k
        · rw [if_pos q2, if_pos (by omega)]
        · rw [if_neg q2, if_neg (by omega)]
    by_cases q1 : v 11 k = 1
    · rw [if_pos q1]; exact yes ((hS k hkw).mpr (Or.inl q1))
    · rw [if_neg q1]
      by_cases q2 : nI k = x2
      · rw [if_pos q2]; exact yes ((hS k hkw).mpr (Or.inr q2))
      · rw [if_neg q2]
        refine no ?_
        cases hs : S k with
        | false => rfl
        | true => rcases (hS k hkw).mp hs with h | h
                  · exact absurd h q1
                  · exact absurd h q2
/-- zeros to begin with -/
theorem workOut_L8 (v : DV) (x2 : Int32) : ∀ (r i n : Nat) (c : Nat → Int32), i + r = 30 → r < n → (∀ j, j < i → c j = 0) → ∃ c2 n2, n = n2 + r ∧ f_X5_workOut_L8 n (vs v 14 c) x2 (nI i) = f_X5_workOut_L8 n2 (vs v 14 c2) x2 (nI 30) ∧ ∀ j, j < 30 → c2 j = 0
  | 0, i, n, c, hi, hn, hz => by
    have : i = 30 := by omega
    subst this
    exact ⟨c, n, rfl, rfl, hz⟩
  | r + 1, i, n, c, hi, hn, hz => by
    obtain ⟨n, rfl⟩ := up1 (show 0 < n by omega)
    rw [f_X5_workOut_L8, if_neg (show ¬ (30 : Int32) ≤ nI i from nI_ge (a := i) (b := 30) (by omega) (by decide))]
    simp only [ixb_nI (show i < 30 by omega) (by decide), ck_t, clq (show i < 2 ^ 31 by omega), nI_1, vs_s, vs_vs]
    obtain ⟨c2, n2, h1, h2, h3⟩ := workOut_L8 v x2 r (i + 1) n (upd c i 0) (by omega) (by omega) (fun j hj => by
      by_cases q : j = i
      · subst q; rw [upd_s]
      · rw [upd_o _ _ q]; exact hz j (by omega))
    exact ⟨c2, n2, by omega, h2, h3⟩
theorem vs_self (v : DV) (k : Nat) : vs v k (v k) = v := by
  funext j
  by_cases h : j = k
  · subst h; rw [vs_s]
  · rw [vs_o v _ h]
theorem workOut_eq (hI : INV v N w) (x2 : Int32) (S : Nat → Bool) (hS : ∀ k, k < w → (S k = true ↔ (v 11 k = 1 ∨ nI k = x2))) {n : Nat} (hn : 100 ≤ n) (G R : Nat → Int32) (hG : ∀ j, j < 30 → G j = 0 ∧ R j = 0) : ∃ c2, f_X5_workOut n v x2 = some (vs v 14 c2) ∧ ∀ j, j < 30 → c2 j = (rgF S (heatS v) (v 10) w (G, R)).2 j := by
  have h30 := hI.1.2.2
  unfold f_X5_workOut
  obtain ⟨c, n2, h1, h2, h3⟩ := workOut_L8 v x2 30 0 n (v 14) rfl (by omega) (fun j hj => absurd hj (Nat.not_lt_zero j))
  rw [vs_self] at h2
  show ∃ c2, f_X5_workOut_L8 n v x2 (nI 0) = _ ∧ _
  rw [h2]
  obtain ⟨n2, rfl⟩ := up1 (show 0 < n2 by omega)
  rw [f_X5_workOut_L8, if_pos (by decide), show (vs v 14 c) 1 0 = nI w from hI.1.2.1, Int32.sub_eq_add_neg]
  exact workOut_L37 hI x2 S hS w n2 c G R (Nat.le_refl _) (by omega) (fun j hj => by rw [h3 j hj, (hG j hj).1, (hG j hj).2, ite_self]) (fun j hj => by rw [(hG j hj).1]; exact Int32.le_refl _) (fun j hj _ => (hG j hj).1)
end WO
theorem findR_eq {v m : DV} {N w : Nat} (hI : INV v N w) (hR : REL v (m 0) N w) {n : Nat} (hn : 100 ≤ n) : ∃ m2 G R, f_X7_findRegrets n m = some m2 ∧ (∀ j, j < 30 → G j = 0 ∧ R j = 0) ∧ m2 6 = (rgF (sentB v) (heatS v) (v 10) w (G, R)).2 ∧ ∀ i, i ≠ 6 → i ≠ 7 → m2 i = m i := by
  have h30 := hI.1.2.2
  unfold f_X7_findRegrets
  obtain ⟨m1, n2, h1, h2, h3, h4⟩ := findR_L2 30 0 n m rfl (by omega) (fun j hj => absurd hj (Nat.not_lt_zero j))
  show ∃ m2 G R, f_X7_findRegrets_L2 n m (nI 0) = _ ∧ _
  rw [h2]
  obtain ⟨n2, rfl⟩ := up1 (show 0 < n2 by omega)
  rw [f_X7_findRegrets_L2, if_pos (by decide), cl_5, h4 0 (by decide) (by decide), hR.1.2.2.2.2.2, Int32.sub_eq_add_neg]
  obtain ⟨m2, c1, c2, c3⟩ := findR_L37 hI w n2 m1 (Nat.le_refl _) (by omega) (by rw [h4 0 (by decide) (by decide)]; exact hR)
  exact ⟨m2, m1 7, m1 6, c1, fun j hj => ⟨(h3 j hj).2, (h3 j hj).1⟩, congrArg Prod.snd c2, fun i h6 h7 => by rw [c3 i h6 h7, h4 i h6 h7]⟩
