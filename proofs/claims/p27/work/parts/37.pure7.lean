/-! ofLetter, mostRegretted, ifSent. -/
theorem mx_o {v u : DV} (ks : List Nat) {j : Nat} (h : u j = v j) : mx ks v u j = v j := by
  show cond _ (u j) (v j) = v j
  rw [h]
  cases (ks.any (fun i => Nat.beq j i)) <;> rfl
theorem mx_14 {v : DV} (ks : List Nat) (c : Nat → Int32) {j : Nat} (h : j ≠ 14) : mx ks v (vs v 14 c) j = v j := mx_o ks (vs_o v c h)
section OL
variable {v m : DV} {N w : Nat}
theorem sentB_iff {k : Nat} : sentB v k = true ↔ v 11 k = 1 := decide_eq_true_iff
theorem isL_not6 (k : Nat) (hk : k < 30) : ¬ nI k = -6 := nI_ne6 (by omega)
theorem regretOf (hI : INV v N w) (hR : REL v (m 0) N w) {n : Nat} (hn : 100 ≤ n) : ∃ c m2, f_X5_workOut n v (-6) = some (vs v 14 c) ∧ f_X7_findRegrets n m = some m2 ∧ (∀ j, j < 30 → c j = m2 6 j) ∧ (∃ G R, (∀ j, j < 30 → G j = 0 ∧ R j = 0) ∧ m2 6 = (rgF (sentB v) (heatS v) (v 10) w (G, R)).2) ∧ ∀ i, i ≠ 6 → i ≠ 7 → m2 i = m i := by
  have h30 := hI.1.2.2
  obtain ⟨m2, G, R, h1, h2, h3, h4⟩ := findR_eq hI hR hn
  obtain ⟨c, k1, k2⟩ := workOut_eq hI (-6) (sentB v) (fun k hk => sentB_iff.trans ⟨Or.inl, fun h => h.elim id (fun h => absurd h (isL_not6 k (by omega)))⟩) hn G R h2
  exact ⟨c, m2, k1, h1, fun j hj => by rw [k2 j hj, h3], ⟨G, R, h2, h3⟩, h4⟩
theorem ofLetter_eq (hI : INV v N w) (hR : REL v (m 0) N w) {n : Nat} (hn : 1000 ≤ n) (p1 p2 : Int32) : ∃ r v2 m2, f_X6_ofLetter n v p1 p2 = some (r, v2) ∧ f_X7_ofLetter n m p1 p2 = some (r, m2) ∧ (∀ j, j ≠ 14 → v2 j = v j) ∧ ∀ i, i ≠ 6 → i ≠ 7 → m2 i = m i := by
  have h30 := hI.1.2.2
  have hN := hI.2.2.2.2.2
  unfold f_X6_ofLetter f_X7_ofLetter
  rw [isLm_eq hI hR]
  simp only [bd1_s]
  rcases isL_cases hI p1 with ⟨e, -⟩ | ⟨e, k, hk, rfl⟩
  · rw [e, if_pos rfl, if_pos rfl]
    exact ⟨_, _, _, rfl, rfl, fun _ _ => rfl, fun _ _ _ => rfl⟩
  have h10 : ¬ (1 : Int32) = 0 := by decide
  rw [e, if_neg h10, if_neg h10]
  obtain ⟨a0, a1, a2, a3, a4, a5, a6⟩ := hR.2.2 k hk
  have hck : ixb (nI k) 30 = true := ixb_nI (by omega) (by decide)
  by_cases q0 : p2 = 0
  · subst q0
    rw [if_pos rfl, if_pos rfl]
    simp only [ofL_0, hck, ixb_nI (show 30 + 7 * k < 240 by omega) (by decide), ck_t, clq (show 30 + 7 * k < 2 ^ 31 by omega), clq (show k < 2 ^ 31 by omega), a0]
    exact ⟨_, _, _, rfl, rfl, fun _ _ => rfl, fun _ _ _ => rfl⟩
  rw [if_neg q0, if_neg q0]
  by_cases q1 : p2 = 1
  · subst q1
    rw [if_pos rfl, if_pos rfl]
    simp only [ofL_1, hck, ixb_nI (show 31 + 7 * k < 240 by omega) (by decide), ck_t, clq (show 31 + 7 * k < 2 ^ 31 by omega), clq (show k < 2 ^ 31 by omega), a1]
    exact ⟨_, _, _, rfl, rfl, fun _ _ => rfl, fun _ _ _ => rfl⟩
  rw [if_neg q1, if_neg q1]
  by_cases q2 : p2 = 2
  · subst q2
    rw [if_pos rfl, if_pos rfl, heatNow_eq v (by omega), heat_eq hI hR (by omega) hk]
    exact ⟨_, _, _, rfl, rfl, fun _ _ => rfl, fun _ _ _ => rfl⟩
  rw [if_neg q2, if_neg q2]
  by_cases q3 : p2 = 3
  · subst q3
    rw [if_pos rfl, if_pos rfl]
    rw [show (2 + 3 - 3 : Int32) = 2 by decide]
    simp only [ofL_2, hck, ixb_nI (show 32 + 7 * k < 240 by omega) (by decide), ck_t, clq (show 32 + 7 * k < 2 ^ 31 by omega), clq (show k < 2 ^ 31 by omega), a2]
    exact ⟨_, _, _, rfl, rfl, fun _ _ => rfl, fun _ _ _ => rfl⟩
  rw [if_neg q3, if_neg q3]
  by_cases q4 : p2 = 4
  · subst q4
    rw [if_pos rfl, if_pos rfl]
    rw [show (2 + 4 - 3 : Int32) = 3 by decide]
    simp only [ofL_3, hck, ixb_nI (show 33 + 7 * k < 240 by omega) (by decide), ck_t, clq (show 33 + 7 * k < 2 ^ 31 by omega), clq (show k < 2 ^ 31 by omega), a3]
    exact ⟨_, _, _, rfl, rfl, fun _ _ => rfl, fun _ _ _ => rfl⟩
  rw [if_neg q4, if_neg q4]
  by_cases q5 : p2 = 5
  · subst q5
    rw [if_pos rfl, if_pos rfl]
    rw [show (2 + 5 - 3 : Int32) = 4 by decide]
    simp only [ofL_4, hck, ixb_nI (show 34 + 7 * k < 240 by omega) (by decide), ck_t, clq (show 34 + 7 * k < 2 ^ 31 by omega), clq (show k < 2 ^ 31 by omega), a4]
    exact ⟨_, _, _, rfl, rfl, fun _ _ => rfl, fun _ _ _ => rfl⟩
  rw [if_neg q5, if_neg q5]
  by_cases q6 : p2 = 6
  · subst q6
    rw [if_pos rfl, if_pos rfl]
    rw [show (2 + 6 - 3 : Int32) = 5 by decide]
    simp only [ofL_5, hck, ixb_nI (show 35 + 7 * k < 240 by omega) (by decide), ck_t, clq (show 35 + 7 * k < 2 ^ 31 by omega), clq (show k < 2 ^ 31 by omega), a5]
    exact ⟨_, _, _, rfl, rfl, fun _ _ => rfl, fun _ _ _ => rfl⟩
  rw [if_neg q6, if_neg q6]
  by_cases q7 : p2 = 7
  · subst q7
    rw [if_pos rfl, if_pos rfl]
    obtain ⟨c, m2, c1, c2, c3, -, c4⟩ := regretOf hI hR (show 100 ≤ n by omega)
    unfold f_X5_ofSent
    rw [c1, c2]
    simp only [bd1_s, bd2_s, hck, ck_t, clq (show k < 2 ^ 31 by omega), vs_s, c3 k (by omega)]
    exact ⟨_, _, _, rfl, rfl, fun j hj => mx_14 _ c hj, c4⟩
  rw [if_neg q7, if_neg q7]
  by_cases q8 : p2 = 8
  · subst q8
    rw [if_pos rfl, if_pos rfl]
    unfold f_X3_answersTo f_X7_answering
    rw [show f_X3_answersTo_L4 n v (nI k) 0 0 = _ from answersTo_L v hI.1.2.1 h30 (nI k) w 0 n 0 (by omega) (by omega), show f_X7_answering_L4 n m (nI k) 0 0 = _ from answering_L hI hR (nI k) w 0 n 0 (by omega) (by omega)]
    exact ⟨_, _, _, rfl, rfl, fun _ _ => rfl, fun _ _ _ => rfl⟩
  rw [if_neg q8, if_neg q8]
  by_cases q9 : p2 = 9
  · subst q9
    rw [if_pos rfl, if_pos rfl]
    obtain ⟨r, d1, d2⟩ := depth_eq hI hR hk (show 100 ≤ n by omega)
    rw [d1, d2]
    exact ⟨_, _, _, rfl, rfl, fun _ _ => rfl, fun _ _ _ => rfl⟩
  rw [if_neg q9, if_neg q9]
  exact ⟨_, _, _, rfl, rfl, fun _ _ => rfl, fun _ _ _ => rfl⟩
-- regrets lie between 0 and 198
theorem heatS_B (hI : INV v N w) {k : Nat} (hk : k < w) : B (heatS v k) 99 := by
  obtain ⟨-, -, -, -, -, hs⟩ := hI.2.2.2.1 k hk
  by_cases q : v 11 k = 1
  · unfold heatS; rw [if_pos q]; exact hs q
  · rw [heatS_N hI hk q]
    exact B_nI (by have := (hI.let hk).2.1.2; omega)
theorem rgF_B (S : Nat → Bool) (hI : INV v N w) : ∀ (k : Nat) (G R : Nat → Int32), k ≤ w → (∀ j, j < 30 → B (G j) 198 ∧ B (R j) 198) → ∀ j, j < 30 → B ((rgF S (heatS v) (v 10) k (G, R)).2 j) 198
  | 0, _, _, _, h => fun j hj => (h j hj).2
  | k + 1, G, R, hk, h => by
    have h30 := hI.1.2.2
    have hr : B (if S k = true then heatS v k + G k / 2 else 0) 198 := by
      by_cases q : S k = true
      · rw [if_pos q]
        obtain ⟨x, hx, ex⟩ := heatS_B hI (show k < w by omega)
        obtain ⟨y, hy, ey⟩ := (h k (by omega)).1
        rw [ex, ey, show (2 : Int32) = nI 2 from rfl, pk_div (d := 2) (by omega) (by decide) (by decide), nI_add]
        exact B_nI (by omega)
      · rw [if_neg q]; exact B_lit0
    intro j hj
    show B ((rgF S (heatS v) (v 10) k (rgStep S (heatS v) (v 10) k (G, R))).2 j) 198
    unfold rgStep
    simp only []
    generalize (if S k = true then heatS v k + G k / 2 else 0) = r at hr ⊢
    refine rgF_B S hI k _ _ (by omega) (fun j hj => ⟨?_, ?_⟩) j hj
    · by_cases q : v 10 k = -6
      · rw [if_pos q]; exact (h j hj).1
      · rw [if_neg q]
        by_cases qt : j = tn (v 10 k)
        · subst qt
          rw [upd_s]
          by_cases q2 : r ≤ G (tn (v 10 k))
          · rw [if_pos q2]; exact (h _ hj).1
          · rw [if_neg q2]; exact hr
        · rw [upd_o _ _ qt]; exact (h j hj).1
    · by_cases qt : j = k
      · subst qt; rw [upd_s]; exact hr
      · rw [upd_o _ _ qt]; exact (h j hj).2
theorem most_L (hI : INV v N w) (hR : REL v (m 0) N w) (c : Nat → Int32) (hB : ∀ j, j < 30 → B (c j) 198) (hc : ∀ j, j < 30 → c j = m 6 j) : ∀ (r i n : Nat) (x2 x3 : Int32), i + r = w → r < n → (x2 = -6 ∧ x3 = -1 ∨ ∃ b, b < 30 ∧ x2 = nI b ∧ x3 = c b) → ∃ x, f_X5_greatest_L15 n (vs v 14 c) x2 x3 (nI i) = some (x, vs v 14 c) ∧ f_X7_mostRegretted_L9 n m x2 (nI i) = some (x, m)
  | 0, i, n, x2, x3, hi, hn, _ => by
    obtain ⟨n, rfl⟩ := up1 hn
    have h30 := hI.1.2.2
    rw [f_X5_greatest_L15, f_X7_mostRegretted_L9, show (vs v 14 c) 1 0 = nI w from hI.1.2.1, cl_5, hR.1.2.2.2.2.2, if_pos (nI_le (by omega) (by omega)), if_pos (nI_le (by omega) (by omega))]
    exact ⟨x2, rfl, rfl⟩
  | r + 1, i, n, x2, x3, hi, hn, hx => by
    obtain ⟨n, rfl⟩ := up1 (show 0 < n by omega)
    have h30 := hI.1.2.2
    have ih := most_L hI hR c hB hc r (i + 1) n
    obtain ⟨-, -, -, a3, -⟩ := hR.2.2 i (by omega)
    rw [f_X5_greatest_L15, f_X7_mostRegretted_L9, show (vs v 14 c) 1 0 = nI w from hI.1.2.1, cl_5, hR.1.2.2.2.2.2, if_neg (nI_ge (by omega) (by omega)), if_neg (nI_ge (by omega) (by omega))]
    simp only [ofL_3, ixb_nI (show 33 + 7 * i < 240 by omega) (by decide), ixb_nI (show i < 30 by omega) (by decide), ck_t, clq (show 33 + 7 * i < 2 ^ 31 by omega), clq (show i < 2 ^ 31 by omega), nI_1, a3, vs_s, vs_o v c (show (11 : Nat) ≠ 14 by decide)]
    unfold f_X7_mostRegretted_J54 f_X7_mostRegretted_J58 f_X7_mostRegretted_J59
    have h10 : ¬ (1 : Int32) = 0 := by decide
    simp only [if_neg h10, if_true, nI_1]
    by_cases q : v 11 i = 1
    · rw [if_pos q, if_pos q]
      rcases hx with ⟨e2, e3⟩ | ⟨b, hb, e2, e3⟩
      · subst e2 e3
        obtain ⟨y, hy, ey⟩ := hB i (by omega)
        rw [if_pos rfl, if_neg (show ¬ c i ≤ -1 from by
          rw [ey, Int32.le_iff_toInt_le, nI_toInt (by omega)]
          have : (-1 : Int32).toInt = -1 := by decide
          omega)]
        exact ih _ _ (by omega) (by omega) (Or.inr ⟨i, by omega, rfl, rfl⟩)
      · subst e2 e3
        rw [if_neg (isL_not6 b hb)]
        simp only [ixb_nI hb (by decide), ck_t, clq (show b < 2 ^ 31 by omega), ← hc i (by omega), ← hc b hb]
        by_cases q2 : c i ≤ c b
        · rw [if_pos q2, if_pos q2]
          exact ih _ _ (by omega) (by omega) (Or.inr ⟨b, hb, rfl, rfl⟩)
        · rw [if_neg q2, if_neg q2]
          exact ih _ _ (by omega) (by omega) (Or.inr ⟨i, by omega, rfl, rfl⟩)
    · rw [if_neg q, if_neg q]
      exact ih _ _ (by omega) (by omega) hx
theorem mostRegretted_eq (hI : INV v N w) (hR : REL v (m 0) N w) {n : Nat} (hn : 1000 ≤ n) : ∃ r v2 m2, f_X6_mostRegretted n v = some (r, v2) ∧ f_X7_mostRegretted n m = some (r, m2) ∧ (∀ j, j ≠ 14 → v2 j = v j) ∧ ∀ i, i ≠ 6 → i ≠ 7 → m2 i = m i := by
  have h30 := hI.1.2.2
  obtain ⟨c, m2, c1, c2, c3, ⟨G, R, z, c5⟩, c4⟩ := regretOf hI hR (show 100 ≤ n by omega)
  have hB : ∀ j, j < 30 → B (c j) 198 := fun j hj => by
    rw [c3 j hj, c5]
    exact rgF_B _ hI w G R (Nat.le_refl _) (fun i hi => by rw [(z i hi).1, (z i hi).2]; exact ⟨B_lit0, B_lit0⟩) j hj
  unfold f_X6_mostRegretted f_X7_mostRegretted f_X5_greatest
  rw [c1, c2]
  simp only [bd1_s]
  obtain ⟨x, d1, d2⟩ := most_L (m := m2) hI (by rw [c4 0 (by decide) (by decide)]; exact hR) c hB c3 w 0 n (-6) (-1) (by omega) (by omega) (Or.inl ⟨rfl, rfl⟩)
  rw [show f_X5_greatest_L15 n (vs v 14 c) (-6) (-1) 0 = _ from d1, show f_X7_mostRegretted_L9 n m2 (-6) 0 = _ from d2]
  simp only [bd2_s]
  exact ⟨_, _, _, rfl, rfl, fun j hj => mx_14 _ c hj, c4⟩
end OL
