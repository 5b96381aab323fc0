/-! Sets of letters, counts, what a drawer and a letter tell. -/
theorem lp_add {α : Type} (f : Nat → α → α) : ∀ (a b i : Nat) (x : α), lp f (a + b) i x = lp f b (i + a) (lp f a i x)
  | 0, b, i, x => by rw [Nat.zero_add, Nat.add_zero]; rfl
  | a + 1, b, i, x => by
    rw [show a + 1 + b = (a + b) + 1 by omega]
    show lp f (a + b) (i + 1) (f i x) = lp f b (i + (a + 1)) (lp f a (i + 1) (f i x))
    rw [lp_add f a b (i + 1), show i + 1 + a = i + (a + 1) by omega]
theorem lp_id {α : Type} (f : Nat → α → α) : ∀ (r i : Nat) (x : α), (∀ j a, i ≤ j → j < i + r → f j a = a) → lp f r i x = x
  | 0, _, _, _ => rfl
  | r + 1, i, x, h => by
    show lp f r (i + 1) (f i x) = x
    rw [h i x (Nat.le_refl _) (by omega)]
    exact lp_id f r (i + 1) x (fun j a h1 h2 => h j a (by omega) (by omega))
theorem pop_cntP {M w : Nat} {p : Nat → Bool} (hw : w ≤ 30) (h : ∀ j, M.testBit j = (decide (j < w) && p j)) : popf 32 M = cntP p w := by
  have h1 := popf_cnt 32 M 0
  rw [Nat.add_zero] at h1
  rw [h1, show 32 = w + (32 - w) by omega, lp_add]
  rw [lp_id _ (32 - w) (0 + w) _ (fun j a h1 h2 => by rw [h j]; simp [show ¬ j < w by omega])]
  unfold cntP
  exact lp_congr w 0 0 (fun j a h1 h2 => by rw [h j]; simp [show j < w by omega])
section ST
variable {v m : DV} {N w : Nat}
theorem setOf_L (v : DV) {w : Nat} (hw : v 1 0 = nI w) (h30 : w ≤ 30) (x1 : Int32) : ∀ (r i n : Nat) (acc : Int64), i + r = w → r < n → f_X3_setOf_L5 n v x1 acc (nI i) = some (lp (stB (isP v x1)) r i acc)
  | 0, i, n, acc, hi, hn => by
    obtain ⟨n, rfl⟩ := up1 hn
    rw [f_X3_setOf_L5, hw, if_pos (nI_le (by omega) (by omega))]
    rfl
  | r + 1, i, n, acc, hi, hn => by
    obtain ⟨n, rfl⟩ := up1 (show 0 < n by omega)
    have ih := fun acc => setOf_L v hw h30 x1 r (i + 1) n acc (by omega) (by omega)
    rw [f_X3_setOf_L5, hw, if_neg (nI_ge (by omega) (by omega))]
    simp only [ixb_nI (show i < 30 by omega) (by decide), ck_t, clq (show i < 2 ^ 31 by omega), nI_1, ih, lp, stB, isP]
    by_cases h1 : v 11 i = x1 <;> simp only [h1, if_true, if_false, decide_true, decide_false] <;> rfl
theorem setOf_eq (h : INV v N w) (x1 : Int32) {n : Nat} (hn : 100 ≤ n) : ∃ M, M < 2 ^ 30 ∧ f_X3_setOf n v x1 = some (lN M) ∧ ∀ j, M.testBit j = (decide (j < w) && isP v x1 j) := by
  have h30 := h.1.2.2
  obtain ⟨M, h1, h2, h3⟩ := stB_lp (isP v x1) w 0 0 (by omega) (by decide)
  refine ⟨M, h1, ?_, fun j => ?_⟩
  · unfold f_X3_setOf
    rw [show (0 : Int32) = nI 0 from rfl, setOf_L v h.1.2.1 h30 x1 w 0 n 0 (by omega) (by omega), show (0 : Int64) = lN 0 from rfl, h2]
  · rw [h3 j]
    simp
theorem setCnt_eq (h : INV v N w) (x1 : Int32) {n : Nat} (hn : 100 ≤ n) : ∃ M, f_X3_setOf n v x1 = some (lN M) ∧ f_J13_bitCount_95d88 (lN M) = nI (cntP (isP v x1) w) := by
  obtain ⟨M, h1, h2, h3⟩ := setOf_eq h x1 hn
  exact ⟨M, h2, by rw [bitCount_pop h1, pop_cntP h.1.2.2 h3]⟩
def pd (v : DV) (T d j : Nat) : Bool := decide (v 4 d = 0) && ((decide (v 7 j = nI d) && decide (v 11 j = 0)) && decide (rdy v j ≤ T))
theorem rdy_le (h : INV v N w) (hN : N < 24000) {k : Nat} (hk : k < w) : rdy v k ≤ 1000000 := by
  obtain ⟨⟨m1, m2⟩, ⟨e1, e2⟩, ⟨e3, e4⟩⟩ := h.let hk
  obtain ⟨⟨r1, r2⟩, -⟩ := h.dr (show tn (v 7 k) < 6 by omega)
  exact rdyN_le e2 r2 e4 (by omega)
theorem rdy_lt (h : INV v N w) {k : Nat} (hk : k < w) : rdy v k < 2 ^ 31 := by
  obtain ⟨⟨m1, m2⟩, ⟨e1, e2⟩, ⟨e3, e4⟩⟩ := h.let hk
  obtain ⟨⟨r1, r2⟩, -⟩ := h.dr (show tn (v 7 k) < 6 by omega)
  have hN := h.2.2.2.2.2
  unfold rdy rdyN
  split
  · omega
  · split
    · omega
    · have : (tn (v 8 k) - tn (v 2 1) + tn (v 2 2) - 1) / tn (v 2 2) ≤ tn (v 8 k) - tn (v 2 1) + tn (v 2 2) - 1 := Nat.div_le_self _ _
      obtain ⟨-, -, ⟨c3, c4⟩⟩ := h.st
      split <;> omega
theorem swg_L13 (h : INV v N w) {d : Nat} (hd : d < 6) (k4 : DV → Int64 → Int32 → Option Int64) : ∀ (r i n : Nat) (acc : Int64), i + r = w → r < n → f_X0_setThatWouldGo_L13 k4 n v acc (nI d) (nI i) = k4 v (lp (stB (pd v (N / 24) d)) r i acc) (nI (d + 1))
  | 0, i, n, acc, hi, hn => by
    obtain ⟨n, rfl⟩ := up1 hn
    rw [f_X0_setThatWouldGo_L13, h.1.2.1, if_pos (nI_le (by omega) (by have := h.1.2.2; omega)), nI_1]
    rfl
  | r + 1, i, n, acc, hi, hn => by
    obtain ⟨n, rfl⟩ := up1 (show 0 < n by omega)
    have h30 := h.1.2.2
    have hN := h.2.2.2.2.2
    have ih := fun acc => swg_L13 h hd k4 r (i + 1) n acc (by omega) (by omega)
    rw [f_X0_setThatWouldGo_L13, h.1.2.1, if_neg (nI_ge (by omega) (by omega))]
    simp only [ixb_nI hd (by decide), ck_t, clq (show d < 2 ^ 31 by omega), lies_eq v (show i < 30 by omega), bd1_s, nI_1, ih, lp, stB, pd]
    by_cases q1 : v 4 d = 0
    · by_cases q2 : v 7 i = nI d
      · by_cases q3 : v 11 i = 0
        · have e := readyDay_eq h (show i < w by omega)
          rw [q2] at e
          simp only [q1, q2, q3, if_true, e, bd1_s, f_X0_today, h.1.1, today_nI (show N < 2 ^ 31 by omega), decide_true, Bool.true_and]
          rw [if_neg (show ¬ (1 : Int32) = 0 by decide)]
          by_cases q4 : rdy v i ≤ N / 24
          · rw [if_neg (nI_nlt q4 (by omega))]
            simp only [q4, decide_true, if_true]
          · rw [if_pos (nI_lt (by omega) (rdy_lt h (by omega)))]
            simp [q4]
        · simp [q1, q2, q3]
      · simp [q1, q2]
    · simp [q1]
theorem pd_goS (h : INV v N w) (T : Nat) {d j : Nat} (hd : d < 6) (hj : j < w) : pd v T d j = (decide (tn (v 7 j) = d) && goS v T j) := by
  obtain ⟨⟨m1, m2⟩, -⟩ := h.let hj
  unfold pd goS
  by_cases q : tn (v 7 j) = d
  · subst q
    have e : decide (v 7 j = nI (tn (v 7 j))) = true := decide_eq_true m1
    rw [e]
    simp only [decide_true, Bool.true_and]
    rw [Bool.and_left_comm]
  · have e : decide (v 7 j = nI d) = false := decide_eq_false (fun e => q (by rw [e]; exact tn_nI (by omega)))
    rw [e, decide_eq_false q]
    simp
theorem swg_L4 (h : INV v N w) : ∀ (r d n M : Nat), d + r = 6 → 40 + r < n → M < 2 ^ 30 → (∀ j, M.testBit j = (decide (j < w) && (decide (tn (v 7 j) < d) && goS v (N / 24) j))) → ∃ M2, M2 < 2 ^ 30 ∧ f_X0_setThatWouldGo_L4 n v (lN M) (nI d) = some (lN M2) ∧ ∀ j, M2.testBit j = (decide (j < w) && goS v (N / 24) j)
  | 0, d, n, M, hd, hn, hM, hb => by
    obtain ⟨n, rfl⟩ := up1 (show 0 < n by omega)
    have hd6 : d = 6 := by omega
    subst hd6
    refine ⟨M, hM, ?_, fun j => ?_⟩
    · rw [f_X0_setThatWouldGo_L4, if_pos (show (6 : Int32) ≤ nI 6 by decide)]
    · rw [hb j]
      by_cases hj : j < w
      · obtain ⟨⟨m1, m2⟩, -⟩ := h.let hj
        simp [hj, show tn (v 7 j) < 6 by omega]
      · simp [hj]
  | r + 1, d, n, M, hd, hn, hM, hb => by
    obtain ⟨n, rfl⟩ := up1 (show 0 < n by omega)
    have h30 := h.1.2.2
    obtain ⟨M1, a1, a2, a3⟩ := stB_lp (pd v (N / 24) d) w 0 M (by omega) hM
    rw [f_X0_setThatWouldGo_L4, if_neg (show ¬ (6 : Int32) ≤ nI d from nI_ge (a := d) (b := 6) (by omega) (by decide)), show (0 : Int32) = nI 0 from rfl, swg_L13 h (show d < 6 by omega) _ w 0 n _ (by omega) (by omega), a2]
    refine swg_L4 h r (d + 1) n M1 (by omega) (by omega) a1 (fun j => ?_)
    rw [a3 j, hb j]
    by_cases hj : j < w
    · rw [pd_goS h (N / 24) (by omega) hj]
      by_cases q : tn (v 7 j) < d
      · simp [hj, q, show tn (v 7 j) < d + 1 by omega]
      · by_cases q2 : tn (v 7 j) = d
        · simp [hj, q2]
        · simp [hj, q, q2, show ¬ tn (v 7 j) < d + 1 by omega]
    · simp [hj]
theorem swg_eq (h : INV v N w) {n : Nat} (hn : 100 ≤ n) : ∃ M, M < 2 ^ 30 ∧ f_X0_setThatWouldGo n v = some (lN M) ∧ ∀ j, M.testBit j = (decide (j < w) && goS v (N / 24) j) :=
  swg_L4 h 6 0 n 0 rfl (by omega) (by decide) (fun j => by simp)
/-- words with the same bits -/
theorem bits_eq {M1 M2 : Nat} (h : ∀ j, M1.testBit j = M2.testBit j) : M1 = M2 := Nat.eq_of_testBit_eq h
theorem letters_L (h : INV v N w) (hR : REL v (m 0) N w) (x1 : Int32) : ∀ (r i n : Nat) (acc : Int64), i + r = w → r < n → f_X7_letters_L18 n m x1 acc (nI i) = some (lp (stB (fun j => if x1 = 3 then goS v (N / 24) j else isP v x1 j)) r i acc)
  | 0, i, n, acc, hi, hn => by
    obtain ⟨n, rfl⟩ := up1 hn
    rw [f_X7_letters_L18, cl_5, hR.1.2.2.2.2.2, if_pos (nI_le (by omega) (by have := h.1.2.2; omega))]
    rfl
  | r + 1, i, n, acc, hi, hn => by
    obtain ⟨n, rfl⟩ := up1 (show 0 < n by omega)
    have h30 := h.1.2.2
    have ih := fun acc => letters_L h hR x1 r (i + 1) n acc (by omega) (by omega)
    obtain ⟨-, -, -, a3, -⟩ := hR.2.2 i (by omega)
    rw [f_X7_letters_L18, cl_5, hR.1.2.2.2.2.2, if_neg (nI_ge (by omega) (by omega))]
    simp only [ofL_3, ixb_nI (show 33 + 7 * i < 240 by omega) (by decide), ck_t, clq (show 33 + 7 * i < 2 ^ 31 by omega), nI_1, ih, lp, stB, a3, wouldGo_eq h hR (show i < w by omega), bd1_s, or_zero64, isP]
    by_cases q1 : x1 = 3
    · simp only [q1, if_true]
      by_cases q2 : goS v (N / 24) i = true
      · simp only [q2, if_true]
        rw [if_neg (show ¬ (1 : Int32) = 0 by decide)]
      · simp [q2]
    · simp only [q1, if_false]
      by_cases q2 : v 11 i = x1
      · simp only [q2, if_true, decide_true]
      · simp [q2]
theorem letters_eq (h : INV v N w) (hR : REL v (m 0) N w) (p1 : Int32) {n : Nat} (hn : 100 ≤ n) : ∃ r, f_X6_letters n v p1 = some r ∧ f_X7_letters n m p1 = some r := by
  have h30 := h.1.2.2
  have key : ∀ x1 : Int32, (f_X7_in x1 0 3 = 1) → ∃ M, M < 2 ^ 30 ∧ f_X7_letters n m x1 = some (lN M) ∧ ∀ j, M.testBit j = (decide (j < w) && (if x1 = 3 then goS v (N / 24) j else isP v x1 j)) := by
    intro x1 hx
    obtain ⟨M, a1, a2, a3⟩ := stB_lp (fun j => if x1 = 3 then goS v (N / 24) j else isP v x1 j) w 0 0 (by omega) (by decide)
    refine ⟨M, a1, ?_, fun j => ?_⟩
    · unfold f_X7_letters
      rw [hx, if_neg (by decide), show (0 : Int32) = nI 0 from rfl, letters_L h hR x1 w 0 n 0 (by omega) (by omega), show (0 : Int64) = lN 0 from rfl, a2]
    · rw [a3 j]; simp
  unfold f_X6_letters
  by_cases q0 : p1 = 0
  · subst q0
    rw [if_pos rfl]
    obtain ⟨M1, a1, a2, a3⟩ := setOf_eq h 0 hn
    obtain ⟨M2, b1, b2, b3⟩ := key 0 (by decide)
    have e : M1 = M2 := bits_eq (fun j => by rw [a3, b3]; simp)
    exact ⟨lN M1, by rw [a2]; rfl, by rw [b2, e]⟩
  · rw [if_neg q0]
    by_cases q1 : p1 = 1
    · subst q1
      rw [if_pos rfl]
      obtain ⟨M1, a1, a2, a3⟩ := setOf_eq h 1 hn
      obtain ⟨M2, b1, b2, b3⟩ := key 1 (by decide)
      have e : M1 = M2 := bits_eq (fun j => by rw [a3, b3]; simp)
      exact ⟨lN M1, by rw [a2]; rfl, by rw [b2, e]⟩
    · rw [if_neg q1]
      by_cases q2 : p1 = 2
      · subst q2
        rw [if_pos rfl]
        obtain ⟨M1, a1, a2, a3⟩ := setOf_eq h 2 hn
        obtain ⟨M2, b1, b2, b3⟩ := key 2 (by decide)
        have e : M1 = M2 := bits_eq (fun j => by rw [a3, b3]; simp)
        exact ⟨lN M1, by rw [a2]; rfl, by rw [b2, e]⟩
      · rw [if_neg q2]
        by_cases q3 : p1 = 3
        · subst q3
          rw [if_pos rfl]
          obtain ⟨M1, a1, a2, a3⟩ := swg_eq h hn
          obtain ⟨M2, b1, b2, b3⟩ := key 3 (by decide)
          have e : M1 = M2 := bits_eq (fun j => by rw [a3, b3]; simp)
          exact ⟨lN M1, by rw [a2]; rfl, by rw [b2, e]⟩
        · rw [if_neg q3]
          refine ⟨-2, rfl, ?_⟩
          unfold f_X7_letters
          rcases in_cases p1 (lo := 0) (hi := 3) (by decide) (fun h => absurd h (by decide)) with ⟨e, -⟩ | ⟨-, j, -, hj, e⟩
          · rw [show f_X7_in p1 0 3 = 0 from e, if_pos rfl]
          · exfalso
            rcases (show j = 0 ∨ j = 1 ∨ j = 2 ∨ j = 3 by omega) with rfl | rfl | rfl | rfl
            · exact q0 e
            · exact q1 e
            · exact q2 e
            · exact q3 e
theorem cnt_many (h : INV v N w) (hR : REL v (m 0) N w) (x : Int32) {n : Nat} (hn : 100 ≤ n) : bd1 (f_X3_setOf n v x) (fun r => some (f_J13_bitCount_95d88 r)) = bd1 (f_X7_many n m 6 x) (fun r => some r) ∧ bd1 (f_X7_many n m 6 x) (fun r => some r) = some (nI (cntP (isP v x) w)) := by
  obtain ⟨M, a1, a2⟩ := setCnt_eq h x hn
  rw [a1, many_eq h hR 6 x hn, stA6_cnt]
  exact ⟨by rw [bd1_s, bd1_s, a2], rfl⟩
theorem count_eq (h : INV v N w) (hR : REL v (m 0) N w) (hp : m 9 0 = v 16 0) (hk : m 8 0 = v 22 0) (p1 : Int32) {n : Nat} (hn : 100 ≤ n) : ∃ r, f_X6_count n v p1 = some r ∧ f_X7_count n m p1 = some r := by
  have h30 := h.1.2.2
  have hN := h.2.2.2.2.2
  obtain ⟨s0, s1, s2, s3, s4, s5⟩ := hR.1
  unfold f_X6_count f_X7_count
  by_cases q0 : p1 = 0
  · subst q0; exact ⟨nI (N / 24), by rw [if_pos rfl]; unfold f_X0_today; rw [h.1.1, today_nI (by omega)], by rw [if_pos rfl, show ixb (3 + 0) 240 = true from rfl, ck_t, show Int32.toNatClampNeg (3 + 0) = 3 from rfl, s3]⟩
  rw [if_neg q0, if_neg q0]
  by_cases q1 : p1 = 1
  · subst q1; exact ⟨nI (N % 24), by rw [if_pos rfl]; unfold f_X0_hourOfDay; rw [h.1.1, hour_nI (by omega)], by rw [if_pos rfl, show ixb (3 + 1) 240 = true from rfl, ck_t, show Int32.toNatClampNeg (3 + 1) = 4 from rfl, s4]⟩
  rw [if_neg q1, if_neg q1]
  by_cases q2 : p1 = 2
  · subst q2; exact ⟨nI w, by rw [if_pos rfl, h.1.2.1], by rw [if_pos rfl, show ixb (3 + 2) 240 = true from rfl, ck_t, show Int32.toNatClampNeg (3 + 2) = 5 from rfl, s5]⟩
  rw [if_neg q2, if_neg q2]
  by_cases q3 : p1 = 3
  · subst q3; obtain ⟨a, b⟩ := cnt_many h hR 0 hn
    exact ⟨_, by rw [if_pos rfl]; exact a.trans b, by rw [if_pos rfl, show (3 : Int32) - 3 = 0 by decide]; exact b⟩
  rw [if_neg q3, if_neg q3]
  by_cases q4 : p1 = 4
  · subst q4; obtain ⟨a, b⟩ := cnt_many h hR 1 hn
    exact ⟨_, by rw [if_pos rfl]; exact a.trans b, by rw [if_pos rfl, show (4 : Int32) - 3 = 1 by decide]; exact b⟩
  rw [if_neg q4, if_neg q4]
  by_cases q5 : p1 = 5
  · subst q5; obtain ⟨a, b⟩ := cnt_many h hR 2 hn
    exact ⟨_, by rw [if_pos rfl]; exact a.trans b, by rw [if_pos rfl, show (5 : Int32) - 3 = 2 by decide]; exact b⟩
  rw [if_neg q5, if_neg q5]
  by_cases q6 : p1 = 6
  · subst q6
    refine ⟨lp (stK v) 6 0 0, ?_, ?_⟩
    · rw [if_pos rfl]; unfold f_X1_howManyLocked
      rw [show (0 : Int32) = nI 0 from rfl, howMany_L v 6 0 n _ rfl (by omega)]; rfl
    · rw [if_pos rfl]; unfold f_X7_locked
      rw [show (0 : Int32) = nI 0 from rfl, locked_L hR 6 0 n _ rfl (by omega)]; rfl
  rw [if_neg q6, if_neg q6]
  by_cases q7 : p1 = 7
  · subst q7; exact ⟨v 2 0, by rw [if_pos rfl, cl_0], by rw [if_pos rfl, show ixb (0 + 7 - 7) 240 = true from rfl, ck_t, show Int32.toNatClampNeg (0 + 7 - 7) = 0 from rfl, s0]⟩
  rw [if_neg q7, if_neg q7]
  by_cases q8 : p1 = 8
  · subst q8; exact ⟨v 2 1, by rw [if_pos rfl, cl_1], by rw [if_pos rfl, show ixb (0 + 8 - 7) 240 = true from rfl, ck_t, show Int32.toNatClampNeg (0 + 8 - 7) = 1 from rfl, s1]⟩
  rw [if_neg q8, if_neg q8]
  by_cases q9 : p1 = 9
  · subst q9; exact ⟨v 2 2, by rw [if_pos rfl, cl_2], by rw [if_pos rfl, show ixb (0 + 9 - 7) 240 = true from rfl, ck_t, show Int32.toNatClampNeg (0 + 9 - 7) = 2 from rfl, s2]⟩
  rw [if_neg q9, if_neg q9]
  by_cases q10 : p1 = 10
  · subst q10; exact ⟨v 16 0, by rw [if_pos rfl], by rw [if_pos rfl, hp]⟩
  rw [if_neg q10, if_neg q10]
  by_cases q11 : p1 = 11
  · subst q11; exact ⟨v 22 0, by rw [if_pos rfl], by rw [if_pos rfl, hk]⟩
  rw [if_neg q11, if_neg q11]
  exact ⟨-2, rfl, rfl⟩
theorem ofDrawer_eq (h : INV v N w) (hR : REL v (m 0) N w) (p1 p2 : Int32) {n : Nat} (hn : 100 ≤ n) : ∃ r, f_X6_ofDrawer n v p1 p2 = some r ∧ f_X7_ofDrawer n m p1 p2 = some r := by
  have h30 := h.1.2.2
  have hN := h.2.2.2.2.2
  unfold f_X6_ofDrawer f_X7_ofDrawer
  rw [isMood_eq]
  rcases isMood_cases p1 with ⟨e, -⟩ | ⟨e, d, hd, rfl⟩
  · rw [e, if_pos rfl, if_pos rfl]; exact ⟨-1, rfl, rfl⟩
  have h10 : ¬ (1 : Int32) = 0 := by decide
  rw [e, if_neg h10, if_neg h10]
  obtain ⟨b0, b1, b2, b3⟩ := hR.2.1 d hd
  have hne6 : nI d ≠ 6 := fun e => by
    have := (nI_eq (a := d) (b := 6) (by omega) (by decide)).mp e
    omega
  have hm : ∀ x : Int32, bd1 (f_X3_ofMood n v (nI d) x) (fun r => some r) = bd1 (f_X7_many n m (nI d) x) (fun r => some r) := fun x => by
    rw [ofMood_eq h (nI d) x hn, many_eq h hR (nI d) x hn, lp_congr w 0 0 (fun j a _ _ => stM_stA v x hne6 j a)]
  have hm2 : ∀ x : Int32, ∃ r, bd1 (f_X7_many n m (nI d) x) (fun r => some r) = some r := fun x => ⟨_, by rw [many_eq h hR (nI d) x hn]; rfl⟩
  by_cases q0 : p2 = 0
  · subst q0; obtain ⟨r, hr⟩ := hm2 0; exact ⟨r, by rw [if_pos rfl, hm, hr], by rw [if_pos rfl, hr]⟩
  rw [if_neg q0, if_neg q0]
  by_cases q1 : p2 = 1
  · subst q1; exact ⟨v 4 d, by rw [if_pos rfl, ixb_nI hd (by decide), ck_t, clq (by omega)], by rw [if_pos rfl, show (1 : Int32) - 1 = 0 by decide, ofD_0, ixb_nI (by omega) (by decide), ck_t, clq (by omega), b0]⟩
  rw [if_neg q1, if_neg q1]
  by_cases q2 : p2 = 2
  · subst q2; exact ⟨v 3 d, by rw [if_pos rfl, ixb_nI hd (by decide), ck_t, clq (by omega)], by rw [if_pos rfl, show (2 : Int32) - 1 = 1 by decide, ofD_1, ixb_nI (by omega) (by decide), ck_t, clq (by omega), b1]⟩
  rw [if_neg q2, if_neg q2]
  by_cases q3 : p2 = 3
  · subst q3; exact ⟨v 5 d, by rw [if_pos rfl, ixb_nI hd (by decide), ck_t, clq (by omega)], by rw [if_pos rfl, show (3 : Int32) - 1 = 2 by decide, ofD_2, ixb_nI (by omega) (by decide), ck_t, clq (by omega), b2]⟩
  rw [if_neg q3, if_neg q3]
  by_cases q4 : p2 = 4
  · subst q4; exact ⟨v 6 d, by rw [if_pos rfl, ixb_nI hd (by decide), ck_t, clq (by omega)], by rw [if_pos rfl, show (4 : Int32) - 1 = 3 by decide, ofD_3, ixb_nI (by omega) (by decide), ck_t, clq (by omega), b3]⟩
  rw [if_neg q4, if_neg q4]
  by_cases q5 : p2 = 5
  · subst q5
    refine ⟨lp (stD v (nI d)) w 0 0, ?_, ?_⟩
    · rw [if_pos rfl]; unfold f_X0_heatInDrawer
      rw [show (0 : Int32) = nI 0 from rfl, heatInDrawer_L v h.1.2.1 h30 (nI d) w 0 n _ (by omega) (by omega)]; rfl
    · rw [if_pos rfl]; unfold f_X7_heatIn
      rw [show (0 : Int32) = nI 0 from rfl, heatIn_L h hR (by omega) (nI d) w 0 n _ (by omega) (by omega)]; rfl
  rw [if_neg q5, if_neg q5]
  by_cases q6 : p2 = 6
  · subst q6; obtain ⟨r, hr⟩ := hm2 1; exact ⟨r, by rw [if_pos rfl, hm, hr], by rw [if_pos rfl, show (6 : Int32) - 5 = 1 by decide, hr]⟩
  rw [if_neg q6, if_neg q6]
  by_cases q7 : p2 = 7
  · subst q7; obtain ⟨r, hr⟩ := hm2 2; exact ⟨r, by rw [if_pos rfl, hm, hr], by rw [if_pos rfl, show (7 : Int32) - 5 = 2 by decide, hr]⟩
  rw [if_neg q7, if_neg q7]
  exact ⟨-2, rfl, rfl⟩
end ST
