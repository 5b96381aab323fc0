/-! The counting loops, on both sides, as folds. -/
theorem up1 {n : Nat} (h : 0 < n) : ∃ q, n = q + 1 := ⟨n - 1, by omega⟩
def stM (v : DV) (x1 x2 : Int32) (j : Nat) (a : Int32) : Int32 := if v 7 j = x1 then (if v 11 j = x2 then a + 1 else a) else a
theorem ofMood_L (v : DV) {w : Nat} (hw : v 1 0 = nI w) (h30 : w ≤ 30) (x1 x2 : Int32) : ∀ (r i n : Nat) (acc : Int32), i + r = w → r < n → f_X3_ofMood_L5 n v x1 x2 acc (nI i) = some (lp (stM v x1 x2) r i acc)
  | 0, i, n, acc, hi, hn => by
    obtain ⟨n, rfl⟩ := up1 hn
    rw [f_X3_ofMood_L5, hw, if_pos (nI_le (by omega) (by omega))]
    rfl
  | r + 1, i, n, acc, hi, hn => by
    obtain ⟨n, rfl⟩ := up1 (show 0 < n by omega)
    have ih := fun acc => ofMood_L v hw h30 x1 x2 r (i + 1) n acc (by omega) (by omega)
    rw [f_X3_ofMood_L5, hw, if_neg (nI_ge (by omega) (by omega))]
    simp only [ixb_nI (show i < 30 by omega) (by decide), ck_t, clq (show i < 2 ^ 31 by omega), nI_1, ih, lp, stM]
    by_cases h1 : v 7 i = x1 <;> by_cases h2 : v 11 i = x2 <;> simp only [h1, h2, if_true, if_false]
theorem ofMood_eq {v : DV} {N w : Nat} (hI : INV v N w) (x1 x2 : Int32) {n : Nat} (hn : 100 ≤ n) : f_X3_ofMood n v x1 x2 = some (lp (stM v x1 x2) w 0 0) := by
  obtain ⟨⟨-, h1, h30⟩, -⟩ := hI
  exact ofMood_L v h1 h30 x1 x2 w 0 n 0 (by omega) (by omega)
theorem add0 (x : Int32) : x + 0 = x := Int32.add_zero x
def stA (v : DV) (x1 x2 : Int32) (j : Nat) (a : Int32) : Int32 := if v 11 j = x2 then (if x1 = 6 then a + 1 else if v 7 j = x1 then a + 1 else a) else a
theorem many_L {v m : DV} {N w : Nat} (hI : INV v N w) (hR : REL v (m 0) N w) (x1 x2 : Int32) : ∀ (r i n : Nat) (acc : Int32), i + r = w → r < n → f_X7_many_L5 n m x1 x2 acc (nI i) = some (lp (stA v x1 x2) r i acc)
  | 0, i, n, acc, hi, hn => by
    obtain ⟨n, rfl⟩ := up1 hn
    rw [f_X7_many_L5, cl_5, hR.1.2.2.2.2.2, if_pos (nI_le (by omega) (by have := hI.1.2.2; omega))]
    rfl
  | r + 1, i, n, acc, hi, hn => by
    obtain ⟨n, rfl⟩ := up1 (show 0 < n by omega)
    have h30 := hI.1.2.2
    have ih := fun acc => many_L hI hR x1 x2 r (i + 1) n acc (by omega) (by omega)
    obtain ⟨a0, -, -, a3, -⟩ := hR.2.2 i (by omega)
    rw [f_X7_many_L5, cl_5, hR.1.2.2.2.2.2, if_neg (nI_ge (by omega) (by omega))]
    simp only [ofL_3, ofL_0, ixb_nI (show 33 + 7 * i < 240 by omega) (by decide), ixb_nI (show 30 + 7 * i < 240 by omega) (by decide), ck_t, clq (show 33 + 7 * i < 2 ^ 31 by omega), clq (show 30 + 7 * i < 2 ^ 31 by omega), nI_1, ih, lp, stA, a0, a3, add0]
    by_cases h1 : v 11 i = x2 <;> by_cases h2 : x1 = 6 <;> by_cases h3 : v 7 i = x1 <;> simp only [h1, h2, h3, if_true, if_false]
theorem many_eq {v m : DV} {N w : Nat} (hI : INV v N w) (hR : REL v (m 0) N w) (x1 x2 : Int32) {n : Nat} (hn : 100 ≤ n) : f_X7_many n m x1 x2 = some (lp (stA v x1 x2) w 0 0) := many_L hI hR x1 x2 w 0 n 0 (by omega) (by have := hI.1.2.2; omega)
theorem stM_stA (v : DV) {x1 : Int32} (x2 : Int32) (h : x1 ≠ 6) (j : Nat) (a : Int32) : stM v x1 x2 j a = stA v x1 x2 j a := by
  unfold stM stA
  rw [if_neg h]
  by_cases h1 : v 7 j = x1 <;> by_cases h2 : v 11 j = x2 <;> simp only [h1, h2, if_true, if_false]
/-- letters that are so, as a fold over int32s, is their number -/
theorem lp_cnt (p : Nat → Bool) (f : Nat → Int32 → Int32) (hf : ∀ j a, f j a = if p j then a + 1 else a) : ∀ (r i c : Nat), lp f r i (nI c) = nI (lp (fun j a => if p j then a + 1 else a) r i c)
  | 0, _, _ => rfl
  | r + 1, i, c => by
    show lp f r (i + 1) (f i (nI c)) = nI (lp _ r (i + 1) _)
    rw [hf i]
    by_cases h : p i = true
    · rw [if_pos h, nI_1, lp_cnt p f hf r (i + 1) (c + 1)]
      simp only [h, if_true]
    · rw [if_neg h, lp_cnt p f hf r (i + 1) c]
      simp only [h, if_false]
      rfl
theorem stM_cnt (v : DV) (x1 x2 : Int32) (w : Nat) : lp (stM v x1 x2) w 0 0 = nI (cntP (fun j => decide (v 7 j = x1) && decide (v 11 j = x2)) w) := by
  refine lp_cnt (fun j => decide (v 7 j = x1) && decide (v 11 j = x2)) (stM v x1 x2) (fun j a => ?_) w 0 0
  unfold stM
  by_cases h1 : v 7 j = x1 <;> by_cases h2 : v 11 j = x2 <;> simp [h1, h2]
def isP (v : DV) (x : Int32) (j : Nat) : Bool := decide (v 11 j = x)
theorem stA6_cnt (v : DV) (x2 : Int32) (w : Nat) : lp (stA v 6 x2) w 0 0 = nI (cntP (isP v x2) w) := by
  refine lp_cnt (isP v x2) (stA v 6 x2) (fun j a => ?_) w 0 0
  unfold stA isP
  by_cases h2 : v 11 j = x2 <;> simp [h2]
theorem cnt_le (p : Nat → Bool) : ∀ (r i c : Nat), lp (fun j a => if p j then a + 1 else a) r i c ≤ c + r
  | 0, _, c => Nat.le_refl c
  | r + 1, i, c => by
    show lp _ r (i + 1) _ ≤ _
    refine Nat.le_trans (cnt_le p r (i + 1) _) ?_
    by_cases h : p i = true
    · simp only [h, if_true]; omega
    · simp only [h]; simp
theorem cntP_le (p : Nat → Bool) (w : Nat) : cntP p w ≤ w := by
  have := cnt_le p w 0 0
  unfold cntP
  omega
-- heat of sent, of a drawer
def stH (v : DV) (j : Nat) (a : Int32) : Int32 := if v 11 j = 1 then a + v 13 j else a
theorem heatOfSent_L (v : DV) {w : Nat} (hw : v 1 0 = nI w) (h30 : w ≤ 30) : ∀ (r i n : Nat) (acc : Int32), i + r = w → r < n → f_X3_heatOfSent_L4 n v acc (nI i) = some (lp (stH v) r i acc)
  | 0, i, n, acc, hi, hn => by
    obtain ⟨n, rfl⟩ := up1 hn
    rw [f_X3_heatOfSent_L4, hw, if_pos (nI_le (by omega) (by omega))]
    rfl
  | r + 1, i, n, acc, hi, hn => by
    obtain ⟨n, rfl⟩ := up1 (show 0 < n by omega)
    have ih := fun acc => heatOfSent_L v hw h30 r (i + 1) n acc (by omega) (by omega)
    rw [f_X3_heatOfSent_L4, hw, if_neg (nI_ge (by omega) (by omega))]
    simp only [ixb_nI (show i < 30 by omega) (by decide), ck_t, clq (show i < 2 ^ 31 by omega), nI_1, ih, lp, stH]
    by_cases h1 : v 11 i = 1 <;> simp only [h1, if_true, if_false]
def stD (v : DV) (x : Int32) (j : Nat) (a : Int32) : Int32 := if v 7 j = x then (if v 11 j = 0 then a + heatS v j else a) else a
theorem lies_eq (v : DV) {i : Nat} (hi : i < 30) (x : Int32) : f_X3_lies v (nI i) x = some (if v 7 i = x then (if v 11 i = 0 then 1 else 0) else 0) := by
  unfold f_X3_lies
  simp only [ixb_nI hi (by decide), ck_t, clq (show i < 2 ^ 31 by omega)]
  by_cases h1 : v 7 i = x <;> by_cases h2 : v 11 i = 0 <;> simp only [h1, h2, if_true, if_false]
theorem heatInDrawer_L (v : DV) {w : Nat} (hw : v 1 0 = nI w) (h30 : w ≤ 30) (x1 : Int32) : ∀ (r i n : Nat) (acc : Int32), i + r = w → r < n → f_X0_heatInDrawer_L4 n v x1 acc (nI i) = some (lp (stD v x1) r i acc)
  | 0, i, n, acc, hi, hn => by
    obtain ⟨n, rfl⟩ := up1 hn
    rw [f_X0_heatInDrawer_L4, hw, if_pos (nI_le (by omega) (by omega))]
    rfl
  | r + 1, i, n, acc, hi, hn => by
    obtain ⟨n, rfl⟩ := up1 (show 0 < n by omega)
    have ih := fun acc => heatInDrawer_L v hw h30 x1 r (i + 1) n acc (by omega) (by omega)
    rw [f_X0_heatInDrawer_L4, hw, if_neg (nI_ge (by omega) (by omega))]
    simp only [lies_eq v (show i < 30 by omega), heatNow_eq v (show i < 30 by omega), bd1_s, nI_1, ih, lp, stD]
    by_cases h1 : v 7 i = x1 <;> by_cases h2 : v 11 i = 0 <;> simp [h1, h2]
theorem heatIn_L {v m : DV} {N w : Nat} (hI : INV v N w) (hR : REL v (m 0) N w) (hN : N < 2 ^ 31) (x1 : Int32) : ∀ (r i n : Nat) (acc : Int32), i + r = w → r < n → f_X7_heatIn_L4 n m x1 acc (nI i) = some (lp (stD v x1) r i acc)
  | 0, i, n, acc, hi, hn => by
    obtain ⟨n, rfl⟩ := up1 hn
    rw [f_X7_heatIn_L4, cl_5, hR.1.2.2.2.2.2, if_pos (nI_le (by omega) (by have := hI.1.2.2; omega))]
    rfl
  | r + 1, i, n, acc, hi, hn => by
    obtain ⟨n, rfl⟩ := up1 (show 0 < n by omega)
    have h30 := hI.1.2.2
    have ih := fun acc => heatIn_L hI hR hN x1 r (i + 1) n acc (by omega) (by omega)
    obtain ⟨a0, -, -, a3, -⟩ := hR.2.2 i (by omega)
    rw [f_X7_heatIn_L4, cl_5, hR.1.2.2.2.2.2, if_neg (nI_ge (by omega) (by omega))]
    simp only [ofL_3, ofL_0, ixb_nI (show 33 + 7 * i < 240 by omega) (by decide), ixb_nI (show 30 + 7 * i < 240 by omega) (by decide), ck_t, clq (show 33 + 7 * i < 2 ^ 31 by omega), clq (show 30 + 7 * i < 2 ^ 31 by omega), nI_1, ih, lp, stD, a0, a3, add0, heat_eq hI hR hN (show i < w by omega), bd1_s]
    by_cases h1 : v 7 i = x1 <;> by_cases h2 : v 11 i = 0 <;> simp only [h1, h2, if_true, if_false]
-- answers
def stN (v : DV) (x : Int32) (j : Nat) (a : Int32) : Int32 := if v 10 j = x then a + 1 else a
theorem answersTo_L (v : DV) {w : Nat} (hw : v 1 0 = nI w) (h30 : w ≤ 30) (x1 : Int32) : ∀ (r i n : Nat) (acc : Int32), i + r = w → r < n → f_X3_answersTo_L4 n v x1 acc (nI i) = some (lp (stN v x1) r i acc)
  | 0, i, n, acc, hi, hn => by
    obtain ⟨n, rfl⟩ := up1 hn
    rw [f_X3_answersTo_L4, hw, if_pos (nI_le (by omega) (by omega))]
    rfl
  | r + 1, i, n, acc, hi, hn => by
    obtain ⟨n, rfl⟩ := up1 (show 0 < n by omega)
    have ih := fun acc => answersTo_L v hw h30 x1 r (i + 1) n acc (by omega) (by omega)
    rw [f_X3_answersTo_L4, hw, if_neg (nI_ge (by omega) (by omega))]
    simp only [ixb_nI (show i < 30 by omega) (by decide), ck_t, clq (show i < 2 ^ 31 by omega), nI_1, ih, lp, stN]
    by_cases h1 : v 10 i = x1 <;> simp only [h1, if_true, if_false]
theorem answering_L {v m : DV} {N w : Nat} (hI : INV v N w) (hR : REL v (m 0) N w) (x1 : Int32) : ∀ (r i n : Nat) (acc : Int32), i + r = w → r < n → f_X7_answering_L4 n m x1 acc (nI i) = some (lp (stN v x1) r i acc)
  | 0, i, n, acc, hi, hn => by
    obtain ⟨n, rfl⟩ := up1 hn
    rw [f_X7_answering_L4, cl_5, hR.1.2.2.2.2.2, if_pos (nI_le (by omega) (by have := hI.1.2.2; omega))]
    rfl
  | r + 1, i, n, acc, hi, hn => by
    obtain ⟨n, rfl⟩ := up1 (show 0 < n by omega)
    have h30 := hI.1.2.2
    have ih := fun acc => answering_L hI hR x1 r (i + 1) n acc (by omega) (by omega)
    obtain ⟨-, -, -, -, -, a5, -⟩ := hR.2.2 i (by omega)
    rw [f_X7_answering_L4, cl_5, hR.1.2.2.2.2.2, if_neg (nI_ge (by omega) (by omega))]
    simp only [ofL_5, ixb_nI (show 35 + 7 * i < 240 by omega) (by decide), ck_t, clq (show 35 + 7 * i < 2 ^ 31 by omega), nI_1, ih, lp, stN, a5, add0]
    by_cases h1 : v 10 i = x1 <;> simp only [h1, if_true, if_false]
-- locked drawers
def stK (v : DV) (j : Nat) (a : Int32) : Int32 := a + v 4 j
theorem howMany_L (v : DV) : ∀ (r i n : Nat) (acc : Int32), i + r = 6 → r < n → f_X1_howManyLocked_L4 n v acc (nI i) = some (lp (stK v) r i acc)
  | 0, i, n, acc, hi, hn => by
    obtain ⟨n, rfl⟩ := up1 hn
    rw [f_X1_howManyLocked_L4, if_pos (show (6 : Int32) ≤ nI i from nI_le (a := 6) (by omega) (by omega))]
    rfl
  | r + 1, i, n, acc, hi, hn => by
    obtain ⟨n, rfl⟩ := up1 (show 0 < n by omega)
    have ih := fun acc => howMany_L v r (i + 1) n acc (by omega) (by omega)
    rw [f_X1_howManyLocked_L4, if_neg (show ¬ (6 : Int32) ≤ nI i from nI_ge (a := i) (b := 6) (by omega) (by decide))]
    simp only [ixb_nI (show i < 6 by omega) (by decide), ck_t, clq (show i < 2 ^ 31 by omega), nI_1, ih, lp, stK]
theorem locked_L {v m : DV} {N w : Nat} (hR : REL v (m 0) N w) : ∀ (r i n : Nat) (acc : Int32), i + r = 6 → r < n → f_X7_locked_L4 n m acc (nI i) = some (lp (stK v) r i acc)
  | 0, i, n, acc, hi, hn => by
    obtain ⟨n, rfl⟩ := up1 hn
    rw [f_X7_locked_L4, if_pos (show (6 : Int32) ≤ nI i from nI_le (a := 6) (by omega) (by omega))]
    rfl
  | r + 1, i, n, acc, hi, hn => by
    obtain ⟨n, rfl⟩ := up1 (show 0 < n by omega)
    have ih := fun acc => locked_L hR r (i + 1) n acc (by omega) (by omega)
    obtain ⟨a0, -⟩ := hR.2.1 i (by omega)
    rw [f_X7_locked_L4, if_neg (show ¬ (6 : Int32) ≤ nI i from nI_ge (a := i) (b := 6) (by omega) (by decide))]
    simp only [ofD_0, ixb_nI (show 6 + 4 * i < 240 by omega) (by decide), ck_t, clq (show 6 + 4 * i < 2 ^ 31 by omega), nI_1, ih, lp, stK, a0]
