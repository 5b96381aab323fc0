/-! The pure part: numbers, folds, the relation between a desk's value and the reference's row. -/
theorem ck_t {α : Type} (k : Option α) : ck true k = k := rfl
theorem bd1_s {α β : Type} (x : α) (k : α → Option β) : bd1 (some x) k = k x := rfl
theorem bd2_s {α γ β : Type} (x : α) (y : γ) (k : α → γ → Option β) : bd2 (some (x, y)) k = k x y := rfl
theorem lt_s1 {α β : Type} (x : α) (k : α → Option β) : lt x k = k x := rfl
theorem ixb_nI {i n : Nat} (h : i < n) (hn : n < 2 ^ 31) : ixb (nI i) n = true := by
  unfold ixb
  rw [nI_clamp (by omega), decide_eq_false (nI_pos (by omega)), decide_eq_true h]
  rfl
theorem clq {n : Nat} (h : n < 2 ^ 31) : Int32.toNatClampNeg (nI n) = n := nI_clamp h
theorem cl_0 : Int32.toNatClampNeg 0 = 0 := rfl
theorem cl_1 : Int32.toNatClampNeg 1 = 1 := rfl
theorem cl_2 : Int32.toNatClampNeg 2 = 2 := rfl
theorem cl_3 : Int32.toNatClampNeg 3 = 3 := rfl
theorem cl_4 : Int32.toNatClampNeg 4 = 4 := rfl
theorem cl_5 : Int32.toNatClampNeg 5 = 5 := rfl
theorem ofL_c (k c : Nat) : f_X7_ofL (nI k) (nI c) = nI (30 + 7 * k + c) := by
  show (nI 30 + nI 7 * nI k) + nI c = _
  rw [pk_mul, nI_add, nI_add]
theorem ofL_0 (k : Nat) : f_X7_ofL (nI k) 0 = nI (30 + 7 * k) := ofL_c k 0
theorem ofL_1 (k : Nat) : f_X7_ofL (nI k) 1 = nI (31 + 7 * k) := (ofL_c k 1).trans (congrArg nI (by omega))
theorem ofL_2 (k : Nat) : f_X7_ofL (nI k) 2 = nI (32 + 7 * k) := (ofL_c k 2).trans (congrArg nI (by omega))
theorem ofL_3 (k : Nat) : f_X7_ofL (nI k) 3 = nI (33 + 7 * k) := (ofL_c k 3).trans (congrArg nI (by omega))
theorem ofL_4 (k : Nat) : f_X7_ofL (nI k) 4 = nI (34 + 7 * k) := (ofL_c k 4).trans (congrArg nI (by omega))
theorem ofL_5 (k : Nat) : f_X7_ofL (nI k) 5 = nI (35 + 7 * k) := (ofL_c k 5).trans (congrArg nI (by omega))
theorem ofL_6 (k : Nat) : f_X7_ofL (nI k) 6 = nI (36 + 7 * k) := (ofL_c k 6).trans (congrArg nI (by omega))
theorem ofD_c (k c : Nat) : f_X7_ofD (nI k) (nI c) = nI (6 + 4 * k + c) := by
  show (nI 6 + nI 4 * nI k) + nI c = _
  rw [pk_mul, nI_add, nI_add]
theorem ofD_0 (k : Nat) : f_X7_ofD (nI k) 0 = nI (6 + 4 * k) := ofD_c k 0
theorem ofD_1 (k : Nat) : f_X7_ofD (nI k) 1 = nI (7 + 4 * k) := (ofD_c k 1).trans (congrArg nI (by omega))
theorem ofD_2 (k : Nat) : f_X7_ofD (nI k) 2 = nI (8 + 4 * k) := (ofD_c k 2).trans (congrArg nI (by omega))
theorem ofD_3 (k : Nat) : f_X7_ofD (nI k) 3 = nI (9 + 4 * k) := (ofD_c k 3).trans (congrArg nI (by omega))
/-- a whole number from 0 to n -/
def B (x : Int32) (n : Nat) : Prop := ∃ j : Nat, j ≤ n ∧ x = nI j
theorem B.mono {x : Int32} {m n : Nat} (h : B x m) (hmn : m ≤ n) : B x n := by
  obtain ⟨j, h1, h2⟩ := h
  exact ⟨j, by omega, h2⟩
theorem B_nI {j n : Nat} (h : j ≤ n) : B (nI j) n := ⟨j, h, rfl⟩
theorem B_lit0 {n : Nat} : B 0 n := ⟨0, Nat.zero_le n, rfl⟩
/-- f i, f (i + 1) .., r of them, one after the other -/
def lp {α : Type} (f : Nat → α → α) : Nat → Nat → α → α
  | 0, _, a => a
  | r + 1, i, a => lp f r (i + 1) (f i a)
theorem lp_congr {α : Type} {f g : Nat → α → α} : ∀ (r i : Nat) (a : α), (∀ j a, i ≤ j → j < i + r → f j a = g j a) → lp f r i a = lp g r i a
  | 0, _, _, _ => rfl
  | r + 1, i, a, h => by
    show lp f r (i + 1) (f i a) = lp g r (i + 1) (g i a)
    rw [h i a (Nat.le_refl _) (by omega)]
    exact lp_congr r (i + 1) _ (fun j b h1 h2 => h j b (by omega) (by omega))
def hoursOK (u l : Int32) : Prop := (u = -6 ∧ l = -6) ∨ ∃ x y : Nat, x < 24 ∧ y < 24 ∧ x ≠ y ∧ u = nI x ∧ l = nI y
def ansOK (v : DV) (k : Nat) : Prop := v 10 k = -6 ∨ ∃ j : Nat, j < k ∧ v 10 k = nI j ∧ v 11 j = 1
/-- how many of the first w letters are so -/
def cntP (p : Nat → Bool) (w : Nat) : Nat := lp (fun j a => if p j then a + 1 else a) w 0 0
def inDr (v : DV) (d : Nat) (j : Nat) : Bool := decide (v 7 j = nI d) && decide (v 11 j = 0)
/-- the desk's value, sound; N hours, w letters -/
def INV (v : DV) (N w : Nat) : Prop :=
  (v 0 0 = nI N ∧ v 1 0 = nI w ∧ w ≤ 30) ∧ (B (v 2 0) 23 ∧ B (v 2 1) 99 ∧ B (v 2 2) 20) ∧
  (∀ d, d < 6 → B (v 3 d) 30 ∧ B (v 4 d) 1 ∧ hoursOK (v 5 d) (v 6 d)) ∧
  (∀ k, k < w → B (v 7 k) 5 ∧ B (v 8 k) 99 ∧ B (v 9 k) (N / 24) ∧ ansOK v k ∧ B (v 11 k) 2 ∧ (v 11 k = 1 → B (v 13 k) 99)) ∧
  (∀ d, d < 6 → cntP (inDr v d) w ≤ 8) ∧ N < 100000
/-- the reference's row holds the same desk -/
def REL (v : DV) (s : Nat → Int32) (N w : Nat) : Prop :=
  (s 0 = v 2 0 ∧ s 1 = v 2 1 ∧ s 2 = v 2 2 ∧ s 3 = nI (N / 24) ∧ s 4 = nI (N % 24) ∧ s 5 = nI w) ∧
  (∀ d, d < 6 → s (6 + 4 * d) = v 4 d ∧ s (7 + 4 * d) = v 3 d ∧ s (8 + 4 * d) = v 5 d ∧ s (9 + 4 * d) = v 6 d) ∧
  (∀ k, k < w → s (30 + 7 * k) = v 7 k ∧ s (31 + 7 * k) = v 8 k ∧ s (32 + 7 * k) = v 9 k ∧ s (33 + 7 * k) = v 11 k ∧ s (34 + 7 * k) = v 12 k ∧ s (35 + 7 * k) = v 10 k ∧ (v 11 k = 1 → s (36 + 7 * k) = v 13 k))
theorem today_nI {N : Nat} (hN : N < 2 ^ 31) : nI N / 24 = nI (N / 24) := pk_div (d := 24) hN (by decide) (by decide)
theorem hour_nI {N : Nat} (hN : N < 2 ^ 31) : nI N - nI N / 24 * 24 = nI (N % 24) := pk_rem (d := 24) hN (by decide) (by decide)
/-- a letter's heat of now -/
def heatS (v : DV) (k : Nat) : Int32 :=
  if v 11 k = 1 then v 13 k else if 0 < v 8 k - v 2 2 * (v 0 0 / 24 - v 9 k) then v 8 k - v 2 2 * (v 0 0 / 24 - v 9 k) else 0
theorem heatNow_eq (v : DV) {k : Nat} (hk : k < 30) : f_X0_heatNow v (nI k) = some (heatS v k) := by
  unfold f_X0_heatNow heatS f_X0_today
  simp only [ixb_nI hk (by decide), ck_t, clq (show k < 2 ^ 31 by omega), cl_2]
  split <;> rfl
theorem flip0 (x : Int32) : (if 0 < x then x else 0) = if 0 ≤ x then x else 0 := by
  by_cases h : 0 < x
  · rw [if_pos h, if_pos (Int32.le_of_lt h)]
  · rw [if_neg h]
    by_cases h2 : 0 ≤ x
    · rw [if_pos h2]
      rw [Int32.lt_iff_toInt_lt] at h
      rw [Int32.le_iff_toInt_le] at h2
      apply Int32.toInt_inj.mp
      have h0 : (0 : Int32).toInt = 0 := by decide
      omega
    · rw [if_neg h2]
theorem heat_eq {v m : DV} {N w k : Nat} (hI : INV v N w) (hR : REL v (m 0) N w) (hN : N < 2 ^ 31) (hk : k < w) : f_X7_heat m (nI k) = some (heatS v k) := by
  obtain ⟨⟨h0, h1, h30⟩, -⟩ := hI
  obtain ⟨⟨-, -, e2, e3, -⟩, -, hL⟩ := hR
  obtain ⟨-, a1, a2, a3, -, -, a6⟩ := hL k hk
  unfold f_X7_heat heatS
  simp only [ofL_1, ofL_2, ofL_3, ofL_6, ixb_nI (show 33 + 7 * k < 240 by omega) (by decide), ixb_nI (show 31 + 7 * k < 240 by omega) (by decide), ixb_nI (show 32 + 7 * k < 240 by omega) (by decide), ixb_nI (show 36 + 7 * k < 240 by omega) (by decide), ck_t, clq (show 33 + 7 * k < 2 ^ 31 by omega), clq (show 31 + 7 * k < 2 ^ 31 by omega), clq (show 32 + 7 * k < 2 ^ 31 by omega), clq (show 36 + 7 * k < 2 ^ 31 by omega), cl_2, cl_3, a1, a2, a3, e2, e3]
  by_cases h : v 11 k = 1
  · rw [if_pos h, if_pos h, a6 h]
  · rw [if_neg h, if_neg h, h0, today_nI hN, flip0]
    split <;> rfl
theorem isL_eq {v : DV} {N w : Nat} (hI : INV v N w) (p : Int32) : f_X3_isLetter v p = f_X7_in p 0 (nI w - 1) := by
  obtain ⟨⟨-, h1, h30⟩, -⟩ := hI
  unfold f_X3_isLetter f_X7_in
  rw [h1]
  by_cases h : p < 0
  · rw [if_pos h, if_pos h]
  · rw [if_neg h, if_neg h]
    obtain ⟨j, hj, rfl⟩ := nI_of h
    by_cases hw : w = 0
    · subst hw
      rw [if_pos (nI_le (Nat.zero_le j) hj), if_pos]
      rw [Int32.lt_iff_toInt_lt, nI_toInt hj]
      have : (nI 0 - 1).toInt = -1 := by decide
      omega
    · have e : nI w - 1 = nI (w - 1) := by
        have := nI_pred (w - 1)
        rwa [Nat.sub_add_cancel (by omega)] at this
      rw [e]
      by_cases hjw : w ≤ j
      · rw [if_pos (nI_le hjw hj), if_pos (nI_lt (by omega) hj)]
      · rw [if_neg (nI_ge (by omega) (by omega)), if_neg (nI_nlt (by omega) (by omega)), if_neg (show ¬ (30 : Int32) ≤ nI j from nI_ge (a := j) (b := 30) (by omega) (by decide))]
/-- a letter's number, or none -/
theorem isL_cases {v : DV} {N w : Nat} (hI : INV v N w) (p : Int32) : (f_X3_isLetter v p = 0 ∧ ¬ ∃ k, k < w ∧ p = nI k) ∨ (f_X3_isLetter v p = 1 ∧ ∃ k, k < w ∧ p = nI k) := by
  obtain ⟨⟨-, h1, h30⟩, -⟩ := hI
  unfold f_X3_isLetter
  rw [h1]
  by_cases h : p < 0
  · rw [if_pos h]
    exact Or.inl ⟨rfl, fun ⟨k, hk, e⟩ => nI_pos (n := k) (by omega) (e ▸ h)⟩
  · rw [if_neg h]
    obtain ⟨j, hj, rfl⟩ := nI_of h
    by_cases hjw : w ≤ j
    · rw [if_pos (nI_le hjw hj)]
      refine Or.inl ⟨rfl, fun ⟨k, hk, e⟩ => ?_⟩
      have := (nI_eq hj (by omega)).mp e
      omega
    · rw [if_neg (nI_ge (by omega) (by omega)), if_neg (show ¬ (30 : Int32) ≤ nI j from nI_ge (a := j) (b := 30) (by omega) (by decide))]
      exact Or.inr ⟨rfl, j, by omega, rfl⟩
theorem isLm_eq {v m : DV} {N w : Nat} (hI : INV v N w) (hR : REL v (m 0) N w) (p : Int32) : f_X7_isLetter m p = some (f_X3_isLetter v p) := by
  obtain ⟨⟨-, -, -, -, -, e5⟩, -⟩ := hR
  unfold f_X7_isLetter
  rw [cl_5, e5, isL_eq hI]
theorem isMood_eq (p : Int32) : f_X7_isMood p = f_X6_isMood p := by
  unfold f_X7_isMood f_X7_in f_X6_isMood
  by_cases h : p < 0
  · rw [if_pos h, if_pos h]
  · rw [if_neg h, if_neg h]
    obtain ⟨j, hj, rfl⟩ := nI_of h
    by_cases h2 : 6 ≤ j
    · rw [if_pos (show (5 : Int32) < nI j from nI_lt (a := 5) (by omega) hj), if_pos (show (6 : Int32) ≤ nI j from nI_le (a := 6) h2 hj)]
    · rw [if_neg (show ¬ (5 : Int32) < nI j from nI_nlt (b := j) (a := 5) (by omega) (by decide)), if_neg (show ¬ (6 : Int32) ≤ nI j from nI_ge (a := j) (b := 6) (by omega) (by decide))]
theorem isMood_cases (p : Int32) : (f_X6_isMood p = 0 ∧ ¬ ∃ d, d < 6 ∧ p = nI d) ∨ (f_X6_isMood p = 1 ∧ ∃ d, d < 6 ∧ p = nI d) := by
  unfold f_X6_isMood
  by_cases h : p < 0
  · rw [if_pos h]
    exact Or.inl ⟨rfl, fun ⟨k, hk, e⟩ => nI_pos (n := k) (by omega) (e ▸ h)⟩
  · rw [if_neg h]
    obtain ⟨j, hj, rfl⟩ := nI_of h
    by_cases h2 : 6 ≤ j
    · rw [if_pos (show (6 : Int32) ≤ nI j from nI_le (a := 6) h2 hj)]
      refine Or.inl ⟨rfl, fun ⟨k, hk, e⟩ => ?_⟩
      have := (nI_eq hj (by omega)).mp e
      omega
    · rw [if_neg (show ¬ (6 : Int32) ≤ nI j from nI_ge (a := j) (b := 6) (by omega) (by decide))]
      exact Or.inr ⟨rfl, j, by omega, rfl⟩
theorem isHour_eq (p : Int32) : f_X7_in p 0 23 = f_X6_isHour p := by
  unfold f_X7_in f_X6_isHour
  by_cases h : p < 0
  · rw [if_pos h, if_pos h]
  · rw [if_neg h, if_neg h]
    obtain ⟨j, hj, rfl⟩ := nI_of h
    by_cases h2 : 24 ≤ j
    · rw [if_pos (show (23 : Int32) < nI j from nI_lt (a := 23) (by omega) hj), if_pos (show (24 : Int32) ≤ nI j from nI_le (a := 24) h2 hj)]
    · rw [if_neg (show ¬ (23 : Int32) < nI j from nI_nlt (b := j) (a := 23) (by omega) (by decide)), if_neg (show ¬ (24 : Int32) ≤ nI j from nI_ge (a := j) (b := 24) (by omega) (by decide))]
theorem in_cases (p : Int32) {lo hi : Nat} (hh : hi < 2 ^ 31) (hlo : 0 < lo → ∀ q : Int32, q < nI lo ∨ ∃ j, lo ≤ j ∧ j < 2 ^ 31 ∧ q = nI j) : (f_X7_in p (nI lo) (nI hi) = 0 ∧ ¬ ∃ j, lo ≤ j ∧ j ≤ hi ∧ p = nI j) ∨ (f_X7_in p (nI lo) (nI hi) = 1 ∧ ∃ j, lo ≤ j ∧ j ≤ hi ∧ p = nI j) := by
  unfold f_X7_in
  by_cases h0 : p < nI lo
  · rw [if_pos h0]
    refine Or.inl ⟨rfl, fun ⟨j, h1, h2, e⟩ => ?_⟩
    subst e
    exact nI_nlt (a := j) (b := lo) h1 (by omega) h0
  · rw [if_neg h0]
    have hp : ∃ j, lo ≤ j ∧ j < 2 ^ 31 ∧ p = nI j := by
      rcases Nat.eq_zero_or_pos lo with e | e
      · subst e
        obtain ⟨j, hj, rfl⟩ := nI_of (x := p) (fun h => h0 h)
        exact ⟨j, Nat.zero_le j, hj, rfl⟩
      · rcases hlo e p with h | h
        · exact absurd h h0
        · exact h
    obtain ⟨j, h1, h2, rfl⟩ := hp
    by_cases h3 : hi < j
    · rw [if_pos (nI_lt h3 h2)]
      refine Or.inl ⟨rfl, fun ⟨i, a, b, e⟩ => ?_⟩
      have := (nI_eq h2 (by omega)).mp e
      omega
    · rw [if_neg (nI_nlt (by omega) hh)]
      exact Or.inr ⟨rfl, j, h1, by omega, rfl⟩
