/-! put, wipe: the class counts and appends, the reference walks the eight bytes. -/
def okB (b : Nat) : Bool := decide (33 ≤ b) && decide (b ≤ 126)
def cF : Nat → Nat → Nat → Nat
  | 0, c, _ => c
  | k + 1, c, M => if M = 0 then c else if okB (M % 256) = true then cF k (c + 1) (M / 256) else 0
theorem lgb : ∀ b, b < 256 → (lg_cmp (lN b) 33 < 0 ↔ b < 33) ∧ (lg_cmp (lN b) 126 ≤ 0 ↔ b ≤ 126) := by decide +kernel
theorem lg0 {M : Nat} (h : M < 2 ^ 64) : lg_cmp (lN M) 0 = 0 ↔ M = 0 := by
  have e : lN M = 0 ↔ M = 0 := by
    constructor
    · intro e
      have := wb_tn h
      rw [e] at this
      exact this.symm
    · intro e; subst e; rfl
  unfold lg_cmp
  by_cases q : lN M > 0
  · rw [if_pos q]
    refine ⟨fun h => absurd h (by decide), fun h => ?_⟩
    rw [h] at q
    exact absurd q (by decide)
  · rw [if_neg q]
    by_cases q2 : lN M = 0
    · rw [if_pos q2]; exact ⟨fun _ => e.mp q2, fun _ => rfl⟩
    · rw [if_neg q2]; exact ⟨fun h => absurd h (by decide), fun h => absurd (e.mpr h) q2⟩
theorem and255 {M : Nat} (h : M < 2 ^ 64) : lN M &&& 255 = lN (M % 256) := wb_mask (k := 8) h (by decide)
theorem shr8 {M : Nat} (h : M < 2 ^ 64) : UInt64.toInt64 (Int64.toUInt64 (lN M) >>> (Int64.toUInt64 (Int32.toInt64 8) &&& Int64.toUInt64 63)) = lN (M / 256) := wb_shr (k := 8) h (by decide)
theorem shr8k {M k : Nat} (h : M < 2 ^ 64) (hk : k < 8) : UInt64.toInt64 (Int64.toUInt64 (lN M) >>> (Int64.toUInt64 (Int32.toInt64 (8 * nI k)) &&& Int64.toUInt64 63)) = lN (M / 2 ^ (8 * k)) := by
  rw [show (8 : Int32) * nI k = nI (8 * k) from pk_mul 8 k]
  exact wb_shr h (by omega)
theorem chars_L4 : ∀ (k c n M : Nat), c + k = 8 → k < n → M < 2 ^ 64 → f_X6_charactersIn_L4 n (nI c) (lN M) = some (nI (cF k c M))
  | 0, c, n, M, hc, hn, hM => by
    obtain ⟨n, rfl⟩ := up1 hn
    have : c = 8 := by omega
    subst this
    rw [f_X6_charactersIn_L4, if_pos (show (8 : Int32) ≤ nI 8 by decide), ite_self]
    rfl
  | k + 1, c, n, M, hc, hn, hM => by
    obtain ⟨n, rfl⟩ := up1 (show 0 < n by omega)
    rw [f_X6_charactersIn_L4, cF]
    by_cases q : M = 0
    · rw [if_pos ((lg0 hM).mpr q), if_pos q]
    · rw [if_neg (fun h => q ((lg0 hM).mp h)), if_neg q, if_neg (show ¬ (8 : Int32) ≤ nI c from nI_ge (a := c) (b := 8) (by omega) (by decide)), and255 hM, shr8 hM, nI_1]
      obtain ⟨l1, l2⟩ := lgb (M % 256) (Nat.mod_lt _ (by decide))
      unfold okB
      by_cases c1 : M % 256 < 33
      · rw [if_pos (l1.mpr c1), if_neg (by rw [decide_eq_false (show ¬ 33 ≤ M % 256 by omega), Bool.false_and]; decide)]
        rfl
      · rw [if_neg (fun h => c1 (l1.mp h))]
        by_cases c2 : M % 256 ≤ 126
        · rw [if_pos (l2.mpr c2), if_pos (by rw [decide_eq_true (show 33 ≤ M % 256 by omega), decide_eq_true c2]; rfl)]
          exact chars_L4 k (c + 1) n (M / 256) (by omega) (by omega) (by omega)
        · rw [if_neg (fun h => c2 (l2.mp h)), if_neg (by rw [decide_eq_false c2, Bool.and_false]; decide)]
          rfl
theorem cF_le : ∀ (k c M : Nat), cF k c M ≤ c + k
  | 0, c, _ => Nat.le_refl c
  | k + 1, c, M => by
    rw [cF]
    by_cases q : M = 0
    · rw [if_pos q]; omega
    · rw [if_neg q]
      by_cases q2 : okB (M % 256) = true
      · rw [if_pos q2]; have := cF_le k (c + 1) (M / 256); omega
      · rw [if_neg q2]; omega
/-- what is counted is well in the range -/
theorem cF_ok : ∀ (k c M : Nat), cF k c M ≠ 0 → ∀ j, c + j < cF k c M → okB (M / 2 ^ (8 * j) % 256) = true
  | 0, c, M, _, j, hj => by
    have : cF 0 c M = c := rfl
    omega
  | k + 1, c, M, h, j, hj => by
    rw [cF] at h hj
    by_cases q : M = 0
    · rw [if_pos q] at hj; omega
    · rw [if_neg q] at h hj
      by_cases q2 : okB (M % 256) = true
      · rw [if_pos q2] at h hj
        cases j with
        | zero => rw [Nat.mul_zero, Nat.pow_zero, Nat.div_one]; exact q2
        | succ j =>
          have := cF_ok k (c + 1) (M / 256) h j (by omega)
          rw [Nat.div_div_eq_div_mul] at this
          rw [show 8 * (j + 1) = 8 + 8 * j by omega, Nat.pow_add]
          exact this
      · rw [if_neg q2] at h; exact absurd rfl h
theorem toI32_b : ∀ b, b < 256 → Int64.toInt32 (lN b) = nI b := by decide +kernel
theorem chr_b : ∀ b, b < 256 → vp_nar .char (UInt32.toInt32 (Int32.toUInt32 (Int64.toInt32 (lN b)) % 65536)) = nI b := by decide +kernel
theorem in_b : ∀ b, b < 256 → f_X7_in (nI b) 33 126 = if okB b = true then 1 else 0 := by decide +kernel
section PT
variable {M : Nat}
def endE (n : Nat) (m : DV) (x1 : Int64) (x3 x4 : Int32) : Option (Int32 × DV) := if x4 = 0 then (if ((m 9 0) + x3) ≤ 80 then f_X7_put_L126 n m x1 x3 0 else some ((-4), m)) else some ((-2), m)
theorem put_end (hM : M < 2 ^ 64) (m : DV) (x3 x4 : Int32) (h4 : x4 = 0 ∨ x4 = 1) : ∀ (k i n : Nat), i + k = 8 → k < n → 0 < i → M / 2 ^ (8 * i) = 0 → f_X7_put_L8 n m (lN M) x3 x4 (nI i) = endE (n - (k + 1)) m (lN M) x3 x4
  | 0, i, n, hi, hn, h0, hz => by
    obtain ⟨n, rfl⟩ := up1 hn
    have : i = 8 := by omega
    subst this
    rw [f_X7_put_L8, if_pos (show (8 : Int32) ≤ nI 8 by decide)]
    rfl
  | k + 1, i, n, hi, hn, h0, hz => by
    obtain ⟨n, rfl⟩ := up1 (show 0 < n by omega)
    have h10 : ¬ (1 : Int32) = 0 := by decide
    have hz2 : M / 2 ^ (8 * (i + 1)) = 0 := by
      rw [show 8 * (i + 1) = 8 * i + 8 by omega, Nat.pow_add, ← Nat.div_div_eq_div_mul, hz]
    have ih := put_end hM m x3 x4 h4 k (i + 1) n (by omega) (by omega) (by omega) hz2
    rw [f_X7_put_L8, if_neg (show ¬ (8 : Int32) ≤ nI i from nI_ge (a := i) (b := 8) (by omega) (by decide)), if_neg (show ¬ nI i ≤ 0 from nI_ge (a := 0) (b := i) (by omega) (by omega)), shr8k hM (by omega), hz, if_pos ((lg0 (by decide)).mpr rfl)]
    unfold f_X7_put_J51 f_X7_put_J75 f_X7_put_J79 f_X7_put_J80
    rw [show n + 1 - (k + 1 + 1) = n - (k + 1) by omega, ← ih, nI_1, show x3 + 0 = x3 from Int32.add_zero x3]
    rcases h4 with e | e
    · subst e; rw [if_pos rfl, if_neg h10, if_neg h10]
    · subst e; rw [if_neg h10, if_neg h10]
theorem put_wrong (hM : M < 2 ^ 64) (m : DV) : ∀ (k i n : Nat) (x3 : Int32), i + k = 8 → k < n → f_X7_put_L8 n m (lN M) x3 1 (nI i) = some (-2, m)
  | 0, i, n, x3, hi, hn => by
    obtain ⟨n, rfl⟩ := up1 hn
    have : i = 8 := by omega
    subst this
    rw [f_X7_put_L8, if_pos (show (8 : Int32) ≤ nI 8 by decide), if_neg (show ¬ (1 : Int32) = 0 by decide)]
  | k + 1, i, n, x3, hi, hn => by
    obtain ⟨n, rfl⟩ := up1 (show 0 < n by omega)
    have h10 : ¬ (1 : Int32) = 0 := by decide
    have ih := fun x3 => put_wrong hM m k (i + 1) n x3 (by omega) (by omega)
    rw [f_X7_put_L8, if_neg (show ¬ (8 : Int32) ≤ nI i from nI_ge (a := i) (b := 8) (by omega) (by decide))]
    unfold f_X7_put_J50 f_X7_put_J51 f_X7_put_J75 f_X7_put_J79 f_X7_put_J80
    simp only [if_neg h10, nI_1, ih, if_true, ite_self]
theorem put_L8 (hM : M < 2 ^ 64) (m : DV) : ∀ (k i n : Nat), i + k = 8 → k < n → f_X7_put_L8 n m (lN M) (nI i) 0 (nI i) = if cF k i (M / 2 ^ (8 * i)) = 0 then some (-2, m) else endE (n - (k + 1)) m (lN M) (nI (cF k i (M / 2 ^ (8 * i)))) 0
  | 0, i, n, hi, hn => by
    obtain ⟨n, rfl⟩ := up1 hn
    have : i = 8 := by omega
    subst this
    rw [f_X7_put_L8, if_pos (show (8 : Int32) ≤ nI 8 by decide)]
    rfl
  | k + 1, i, n, hi, hn => by
    obtain ⟨n, rfl⟩ := up1 (show 0 < n by omega)
    have h10 : ¬ (1 : Int32) = 0 := by decide
    have hMi : M / 2 ^ (8 * i) < 2 ^ 64 := Nat.lt_of_le_of_lt (Nat.div_le_self _ _) hM
    have hnext : M / 2 ^ (8 * i) / 256 = M / 2 ^ (8 * (i + 1)) := by
      rw [show 8 * (i + 1) = 8 * i + 8 by omega, Nat.pow_add, ← Nat.div_div_eq_div_mul]
    have ih := put_L8 hM m k (i + 1) n (by omega) (by omega)
    have hw := fun x3 => put_wrong hM m k (i + 1) n x3 (by omega) (by omega)
    have hb := in_b (M / 2 ^ (8 * i) % 256) (Nat.mod_lt _ (by decide))
    by_cases q : 0 < i ∧ M / 2 ^ (8 * i) = 0
    · rw [put_end hM m (nI i) 0 (Or.inl rfl) (k + 1) i (n + 1) hi hn q.1 q.2, cF, if_pos q.2, if_neg (show ¬ i = 0 by omega)]
    · -- a character
      have key : f_X7_put_L8 (n + 1) m (lN M) (nI i) 0 (nI i) = if okB (M / 2 ^ (8 * i) % 256) = true then f_X7_put_L8 n m (lN M) (nI (i + 1)) 0 (nI (i + 1)) else some (-2, m) := by
        rw [f_X7_put_L8, if_neg (show ¬ (8 : Int32) ≤ nI i from nI_ge (a := i) (b := 8) (by omega) (by decide)), shr8k hM (by omega), and255 hMi, toI32_b _ (Nat.mod_lt _ (by decide))]
        unfold f_X7_put_J50 f_X7_put_J51 f_X7_put_J75 f_X7_put_J79 f_X7_put_J80
        rw [hb]
        have main : (if (if okB (M / 2 ^ (8 * i) % 256) = true then (1 : Int32) else 0) = 0 then f_X7_put_L8 n m (lN M) (nI i + 1) 1 (nI i + 1) else f_X7_put_L8 n m (lN M) (nI i + 1) 0 (nI i + 1)) = if okB (M / 2 ^ (8 * i) % 256) = true then f_X7_put_L8 n m (lN M) (nI (i + 1)) 0 (nI (i + 1)) else some (-2, m) := by
          rw [nI_1, hw]
          by_cases qo : okB (M / 2 ^ (8 * i) % 256) = true
          · rw [if_pos qo, if_pos qo, if_neg h10]
          · rw [if_neg qo, if_neg qo, if_pos rfl]
        by_cases q0 : nI i ≤ 0
        · rw [if_pos q0]
          simpa using main
        · rw [if_neg q0, if_neg (fun h => q ⟨by
            rcases Nat.eq_zero_or_pos i with e | e
            · subst e; exact absurd (show nI 0 ≤ 0 by decide) q0
            · exact e, (lg0 hMi).mp h⟩)]
          simpa using main
      rw [key, cF]
      by_cases q0 : M / 2 ^ (8 * i) = 0
      · have hi0 : i = 0 := by
          rcases Nat.eq_zero_or_pos i with e | e
          · exact e
          · exact absurd ⟨e, q0⟩ q
        subst hi0
        rw [q0, if_pos rfl, if_pos rfl]
        rfl
      · rw [if_neg q0]
        by_cases qo : okB (M / 2 ^ (8 * i) % 256) = true
        · rw [if_pos qo, if_pos qo, ih, hnext, show n + 1 - (k + 1 + 1) = n - (k + 1) by omega]
        · rw [if_neg qo, if_neg qo, if_pos rfl]
end PT
