/-! hoursTillSent in closed form. -/
theorem i32_bmod {z : Int} (h1 : -2147483648 ≤ z) (h2 : z < 2147483648) : z.bmod (2 ^ 32) = z := Int.bmod_eq_of_le (by omega) (by omega)
theorem xor_sgn (x y : Int32) : 0 ≤ x ^^^ y ↔ (x.toInt < 0 ↔ y.toInt < 0) := by
  have h : (x ^^^ y).toBitVec.msb = (x.toBitVec.msb ^^ y.toBitVec.msb) := by rw [Int32.toBitVec_xor, BitVec.msb_xor]
  rw [BitVec.msb_eq_toInt, BitVec.msb_eq_toInt, BitVec.msb_eq_toInt] at h
  rw [Int32.le_iff_toInt_le]
  have e0 : (0 : Int32).toInt = 0 := by decide
  rw [e0]
  have hx : x.toBitVec.toInt = x.toInt := rfl
  have hy : y.toBitVec.toInt = y.toInt := rfl
  have hz : (x ^^^ y).toBitVec.toInt = (x ^^^ y).toInt := rfl
  rw [hx, hy, hz] at h
  by_cases a : x.toInt < 0 <;> by_cases b : y.toInt < 0 <;> simp [a, b] at h ⊢ <;> omega
theorem nI_i {n : Nat} (h : n < 2 ^ 31) : (nI n).toInt = (n : Int) := nI_toInt h
/-- the other remainder -/
theorem floorMod_sub {a b : Nat} (ha : a < 2 ^ 30) (hb : b < 2 ^ 30) : f_J9_floorMod_7cf53 (nI a - nI b) 24 = some (nI ((a + 24 - b % 24) % 24)) := by
  have h24 : ¬ (24 : Int32) = 0 := by decide
  have e24 : (24 : Int32).toInt = 24 := by decide
  unfold f_J9_floorMod_7cf53
  rw [decide_eq_true h24, ck_t]
  by_cases hab : b ≤ a
  · rw [nI_subn hab, if_pos ((xor_sgn _ _).mpr ⟨fun h => absurd h (by rw [nI_i (by omega)]; omega), fun h => absurd h (by rw [e24]; omega)⟩), show (24 : Int32) = nI 24 from rfl, pk_rem (d := 24) (by omega) (by decide) (by decide)]
    congr 2
    omega
  · have hx : (nI a - nI b).toInt = (a : Int) - b := pk_sub_toInt ha hb
    rw [if_neg (fun h => by
      have := (xor_sgn _ _).mp h
      rw [hx, e24] at this
      omega)]
    have hq : ((nI a - nI b) / 24).toInt = -((b - a : Nat) / 24 : Int) := by
      rw [Int32.toInt_div, hx, e24, show (a : Int) - b = -((b - a : Nat) : Int) by omega, Int.neg_tdiv, Int.tdiv_eq_ediv_of_nonneg (by omega)]
      exact i32_bmod (by omega) (by omega)
    have hr : ((nI a - nI b) - (nI a - nI b) / 24 * 24).toInt = -(((b - a) % 24 : Nat) : Int) := by
      rw [Int32.toInt_sub, Int32.toInt_mul, hq, hx, e24, i32_bmod (z := -((b - a : Nat) / 24 : Int) * 24) (by omega) (by omega), i32_bmod (by omega) (by omega)]
      omega
    by_cases q : (b - a) % 24 = 0
    · have e0 : (nI a - nI b) - (nI a - nI b) / 24 * 24 = 0 := Int32.toInt_inj.mp (by rw [hr, q]; decide)
      rw [if_pos e0, e0, show (a + 24 - b % 24) % 24 = 0 by omega]
      rfl
    · have e0 : ¬ (nI a - nI b) - (nI a - nI b) / 24 * 24 = 0 := fun e => by
        rw [e, show (0 : Int32).toInt = 0 by decide] at hr
        omega
      rw [if_neg e0]
      congr 1
      apply Int32.toInt_inj.mp
      rw [Int32.toInt_add, hr, e24, i32_bmod (by omega) (by omega), nI_i (by omega)]
      omega
section TL
variable {v : DV} {N w : Nat}
theorem isLocked_eq (hI : INV v N w) {d : Nat} (hd : d < 6) {t : Nat} (ht : N + t < 2 ^ 30) : f_X1_isLockedAt v (nI d) (nI N) (nI (N + t)) = some (if lockB v d N (t + 1) = 0 then 0 else 1) := by
  have b4 := (hI.2.2.1 d hd).2.1
  have e4 : v 4 d = 0 ∨ v 4 d = 1 := by
    obtain ⟨j, hj, e⟩ := b4
    rcases (show j = 0 ∨ j = 1 by omega) with q | q <;> subst q
    · exact Or.inl e
    · exact Or.inr e
  have h10 : ¬ (1 : Int32) = 0 := by decide
  have h01 : ¬ (0 : Int32) = 1 := by decide
  have hend : (if v 4 d = 1 then some (1 : Int32) else some 0) = some (if v 4 d = 0 then (0 : Int32) else 1) := by
    rcases e4 with e | e
    · rw [e, if_neg h01, if_pos rfl]
    · rw [e, if_pos rfl, if_neg h10]
  unfold f_X1_isLockedAt
  simp only [ixb_nI hd (by decide), ck_t, clq (show d < 2 ^ 31 by omega)]
  rcases (hI.2.2.1 d hd).2.2 with ⟨h5, h6⟩ | ⟨u, l, hu, hl, hne, h5, h6⟩
  · rw [if_pos h5, lockB_none h5 h6]
    exact hend
  · rw [lockB_hours h5 h6 hu hl hne, h5, if_neg (nI_ne6 (by omega)), h6, floorMod_sub ht (by omega), floorMod_sub ht (by omega)]
    simp only [bd1_s]
    unfold lockC
    rw [show N + t + 24 - u % 24 = N + t + 24 - u by omega, show N + t + 24 - l % 24 = N + t + 24 - l by omega, nI_subn (show N ≤ N + t by omega)]
    generalize ha : (N + t + 24 - u) % 24 = a
    generalize hb : (N + t + 24 - l) % 24 = b
    have la : a < 24 := by omega
    have lb : b < 24 := by omega
    by_cases c1 : b < a
    · rw [if_pos (nI_lt c1 (by omega)), if_pos c1]
      by_cases c2 : b ≤ N + t - N
      · rw [if_pos (nI_le c2 (by omega)), if_pos c2, if_neg (nI_ge (by omega) (by omega)), if_neg (show ¬ a ≤ b by omega), if_neg h10]
      · rw [if_neg (nI_ge (by omega) (by omega)), if_neg c2]
        exact hend
    · rw [if_neg (nI_nlt (by omega) (by omega)), if_neg c1]
      by_cases c2 : a ≤ N + t - N
      · rw [if_pos (nI_le c2 (by omega)), if_pos c2, if_pos (nI_le (by omega) (by omega)), if_pos (show a ≤ b by omega), if_pos rfl]
      · rw [if_neg (nI_ge (by omega) (by omega)), if_neg c2]
        exact hend
/-- behind a whole day the state of a lock comes again -/
theorem lock_day (hI : INV v N w) {d : Nat} (hd : d < 6) {t : Nat} (ht : 24 ≤ t) : lockB v d N (t + 24 + 1) = lockB v d N (t + 1) := by
  rcases (hI.2.2.1 d hd).2.2 with ⟨h5, h6⟩ | ⟨u, l, hu, hl, hne, h5, h6⟩
  · rw [lockB_none h5 h6, lockB_none h5 h6]
  · rw [lockB_hours h5 h6 hu hl hne, lockB_hours h5 h6 hu hl hne]
    unfold lockC
    rw [show (N + (t + 24) + 24 - u) % 24 = (N + t + 24 - u) % 24 by omega, show (N + (t + 24) + 24 - l) % 24 = (N + t + 24 - l) % 24 by omega]
    generalize ha : (N + t + 24 - u) % 24 = a
    generalize hb : (N + t + 24 - l) % 24 = b
    have hm : (if b < a then b else a) < 24 := by split <;> omega
    rw [if_pos (show (if b < a then b else a) ≤ N + (t + 24) - N by omega), if_pos (show (if b < a then b else a) ≤ N + t - N by omega)]
theorem lock_days (hI : INV v N w) {d : Nat} (hd : d < 6) {t : Nat} (ht : 24 ≤ t) : ∀ j, lockB v d N (t + 24 * j + 1) = lockB v d N (t + 1)
  | 0 => rfl
  | j + 1 => by
    rw [show t + 24 * (j + 1) + 1 = (t + 24 * j) + 24 + 1 by omega, lock_day hI hd (by omega), lock_days hI hd ht j]
end TL
