/-! When a letter is ready; what would go. -/
def tn (x : Int32) : Nat := x.toNatClampNeg
theorem B_tn {x : Int32} {n : Nat} (h : B x n) (hn : n < 2 ^ 31) : x = nI (tn x) ∧ tn x ≤ n := by
  obtain ⟨j, h1, h2⟩ := h
  subst h2
  unfold tn
  rw [nI_clamp (by omega)]
  exact ⟨rfl, h1⟩
theorem tn_nI {j : Nat} (h : j < 2 ^ 31) : tn (nI j) = j := nI_clamp h
def rdyN (hh cc cl wr rs : Nat) : Nat := if hh ≤ cc then wr + rs else if cl = 0 then 1000000 else wr + (if (hh - cc + cl - 1) / cl < rs then rs else (hh - cc + cl - 1) / cl)
/-- the day from which on a letter is ready -/
def rdy (v : DV) (k : Nat) : Nat := rdyN (tn (v 8 k)) (tn (v 2 1)) (tn (v 2 2)) (tn (v 9 k)) (tn (v 3 (tn (v 7 k))))
theorem rdyN_le {hh cc cl wr rs n : Nat} (h1 : hh ≤ 99) (h3 : rs ≤ 30) (h4 : wr ≤ n) (hn : n ≤ 999) : rdyN hh cc cl wr rs ≤ 1000000 := by
  unfold rdyN
  split
  · omega
  · split
    · omega
    · rename_i h0
      have : (hh - cc + cl - 1) / cl ≤ 99 := by
        have h5 : (hh - cc + cl - 1) / cl < 100 := by
          rw [Nat.div_lt_iff_lt_mul (by omega)]
          have : 99 ≤ 99 * cl := Nat.le_mul_of_pos_right 99 (by omega)
          omega
        omega
      split <;> omega
/-- ready, or rested and cool enough -/
theorem rdyN_iff {hh cc cl wr rs T : Nat} (hT : wr ≤ T) (hT2 : T < 1000000) : rdyN hh cc cl wr rs ≤ T ↔ rs ≤ T - wr ∧ hh - cl * (T - wr) ≤ cc := by
  unfold rdyN
  by_cases h1 : hh ≤ cc
  · rw [if_pos h1]
    constructor
    · intro h; exact ⟨by omega, by omega⟩
    · intro h; omega
  · rw [if_neg h1]
    by_cases h2 : cl = 0
    · rw [if_pos h2]
      subst h2
      constructor
      · intro h; omega
      · intro h; rw [Nat.zero_mul] at h; omega
    · rw [if_neg h2]
      have key : (hh - cc + cl - 1) / cl ≤ T - wr ↔ hh - cl * (T - wr) ≤ cc := by
        rw [← Nat.lt_succ_iff, Nat.div_lt_iff_lt_mul (by omega), Nat.succ_mul, Nat.mul_comm (T - wr) cl]
        omega
      rw [← key]
      split
      · constructor
        · intro h; exact ⟨by omega, by omega⟩
        · intro h; omega
      · constructor
        · intro h; exact ⟨by omega, by omega⟩
        · intro h; omega
section RD
variable {v m : DV} {N w : Nat}
theorem INV.let {k : Nat} (h : INV v N w) (hk : k < w) : (v 7 k = nI (tn (v 7 k)) ∧ tn (v 7 k) ≤ 5) ∧ (v 8 k = nI (tn (v 8 k)) ∧ tn (v 8 k) ≤ 99) ∧ (v 9 k = nI (tn (v 9 k)) ∧ tn (v 9 k) ≤ N / 24) := by
  obtain ⟨-, -, -, hL, -, hN⟩ := h
  obtain ⟨a1, a2, a3, -⟩ := hL k hk
  exact ⟨B_tn a1 (by decide), B_tn a2 (by decide), B_tn a3 (by omega)⟩
theorem INV.dr {d : Nat} (h : INV v N w) (hd : d < 6) : (v 3 d = nI (tn (v 3 d)) ∧ tn (v 3 d) ≤ 30) ∧ (v 4 d = nI (tn (v 4 d)) ∧ tn (v 4 d) ≤ 1) := by
  obtain ⟨-, -, hL, -⟩ := h
  obtain ⟨a1, a2, -⟩ := hL d hd
  exact ⟨B_tn a1 (by decide), B_tn a2 (by decide)⟩
theorem INV.st (h : INV v N w) : (v 2 0 = nI (tn (v 2 0)) ∧ tn (v 2 0) ≤ 23) ∧ (v 2 1 = nI (tn (v 2 1)) ∧ tn (v 2 1) ≤ 99) ∧ (v 2 2 = nI (tn (v 2 2)) ∧ tn (v 2 2) ≤ 20) := by
  obtain ⟨-, ⟨a1, a2, a3⟩, -⟩ := h
  exact ⟨B_tn a1 (by decide), B_tn a2 (by decide), B_tn a3 (by decide)⟩
theorem readyDay_eq {k : Nat} (h : INV v N w) (hk : k < w) : f_X0_readyDay v (nI k) (v 7 k) = some (nI (rdy v k)) := by
  obtain ⟨⟨m1, m2⟩, ⟨e1, e2⟩, ⟨e3, e4⟩⟩ := h.let hk
  obtain ⟨-, ⟨c1, c2⟩, ⟨c3, c4⟩⟩ := h.st
  have h30 := h.1.2.2
  have hd6 : tn (v 7 k) < 6 := by omega
  obtain ⟨⟨r1, r2⟩, -⟩ := h.dr hd6
  unfold f_X0_readyDay rdy rdyN f_X0_readyDay_J51
  rw [m1]
  simp only [ixb_nI (show k < 30 by omega) (by decide), ixb_nI hd6 (by decide), ck_t, clq (show k < 2 ^ 31 by omega), clq (show tn (v 7 k) < 2 ^ 31 by omega), cl_1, cl_2]
  rw [tn_nI (show tn (v 7 k) < 2 ^ 31 by omega)]
  generalize tn (v 7 k) = d at *
  have hN := h.2.2.2.2.2
  generalize tn (v 8 k) = hh at *
  generalize tn (v 2 1) = cc at *
  generalize tn (v 2 2) = cl at *
  generalize tn (v 9 k) = wr at *
  generalize tn (v 3 d) = rs at *
  simp only [e1, e3, c1, c3, r1]
  have hz : ∀ x : Int32, x ≤ 0 ↔ x.toInt ≤ 0 := fun x => by rw [Int32.le_iff_toInt_le]; rfl
  by_cases h1 : hh ≤ cc
  · rw [if_pos ((hz _).mpr (by rw [pk_sub_toInt (by omega) (by omega)]; omega)), if_pos h1]
    by_cases h2 : 0 < rs
    · rw [if_pos (show (0 : Int32) < nI rs from nI_lt (a := 0) h2 (by omega)), nI_add]
    · rw [if_neg (show ¬ (0 : Int32) < nI rs from nI_nlt (b := rs) (a := 0) (by omega) (by decide)), show (0 : Int32) = nI 0 from rfl, nI_add]
      congr 2
      omega
  · rw [if_neg (fun x => h1 (by have := (hz _).mp x; rw [pk_sub_toInt (by omega) (by omega)] at this; omega)), if_neg h1]
    by_cases h2 : cl = 0
    · subst h2
      rw [if_neg (show ¬ (0 : Int32) < nI 0 by decide), if_pos rfl]
      rfl
    · rw [if_pos (show (0 : Int32) < nI cl from nI_lt (a := 0) (by omega) (by omega)), if_neg h2]
      rw [decide_eq_true (show ¬ nI cl = 0 from nI_ne0 (by omega) (by omega)), ck_t]
      have e5 : (nI hh - nI cc + nI cl - 1) / nI cl = nI ((hh - cc + cl - 1) / cl) := by
        rw [pk_sub (by omega), nI_add, show (1 : Int32) = nI 1 from rfl, pk_sub (by omega), pk_div (by omega) (by omega) (by omega)]
      rw [e5]
      have hq : (hh - cc + cl - 1) / cl ≤ hh - cc + cl - 1 := Nat.div_le_self _ _
      by_cases h3 : (hh - cc + cl - 1) / cl < rs
      · rw [if_pos (nI_lt h3 (by omega)), if_pos h3, nI_add]
      · rw [if_neg (nI_nlt (by omega) (by omega)), if_neg h3, nI_add]
/-- the heat of a letter that wasn't sent -/
theorem heatS_N {k : Nat} (h : INV v N w) (hk : k < w) (h1 : v 11 k ≠ 1) : heatS v k = nI (tn (v 8 k) - tn (v 2 2) * (N / 24 - tn (v 9 k))) := by
  obtain ⟨-, ⟨e1, e2⟩, ⟨e3, e4⟩⟩ := h.let hk
  obtain ⟨-, -, ⟨c3, c4⟩⟩ := h.st
  have hN := h.2.2.2.2.2
  unfold heatS
  rw [if_neg h1, h.1.1, today_nI (by omega), e1, e3, c3]
  rw [tn_nI (show tn (v 8 k) < 2 ^ 31 by omega), tn_nI (show tn (v 2 2) < 2 ^ 31 by omega), tn_nI (show tn (v 9 k) < 2 ^ 31 by omega)]
  generalize tn (v 8 k) = hh at *
  generalize tn (v 2 2) = cl at *
  generalize tn (v 9 k) = wr at *
  rw [pk_sub e4, pk_mul]
  have hb : cl * (N / 24 - wr) ≤ 20 * 100000 := Nat.mul_le_mul c4 (by omega)
  have hz : ∀ x : Int32, 0 < x ↔ 0 < x.toInt := fun x => by rw [Int32.lt_iff_toInt_lt]; rfl
  by_cases h2 : cl * (N / 24 - wr) < hh
  · rw [if_pos ((hz _).mpr (by rw [pk_sub_toInt (by omega) (by omega)]; omega)), pk_sub (by omega)]
  · rw [if_neg (fun x => h2 (by have := (hz _).mp x; rw [pk_sub_toInt (by omega) (by omega)] at this; omega))]
    rw [show hh - cl * (N / 24 - wr) = 0 by omega]
    rfl
/-- whether a letter would go at the hour of the post of today -/
def goS (v : DV) (T : Nat) (k : Nat) : Bool := decide (v 11 k = 0) && (decide (v 4 (tn (v 7 k)) = 0) && decide (rdy v k ≤ T))
theorem wouldGo_eq {k : Nat} (h : INV v N w) (hR : REL v (m 0) N w) (hk : k < w) : f_X7_wouldGo m (nI k) = some (if goS v (N / 24) k then 1 else 0) := by
  obtain ⟨⟨m1, m2⟩, ⟨e1, e2⟩, ⟨e3, e4⟩⟩ := h.let hk
  obtain ⟨-, ⟨c1, c2⟩, ⟨c3, c4⟩⟩ := h.st
  have h30 := h.1.2.2
  have hN := h.2.2.2.2.2
  have hd6 : tn (v 7 k) < 6 := by omega
  obtain ⟨⟨r1, r2⟩, -⟩ := h.dr hd6
  have hh := heat_eq h hR (by omega) hk
  obtain ⟨⟨-, s1, -, s3, -⟩, hDR, hL⟩ := hR
  obtain ⟨a0, -, a2, a3, -⟩ := hL k hk
  obtain ⟨d0, d1, -⟩ := hDR (tn (v 7 k)) hd6
  unfold f_X7_wouldGo f_X7_wouldGo_J41 f_X7_wouldGo_J42
  simp only [ofL_0, ofL_2, ofL_3, ixb_nI (show 30 + 7 * k < 240 by omega) (by decide), ixb_nI (show 32 + 7 * k < 240 by omega) (by decide), ixb_nI (show 33 + 7 * k < 240 by omega) (by decide), ck_t, clq (show 30 + 7 * k < 2 ^ 31 by omega), clq (show 32 + 7 * k < 2 ^ 31 by omega), clq (show 33 + 7 * k < 2 ^ 31 by omega), a0, a2, a3]
  rw [m1]
  simp only [ofD_0, ofD_1, ixb_nI (show 6 + 4 * tn (v 7 k) < 240 by omega) (by decide), ixb_nI (show 7 + 4 * tn (v 7 k) < 240 by omega) (by decide), ck_t, clq (show 6 + 4 * tn (v 7 k) < 2 ^ 31 by omega), clq (show 7 + 4 * tn (v 7 k) < 2 ^ 31 by omega), d0, d1, cl_1, cl_3, s1, s3, hh, bd1_s]
  unfold goS
  by_cases q1 : v 11 k = 0
  · by_cases q2 : v 4 (tn (v 7 k)) = 0
    · simp only [q1, q2, if_true, decide_true, Bool.true_and]
      rw [if_neg (show ¬ (1 : Int32) = 0 by decide)]
      have hne : v 11 k ≠ 1 := by rw [q1]; decide
      rw [heatS_N h hk hne, c1, r1, e3]
      have hr : rdy v k ≤ N / 24 ↔ tn (v 3 (tn (v 7 k))) ≤ N / 24 - tn (v 9 k) ∧ tn (v 8 k) - tn (v 2 2) * (N / 24 - tn (v 9 k)) ≤ tn (v 2 1) := rdyN_iff e4 (by omega)
      rw [tn_nI (show tn (v 9 k) < 2 ^ 31 by omega)]
      rw [pk_sub e4]
      by_cases q3 : rdy v k ≤ N / 24
      · obtain ⟨p1, p2⟩ := hr.mp q3
        rw [if_neg (nI_nlt p1 (by omega)), if_neg (nI_nlt p2 (by omega))]
        simp [q3]
      · by_cases q4 : N / 24 - tn (v 9 k) < tn (v 3 (tn (v 7 k)))
        · rw [if_pos (nI_lt q4 (by omega))]
          simp [q3]
        · have q5 : tn (v 2 1) < tn (v 8 k) - tn (v 2 2) * (N / 24 - tn (v 9 k)) := by
            rcases Nat.lt_or_ge (tn (v 2 1)) (tn (v 8 k) - tn (v 2 2) * (N / 24 - tn (v 9 k))) with q | q
            · exact q
            · exact absurd (hr.mpr ⟨by omega, q⟩) q3
          rw [if_neg (nI_nlt (by omega) (by omega)), if_pos (nI_lt q5 (by omega))]
          simp [q3]
    · simp [q1, q2]
  · simp [q1]
end RD
