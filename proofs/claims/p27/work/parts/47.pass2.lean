/-! pass. -/
section PS2
variable {w : Nat}
theorem nI_subn {a b : Nat} (h : b ≤ a) : nI a - nI b = nI (a - b) := by
  have e : nI a = nI (a - b) + nI b := by rw [nI_add]; congr 1; omega
  rw [e]
  exact Int32.add_sub_cancel _ _
theorem pass_L (p A : Nat) (hp : p ≤ 240) : ∀ (r i n n' N s : Nat) (v m : DV), i + r = p → r + 300 ≤ n → r + 300 ≤ n' → INV v N w → REL v (m 0) N w → N + r < 99999 → cntP (isP v 1) w = A + s → ∃ v2 m2 s2, f_X0_passHours_L37 n v (nI p) (nI s) (nI i) = some (nI s2, v2) ∧ f_X7_passes_L10 n' m (nI p) (nI A) (nI i) = some (nI s2, m2) ∧ INV v2 (N + r) w ∧ REL v2 (m2 0) (N + r) w ∧ cntP (isP v2 1) w = A + s2 ∧ ∀ q, q ≠ 0 → m2 q = m q
  | 0, i, n, n', N, s, v, m, hi, hn, hn', hI, hR, hN, hA => by
    obtain ⟨n, rfl⟩ := up1 (show 0 < n by omega)
    obtain ⟨n', rfl⟩ := up1 (show 0 < n' by omega)
    rw [f_X0_passHours_L37, f_X7_passes_L10, if_pos (nI_le (by omega) (by omega)), if_pos (nI_le (by omega) (by omega)), many_eq hI hR 6 1 (by omega), stA6_cnt, hA]
    simp only [bd1_s]
    rw [nI_subn (by omega), show A + s - A = s by omega]
    exact ⟨v, m, s, rfl, rfl, hI, hR, hA, fun _ _ => rfl⟩
  | r + 1, i, n, n', N, s, v, m, hi, hn, hn', hI, hR, hN, hA => by
    obtain ⟨n, rfl⟩ := up1 (show 0 < n by omega)
    obtain ⟨n', rfl⟩ := up1 (show 0 < n' by omega)
    obtain ⟨v2, m2, c, a1, a2, a3, a4, a5, a6, -⟩ := hour_eq hI hR (by omega) (show 200 ≤ n by omega) (show 200 ≤ n' by omega)
    have hlt : ¬ nI p ≤ nI i := nI_ge (by omega) (by omega)
    rw [a1 _ _ _ hlt, f_X7_passes_L10, if_neg hlt, a2, bd1_s, nI_add, nI_1]
    obtain ⟨v3, m3, s3, b1, b2, b3, b4, b5, b6⟩ := pass_L p A hp r (i + 1) n n' (N + 1) (s + c) v2 m2 (by omega) (by omega) (by omega) a3 a4 (by omega) (by rw [a5, hA]; omega)
    exact ⟨v3, m3, s3, b1, b2, by rw [show N + (r + 1) = N + 1 + r by omega]; exact b3, by rw [show N + (r + 1) = N + 1 + r by omega]; exact b4, b5, fun q hq => by rw [b6 q hq, a6 q hq]⟩
variable {k : Nat} {v : DV} {l : List DV} {sv : Nat → Option DV} {m : DV}
theorem hours_ge1 (q : Int32) : q < nI 1 ∨ ∃ j, 1 ≤ j ∧ j < 2 ^ 31 ∧ q = nI j := by
  by_cases h : q < 0
  · refine Or.inl ?_
    rw [Int32.lt_iff_toInt_lt] at h ⊢
    have e1 : (nI 1).toInt = 1 := by decide
    have e2 : (0 : Int32).toInt = 0 := by decide
    omega
  · obtain ⟨j, hj, rfl⟩ := nI_of h
    by_cases q : 1 ≤ j
    · exact Or.inr ⟨j, q, hj, rfl⟩
    · exact Or.inl (nI_lt (by omega) (by decide))
theorem in1_cases (p : Int32) {hi : Nat} (hh : hi < 2 ^ 31) : (f_X7_in p 1 (nI hi) = 0 ∧ (p < 1 ∨ (¬ p < 1 ∧ ¬ p ≤ nI hi))) ∨ (f_X7_in p 1 (nI hi) = 1 ∧ ∃ j, 1 ≤ j ∧ j ≤ hi ∧ p = nI j) := by
  rcases in_cases p (lo := 1) (hi := hi) hh (fun _ => hours_ge1) with ⟨e, ne⟩ | ⟨e, j, h1, hj, rfl⟩
  · refine Or.inl ⟨e, ?_⟩
    rcases hours_ge1 p with q | ⟨j, h1, hj, rfl⟩
    · exact Or.inl q
    · refine Or.inr ⟨nI_nlt (b := 1) (a := j) h1 (by omega), fun q2 => ?_⟩
      refine ne ⟨j, h1, ?_, rfl⟩
      by_cases q3 : j ≤ hi
      · exact q3
      · exact absurd q2 (nI_ge (by omega) hj)
  · exact Or.inr ⟨e, j, h1, hj, rfl⟩
theorem pass_eq (h : SIM k v l sv m) {n n' : Nat} (hn : 2000 ≤ n) (hn' : 2000 ≤ n') (p1 : Int32) : CHG k v l sv (f_X0_passHours n v p1) (f_X7_pass n' m p1) := by
  have h10 : ¬ (1 : Int32) = 0 := by decide
  have n2 : ¬ (0 : Int32) ≤ -2 := by decide
  have n5 : ¬ (0 : Int32) ≤ -5 := by decide
  have n0 : (0 : Int32) ≤ 0 := by decide
  obtain ⟨N, w, hI, hN, hR⟩ := id h.1
  have h30 := hI.1.2.2
  unfold f_X0_passHours f_X7_pass f_X7_passFault
  rcases in1_cases p1 (hi := 240) (by decide) with ⟨e, q⟩ | ⟨e, p, hp1, hp, rfl⟩
  · rw [show f_X7_in p1 1 240 = 0 from e, if_pos rfl, bd1_s, if_neg n2]
    rcases q with q | ⟨q, q2⟩
    · rw [if_pos q]
      exact chg_no h (by decide) rfl rfl
    · rw [if_neg q, if_neg (show ¬ p1 ≤ 240 from q2)]
      exact chg_no h (by decide) rfl rfl
  rw [show f_X7_in (nI p) 1 240 = 1 from e, if_neg h10, if_neg (show ¬ nI p < 1 from nI_nlt (b := 1) (a := p) hp1 (by omega)), if_pos (show nI p ≤ 240 from nI_le (b := 240) hp (by decide)), hI.1.1, cl_3, cl_4, hR.1.2.2.2.1, hR.1.2.2.2.2.1, nI_add, nI_add, show (24 : Int32) = nI 24 from rfl, pk_div (d := 24) (by omega) (by decide) (by decide), pk_div (d := 24) (by omega) (by decide) (by decide), nI_add, show N / 24 + (N % 24 + p) / 24 = (N + p) / 24 by omega]
  by_cases q : (N + p) / 24 ≤ 999
  · have q' : nI ((N + p) / 24) ≤ 999 := nI_le (b := 999) q (by decide)
    rw [if_pos q', if_pos q', bd1_s, if_pos n0]
    -- the class's count
    have e1 := many_eq (m := m) hI hR 6 1 (show 100 ≤ n' by omega)
    rw [stA6_cnt] at e1
    obtain ⟨m1, a1, -, a3⟩ := know_eq h.2.2.2.1 h.1 (DEQ.rfl' v) (show 2000 ≤ n' by omega)
    have hR1 : REL v (m1 0) N w := by rw [a3 0 (by decide) (by decide)]; exact hR
    obtain ⟨v2, m2, s2, b1, b2, b3, b4, b5, b6⟩ := pass_L p (cntP (isP v 1) w) hp p 0 n n' N 0 v m1 (by omega) (by omega) (by omega) hI hR1 (by omega) rfl
    have hs2 : s2 ≤ 30 := by
      have := cntP_le (isP v2 1) w
      omega
    refine chg_ok h (r := nI s2) (nI_pos (by omega)) b1 hn' (fun m1' e1 e2 => ?_)
    rw [a1] at e1
    cases e1
    rw [a1, bd1_s]
    unfold f_X7_passes
    rw [many_eq hI hR1 6 1 (by omega), stA6_cnt, bd1_s, show f_X7_passes_L10 n' m1 (nI p) (nI (cntP (isP v 1) w)) 0 = _ from b2, bd2_s]
    exact ⟨m2, rfl, ⟨N + p, w, b3, by omega, b4⟩, fun q h1 _ => b6 q (by omega)⟩
  · have q' : ¬ nI ((N + p) / 24) ≤ 999 := nI_ge (b := (N + p) / 24) (a := 999) (by omega) (by omega)
    rw [if_neg q', if_neg q', bd1_s, if_neg n5]
    exact chg_no h (by decide) rfl rfl
end PS2
