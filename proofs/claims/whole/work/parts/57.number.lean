/-! Orders on the pad: numbers and moods. -/
theorem ge_lo {lo : Nat} (hl : lo < 2 ^ 30) (q : Int32) : q < nI lo ∨ ∃ j, lo ≤ j ∧ j < 2 ^ 31 ∧ q = nI j := by
  by_cases h : q < 0
  · refine Or.inl ?_
    rw [Int32.lt_iff_toInt_lt] at h ⊢
    rw [nI_toInt (by omega)]
    have e2 : (0 : Int32).toInt = 0 := by decide
    omega
  · obtain ⟨j, hj, rfl⟩ := nI_of h
    by_cases q : lo ≤ j
    · exact Or.inr ⟨j, q, hj, rfl⟩
    · exact Or.inl (nI_lt (by omega) (by omega))
theorem in_lh (x : Int32) {lo hi : Nat} (hl : lo < 2 ^ 30) (hh : hi < 2 ^ 31) : (f_X7_in x (nI lo) (nI hi) = 0 ∧ ¬ ∃ j, lo ≤ j ∧ j ≤ hi ∧ x = nI j) ∨ (f_X7_in x (nI lo) (nI hi) = 1 ∧ ∃ j, lo ≤ j ∧ j ≤ hi ∧ x = nI j) := in_cases x hh (fun _ q => ge_lo hl q)
theorem digit_in (x : Int32) : f_X4_isDigit x = f_X7_in x 48 57 := rfl
theorem sub48 {c : Nat} (h : 48 ≤ c) : nI c - 48 = nI (c - 48) := nI_subn (b := 48) h
theorem ch_in {v : DV} {L q : Nat} (h : ¬ chF v L q = 0) : q < L := by
  by_cases c : q < L
  · exact c
  · exact absurd (by unfold chF; rw [if_neg c]) h
theorem vs17 (v : DV) (a b : Int32) : vs (vs v 17 (fun _ => a)) 17 (fun _ => b) = vs v 17 (fun _ => b) := vs_vs _ _ _ _
/-- a number at place q: its value and the place behind it -/
def numF (ch : Nat → Int32) (q : Nat) : Option (Int32 × Nat) :=
  if f_X7_in (ch q) 48 57 = 0 then none else if ch q - 48 ≤ 0 then some (ch q - 48, q + 1) else if f_X7_in (ch (q + 1)) 48 57 = 0 then some (ch q - 48, q + 1) else some (10 * (ch q - 48) + ch (q + 1) - 48, q + 1 + 1)
theorem number_eq {v m : DV} {L q : Nat} (ht : TXT v L) (h17 : v 17 0 = nI q) (hq : q ≤ 80) (hx : TXR v m L) (h10 : m 10 0 = nI q) (h11 : m 11 0 = 0) : ∃ r v2 rm m2, f_X4_readNumber v = some (r, v2) ∧ f_X7_number m = some (rm, m2) ∧ (∀ j, j ≠ 10 → j ≠ 11 → m2 j = m j) ∧ ((numF (chF v L) q = none ∧ r = -6 ∧ v2 = v ∧ m2 10 0 = nI q ∧ m2 11 0 = 1) ∨ (∃ q2, numF (chF v L) q = some (r, q2) ∧ q2 ≤ 80 ∧ ¬ r < 0 ∧ rm = r ∧ v2 = vs v 17 (fun _ => nI q2) ∧ m2 10 0 = nI q2 ∧ m2 11 0 = 0)) := by
  have hL := ht.1
  have h10' : ¬ (1 : Int32) = 0 := by decide
  have hnum : numF (chF v L) q = if f_X7_in (chF v L q) 48 57 = 0 then none else if chF v L q - 48 ≤ 0 then some (chF v L q - 48, q + 1) else if f_X7_in (chF v L (q + 1)) 48 57 = 0 then some (chF v L q - 48, q + 1) else some (10 * (chF v L q - 48) + chF v L (q + 1) - 48, q + 1 + 1) := rfl
  unfold f_X4_readNumber f_X7_number
  obtain ⟨m1, s1, s2, s3⟩ := sign_eq hL hq hx h10 h11 48 57
  rw [next_eq ht h17 hq, s1, bd1_s, bd2_s, bd1_s, digit_in]
  rcases s3 with ⟨e, a, b⟩ | ⟨e, a, b⟩
  · rw [if_pos e] at hnum
    rw [if_pos e, isNext_bad b, bd1_s, if_pos rfl, ite_self]
    exact ⟨_, _, _, m1, rfl, rfl, s2, Or.inl ⟨hnum, rfl, rfl, a, b⟩⟩
  rw [if_neg e] at hnum ⊢
  rcases in_lh (chF v L q) (lo := 48) (hi := 57) (by decide) (by decide) with ⟨e1, -⟩ | ⟨-, c, c1, c2, ec⟩
  · exact absurd e1 e
  have hqL : q < L := ch_in (v := v) (by rw [ec]; exact fun h => absurd ((nI_eq (b := 0) (by omega) (by decide)).mp h) (by omega))
  rw [ec, sub48 c1] at hnum
  rw [ec, sub48 c1, h17, nI_1]
  by_cases c0 : nI (c - 48) ≤ 0
  · rw [if_pos c0] at hnum
    rw [if_pos c0, if_pos c0]
    exact ⟨_, _, _, m1, rfl, rfl, s2, Or.inr ⟨q + 1, hnum, by omega, nI_pos (by omega), rfl, rfl, a, b⟩⟩
  rw [if_neg c0] at hnum
  rw [if_neg c0, if_neg c0]
  have ht1 : TXT (vs v 17 (fun _ => nI (q + 1))) L := ht
  have hx1 : TXR v m1 L := ⟨by rw [s2 9 (by decide) (by decide)]; exact hx.1, by rw [s2 5 (by decide) (by decide)]; exact hx.2⟩
  have ech : chF (vs v 17 (fun _ => nI (q + 1))) L (q + 1) = chF v L (q + 1) := rfl
  rw [next_eq ht1 rfl (by omega), ech, bd1_s, bd1_s, digit_in, isNext_eq hL (show q + 1 ≤ 80 by omega) hx1 a b 48 57 (by decide), bd1_s]
  by_cases d : f_X7_in (chF v L (q + 1)) 48 57 = 0
  · rw [if_pos d] at hnum
    rw [if_pos d, if_pos d, if_pos rfl]
    exact ⟨_, _, _, m1, rfl, rfl, s2, Or.inr ⟨q + 1, hnum, by omega, nI_pos (by omega), rfl, rfl, a, b⟩⟩
  rw [if_neg d] at hnum
  rw [if_neg d, if_neg d, if_neg h10']
  obtain ⟨m2, t1, t2, t3⟩ := sign_eq hL (show q + 1 ≤ 80 by omega) hx1 a b 48 57
  rw [t1, bd2_s]
  rcases t3 with ⟨e2, -⟩ | ⟨e2, a2, b2⟩
  · exact absurd e2 d
  rcases in_lh (chF v L (q + 1)) (lo := 48) (hi := 57) (by decide) (by decide) with ⟨e1, -⟩ | ⟨-, c', c1', c2', ec'⟩
  · exact absurd e1 d
  have hqL' : q + 1 < L := ch_in (v := v) (by rw [ec']; exact fun h => absurd ((nI_eq (b := 0) (by omega) (by decide)).mp h) (by omega))
  have ev : (10 : Int32) * nI (c - 48) + nI c' - 48 = nI (10 * (c - 48) + c' - 48) := by
    rw [show (10 : Int32) * nI (c - 48) = nI (10 * (c - 48)) from pk_mul 10 (c - 48), nI_add]
    exact nI_subn (b := 48) (by omega)
  rw [ec', ev] at hnum
  rw [ec', ev, nI_1]
  exact ⟨_, _, _, m2, rfl, rfl, fun j h1 h2 => by rw [t2 j h1 h2, s2 j h1 h2], Or.inr ⟨q + 1 + 1, hnum, by omega, nI_pos (by omega), rfl, rfl, a2, b2⟩⟩
theorem number_bad {v m : DV} {L q : Nat} (hL : L ≤ 80) (hq : q ≤ 80) (hx : TXR v m L) (h10 : m 10 0 = nI q) (h11 : m 11 0 = 1) : ∃ r m2, f_X7_number m = some (r, m2) ∧ (∀ j, j ≠ 10 → j ≠ 11 → m2 j = m j) ∧ m2 10 0 = nI q ∧ m2 11 0 = 1 := by
  unfold f_X7_number
  obtain ⟨m1, s1, s2, a, b⟩ := sign_bad hL hq hx h10 h11 48 57
  rw [s1, bd2_s, isNext_bad b, bd1_s, if_pos rfl, ite_self]
  exact ⟨_, m1, rfl, s2, a, b⟩
theorem mood_in (x : Int32) : f_X6_isMood (x - 48) = 0 ↔ f_X7_in x 48 53 = 0 := by
  rcases in_lh x (lo := 48) (hi := 53) (by decide) (by decide) with ⟨e, ne⟩ | ⟨e, j, h1, h2, ej⟩
  · rw [show f_X7_in x 48 53 = 0 from e]
    refine ⟨fun _ => rfl, fun _ => ?_⟩
    rcases isMood_cases (x - 48) with ⟨e2, -⟩ | ⟨-, d, hd, ed⟩
    · exact e2
    · refine absurd ⟨d + 48, by omega, by omega, ?_⟩ ne
      have : x = nI d + 48 := by rw [← ed]; exact (Int32.sub_add_cancel x 48).symm
      rw [this]; exact nI_add d 48
  · rw [show f_X7_in x 48 53 = 1 from e]
    refine ⟨fun h => ?_, fun h => absurd h (by decide)⟩
    rcases isMood_cases (x - 48) with ⟨-, ne⟩ | ⟨e2, -⟩
    · exact absurd ⟨j - 48, by omega, by rw [ej, sub48 h1]⟩ ne
    · rw [e2] at h; exact h
theorem mood_eq {v m : DV} {L q : Nat} (ht : TXT v L) (h17 : v 17 0 = nI q) (hq : q ≤ 80) (hx : TXR v m L) (h10 : m 10 0 = nI q) (h11 : m 11 0 = 0) : ∃ m2, f_X7_sign m 48 53 = some (chF v L q, m2) ∧ (∀ j, j ≠ 10 → j ≠ 11 → m2 j = m j) ∧ ((f_X4_readMood v = some (0, vs v 19 (fun _ => chF v L q - 48)) ∧ m2 10 0 = nI q ∧ m2 11 0 = 1) ∨ (f_X4_readMood v = some (1, vs (vs v 19 (fun _ => chF v L q - 48)) 17 (fun _ => nI (q + 1))) ∧ q < L ∧ (∃ d, d < 6 ∧ chF v L q - 48 = nI d) ∧ m2 10 0 = nI (q + 1) ∧ m2 11 0 = 0)) := by
  obtain ⟨m1, s1, s2, s3⟩ := sign_eq ht.1 hq hx h10 h11 48 53
  refine ⟨m1, s1, s2, ?_⟩
  unfold f_X4_readMood
  rw [next_eq ht h17 hq, bd1_s, h17, nI_1]
  rcases s3 with ⟨e, a, b⟩ | ⟨e, a, b⟩
  · rw [if_pos ((mood_in _).mpr e)]
    exact Or.inl ⟨rfl, a, b⟩
  · rw [if_neg (fun h => e ((mood_in _).mp h))]
    rcases in_lh (chF v L q) (lo := 48) (hi := 53) (by decide) (by decide) with ⟨e1, -⟩ | ⟨-, c, c1, c2, ec⟩
    · exact absurd e1 e
    · refine Or.inr ⟨rfl, ch_in (v := v) (by rw [ec]; exact fun h => absurd ((nI_eq (b := 0) (by omega) (by decide)).mp h) (by omega)), ⟨c - 48, by omega, by rw [ec, sub48 c1]⟩, a, b⟩
