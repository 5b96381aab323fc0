/-! Orders on the pad: behind a 'u' order's first number, in the class. -/
theorem tail117 {u : DV} {L q : Nat} (ch : Nat → Int32) (wt : TXT u L) (wc : chF u L = ch) (w17 : u 17 0 = nI q) (hq : q ≤ 80) (a b : Int32) : ∃ r v2, bd2 (f_X4_take u 45) (fun r131 v131 => if r131 = 0 then some (0, v131) else bd2 (f_X4_readSecond v131) (fun r138 v138 => if r138 = 0 then some (0, v138) else some (1, v138))) = some (r, v2) ∧ (∀ j, j ≠ 17 → j ≠ 21 → v2 j = u j) ∧ (match o173 ch q 117 a b with | .inl q2 => r = 0 ∧ q2 ≤ 80 ∧ v2 17 0 = nI q2 | .inr (q2, a', b', c) => r = (1 : Int32) ∧ q2 ≤ 80 ∧ v2 17 0 = nI q2 ∧ a' = a ∧ b' = b ∧ v2 21 0 = c) := by
  have h10 : ¬ (1 : Int32) = 0 := by decide
  rw [take_eq wt w17 hq 45, wc]
  unfold o173
  rw [if_neg (show ¬ (117 : Int32) = 43 by decide)]
  unfold o219
  rw [if_pos rfl]
  have e45 : f_X7_in (ch q) 45 45 = 0 ↔ ¬ ch q = 45 := in_one (c := 45) (by decide) (by decide)
  by_cases d : ch q = 45
  · rw [if_pos d, bd2_s, if_neg h10, if_neg (fun h => e45.mp h d)]
    have hq1 : q + 1 ≤ 80 := by
      have := ch_in (v := u) (L := L) (q := q) (by rw [wc, d]; decide)
      have := wt.1
      omega
    obtain ⟨r, v2, g1, g2⟩ := secondC (v := vs u 17 (fun _ => nI (q + 1))) (L := L) wt rfl hq1
    rw [show chF (vs u 17 (fun _ => nI (q + 1))) L = ch from wc] at g2
    rw [g1, bd2_s]
    rcases g2 with ⟨b1, b2, b3⟩ | ⟨x, q2, b1, b2, b3, b4⟩
    · rw [b1, b2, if_pos rfl, b3]
      exact ⟨_, _, rfl, fun j h1 h2 => by rw [vs_o _ _ h2, vs_o _ _ h1], rfl, hq1, rfl⟩
    · rw [b1, b3, if_neg h10, b4]
      exact ⟨_, _, rfl, fun j h1 h2 => by rw [vs_o _ _ h2, vs_o _ _ h1, vs_o _ _ h1], rfl, b2, rfl, rfl, rfl, rfl⟩
  · rw [if_neg d, bd2_s, if_pos rfl, if_pos (e45.mpr d)]
    exact ⟨_, _, rfl, fun _ _ _ => rfl, rfl, hq, w17⟩
