/-! Orders on the pad: the class's order is ordF. -/
theorem clsOrder_eq {v : DV} {L q : Nat} (ht : TXT v L) (h17 : v 17 0 = nI q) (hq : q ≤ 80) : ∃ r v2, f_X4_readOrder v = some (r, v2) ∧ CRES v v2 r (chF v L q) (ordF (chF v L) q) := by
  by_cases a : chF v L q = 43
  · have h := clsOrder43 ht h17 hq a
    exact h
  by_cases b : chF v L q = 107
  · exact clsOrder107 ht h17 hq b
  by_cases c : chF v L q = 116
  · exact clsOrder116 ht h17 hq c
  by_cases d : chF v L q = 98
  · exact clsOrder98 ht h17 hq d
  by_cases e : chF v L q = 117
  · exact clsOrder117 ht h17 hq e
  exact clsOrder0 ht h17 hq a b c d e
