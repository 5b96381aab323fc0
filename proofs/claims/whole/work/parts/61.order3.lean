/-! Orders on the pad: the reference's order. -/
section OD3
variable {v m : DV} {L q : Nat}
theorem J78_bad (hL : L ≤ 80) (hq : q ≤ 80) (hx : TXR v m L) (h10 : m 10 0 = nI q) (x1 x2 : Int32) : ∃ m2, f_X7_order_J73 m x1 x2 = some m2 ∧ RESK m m2 x1 (.inl q) := by
  unfold f_X7_order_J73 f_X7_order_J78
  rw [okZ_01.2, ck_t, if_neg (show ¬ (1 : Int32) = 0 by decide), h10]
  have e0 : EQO m (vs m 11 (fun _ => 1)) := EQO.vs _ (by decide) (by decide)
  obtain ⟨m2, b1, b2, b3⟩ := J98_bad hL hq (hx.eqo e0) (m := vs m 11 (fun _ => 1)) rfl x1 x2
  exact ⟨m2, b1, e0.trans b2, b3⟩
theorem RESK.pre {m m0 m2 : DV} {x : Int32} {res : OR} (h : RESK m0 m2 x res) (g : EQO m m0) : RESK m m2 x res := ⟨g.trans h.1, h.2⟩
theorem order_eq (ht : TXT v L) (hq : q ≤ 80) (hx : TXR v m L) (h10 : m 10 0 = nI q) (h11 : m 11 0 = 0) : ∃ m2, f_X7_order m = some m2 ∧ RESK m m2 (chF v L q) (ordF (chF v L) q) := by
  have hlook : f_X7_order m = f_X7_order_J24 m (chF v L q) := by
    obtain ⟨h9, h5⟩ := hx
    have hL := ht.1
    unfold f_X7_order chF
    rw [h9, h10]
    by_cases c : q < L
    · rw [if_neg (nI_ge (by omega) (by omega)), if_pos c]
      simp only [ixb_nI (show q < 80 by omega) (by decide), ck_t, clq (show q < 2 ^ 31 by omega), h5 q c]
    · rw [if_pos (nI_le (by omega) (by omega)), if_neg c]
  rw [hlook]
  have h10' : ¬ (1 : Int32) = 0 := by decide
  have e0 : EQO m (vs m 11 (fun _ => 0)) := EQO.vs _ (by decide) (by decide)
  have hq1 : ∀ x : Int32, x ≠ 0 → chF v L q = x → q + 1 ≤ 80 := fun x hx e => by
    have := ch_in (v := v) (L := L) (q := q) (by rw [e]; exact hx)
    have := ht.1
    omega
  have mood : ∀ x : Int32, x ≠ 0 → chF v L q = x → ∃ m2, f_X7_order_J43 m x = some m2 ∧ RESK m m2 x (if f_X7_in (chF v L (q + 1)) 48 53 = 0 then .inl (q + 1) else o130 (chF v L) (q + 1 + 1) x (chF v L (q + 1) - 48)) := by
    intro x hx0 e
    unfold f_X7_order_J43 f_X7_order_J48 f_X7_order_J77 f_X7_order_J78
    rw [h11, if_pos rfl, if_neg h10', okZ_01.1, ck_t, if_pos rfl, h10]
    obtain ⟨m2, b1, b2⟩ := J98_mood ht (hq1 x hx0 e) (hx.eqo e0) (m := vs m 11 (fun _ => 0)) rfl x 1 h10'
    exact ⟨m2, b1, b2.pre e0⟩
  have num : ∀ x : Int32, x ≠ 0 → chF v L q = x → ∃ m2, f_X7_order_J77 m x 0 = some m2 ∧ RESK m m2 x (match numF (chF v L) (q + 1) with | none => .inl (q + 1) | some (a, q2) => o130 (chF v L) q2 x a) := by
    intro x hx0 e
    unfold f_X7_order_J77 f_X7_order_J78
    rw [okZ_01.1, ck_t, if_pos rfl, h10]
    obtain ⟨m2, b1, b2⟩ := J98_num ht (hq1 x hx0 e) (hx.eqo e0) (m := vs m 11 (fun _ => 0)) rfl x
    exact ⟨m2, b1, b2.pre e0⟩
  unfold f_X7_order_J24 ordF
  by_cases c43 : chF v L q = 43
  · rw [c43, if_pos rfl, if_pos (Or.inl rfl)]
    exact mood 43 (by decide) c43
  · rw [if_neg c43]
    by_cases c107 : chF v L q = 107
    · rw [c107, if_pos rfl, if_pos (Or.inr (Or.inl rfl))]
      exact mood 107 (by decide) c107
    · rw [if_neg c107]
      by_cases c117 : chF v L q = 117
      · rw [c117, if_pos rfl, if_pos (Or.inr (Or.inr rfl))]
        exact mood 117 (by decide) c117
      · rw [if_neg c117, if_neg (fun h => h.elim c43 (fun h => h.elim c107 c117))]
        unfold f_X7_order_J48
        rw [h11, if_pos rfl, if_pos rfl]
        by_cases c116 : chF v L q = 116
        · rw [c116, if_pos rfl, if_pos (Or.inl rfl)]
          exact num 116 (by decide) c116
        · rw [if_neg c116]
          by_cases c98 : chF v L q = 98
          · rw [c98, if_pos rfl, if_pos (Or.inr rfl)]
            exact num 98 (by decide) c98
          · rw [if_neg c98, if_neg (fun h => h.elim c116 c98)]
            exact J78_bad ht.1 hq hx h10 _ _
end OD3
