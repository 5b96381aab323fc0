/-! Orders on the pad: single steps on both sides. -/
def chF (v : DV) (L q : Nat) : Int32 := if q < L then v 15 q else 0
/-- the pad's text: L characters, each a visible one -/
def TXT (v : DV) (L : Nat) : Prop := L ≤ 80 ∧ v 16 0 = nI L ∧ ∀ j, j < L → ∃ c : Nat, 33 ≤ c ∧ c ≤ 126 ∧ v 15 j = nI c
def TXR (v m : DV) (L : Nat) : Prop := m 9 0 = nI L ∧ ∀ j, j < L → m 5 j = v 15 j
theorem okC_v : ∀ c, c < 127 → okC (nI c) = true := by decide +kernel
theorem next_eq {v : DV} {L q : Nat} (h : TXT v L) (h17 : v 17 0 = nI q) (hq : q ≤ 80) : f_X4_next v = some (chF v L q) := by
  obtain ⟨hL, h16, hc⟩ := h
  unfold f_X4_next chF
  rw [h17, h16, if_neg (nI_pos (by omega))]
  by_cases c : q < L
  · rw [if_neg (nI_ge (by omega) (by omega)), if_neg (show ¬ (80 : Int32) ≤ nI q from nI_ge (a := q) (b := 80) (by omega) (by decide)), if_pos c]
    obtain ⟨x, h1, h2, h3⟩ := hc q c
    simp only [ixb_nI (show q < 80 by omega) (by decide), ck_t, clq (show q < 2 ^ 31 by omega), h3, okC_v x (by omega)]
  · rw [if_pos (nI_le (by omega) (by omega)), if_neg c]
theorem take_eq {v : DV} {L q : Nat} (h : TXT v L) (h17 : v 17 0 = nI q) (hq : q ≤ 80) (x : Int32) : f_X4_take v x = some (if chF v L q = x then (1, vs v 17 (fun _ => nI (q + 1))) else (0, v)) := by
  unfold f_X4_take
  rw [next_eq h h17 hq, bd1_s, h17, nI_1]
  split <;> rfl
/-- the reference's state: place q, wrong or not -/
def AT (m : DV) (q : Nat) (b : Int32) : Prop := m 10 0 = nI q ∧ m 11 0 = b
theorem sign_look {v m : DV} {L q : Nat} (hL : L ≤ 80) (hq : q ≤ 80) (h : TXR v m L) (h10 : m 10 0 = nI q) (lo hi : Int32) : f_X7_sign m lo hi = f_X7_sign_J24 m lo hi (chF v L q) := by
  obtain ⟨h9, h5⟩ := h
  unfold f_X7_sign chF
  rw [h9, h10]
  by_cases c : q < L
  · rw [if_neg (nI_ge (by omega) (by omega)), if_pos c]
    simp only [ixb_nI (show q < 80 by omega) (by decide), ck_t, clq (show q < 2 ^ 31 by omega), h5 q c]
  · rw [if_pos (nI_le (by omega) (by omega)), if_neg c]
theorem okZ_01 : okZ 0 = true ∧ okZ 1 = true := by decide
/-- a sign that is asked for -/
theorem sign_eq {v m : DV} {L q : Nat} (hL : L ≤ 80) (hq : q ≤ 80) (h : TXR v m L) (h10 : m 10 0 = nI q) (h11 : m 11 0 = 0) (lo hi : Int32) : ∃ m2, f_X7_sign m lo hi = some (chF v L q, m2) ∧ (∀ j, j ≠ 10 → j ≠ 11 → m2 j = m j) ∧ ((f_X7_in (chF v L q) lo hi = 0 ∧ m2 10 0 = nI q ∧ m2 11 0 = 1) ∨ (¬ f_X7_in (chF v L q) lo hi = 0 ∧ m2 10 0 = nI (q + 1) ∧ m2 11 0 = 0)) := by
  rw [sign_look hL hq h h10]
  unfold f_X7_sign_J24 f_X7_sign_J42 f_X7_sign_J47
  have h10' : ¬ (1 : Int32) = 0 := by decide
  rw [h11, if_pos rfl, okZ_01.1, okZ_01.2, ck_t, ck_t, if_pos rfl, if_neg h10', h10, nI_1, show nI q + 0 = nI q from Int32.add_zero _]
  by_cases c : f_X7_in (chF v L q) lo hi = 0
  · rw [if_pos c]
    exact ⟨_, rfl, fun j h1 h2 => by rw [vs_o _ _ h1, vs_o _ _ h2], Or.inl ⟨c, rfl, rfl⟩⟩
  · rw [if_neg c]
    exact ⟨_, rfl, fun j h1 h2 => by rw [vs_o _ _ h1, vs_o _ _ h2], Or.inr ⟨c, rfl, rfl⟩⟩
/-- once wrong, always wrong, at the same place -/
theorem sign_bad {v m : DV} {L q : Nat} (hL : L ≤ 80) (hq : q ≤ 80) (h : TXR v m L) (h10 : m 10 0 = nI q) (h11 : m 11 0 = 1) (lo hi : Int32) : ∃ m2, f_X7_sign m lo hi = some (chF v L q, m2) ∧ (∀ j, j ≠ 10 → j ≠ 11 → m2 j = m j) ∧ m2 10 0 = nI q ∧ m2 11 0 = 1 := by
  rw [sign_look hL hq h h10]
  unfold f_X7_sign_J24 f_X7_sign_J42 f_X7_sign_J47
  have h10' : ¬ (1 : Int32) = 0 := by decide
  rw [h11, if_neg h10', okZ_01.2, ck_t, if_neg h10', h10, show nI q + 0 = nI q from Int32.add_zero _]
  exact ⟨_, rfl, fun j h1 h2 => by rw [vs_o _ _ h1, vs_o _ _ h2], rfl, rfl⟩
theorem isNext_eq {v m : DV} {L q : Nat} (hL : L ≤ 80) (hq : q ≤ 80) (h : TXR v m L) (h10 : m 10 0 = nI q) (h11 : m 11 0 = 0) (lo hi : Int32) (h0 : f_X7_in 0 lo hi = 0) : f_X7_isNext m lo hi = some (if f_X7_in (chF v L q) lo hi = 0 then 0 else 1) := by
  obtain ⟨h9, h5⟩ := h
  unfold f_X7_isNext chF
  rw [h11, if_pos rfl, h9, h10]
  by_cases c : q < L
  · rw [if_neg (nI_ge (by omega) (by omega)), if_pos c]
    simp only [ixb_nI (show q < 80 by omega) (by decide), ck_t, clq (show q < 2 ^ 31 by omega), h5 q c]
    split <;> rfl
  · rw [if_pos (nI_le (by omega) (by omega)), if_neg c, h0, if_pos rfl]
theorem isNext_bad {m : DV} (h11 : m 11 0 = 1) (lo hi : Int32) : f_X7_isNext m lo hi = some 0 := by
  unfold f_X7_isNext
  rw [h11, if_neg (by decide)]
