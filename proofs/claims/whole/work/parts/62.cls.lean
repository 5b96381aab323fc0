/-! Orders on the pad: the class's steps. -/
section CS
variable {v : DV} {L q : Nat}
theorem numC (ht : TXT v L) (h17 : v 17 0 = nI q) (hq : q ≤ 80) : ∃ r v2, f_X4_readNumber v = some (r, v2) ∧ ((numF (chF v L) q = none ∧ r = -6 ∧ v2 = v) ∨ ∃ q2, numF (chF v L) q = some (r, q2) ∧ q2 ≤ 80 ∧ ¬ r < 0 ∧ v2 = vs v 17 (fun _ => nI q2)) := by
  have hx : TXR v (fun j => if j = 5 then v 15 else if j = 9 then fun _ => nI L else if j = 10 then fun _ => nI q else fun _ => 0) L := ⟨rfl, fun _ _ => rfl⟩
  obtain ⟨r, v2, rm, m2, a1, -, -, a4⟩ := number_eq ht h17 hq hx rfl rfl
  rcases a4 with ⟨b1, b2, b3, -⟩ | ⟨q2, b1, b2, b3, -, b4, -⟩
  · exact ⟨r, v2, a1, Or.inl ⟨b1, b2, b3⟩⟩
  · exact ⟨r, v2, a1, Or.inr ⟨q2, b1, b2, b3, b4⟩⟩
theorem firstC (ht : TXT v L) (h17 : v 17 0 = nI q) (hq : q ≤ 80) : ∃ r v2, f_X4_readFirst v = some (r, v2) ∧ ((numF (chF v L) q = none ∧ r = 0 ∧ v2 = vs v 20 (fun _ => -6)) ∨ ∃ x q2, numF (chF v L) q = some (x, q2) ∧ q2 ≤ 80 ∧ r = 1 ∧ v2 = vs (vs v 17 (fun _ => nI q2)) 20 (fun _ => x)) := by
  unfold f_X4_readFirst
  obtain ⟨r, v2, a1, a2⟩ := numC ht h17 hq
  rw [a1, bd2_s]
  rcases a2 with ⟨b1, b2, b3⟩ | ⟨q2, b1, b2, b3, b4⟩
  · subst b2 b3
    rw [if_pos (by decide)]
    exact ⟨_, _, rfl, Or.inl ⟨b1, rfl, rfl⟩⟩
  · subst b4
    rw [if_neg b3]
    exact ⟨_, _, rfl, Or.inr ⟨r, q2, b1, b2, rfl, rfl⟩⟩
theorem secondC (ht : TXT v L) (h17 : v 17 0 = nI q) (hq : q ≤ 80) : ∃ r v2, f_X4_readSecond v = some (r, v2) ∧ ((numF (chF v L) q = none ∧ r = 0 ∧ v2 = vs v 21 (fun _ => -6)) ∨ ∃ x q2, numF (chF v L) q = some (x, q2) ∧ q2 ≤ 80 ∧ r = 1 ∧ v2 = vs (vs v 17 (fun _ => nI q2)) 21 (fun _ => x)) := by
  unfold f_X4_readSecond
  obtain ⟨r, v2, a1, a2⟩ := numC ht h17 hq
  rw [a1, bd2_s]
  rcases a2 with ⟨b1, b2, b3⟩ | ⟨q2, b1, b2, b3, b4⟩
  · subst b2 b3
    rw [if_pos (by decide)]
    exact ⟨_, _, rfl, Or.inl ⟨b1, rfl, rfl⟩⟩
  · subst b4
    rw [if_neg b3]
    exact ⟨_, _, rfl, Or.inr ⟨r, q2, b1, b2, rfl, rfl⟩⟩
theorem moodC (ht : TXT v L) (h17 : v 17 0 = nI q) (hq : q ≤ 80) : (f_X7_in (chF v L q) 48 53 = 0 ∧ f_X4_readMood v = some (0, vs v 19 (fun _ => chF v L q - 48))) ∨ (¬ f_X7_in (chF v L q) 48 53 = 0 ∧ q + 1 ≤ 80 ∧ f_X4_readMood v = some (1, vs (vs v 19 (fun _ => chF v L q - 48)) 17 (fun _ => nI (q + 1)))) := by
  unfold f_X4_readMood
  rw [next_eq ht h17 hq, bd1_s, h17, nI_1]
  by_cases e : f_X7_in (chF v L q) 48 53 = 0
  · rw [if_pos ((mood_in _).mpr e)]
    exact Or.inl ⟨e, rfl⟩
  · rw [if_neg (fun h => e ((mood_in _).mp h))]
    exact Or.inr ⟨e, sub_ch (v := v) (lo := 48) (hi := 53) ht.1 (by decide) (by decide) (by decide) e, rfl⟩
/-- a sign that stands there, or not -/
theorem in_one {x : Int32} {c : Nat} (h1 : 0 < c) (h2 : c < 2 ^ 30) : f_X7_in x (nI c) (nI c) = 0 ↔ ¬ x = nI c := by
  rcases in_lh x h2 (hi := c) (by omega) with ⟨e, ne⟩ | ⟨e, j, a, b, ej⟩
  · rw [e]; exact ⟨fun _ h => ne ⟨c, Nat.le_refl _, Nat.le_refl _, h⟩, fun _ => rfl⟩
  · rw [e]; exact ⟨fun h => absurd h (by decide), fun h => absurd (by rw [ej]; congr 1; omega) h⟩
/-- the class's answer to an order -/
def CRES (v v2 : DV) (r x : Int32) (res : OR) : Prop := (∀ j, j < 17 ∨ 21 < j → v2 j = v j) ∧ (match res with | .inl q2 => r = 0 ∧ q2 ≤ 80 ∧ v2 17 0 = nI q2 | .inr (q2, a, b, c) => r = 1 ∧ q2 ≤ 80 ∧ v2 17 0 = nI q2 ∧ v2 18 0 = x ∧ ((x = 43 ∨ x = 117) → v2 19 0 = a ∧ v2 20 0 = b ∧ v2 21 0 = c) ∧ (x = 107 → v2 19 0 = a) ∧ ((x = 116 ∨ x = 98) → v2 20 0 = a))
end CS
