/-! Orders on the pad: kinds t and b in the class. -/
section CT
variable {v : DV} {L q : Nat}
theorem clsOrder116 (ht : TXT v L) (h17 : v 17 0 = nI q) (hq : q ≤ 80) (ck : chF v L q = 116) : ∃ r v2, f_X4_readOrder v = some (r, v2) ∧ CRES v v2 r (chF v L q) (ordF (chF v L) q) := by
  have h10 : ¬ (1 : Int32) = 0 := by decide
  unfold f_X4_readOrder
  rw [next_eq ht h17 hq, bd1_s]
  generalize hv0 : vs (vs v 18 (fun _ => chF v L q)) 21 (fun _ => -6) = v0
  have t0 : TXT v0 L := by rw [← hv0]; exact ht
  have c0 : ∀ p, chF v0 L p = chF v L p := fun p => by rw [← hv0]; rfl
  have p0 : v0 17 0 = nI q := by rw [← hv0]; exact h17
  have k0 : v0 18 0 = chF v L q := by rw [← hv0]; rfl
  have o0 : ∀ j, j < 17 ∨ 21 < j → v0 j = v j := fun j hj => by rw [← hv0, vs_o _ _ (by omega), vs_o _ _ (by omega)]
  have ech : chF v0 L = chF v L := funext c0
  have hq1 : q + 1 ≤ 80 := after ht (by rw [ck]; decide)
  rw [take_eq t0 p0 hq 43, c0, ck, if_neg (show ¬ (116 : Int32) = 43 by decide), bd2_s, if_pos rfl, take_eq t0 p0 hq 107, c0, ck, if_neg (show ¬ (116 : Int32) = 107 by decide), bd2_s, if_pos rfl, take_eq t0 p0 hq 116, c0, ck, if_pos rfl, bd2_s, if_neg h10]
  unfold ordF
  rw [ck, if_neg (show ¬ ((116 : Int32) = 43 ∨ (116 : Int32) = 107 ∨ (116 : Int32) = 117) by decide), if_pos (show ((116 : Int32) = 116 ∨ (116 : Int32) = 98) by decide)]
  obtain ⟨r, v2, g1, g2⟩ := firstC (v := vs v0 17 (fun _ => nI (q + 1))) (L := L) t0 rfl hq1
  rw [show chF (vs v0 17 (fun _ => nI (q + 1))) L = chF v L from ech] at g2
  rw [g1, bd2_s]
  rcases g2 with ⟨b1, b2, b3⟩ | ⟨x, q2, b1, b2, b3, b4⟩
  · rw [b1, b2, okZ_01.1, ck_t, b3]
    exact ⟨_, _, rfl, fun j hj => by rw [vs_o _ _ (by omega), vs_o _ _ (by omega), o0 j hj], rfl, hq1, rfl⟩
  · rw [b1, b3, okZ_01.2, ck_t, b4]
    show ∃ r v2, _ ∧ CRES v v2 r 116 (o130 (chF v L) q2 116 x)
    rw [o130_k _ _ _ (by decide) (by decide)]
    exact ⟨_, _, rfl, fun j hj => by rw [vs_o _ _ (by omega), vs_o _ _ (by omega), vs_o _ _ (by omega), o0 j hj], rfl, b2, rfl, k0.trans ck, fun h => absurd h (by decide), fun h => absurd h (by decide), fun _ => rfl⟩
theorem clsOrder98 (ht : TXT v L) (h17 : v 17 0 = nI q) (hq : q ≤ 80) (ck : chF v L q = 98) : ∃ r v2, f_X4_readOrder v = some (r, v2) ∧ CRES v v2 r (chF v L q) (ordF (chF v L) q) := by
  have h10 : ¬ (1 : Int32) = 0 := by decide
  unfold f_X4_readOrder
  rw [next_eq ht h17 hq, bd1_s]
  generalize hv0 : vs (vs v 18 (fun _ => chF v L q)) 21 (fun _ => -6) = v0
  have t0 : TXT v0 L := by rw [← hv0]; exact ht
  have c0 : ∀ p, chF v0 L p = chF v L p := fun p => by rw [← hv0]; rfl
  have p0 : v0 17 0 = nI q := by rw [← hv0]; exact h17
  have k0 : v0 18 0 = chF v L q := by rw [← hv0]; rfl
  have o0 : ∀ j, j < 17 ∨ 21 < j → v0 j = v j := fun j hj => by rw [← hv0, vs_o _ _ (by omega), vs_o _ _ (by omega)]
  have ech : chF v0 L = chF v L := funext c0
  have hq1 : q + 1 ≤ 80 := after ht (by rw [ck]; decide)
  rw [take_eq t0 p0 hq 43, c0, ck, if_neg (show ¬ (98 : Int32) = 43 by decide), bd2_s, if_pos rfl, take_eq t0 p0 hq 107, c0, ck, if_neg (show ¬ (98 : Int32) = 107 by decide), bd2_s, if_pos rfl, take_eq t0 p0 hq 116, c0, ck, if_neg (show ¬ (98 : Int32) = 116 by decide), bd2_s, if_pos rfl, take_eq t0 p0 hq 98, c0, ck, if_pos rfl, bd2_s, if_neg h10]
  unfold ordF
  rw [ck, if_neg (show ¬ ((98 : Int32) = 43 ∨ (98 : Int32) = 107 ∨ (98 : Int32) = 117) by decide), if_pos (show ((98 : Int32) = 116 ∨ (98 : Int32) = 98) by decide)]
  obtain ⟨r, v2, g1, g2⟩ := firstC (v := vs v0 17 (fun _ => nI (q + 1))) (L := L) t0 rfl hq1
  rw [show chF (vs v0 17 (fun _ => nI (q + 1))) L = chF v L from ech] at g2
  rw [g1, bd2_s]
  rcases g2 with ⟨b1, b2, b3⟩ | ⟨x, q2, b1, b2, b3, b4⟩
  · rw [b1, b2, okZ_01.1, ck_t, b3]
    exact ⟨_, _, rfl, fun j hj => by rw [vs_o _ _ (by omega), vs_o _ _ (by omega), o0 j hj], rfl, hq1, rfl⟩
  · rw [b1, b3, okZ_01.2, ck_t, b4]
    show ∃ r v2, _ ∧ CRES v v2 r 98 (o130 (chF v L) q2 98 x)
    rw [o130_k _ _ _ (by decide) (by decide)]
    exact ⟨_, _, rfl, fun j hj => by rw [vs_o _ _ (by omega), vs_o _ _ (by omega), vs_o _ _ (by omega), o0 j hj], rfl, b2, rfl, k0.trans ck, fun h => absurd h (by decide), fun h => absurd h (by decide), fun _ => rfl⟩
end CT
