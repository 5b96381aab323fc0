/-! Orders on the pad: the class's other kinds. -/
section CK
variable {v : DV} {L q : Nat}
theorem o130_k (ch : Nat → Int32) (q : Nat) {x : Int32} (a : Int32) (h1 : ¬ x = 43) (h2 : ¬ x = 117) : o130 ch q x a = .inr (q, a, 0, -6) := by
  unfold o130 o151 o173 o219
  rw [if_neg h1, if_neg h1, if_neg h2, if_neg h1, if_neg h2]
theorem clsOrder107 (ht : TXT v L) (h17 : v 17 0 = nI q) (hq : q ≤ 80) (ck : chF v L q = 107) : ∃ r v2, f_X4_readOrder v = some (r, v2) ∧ CRES v v2 r (chF v L q) (ordF (chF v L) q) := by
  have h10 : ¬ (1 : Int32) = 0 := by decide
  unfold f_X4_readOrder
  rw [next_eq ht h17 hq, bd1_s]
  generalize hv0 : vs (vs v 18 (fun _ => chF v L q)) 21 (fun _ => -6) = v0
  have t0 : TXT v0 L := by rw [← hv0]; exact ht
  have c0 : ∀ p, chF v0 L p = chF v L p := fun p => by rw [← hv0]; rfl
  have p0 : v0 17 0 = nI q := by rw [← hv0]; exact h17
  have k0 : v0 18 0 = chF v L q := by rw [← hv0]; rfl
  have o0 : ∀ j, j < 17 ∨ 21 < j → v0 j = v j := fun j hj => by rw [← hv0, vs_o _ _ (by omega), vs_o _ _ (by omega)]
  have ech : chF v0 L = chF v L := funext c0
  have hq1 : q + 1 ≤ 80 := after ht (by rw [ck]; decide)
  rw [take_eq t0 p0 hq 43, c0, ck, if_neg (show ¬ (107 : Int32) = 43 by decide), bd2_s, if_pos rfl, take_eq t0 p0 hq 107, c0, ck, if_pos rfl, bd2_s, if_neg h10]
  unfold ordF
  rw [ck, if_pos (Or.inr (Or.inl rfl)), o130_k _ _ _ (by decide) (by decide)]
  rcases moodC (v := vs v0 17 (fun _ => nI (q + 1))) (L := L) t0 rfl hq1 with ⟨e, f⟩ | ⟨e, hq2, f⟩
  · rw [f, bd2_s, okZ_01.1, ck_t, if_pos (by rw [← ech]; exact e)]
    exact ⟨_, _, rfl, fun j hj => by rw [vs_o _ _ (by omega), vs_o _ _ (by omega), o0 j hj], rfl, hq1, rfl⟩
  · rw [f, bd2_s, okZ_01.2, ck_t, if_neg (by rw [← ech]; exact e)]
    refine ⟨_, _, rfl, fun j hj => by rw [vs_o _ _ (by omega), vs_o _ _ (by omega), vs_o _ _ (by omega), o0 j hj], rfl, hq2, rfl, k0.trans ck, fun h => absurd h (by decide), fun _ => ?_, fun h => absurd h (by decide)⟩
    rw [← c0]; rfl
end CK
