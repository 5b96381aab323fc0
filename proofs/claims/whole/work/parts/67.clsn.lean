/-! Orders on the pad: no kind, in the class. -/
section CN
variable {v : DV} {L q : Nat}
theorem clsOrder0 (ht : TXT v L) (h17 : v 17 0 = nI q) (hq : q ≤ 80) (n43 : ¬ chF v L q = 43) (n107 : ¬ chF v L q = 107) (n116 : ¬ chF v L q = 116) (n98 : ¬ chF v L q = 98) (n117 : ¬ chF v L q = 117) : ∃ r v2, f_X4_readOrder v = some (r, v2) ∧ CRES v v2 r (chF v L q) (ordF (chF v L) q) := by
  unfold f_X4_readOrder
  rw [next_eq ht h17 hq, bd1_s]
  generalize hv0 : vs (vs v 18 (fun _ => chF v L q)) 21 (fun _ => -6) = v0
  have t0 : TXT v0 L := by rw [← hv0]; exact ht
  have c0 : ∀ p, chF v0 L p = chF v L p := fun p => by rw [← hv0]; rfl
  have p0 : v0 17 0 = nI q := by rw [← hv0]; exact h17
  have o0 : ∀ j, j < 17 ∨ 21 < j → v0 j = v j := fun j hj => by rw [← hv0, vs_o _ _ (by omega), vs_o _ _ (by omega)]
  rw [take_eq t0 p0 hq 43, c0, if_neg n43, bd2_s, if_pos rfl, take_eq t0 p0 hq 107, c0, if_neg n107, bd2_s, if_pos rfl, take_eq t0 p0 hq 116, c0, if_neg n116, bd2_s, if_pos rfl, take_eq t0 p0 hq 98, c0, if_neg n98, bd2_s, if_pos rfl, take_eq t0 p0 hq 117, c0, if_neg n117, bd2_s, if_pos rfl]
  unfold ordF
  rw [if_neg (fun h => h.elim n43 (fun h => h.elim n107 n117)), if_neg (fun h => h.elim n116 n98)]
  exact ⟨_, _, rfl, o0, rfl, hq, p0⟩
end CN
