/-! Orders on the pad: kind u in the class. -/
section CU
variable {v : DV} {L q : Nat}
theorem clsOrder117 (ht : TXT v L) (h17 : v 17 0 = nI q) (hq : q ≤ 80) (ck : chF v L q = 117) : ∃ r v2, f_X4_readOrder v = some (r, v2) ∧ CRES v v2 r (chF v L q) (ordF (chF v L) q) := by
  have h10 : ¬ (1 : Int32) = 0 := by decide
  unfold f_X4_readOrder
  rw [next_eq ht h17 hq, bd1_s]
  generalize hv0 : vs (vs v 18 (fun _ => chF v L q)) 21 (fun _ => -6) = v0
  have t0 : TXT v0 L := by rw [← hv0]; exact ht
  have c0 : ∀ p, chF v0 L p = chF v L p := fun p => by rw [← hv0]; rfl
  have p0 : v0 17 0 = nI q := by rw [← hv0]; exact h17
  have k0 : v0 18 0 = chF v L q := by rw [← hv0]; rfl
  have o0 : ∀ j, j < 17 ∨ 21 < j → v0 j = v j := fun j hj => by rw [← hv0, vs_o _ _ (by omega), vs_o _ _ (by omega)]
  have ech : chF v0 L = chF v L := funext c0
  have hq1 : q + 1 ≤ 80 := after ht (by rw [ck]; decide)
  rw [take_eq t0 p0 hq 43, c0, ck, if_neg (show ¬ (117 : Int32) = 43 by decide), bd2_s, if_pos rfl, take_eq t0 p0 hq 107, c0, ck, if_neg (show ¬ (117 : Int32) = 107 by decide), bd2_s, if_pos rfl, take_eq t0 p0 hq 116, c0, ck, if_neg (show ¬ (117 : Int32) = 116 by decide), bd2_s, if_pos rfl, take_eq t0 p0 hq 98, c0, ck, if_neg (show ¬ (117 : Int32) = 98 by decide), bd2_s, if_pos rfl, take_eq t0 p0 hq 117, c0, ck, if_pos rfl, bd2_s, if_neg h10]
  unfold ordF
  rw [ck, if_pos (Or.inr (Or.inr rfl))]
  rcases moodC (v := vs v0 17 (fun _ => nI (q + 1))) (L := L) t0 rfl hq1 with ⟨e, f⟩ | ⟨e, hq2, f⟩
  · rw [f, bd2_s, if_pos rfl, if_pos (by rw [← ech]; exact e)]
    exact ⟨_, _, rfl, fun j hj => by rw [vs_o _ _ (by omega), vs_o _ _ (by omega), o0 j hj], rfl, hq1, rfl⟩
  · rw [f, bd2_s, if_neg h10, if_neg (by rw [← ech]; exact e), show chF (vs v0 17 (fun _ => nI (q + 1))) L (q + 1) = chF v L (q + 1) from c0 _]
    unfold o130 o151
    rw [if_neg (show ¬ (117 : Int32) = 43 by decide), if_neg (show ¬ (117 : Int32) = 43 by decide), if_pos rfl]
    unfold o165
    have o1 : ∀ j, j < 17 ∨ 21 < j → (vs (vs (vs v0 17 (fun _ => nI (q + 1))) 19 (fun _ => chF v L (q + 1) - 48)) 17 (fun _ => nI (q + 1 + 1))) j = v j := fun j hj => by rw [vs_o _ _ (by omega), vs_o _ _ (by omega), vs_o _ _ (by omega), o0 j hj]
    have t1 : TXT (vs (vs (vs v0 17 (fun _ => nI (q + 1))) 19 (fun _ => chF v L (q + 1) - 48)) 17 (fun _ => nI (q + 1 + 1))) L := t0
    have e1 : chF (vs (vs (vs v0 17 (fun _ => nI (q + 1))) 19 (fun _ => chF v L (q + 1) - 48)) 17 (fun _ => nI (q + 1 + 1))) L = chF v L := ech
    have p1 : (vs (vs (vs v0 17 (fun _ => nI (q + 1))) 19 (fun _ => chF v L (q + 1) - 48)) 17 (fun _ => nI (q + 1 + 1))) 17 0 = nI (q + 1 + 1) := rfl
    have k1 : (vs (vs (vs v0 17 (fun _ => nI (q + 1))) 19 (fun _ => chF v L (q + 1) - 48)) 17 (fun _ => nI (q + 1 + 1))) 18 0 = 117 := k0.trans ck
    have m1 : (vs (vs (vs v0 17 (fun _ => nI (q + 1))) 19 (fun _ => chF v L (q + 1) - 48)) 17 (fun _ => nI (q + 1 + 1))) 19 0 = chF v L (q + 1) - 48 := rfl
    generalize (vs (vs (vs v0 17 (fun _ => nI (q + 1))) 19 (fun _ => chF v L (q + 1) - 48)) 17 (fun _ => nI (q + 1 + 1))) = v1 at *
    obtain ⟨r, v2, g1, g2⟩ := firstC t1 p1 hq2
    rw [e1] at g2
    rw [g1, bd2_s]
    rcases g2 with ⟨b1, b2, b3⟩ | ⟨x, q2, b1, b2, b3, b4⟩
    · rw [b1, b2, if_pos rfl, b3]
      exact ⟨_, _, rfl, fun j hj => by rw [vs_o _ _ (by omega), o1 j hj], rfl, hq2, p1⟩
    · rw [b1, b3, if_neg h10, b4]
      obtain ⟨r', v2', z1, z2, z3⟩ := tail117 (u := vs (vs v1 17 (fun _ => nI q2)) 20 (fun _ => x)) (chF v L) t1 e1 rfl b2 (chF v L (q + 1) - 48) x
      refine ⟨r', v2', z1, fun j hj => by rw [z2 j (by omega) (by omega), vs_o _ _ (by omega), vs_o _ _ (by omega), o1 j hj], ?_⟩
      show (match o173 (chF v L) q2 117 (chF v L (q + 1) - 48) x with | .inl q2 => _ | .inr (q2, a, b, c) => _)
      cases hr : o173 (chF v L) q2 117 (chF v L (q + 1) - 48) x with
      | inl p => rw [hr] at z3; exact z3
      | inr p =>
        rw [hr] at z3
        obtain ⟨y1, y2, y3, y4, y5, y6⟩ := z3
        exact ⟨y1, y2, y3, by rw [z2 18 (by decide) (by decide)]; exact k1, fun _ => ⟨by rw [z2 19 (by decide) (by decide), y4]; exact m1, by rw [z2 20 (by decide) (by decide), y5]; rfl, y6⟩, fun h => absurd h (by decide), fun h => absurd h (by decide)⟩
end CU
