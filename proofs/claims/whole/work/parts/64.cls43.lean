/-! Orders on the pad: the class's order. -/
section CO
variable {v : DV} {L q : Nat}
theorem lo_in {c : Nat} (h1 : 0 < c) (h2 : c < 2 ^ 30) {x : Int32} (h : x = nI c) : ¬ f_X7_in x (nI c) (nI c) = 0 := fun e => (in_one h1 h2).mp e h
theorem after (ht : TXT v L) (hx : ¬ chF v L q = 0) : q + 1 ≤ 80 := by
  have := ch_in (v := v) (L := L) (q := q) hx
  have := ht.1
  omega
theorem clsOrder43 (ht : TXT v L) (h17 : v 17 0 = nI q) (hq : q ≤ 80) (c43 : chF v L q = 43) : ∃ r v2, f_X4_readOrder v = some (r, v2) ∧ CRES v v2 r (chF v L q) (ordF (chF v L) q) := by
  have h10 : ¬ (1 : Int32) = 0 := by decide
  unfold f_X4_readOrder
  rw [next_eq ht h17 hq, bd1_s]
  generalize hv0 : vs (vs v 18 (fun _ => chF v L q)) 21 (fun _ => -6) = v0
  have t0 : TXT v0 L := by rw [← hv0]; exact ht
  have c0 : ∀ p, chF v0 L p = chF v L p := fun p => by rw [← hv0]; rfl
  have p0 : v0 17 0 = nI q := by rw [← hv0]; exact h17
  have k0 : v0 18 0 = chF v L q := by rw [← hv0]; rfl
  have s0 : v0 21 0 = -6 := by rw [← hv0]; rfl
  have o0 : ∀ j, j < 17 ∨ 21 < j → v0 j = v j := fun j hj => by rw [← hv0, vs_o _ _ (by omega), vs_o _ _ (by omega)]
  have ech : chF v0 L = chF v L := funext c0
  rw [take_eq t0 p0 hq 43, c0]
  · have hq1 : q + 1 ≤ 80 := after ht (by rw [c43]; decide)
    rw [c43, if_pos rfl, bd2_s, if_neg h10]
    unfold ordF
    rw [c43, if_pos (Or.inl rfl)]
    rcases moodC (v := vs v0 17 (fun _ => nI (q + 1))) t0 rfl hq1 with ⟨e, f⟩ | ⟨e, hq2, f⟩
    · rw [f, bd2_s, if_pos rfl, if_pos (by rw [← ech]; exact e)]
      exact ⟨_, _, rfl, fun j hj => by rw [vs_o _ _ (by omega), vs_o _ _ (by omega), o0 j hj], rfl, hq1, rfl⟩
    · rw [f, bd2_s, if_neg h10, if_neg (by rw [← ech]; exact e), take_eq (v := vs (vs (vs v0 17 (fun _ => nI (q + 1))) 19 (fun _ => chF (vs v0 17 (fun _ => nI (q + 1))) L (q + 1) - 48)) 17 (fun _ => nI (q + 1 + 1))) t0 rfl hq2 58]
      unfold o130
      rw [if_pos rfl]
      have e58 : chF (vs (vs (vs v0 17 (fun _ => nI (q + 1))) 19 (fun _ => chF (vs v0 17 (fun _ => nI (q + 1))) L (q + 1) - 48)) 17 (fun _ => nI (q + 1 + 1))) L (q + 1 + 1) = chF v L (q + 1 + 1) := c0 _
      have em : chF (vs v0 17 (fun _ => nI (q + 1))) L (q + 1) = chF v L (q + 1) := c0 _
      rw [e58, em]
      by_cases d58 : chF v L (q + 1 + 1) = 58
      · have hq3 : q + 1 + 1 + 1 ≤ 80 := after ht (by rw [d58]; decide)
        rw [if_pos d58, bd2_s, if_neg h10, if_neg (show ¬ f_X7_in (chF v L (q + 1 + 1)) 58 58 = 0 from lo_in (c := 58) (by decide) (by decide) d58)]
        unfold o151
        rw [if_pos rfl]
        unfold o165
        obtain ⟨r, v2, g1, g2⟩ := firstC (v := vs (vs (vs (vs v0 17 (fun _ => nI (q + 1))) 19 (fun _ => chF v L (q + 1) - 48)) 17 (fun _ => nI (q + 1 + 1))) 17 (fun _ => nI (q + 1 + 1 + 1))) (L := L) t0 rfl hq3
        rw [g1, bd2_s]
        have en : ∀ p, numF (chF (vs (vs (vs (vs v0 17 (fun _ => nI (q + 1))) 19 (fun _ => chF v L (q + 1) - 48)) 17 (fun _ => nI (q + 1 + 1))) 17 (fun _ => nI (q + 1 + 1 + 1))) L) p = numF (chF v L) p := fun p => by rw [← ech]; rfl
        rw [en] at g2
        rcases g2 with ⟨b1, b2, b3⟩ | ⟨x, q2, b1, b2, b3, b4⟩
        · rw [b1, b2, if_pos rfl, b3]
          exact ⟨_, _, rfl, fun j hj => by rw [vs_o _ _ (by omega), vs_o _ _ (by omega), vs_o _ _ (by omega), vs_o _ _ (by omega), vs_o _ _ (by omega), o0 j hj], rfl, hq3, rfl⟩
        · rw [b1, b3, if_neg h10, b4]
          have ot : ∀ j, j < 17 ∨ 21 < j → (vs (vs (vs (vs (vs (vs v0 17 (fun _ => nI (q + 1))) 19 (fun _ => chF v L (q + 1) - 48)) 17 (fun _ => nI (q + 1 + 1))) 17 (fun _ => nI (q + 1 + 1 + 1))) 17 (fun _ => nI q2)) 20 (fun _ => x)) j = v j := fun j hj => by rw [vs_o _ _ (by omega), vs_o _ _ (by omega), vs_o _ _ (by omega), vs_o _ _ (by omega), vs_o _ _ (by omega), vs_o _ _ (by omega), o0 j hj]
          have w18 : (vs (vs (vs (vs (vs (vs v0 17 (fun _ => nI (q + 1))) 19 (fun _ => chF v L (q + 1) - 48)) 17 (fun _ => nI (q + 1 + 1))) 17 (fun _ => nI (q + 1 + 1 + 1))) 17 (fun _ => nI q2)) 20 (fun _ => x)) 18 0 = 43 := k0.trans c43
          have w21 : (vs (vs (vs (vs (vs (vs v0 17 (fun _ => nI (q + 1))) 19 (fun _ => chF v L (q + 1) - 48)) 17 (fun _ => nI (q + 1 + 1))) 17 (fun _ => nI (q + 1 + 1 + 1))) 17 (fun _ => nI q2)) 20 (fun _ => x)) 21 0 = -6 := s0
          have wt : TXT (vs (vs (vs (vs (vs (vs v0 17 (fun _ => nI (q + 1))) 19 (fun _ => chF v L (q + 1) - 48)) 17 (fun _ => nI (q + 1 + 1))) 17 (fun _ => nI (q + 1 + 1 + 1))) 17 (fun _ => nI q2)) 20 (fun _ => x)) L := t0
          have wc : chF (vs (vs (vs (vs (vs (vs v0 17 (fun _ => nI (q + 1))) 19 (fun _ => chF v L (q + 1) - 48)) 17 (fun _ => nI (q + 1 + 1))) 17 (fun _ => nI (q + 1 + 1 + 1))) 17 (fun _ => nI q2)) 20 (fun _ => x)) L = chF v L := ech
          have w17 : (vs (vs (vs (vs (vs (vs v0 17 (fun _ => nI (q + 1))) 19 (fun _ => chF v L (q + 1) - 48)) 17 (fun _ => nI (q + 1 + 1))) 17 (fun _ => nI (q + 1 + 1 + 1))) 17 (fun _ => nI q2)) 20 (fun _ => x)) 17 0 = nI q2 := rfl
          have w19 : (vs (vs (vs (vs (vs (vs v0 17 (fun _ => nI (q + 1))) 19 (fun _ => chF v L (q + 1) - 48)) 17 (fun _ => nI (q + 1 + 1))) 17 (fun _ => nI (q + 1 + 1 + 1))) 17 (fun _ => nI q2)) 20 (fun _ => x)) 19 0 = chF v L (q + 1) - 48 := rfl
          have w20 : (vs (vs (vs (vs (vs (vs v0 17 (fun _ => nI (q + 1))) 19 (fun _ => chF v L (q + 1) - 48)) 17 (fun _ => nI (q + 1 + 1))) 17 (fun _ => nI (q + 1 + 1 + 1))) 17 (fun _ => nI q2)) 20 (fun _ => x)) 20 0 = x := rfl
          generalize (vs (vs (vs (vs (vs (vs v0 17 (fun _ => nI (q + 1))) 19 (fun _ => chF v L (q + 1) - 48)) 17 (fun _ => nI (q + 1 + 1))) 17 (fun _ => nI (q + 1 + 1 + 1))) 17 (fun _ => nI q2)) 20 (fun _ => x)) = u at *
          obtain ⟨r', v2', z1, z2, z3⟩ := tail43 (chF v L) wt wc w17 b2 w21 (chF v L (q + 1) - 48) x
          refine ⟨r', v2', z1, fun j hj => by rw [z2 j (by omega) (by omega), ot j hj], ?_⟩
          show (match o173 (chF v L) q2 43 (chF v L (q + 1) - 48) x with | .inl q2 => _ | .inr (q2, a, b, c) => _)
          cases hr : o173 (chF v L) q2 43 (chF v L (q + 1) - 48) x with
          | inl p => rw [hr] at z3; exact z3
          | inr p =>
            rw [hr] at z3
            obtain ⟨y1, y2, y3, y4, y5, y6⟩ := z3
            exact ⟨y1, y2, y3, by rw [z2 18 (by decide) (by decide), w18], fun _ => ⟨by rw [z2 19 (by decide) (by decide), w19, y4], by rw [z2 20 (by decide) (by decide), w20, y5], y6⟩, fun h => absurd h (by decide), fun h => absurd h (by decide)⟩
      · rw [if_neg d58, bd2_s, if_pos rfl, if_pos (show f_X7_in (chF v L (q + 1 + 1)) 58 58 = 0 from (in_one (c := 58) (by decide) (by decide)).mpr d58)]
        exact ⟨_, _, rfl, fun j hj => by rw [vs_o _ _ (by omega), vs_o _ _ (by omega), vs_o _ _ (by omega), o0 j hj], rfl, hq2, rfl⟩
end CO
