/-! ifSent. -/
section IFS
variable {v m : DV} {N w : Nat}
def alsoS (v : DV) (k : Nat) : DV := vs (vs v 11 (upd (v 11) k 1)) 13 (upd (v 13) k (heatS v k))
theorem alsoS_11 (v : DV) (k : Nat) : alsoS v k 11 = upd (v 11) k 1 := rfl
theorem alsoS_13 (v : DV) (k : Nat) : alsoS v k 13 = upd (v 13) k (heatS v k) := rfl
theorem alsoS_heat (v : DV) (k : Nat) : heatS (alsoS v k) = heatS v := by
  funext j
  by_cases q : j = k
  · subst q
    show (if alsoS v j 11 j = 1 then alsoS v j 13 j else _) = _
    rw [alsoS_11, alsoS_13, upd_s, upd_s, if_pos rfl]
  · show (if alsoS v k 11 j = 1 then alsoS v k 13 j else _) = _
    rw [alsoS_11, alsoS_13, upd_o _ _ q, upd_o _ _ q]
    rfl
theorem cntP_mono {p q : Nat → Bool} : ∀ {w : Nat} {b : Nat}, (∀ j, j < w → p j = true → q j = true) → cntP q w ≤ b → cntP p w ≤ b := by
  intro w b h hb
  refine Nat.le_trans ?_ hb
  have gen : ∀ r i a c, (∀ j, j < i + r → p j = true → q j = true) → a ≤ c → lp (fun j a => if p j then a + 1 else a) r i a ≤ lp (fun j a => if q j then a + 1 else a) r i c := by
    intro r
    induction r with
    | zero => intro i a c _ hac; exact hac
    | succ r ih =>
      intro i a c hh hac
      refine ih (i + 1) _ _ (fun j hj => hh j (by omega)) ?_
      show (if p i = true then a + 1 else a) ≤ (if q i = true then c + 1 else c)
      by_cases hp : p i = true
      · rw [if_pos hp, if_pos (hh i (by omega) hp)]; omega
      · rw [if_neg hp]
        by_cases hq : q i = true
        · rw [if_pos hq]; omega
        · rw [if_neg hq]; exact hac
  exact gen w 0 0 0 (fun j hj => h j (by omega)) (Nat.le_refl 0)
theorem alsoS_INV (hI : INV v N w) {k : Nat} (hk : k < w) : INV (alsoS v k) N w := by
  have hb := heatS_B hI hk
  obtain ⟨h1, h2, h3, h4, h5, h6⟩ := hI
  refine ⟨h1, h2, h3, fun j hj => ?_, fun d hd => ?_, h6⟩
  · obtain ⟨k1, k2, k3, k4, k5, k6⟩ := h4 j hj
    refine ⟨k1, k2, k3, ?_, ?_, ?_⟩
    · rcases k4 with e | ⟨i, hi, e, e2⟩
      · exact Or.inl e
      · refine Or.inr ⟨i, hi, e, ?_⟩
        rw [alsoS_11]
        by_cases q : i = k
        · subst q; rw [upd_s]
        · rw [upd_o _ _ q]; exact e2
    · rw [alsoS_11]
      by_cases q : j = k
      · subst q; rw [upd_s]; exact ⟨1, by decide, rfl⟩
      · rw [upd_o _ _ q]; exact k5
    · rw [alsoS_11, alsoS_13]
      by_cases q : j = k
      · subst q; rw [upd_s, upd_s]; exact fun _ => hb
      · rw [upd_o _ _ q, upd_o _ _ q]; exact k6
  · refine cntP_mono (fun j hj hp => ?_) (h5 d hd)
    unfold inDr at hp ⊢
    rw [alsoS_11] at hp
    rw [Bool.and_eq_true, decide_eq_true_iff, decide_eq_true_iff] at hp ⊢
    obtain ⟨p1, p2⟩ := hp
    refine ⟨p1, ?_⟩
    by_cases q : j = k
    · subst q; rw [upd_s] at p2; exact absurd p2 (by decide)
    · rw [upd_o _ _ q] at p2; exact p2
theorem ofLetter7 (hI : INV v N w) (hR : REL v (m 0) N w) {n k : Nat} (hk : k < w) : f_X7_ofLetter n m (nI k) 7 = bd1 (f_X7_findRegrets n m) (fun u => some (u 6 k, u)) := by
  have h30 := hI.1.2.2
  unfold f_X7_ofLetter
  have h10 : ¬ (1 : Int32) = 0 := by decide
  have a0 : ¬ (7 : Int32) = 0 := by decide
  have a1 : ¬ (7 : Int32) = 1 := by decide
  have a2 : ¬ (7 : Int32) = 2 := by decide
  have a3 : ¬ (7 : Int32) = 3 := by decide
  have a4 : ¬ (7 : Int32) = 4 := by decide
  have a5 : ¬ (7 : Int32) = 5 := by decide
  have a6 : ¬ (7 : Int32) = 6 := by decide
  rw [isLm_eq hI hR, isL_1 hI hk, bd1_s, if_neg h10, if_neg a0, if_neg a1, if_neg a2, if_neg a3, if_neg a4, if_neg a5, if_neg a6, if_pos rfl]
  simp only [ixb_nI (show k < 30 by omega) (by decide), ck_t, clq (show k < 2 ^ 31 by omega)]
theorem ifSent_eq (hI : INV v N w) (hR : REL v (m 0) N w) {n : Nat} (hn : 1000 ≤ n) (p1 p2 : Int32) : ∃ r v2 m2, f_X6_ifSent n v p1 p2 = some (r, v2) ∧ f_X7_ifSent n m p1 p2 = some (r, m2) ∧ (∀ j, j ≠ 14 → v2 j = v j) ∧ (∀ j, j < 240 → m2 0 j = m 0 j) ∧ ∀ i, i ≠ 0 → i ≠ 1 → i ≠ 6 → i ≠ 7 → m2 i = m i := by
  have h30 := hI.1.2.2
  have h10 : ¬ (1 : Int32) = 0 := by decide
  unfold f_X6_ifSent f_X7_ifSent
  rw [isLm_eq hI hR, isLm_eq hI hR]
  simp only [bd1_s]
  rcases isL_cases hI p1 with ⟨e, -⟩ | ⟨e, k, hk, rfl⟩
  · rw [e, if_pos rfl, if_pos rfl]
    exact ⟨_, _, _, rfl, rfl, fun _ _ => rfl, fun _ _ => rfl, fun _ _ _ _ _ => rfl⟩
  rw [e, if_neg h10, if_neg h10]
  rcases isL_cases hI p2 with ⟨e2, -⟩ | ⟨e2, k2, hk2, rfl⟩
  · rw [e2, if_pos rfl, if_pos rfl]
    exact ⟨_, _, _, rfl, rfl, fun _ _ => rfl, fun _ _ => rfl, fun _ _ _ _ _ => rfl⟩
  rw [e2, if_neg h10, if_neg h10]
  obtain ⟨-, -, -, a3, -, -, -⟩ := hR.2.2 k hk
  obtain ⟨b0, b1, b2, b3, b4, b5, b6⟩ := hR.2.2 k2 hk2
  simp only [ofL_3, ofL_6, ixb_nI (show 33 + 7 * k < 240 by omega) (by decide), ixb_nI (show 33 + 7 * k2 < 240 by omega) (by decide), ixb_nI (show 36 + 7 * k2 < 240 by omega) (by decide), ixb_nI (show k < 30 by omega) (by decide), ixb_nI (show k2 < 30 by omega) (by decide), ck_t, lt_s1, clq (show 33 + 7 * k < 2 ^ 31 by omega), clq (show 33 + 7 * k2 < 2 ^ 31 by omega), clq (show 36 + 7 * k2 < 2 ^ 31 by omega), clq (show k < 2 ^ 31 by omega), clq (show k2 < 2 ^ 31 by omega), a3, b3]
  by_cases q1 : v 11 k = 1
  · rw [if_pos q1, if_pos q1]
    by_cases q2 : v 11 k2 = 0
    · rw [if_pos q2, if_pos q2]
      obtain ⟨m1, c1, c2, c3⟩ := putAside_eq m (show 300 ≤ n by omega)
      rw [c1]
      simp only [bd1_s]
      have hR1 : REL v (m1 0) N w := by rw [c3 0 (by decide)]; exact hR
      rw [heat_eq hI hR1 (by have := hI.2.2.2.2.2; omega) hk2]
      simp only [bd1_s, vs_s, vs_vs]
      -- the row as if it were sent
      have hRu : REL (alsoS v k2) (upd (upd (m1 0) (36 + 7 * k2) (heatS v k2)) (33 + 7 * k2) 1) N w := by
        obtain ⟨⟨d0, d1, d2, d3, d4, d5⟩, hd, hl⟩ := hR1
        refine ⟨⟨?_, ?_, ?_, ?_, ?_, ?_⟩, fun d hd6 => ?_, fun j hj => ?_⟩
        · rw [upd_o _ _ (by omega), upd_o _ _ (by omega)]; exact d0
        · rw [upd_o _ _ (by omega), upd_o _ _ (by omega)]; exact d1
        · rw [upd_o _ _ (by omega), upd_o _ _ (by omega)]; exact d2
        · rw [upd_o _ _ (by omega), upd_o _ _ (by omega)]; exact d3
        · rw [upd_o _ _ (by omega), upd_o _ _ (by omega)]; exact d4
        · rw [upd_o _ _ (by omega), upd_o _ _ (by omega)]; exact d5
        · obtain ⟨f0, f1, f2, f3⟩ := hd d hd6
          refine ⟨?_, ?_, ?_, ?_⟩
          · rw [upd_o _ _ (by omega), upd_o _ _ (by omega)]; exact f0
          · rw [upd_o _ _ (by omega), upd_o _ _ (by omega)]; exact f1
          · rw [upd_o _ _ (by omega), upd_o _ _ (by omega)]; exact f2
          · rw [upd_o _ _ (by omega), upd_o _ _ (by omega)]; exact f3
        · obtain ⟨f0, f1, f2, f3, f4, f5, f6⟩ := hl j hj
          by_cases q : j = k2
          · subst q
            refine ⟨?_, ?_, ?_, ?_, ?_, ?_, ?_⟩
            · rw [upd_o _ _ (by omega), upd_o _ _ (by omega)]; exact f0
            · rw [upd_o _ _ (by omega), upd_o _ _ (by omega)]; exact f1
            · rw [upd_o _ _ (by omega), upd_o _ _ (by omega)]; exact f2
            · rw [upd_s, alsoS_11, upd_s]
            · rw [upd_o _ _ (by omega), upd_o _ _ (by omega)]; exact f4
            · rw [upd_o _ _ (by omega), upd_o _ _ (by omega)]; exact f5
            · rw [upd_o _ _ (by omega), upd_s, alsoS_13, upd_s]; exact fun _ => rfl
          · refine ⟨?_, ?_, ?_, ?_, ?_, ?_, ?_⟩
            · rw [upd_o _ _ (by omega), upd_o _ _ (by omega)]; exact f0
            · rw [upd_o _ _ (by omega), upd_o _ _ (by omega)]; exact f1
            · rw [upd_o _ _ (by omega), upd_o _ _ (by omega)]; exact f2
            · rw [upd_o _ _ (by omega), upd_o _ _ (by omega), alsoS_11, upd_o _ _ q]; exact f3
            · rw [upd_o _ _ (by omega), upd_o _ _ (by omega)]; exact f4
            · rw [upd_o _ _ (by omega), upd_o _ _ (by omega)]; exact f5
            · rw [upd_o _ _ (by omega), upd_o _ _ (by omega), alsoS_11, alsoS_13, upd_o _ _ q, upd_o _ _ q]; exact f6
      have hIu := alsoS_INV hI hk2
      generalize hm78 : vs m1 0 (upd (upd (m1 0) (36 + 7 * k2) (heatS v k2)) (33 + 7 * k2) 1) = m78
      have hR78 : REL (alsoS v k2) (m78 0) N w := by rw [← hm78, vs_s]; exact hRu
      rw [ofLetter7 hIu hR78 hk]
      obtain ⟨m3, G, R, f1, f2, f3, f4⟩ := findR_eq hIu hR78 (show 100 ≤ n by omega)
      rw [f1]
      simp only [bd1_s, bd2_s]
      obtain ⟨m4, g1, g2, g3⟩ := putBack_eq m3 (show 300 ≤ n by omega)
      rw [g1]
      simp only [bd1_s]
      have hS : ∀ j, j < w → (sentB (alsoS v k2) j = true ↔ (v 11 j = 1 ∨ nI j = nI k2)) := by
        intro j hj
        rw [sentB_iff, alsoS_11]
        by_cases q : j = k2
        · subst q; rw [upd_s]; exact ⟨fun _ => Or.inr rfl, fun _ => rfl⟩
        · rw [upd_o _ _ q]
          exact ⟨Or.inl, fun h => h.elim id (fun h => absurd ((nI_eq (by omega) (by omega)).mp h) q)⟩
      obtain ⟨c, k1, k3⟩ := workOut_eq hI (nI k2) _ hS (show 100 ≤ n by omega) G R f2
      unfold f_X5_withSent
      rw [k1]
      simp only [bd1_s, bd2_s, ixb_nI (show k < 30 by omega) (by decide), ck_t, clq (show k < 2 ^ 31 by omega), vs_s]
      have e6 : m3 6 k = c k := by
        rw [f3, k3 k (by omega), alsoS_heat]
        rfl
      rw [e6]
      refine ⟨_, _, _, rfl, rfl, fun j hj => mx_14 _ c hj, fun j hj => ?_, fun i i0 i1 i6 i7 => ?_⟩
      · rw [g2 j hj, f4 1 (by decide) (by decide), ← hm78, vs_o _ _ (show (1 : Nat) ≠ 0 by decide), c2 j hj]
      · rw [g3 i i0, f4 i i6 i7, ← hm78, vs_o _ _ i0, c3 i i1]
    · rw [if_neg q2, if_neg q2]
      exact ⟨_, _, _, rfl, rfl, fun _ _ => rfl, fun _ _ => rfl, fun _ _ _ _ _ => rfl⟩
  · rw [if_neg q1, if_neg q1]
    exact ⟨_, _, _, rfl, rfl, fun _ _ => rfl, fun _ _ => rfl, fun _ _ _ _ _ => rfl⟩
end IFS
