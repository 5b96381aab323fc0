/-! Hours to come, the desk alone. -/
/-- the state t hours on, if nothing else is done -/
def STc (v0 : DV) (N w t : Nat) (v : DV) : Prop :=
  GD v (N + t) w ∧ (∀ j, j < 14 → j ≠ 0 → j ≠ 4 → j ≠ 11 → j ≠ 12 → j ≠ 13 → v j = v0 j) ∧ (∀ d, d < 6 → v 4 d = lockB v0 d N t) ∧
  (∀ k, k < w → v 11 k = if v0 11 k = 0 ∧ sentBy v0 (v0 2 0) N k t = true then 1 else v0 11 k) ∧
  (∀ k, k < w → v0 11 k = 0 → v 11 k = 1 → tn (v 13 k) ≤ tn (v0 2 1))
theorem STc_0 {v : DV} {N w : Nat} (h : GD v N w) : STc v N w 0 v := by
  refine ⟨h, fun _ _ _ _ _ _ _ => rfl, fun _ _ => rfl, fun k _ => ?_, fun k _ h0 h1 => ?_⟩
  · rw [if_neg (fun h => Bool.false_ne_true h.2)]
  · rw [h0] at h1; exact absurd h1 (by decide)
theorem STc_eq {v0 v u : DV} {N w t : Nat} (h : STc v0 N w t v) (e : ∀ j, j < 14 → u j = v j) : STc v0 N w t u := by
  obtain ⟨a, b, c, d, f⟩ := h
  refine ⟨GD_deq a (DEQ_of e), fun j h14 h0 h4 h11 h12 h13 => by rw [e j h14]; exact b j h14 h0 h4 h11 h12 h13, fun d hd => by rw [e 4 (by decide)]; exact c d hd, fun k hk => by rw [e 11 (by decide)]; exact d k hk, fun k hk => by rw [e 11 (by decide), e 13 (by decide)]; exact f k hk⟩
section PC
variable {v0 v : DV} {N w : Nat}
theorem STc_step {t : Nat} (h : STc v0 N w t v) (hN : N + t + 1 < 24000) {n : Nat} (hn : 200 ≤ n) : ∃ v2 c, (∀ x1 x2 x3, ¬ x1 ≤ x3 → f_X0_passHours_L37 (n + 1) v x1 x2 x3 = f_X0_passHours_L37 n v2 x1 (x2 + nI c) (x3 + 1)) ∧ STc v0 N w (t + 1) v2 ∧ cntP (isP v2 1) w = cntP (isP v 1) w + c ∧ ∀ j, 14 ≤ j → v2 j = v j := by
  obtain ⟨hG, hs, hl, hk, hq⟩ := h
  have hI := hG.1
  obtain ⟨v2, c, a1, a3, a5, a7, a8, a9⟩ := hour_c hI (by omega) hn
  have hG2 := hour_GD hG hN a3 a7 a9
  have e2 : v 2 = v0 2 := hs 2 (by decide) (by decide) (by decide) (by decide) (by decide) (by decide)
  have ev : ∀ j, j = 2 ∨ j = 3 ∨ j = 5 ∨ j = 6 ∨ j = 7 ∨ j = 8 ∨ j = 9 → v j = v0 j := fun j hj => hs j (by omega) (by omega) (by omega) (by omega) (by omega) (by omega)
  have ekey : ∀ d, d < 6 → keyS v (nI ((N + t) % 24)) d = lockB v0 d N (t + 1) := by
    intro d hd
    show (if v 6 d = _ then (1 : Int32) else if v 5 d = _ then 0 else v 4 d) = keyR (v0 5 d) (v0 6 d) (nI ((N + t) % 24)) (lockB v0 d N t)
    rw [ev 6 (by omega), ev 5 (by omega), hl d hd]
    rfl
  have egt : ∀ k, k < w → (GO v (N + t) k ↔ v 11 k = 0 ∧ goesT v0 (v0 2 0) N k t = true) := by
    intro k hkw
    have hd := (hI.let hkw).1.2
    unfold GO goesT
    rw [Bool.and_eq_true, Bool.and_eq_true, decide_eq_true_iff, decide_eq_true_iff, decide_eq_true_iff, ekey _ (by omega), rdy_same (v0 := v0) (by rw [e2]) (by rw [e2]) (ev 3 (by omega)) (ev 7 (by omega)) (ev 8 (by omega)) (ev 9 (by omega)), e2, ev 7 (by omega)]
    exact ⟨fun h => ⟨h.2.1, h.1, h.2.2⟩, fun h => ⟨h.2.1, h.1, h.2.2⟩⟩
  refine ⟨v2, c, a1, ⟨hG2, fun j h14 h0 h4 h11 h12 h13 => by rw [a7 j h0 h4 h11 h12 h13]; exact hs j h14 h0 h4 h11 h12 h13, fun d hd => by rw [a8 d hd, ekey d hd], fun k hkw => ?_, fun k hkw h0 h1 => ?_⟩, a5, fun j hj => a7 j (by omega) (by omega) (by omega) (by omega) (by omega)⟩
  · have es : sentBy v0 (v0 2 0) N k (t + 1) = true ↔ sentBy v0 (v0 2 0) N k t = true ∨ goesT v0 (v0 2 0) N k t = true := by
      show (sentBy v0 (v0 2 0) N k t || goesT v0 (v0 2 0) N k t) = true ↔ _
      rw [Bool.or_eq_true]
    obtain ⟨b1, b2⟩ := a9 k hkw
    have hk0 := hk k hkw
    by_cases q : GO v (N + t) k
    · obtain ⟨g0, g1⟩ := (egt k hkw).mp q
      rw [(b1 q).1]
      have z0 : v0 11 k = 0 := by
        rw [g0] at hk0
        by_cases z : v0 11 k = 0 ∧ sentBy v0 (v0 2 0) N k t = true
        · rw [if_pos z] at hk0; exact absurd hk0 (by decide)
        · rw [if_neg z] at hk0; exact hk0.symm
      rw [if_pos ⟨z0, es.mpr (Or.inr g1)⟩]
    · rw [(b2 q).1, hk0]
      by_cases z : v0 11 k = 0 ∧ sentBy v0 (v0 2 0) N k t = true
      · rw [if_pos z, if_pos ⟨z.1, es.mpr (Or.inl z.2)⟩]
      · rw [if_neg z]
        rw [if_neg z] at hk0
        rw [if_neg]
        rintro ⟨y1, y2⟩
        rcases es.mp y2 with y | y
        · exact z ⟨y1, y⟩
        · exact q ((egt k hkw).mpr ⟨by rw [hk0, y1], y⟩)
  · obtain ⟨b1, b2⟩ := a9 k hkw
    by_cases q : GO v (N + t) k
    · rw [(b1 q).2.2, ← e2]
      exact (go_cool hI hkw q).1
    · obtain ⟨c1, c2, c3⟩ := b2 q
      rw [c3]
      exact hq k hkw h0 (by rw [← c1]; exact h1)
theorem pass_c (p A : Nat) (hp : p ≤ 240) : ∀ (r i n t s : Nat) (v : DV), i + r = p → r + 300 ≤ n → STc v0 N w t v → N + t + r < 24000 → cntP (isP v 1) w = A + s → ∃ v2 s2, f_X0_passHours_L37 n v (nI p) (nI s) (nI i) = some (nI s2, v2) ∧ STc v0 N w (t + r) v2 ∧ cntP (isP v2 1) w = A + s2 ∧ ∀ j, 14 ≤ j → v2 j = v j
  | 0, i, n, t, s, v, hi, hn, hS, hN, hA => by
    obtain ⟨n, rfl⟩ := up1 (show 0 < n by omega)
    rw [f_X0_passHours_L37, if_pos (nI_le (by omega) (by omega))]
    exact ⟨v, s, rfl, hS, hA, fun _ _ => rfl⟩
  | r + 1, i, n, t, s, v, hi, hn, hS, hN, hA => by
    obtain ⟨n, rfl⟩ := up1 (show 0 < n by omega)
    obtain ⟨v2, c, a1, a3, a5, a6⟩ := STc_step hS (by omega) (show 200 ≤ n by omega)
    rw [a1 _ _ _ (nI_ge (by omega) (by omega)), nI_add, nI_1]
    obtain ⟨v3, s3, b1, b3, b5, b6⟩ := pass_c p A hp r (i + 1) n (t + 1) (s + c) v2 (by omega) (by omega) a3 (by omega) (by rw [a5, hA]; omega)
    exact ⟨v3, s3, b1, by rw [show t + (r + 1) = t + 1 + r by omega]; exact b3, b5, fun j hj => by rw [b6 j hj, a6 j hj]⟩
/-- p hours pass: so many letters go -/
theorem passes_c {p n t : Nat} (hp1 : 1 ≤ p) (hp : p ≤ 240) (hn : 1000 ≤ n) (hS : STc v0 N w t v) (hN : N + t + p < 24000) : ∃ v2 s, f_X0_passHours n v (nI p) = some (nI s, v2) ∧ STc v0 N w (t + p) v2 ∧ cntP (isP v2 1) w = cntP (isP v 1) w + s ∧ s ≤ 30 ∧ ∀ j, 14 ≤ j → v2 j = v j := by
  have hI := hS.1.1
  have h30 := hI.1.2.2
  obtain ⟨v2, s, a1, a2, a3, a4⟩ := pass_c (v0 := v0) (N := N) (w := w) p (cntP (isP v 1) w) hp p 0 n t 0 v (by omega) (by omega) hS (by omega) rfl
  refine ⟨v2, s, ?_, a2, a3, by have := cntP_le (isP v2 1) w; omega, a4⟩
  unfold f_X0_passHours
  rw [if_neg (show ¬ nI p < 1 from nI_nlt (b := 1) (a := p) hp1 (by omega)), if_pos (show nI p ≤ 240 from nI_le (b := 240) hp (by decide)), hI.1.1, nI_add, show (24 : Int32) = nI 24 from rfl, pk_div (d := 24) (by omega) (by decide) (by decide), if_pos (show nI ((N + t + p) / 24) ≤ 999 from nI_le (b := 999) (by omega) (by decide))]
  exact a1
/-- how many go, by what is told of hours to come -/
theorem STc_cnt {t : Nat} (h : STc v0 N w t v) : cntP (isP v 1) w = cntP (isP v0 1) w + cntP (willGo v0 (v0 2 0) N t) w := by
  obtain ⟨-, -, -, h11, -⟩ := h
  refine cntP_or (fun j hj => ?_)
  unfold isP willGo
  rw [h11 j hj]
  by_cases q0 : v0 11 j = 0
  · rw [q0]
    cases hs : sentBy v0 (v0 2 0) N j t <;> decide
  · rw [if_neg (fun h => q0 h.1), decide_eq_false q0]
    simp
end PC
