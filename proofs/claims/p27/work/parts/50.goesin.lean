/-! goesIn. -/
section GI
variable {v : DV} {N w : Nat}
def t0F (v : DV) (N k p : Nat) : Nat := (if N < rdy v k * 24 then rdy v k * 24 else N) + (p + 24 - (if N < rdy v k * 24 then rdy v k * 24 else N) % 24) % 24 - N
def fstF (v : DV) (N k p : Nat) : Option Nat := if lockB v (tn (v 7 k)) N (t0F v N k p + 1) = 0 then some (t0F v N k p) else if lockB v (tn (v 7 k)) N (t0F v N k p + 24 + 1) = 0 then some (t0F v N k p + 24) else none
theorem goesT_iff {k p t : Nat} (hp : p < 24) : goesT v (nI p) N k t = true ↔ (∃ j, t = t0F v N k p + 24 * j) ∧ lockB v (tn (v 7 k)) N (t + 1) = 0 := by
  unfold goesT
  rw [Bool.and_eq_true, Bool.and_eq_true, decide_eq_true_iff, decide_eq_true_iff, decide_eq_true_iff]
  have e : (nI ((N + t) % 24) = nI p ∧ rdy v k ≤ (N + t) / 24) ↔ ∃ j, t = t0F v N k p + 24 * j := by
    rw [nI_eq (by omega) (by omega)]
    unfold t0F
    generalize rdy v k = R
    constructor
    · rintro ⟨h1, h2⟩
      refine ⟨(t - ((if N < R * 24 then R * 24 else N) + (p + 24 - (if N < R * 24 then R * 24 else N) % 24) % 24 - N)) / 24, ?_⟩
      split <;> omega
    · rintro ⟨j, rfl⟩
      split <;> omega
  rw [← e]
  constructor
  · rintro ⟨a, b, c⟩; exact ⟨⟨a, c⟩, b⟩
  · rintro ⟨⟨a, c⟩, b⟩; exact ⟨a, b, c⟩
theorem sentBy_iff (P : Int32) (k : Nat) : ∀ t, sentBy v P N k t = true ↔ ∃ s, s < t ∧ goesT v P N k s = true
  | 0 => ⟨fun h => (Bool.false_ne_true h).elim, fun ⟨s, h, _⟩ => absurd h (Nat.not_lt_zero s)⟩
  | t + 1 => by
    show (sentBy v P N k t || goesT v P N k t) = true ↔ _
    rw [Bool.or_eq_true, sentBy_iff P k t]
    constructor
    · rintro (⟨s, h1, h2⟩ | h)
      · exact ⟨s, by omega, h2⟩
      · exact ⟨t, by omega, h⟩
    · rintro ⟨s, h1, h2⟩
      by_cases q : s = t
      · subst q; exact Or.inr h2
      · exact Or.inl ⟨s, by omega, h2⟩
theorem sentBy_fst (hI : INV v N w) {k p : Nat} (hk : k < w) (hp : p < 24) (t : Nat) : sentBy v (nI p) N k t = true ↔ ∃ f, fstF v N k p = some f ∧ f < t := by
  have hd : tn (v 7 k) < 6 := by have := (hI.let hk).1.2; omega
  rw [sentBy_iff]
  unfold fstF
  constructor
  · rintro ⟨s, hs, hg⟩
    obtain ⟨⟨j, rfl⟩, hl⟩ := (goesT_iff hp).mp hg
    by_cases q : lockB v (tn (v 7 k)) N (t0F v N k p + 1) = 0
    · rw [if_pos q]; exact ⟨_, rfl, by omega⟩
    · rw [if_neg q]
      cases j with
      | zero => exact absurd hl q
      | succ j =>
        rw [show t0F v N k p + 24 * (j + 1) + 1 = (t0F v N k p + 24) + 24 * j + 1 by omega, lock_days hI hd (by omega)] at hl
        rw [if_pos hl]; exact ⟨_, rfl, by omega⟩
  · rintro ⟨f, hf, hft⟩
    by_cases q : lockB v (tn (v 7 k)) N (t0F v N k p + 1) = 0
    · rw [if_pos q] at hf
      cases hf
      exact ⟨_, hft, (goesT_iff hp).mpr ⟨⟨0, rfl⟩, q⟩⟩
    · rw [if_neg q] at hf
      by_cases q2 : lockB v (tn (v 7 k)) N (t0F v N k p + 24 + 1) = 0
      · rw [if_pos q2] at hf
        cases hf
        exact ⟨_, hft, (goesT_iff hp).mpr ⟨⟨1, rfl⟩, q2⟩⟩
      · rw [if_neg q2] at hf
        cases hf
theorem rdyLe (hI : INV v N w) (hN : N < 24000) {k : Nat} (hk : k < w) : rdy v k ≤ 1000000 := by
  obtain ⟨⟨-, a⟩, ⟨-, b⟩, ⟨-, c⟩⟩ := hI.let hk
  exact rdyN_le b (hI.dr (show tn (v 7 k) < 6 by omega)).1.2 c (by omega)
theorem till_eq (hI : INV v N w) (hN : N < 24000) {k p X n : Nat} (hk : k < w) (hp : p < 24) (hX : X ≤ 1200) (hn : 10 ≤ n) : f_X0_hoursTillSent n v (nI k) (nI p) (nI X) = some (match fstF v N k p with | some f => if f < X then nI (f + 1) else -6 | none => -6) := by
  have h30 := hI.1.2.2
  have hR := rdyLe hI hN hk
  obtain ⟨⟨e7, d7⟩, -, -⟩ := hI.let hk
  have hd : tn (v 7 k) < 6 := by omega
  have hloc : ∀ t, N + t < 2 ^ 30 → f_X1_isLockedAt v (v 7 k) (nI N) (nI (N + t)) = some (if lockB v (tn (v 7 k)) N (t + 1) = 0 then 0 else 1) := by
    intro t h
    have := isLocked_eq hI hd h
    rw [← e7] at this
    exact this
  have hm : f_X6_isMood (v 7 k) = 1 := by
    rcases isMood_cases (v 7 k) with ⟨-, ne⟩ | ⟨e, -⟩
    · exact absurd ⟨tn (v 7 k), hd, e7⟩ ne
    · exact e
  have hS : (if nI N < nI (rdy v k) * 24 then nI (rdy v k) * 24 else nI N) = nI (if N < rdy v k * 24 then rdy v k * 24 else N) := by
    rw [show (24 : Int32) = nI 24 from rfl, pk_mul]
    by_cases q : N < rdy v k * 24
    · rw [if_pos (nI_lt q (by omega)), if_pos q]
    · rw [if_neg (nI_nlt (by omega) (by omega)), if_neg q]
  unfold f_X0_hoursTillSent
  simp only [ixb_nI (show k < 30 by omega) (by decide), ck_t, clq (show k < 2 ^ 31 by omega)]
  rw [hm, if_neg (show ¬ (1 : Int32) = 0 by decide), readyDay_eq hI hk, bd1_s, hI.1.1, hS]
  have hSle : (if N < rdy v k * 24 then rdy v k * 24 else N) ≤ 24000000 := by split <;> omega
  have hSge : N ≤ (if N < rdy v k * 24 then rdy v k * 24 else N) := by split <;> omega
  have ht0 : t0F v N k p = (if N < rdy v k * 24 then rdy v k * 24 else N) + (p + 24 - (if N < rdy v k * 24 then rdy v k * 24 else N) % 24) % 24 - N := rfl
  generalize (if N < rdy v k * 24 then rdy v k * 24 else N) = S at *
  rw [floorMod_sub (by omega) (by omega), bd1_s, nI_add, show S + (p + 24 - S % 24) % 24 = N + t0F v N k p by omega]
  have hf : fstF v N k p = if lockB v (tn (v 7 k)) N (t0F v N k p + 1) = 0 then some (t0F v N k p) else if lockB v (tn (v 7 k)) N (t0F v N k p + 24 + 1) = 0 then some (t0F v N k p + 24) else none := rfl
  have ht0le : t0F v N k p ≤ 24000024 := by omega
  generalize t0F v N k p = t at *
  obtain ⟨n, rfl⟩ := up1 (show 0 < n by omega)
  have h10 : ¬ (1 : Int32) = 0 := by decide
  have h20 : ¬ (2 : Int32) ≤ 0 := by decide
  have h21 : ¬ (2 : Int32) ≤ 0 + 1 := by decide
  have h22 : (2 : Int32) ≤ 0 + 1 + 1 := by decide
  rw [f_X0_hoursTillSent_L58, if_neg h20, hI.1.1, nI_subn (by omega), show N + t - N = t by omega]
  by_cases q1 : t < X
  · rw [if_pos (nI_lt q1 (by omega)), hloc t (by omega), bd1_s]
    by_cases q2 : lockB v (tn (v 7 k)) N (t + 1) = 0
    · rw [if_pos q2] at hf
      rw [if_pos q2, if_pos rfl, nI_1, hf]
      simp only [if_pos q1]
    · rw [if_neg q2] at hf
      rw [if_neg q2, if_neg h10]
      obtain ⟨n, rfl⟩ := up1 (show 0 < n by omega)
      rw [f_X0_hoursTillSent_L58, if_neg h21, hI.1.1, show (24 : Int32) = nI 24 from rfl, nI_add, nI_subn (by omega), show N + t + 24 - N = t + 24 by omega]
      by_cases q3 : t + 24 < X
      · rw [if_pos (nI_lt q3 (by omega)), Nat.add_assoc, hloc (t + 24) (by omega), bd1_s]
        by_cases q4 : lockB v (tn (v 7 k)) N (t + 24 + 1) = 0
        · rw [if_pos q4] at hf
          rw [if_pos q4, if_pos rfl, nI_1, hf]
          simp only [if_pos q3]
        · rw [if_neg q4] at hf
          rw [if_neg q4, if_neg h10, hf]
          obtain ⟨n, rfl⟩ := up1 (show 0 < n by omega)
          rw [f_X0_hoursTillSent_L58, if_pos h22]
      · rw [if_neg (nI_nlt (by omega) (by omega)), hf]
        by_cases q4 : lockB v (tn (v 7 k)) N (t + 24 + 1) = 0
        · rw [if_pos q4]; simp only [if_neg q3]
        · rw [if_neg q4]
  · rw [if_neg (nI_nlt (by omega) (by omega)), hf]
    by_cases q2 : lockB v (tn (v 7 k)) N (t + 1) = 0
    · rw [if_pos q2]; simp only [if_neg q1]
    · rw [if_neg q2]
      by_cases q4 : lockB v (tn (v 7 k)) N (t + 24 + 1) = 0
      · rw [if_pos q4]; simp only [if_neg (show ¬ t + 24 < X by omega)]
      · rw [if_neg q4]
theorem ST_0 {m : DV} (hI : INV v N w) (hR : REL v (m 0) N w) : ST v (v 2 0) N w 0 v m := by
  refine ⟨hI, hR, rfl, rfl, rfl, fun _ _ => rfl, fun _ _ => rfl, fun k _ => ?_⟩
  rw [if_neg (fun h => Bool.false_ne_true h.2)]
/-- the reference looks hour by hour -/
theorem goesIn_L33 {P : Int32} {k : Nat} (hk : k < w) (h0 : v 11 k = 0) (hN : N < 24000) : ∀ (r t n : Nat) (m vt : DV), t + r = 1200 → r + 500 ≤ n → ST v P N w t vt m → ∃ T m2 n2, t ≤ T ∧ T ≤ 1200 ∧ 400 ≤ n2 ∧ (∀ s, t ≤ s → s < T → sentBy v P N k s = false) ∧ ((sentBy v P N k T = true ∧ f_X7_goesIn_L33 n m (nI k) (nI t) = f_X7_goesIn_J82 n2 m2 (nI T) 1) ∨ (sentBy v P N k T = false ∧ T = 1200 ∧ f_X7_goesIn_L33 n m (nI k) (nI t) = f_X7_goesIn_J82 n2 m2 (nI T) 0)) ∧ ∀ q, q ≠ 0 → m2 q = m q := by
  have h10 : ¬ (1 : Int32) = 0 := by decide
  have h01 : ¬ (0 : Int32) = 1 := by decide
  intro r
  induction r with
  | zero =>
    intro t n m vt ht hn hS
    obtain ⟨n, rfl⟩ := up1 (show 0 < n by omega)
    obtain ⟨hI, hR, -, -, -, -, -, h11⟩ := hS
    have h30 := hI.1.2.2
    have : t = 1200 := by omega
    subst this
    rw [f_X7_goesIn_L33, if_pos (by decide)]
    unfold f_X7_goesIn_J63
    simp only [ofL_3, ixb_nI (show 33 + 7 * k < 240 by omega) (by decide), ck_t, clq (show 33 + 7 * k < 2 ^ 31 by omega), (hR.2.2 k hk).2.2.2.1, h11 k hk, h0]
    refine ⟨1200, m, n, Nat.le_refl _, Nat.le_refl _, by omega, fun s h1 h2 => absurd h2 (by omega), ?_, fun _ _ => rfl⟩
    cases hb : sentBy v P N k 1200 with
    | true => exact Or.inl ⟨rfl, by simp⟩
    | false => exact Or.inr ⟨rfl, rfl, by simp [h01]⟩
  | succ r ih =>
    intro t n m vt ht hn hS
    obtain ⟨n, rfl⟩ := up1 (show 0 < n by omega)
    obtain ⟨hI, hR, -, -, -, -, -, h11⟩ := id hS
    have h30 := hI.1.2.2
    rw [f_X7_goesIn_L33, if_neg (show ¬ (1200 : Int32) ≤ nI t from nI_ge (a := t) (b := 1200) (by omega) (by decide))]
    unfold f_X7_goesIn_J63
    simp only [ofL_3, ixb_nI (show 33 + 7 * k < 240 by omega) (by decide), ck_t, clq (show 33 + 7 * k < 2 ^ 31 by omega), (hR.2.2 k hk).2.2.2.1, h11 k hk, h0, nI_1]
    cases hb : sentBy v P N k t with
    | true =>
      refine ⟨t, m, n, Nat.le_refl _, by omega, by omega, fun s h1 h2 => absurd h2 (by omega), Or.inl ⟨hb, by simp [h10]⟩, fun _ _ => rfl⟩
    | false =>
      obtain ⟨v2, m2, a1, a2, a3⟩ := ST_step hS (by omega) (show 200 ≤ n by omega)
      obtain ⟨T, m3, n2, b1, b2, b3, b4, b5, b6⟩ := ih (t + 1) n m2 v2 (by omega) (by omega) a2
      have c : ¬ (True ∧ false = true) := fun h => Bool.false_ne_true h.2
      rw [if_neg c, if_pos (show (0 : Int32) = 0 from rfl), a1, bd1_s]
      refine ⟨T, m3, n2, by omega, b2, b3, fun s h1 h2 => ?_, ?_, fun q hq => by rw [b6 q hq, a3 q hq]⟩
      · by_cases q : s = t
        · subst q; exact hb
        · exact b4 s (by omega) h2
      · exact b5
theorem goesIn_eq {m : DV} (hI : INV v N w) (hN : N < 24000) (hR : REL v (m 0) N w) {n n' : Nat} (hn : 1000 ≤ n) (hn' : 2000 ≤ n') (p1 : Int32) : ∃ r m2, f_X6_goesIn n v p1 = some r ∧ f_X7_goesIn n' m p1 = some (r, m2) ∧ (∀ j, j < 240 → m2 0 j = m 0 j) ∧ ∀ i, i ≠ 0 → i ≠ 1 → m2 i = m i := by
  have h30 := hI.1.2.2
  have h10 : ¬ (1 : Int32) = 0 := by decide
  unfold f_X6_goesIn f_X7_goesIn
  rw [isLm_eq hI hR, bd1_s]
  rcases isL_cases hI p1 with ⟨e, -⟩ | ⟨e, k, hk, rfl⟩
  · rw [e, if_pos rfl, if_pos rfl]
    exact ⟨_, _, rfl, rfl, fun _ _ => rfl, fun _ _ _ => rfl⟩
  rw [e, if_neg h10, if_neg h10]
  simp only [ofL_3, ixb_nI (show 33 + 7 * k < 240 by omega) (by decide), ixb_nI (show k < 30 by omega) (by decide), ck_t, clq (show 33 + 7 * k < 2 ^ 31 by omega), clq (show k < 2 ^ 31 by omega), (hR.2.2 k hk).2.2.2.1]
  by_cases q2 : v 11 k = 2
  · rw [if_pos q2, if_pos q2]
    exact ⟨_, _, rfl, rfl, fun _ _ => rfl, fun _ _ _ => rfl⟩
  rw [if_neg q2, if_neg q2]
  obtain ⟨m1, c1, c2, c3⟩ := putAside_eq m (show 300 ≤ n' by omega)
  rw [c1, bd1_s]
  have hR1 : REL v (m1 0) N w := by rw [c3 0 (by decide)]; exact hR
  -- behind the hours the row comes back
  have back : ∀ (m2 : DV) (n2 : Nat) (x z : Int32), 400 ≤ n2 → (∀ q, q ≠ 0 → m2 q = m1 q) → ∃ m3, f_X7_goesIn_J82 n2 m2 x z = some (if z = 0 then -6 else x, m3) ∧ (∀ j, j < 240 → m3 0 j = m 0 j) ∧ ∀ i, i ≠ 0 → i ≠ 1 → m3 i = m i := by
    intro m2 n2 x z h2 hm
    obtain ⟨m3, g1, g2, g3⟩ := putBack_eq m2 (show 300 ≤ n2 by omega)
    unfold f_X7_goesIn_J82
    rw [g1, bd1_s]
    refine ⟨m3, by split <;> rfl, fun j hj => by rw [g2 j hj, hm 1 (by decide), c2 j hj], fun i i0 i1 => by rw [g3 i i0, hm i i0, c3 i i1]⟩
  by_cases q1 : v 11 k = 1
  · rw [if_pos q1]
    obtain ⟨n', rfl⟩ := up1 (show 0 < n' by omega)
    have hs : (m1 0) (33 + 7 * k) = 1 := by rw [(hR1.2.2 k hk).2.2.2.1, q1]
    rw [f_X7_goesIn_L33, if_neg (by decide)]
    unfold f_X7_goesIn_J63
    simp only [ofL_3, ixb_nI (show 33 + 7 * k < 240 by omega) (by decide), ck_t, clq (show 33 + 7 * k < 2 ^ 31 by omega), hs, if_neg h10, if_true]
    obtain ⟨m3, g1, g2, g3⟩ := back m1 n' 0 1 (by omega) (fun _ _ => rfl)
    rw [g1, if_neg h10]
    exact ⟨_, m3, rfl, rfl, g2, g3⟩
  rw [if_neg q1]
  have q0 : v 11 k = 0 := by
    obtain ⟨j, hj, e⟩ := (hI.2.2.2.1 k hk).2.2.2.2.1
    rw [e] at q1 q2 ⊢
    have : j ≠ 1 := fun h => q1 (by rw [h]; rfl)
    have : j ≠ 2 := fun h => q2 (by rw [h]; rfl)
    have : j = 0 := by omega
    rw [this]; rfl
  obtain ⟨⟨ep, hp⟩, -, -⟩ := hI.st
  obtain ⟨T, m2, n2, -, b2, b3, b4, b5, b6⟩ := goesIn_L33 hk q0 hN 1200 0 n' m1 v (by omega) (by omega) (ST_0 hI hR1)
  rw [cl_0]
  have ht := till_eq hI hN hk (show tn (v 2 0) < 24 by omega) (show 1200 ≤ 1200 by omega) (show 10 ≤ n by omega)
  have hsb := fun t => sentBy_fst hI hk (show tn (v 2 0) < 24 by omega) t
  rw [← ep] at ht hsb
  rw [show f_X0_hoursTillSent n v (nI k) (v 2 0) 1200 = _ from ht, bd1_s]
  rcases b5 with ⟨s1, s2⟩ | ⟨s1, s2, s3⟩
  · obtain ⟨f, f1, f2⟩ := (hsb T).mp s1
    have hT : T = f + 1 := by
      by_cases q : f + 1 < T
      · have := (hsb (f + 1)).mpr ⟨f, f1, by omega⟩
        rw [b4 (f + 1) (by omega) q] at this
        exact absurd this (by decide)
      · omega
    obtain ⟨m3, g1, g2, g3⟩ := back m2 n2 (nI T) 1 b3 b6
    rw [show f_X7_goesIn_L33 n' m1 (nI k) 0 = _ from s2, g1, if_neg h10, f1]
    simp only [if_pos (show f < 1200 by omega)]
    rw [hT]
    exact ⟨_, m3, rfl, rfl, g2, g3⟩
  · obtain ⟨m3, g1, g2, g3⟩ := back m2 n2 (nI T) 0 b3 b6
    rw [show f_X7_goesIn_L33 n' m1 (nI k) 0 = _ from s3, g1, if_pos rfl]
    refine ⟨-6, m3, ?_, rfl, g2, g3⟩
    cases hf : fstF v N k (tn (v 2 0)) with
    | none => rfl
    | some f =>
      by_cases q : f < 1200
      · have := (hsb T).mpr ⟨f, hf, by omega⟩
        rw [s1] at this
        exact absurd this (by decide)
      · simp only [if_neg q]
end GI
