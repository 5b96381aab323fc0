/-! Hours to come: the keys' state and the letters that go, hour by hour. -/
def keyR (u l h x : Int32) : Int32 := if l = h then 1 else if u = h then 0 else x
def lockB (v : DV) (d N : Nat) : Nat → Int32
  | 0 => v 4 d
  | t + 1 => keyR (v 5 d) (v 6 d) (nI ((N + t) % 24)) (lockB v d N t)
def goesT (v : DV) (P : Int32) (N k t : Nat) : Bool := decide (nI ((N + t) % 24) = P) && (decide (lockB v (tn (v 7 k)) N (t + 1) = 0) && decide (rdy v k ≤ (N + t) / 24))
def sentBy (v : DV) (P : Int32) (N k : Nat) : Nat → Bool
  | 0 => false
  | t + 1 => sentBy v P N k t || goesT v P N k t
/-- the state t hours on -/
def ST (v0 : DV) (P : Int32) (N w t : Nat) (v m : DV) : Prop :=
  INV v (N + t) w ∧ REL v (m 0) (N + t) w ∧ v 2 0 = P ∧ v 2 1 = v0 2 1 ∧ v 2 2 = v0 2 2 ∧ (∀ j, j = 3 ∨ j = 5 ∨ j = 6 ∨ j = 7 ∨ j = 8 ∨ j = 9 → v j = v0 j) ∧
  (∀ d, d < 6 → v 4 d = lockB v0 d N t) ∧ (∀ k, k < w → v 11 k = if v0 11 k = 0 ∧ sentBy v0 P N k t = true then 1 else v0 11 k)
theorem rdy_same {v v0 : DV} {k : Nat} (h1 : v 2 1 = v0 2 1) (h2 : v 2 2 = v0 2 2) (h3 : v 3 = v0 3) (h7 : v 7 = v0 7) (h8 : v 8 = v0 8) (h9 : v 9 = v0 9) : rdy v k = rdy v0 k := by
  unfold rdy; rw [h1, h2, h3, h7, h8, h9]
theorem ST_step {v0 v m : DV} {P : Int32} {N w t : Nat} (h : ST v0 P N w t v m) (hN : N + t + 1 < 100000) {n : Nat} (hn : 200 ≤ n) : ∃ v2 m2, f_X7_hour n m = some m2 ∧ ST v0 P N w (t + 1) v2 m2 ∧ ∀ q, q ≠ 0 → m2 q = m q := by
  obtain ⟨hI, hR, hp, h21, h22, hs, hl, hk⟩ := h
  obtain ⟨v2, m2, c, -, a2, a3, a4, -, a6, a7, a8, a9⟩ := hour_eq hI hR hN (show 200 ≤ 200 by omega) hn
  have e2 : v2 2 = v 2 := a7 2 (by decide) (by decide) (by decide) (by decide) (by decide)
  refine ⟨v2, m2, a2, ⟨a3, a4, by rw [e2, hp], by rw [e2, h21], by rw [e2, h22], fun j hj => ?_, fun d hd => ?_, fun k hkw => ?_⟩, a6⟩
  · rw [a7 j (by omega) (by omega) (by omega) (by omega) (by omega), hs j hj]
  · rw [a8 d hd]
    show (if v 6 d = _ then (1 : Int32) else if v 5 d = _ then 0 else v 4 d) = keyR (v0 5 d) (v0 6 d) (nI ((N + t) % 24)) (lockB v0 d N t)
    rw [hs 6 (by omega), hs 5 (by omega), hl d hd]
    rfl
  · have hd := (hI.let hkw).1.2
    have e7 : v 7 = v0 7 := hs 7 (by omega)
    rw [a9 k hkw, hp]
    have ekey : keyS v (nI ((N + t) % 24)) (tn (v 7 k)) = lockB v0 (tn (v0 7 k)) N (t + 1) := by
      show (if v 6 (tn (v 7 k)) = _ then (1 : Int32) else if v 5 (tn (v 7 k)) = _ then 0 else v 4 (tn (v 7 k))) = keyR (v0 5 (tn (v0 7 k))) (v0 6 (tn (v0 7 k))) (nI ((N + t) % 24)) (lockB v0 (tn (v0 7 k)) N t)
      rw [hs 6 (by omega), hs 5 (by omega), hl _ (show tn (v 7 k) < 6 by omega), e7]
      rfl
    rw [ekey, rdy_same h21 h22 (hs 3 (by omega)) e7 (hs 8 (by omega)) (hs 9 (by omega)), hk k hkw]
    have eg : goesT v0 P N k t = true ↔ nI ((N + t) % 24) = P ∧ lockB v0 (tn (v0 7 k)) N (t + 1) = 0 ∧ rdy v0 k ≤ (N + t) / 24 := by
      unfold goesT
      rw [Bool.and_eq_true, Bool.and_eq_true, decide_eq_true_iff, decide_eq_true_iff, decide_eq_true_iff]
    have es : sentBy v0 P N k (t + 1) = true ↔ sentBy v0 P N k t = true ∨ goesT v0 P N k t = true := by
      show (sentBy v0 P N k t || goesT v0 P N k t) = true ↔ _
      rw [Bool.or_eq_true]
    by_cases q0 : v0 11 k = 0
    · by_cases q1 : sentBy v0 P N k t = true
      · have c1 : v0 11 k = 0 ∧ sentBy v0 P N k t = true := ⟨q0, q1⟩
        have c2 : v0 11 k = 0 ∧ sentBy v0 P N k (t + 1) = true := ⟨q0, es.mpr (Or.inl q1)⟩
        rw [if_pos c1, if_pos c2, ite_self]
      · have c1 : ¬ (v0 11 k = 0 ∧ sentBy v0 P N k t = true) := fun h => q1 h.2
        rw [if_neg c1]
        by_cases q2 : goesT v0 P N k t = true
        · obtain ⟨g1, g2, g3⟩ := eg.mp q2
          have c2 : v0 11 k = 0 ∧ sentBy v0 P N k (t + 1) = true := ⟨q0, es.mpr (Or.inr q2)⟩
          have c3 : nI ((N + t) % 24) = P ∧ v0 11 k = 0 ∧ lockB v0 (tn (v0 7 k)) N (t + 1) = 0 ∧ rdy v0 k ≤ (N + t) / 24 := ⟨g1, q0, g2, g3⟩
          rw [if_pos c2, if_pos c3]
        · have c2 : ¬ (v0 11 k = 0 ∧ sentBy v0 P N k (t + 1) = true) := fun h => (es.mp h.2).elim q1 q2
          have c3 : ¬ (nI ((N + t) % 24) = P ∧ v0 11 k = 0 ∧ lockB v0 (tn (v0 7 k)) N (t + 1) = 0 ∧ rdy v0 k ≤ (N + t) / 24) := fun h => q2 (eg.mpr ⟨h.1, h.2.2.1, h.2.2.2⟩)
          rw [if_neg c2, if_neg c3]
    · have c1 : ¬ (v0 11 k = 0 ∧ sentBy v0 P N k t = true) := fun h => q0 h.1
      have c2 : ¬ (v0 11 k = 0 ∧ sentBy v0 P N k (t + 1) = true) := fun h => q0 h.1
      have c3 : ¬ (nI ((N + t) % 24) = P ∧ v0 11 k = 0 ∧ lockB v0 (tn (v0 7 k)) N (t + 1) = 0 ∧ rdy v0 k ≤ (N + t) / 24) := fun h => q0 h.2.1
      rw [if_neg c1, if_neg c2, if_neg c3]
-- the keys in closed form
def lockC (u l : Nat) (x : Int32) (N T : Nat) : Int32 :=
  if (if (T + 24 - l) % 24 < (T + 24 - u) % 24 then (T + 24 - l) % 24 else (T + 24 - u) % 24) ≤ T - N then (if (T + 24 - u) % 24 ≤ (T + 24 - l) % 24 then 0 else 1) else x
theorem keyR_nI {u l h : Nat} (hu : u < 24) (hl : l < 24) (hh : h < 24) (x : Int32) : keyR (nI u) (nI l) (nI h) x = if l = h then 1 else if u = h then 0 else x := by
  unfold keyR
  by_cases q : l = h
  · rw [if_pos q, if_pos (by rw [q])]
  · rw [if_neg q, if_neg (fun e => q ((nI_eq (by omega) (by omega)).mp e))]
    by_cases q2 : u = h
    · rw [if_pos q2, if_pos (by rw [q2])]
    · rw [if_neg q2, if_neg (fun e => q2 ((nI_eq (by omega) (by omega)).mp e))]
theorem mod_back {T u : Nat} (hu : u < 24) : ((T + 24 - u) % 24 = 0 ↔ u = T % 24) := by omega
theorem mod_step {T u : Nat} (hu : u < 24) (h : u ≠ (T + 1) % 24) : (T + 1 + 24 - u) % 24 = (T + 24 - u) % 24 + 1 := by omega
theorem lockC_0 {u l N : Nat} (hu : u < 24) (hl : l < 24) (hne : u ≠ l) (x : Int32) : lockC u l x N N = if l = N % 24 then 1 else if u = N % 24 then 0 else x := by
  unfold lockC
  have a1 := mod_back (T := N) hu
  have a2 := mod_back (T := N) hl
  generalize (N + 24 - u) % 24 = a at *
  generalize (N + 24 - l) % 24 = b at *
  rw [Nat.sub_self]
  by_cases q : l = N % 24
  · have hb := a2.mpr q
    have ha : a ≠ 0 := fun e => hne (by rw [a1.mp e, q])
    rw [if_pos q, if_pos (show b < a by omega), if_pos (show b ≤ 0 by omega), if_neg (show ¬ a ≤ b by omega)]
  · have hb : b ≠ 0 := fun e => q (a2.mp e)
    rw [if_neg q]
    by_cases q2 : u = N % 24
    · have ha := a1.mpr q2
      rw [if_pos q2, if_neg (show ¬ b < a by omega), if_pos (show a ≤ 0 by omega), if_pos (show a ≤ b by omega)]
    · have ha : a ≠ 0 := fun e => q2 (a1.mp e)
      rw [if_neg q2]
      split <;> rw [if_neg (by omega)]
theorem lockC_s {u l N T : Nat} (hu : u < 24) (hl : l < 24) (hne : u ≠ l) (hT : N ≤ T) (x : Int32) : lockC u l x N (T + 1) = if l = (T + 1) % 24 then 1 else if u = (T + 1) % 24 then 0 else lockC u l x N T := by
  unfold lockC
  have a1 := mod_back (T := T + 1) hu
  have a2 := mod_back (T := T + 1) hl
  have b1 := mod_step (T := T) hu
  have b2 := mod_step (T := T) hl
  generalize (T + 1 + 24 - u) % 24 = a at *
  generalize (T + 1 + 24 - l) % 24 = b at *
  generalize (T + 24 - u) % 24 = a' at *
  generalize (T + 24 - l) % 24 = b' at *
  by_cases q : l = (T + 1) % 24
  · have hb := a2.mpr q
    have ha : a ≠ 0 := fun e => hne (by rw [a1.mp e, q])
    rw [if_pos q, if_pos (show b < a by omega), if_pos (show b ≤ T + 1 - N by omega), if_neg (show ¬ a ≤ b by omega)]
  · have hb := b2 q
    rw [if_neg q]
    by_cases q2 : u = (T + 1) % 24
    · have ha := a1.mpr q2
      rw [if_pos q2, if_neg (show ¬ b < a by omega), if_pos (show a ≤ T + 1 - N by omega), if_pos (show a ≤ b by omega)]
    · have ha := b1 q2
      rw [if_neg q2, ha, hb]
      by_cases c1 : b' < a'
      · rw [if_pos c1, if_pos (show b' + 1 < a' + 1 by omega), if_neg (show ¬ a' ≤ b' by omega), if_neg (show ¬ a' + 1 ≤ b' + 1 by omega)]
        by_cases c2 : b' ≤ T - N
        · rw [if_pos c2, if_pos (show b' + 1 ≤ T + 1 - N by omega)]
        · rw [if_neg c2, if_neg (show ¬ b' + 1 ≤ T + 1 - N by omega)]
      · rw [if_neg c1, if_neg (show ¬ b' + 1 < a' + 1 by omega), if_pos (show a' ≤ b' by omega), if_pos (show a' + 1 ≤ b' + 1 by omega)]
        by_cases c2 : a' ≤ T - N
        · rw [if_pos c2, if_pos (show a' + 1 ≤ T + 1 - N by omega)]
        · rw [if_neg c2, if_neg (show ¬ a' + 1 ≤ T + 1 - N by omega)]
/-- the state of a drawer's lock behind the keys of hour N + t -/
theorem lockB_hours {v : DV} {d u l N : Nat} (h5 : v 5 d = nI u) (h6 : v 6 d = nI l) (hu : u < 24) (hl : l < 24) (hne : u ≠ l) : ∀ t, lockB v d N (t + 1) = lockC u l (v 4 d) N (N + t)
  | 0 => by
    show keyR (v 5 d) (v 6 d) (nI ((N + 0) % 24)) (v 4 d) = _
    rw [h5, h6, keyR_nI hu hl (Nat.mod_lt _ (by decide)), Nat.add_zero, lockC_0 hu hl hne]
  | t + 1 => by
    show keyR (v 5 d) (v 6 d) (nI ((N + (t + 1)) % 24)) (lockB v d N (t + 1)) = _
    rw [lockB_hours h5 h6 hu hl hne t, h5, h6, keyR_nI hu hl (Nat.mod_lt _ (by decide)), ← Nat.add_assoc, lockC_s hu hl hne (by omega)]
theorem lockB_none {v : DV} {d N : Nat} (h5 : v 5 d = -6) (h6 : v 6 d = -6) : ∀ t, lockB v d N t = v 4 d
  | 0 => rfl
  | t + 1 => by
    show keyR (v 5 d) (v 6 d) (nI ((N + t) % 24)) (lockB v d N t) = _
    unfold keyR
    rw [h5, h6, lockB_none h5 h6 t, if_neg (fun e => nI_ne6 (by omega) e.symm), if_neg (fun e => nI_ne6 (by omega) e.symm)]
