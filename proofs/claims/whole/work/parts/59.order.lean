/-! Orders on the pad: what an order is, and the reference's reading of it. -/
abbrev OR : Type := Sum Nat (Nat × Int32 × Int32 × Int32)
def o219 (ch : Nat → Int32) (q : Nat) (x a b : Int32) : OR := if x = 117 then (if f_X7_in (ch q) 45 45 = 0 then .inl q else match numF ch (q + 1) with | none => .inl (q + 1) | some (c, q2) => .inr (q2, a, b, c)) else .inr (q, a, b, -6)
def o173 (ch : Nat → Int32) (q : Nat) (x a b : Int32) : OR := if x = 43 then (if f_X7_in (ch q) 94 94 = 0 then o219 ch q x a b else match numF ch (q + 1) with | none => .inl (q + 1) | some (c, q2) => .inr (q2, a, b, c)) else o219 ch q x a b
def o165 (ch : Nat → Int32) (q : Nat) (x a : Int32) : OR := match numF ch q with | none => .inl q | some (b, q2) => o173 ch q2 x a b
def o151 (ch : Nat → Int32) (q : Nat) (x a : Int32) : OR := if x = 43 then o165 ch q x a else if x = 117 then o165 ch q x a else o173 ch q x a 0
def o130 (ch : Nat → Int32) (q : Nat) (x a : Int32) : OR := if x = 43 then (if f_X7_in (ch q) 58 58 = 0 then .inl q else o151 ch (q + 1) x a) else o151 ch q x a
/-- the reference has read so -/
def RES (m m2 : DV) (res : OR) : Prop := EQO m m2 ∧ (match res with | .inl q2 => q2 ≤ 80 ∧ m2 10 0 = nI q2 ∧ m2 11 0 = 1 | .inr (q2, a, b, c) => q2 ≤ 80 ∧ m2 10 0 = nI q2 ∧ m2 11 0 = 0 ∧ m2 12 0 = m 12 0 ∧ m2 13 0 = a ∧ m2 14 0 = b ∧ m2 15 0 = c)
section OD
variable {v m : DV} {L q : Nat}
theorem sub_ch {lo : Nat} {q : Nat} (hL : L ≤ 80) (h0 : 0 < lo) (hlo : lo < 2 ^ 30) {hi : Nat} (hhi : hi < 2 ^ 31) (h : ¬ f_X7_in (chF v L q) (nI lo) (nI hi) = 0) : q + 1 ≤ 80 := by
  have : q < L := ch_in (v := v) (fun e => by
    rcases in_lh (chF v L q) hlo hhi with ⟨e1, -⟩ | ⟨-, j, h1, h2, ej⟩
    · exact h e1
    · rw [e] at ej
      exact absurd ((nI_eq (a := 0) (b := j) (by decide) (by omega)).mp ej) (by omega))
  omega
theorem numR (ht : TXT v L) (hq : q ≤ 80) (hx : TXR v m L) (h10 : m 10 0 = nI q) (h11 : m 11 0 = 0) : ∃ r m2, f_X7_number m = some (r, m2) ∧ (∀ j, j ≠ 10 → j ≠ 11 → m2 j = m j) ∧ ((numF (chF v L) q = none ∧ m2 10 0 = nI q ∧ m2 11 0 = 1) ∨ ∃ q2, numF (chF v L) q = some (r, q2) ∧ q2 ≤ 80 ∧ m2 10 0 = nI q2 ∧ m2 11 0 = 0) := by
  obtain ⟨r, v2, rm, m2, -, a2, a3, a4⟩ := number_eq (v := vs v 17 (fun _ => nI q)) (m := m) ht rfl hq hx h10 h11
  rcases a4 with ⟨b1, -, -, b4, b5⟩ | ⟨q2, b1, b2, -, b3, -, b4, b5⟩
  · exact ⟨rm, m2, a2, a3, Or.inl ⟨b1, b4, b5⟩⟩
  · subst b3
    exact ⟨_, m2, a2, a3, Or.inr ⟨q2, b1, b2, b4, b5⟩⟩
theorem J219_eq (ht : TXT v L) (hq : q ≤ 80) (hx : TXR v m L) (h10 : m 10 0 = nI q) (h11 : m 11 0 = 0) (x : Int32) (h15 : m 15 0 = -6) : ∃ m2, f_X7_order_J219 m x = some m2 ∧ RES m m2 (o219 (chF v L) q x (m 13 0) (m 14 0)) := by
  unfold f_X7_order_J219 o219
  by_cases c : x = 117
  · rw [if_pos c, if_pos c]
    obtain ⟨m1, s1, s2, s3⟩ := sign_eq ht.1 hq hx h10 h11 45 45
    rw [s1, bd2_s]
    rcases s3 with ⟨e, a, b⟩ | ⟨e, a, b⟩
    · obtain ⟨r, m2, t1, t2, t3, t4⟩ := number_bad ht.1 hq (hx.eqo (.of s2)) a b
      rw [t1, bd2_s, if_pos e]
      exact ⟨_, rfl, ((EQO.of s2).trans (.of t2)).trans (.vs _ (by decide) (by decide)), hq, t3, t4⟩
    · have hq1 : q + 1 ≤ 80 := sub_ch (v := v) (lo := 45) (hi := 45) ht.1 (by decide) (by decide) (by decide) e
      obtain ⟨r, m2, t1, t2, t3⟩ := numR ht hq1 (hx.eqo (.of s2)) a b
      rw [t1, bd2_s, if_neg e]
      rcases t3 with ⟨n1, n2, n3⟩ | ⟨q2, n1, n2, n3, n4⟩
      · rw [n1]
        exact ⟨_, rfl, ((EQO.of s2).trans (.of t2)).trans (.vs _ (by decide) (by decide)), hq1, n2, n3⟩
      · rw [n1]
        refine ⟨_, rfl, ((EQO.of s2).trans (.of t2)).trans (.vs _ (by decide) (by decide)), n2, n3, n4, ?_, ?_, ?_, rfl⟩
        · show m2 12 0 = m 12 0
          rw [t2 12 (by decide) (by decide), s2 12 (by decide) (by decide)]
        · show m2 13 0 = m 13 0
          rw [t2 13 (by decide) (by decide), s2 13 (by decide) (by decide)]
        · show m2 14 0 = m 14 0
          rw [t2 14 (by decide) (by decide), s2 14 (by decide) (by decide)]
  · rw [if_neg c, if_neg c]
    exact ⟨m, rfl, fun _ _ => rfl, hq, h10, h11, rfl, rfl, rfl, h15⟩
theorem J173_eq (ht : TXT v L) (hq : q ≤ 80) (hx : TXR v m L) (h10 : m 10 0 = nI q) (h11 : m 11 0 = 0) (x z0 : Int32) : ∃ m2, f_X7_order_J173 m x z0 = some m2 ∧ RES m m2 (o173 (chF v L) q x (m 13 0) z0) := by
  unfold f_X7_order_J173 o173
  have e0 : EQO m (vs (vs m 14 (fun _ => z0)) 15 (fun _ => -6)) := (EQO.vs _ (by decide) (by decide)).trans (.vs _ (by decide) (by decide))
  generalize hm : vs (vs m 14 (fun _ => z0)) 15 (fun _ => -6) = m0 at *
  have a10 : m0 10 0 = nI q := by rw [← hm]; exact h10
  have a11 : m0 11 0 = 0 := by rw [← hm]; exact h11
  have a12 : m0 12 0 = m 12 0 := by rw [← hm]; rfl
  have a13 : m0 13 0 = m 13 0 := by rw [← hm]; rfl
  have a14 : m0 14 0 = z0 := by rw [← hm]; rfl
  have a15 : m0 15 0 = -6 := by rw [← hm]; rfl
  have h219 : ∃ m2, f_X7_order_J219 m0 x = some m2 ∧ RES m m2 (o219 (chF v L) q x (m 13 0) z0) := by
    obtain ⟨m2, b1, b2, b3⟩ := J219_eq ht hq (hx.eqo e0) a10 a11 x a15
    rw [a13, a14] at b3
    refine ⟨m2, b1, e0.trans b2, ?_⟩
    cases hr : o219 (chF v L) q x (m 13 0) z0 with
    | inl q2 => rw [hr] at b3; exact b3
    | inr p =>
      rw [hr] at b3
      obtain ⟨c1, c2, c3, c4, c5⟩ := b3
      exact ⟨c1, c2, c3, by rw [c4, a12], c5⟩
  by_cases c : x = 43
  · rw [if_pos c, if_pos c, isNext_eq ht.1 hq (hx.eqo e0) a10 a11 94 94 (by decide), bd1_s]
    by_cases d : f_X7_in (chF v L q) 94 94 = 0
    · rw [if_pos d, if_pos d, if_pos rfl]; exact h219
    · rw [if_neg d, if_neg d, if_neg (show ¬ (1 : Int32) = 0 by decide)]
      obtain ⟨m1, s1, s2, s3⟩ := sign_eq ht.1 hq (hx.eqo e0) a10 a11 94 94
      rw [s1, bd2_s]
      rcases s3 with ⟨e, -, -⟩ | ⟨e, a, b⟩
      · exact absurd e d
      have hq1 : q + 1 ≤ 80 := sub_ch (v := v) (lo := 94) (hi := 94) ht.1 (by decide) (by decide) (by decide) e
      obtain ⟨r, m2, t1, t2, t3⟩ := numR ht hq1 ((hx.eqo e0).eqo (.of s2)) a b
      rw [t1, bd2_s]
      rcases t3 with ⟨n1, n2, n3⟩ | ⟨q2, n1, n2, n3, n4⟩
      · rw [n1]
        exact ⟨_, rfl, ((e0.trans (.of s2)).trans (.of t2)).trans (.vs _ (by decide) (by decide)), hq1, n2, n3⟩
      · rw [n1]
        refine ⟨_, rfl, ((e0.trans (.of s2)).trans (.of t2)).trans (.vs _ (by decide) (by decide)), n2, n3, n4, ?_, ?_, ?_, rfl⟩
        · show m2 12 0 = m 12 0
          rw [t2 12 (by decide) (by decide), s2 12 (by decide) (by decide), a12]
        · show m2 13 0 = m 13 0
          rw [t2 13 (by decide) (by decide), s2 13 (by decide) (by decide), a13]
        · show m2 14 0 = z0
          rw [t2 14 (by decide) (by decide), s2 14 (by decide) (by decide), a14]
  · rw [if_neg c, if_neg c]; exact h219
end OD
