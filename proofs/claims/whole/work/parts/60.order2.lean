/-! Orders on the pad: the reference's reading of a whole order. -/
theorem RES.lift {m m0 m2 : DV} {res : OR} (h : RES m0 m2 res) (g : EQO m m0) (g12 : m0 12 0 = m 12 0) : RES m m2 res := by
  obtain ⟨a, b⟩ := h
  refine ⟨g.trans a, ?_⟩
  cases res with
  | inl q2 => exact b
  | inr p =>
    obtain ⟨c1, c2, c3, c4, c5⟩ := b
    exact ⟨c1, c2, c3, by rw [c4, g12], c5⟩
section OD2
variable {v m : DV} {L q : Nat}
theorem J165_eq (ht : TXT v L) (hq : q ≤ 80) (hx : TXR v m L) (h10 : m 10 0 = nI q) (h11 : m 11 0 = 0) (x : Int32) : ∃ m2, f_X7_order_J165 m x = some m2 ∧ RES m m2 (o165 (chF v L) q x (m 13 0)) := by
  unfold f_X7_order_J165 o165
  obtain ⟨r, m1, t1, t2, t3⟩ := numR ht hq hx h10 h11
  rw [t1, bd2_s]
  rcases t3 with ⟨n1, n2, n3⟩ | ⟨q2, n1, n2, n3, n4⟩
  · rw [n1]
    obtain ⟨m2, b1, b2, b3, b4⟩ := J173_bad ht.1 hq (hx.eqo (.of t2)) n2 n3 x r
    exact ⟨m2, b1, (EQO.of t2).trans b2, hq, b3, b4⟩
  · rw [n1]
    obtain ⟨m2, b1, b2⟩ := J173_eq ht n2 (hx.eqo (.of t2)) n3 n4 x r
    rw [t2 13 (by decide) (by decide)] at b2
    exact ⟨m2, b1, b2.lift (.of t2) (by rw [t2 12 (by decide) (by decide)])⟩
theorem J151_eq (ht : TXT v L) (hq : q ≤ 80) (hx : TXR v m L) (h10 : m 10 0 = nI q) (h11 : m 11 0 = 0) (x z0 : Int32) : ∃ m2, f_X7_order_J151 m x z0 = some m2 ∧ RES m m2 (o151 (chF v L) q x (m 13 0)) := by
  unfold f_X7_order_J151 o151
  by_cases c : x = 43
  · rw [if_pos c, if_pos c]; exact J165_eq ht hq hx h10 h11 x
  · rw [if_neg c, if_neg c]
    by_cases c2 : x = 117
    · rw [if_pos c2, if_pos c2]; exact J165_eq ht hq hx h10 h11 x
    · rw [if_neg c2, if_neg c2]; exact J173_eq ht hq hx h10 h11 x 0
theorem J130_eq (ht : TXT v L) (hq : q ≤ 80) (hx : TXR v m L) (h10 : m 10 0 = nI q) (h11 : m 11 0 = 0) (x z0 : Int32) : ∃ m2, f_X7_order_J130 m x z0 = some m2 ∧ RES m m2 (o130 (chF v L) q x z0) := by
  unfold f_X7_order_J130 o130
  have e0 : EQO m (vs m 13 (fun _ => z0)) := EQO.vs _ (by decide) (by decide)
  by_cases c : x = 43
  · rw [if_pos c, if_pos c]
    obtain ⟨m1, s1, s2, s3⟩ := sign_eq ht.1 hq (hx.eqo e0) (m := vs m 13 (fun _ => z0)) h10 h11 58 58
    have a13 : m1 13 0 = z0 := by rw [s2 13 (by decide) (by decide)]; rfl
    have a12 : m1 12 0 = m 12 0 := by rw [s2 12 (by decide) (by decide)]; rfl
    rw [s1, bd2_s]
    rcases s3 with ⟨e, a, b⟩ | ⟨e, a, b⟩
    · rw [if_pos e]
      obtain ⟨m2, b1, b2, b3, b4⟩ := J151_bad ht.1 hq ((hx.eqo e0).eqo (.of s2)) a b x (chF v L q)
      exact ⟨m2, b1, (e0.trans (.of s2)).trans b2, hq, b3, b4⟩
    · have hq1 : q + 1 ≤ 80 := sub_ch (v := v) (lo := 58) (hi := 58) ht.1 (by decide) (by decide) (by decide) e
      rw [if_neg e]
      obtain ⟨m2, b1, b2⟩ := J151_eq ht hq1 ((hx.eqo e0).eqo (.of s2)) a b x (chF v L q)
      rw [a13] at b2
      exact ⟨m2, b1, b2.lift (e0.trans (.of s2)) a12⟩
  · rw [if_neg c, if_neg c]
    obtain ⟨m2, b1, b2⟩ := J151_eq ht hq (hx.eqo e0) (m := vs m 13 (fun _ => z0)) h10 h11 x 0
    exact ⟨m2, b1, b2.lift e0 rfl⟩
/-- an order at place q: its kind is its first sign -/
def ordF (ch : Nat → Int32) (q : Nat) : OR :=
  if ch q = 43 ∨ ch q = 107 ∨ ch q = 117 then (if f_X7_in (ch (q + 1)) 48 53 = 0 then .inl (q + 1) else o130 ch (q + 1 + 1) (ch q) (ch (q + 1) - 48))
  else if ch q = 116 ∨ ch q = 98 then (match numF ch (q + 1) with | none => .inl (q + 1) | some (a, q2) => o130 ch q2 (ch q) a)
  else .inl q
def RESK (m m2 : DV) (x : Int32) (res : OR) : Prop := EQO m m2 ∧ (match res with | .inl q2 => q2 ≤ 80 ∧ m2 10 0 = nI q2 ∧ m2 11 0 = 1 | .inr (q2, a, b, c) => q2 ≤ 80 ∧ m2 10 0 = nI q2 ∧ m2 11 0 = 0 ∧ m2 12 0 = x ∧ m2 13 0 = a ∧ m2 14 0 = b ∧ m2 15 0 = c)
theorem RES.kind {m m0 m2 : DV} {res : OR} {x : Int32} (h : RES m0 m2 res) (g : EQO m m0) (g12 : m0 12 0 = x) : RESK m m2 x res := by
  obtain ⟨a, b⟩ := h
  refine ⟨g.trans a, ?_⟩
  cases res with
  | inl q2 => exact b
  | inr p =>
    obtain ⟨c1, c2, c3, c4, c5⟩ := b
    exact ⟨c1, c2, c3, by rw [c4, g12], c5⟩
theorem J98_bad (hL : L ≤ 80) (hq : q ≤ 80) (hx : TXR v m L) (h11 : m 11 0 = 1) (x1 x2 : Int32) : ∃ m2, f_X7_order_J98 m x1 x2 0 (nI q) = some m2 ∧ RESK m m2 x1 (.inl q) := by
  unfold f_X7_order_J98
  rw [show nI q + 0 = nI q from Int32.add_zero _]
  have e0 : EQO m (vs (vs m 10 (fun _ => nI q)) 12 (fun _ => x1)) := (EQO.vs _ (by decide) (by decide)).trans (.vs _ (by decide) (by decide))
  have a10 : (vs (vs m 10 (fun _ => nI q)) 12 (fun _ => x1)) 10 0 = nI q := rfl
  have a11 : (vs (vs m 10 (fun _ => nI q)) 12 (fun _ => x1)) 11 0 = 1 := h11
  generalize vs (vs m 10 (fun _ => nI q)) 12 (fun _ => x1) = m0 at *
  by_cases c : x2 = 0
  · rw [if_pos c]
    obtain ⟨r, m1, t1, t2, t3, t4⟩ := number_bad hL hq (hx.eqo e0) a10 a11
    rw [t1, bd2_s]
    obtain ⟨m2, b1, b2, b3, b4⟩ := J130_bad hL hq ((hx.eqo e0).eqo (.of t2)) t3 t4 x1 r
    exact ⟨m2, b1, (e0.trans (.of t2)).trans b2, hq, b3, b4⟩
  · rw [if_neg c]
    obtain ⟨m1, t1, t2, t3, t4⟩ := sign_bad hL hq (hx.eqo e0) a10 a11 48 53
    rw [t1, bd2_s]
    obtain ⟨m2, b1, b2, b3, b4⟩ := J130_bad hL hq ((hx.eqo e0).eqo (.of t2)) t3 t4 x1 (chF v L q - 48)
    exact ⟨m2, b1, (e0.trans (.of t2)).trans b2, hq, b3, b4⟩
theorem J98_mood (ht : TXT v L) (hq : q + 1 ≤ 80) (hx : TXR v m L) (h11 : m 11 0 = 0) (x1 x2 : Int32) (h2 : ¬ x2 = 0) : ∃ m2, f_X7_order_J98 m x1 x2 1 (nI q) = some m2 ∧ RESK m m2 x1 (if f_X7_in (chF v L (q + 1)) 48 53 = 0 then .inl (q + 1) else o130 (chF v L) (q + 1 + 1) x1 (chF v L (q + 1) - 48)) := by
  unfold f_X7_order_J98
  rw [nI_1, if_neg h2]
  have e0 : EQO m (vs (vs m 10 (fun _ => nI (q + 1))) 12 (fun _ => x1)) := (EQO.vs _ (by decide) (by decide)).trans (.vs _ (by decide) (by decide))
  have a10 : (vs (vs m 10 (fun _ => nI (q + 1))) 12 (fun _ => x1)) 10 0 = nI (q + 1) := rfl
  have a11 : (vs (vs m 10 (fun _ => nI (q + 1))) 12 (fun _ => x1)) 11 0 = 0 := h11
  have a12 : (vs (vs m 10 (fun _ => nI (q + 1))) 12 (fun _ => x1)) 12 0 = x1 := rfl
  generalize vs (vs m 10 (fun _ => nI (q + 1))) 12 (fun _ => x1) = m0 at *
  obtain ⟨m1, s1, s2, s3⟩ := sign_eq ht.1 hq (hx.eqo e0) a10 a11 48 53
  rw [s1, bd2_s]
  rcases s3 with ⟨e, a, b⟩ | ⟨e, a, b⟩
  · rw [if_pos e]
    obtain ⟨m2, b1, b2, b3, b4⟩ := J130_bad ht.1 hq ((hx.eqo e0).eqo (.of s2)) a b x1 (chF v L (q + 1) - 48)
    exact ⟨m2, b1, (e0.trans (.of s2)).trans b2, hq, b3, b4⟩
  · rw [if_neg e]
    have hq1 : q + 1 + 1 ≤ 80 := sub_ch (v := v) (lo := 48) (hi := 53) ht.1 (by decide) (by decide) (by decide) e
    obtain ⟨m2, b1, b2⟩ := J130_eq ht hq1 ((hx.eqo e0).eqo (.of s2)) a b x1 (chF v L (q + 1) - 48)
    exact ⟨m2, b1, b2.kind (e0.trans (.of s2)) (by rw [s2 12 (by decide) (by decide), a12])⟩
theorem J98_num (ht : TXT v L) (hq : q + 1 ≤ 80) (hx : TXR v m L) (h11 : m 11 0 = 0) (x1 : Int32) : ∃ m2, f_X7_order_J98 m x1 0 1 (nI q) = some m2 ∧ RESK m m2 x1 (match numF (chF v L) (q + 1) with | none => .inl (q + 1) | some (a, q2) => o130 (chF v L) q2 x1 a) := by
  unfold f_X7_order_J98
  rw [nI_1, if_pos rfl]
  have e0 : EQO m (vs (vs m 10 (fun _ => nI (q + 1))) 12 (fun _ => x1)) := (EQO.vs _ (by decide) (by decide)).trans (.vs _ (by decide) (by decide))
  have a10 : (vs (vs m 10 (fun _ => nI (q + 1))) 12 (fun _ => x1)) 10 0 = nI (q + 1) := rfl
  have a11 : (vs (vs m 10 (fun _ => nI (q + 1))) 12 (fun _ => x1)) 11 0 = 0 := h11
  have a12 : (vs (vs m 10 (fun _ => nI (q + 1))) 12 (fun _ => x1)) 12 0 = x1 := rfl
  generalize vs (vs m 10 (fun _ => nI (q + 1))) 12 (fun _ => x1) = m0 at *
  obtain ⟨r, m1, t1, t2, t3⟩ := numR ht hq (hx.eqo e0) a10 a11
  rw [t1, bd2_s]
  rcases t3 with ⟨n1, n2, n3⟩ | ⟨q2, n1, n2, n3, n4⟩
  · rw [n1]
    obtain ⟨m2, b1, b2, b3, b4⟩ := J130_bad ht.1 hq ((hx.eqo e0).eqo (.of t2)) n2 n3 x1 r
    exact ⟨m2, b1, (e0.trans (.of t2)).trans b2, hq, b3, b4⟩
  · rw [n1]
    obtain ⟨m2, b1, b2⟩ := J130_eq ht n2 ((hx.eqo e0).eqo (.of t2)) n3 n4 x1 r
    exact ⟨m2, b1, b2.kind (e0.trans (.of t2)) (by rw [t2 12 (by decide) (by decide), a12])⟩
end OD2
