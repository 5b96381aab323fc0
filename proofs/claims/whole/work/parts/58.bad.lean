/-! Orders on the pad: once wrong, the reference's order goes on and changes nothing that counts. -/
def EQO (m m2 : DV) : Prop := ∀ j, j < 10 ∨ 15 < j → m2 j = m j
theorem EQO.trans {a b c : DV} (h : EQO a b) (g : EQO b c) : EQO a c := fun j hj => by rw [g j hj, h j hj]
theorem EQO.of {a b : DV} (h : ∀ j, j ≠ 10 → j ≠ 11 → b j = a j) : EQO a b := fun j hj => h j (by omega) (by omega)
theorem EQO.vs {a : DV} {k : Nat} (f : Nat → Int32) (h1 : 10 ≤ k) (h2 : k ≤ 15) : EQO a (vs a k f) := fun j hj => vs_o a f (by omega)
theorem TXR.eqo {v m m2 : DV} {L : Nat} (h : TXR v m L) (g : EQO m m2) : TXR v m2 L := by
  unfold TXR
  rw [g 9 (by omega), g 5 (by omega)]
  exact h
section BD
variable {v m : DV} {L q : Nat}
theorem J219_bad (hL : L ≤ 80) (hq : q ≤ 80) (hx : TXR v m L) (h10 : m 10 0 = nI q) (h11 : m 11 0 = 1) (x1 : Int32) : ∃ m2, f_X7_order_J219 m x1 = some m2 ∧ EQO m m2 ∧ m2 10 0 = nI q ∧ m2 11 0 = 1 := by
  unfold f_X7_order_J219
  by_cases c : x1 = 117
  · rw [if_pos c]
    obtain ⟨m1, s1, s2, s3, s4⟩ := sign_bad hL hq hx h10 h11 45 45
    obtain ⟨r, m2, t1, t2, t3, t4⟩ := number_bad hL hq (hx.eqo (.of s2)) s3 s4
    rw [s1, bd2_s, t1, bd2_s]
    exact ⟨_, rfl, ((EQO.of s2).trans (.of t2)).trans (.vs _ (by decide) (by decide)), t3, t4⟩
  · rw [if_neg c]
    exact ⟨m, rfl, fun _ _ => rfl, h10, h11⟩
theorem J173_bad (hL : L ≤ 80) (hq : q ≤ 80) (hx : TXR v m L) (h10 : m 10 0 = nI q) (h11 : m 11 0 = 1) (x1 z0 : Int32) : ∃ m2, f_X7_order_J173 m x1 z0 = some m2 ∧ EQO m m2 ∧ m2 10 0 = nI q ∧ m2 11 0 = 1 := by
  unfold f_X7_order_J173
  have e0 : EQO m (vs (vs m 14 (fun _ => z0)) 15 (fun _ => -6)) := (EQO.vs _ (by decide) (by decide)).trans (.vs _ (by decide) (by decide))
  generalize hm : vs (vs m 14 (fun _ => z0)) 15 (fun _ => -6) = m0 at *
  have a10 : m0 10 0 = nI q := by rw [← hm]; exact h10
  have a11 : m0 11 0 = 1 := by rw [← hm]; exact h11
  obtain ⟨m2, b1, b2, b3, b4⟩ := J219_bad hL hq (hx.eqo e0) a10 a11 x1
  rw [isNext_bad a11, bd1_s, if_pos rfl, ite_self, b1]
  exact ⟨m2, rfl, e0.trans b2, b3, b4⟩
theorem J165_bad (hL : L ≤ 80) (hq : q ≤ 80) (hx : TXR v m L) (h10 : m 10 0 = nI q) (h11 : m 11 0 = 1) (x1 : Int32) : ∃ m2, f_X7_order_J165 m x1 = some m2 ∧ EQO m m2 ∧ m2 10 0 = nI q ∧ m2 11 0 = 1 := by
  unfold f_X7_order_J165
  obtain ⟨r, m1, t1, t2, t3, t4⟩ := number_bad hL hq hx h10 h11
  rw [t1, bd2_s]
  obtain ⟨m2, b1, b2, b3, b4⟩ := J173_bad hL hq (hx.eqo (.of t2)) t3 t4 x1 r
  exact ⟨m2, b1, (EQO.of t2).trans b2, b3, b4⟩
theorem J151_bad (hL : L ≤ 80) (hq : q ≤ 80) (hx : TXR v m L) (h10 : m 10 0 = nI q) (h11 : m 11 0 = 1) (x1 z0 : Int32) : ∃ m2, f_X7_order_J151 m x1 z0 = some m2 ∧ EQO m m2 ∧ m2 10 0 = nI q ∧ m2 11 0 = 1 := by
  unfold f_X7_order_J151
  by_cases c : x1 = 43
  · rw [if_pos c]; exact J165_bad hL hq hx h10 h11 x1
  · rw [if_neg c]
    by_cases c2 : x1 = 117
    · rw [if_pos c2]; exact J165_bad hL hq hx h10 h11 x1
    · rw [if_neg c2]; exact J173_bad hL hq hx h10 h11 x1 0
theorem J130_bad (hL : L ≤ 80) (hq : q ≤ 80) (hx : TXR v m L) (h10 : m 10 0 = nI q) (h11 : m 11 0 = 1) (x1 z0 : Int32) : ∃ m2, f_X7_order_J130 m x1 z0 = some m2 ∧ EQO m m2 ∧ m2 10 0 = nI q ∧ m2 11 0 = 1 := by
  unfold f_X7_order_J130
  have e0 : EQO m (vs m 13 (fun _ => z0)) := EQO.vs _ (by decide) (by decide)
  by_cases c : x1 = 43
  · rw [if_pos c]
    obtain ⟨m1, s1, s2, s3, s4⟩ := sign_bad hL hq (hx.eqo e0) (m := vs m 13 (fun _ => z0)) h10 h11 58 58
    rw [s1, bd2_s]
    obtain ⟨m2, b1, b2, b3, b4⟩ := J151_bad hL hq ((hx.eqo e0).eqo (.of s2)) s3 s4 x1 (chF v L q)
    exact ⟨m2, b1, (e0.trans (.of s2)).trans b2, b3, b4⟩
  · rw [if_neg c]
    obtain ⟨m2, b1, b2, b3, b4⟩ := J151_bad hL hq (hx.eqo e0) (m := vs m 13 (fun _ => z0)) h10 h11 x1 0
    exact ⟨m2, b1, e0.trans b2, b3, b4⟩
end BD
