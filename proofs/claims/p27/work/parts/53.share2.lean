/-! share. -/
theorem L43_mono : ∀ (n n' : Nat) (x2 x3 x4 : Int32) (x5 : UInt64) (r : Int64), n ≤ n' → f_X6_bitsOf_L43 n x2 x3 x4 x5 = some r → f_X6_bitsOf_L43 n' x2 x3 x4 x5 = some r
  | 0, _, _, _, _, _, _, _, h => nomatch h
  | n + 1, n', x2, x3, x4, x5, r, hn, h => by
    obtain ⟨n', rfl⟩ := up1 (show 0 < n' by omega)
    rw [f_X6_bitsOf_L43] at h ⊢
    by_cases c1 : 0 ≤ (Op.cmpValue (FP.dcmp x5 FP.dconst1) CmpOp.g)
    · rw [if_pos c1] at h ⊢; exact h
    · rw [if_neg c1] at h ⊢
      by_cases c2 : x4 ≤ (1 - x2)
      · rw [if_pos c2] at h ⊢; exact h
      · rw [if_neg c2] at h ⊢
        obtain ⟨k1, k2⟩ := ck_1 h (fun e => nomatch e)
        rw [k1, ck_t]
        exact L43_mono n n' _ _ _ _ r (by omega) k2
theorem L14_mono : ∀ (n n' : Nat) (x2 x3 x4 : Int32) (x5 : UInt64) (r : Int64), n ≤ n' → f_X6_bitsOf_L14 n x2 x3 x4 x5 = some r → f_X6_bitsOf_L14 n' x2 x3 x4 x5 = some r
  | 0, _, _, _, _, _, _, _, h => nomatch h
  | n + 1, n', x2, x3, x4, x5, r, hn, h => by
    obtain ⟨n', rfl⟩ := up1 (show 0 < n' by omega)
    rw [f_X6_bitsOf_L14] at h ⊢
    by_cases c1 : (Op.cmpValue (FP.dcmp x5 4611686018427387904) CmpOp.l) < 0
    · rw [if_pos c1] at h ⊢; exact L43_mono n n' _ _ _ _ r (by omega) h
    · rw [if_neg c1] at h ⊢
      by_cases c2 : x2 ≤ x4
      · rw [if_pos c2] at h ⊢; exact L43_mono n n' _ _ _ _ r (by omega) h
      · rw [if_neg c2] at h ⊢
        obtain ⟨k1, k2⟩ := ck_1 h (fun e => nomatch e)
        rw [k1, ck_t]
        exact L14_mono n n' _ _ _ _ r (by omega) k2
theorem bitsOf_mono {n n' : Nat} (hn : n ≤ n') {p0 : UInt64} {p2 p3 : Int32} {r : Int64} (h : f_X6_bitsOf n p0 p2 p3 = some r) : f_X6_bitsOf n' p0 p2 p3 = some r := by
  unfold f_X6_bitsOf at h ⊢
  by_cases c : 0 < (Op.cmpValue (FP.dcmp p0 FP.dconst0) CmpOp.g)
  · rw [if_pos c] at h ⊢; exact L14_mono n n' _ _ _ _ r hn h
  · rw [if_neg c] at h ⊢; exact h
theorem L13_mono : ∀ (n n' : Nat) (x1 : Int32) (x2 : UInt32) (r : Int32), n ≤ n' → f_X7_bitsOf_L13 n x1 x2 = some r → f_X7_bitsOf_L13 n' x1 x2 = some r
  | 0, _, _, _, _, _, h => nomatch h
  | n + 1, n', x1, x2, r, hn, h => by
    obtain ⟨n', rfl⟩ := up1 (show 0 < n' by omega)
    rw [f_X7_bitsOf_L13] at h ⊢
    by_cases c1 : 0 ≤ (Op.cmpValue (FP.fcmp x2 FP.fconst1) CmpOp.g)
    · rw [if_pos c1] at h ⊢; exact h
    · rw [if_neg c1] at h ⊢
      obtain ⟨k1, k2⟩ := ck_1 h (fun e => nomatch e)
      rw [k1, ck_t]
      exact L13_mono n n' _ _ r (by omega) k2
theorem bitsOf7_mono {n n' : Nat} (hn : n ≤ n') {p0 : UInt32} {r : Int32} (h : f_X7_bitsOf n p0 = some r) : f_X7_bitsOf n' p0 = some r := by
  unfold f_X7_bitsOf at h ⊢
  by_cases c : (Op.cmpValue (FP.fcmp p0 FP.fconst0) CmpOp.l) = 0
  · rw [if_pos c] at h ⊢; exact h
  · rw [if_neg c] at h ⊢; exact L13_mono n n' _ _ r hn h
theorem shOK_at {a b : Nat} (hb : 1 ≤ b) (hb30 : b ≤ 30) (hab : a ≤ b) : shOK a b = true := by
  have h := sh_all
  rw [List.all_eq_true] at h
  have h1 := h (b - 1) (List.mem_range.mpr (by omega))
  rw [List.all_eq_true] at h1
  have h2 := h1 a (List.mem_range.mpr (by omega))
  rw [show b - 1 + 1 = b by omega] at h2
  exact h2
theorem share_eq {v m : DV} {N w : Nat} (hI : INV v N w) (hR : REL v (m 0) N w) {n n' : Nat} (hn : 200 ≤ n) (hn' : 200 ≤ n') : ∃ r, f_X6_share n v = some r ∧ f_X7_share n' m = some r := by
  have h30 := hI.1.2.2
  unfold f_X6_share f_X7_share
  rw [hI.1.2.1, cl_5, hR.1.2.2.2.2.2]
  by_cases q : w = 0
  · subst q
    rw [if_pos (show nI 0 = 0 from rfl), if_pos (show nI 0 = 0 from rfl)]
    exact ⟨_, rfl, rfl⟩
  have q' : ¬ nI w = 0 := fun e => q ((nI_eq (b := 0) (by omega) (by decide)).mp e)
  obtain ⟨M, a1, a2⟩ := setCnt_eq hI 1 (show 100 ≤ n by omega)
  rw [if_neg q', if_neg q', a1, bd1_s, a2, many_eq hI hR 6 1 (by omega), stA6_cnt, bd1_s]
  have hok := shOK_at (show 1 ≤ w by omega) h30 (cntP_le (isP v 1) w)
  generalize cntP (isP v 1) w = a at *
  unfold shOK at hok
  rw [Bool.and_eq_true, Bool.and_eq_true] at hok
  obtain ⟨k1, k2, k3⟩ := hok
  rw [k1, ck_t, k2, ck_t, ck_t]
  cases e1 : f_X6_bitsOf 20 (FP.f2d (FP.fdiv (FP.i2f (nI a)) (FP.i2f (nI w)))) 127 23 with
  | none => rw [e1] at k3; exact (Bool.false_ne_true k3).elim
  | some x =>
    cases e2 : f_X7_bitsOf 20 (FP.fdiv (FP.i2f (nI a)) (FP.i2f (nI w))) with
    | none => rw [e1, e2] at k3; exact (Bool.false_ne_true k3).elim
    | some y =>
      rw [e1, e2] at k3
      have k4 := of_decide_eq_true k3
      rw [bitsOf_mono (show 20 ≤ n by omega) e1, bitsOf7_mono (show 20 ≤ n' by omega) e2, bd1_s, bd1_s, k4]
      exact ⟨y, rfl, rfl⟩
