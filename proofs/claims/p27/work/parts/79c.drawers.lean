/-! Drawers and letters add up. -/
theorem shZ_at {a b : Nat} (hb : 1 ≤ b) (hb30 : b ≤ 30) (hab : a ≤ b) : shZ a b = true := by
  have h := shZ_all
  rw [List.all_eq_true] at h
  have h1 := h (b - 1) (List.mem_range.mpr (by omega))
  rw [List.all_eq_true] at h1
  have h2 := h1 a (List.mem_range.mpr (by omega))
  rw [show b - 1 + 1 = b by omega] at h2
  exact h2
section DRW
variable {v : DV} {N w : Nat}
theorem share_z (hI : INV v N w) {n : Nat} (hn : 200 ≤ n) : ∃ r, f_X6_share n v = some r ∧ (r = 0 ↔ (0 < w ∧ cntP (isP v 1) w = 0)) := by
  have h30 := hI.1.2.2
  unfold f_X6_share
  rw [hI.1.2.1]
  by_cases q : w = 0
  · subst q
    rw [if_pos (show nI 0 = 0 from rfl)]
    exact ⟨-6, rfl, fun h => absurd h (by decide), fun h => absurd h.1 (Nat.lt_irrefl 0)⟩
  obtain ⟨M, a1, a2⟩ := setCnt_eq hI 1 (show 100 ≤ n by omega)
  rw [if_neg (nI_ne0 (by omega) (by omega)), a1, bd1_s, a2]
  have hok := shZ_at (show 1 ≤ w by omega) h30 (cntP_le (isP v 1) w)
  generalize cntP (isP v 1) w = a at *
  unfold shZ at hok
  rw [Bool.and_eq_true, Bool.and_eq_true] at hok
  obtain ⟨k1, k2, k3⟩ := hok
  rw [k1, ck_t, k2, ck_t]
  cases e1 : f_X6_bitsOf 20 (FP.f2d (FP.fdiv (FP.i2f (nI a)) (FP.i2f (nI w)))) 127 23 with
  | none => rw [e1] at k3; exact (Bool.false_ne_true k3).elim
  | some x =>
    rw [e1] at k3
    have k4 : decide (Int64.toInt32 x = 0) = decide (a = 0) := eq_of_beq k3
    rw [bitsOf_mono (show 20 ≤ n by omega) e1, bd1_s]
    refine ⟨_, rfl, ?_⟩
    have k5 : Int64.toInt32 x = 0 ↔ a = 0 := by
      rw [← decide_eq_true_iff (p := Int64.toInt32 x = 0), k4, decide_eq_true_iff]
    rw [k5]
    exact ⟨fun e => ⟨by omega, e⟩, fun e => e.2⟩
-- one drawer's letters
theorem dl31 (hI : INV v N w) (F : DV → Int32 → Int32 → Int32 → Int32 → Int32 → Int32 → Option (Int32 × DV)) {d : Nat} (x1 x2 x3 x4 : Int32) : ∀ (r i m : Nat) (x7 x8 : Int32), i + r = w → f_L_areDrawersSo_L31 F (r + m) v x1 x2 x3 x4 1 (nI d) x7 x8 (nI i) = f_L_areDrawersSo_L31 F m v x1 x2 x3 x4 1 (nI d) (lp (stM v (nI d) 0) r i x7) (lp (stD v (nI d)) r i x8) (nI w) := by
  intro r
  induction r with
  | zero =>
    intro i m x7 x8 hi
    have : i = w := by omega
    subst this
    rw [Nat.zero_add]
    rfl
  | succ r ih =>
    intro i m x7 x8 hi
    have h30 := hI.1.2.2
    have hiw : i < w := by omega
    rw [show r + 1 + m = (r + m) + 1 by omega, f_L_areDrawersSo_L31, ct_2 hI, bd1_s, if_neg (nI_ge (by omega) (by omega)), oL_0 hI hiw, bd2_s]
    show _ = f_L_areDrawersSo_L31 F m v x1 x2 x3 x4 1 (nI d) (lp (stM v (nI d) 0) r (i + 1) (if v 7 i = nI d then (if v 11 i = 0 then x7 + 1 else x7) else x7)) (lp (stD v (nI d)) r (i + 1) (if v 7 i = nI d then (if v 11 i = 0 then x8 + heatS v i else x8) else x8)) (nI w)
    rw [← ih (i + 1) m _ _ (by omega)]
    unfold f_L_areDrawersSo_J67 f_L_areDrawersSo_J68 f_L_areDrawersSo_J82
    by_cases q : v 7 i = nI d
    · rw [if_pos q, if_pos q, if_pos q, oL_4 hI hiw, bd2_s]
      by_cases q2 : v 11 i = 0
      · rw [if_pos q2, if_pos q2, if_pos q2, if_neg i10, if_neg i10, oL_2 hI hiw, bd2_s, nI_1]
      · rw [if_neg q2, if_neg q2, if_neg q2, if_pos rfl, if_pos rfl, add0, add0, nI_1]
    · rw [if_neg q, if_neg q, if_neg q, if_pos rfl, if_pos rfl, add0, add0, nI_1]
/-- one drawer -/
theorem dl15 (hI : INV v N w) {d n : Nat} (hd : d < 6) (hn : 200 ≤ n) (x1 x2 x3 x4 : Int32) : f_L_areDrawersSo_L15 (n + 1) v x1 x2 x3 x4 1 (nI d) = f_L_areDrawersSo_L15 n v (x1 + nI (cntP (inHow v d 0) w)) (x2 + nI (cntP (inHow v d 1) w)) (x3 + nI (cntP (inHow v d 2) w)) (x4 + v 4 d) 1 (nI (d + 1)) := by
  have h30 := hI.1.2.2
  obtain ⟨m, rfl⟩ : ∃ m, n = w + (m + 1) := ⟨n - w - 1, by omega⟩
  rw [f_L_areDrawersSo_L15, if_neg (show ¬ (6 : Int32) ≤ nI d from nI_ge (a := d) (b := 6) (by omega) (by decide))]
  rw [show ∀ F y7 y8, f_L_areDrawersSo_L31 F (w + (m + 1)) v x1 x2 x3 x4 1 (nI d) y7 y8 0 = _ from fun F y7 y8 => dl31 hI F x1 x2 x3 x4 w 0 (m + 1) y7 y8 (by omega)]
  have h8 : cntP (inHow v d 0) w ≤ 8 := hI.2.2.2.2.1 d hd
  have e0 : lp (stM v (nI d) 0) w 0 0 = nI (cntP (inHow v d 0) w) := stM_cnt v (nI d) 0 w
  rw [e0, f_L_areDrawersSo_L31, ct_2 hI, bd1_s, if_pos (nI_le (Nat.le_refl w) (by omega)), dr_6 hI hd (show 100 ≤ m by omega), bd1_s, dr_7 hI hd (show 100 ≤ m by omega), bd1_s, dr_1 hd, bd1_s, if_neg i10, dr_0 hI hd (show 100 ≤ m by omega), bd1_s, if_pos rfl, if_neg (show ¬ (8 : Int32) < nI (cntP (inHow v d 0) w) from nI_nlt (b := cntP (inHow v d 0) w) (a := 8) h8 (by decide)), dr_5 hI hd (show 100 ≤ m by omega), bd1_s, if_pos rfl, dr_3 hd, bd1_s]
  unfold f_L_areDrawersSo_J204
  rw [dr_4 hd, bd1_s, bd1_s]
  unfold f_L_areDrawersSo_J221
  rw [nI_1]
  rcases (hI.2.2.1 d hd).2.2 with ⟨h5, h6⟩ | ⟨x, y, hx, hy, hne, h5, h6⟩
  · rw [if_pos h5, if_pos h6, if_pos rfl, dr_3 hd, bd1_s, h5, if_pos (show (-6 : Int32) < 0 by decide)]
  · rw [if_neg (show ¬ v 5 d = -6 by rw [h5]; exact nI_ne6 (by omega)), if_neg (show ¬ v 6 d = -6 by rw [h6]; exact nI_ne6 (by omega)), if_pos rfl, dr_3 hd, bd1_s, if_neg (show ¬ v 5 d < 0 by rw [h5]; exact nI_pos (by omega)), bd1_s, dr_4 hd, bd1_s, if_neg (show ¬ v 5 d = v 6 d by rw [h5, h6]; exact fun e => hne ((nI_eq (by omega) (by omega)).mp e))]
/-- each letter lies in one drawer's column -/
theorem cnt_six (hI : INV v N w) (x : Int32) : ∀ u, u ≤ w → cntP (inHow v 0 x) u + cntP (inHow v 1 x) u + cntP (inHow v 2 x) u + cntP (inHow v 3 x) u + cntP (inHow v 4 x) u + cntP (inHow v 5 x) u = cntP (isP v x) u
  | 0, _ => rfl
  | u + 1, hu => by
    have ih := cnt_six hI x u (by omega)
    rw [cntP_succ, cntP_succ, cntP_succ, cntP_succ, cntP_succ, cntP_succ, cntP_succ]
    obtain ⟨⟨e7, d7⟩, -, -⟩ := hI.let (show u < w by omega)
    have key : ∀ d, d < 6 → inHow v d x u = (decide (tn (v 7 u) = d) && isP v x u) := by
      intro d hd
      unfold inHow isP
      congr 1
      rw [decide_eq_decide]
      constructor
      · intro e; rw [e, tn_nI (by omega)]
      · intro e; rw [e7, e]
    rw [key 0 (by decide), key 1 (by decide), key 2 (by decide), key 3 (by decide), key 4 (by decide), key 5 (by decide)]
    generalize isP v x u = b
    rcases (show tn (v 7 u) = 0 ∨ tn (v 7 u) = 1 ∨ tn (v 7 u) = 2 ∨ tn (v 7 u) = 3 ∨ tn (v 7 u) = 4 ∨ tn (v 7 u) = 5 by omega) with q | q | q | q | q | q <;> rw [q] <;> cases b <;> simp <;> omega
theorem cnt_three (hI : INV v N w) : ∀ u, u ≤ w → cntP (isP v 0) u + cntP (isP v 1) u + cntP (isP v 2) u = u
  | 0, _ => rfl
  | u + 1, hu => by
    have ih := cnt_three hI u (by omega)
    rw [cntP_succ, cntP_succ, cntP_succ]
    unfold isP at ih ⊢
    rcases how_cases hI (show u < w by omega) with q | q | q <;> rw [q] <;> simp <;> omega
theorem six_nI (a b c d e f : Nat) : (((((0 + nI a) + nI b) + nI c) + nI d) + nI e) + nI f = nI (a + b + c + d + e + f) := by
  rw [show (0 : Int32) + nI a = nI a from Int32.zero_add _, nI_add, nI_add, nI_add, nI_add, nI_add]
theorem lg_cmp_0 {x y : Int64} (h : x = y) : lg_cmp x y = 0 := by rw [h]; exact lg_cmp_self y
theorem sets_c (hI : INV v N w) {n : Nat} (hn : 100 ≤ n) : ∃ a b c, f_X6_letters n v 0 = some a ∧ f_X6_letters n v 1 = some b ∧ f_X6_letters n v 2 = some c ∧ a &&& b = 0 ∧ (a ||| b) ||| c = (1 <<< (Int32.toInt64 (nI w) &&& 63)) - 1 := by
  have h30 := hI.1.2.2
  obtain ⟨A, a1, a2, a3⟩ := lt_c hI (x := 0) (Or.inl rfl) hn
  obtain ⟨C, b1, b2, b3⟩ := lt_c hI (x := 1) (Or.inr (Or.inl rfl)) hn
  obtain ⟨D, c1, c2, c3⟩ := lt_c hI (x := 2) (Or.inr (Or.inr rfl)) hn
  refine ⟨lN A, lN C, lN D, a2, b2, c2, ?_, ?_⟩
  · rw [wb_and (by omega) (by omega)]
    have : A &&& C = 0 := Nat.eq_of_testBit_eq (fun j => by
      rw [Nat.testBit_and, a3, b3, Nat.zero_testBit]
      unfold isP
      by_cases q : v 11 j = 0
      · rw [q]; simp
      · rw [decide_eq_false q]; simp)
    rw [this]; rfl
  · rw [wb_or (by omega) (by omega), wb_or (Nat.or_lt_two_pow (by omega) (by omega)) (by omega), shl_bit (by omega), show (1 : Int64) = lN 1 from rfl, lN_sub Nat.one_le_two_pow]
    congr 1
    refine Nat.eq_of_testBit_eq (fun j => ?_)
    rw [Nat.testBit_or, Nat.testBit_or, a3, b3, c3, Nat.testBit_two_pow_sub_one]
    unfold isP
    by_cases q : j < w
    · rw [decide_eq_true q]
      rcases how_cases hI q with z | z | z <;> rw [z] <;> decide
    · rw [decide_eq_false q]; rfl
theorem drawers_c (hI : INV v N w) {n : Nat} (hn : 1000 ≤ n) : f_L_areDrawersSo n v = some (1, v) := by
  have h30 := hI.1.2.2
  obtain ⟨m, rfl⟩ : ∃ m, n = m + 7 := ⟨n - 7, by omega⟩
  unfold f_L_areDrawersSo
  rw [show f_L_areDrawersSo_L15 (m + 7) v 0 0 0 0 1 0 = _ from dl15 hI (d := 0) (n := m + 6) (by decide) (by omega) 0 0 0 0, dl15 hI (d := 1) (n := m + 5) (by decide) (by omega), dl15 hI (d := 2) (n := m + 4) (by decide) (by omega), dl15 hI (d := 3) (n := m + 3) (by decide) (by omega), dl15 hI (d := 4) (n := m + 2) (by decide) (by omega), dl15 hI (d := 5) (n := m + 1) (by decide) (by omega)]
  rw [six_nI, six_nI, six_nI, cnt_six hI 0 w (Nat.le_refl w), cnt_six hI 1 w (Nat.le_refl w), cnt_six hI 2 w (Nat.le_refl w)]
  have h3 := cnt_three hI w (Nat.le_refl w)
  obtain ⟨a, b, c, e0, e1, e2, e3, e4⟩ := sets_c hI (show 100 ≤ m by omega)
  obtain ⟨r, e5, e6⟩ := share_z hI (show 200 ≤ m by omega)
  rw [f_L_areDrawersSo_L15, if_pos (show (6 : Int32) ≤ nI (5 + 1) by decide), if_neg i10, ct_3 hI (show 100 ≤ m by omega), bd1_s, if_pos rfl, ct_4 hI (show 100 ≤ m by omega), bd1_s, if_pos rfl, ct_5 hI (show 100 ≤ m by omega), bd1_s, if_pos rfl, ct_6 hI (show 100 ≤ m by omega), bd1_s, if_pos (show (0 + v 4 0 + v 4 1 + v 4 2 + v 4 3 + v 4 4 + v 4 5 : Int32) = lp (stK v) 6 0 0 from rfl), ct_2 hI, bd1_s, nI_add, nI_add, h3, if_pos rfl, e0, bd1_s, e1, bd1_s, if_pos (lg_cmp_0 e3), bd1_s, bd1_s, e2, bd1_s, bd1_s, if_pos (lg_cmp_0 e4), e5, bd1_s]
  unfold f_L_areDrawersSo_J378
  have hc := cntP_le (isP v 1) w
  by_cases q : cntP (isP v 1) w = 0
  · rw [q, if_pos (show nI 0 = 0 from rfl), ct_2 hI, bd1_s]
    by_cases qw : w = 0
    · rw [if_neg (fun e => by have := (e6.mp e).1; omega), if_pos (show nI 0 = 0 from rfl), bd1_s, if_pos (show nI w ≤ 0 by rw [qw]; decide), if_pos rfl]
    · rw [if_pos (e6.mpr ⟨by omega, q⟩), if_neg (show ¬ nI w ≤ 0 from nI_ge (a := 0) (b := w) (by omega) (by omega)), if_pos rfl]
  · rw [if_neg (fun e => q (e6.mp e).2), if_neg (nI_ne0 (by omega) (by omega)), if_pos rfl]
end DRW
