/-! The object alone: what each reading call answers of a sound desk. -/
theorem vs_v (u : DV) (k : Nat) (f : Nat → Int32) (h : f = u k) : vs u k f = u := by
  subst h; exact vs_self u k
theorem mx_c14 (v : DV) (c : Nat → Int32) : mx [0, 1, 2, 3, 4, 5, 6, 7, 8, 9, 10, 11, 12, 13, 14] v (vs v 14 c) = vs v 14 c := by
  funext j
  by_cases q : j = 14
  · subst q; rfl
  · rw [mx_14 _ _ q, vs_o _ _ q]
theorem isM_1 {d : Nat} (hd : d < 6) : f_X6_isMood (nI d) = 1 := by
  rcases isMood_cases (nI d) with ⟨-, ne⟩ | ⟨e, -⟩
  · exact absurd ⟨d, hd, rfl⟩ ne
  · exact e
theorem i10 : ¬ (1 : Int32) = 0 := by decide
section OBJ
variable {v : DV} {N w : Nat}
theorem ct_0 (h : INV v N w) (n : Nat) : f_X6_count n v 0 = some (nI (N / 24)) := by
  have hN := h.2.2.2.2.2
  unfold f_X6_count
  rw [if_pos rfl, show f_X0_today v = nI N / 24 by rw [← h.1.1]; rfl, today_nI (by omega)]
theorem ct_1 (h : INV v N w) (n : Nat) : f_X6_count n v 1 = some (nI (N % 24)) := by
  have hN := h.2.2.2.2.2
  unfold f_X6_count
  rw [if_neg (show ¬ (1 : Int32) = 0 by decide), if_pos rfl, show f_X0_hourOfDay v = nI N - nI N / 24 * 24 by rw [← h.1.1]; rfl, hour_nI (by omega)]
theorem ct_2 (h : INV v N w) (n : Nat) : f_X6_count n v 2 = some (nI w) := by
  have hN := h.2.2.2.2.2
  unfold f_X6_count
  rw [if_neg (show ¬ (2 : Int32) = 0 by decide), if_neg (show ¬ (2 : Int32) = 1 by decide), if_pos rfl, h.1.2.1]
theorem ct_3 (h : INV v N w) {n : Nat} (hn : 100 ≤ n) : f_X6_count n v 3 = some (nI (cntP (isP v 0) w)) := by
  have hN := h.2.2.2.2.2
  obtain ⟨M, a, b⟩ := setCnt_eq h 0 hn
  unfold f_X6_count
  rw [if_neg (show ¬ (3 : Int32) = 0 by decide), if_neg (show ¬ (3 : Int32) = 1 by decide), if_neg (show ¬ (3 : Int32) = 2 by decide), if_pos rfl, a, bd1_s, b]
theorem ct_4 (h : INV v N w) {n : Nat} (hn : 100 ≤ n) : f_X6_count n v 4 = some (nI (cntP (isP v 1) w)) := by
  have hN := h.2.2.2.2.2
  obtain ⟨M, a, b⟩ := setCnt_eq h 1 hn
  unfold f_X6_count
  rw [if_neg (show ¬ (4 : Int32) = 0 by decide), if_neg (show ¬ (4 : Int32) = 1 by decide), if_neg (show ¬ (4 : Int32) = 2 by decide), if_neg (show ¬ (4 : Int32) = 3 by decide), if_pos rfl, a, bd1_s, b]
theorem ct_5 (h : INV v N w) {n : Nat} (hn : 100 ≤ n) : f_X6_count n v 5 = some (nI (cntP (isP v 2) w)) := by
  have hN := h.2.2.2.2.2
  obtain ⟨M, a, b⟩ := setCnt_eq h 2 hn
  unfold f_X6_count
  rw [if_neg (show ¬ (5 : Int32) = 0 by decide), if_neg (show ¬ (5 : Int32) = 1 by decide), if_neg (show ¬ (5 : Int32) = 2 by decide), if_neg (show ¬ (5 : Int32) = 3 by decide), if_neg (show ¬ (5 : Int32) = 4 by decide), if_pos rfl, a, bd1_s, b]
theorem ct_6 (h : INV v N w) {n : Nat} (hn : 100 ≤ n) : f_X6_count n v 6 = some (lp (stK v) 6 0 0) := by
  have hN := h.2.2.2.2.2
  unfold f_X6_count
  rw [if_neg (show ¬ (6 : Int32) = 0 by decide), if_neg (show ¬ (6 : Int32) = 1 by decide), if_neg (show ¬ (6 : Int32) = 2 by decide), if_neg (show ¬ (6 : Int32) = 3 by decide), if_neg (show ¬ (6 : Int32) = 4 by decide), if_neg (show ¬ (6 : Int32) = 5 by decide), if_pos rfl, show f_X1_howManyLocked n v = some (lp (stK v) 6 0 0) from howMany_L v 6 0 n 0 rfl (by omega), bd1_s]
theorem ct_8 (h : INV v N w) (n : Nat) : f_X6_count n v 8 = some (v 2 1) := by
  have hN := h.2.2.2.2.2
  unfold f_X6_count
  rw [if_neg (show ¬ (8 : Int32) = 0 by decide), if_neg (show ¬ (8 : Int32) = 1 by decide), if_neg (show ¬ (8 : Int32) = 2 by decide), if_neg (show ¬ (8 : Int32) = 3 by decide), if_neg (show ¬ (8 : Int32) = 4 by decide), if_neg (show ¬ (8 : Int32) = 5 by decide), if_neg (show ¬ (8 : Int32) = 6 by decide), if_neg (show ¬ (8 : Int32) = 7 by decide), if_pos rfl, cl_1]
theorem ct_9 (h : INV v N w) (n : Nat) : f_X6_count n v 9 = some (v 2 2) := by
  have hN := h.2.2.2.2.2
  unfold f_X6_count
  rw [if_neg (show ¬ (9 : Int32) = 0 by decide), if_neg (show ¬ (9 : Int32) = 1 by decide), if_neg (show ¬ (9 : Int32) = 2 by decide), if_neg (show ¬ (9 : Int32) = 3 by decide), if_neg (show ¬ (9 : Int32) = 4 by decide), if_neg (show ¬ (9 : Int32) = 5 by decide), if_neg (show ¬ (9 : Int32) = 6 by decide), if_neg (show ¬ (9 : Int32) = 7 by decide), if_neg (show ¬ (9 : Int32) = 8 by decide), if_pos rfl, cl_2]
theorem oL_0 (h : INV v N w) {k : Nat} (hk : k < w) (n : Nat) : f_X6_ofLetter n v (nI k) 0 = some (v 7 k, v) := by
  have h30 := h.1.2.2
  unfold f_X6_ofLetter
  rw [isL_1 h hk, if_neg i10, if_pos rfl, ixb_nI (show k < 30 by omega) (by decide), ck_t, clq (show k < 2 ^ 31 by omega)]
theorem oL_1 (h : INV v N w) {k : Nat} (hk : k < w) (n : Nat) : f_X6_ofLetter n v (nI k) 1 = some (v 8 k, v) := by
  have h30 := h.1.2.2
  unfold f_X6_ofLetter
  rw [isL_1 h hk, if_neg i10, if_neg (show ¬ (1 : Int32) = 0 by decide), if_pos rfl, ixb_nI (show k < 30 by omega) (by decide), ck_t, clq (show k < 2 ^ 31 by omega)]
theorem oL_3 (h : INV v N w) {k : Nat} (hk : k < w) (n : Nat) : f_X6_ofLetter n v (nI k) 3 = some (v 9 k, v) := by
  have h30 := h.1.2.2
  unfold f_X6_ofLetter
  rw [isL_1 h hk, if_neg i10, if_neg (show ¬ (3 : Int32) = 0 by decide), if_neg (show ¬ (3 : Int32) = 1 by decide), if_neg (show ¬ (3 : Int32) = 2 by decide), if_pos rfl, ixb_nI (show k < 30 by omega) (by decide), ck_t, clq (show k < 2 ^ 31 by omega)]
theorem oL_4 (h : INV v N w) {k : Nat} (hk : k < w) (n : Nat) : f_X6_ofLetter n v (nI k) 4 = some (v 11 k, v) := by
  have h30 := h.1.2.2
  unfold f_X6_ofLetter
  rw [isL_1 h hk, if_neg i10, if_neg (show ¬ (4 : Int32) = 0 by decide), if_neg (show ¬ (4 : Int32) = 1 by decide), if_neg (show ¬ (4 : Int32) = 2 by decide), if_neg (show ¬ (4 : Int32) = 3 by decide), if_pos rfl, ixb_nI (show k < 30 by omega) (by decide), ck_t, clq (show k < 2 ^ 31 by omega)]
theorem oL_5 (h : INV v N w) {k : Nat} (hk : k < w) (n : Nat) : f_X6_ofLetter n v (nI k) 5 = some (v 12 k, v) := by
  have h30 := h.1.2.2
  unfold f_X6_ofLetter
  rw [isL_1 h hk, if_neg i10, if_neg (show ¬ (5 : Int32) = 0 by decide), if_neg (show ¬ (5 : Int32) = 1 by decide), if_neg (show ¬ (5 : Int32) = 2 by decide), if_neg (show ¬ (5 : Int32) = 3 by decide), if_neg (show ¬ (5 : Int32) = 4 by decide), if_pos rfl, ixb_nI (show k < 30 by omega) (by decide), ck_t, clq (show k < 2 ^ 31 by omega)]
theorem oL_6 (h : INV v N w) {k : Nat} (hk : k < w) (n : Nat) : f_X6_ofLetter n v (nI k) 6 = some (v 10 k, v) := by
  have h30 := h.1.2.2
  unfold f_X6_ofLetter
  rw [isL_1 h hk, if_neg i10, if_neg (show ¬ (6 : Int32) = 0 by decide), if_neg (show ¬ (6 : Int32) = 1 by decide), if_neg (show ¬ (6 : Int32) = 2 by decide), if_neg (show ¬ (6 : Int32) = 3 by decide), if_neg (show ¬ (6 : Int32) = 4 by decide), if_neg (show ¬ (6 : Int32) = 5 by decide), if_pos rfl, ixb_nI (show k < 30 by omega) (by decide), ck_t, clq (show k < 2 ^ 31 by omega)]
theorem oL_2 (h : INV v N w) {k : Nat} (hk : k < w) (n : Nat) : f_X6_ofLetter n v (nI k) 2 = some (heatS v k, v) := by
  have h30 := h.1.2.2
  unfold f_X6_ofLetter
  rw [isL_1 h hk, if_neg i10, if_neg (show ¬ (2 : Int32) = 0 by decide), if_neg (show ¬ (2 : Int32) = 1 by decide), if_pos rfl, heatNow_eq v (show k < 30 by omega), bd1_s]
/-- the regrets -/
def RG (v : DV) (w : Nat) : Nat → Int32 := (rgF (sentB v) (heatS v) (v 10) w ((fun _ => 0), (fun _ => 0))).2
theorem workRG (h : INV v N w) {n : Nat} (hn : 100 ≤ n) : ∃ c, f_X5_workOut n v (-6) = some (vs v 14 c) ∧ ∀ j, j < 30 → c j = RG v w j :=
  workOut_eq h (-6) (sentB v) (fun k hk => sentB_iff.trans ⟨Or.inl, fun e => e.elim id (fun e => absurd e (isL_not6 k (by have := h.1.2.2; omega)))⟩) hn _ _ (fun _ _ => ⟨rfl, rfl⟩)
theorem oL_7 (h : INV v N w) {k : Nat} (hk : k < w) {n : Nat} (hn : 100 ≤ n) : ∃ c, f_X6_ofLetter n v (nI k) 7 = some (RG v w k, vs v 14 c) := by
  have h30 := h.1.2.2
  obtain ⟨c, c1, c2⟩ := workRG h hn
  refine ⟨c, ?_⟩
  unfold f_X6_ofLetter f_X5_ofSent
  rw [isL_1 h hk, if_neg i10, if_neg (show ¬ (7 : Int32) = 0 by decide), if_neg (show ¬ (7 : Int32) = 1 by decide), if_neg (show ¬ (7 : Int32) = 2 by decide), if_neg (show ¬ (7 : Int32) = 3 by decide), if_neg (show ¬ (7 : Int32) = 4 by decide), if_neg (show ¬ (7 : Int32) = 5 by decide), if_neg (show ¬ (7 : Int32) = 6 by decide), if_pos rfl, c1, bd1_s, ixb_nI (show k < 30 by omega) (by decide), ck_t, bd2_s, clq (show k < 2 ^ 31 by omega), vs_s, c2 k (by omega), mx_c14]
/-- how deep a letter lies -/
def depF (v : DV) : Nat → Nat → Nat
  | 0, _ => 0
  | f + 1, k => if v 10 k = -6 then 0 else depF v f (tn (v 10 k)) + 1
theorem depF_up (h : INV v N w) : ∀ (k f g : Nat), k < w → k < f → k < g → depF v f k = depF v g k := by
  intro k
  induction k using Nat.strongRecOn with
  | ind k ih =>
    intro f g hk hf hg
    obtain ⟨f, rfl⟩ := up1 (show 0 < f by omega)
    obtain ⟨g, rfl⟩ := up1 (show 0 < g by omega)
    show (if v 10 k = -6 then 0 else depF v f (tn (v 10 k)) + 1) = if v 10 k = -6 then 0 else depF v g (tn (v 10 k)) + 1
    have h30 := h.1.2.2
    obtain ⟨-, -, -, ha, -⟩ := h.2.2.2.1 k hk
    rcases ha with e | ⟨j, hj, e, -⟩
    · rw [if_pos e, if_pos e]
    · have hne : ¬ v 10 k = -6 := by rw [e]; exact nI_ne6 (by omega)
      rw [if_neg hne, if_neg hne, e, tn_nI (show j < 2 ^ 31 by omega), ih j hj f g (by omega) (by omega) (by omega)]
def dep (v : DV) (k : Nat) : Nat := depF v 40 k
theorem dep_0 {k : Nat} (e : v 10 k = -6) : dep v k = 0 := if_pos e
theorem dep_s (h : INV v N w) {k j : Nat} (hk : k < w) (hj : j < k) (e : v 10 k = nI j) : dep v k = dep v j + 1 := by
  have h30 := h.1.2.2
  show (if v 10 k = -6 then 0 else depF v 39 (tn (v 10 k)) + 1) = depF v 40 j + 1
  rw [if_neg (by rw [e]; exact nI_ne6 (by omega)), e, tn_nI (show j < 2 ^ 31 by omega), depF_up h j 39 40 (by omega) (by omega) (by omega)]
theorem dep_le (h : INV v N w) : ∀ k, k < w → dep v k ≤ k := by
  intro k
  induction k using Nat.strongRecOn with
  | ind k ih =>
    intro hk
    obtain ⟨-, -, -, ha, -⟩ := h.2.2.2.1 k hk
    rcases ha with e | ⟨j, hj, e, -⟩
    · rw [dep_0 e]; exact Nat.zero_le k
    · rw [dep_s h hk hj e]
      have := ih j hj (by omega)
      omega
theorem dep_L (h : INV v N w) : ∀ (k c n : Nat), k < w → c + k < 30 → k + 1 < n → f_X3_depthOf_L9 n v (nI c) (v 10 k) = some (nI (c + dep v k)) := by
  intro k
  induction k using Nat.strongRecOn with
  | ind k ih =>
    intro c n hk hc hn
    obtain ⟨n, rfl⟩ := up1 (show 0 < n by omega)
    have h30 := h.1.2.2
    rw [f_X3_depthOf_L9]
    obtain ⟨-, -, -, ha, -⟩ := h.2.2.2.1 k hk
    rcases ha with e | ⟨j, hj, e, -⟩
    · rw [e, isL_none, if_pos rfl, dep_0 e, Nat.add_zero]
    · rw [dep_s h hk hj e, e, isL_1 h (show j < w by omega), if_neg i10, if_neg (show ¬ (30 : Int32) ≤ nI c from nI_ge (a := c) (b := 30) (by omega) (by decide)), ixb_nI (show j < 30 by omega) (by decide), ck_t, clq (show j < 2 ^ 31 by omega), nI_1, ih j hj (c + 1) n (by omega) (by omega) (by omega)]
      congr 2
      omega
theorem oL_9 (h : INV v N w) {k : Nat} (hk : k < w) {n : Nat} (hn : 100 ≤ n) : f_X6_ofLetter n v (nI k) 9 = some (nI (dep v k), v) := by
  have h30 := h.1.2.2
  unfold f_X6_ofLetter f_X3_depthOf
  rw [isL_1 h hk, if_neg i10, if_neg (show ¬ (9 : Int32) = 0 by decide), if_neg (show ¬ (9 : Int32) = 1 by decide), if_neg (show ¬ (9 : Int32) = 2 by decide), if_neg (show ¬ (9 : Int32) = 3 by decide), if_neg (show ¬ (9 : Int32) = 4 by decide), if_neg (show ¬ (9 : Int32) = 5 by decide), if_neg (show ¬ (9 : Int32) = 6 by decide), if_neg (show ¬ (9 : Int32) = 7 by decide), if_neg (show ¬ (9 : Int32) = 8 by decide), if_pos rfl, ixb_nI (show k < 30 by omega) (by decide), ck_t, clq (show k < 2 ^ 31 by omega), show f_X3_depthOf_L9 n v 0 (v 10 k) = _ from dep_L h k 0 n hk (by omega) (by omega), bd1_s, Nat.zero_add]
theorem oL_no (h : INV v N w) (n : Nat) (x : Int32) : f_X6_ofLetter n v (nI w) x = some (-1, v) := by
  have h30 := h.1.2.2
  unfold f_X6_ofLetter
  rcases isL_cases h (nI w) with ⟨e, -⟩ | ⟨-, k, hk, e⟩
  · rw [e, if_pos rfl]
  · exact absurd ((nI_eq (by omega) (by omega)).mp e) (by omega)
theorem dr_1 {d : Nat} (hd : d < 6) (v : DV) (n : Nat) : f_X6_ofDrawer n v (nI d) 1 = some (v 4 d) := by
  unfold f_X6_ofDrawer
  rw [isM_1 hd, if_neg i10, if_neg (show ¬ (1 : Int32) = 0 by decide), if_pos rfl, ixb_nI hd (by decide), ck_t, clq (show d < 2 ^ 31 by omega)]
theorem dr_2 {d : Nat} (hd : d < 6) (v : DV) (n : Nat) : f_X6_ofDrawer n v (nI d) 2 = some (v 3 d) := by
  unfold f_X6_ofDrawer
  rw [isM_1 hd, if_neg i10, if_neg (show ¬ (2 : Int32) = 0 by decide), if_neg (show ¬ (2 : Int32) = 1 by decide), if_pos rfl, ixb_nI hd (by decide), ck_t, clq (show d < 2 ^ 31 by omega)]
theorem dr_3 {d : Nat} (hd : d < 6) (v : DV) (n : Nat) : f_X6_ofDrawer n v (nI d) 3 = some (v 5 d) := by
  unfold f_X6_ofDrawer
  rw [isM_1 hd, if_neg i10, if_neg (show ¬ (3 : Int32) = 0 by decide), if_neg (show ¬ (3 : Int32) = 1 by decide), if_neg (show ¬ (3 : Int32) = 2 by decide), if_pos rfl, ixb_nI hd (by decide), ck_t, clq (show d < 2 ^ 31 by omega)]
theorem dr_4 {d : Nat} (hd : d < 6) (v : DV) (n : Nat) : f_X6_ofDrawer n v (nI d) 4 = some (v 6 d) := by
  unfold f_X6_ofDrawer
  rw [isM_1 hd, if_neg i10, if_neg (show ¬ (4 : Int32) = 0 by decide), if_neg (show ¬ (4 : Int32) = 1 by decide), if_neg (show ¬ (4 : Int32) = 2 by decide), if_neg (show ¬ (4 : Int32) = 3 by decide), if_pos rfl, ixb_nI hd (by decide), ck_t, clq (show d < 2 ^ 31 by omega)]
def inHow (v : DV) (d : Nat) (x : Int32) (j : Nat) : Bool := decide (v 7 j = nI d) && decide (v 11 j = x)
theorem dr_0 (h : INV v N w) {d : Nat} (hd : d < 6) {n : Nat} (hn : 100 ≤ n) : f_X6_ofDrawer n v (nI d) 0 = some (nI (cntP (inHow v d 0) w)) := by
  unfold f_X6_ofDrawer
  rw [isM_1 hd, if_neg i10, if_pos rfl, ofMood_eq h (nI d) 0 hn, bd1_s, stM_cnt]
  rfl
theorem dr_6 (h : INV v N w) {d : Nat} (hd : d < 6) {n : Nat} (hn : 100 ≤ n) : f_X6_ofDrawer n v (nI d) 6 = some (nI (cntP (inHow v d 1) w)) := by
  unfold f_X6_ofDrawer
  rw [isM_1 hd, if_neg i10, if_neg (show ¬ (6 : Int32) = 0 by decide), if_neg (show ¬ (6 : Int32) = 1 by decide), if_neg (show ¬ (6 : Int32) = 2 by decide), if_neg (show ¬ (6 : Int32) = 3 by decide), if_neg (show ¬ (6 : Int32) = 4 by decide), if_neg (show ¬ (6 : Int32) = 5 by decide), if_pos rfl, ofMood_eq h (nI d) 1 hn, bd1_s, stM_cnt]
  rfl
theorem dr_7 (h : INV v N w) {d : Nat} (hd : d < 6) {n : Nat} (hn : 100 ≤ n) : f_X6_ofDrawer n v (nI d) 7 = some (nI (cntP (inHow v d 2) w)) := by
  unfold f_X6_ofDrawer
  rw [isM_1 hd, if_neg i10, if_neg (show ¬ (7 : Int32) = 0 by decide), if_neg (show ¬ (7 : Int32) = 1 by decide), if_neg (show ¬ (7 : Int32) = 2 by decide), if_neg (show ¬ (7 : Int32) = 3 by decide), if_neg (show ¬ (7 : Int32) = 4 by decide), if_neg (show ¬ (7 : Int32) = 5 by decide), if_neg (show ¬ (7 : Int32) = 6 by decide), if_pos rfl, ofMood_eq h (nI d) 2 hn, bd1_s, stM_cnt]
  rfl
theorem dr_5 (h : INV v N w) {d : Nat} (hd : d < 6) {n : Nat} (hn : 100 ≤ n) : f_X6_ofDrawer n v (nI d) 5 = some (lp (stD v (nI d)) w 0 0) := by
  have h30 := h.1.2.2
  unfold f_X6_ofDrawer f_X0_heatInDrawer
  rw [isM_1 hd, if_neg i10, if_neg (show ¬ (5 : Int32) = 0 by decide), if_neg (show ¬ (5 : Int32) = 1 by decide), if_neg (show ¬ (5 : Int32) = 2 by decide), if_neg (show ¬ (5 : Int32) = 3 by decide), if_neg (show ¬ (5 : Int32) = 4 by decide), if_pos rfl, show f_X0_heatInDrawer_L4 n v (nI d) 0 0 = _ from heatInDrawer_L v h.1.2.1 h30 (nI d) w 0 n 0 (by omega) (by omega), bd1_s]
end OBJ
