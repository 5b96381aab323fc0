/-! Each letter is so. -/
/-- the desk with what was worked out, and the law's own row -/
def TB (v : DV) (c b : Nat → Int32) : DV := vs (vs v 14 c) 30 b
theorem TB_30 (v : DV) (c b : Nat → Int32) : vs (TB v c b) 30 ((TB v c b) 30) = TB v c b := vs_self _ _
theorem TB_b (v : DV) (c b : Nat → Int32) : (TB v c b) 30 = b := vs_s _ _ _
theorem TB_u (v : DV) (c b f : Nat → Int32) : vs (TB v c b) 30 f = TB v c f := vs_vs _ _ _ _
theorem TB_14 (v : DV) (c b c2 : Nat → Int32) : vs (vs (TB v c b) 14 c2) 30 ((TB v c b) 30) = TB v c2 b := by
  funext j
  by_cases q : j = 30
  · subst q; rfl
  · by_cases q2 : j = 14
    · subst q2; rfl
    · unfold TB
      rw [vs_o _ _ q, vs_o _ _ q2, vs_o _ _ q, vs_o _ _ q2, vs_o _ _ q, vs_o _ _ q2]
theorem lg_cmp_self (x : Int64) : lg_cmp x x = 0 := by
  simp [lg_cmp]
theorem sar_bit {M k : Nat} (hM : M < 2 ^ 30) (hk : k < 30) : ((lN M) >>> (Int32.toInt64 (nI k) &&& 63)) &&& 1 = lN (M / 2 ^ k % 2) := by
  have e : (lN M) >>> (Int32.toInt64 (nI k) &&& 63) = lN (M / 2 ^ k) := by
    rw [wb_c k (by omega)]
    apply wb_inj
    rw [Int64.toBitVec_shiftRight, wb_tb, wb_tb, wb_tb, wb_sm k (by omega)]
    apply BitVec.eq_of_toNat_eq
    rw [BitVec.sshiftRight_eq', BitVec.sshiftRight_eq_of_msb_false (by
      rw [BitVec.msb_eq_decide, BitVec.toNat_ofNat, Nat.mod_eq_of_lt (by omega)]
      exact decide_eq_false (by omega)), BitVec.toNat_ushiftRight, BitVec.toNat_ofNat, BitVec.toNat_ofNat, BitVec.toNat_ofNat, Nat.mod_eq_of_lt (show M < 2 ^ 64 by omega), Nat.mod_eq_of_lt (show k < 2 ^ 64 by omega), Nat.shiftRight_eq_div_pow, Nat.mod_eq_of_lt (Nat.lt_of_le_of_lt (Nat.div_le_self _ _) (show M < 2 ^ 64 by omega))]
  rw [e, wb_a1 (Nat.lt_of_le_of_lt (Nat.div_le_self _ _) (by omega))]
theorem sar_test {M k : Nat} (hM : M < 2 ^ 30) (hk : k < 30) : ((lN M) >>> (Int32.toInt64 (nI k) &&& 63)) &&& 1 = if M.testBit k = true then 1 else 0 := by
  rw [sar_bit hM hk, Nat.testBit_eq_decide_div_mod_eq]
  have : M / 2 ^ k % 2 = 0 ∨ M / 2 ^ k % 2 = 1 := by omega
  rcases this with e | e
  · rw [e]; rfl
  · rw [e]; rfl
section LT
variable {v : DV} {N w : Nat}
theorem INV_T (h : INV v N w) (c b : Nat → Int32) : INV (TB v c b) N w := INV_deq h (DEQ_of (fun j hj => by unfold TB; rw [vs_o _ _ (by omega), vs_o _ _ (by omega)]))
theorem t0 (h : INV v N w) (c b : Nat → Int32) {k : Nat} (hk : k < w) (n : Nat) : f_X6_ofLetter n (TB v c b) (nI k) 0 = some (v 7 k, TB v c b) := oL_0 (INV_T h c b) hk n
theorem t1 (h : INV v N w) (c b : Nat → Int32) {k : Nat} (hk : k < w) (n : Nat) : f_X6_ofLetter n (TB v c b) (nI k) 1 = some (v 8 k, TB v c b) := oL_1 (INV_T h c b) hk n
theorem t2 (h : INV v N w) (c b : Nat → Int32) {k : Nat} (hk : k < w) (n : Nat) : f_X6_ofLetter n (TB v c b) (nI k) 2 = some (heatS v k, TB v c b) := oL_2 (INV_T h c b) hk n
theorem t3 (h : INV v N w) (c b : Nat → Int32) {k : Nat} (hk : k < w) (n : Nat) : f_X6_ofLetter n (TB v c b) (nI k) 3 = some (v 9 k, TB v c b) := oL_3 (INV_T h c b) hk n
theorem t4 (h : INV v N w) (c b : Nat → Int32) {k : Nat} (hk : k < w) (n : Nat) : f_X6_ofLetter n (TB v c b) (nI k) 4 = some (v 11 k, TB v c b) := oL_4 (INV_T h c b) hk n
theorem t5 (h : INV v N w) (c b : Nat → Int32) {k : Nat} (hk : k < w) (n : Nat) : f_X6_ofLetter n (TB v c b) (nI k) 5 = some (v 12 k, TB v c b) := oL_5 (INV_T h c b) hk n
theorem t6 (h : INV v N w) (c b : Nat → Int32) {k : Nat} (hk : k < w) (n : Nat) : f_X6_ofLetter n (TB v c b) (nI k) 6 = some (v 10 k, TB v c b) := oL_6 (INV_T h c b) hk n
theorem depF_T (v : DV) (c b : Nat → Int32) : ∀ f k, depF (TB v c b) f k = depF v f k
  | 0, _ => rfl
  | f + 1, k => by
    show (if v 10 k = -6 then 0 else depF (TB v c b) f (tn (v 10 k)) + 1) = if v 10 k = -6 then 0 else depF v f (tn (v 10 k)) + 1
    rw [depF_T v c b f]
theorem t9 (h : INV v N w) (c b : Nat → Int32) {k : Nat} (hk : k < w) {n : Nat} (hn : 100 ≤ n) : f_X6_ofLetter n (TB v c b) (nI k) 9 = some (nI (dep v k), TB v c b) := by
  have := oL_9 (INV_T h c b) hk hn
  rwa [show dep (TB v c b) k = dep v k from depF_T v c b 40 k] at this
theorem t7 (h : INV v N w) (c b : Nat → Int32) {k : Nat} (hk : k < w) {n : Nat} (hn : 100 ≤ n) : ∃ c2, f_X6_ofLetter n (TB v c b) (nI k) 7 = some (RG v w k, vs (TB v c b) 14 c2) := oL_7 (INV_T h c b) hk hn
theorem lt_c (h : INV v N w) {x : Int32} (hx : x = 0 ∨ x = 1 ∨ x = 2) {n : Nat} (hn : 100 ≤ n) : ∃ M, M < 2 ^ 30 ∧ f_X6_letters n v x = some (lN M) ∧ ∀ j, M.testBit j = (decide (j < w) && isP v x j) := by
  obtain ⟨M, a, b, c⟩ := setOf_eq h x hn
  refine ⟨M, a, ?_, c⟩
  unfold f_X6_letters
  rcases hx with e | e | e <;> subst e
  · rw [if_pos rfl, b, bd1_s]
  · rw [if_neg i10, if_pos rfl, b, bd1_s]
  · rw [if_neg (show ¬ (2 : Int32) = 0 by decide), if_neg (show ¬ (2 : Int32) = 1 by decide), if_pos rfl, b, bd1_s]
theorem lt_3 (h : INV v N w) {n : Nat} (hn : 100 ≤ n) : ∃ M, M < 2 ^ 30 ∧ f_X6_letters n v 3 = some (lN M) ∧ ∀ j, M.testBit j = (decide (j < w) && goS v (N / 24) j) := by
  obtain ⟨M, a, b, c⟩ := swg_eq h hn
  refine ⟨M, a, ?_, c⟩
  unfold f_X6_letters
  rw [if_neg (show ¬ (3 : Int32) = 0 by decide), if_neg (show ¬ (3 : Int32) = 1 by decide), if_neg (show ¬ (3 : Int32) = 2 by decide), if_pos rfl, b, bd1_s]
/-- the law's row behind a letter -/
def bst (v : DV) (k : Nat) (x : Int32) (b : Nat → Int32) : Nat → Int32 := if v 10 k = -6 then b else upd b (tn (v 10 k)) (if x ≤ b (tn (v 10 k)) then b (tn (v 10 k)) else x)
theorem j396 (h : INV v N w) {k : Nat} (hk : k < w) (F : DV → Int32 → Int32 → Option (Int32 × DV)) (n : Nat) (c b : Nat → Int32) (x : Int32) : f_L_areLettersSo_J396 F n (TB v c b) (nI k) (v 10 k) x 1 = F (TB v c (bst v k x b)) 1 (nI k + -1) := by
  have h30 := h.1.2.2
  unfold f_L_areLettersSo_J396 bst
  rcases (h.2.2.2.1 k hk).2.2.2.1 with e | ⟨j, hj, e, -⟩
  · rw [e, if_pos (show (-6 : Int32) < 0 by decide), if_pos rfl]
  · rw [e, if_neg (nI_pos (by omega)), if_neg (nI_ne6 (by omega)), ixb_nI (show j < 30 by omega) (by decide), ck_t, clq (show j < 2 ^ 31 by omega), tn_nI (show j < 2 ^ 31 by omega), TB_b]
    by_cases q : x ≤ b j
    · rw [if_pos q, if_pos q, ck_t, ck_t, TB_u]
    · rw [if_neg q, if_neg q, ck_t, TB_u]
theorem j353 (h : INV v N w) {k : Nat} (hk : k < w) (F : DV → Int32 → Int32 → Option (Int32 × DV)) {n : Nat} (hn : 100 ≤ n) (c b : Nat → Int32) (x : Int32) : f_L_areLettersSo_J353 F n (TB v c b) (nI k) (v 11 k) (v 10 k) x (if goS v (N / 24) k = true then 1 else 0) = F (TB v c (bst v k x b)) 1 (nI k + -1) := by
  have h30 := h.1.2.2
  have hT := INV_T h c b
  obtain ⟨M, a1, a2, a3⟩ := lt_3 hT hn
  obtain ⟨M', b1, b2, b3⟩ := lt_c hT (x := v 11 k) (how_cases h hk) hn
  have e1 : M.testBit k = goS v (N / 24) k := by rw [a3 k, decide_eq_true hk, Bool.true_and]; rfl
  have e2 : M'.testBit k = true := by
    rw [b3 k, decide_eq_true hk, Bool.true_and]
    exact decide_eq_true rfl
  unfold f_L_areLettersSo_J353
  rw [a2, bd1_s, sar_test a1 (by omega), e1]
  have key : ∀ y : Int64, f_L_areLettersSo_J372 F n (TB v c b) (nI k) (v 11 k) (v 10 k) x y y = F (TB v c (bst v k x b)) 1 (nI k + -1) := by
    intro y
    unfold f_L_areLettersSo_J372
    rw [lg_cmp_self, if_pos rfl, b2, bd1_s, sar_test b1 (by omega), e2, if_pos rfl, if_pos (lg_cmp_self 1)]
    exact j396 h hk F n c b x
  by_cases q : goS v (N / 24) k = true
  · rw [if_pos q, if_neg i10, if_pos q]; exact key 1
  · rw [if_neg q, if_pos rfl, if_neg q]; exact key 0
theorem j275 (h : GD v N w) {k : Nat} (hk : k < w) (F : DV → Int32 → Int32 → Option (Int32 × DV)) {n : Nat} (hn : 100 ≤ n) (c b : Nat → Int32) (x y : Int32) : f_L_areLettersSo_J275 F n (TB v c b) (nI k) (v 11 k) (v 10 k) x y 1 = f_L_areLettersSo_J353 F n (TB v c b) (nI k) (v 11 k) (v 10 k) x y := by
  have hI := h.1
  have h30 := hI.1.2.2
  have hN := h.2.1
  unfold f_L_areLettersSo_J275
  rw [if_neg i10]
  rcases (hI.2.2.2.1 k hk).2.2.2.1 with e | ⟨j, hj, e, e1⟩
  · rw [if_pos e, t9 hI c b hk hn, bd2_s, dep_0 e, if_pos (show nI 0 = 0 from rfl), TB_30, e]
  · have hjw : j < w := by omega
    obtain ⟨⟨t, ht, et⟩, -⟩ := (h.2.2 j hjw).1 e1
    have hm := (h.2.2 k hk).2.2 j hj e
    obtain ⟨-, -, ⟨e9, d9⟩⟩ := hI.let hk
    rw [et, tn_nI (by omega)] at hm
    have hd := dep_le hI j hjw
    have hlt : ¬ v 9 k < v 12 j := by rw [et, e9]; exact nI_nlt hm (by omega)
    rw [if_neg (show ¬ v 10 k = -6 by rw [e]; exact nI_ne6 (by omega)), e, if_neg (show ¬ nI k ≤ nI j from nI_ge hj (by omega))]
    simp only [t4 hI c b hjw n, t9 hI c b hk hn, t9 hI c b hjw hn, t5 hI c b hjw n, t3 hI c b hk n, bd2_s, TB_30, dep_s hI hk hj e, nI_1, if_true, e1, if_neg hlt]
theorem j211 (h : GD v N w) {k : Nat} (hk : k < w) (F : DV → Int32 → Int32 → Option (Int32 × DV)) {n : Nat} (hn : 100 ≤ n) (c b : Nat → Int32) (y : Int32) (hb : RG v w k = if v 11 k = 1 then heatS v k + b k / 2 else 0) : f_L_areLettersSo_J200 F n (TB v c b) (nI k) (v 11 k) (v 10 k) (RG v w k) y = f_L_areLettersSo_J275 F n (TB v c b) (nI k) (v 11 k) (v 10 k) (RG v w k) y 1 := by
  have hI := h.1
  have h30 := hI.1.2.2
  have hN := h.2.1
  obtain ⟨m1, m2, -⟩ := h.2.2 k hk
  obtain ⟨-, ⟨e8, d8⟩, -⟩ := hI.let hk
  obtain ⟨z, hz, ez⟩ := heatS_B hI hk
  have hcool : ¬ v 8 k < heatS v k := by
    by_cases q : v 11 k = 1
    · have hh : heatS v k = v 13 k := by unfold heatS; rw [if_pos q]
      have := (m1 q).2
      rw [hh] at ez
      rw [hh, ez, e8]
      rw [ez, tn_nI (by omega)] at this
      exact nI_nlt this (by omega)
    · rw [heatS_N hI hk q, e8]
      rw [tn_nI (show tn (v 8 k) < 2 ^ 31 by omega)]
      exact nI_nlt (Nat.sub_le _ _) (by omega)
  unfold f_L_areLettersSo_J200 f_L_areLettersSo_J211 f_L_areLettersSo_J225
  by_cases q : v 11 k = 1
  · obtain ⟨⟨t, ht, et⟩, -⟩ := m1 q
    rw [if_pos q] at hb
    rw [if_pos q, t5 hI c b hk, bd2_s, TB_30, if_neg (show ¬ v 12 k < 0 by rw [et]; exact nI_pos (by omega)), if_pos rfl]
    simp only [t2 hI c b hk n, t1 hI c b hk n, bd2_s, TB_30, if_neg hcool, q, if_true, ixb_nI (show k < 30 by omega) (by decide), ck_t, clq (show k < 2 ^ 31 by omega)]
    unfold f_L_areLettersSo_J267
    rw [TB_b, if_pos hb]
  · rw [if_neg q] at hb
    have hr : RG v w k = 0 := hb
    rw [if_neg q, t5 hI c b hk, bd2_s, TB_30, m2 q, if_pos (show (-6 : Int32) < 0 by decide), if_pos rfl]
    simp only [t2 hI c b hk n, t1 hI c b hk n, bd2_s, TB_30, if_neg hcool, if_neg q]
    unfold f_L_areLettersSo_J267
    rw [if_pos hr]
theorem j168 (h : GD v N w) {k : Nat} (hk : k < w) (F : DV → Int32 → Int32 → Option (Int32 × DV)) {n : Nat} (hn : 100 ≤ n) (c b : Nat → Int32) (y : Int32) (hb : RG v w k = if v 11 k = 1 then heatS v k + b k / 2 else 0) : f_L_areLettersSo_J168 F n (TB v c b) 1 (nI k) (v 11 k) (v 10 k) (v 8 k - v 2 2 * (nI (N / 24) - v 9 k)) (RG v w k) y = f_L_areLettersSo_J275 F n (TB v c b) (nI k) (v 11 k) (v 10 k) (RG v w k) y 1 := by
  have hI := h.1
  have hN := h.2.1
  rw [← j211 h hk F hn c b y hb]
  unfold f_L_areLettersSo_J168
  rw [if_neg i10]
  by_cases q : v 11 k = 1
  · rw [if_pos q]
  · rw [if_neg q, t2 hI c b hk, bd2_s, TB_30]
    have eh : heatS v k = if 0 ≤ v 8 k - v 2 2 * (nI (N / 24) - v 9 k) then v 8 k - v 2 2 * (nI (N / 24) - v 9 k) else 0 := by
      unfold heatS
      rw [if_neg q, flip0, hI.1.1, today_nI (by omega)]
    unfold f_L_areLettersSo_J197
    by_cases q2 : 0 ≤ v 8 k - v 2 2 * (nI (N / 24) - v 9 k)
    · rw [if_pos q2] at eh
      rw [if_pos q2, if_pos eh]
    · rw [if_neg q2] at eh
      rw [if_neg q2, if_pos eh]
theorem j114 (h : GD v N w) {k : Nat} (hk : k < w) (F : DV → Int32 → Int32 → Option (Int32 × DV)) {n : Nat} (c b : Nat → Int32) (x7 x8 : Int32) : f_L_areLettersSo_J114 F n (TB v c b) 1 (nI k) (v 11 k) (v 10 k) (v 7 k) x7 x8 (if v 4 (tn (v 7 k)) = 0 then 1 else 0) = f_L_areLettersSo_J168 F n (TB v c b) 1 (nI k) (v 11 k) (v 10 k) x7 x8 (if goS v (N / 24) k = true then 1 else 0) := by
  have hI := h.1
  have h30 := hI.1.2.2
  have hN := h.2.1
  obtain ⟨⟨e7, d7⟩, ⟨e8, d8⟩, ⟨e9, d9⟩⟩ := hI.let hk
  obtain ⟨⟨r1, r2⟩, -⟩ := hI.dr (show tn (v 7 k) < 6 by omega)
  obtain ⟨-, ⟨c1, c2⟩, -⟩ := hI.st
  have hgo : goS v (N / 24) k = true ↔ v 11 k = 0 ∧ v 4 (tn (v 7 k)) = 0 ∧ tn (v 3 (tn (v 7 k))) ≤ N / 24 - tn (v 9 k) ∧ tn (v 8 k) - tn (v 2 2) * (N / 24 - tn (v 9 k)) ≤ tn (v 2 1) := by
    unfold goS
    rw [Bool.and_eq_true, Bool.and_eq_true, decide_eq_true_iff, decide_eq_true_iff, decide_eq_true_iff]
    have : rdy v k ≤ N / 24 ↔ _ := rdyN_iff (hh := tn (v 8 k)) (cc := tn (v 2 1)) (cl := tn (v 2 2)) (rs := tn (v 3 (tn (v 7 k)))) d9 (by omega)
    rw [this]
  have no : ¬ goS v (N / 24) k = true → f_L_areLettersSo_J167 F n (TB v c b) 1 (nI k) (v 11 k) (v 10 k) x7 x8 = f_L_areLettersSo_J168 F n (TB v c b) 1 (nI k) (v 11 k) (v 10 k) x7 x8 (if goS v (N / 24) k = true then 1 else 0) := by
    intro q
    rw [if_neg q]
    rfl
  unfold f_L_areLettersSo_J114
  by_cases q1 : v 11 k = 0
  · rw [if_pos q1]
    by_cases q2 : v 4 (tn (v 7 k)) = 0
    · have hdr : f_X6_ofDrawer n (TB v c b) (v 7 k) 2 = some (v 3 (tn (v 7 k))) := by
        have := dr_2 (show tn (v 7 k) < 6 by omega) (TB v c b) n
        rw [← e7] at this
        exact this
      have hsub : nI (N / 24) - v 9 k = nI (N / 24 - tn (v 9 k)) := by rw [e9, pk_sub d9, tn_nI (by omega)]
      have hne : v 11 k ≠ 1 := by rw [q1]; decide
      rw [if_pos q2, if_neg i10, ct_0 (INV_T hI c b), bd1_s, t3 hI c b hk, bd2_s, TB_30, hdr, bd1_s, hsub]
      by_cases q3 : N / 24 - tn (v 9 k) < tn (v 3 (tn (v 7 k)))
      · rw [if_pos (show nI (N / 24 - tn (v 9 k)) < v 3 (tn (v 7 k)) by rw [r1]; exact nI_lt q3 (by omega))]
        exact no (fun g => by have := (hgo.mp g).2.2.1; omega)
      · rw [if_neg (show ¬ nI (N / 24 - tn (v 9 k)) < v 3 (tn (v 7 k)) by rw [r1]; exact nI_nlt (by omega) (by omega)), t2 hI c b hk, bd2_s, TB_30, ct_8 (INV_T hI c b), bd1_s, show (TB v c b) 2 1 = v 2 1 from rfl]
        by_cases q4 : tn (v 2 1) < tn (v 8 k) - tn (v 2 2) * (N / 24 - tn (v 9 k))
        · rw [if_pos (show v 2 1 < heatS v k by rw [heatS_N hI hk hne, c1]; exact nI_lt q4 (by omega))]
          exact no (fun g => by have := (hgo.mp g).2.2.2; omega)
        · rw [if_neg (show ¬ v 2 1 < heatS v k by rw [heatS_N hI hk hne, c1]; exact nI_nlt (by omega) (by omega)), if_pos (hgo.mpr ⟨q1, q2, by omega, by omega⟩)]
    · rw [if_neg q2, if_pos rfl]
      exact no (fun g => q2 (hgo.mp g).2.1)
  · rw [if_neg q1]
    exact no (fun g => q1 (hgo.mp g).1)
set_option maxRecDepth 100000 in
theorem letters_1 (h : GD v N w) {k n : Nat} (hkw : k < w) (hn : 100 ≤ n) (c b : Nat → Int32) (hb : RG v w k = if v 11 k = 1 then heatS v k + b k / 2 else 0) : ∃ c2, f_L_areLettersSo_L33 (n + 1) (TB v c b) 1 (nI k) = f_L_areLettersSo_L33 n (TB v c2 (bst v k (RG v w k) b)) 1 (nI k + -1) := by
  have hI := h.1
  have h30 := hI.1.2.2
  obtain ⟨⟨e7, d7⟩, -, -⟩ := hI.let hkw
  obtain ⟨c2, e72⟩ := t7 hI c b hkw hn
  refine ⟨c2, ?_⟩
  have hdr : f_X6_ofDrawer n (TB v c2 b) (v 7 k) 1 = some (v 4 (tn (v 7 k))) := by
    have := dr_1 (show tn (v 7 k) < 6 by omega) (TB v c2 b) n
    rw [← e7] at this
    exact this
  rw [f_L_areLettersSo_L33, if_neg (nI_pos (by omega)), t4 hI c b hkw n, bd2_s, TB_30, t6 hI c b hkw n, bd2_s, TB_30, t0 hI c b hkw n, bd2_s, TB_30, t1 hI c b hkw n, bd2_s, TB_30, ct_9 (INV_T hI c b) n, bd1_s, ct_0 (INV_T hI c b) n, bd1_s, t3 hI c b hkw n, bd2_s, TB_30, e72, bd2_s, TB_14, hdr, bd1_s, show (TB v c b) 2 2 = v 2 2 from rfl]
  have fin : f_L_areLettersSo_J114 (fun v x1 x3 => f_L_areLettersSo_L33 n v x1 x3) n (TB v c2 b) 1 (nI k) (v 11 k) (v 10 k) (v 7 k) (v 8 k - v 2 2 * (nI (N / 24) - v 9 k)) (RG v w k) (if v 4 (tn (v 7 k)) = 0 then 1 else 0) = f_L_areLettersSo_L33 n (TB v c2 (bst v k (RG v w k) b)) 1 (nI k + -1) := by
    rw [j114 h hkw, j168 h hkw _ hn c2 b _ hb, j275 h hkw _ hn, j353 hI hkw _ hn]
  by_cases q : v 4 (tn (v 7 k)) = 0
  · rw [if_pos q] at fin ⊢; exact fin
  · rw [if_neg q] at fin ⊢; exact fin
theorem lettersT_L (h : GD v N w) : ∀ (k n : Nat) (c b G R : Nat → Int32), k ≤ w → k + 200 ≤ n → (∀ j, j < 30 → b j = G j) → RG v w = (rgF (sentB v) (heatS v) (v 10) k (G, R)).2 → ∃ c2 b2, f_L_areLettersSo_L33 n (TB v c b) 1 (nI k + -1) = some (1, TB v c2 b2) := by
  intro k
  induction k with
  | zero =>
    intro n c b G R _ hn _ _
    obtain ⟨n, rfl⟩ := up1 (show 0 < n by omega)
    rw [f_L_areLettersSo_L33, if_pos m1_neg]
    exact ⟨c, b, rfl⟩
  | succ k ih =>
    intro n c b G R hk hn hG hR
    obtain ⟨n, rfl⟩ := up1 (show 0 < n by omega)
    have h30 := h.1.1.2.2
    have hkw : k < w := by omega
    have hRk : RG v w k = if sentB v k = true then heatS v k + G k / 2 else 0 := by rw [hR, rg_at]
    have hb : RG v w k = if v 11 k = 1 then heatS v k + b k / 2 else 0 := by
      rw [hRk, hG k (by omega)]
      by_cases q : v 11 k = 1
      · rw [if_pos q, if_pos (sentB_iff.mpr q)]
      · rw [if_neg q, if_neg (fun e => q (sentB_iff.mp e))]
    obtain ⟨c2, e2⟩ := letters_1 h hkw (show 100 ≤ n by omega) c b hb
    rw [m1_step, e2]
    refine ih n c2 (bst v k (RG v w k) b) (rgStep (sentB v) (heatS v) (v 10) k (G, R)).1 (rgStep (sentB v) (heatS v) (v 10) k (G, R)).2 (by omega) (by omega) (fun j hj => ?_) hR
    show (if v 10 k = -6 then b else upd b (tn (v 10 k)) (if RG v w k ≤ b (tn (v 10 k)) then b (tn (v 10 k)) else RG v w k)) j = (if v 10 k = -6 then G else upd G (tn (v 10 k)) (if (if sentB v k = true then heatS v k + G k / 2 else 0) ≤ G (tn (v 10 k)) then G (tn (v 10 k)) else (if sentB v k = true then heatS v k + G k / 2 else 0))) j
    rw [← hRk]
    by_cases q : v 10 k = -6
    · rw [if_pos q, if_pos q]; exact hG j hj
    · rw [if_neg q, if_neg q]
      by_cases qt : j = tn (v 10 k)
      · rw [← qt, upd_s, upd_s, hG j hj]
      · rw [upd_o _ _ qt, upd_o _ _ qt]; exact hG j hj
theorem letters_c (h : GD v N w) {n : Nat} (hn : 1000 ≤ n) : ∃ c b, f_L_areLettersSo n v = some (1, TB v c b) := by
  have hI := h.1
  have h30 := hI.1.2.2
  unfold f_L_areLettersSo
  rw [ct_2 hI, bd1_s, oL_no hI, bd2_s, if_pos rfl]
  unfold f_L_areLettersSo_J19
  have e : vs v 30 (fun _ => (0 : Int32)) = TB v (v 14) (fun _ => 0) := by unfold TB; rw [vs_self]
  rw [e, ct_2 (INV_T hI _ _), bd1_s, show nI w - 1 = nI w + -1 from Int32.sub_eq_add_neg _ _]
  exact lettersT_L h w n (v 14) (fun _ => 0) (fun _ => 0) (fun _ => 0) (Nat.le_refl w) (by omega) (fun _ _ => rfl) rfl
end LT
