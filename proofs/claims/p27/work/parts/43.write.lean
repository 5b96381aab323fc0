/-! write. -/
theorem cntP_succ (p : Nat → Bool) (w : Nat) : cntP p (w + 1) = cntP p w + (if p w then 1 else 0) := by
  have gen : ∀ r i a, lp (fun j a => if p j then a + 1 else a) (r + 1) i a = lp (fun j a => if p j then a + 1 else a) r i a + (if p (i + r) then 1 else 0) := by
    intro r
    induction r with
    | zero =>
      intro i a
      show (if p i then a + 1 else a) = a + (if p i then 1 else 0)
      by_cases h : p i = true
      · rw [if_pos h, if_pos h]
      · rw [if_neg h, if_neg h, Nat.add_zero]
    | succ r ih =>
      intro i a
      show lp (fun j a => if p j then a + 1 else a) (r + 1) (i + 1) _ = lp (fun j a => if p j then a + 1 else a) r (i + 1) _ + _
      rw [ih, show i + 1 + r = i + (r + 1) by omega]
  have := gen w 0 0
  rw [Nat.zero_add] at this
  exact this
section WR
variable {k : Nat} {v : DV} {l : List DV} {sv : Nat → Option DV} {m : DV}
/-- the new letter -/
def newL (v : DV) (w : Nat) (a b c d : Int32) : DV := vs (vs (vs (vs (vs (vs (vs v 7 (upd (v 7) w a)) 8 (upd (v 8) w b)) 9 (upd (v 9) w d)) 10 (upd (v 10) w c)) 11 (upd (v 11) w 0)) 12 (upd (v 12) w (-6))) 1 (fun _ => nI (w + 1))
def newR (s : Nat → Int32) (w : Nat) (a b c d : Int32) : Nat → Int32 := upd (upd (upd (upd (upd (upd (upd (upd s (30 + 7 * w) a) (31 + 7 * w) b) (32 + 7 * w) d) (33 + 7 * w) 0) (34 + 7 * w) (-6)) (35 + 7 * w) c) (36 + 7 * w) 0) 5 (nI (w + 1))
theorem newR_lo (s : Nat → Int32) (w : Nat) (a b c d : Int32) {j : Nat} (h5 : j ≠ 5) (hj : j < 30 + 7 * w) : newR s w a b c d j = s j := by
  unfold newR
  rw [upd_o _ _ h5, upd_o _ _ (show j ≠ 36 + 7 * w by omega), upd_o _ _ (show j ≠ 35 + 7 * w by omega), upd_o _ _ (show j ≠ 34 + 7 * w by omega), upd_o _ _ (show j ≠ 33 + 7 * w by omega), upd_o _ _ (show j ≠ 32 + 7 * w by omega), upd_o _ _ (show j ≠ 31 + 7 * w by omega), upd_o _ _ (show j ≠ 30 + 7 * w by omega)]
theorem new_INV {N w : Nat} (hI : INV v N w) (hw : w < 30) {d : Nat} (hd : d < 6) {p2 p3 : Int32} (hb : B p2 99) (ha : p3 = -6 ∨ ∃ j : Nat, j < w ∧ p3 = nI j ∧ v 11 j = 1) (hc : cntP (inDr v d) w < 8) : INV (newL v w (nI d) p2 p3 (nI (N / 24))) N (w + 1) := by
  obtain ⟨⟨h0, h1, h30⟩, h2, h3, h4, h5, h6⟩ := hI
  refine ⟨⟨h0, rfl, by omega⟩, h2, h3, fun j hj => ?_, fun e he => ?_, h6⟩
  · show B (upd (v 7) w (nI d) j) 5 ∧ B (upd (v 8) w p2 j) 99 ∧ B (upd (v 9) w (nI (N / 24)) j) (N / 24) ∧ (upd (v 10) w p3 j = -6 ∨ ∃ i : Nat, i < j ∧ upd (v 10) w p3 j = nI i ∧ upd (v 11) w 0 i = 1) ∧ B (upd (v 11) w 0 j) 2 ∧ (upd (v 11) w 0 j = 1 → B (v 13 j) 99)
    by_cases q : j = w
    · subst q
      rw [upd_s, upd_s, upd_s, upd_s, upd_s]
      refine ⟨B_nI (by omega), hb, B_nI (Nat.le_refl _), ?_, B_lit0, fun e => absurd e (by decide)⟩
      rcases ha with e | ⟨i, hi, e, e2⟩
      · exact Or.inl e
      · exact Or.inr ⟨i, hi, e, by rw [upd_o _ _ (by omega)]; exact e2⟩
    · rw [upd_o _ _ q, upd_o _ _ q, upd_o _ _ q, upd_o _ _ q, upd_o _ _ q]
      obtain ⟨k1, k2, k3, k4, k5, k6⟩ := h4 j (by omega)
      refine ⟨k1, k2, k3, ?_, k5, k6⟩
      rcases k4 with e | ⟨i, hi, e, e2⟩
      · exact Or.inl e
      · exact Or.inr ⟨i, hi, e, by rw [upd_o _ _ (by omega)]; exact e2⟩
  · rw [cntP_succ, cntP_congr (q := inDr v e) (fun j hj => by
      show (decide (upd (v 7) w (nI d) j = nI e) && decide (upd (v 11) w 0 j = 0)) = _
      rw [upd_o _ _ (by omega), upd_o _ _ (by omega)]; rfl)]
    have e1 : inDr (newL v w (nI d) p2 p3 (nI (N / 24))) e w = decide (nI d = nI e) := by
      show (decide (upd (v 7) w (nI d) w = nI e) && decide (upd (v 11) w 0 w = 0)) = _
      rw [upd_s, upd_s, decide_eq_true (show (0 : Int32) = 0 from rfl), Bool.and_true]
    rw [e1]
    by_cases q : e = d
    · subst q
      rw [decide_eq_true rfl]
      simp only [if_true]
      omega
    · rw [decide_eq_false (fun h => q ((nI_eq (by omega) (by omega)).mp h).symm)]
      have := h5 e he
      simp only [Bool.false_eq_true, if_false]
      omega
theorem new_REL {N w : Nat} {s : Nat → Int32} (hR : REL v s N w) (hw : w < 30) (a b c : Int32) : REL (newL v w a b c (nI (N / 24))) (newR s w a b c (nI (N / 24))) N (w + 1) := by
  obtain ⟨⟨a0, a1, a2, a3, a4, a5⟩, hd, hl⟩ := hR
  refine ⟨⟨?_, ?_, ?_, ?_, ?_, ?_⟩, fun d hd6 => ?_, fun j hj => ?_⟩
  · rw [newR_lo _ _ _ _ _ _ (by decide) (by omega)]; exact a0
  · rw [newR_lo _ _ _ _ _ _ (by decide) (by omega)]; exact a1
  · rw [newR_lo _ _ _ _ _ _ (by decide) (by omega)]; exact a2
  · rw [newR_lo _ _ _ _ _ _ (by decide) (by omega)]; exact a3
  · rw [newR_lo _ _ _ _ _ _ (by decide) (by omega)]; exact a4
  · unfold newR; rw [upd_s]
  · rw [newR_lo _ _ _ _ _ _ (by omega) (by omega), newR_lo _ _ _ _ _ _ (by omega) (by omega), newR_lo _ _ _ _ _ _ (by omega) (by omega), newR_lo _ _ _ _ _ _ (by omega) (by omega)]
    exact hd d hd6
  · by_cases q : j = w
    · subst q
      show newR s j a b c (nI (N / 24)) _ = upd (v 7) j a j ∧ newR s j a b c (nI (N / 24)) _ = upd (v 8) j b j ∧ newR s j a b c (nI (N / 24)) _ = upd (v 9) j (nI (N / 24)) j ∧ newR s j a b c (nI (N / 24)) _ = upd (v 11) j 0 j ∧ newR s j a b c (nI (N / 24)) _ = upd (v 12) j (-6) j ∧ newR s j a b c (nI (N / 24)) _ = upd (v 10) j c j ∧ (upd (v 11) j 0 j = 1 → _)
      rw [upd_s, upd_s, upd_s, upd_s, upd_s, upd_s]
      unfold newR
      refine ⟨?_, ?_, ?_, ?_, ?_, ?_, fun e => absurd e (by decide)⟩
      · rw [upd_o _ _ (by omega), upd_o _ _ (by omega), upd_o _ _ (by omega), upd_o _ _ (by omega), upd_o _ _ (by omega), upd_o _ _ (by omega), upd_o _ _ (by omega), upd_s]
      · rw [upd_o _ _ (by omega), upd_o _ _ (by omega), upd_o _ _ (by omega), upd_o _ _ (by omega), upd_o _ _ (by omega), upd_o _ _ (by omega), upd_s]
      · rw [upd_o _ _ (by omega), upd_o _ _ (by omega), upd_o _ _ (by omega), upd_o _ _ (by omega), upd_o _ _ (by omega), upd_s]
      · rw [upd_o _ _ (by omega), upd_o _ _ (by omega), upd_o _ _ (by omega), upd_o _ _ (by omega), upd_s]
      · rw [upd_o _ _ (by omega), upd_o _ _ (by omega), upd_o _ _ (by omega), upd_s]
      · rw [upd_o _ _ (by omega), upd_o _ _ (by omega), upd_s]
    · show newR s w a b c (nI (N / 24)) _ = upd (v 7) w a j ∧ newR s w a b c (nI (N / 24)) _ = upd (v 8) w b j ∧ newR s w a b c (nI (N / 24)) _ = upd (v 9) w (nI (N / 24)) j ∧ newR s w a b c (nI (N / 24)) _ = upd (v 11) w 0 j ∧ newR s w a b c (nI (N / 24)) _ = upd (v 12) w (-6) j ∧ newR s w a b c (nI (N / 24)) _ = upd (v 10) w c j ∧ (upd (v 11) w 0 j = 1 → _)
      rw [upd_o _ _ q, upd_o _ _ q, upd_o _ _ q, upd_o _ _ q, upd_o _ _ q, upd_o _ _ q, newR_lo _ _ _ _ _ _ (by omega) (by omega), newR_lo _ _ _ _ _ _ (by omega) (by omega), newR_lo _ _ _ _ _ _ (by omega) (by omega), newR_lo _ _ _ _ _ _ (by omega) (by omega), newR_lo _ _ _ _ _ _ (by omega) (by omega), newR_lo _ _ _ _ _ _ (by omega) (by omega), newR_lo _ _ _ _ _ _ (by omega) (by omega)]
      exact hl j (by omega)
theorem writes_eq {w : Nat} {m1 : DV} (hw : w < 30) (h5 : m1 0 5 = nI w) (a b c : Int32) : f_X7_writes m1 a b c = some (nI w, vs m1 0 (newR (m1 0) w a b c (m1 0 3))) := by
  unfold f_X7_writes
  simp only [cl_5, cl_3, h5, ofL_0, ofL_1, ofL_2, ofL_3, ofL_4, ofL_5, ofL_6, ixb_nI (show 30 + 7 * w < 240 by omega) (by decide), ixb_nI (show 31 + 7 * w < 240 by omega) (by decide), ixb_nI (show 32 + 7 * w < 240 by omega) (by decide), ixb_nI (show 33 + 7 * w < 240 by omega) (by decide), ixb_nI (show 34 + 7 * w < 240 by omega) (by decide), ixb_nI (show 35 + 7 * w < 240 by omega) (by decide), ixb_nI (show 36 + 7 * w < 240 by omega) (by decide), ck_t, lt_s1, clq (show 30 + 7 * w < 2 ^ 31 by omega), clq (show 31 + 7 * w < 2 ^ 31 by omega), clq (show 32 + 7 * w < 2 ^ 31 by omega), clq (show 33 + 7 * w < 2 ^ 31 by omega), clq (show 34 + 7 * w < 2 ^ 31 by omega), clq (show 35 + 7 * w < 2 ^ 31 by omega), clq (show 36 + 7 * w < 2 ^ 31 by omega), vs_s, vs_vs]
  have e3 : (upd (upd (m1 0) (30 + 7 * w) a) (31 + 7 * w) b) 3 = m1 0 3 := by
    rw [upd_o _ _ (by omega), upd_o _ _ (by omega)]
  have e5 : ∀ x, (upd (upd (upd (upd (upd (upd (upd (m1 0) (30 + 7 * w) a) (31 + 7 * w) b) (32 + 7 * w) x) (33 + 7 * w) 0) (34 + 7 * w) (-6)) (35 + 7 * w) c) (36 + 7 * w) 0) 5 = nI w := by
    intro x
    rw [upd_o _ _ (by omega), upd_o _ _ (by omega), upd_o _ _ (by omega), upd_o _ _ (by omega), upd_o _ _ (by omega), upd_o _ _ (by omega), upd_o _ _ (by omega), h5]
  rw [e3, e5, nI_1, newR]
theorem writeJ94_eq {N w : Nat} (hI : INV v N w) (hw : w < 30) (n : Nat) (a b c : Int32) : f_X0_writeLetter_J94 n v a b c (nI w) = some (nI w, newL v w a b c (nI (N / 24))) := by
  unfold f_X0_writeLetter_J94
  simp only [ixb_nI (show w < 30 by omega) (by decide), ck_t, clq (show w < 2 ^ 31 by omega), nI_1]
  unfold newL f_X0_today
  rw [show ∀ f g, (vs (vs v 7 f) 8 g) 0 0 = nI N from fun _ _ => hI.1.1, today_nI (by have := hI.2.2.2.2.2; omega)]
theorem write_put (h : SIM k v l sv m) {n : Nat} (hn : 2000 ≤ n) {N w d : Nat} (hI : INV v N w) (hN : N < 24000) (hR : REL v (m 0) N w) (hw : w < 30) (hd : d < 6) {p2 p3 : Int32} (hb : B p2 99) (ha : p3 = -6 ∨ ∃ j : Nat, j < w ∧ p3 = nI j ∧ v 11 j = 1) (hc : cntP (inDr v d) w < 8) : CHG k v l sv (f_X0_writeLetter_J94 n v (nI d) p2 p3 (nI w)) (bd1 (f_X7_know n m) (fun v18 => bd2 (f_X7_writes v18 (nI d) p2 p3) (fun r25 v25 => some (r25, v25)))) := by
  rw [writeJ94_eq hI hw]
  refine chg_ok h (nI_pos (by omega)) rfl hn (fun m1 e1 e2 => ?_)
  rw [e1]
  simp only [bd1_s]
  rw [writes_eq hw (by rw [e2]; exact hR.1.2.2.2.2.2)]
  simp only [bd2_s]
  refine ⟨_, rfl, ⟨N, w + 1, new_INV hI hw hd hb ha hc, hN, ?_⟩, fun q h1 _ => vs_o m1 _ (by omega)⟩
  rw [vs_s, e2, hR.1.2.2.2.1]
  exact new_REL hR hw _ _ _
/-- the part behind the answered letter's number -/
theorem write_mid (h : SIM k v l sv m) {n : Nat} (hn : 2000 ≤ n) {d : Nat} (hd : d < 6) (p2 p3 : Int32) {N w : Nat} (hI : INV v N w) (hN : N < 24000) (hR : REL v (m 0) N w) (h3 : p3 = -6 ∨ ∃ j : Nat, j < w ∧ p3 = nI j) : CHG k v l sv (f_X0_writeLetter_J26 n v (nI d) p2 p3) (bd1 (f_X7_writeFault_J23 n m (nI d) p2 p3) (fun r4 => (if 0 ≤ r4 then bd1 (f_X7_know n m) (fun v18 => bd2 (f_X7_writes v18 (nI d) p2 p3) (fun r25 v25 => some (r25, v25))) else some (r4, m)))) := by
  have h10 : ¬ (1 : Int32) = 0 := by decide
  have n2 : ¬ (0 : Int32) ≤ -2 := by decide
  have n4 : ¬ (0 : Int32) ≤ -4 := by decide
  have n5 : ¬ (0 : Int32) ≤ -5 := by decide
  have n0 : (0 : Int32) ≤ 0 := by decide
  have h30 := hI.1.2.2
  unfold f_X0_writeLetter_J26 f_X7_writeFault_J23
  rcases in0_cases p2 (hi := 99) (by decide) with ⟨e2, q⟩ | ⟨e2, x, hx, rfl⟩
  · rw [show f_X7_in p2 0 99 = 0 from e2, if_pos rfl, bd1_s, if_neg n2]
    rcases q with q | ⟨q, q2⟩
    · rw [if_pos q]
      exact chg_no h (by decide) rfl rfl
    · rw [if_neg q, if_neg (show ¬ p2 ≤ 99 from q2)]
      exact chg_no h (by decide) rfl rfl
  rw [show f_X7_in (nI x) 0 99 = 1 from e2, if_neg h10, if_neg (nI_pos (by omega)), if_pos (show nI x ≤ 99 from nI_le (b := 99) (by omega) (by decide)), hI.1.2.1, cl_5, hR.1.2.2.2.2.2]
  by_cases qw : w = 30
  · subst qw
    rw [if_pos (show (30 : Int32) ≤ nI 30 by decide), if_pos (show nI 30 = 30 from rfl), bd1_s, if_neg n4]
    exact chg_no h (by decide) rfl rfl
  have hw30 : ¬ nI w = 30 := fun e => qw ((nI_eq (b := 30) (by omega) (by decide)).mp e)
  rw [if_neg (show ¬ (30 : Int32) ≤ nI w from nI_ge (a := w) (b := 30) (by omega) (by decide)), if_neg hw30, ofMood_eq hI (nI d) 0 (by omega), many_eq hI hR (nI d) 0 (by omega)]
  have hd6 : nI d ≠ 6 := fun e => absurd ((nI_eq (b := 6) (by omega) (by decide)).mp e) (by omega)
  rw [← lp_congr w 0 0 (fun j a _ _ => stM_stA v 0 hd6 j a), stM_cnt]
  have hc : cntP (inDr v d) w ≤ 8 := hI.2.2.2.2.1 d hd
  have hcp : cntP (fun j => decide (v 7 j = nI d) && decide (v 11 j = 0)) w = cntP (inDr v d) w := rfl
  rw [hcp]
  simp only [bd1_s]
  by_cases q8 : cntP (inDr v d) w = 8
  · rw [q8, if_pos (show nI 8 = 8 from rfl), if_neg (show ¬ nI 8 < 8 by decide), bd1_s, if_neg n4]
    exact chg_no h (by decide) rfl rfl
  have q8' : ¬ nI (cntP (inDr v d) w) = 8 := fun e => q8 ((nI_eq (b := 8) (by omega) (by decide)).mp e)
  rw [if_pos (show nI (cntP (inDr v d) w) < 8 from nI_lt (b := 8) (by omega) (by decide)), if_neg q8']
  rcases h3 with e | ⟨j, hj, e⟩
  · rw [e, if_pos rfl, if_pos rfl, bd1_s, if_pos n0]
    exact write_put h hn hI hN hR (by omega) hd (B_nI hx) (Or.inl rfl) (by omega)
  · rw [e, if_neg (nI_ne6 (by omega)), if_neg (nI_ne6 (by omega))]
    simp only [ofL_3, ixb_nI (show 33 + 7 * j < 240 by omega) (by decide), ixb_nI (show j < 30 by omega) (by decide), ck_t, clq (show 33 + 7 * j < 2 ^ 31 by omega), clq (show j < 2 ^ 31 by omega), (hR.2.2 j hj).2.2.2.1]
    by_cases q : v 11 j = 1
    · rw [if_pos q, if_pos q, bd1_s, if_pos n0]
      exact write_put h hn hI hN hR (by omega) hd (B_nI hx) (Or.inr ⟨j, hj, rfl, q⟩) (by omega)
    · rw [if_neg q, if_neg q, bd1_s, if_neg n5]
      exact chg_no h (by decide) rfl rfl
theorem write_eq (h : SIM k v l sv m) {n : Nat} (hn : 2000 ≤ n) (p1 p2 p3 : Int32) : CHG k v l sv (f_X0_writeLetter n v p1 p2 p3) (f_X7_write n m p1 p2 p3) := by
  have h10 : ¬ (1 : Int32) = 0 := by decide
  have n1 : ¬ (0 : Int32) ≤ -1 := by decide
  obtain ⟨N, w, hI, hN, hR⟩ := id h.1
  unfold f_X0_writeLetter f_X7_write f_X7_writeFault
  rw [isMood_eq]
  rcases isMood_cases p1 with ⟨e, -⟩ | ⟨e, d, hd, rfl⟩
  · rw [e, if_pos rfl, if_pos rfl, bd1_s, if_neg n1]
    exact chg_no h (by decide) rfl rfl
  rw [e, if_neg h10, if_neg h10]
  by_cases q6 : p3 = -6
  · rw [if_pos q6, if_pos q6]
    exact write_mid h hn hd p2 p3 hI hN hR (Or.inl q6)
  rw [if_neg q6, if_neg q6, isLm_eq hI hR]
  simp only [bd1_s]
  rcases isL_cases hI p3 with ⟨e3, -⟩ | ⟨e3, j, hj, ej⟩
  · rw [e3, if_pos rfl, if_pos rfl, bd1_s, if_neg n1]
    exact chg_no h (by decide) rfl rfl
  rw [e3, if_neg h10, if_neg h10]
  exact write_mid h hn hd p2 p3 hI hN hR (Or.inr ⟨j, hj, ej⟩)
end WR
