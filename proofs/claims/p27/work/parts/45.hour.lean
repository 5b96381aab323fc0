/-! One hour. -/
def keyS (v : DV) (h : Int32) (d : Nat) : Int32 := if v 6 d = h then 1 else if v 5 d = h then 0 else v 4 d
theorem turnKeys_L2 (v : DV) (h : Int32) : ∀ (r i n : Nat) (c : Nat → Int32), i + r = 6 → r < n → (∀ d, d < 6 → c d = if d < i then keyS v h d else v 4 d) → ∃ c2, f_X1_turnKeysBy_L2 n (vs v 4 c) h (nI i) = some (vs v 4 c2) ∧ ∀ d, d < 6 → c2 d = keyS v h d
  | 0, i, n, c, hi, hn, hc => by
    obtain ⟨n, rfl⟩ := up1 hn
    have : i = 6 := by omega
    subst this
    rw [f_X1_turnKeysBy_L2, if_pos (by decide)]
    exact ⟨c, rfl, fun d hd => by rw [hc d hd, if_pos hd]⟩
  | r + 1, i, n, c, hi, hn, hc => by
    obtain ⟨n, rfl⟩ := up1 (show 0 < n by omega)
    rw [f_X1_turnKeysBy_L2, if_neg (show ¬ (6 : Int32) ≤ nI i from nI_ge (a := i) (b := 6) (by omega) (by decide))]
    unfold f_X1_turnKeysBy_J25
    simp only [ixb_nI (show i < 6 by omega) (by decide), ck_t, clq (show i < 2 ^ 31 by omega), nI_1, vs_s, vs_vs, vs_o v _ (show (5 : Nat) ≠ 4 by decide), vs_o v _ (show (6 : Nat) ≠ 4 by decide)]
    have step : ∀ c3 : Nat → Int32, (∀ d, d < 6 → d ≠ i → c3 d = c d) → c3 i = keyS v h i → ∃ c2, f_X1_turnKeysBy_L2 n (vs v 4 c3) h (nI (i + 1)) = some (vs v 4 c2) ∧ ∀ d, d < 6 → c2 d = keyS v h d := by
      intro c3 h1 h2
      refine turnKeys_L2 v h r (i + 1) n c3 (by omega) (by omega) (fun d hd => ?_)
      by_cases q : d = i
      · subst q; rw [h2, if_pos (by omega)]
      · rw [h1 d hd q, hc d hd]
        by_cases q2 : d < i
        · rw [if_pos q2, if_pos (by omega)]
        · rw [if_neg q2, if_neg (by omega)]
    by_cases q5 : v 5 i = h <;> by_cases q6 : v 6 i = h
    · rw [if_pos q5, if_pos q6]
      refine step _ (fun d _ hd => by rw [upd_o _ _ hd, upd_o _ _ hd]) ?_
      rw [upd_s]; unfold keyS; rw [if_pos q6]
    · rw [if_pos q5, if_neg q6]
      refine step _ (fun d _ hd => by rw [upd_o _ _ hd]) ?_
      rw [upd_s]; unfold keyS; rw [if_neg q6, if_pos q5]
    · rw [if_neg q5, if_pos q6]
      refine step _ (fun d _ hd => by rw [upd_o _ _ hd]) ?_
      rw [upd_s]; unfold keyS; rw [if_pos q6]
    · rw [if_neg q5, if_neg q6]
      refine step _ (fun d _ hd => rfl) ?_
      rw [hc i (by omega), if_neg (by omega)]; unfold keyS; rw [if_neg q6, if_neg q5]
theorem turnKeys_eq (v : DV) (h : Int32) {n : Nat} (hn : 100 ≤ n) : ∃ c, f_X1_turnKeysBy n v h = some (vs v 4 c) ∧ ∀ d, d < 6 → c d = keyS v h d := by
  have := turnKeys_L2 v h 6 0 n (v 4) rfl (by omega) (fun d hd => by rw [if_neg (by omega)])
  rw [vs_self] at this
  exact this
theorem mx_keys (v : DV) (c : Nat → Int32) : mx [3, 4, 5, 6] v (vs v 4 c) = vs v 4 c := by
  funext j
  by_cases q : j = 4
  · subst q; rfl
  · rw [mx_o _ (vs_o v c q), vs_o v c q]
section HR
variable {v : DV} {N w : Nat}
theorem keyS_B (hI : INV v N w) (h : Int32) {d : Nat} (hd : d < 6) : B (keyS v h d) 1 := by
  unfold keyS
  split
  · exact ⟨1, by decide, rfl⟩
  · split
    · exact B_lit0
    · exact (hI.2.2.1 d hd).2.1
theorem keys_INV (hI : INV v N w) (h : Int32) {c : Nat → Int32} (hc : ∀ d, d < 6 → c d = keyS v h d) : INV (vs v 4 c) N w := by
  refine ⟨hI.1, hI.2.1, fun d hd => ?_, hI.2.2.2⟩
  obtain ⟨c1, c2, c3⟩ := hI.2.2.1 d hd
  refine ⟨c1, ?_, c3⟩
  rw [vs_s, hc d hd]
  exact keyS_B hI h hd
/-- the reference's keys: a row with the first i turned -/
theorem hourL2_eq (hI : INV v N w) : ∀ (r i n : Nat) (m : DV) (s : Nat → Int32), i + r = 6 → r < n → REL v s N w → (∀ d, d < 6 → m 0 (6 + 4 * d) = if d < i then keyS v (nI (N % 24)) d else s (6 + 4 * d)) → (∀ j, (∀ d, d < 6 → j ≠ 6 + 4 * d) → m 0 j = s j) → ∃ m2 n2, n = n2 + (r + 1) ∧ f_X7_hour_L2 n m (nI i) = f_X7_hour_L82 n2 m2 0 ∧ (∀ d, d < 6 → m2 0 (6 + 4 * d) = keyS v (nI (N % 24)) d) ∧ (∀ j, (∀ d, d < 6 → j ≠ 6 + 4 * d) → m2 0 j = s j) ∧ ∀ q, q ≠ 0 → m2 q = m q
  | 0, i, n, m, s, hi, hn, hR, hc, ho => by
    obtain ⟨n, rfl⟩ := up1 hn
    have : i = 6 := by omega
    subst this
    rw [f_X7_hour_L2, if_pos (by decide)]
    exact ⟨m, n, rfl, rfl, fun d hd => by rw [hc d hd, if_pos hd], ho, fun _ _ => rfl⟩
  | r + 1, i, n, m, s, hi, hn, hR, hc, ho => by
    obtain ⟨n, rfl⟩ := up1 (show 0 < n by omega)
    rw [f_X7_hour_L2, if_neg (show ¬ (6 : Int32) ≤ nI i from nI_ge (a := i) (b := 6) (by omega) (by decide))]
    have hi6 : i < 6 := by omega
    obtain ⟨g0, g1, g2, g3⟩ := hR.2.1 i hi6
    have e8 : m 0 (8 + 4 * i) = v 5 i := by rw [ho _ (fun d _ => by omega), g2]
    have e9 : m 0 (9 + 4 * i) = v 6 i := by rw [ho _ (fun d _ => by omega), g3]
    have e4 : m 0 4 = nI (N % 24) := by rw [ho _ (fun d _ => by omega), hR.1.2.2.2.2.1]
    simp only [ofD_0, ofD_2, ofD_3, cl_4, ixb_nI (show 6 + 4 * i < 240 by omega) (by decide), ixb_nI (show 8 + 4 * i < 240 by omega) (by decide), ixb_nI (show 9 + 4 * i < 240 by omega) (by decide), ck_t, lt_s1, clq (show 6 + 4 * i < 2 ^ 31 by omega), clq (show 8 + 4 * i < 2 ^ 31 by omega), clq (show 9 + 4 * i < 2 ^ 31 by omega), nI_1, e8, e9, e4]
    have step : ∀ x : Int32, x = keyS v (nI (N % 24)) i → ∃ m2 n2, n + 1 = n2 + (r + 1 + 1) ∧ f_X7_hour_L2 n (vs m 0 (upd (m 0) (6 + 4 * i) x)) (nI (i + 1)) = f_X7_hour_L82 n2 m2 0 ∧ (∀ d, d < 6 → m2 0 (6 + 4 * d) = keyS v (nI (N % 24)) d) ∧ (∀ j, (∀ d, d < 6 → j ≠ 6 + 4 * d) → m2 0 j = s j) ∧ ∀ q, q ≠ 0 → m2 q = m q := by
      intro x hx
      obtain ⟨m2, n2, h1, h2, h3, h4, h5⟩ := hourL2_eq hI r (i + 1) n (vs m 0 (upd (m 0) (6 + 4 * i) x)) s (by omega) (by omega) hR (fun d hd => by
        rw [vs_s]
        by_cases q : d = i
        · subst q; rw [upd_s, if_pos (by omega), hx]
        · rw [upd_o _ _ (by omega), hc d hd]
          by_cases q2 : d < i
          · rw [if_pos q2, if_pos (by omega)]
          · rw [if_neg q2, if_neg (by omega)]) (fun j hj => by rw [vs_s, upd_o _ _ (hj i hi6)]; exact ho j hj)
      exact ⟨m2, n2, by omega, h2, h3, h4, fun q hq => by rw [h5 q hq, vs_o m _ hq]⟩
    by_cases q5 : v 5 i = nI (N % 24)
    · rw [if_pos q5]
      refine step 0 ?_
      have q6 : ¬ v 6 i = nI (N % 24) := by
        rcases (hI.2.2.1 i hi6).2.2 with ⟨h1, h2⟩ | ⟨x, y, hx, hy, hne, h1, h2⟩
        · rw [h2]; exact fun e => nI_ne6 (by omega) e.symm
        · rw [h2, ← q5, h1]; exact fun e => hne ((nI_eq (by omega) (by omega)).mp e).symm
      unfold keyS; rw [if_neg q6, if_pos q5]
    · rw [if_neg q5]
      by_cases q6 : v 6 i = nI (N % 24)
      · rw [if_pos q6]
        refine step 1 ?_
        unfold keyS; rw [if_pos q6]
      · rw [if_neg q6]
        refine step _ ?_
        rw [hc i hi6, if_neg (by omega)]
        unfold keyS; rw [if_neg q6, if_neg q5, g0]
-- one letter goes
def sendV (v : DV) (i : Nat) : DV := vs (vs (vs v 13 (upd (v 13) i (heatS v i))) 12 (upd (v 12) i (v 0 0 / 24))) 11 (upd (v 11) i 1)
def sendR (s : Nat → Int32) (i : Nat) (a b : Int32) : Nat → Int32 := upd (upd (upd s (36 + 7 * i) a) (34 + 7 * i) b) (33 + 7 * i) 1
theorem send_INV (hI : INV v N w) {i : Nat} (hi : i < w) : INV (sendV v i) N w := by
  have hb := heatS_B hI hi
  obtain ⟨h1, h2, h3, h4, h5, h6⟩ := hI
  refine ⟨h1, h2, h3, fun j hj => ?_, fun d hd => ?_, h6⟩
  · obtain ⟨k1, k2, k3, k4, k5, k6⟩ := h4 j hj
    refine ⟨k1, k2, k3, ?_, ?_, ?_⟩
    · rcases k4 with e | ⟨t, ht, e, e2⟩
      · exact Or.inl e
      · refine Or.inr ⟨t, ht, e, ?_⟩
        show upd (v 11) i 1 t = 1
        by_cases q : t = i
        · subst q; rw [upd_s]
        · rw [upd_o _ _ q]; exact e2
    · show B (upd (v 11) i 1 j) 2
      by_cases q : j = i
      · subst q; rw [upd_s]; exact ⟨1, by decide, rfl⟩
      · rw [upd_o _ _ q]; exact k5
    · show upd (v 11) i 1 j = 1 → B (upd (v 13) i (heatS v i) j) 99
      by_cases q : j = i
      · subst q; rw [upd_s, upd_s]; exact fun _ => hb
      · rw [upd_o _ _ q, upd_o _ _ q]; exact k6
  · refine cntP_mono (fun j hj hp => ?_) (h5 d hd)
    have hp' : (decide (v 7 j = nI d) && decide (upd (v 11) i 1 j = 0)) = true := hp
    unfold inDr
    rw [Bool.and_eq_true, decide_eq_true_iff, decide_eq_true_iff] at hp' ⊢
    obtain ⟨p1, p2⟩ := hp'
    refine ⟨p1, ?_⟩
    by_cases q : j = i
    · subst q; rw [upd_s] at p2; exact absurd p2 (by decide)
    · rw [upd_o _ _ q] at p2; exact p2
theorem send_REL {s : Nat → Int32} (hR : REL v s N w) {i : Nat} (hi : i < w) : REL (sendV v i) (sendR s i (heatS v i) (v 0 0 / 24)) N w := by
  have lo : ∀ j, j < 30 → sendR s i (heatS v i) (v 0 0 / 24) j = s j := fun j hj => by
    unfold sendR; rw [upd_o _ _ (by omega), upd_o _ _ (by omega), upd_o _ _ (by omega)]
  obtain ⟨⟨a0, a1, a2, a3, a4, a5⟩, hd, hl⟩ := hR
  refine ⟨⟨?_, ?_, ?_, ?_, ?_, ?_⟩, fun d hd6 => ?_, fun j hj => ?_⟩
  · rw [lo _ (by decide)]; exact a0
  · rw [lo _ (by decide)]; exact a1
  · rw [lo _ (by decide)]; exact a2
  · rw [lo _ (by decide)]; exact a3
  · rw [lo _ (by decide)]; exact a4
  · rw [lo _ (by decide)]; exact a5
  · rw [lo _ (by omega), lo _ (by omega), lo _ (by omega), lo _ (by omega)]
    exact hd d hd6
  · obtain ⟨f0, f1, f2, f3, f4, f5, f6⟩ := hl j hj
    unfold sendR
    show _ = v 7 j ∧ _ = v 8 j ∧ _ = v 9 j ∧ _ = upd (v 11) i 1 j ∧ _ = upd (v 12) i (v 0 0 / 24) j ∧ _ = v 10 j ∧ (upd (v 11) i 1 j = 1 → _ = upd (v 13) i (heatS v i) j)
    by_cases q : j = i
    · subst q
      refine ⟨?_, ?_, ?_, ?_, ?_, ?_, fun _ => ?_⟩
      · rw [upd_o _ _ (by omega), upd_o _ _ (by omega), upd_o _ _ (by omega)]; exact f0
      · rw [upd_o _ _ (by omega), upd_o _ _ (by omega), upd_o _ _ (by omega)]; exact f1
      · rw [upd_o _ _ (by omega), upd_o _ _ (by omega), upd_o _ _ (by omega)]; exact f2
      · rw [upd_s, upd_s]
      · rw [upd_o _ _ (by omega), upd_s, upd_s]
      · rw [upd_o _ _ (by omega), upd_o _ _ (by omega), upd_o _ _ (by omega)]; exact f5
      · rw [upd_o _ _ (by omega), upd_o _ _ (by omega), upd_s, upd_s]
    · rw [upd_o (v 11) _ q, upd_o (v 12) _ q, upd_o (v 13) _ q]
      refine ⟨?_, ?_, ?_, ?_, ?_, ?_, ?_⟩
      · rw [upd_o _ _ (by omega), upd_o _ _ (by omega), upd_o _ _ (by omega)]; exact f0
      · rw [upd_o _ _ (by omega), upd_o _ _ (by omega), upd_o _ _ (by omega)]; exact f1
      · rw [upd_o _ _ (by omega), upd_o _ _ (by omega), upd_o _ _ (by omega)]; exact f2
      · rw [upd_o _ _ (by omega), upd_o _ _ (by omega), upd_o _ _ (by omega)]; exact f3
      · rw [upd_o _ _ (by omega), upd_o _ _ (by omega), upd_o _ _ (by omega)]; exact f4
      · rw [upd_o _ _ (by omega), upd_o _ _ (by omega), upd_o _ _ (by omega)]; exact f5
      · rw [upd_o _ _ (by omega), upd_o _ _ (by omega), upd_o _ _ (by omega)]; exact f6
theorem goS_send (T : Nat) {i j : Nat} (h : j ≠ i) : goS (sendV v i) T j = goS v T j := by
  show (decide (upd (v 11) i 1 j = 0) && _) = (decide (v 11 j = 0) && _)
  rw [upd_o _ _ h]
  rfl
theorem cntP_flip {p q : Nat → Bool} {i : Nat} : ∀ {w : Nat}, i < w → p i = false → q i = true → (∀ j, j ≠ i → q j = p j) → cntP q w = cntP p w + 1 := by
  intro w
  induction w with
  | zero => intro h; exact absurd h (Nat.not_lt_zero i)
  | succ w ih =>
    intro hi h1 h2 h3
    rw [cntP_succ, cntP_succ]
    by_cases e : i = w
    · subst e
      rw [h1, h2, cntP_congr (q := p) (fun j hj => h3 j (by omega))]
      simp
    · rw [ih (by omega) h1 h2 h3, h3 w (fun e2 => e e2.symm)]
      omega
theorem bit_test {M i : Nat} (hM : M < 2 ^ 30) (hi : i < 30) : (lg_cmp ((UInt64.toInt64 (Int64.toUInt64 (lN M) >>> (Int64.toUInt64 (Int32.toInt64 (nI i)) &&& Int64.toUInt64 63))) &&& 1) 1 = 0) ↔ M.testBit i = true := by
  rw [wb_bit (by omega) (by omega), Nat.testBit_eq_decide_div_mod_eq, decide_eq_true_iff]
  have : M / 2 ^ i % 2 = 0 ∨ M / 2 ^ i % 2 = 1 := by omega
  rcases this with e | e
  · rw [e]; exact ⟨fun h => absurd h (by decide), fun h => absurd h (by decide)⟩
  · rw [e]; exact ⟨fun _ => rfl, fun _ => by decide⟩
end HR
