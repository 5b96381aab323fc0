/-! Regrets: with more letters sent they don't fall; the greatest one; what the law asks of them. -/
def LE2 (x y : Int32) : Prop := ∃ a b : Nat, x = nI a ∧ y = nI b ∧ a ≤ b ∧ b ≤ 198
theorem LE2.max {r r' g g' : Int32} (h : LE2 r r') (k : LE2 g g') : LE2 (if r ≤ g then g else r) (if r' ≤ g' then g' else r') := by
  obtain ⟨a, b, rfl, rfl, h1, h2⟩ := h
  obtain ⟨c, d, rfl, rfl, k1, k2⟩ := k
  by_cases q : a ≤ c
  · rw [if_pos (nI_le q (by omega))]
    by_cases q2 : b ≤ d
    · rw [if_pos (nI_le q2 (by omega))]; exact ⟨c, d, rfl, rfl, k1, k2⟩
    · rw [if_neg (nI_ge (by omega) (by omega))]; exact ⟨c, b, rfl, rfl, by omega, h2⟩
  · rw [if_neg (nI_ge (by omega) (by omega))]
    by_cases q2 : b ≤ d
    · rw [if_pos (nI_le q2 (by omega))]; exact ⟨a, d, rfl, rfl, by omega, k2⟩
    · rw [if_neg (nI_ge (by omega) (by omega))]; exact ⟨a, b, rfl, rfl, h1, h2⟩
theorem half_nI {a b : Nat} (hb : b < 2 ^ 31) : nI a + nI b / 2 = nI (a + b / 2) := by
  rw [show (2 : Int32) = nI 2 from rfl, pk_div (d := 2) hb (by decide) (by decide), nI_add]
section RGS
variable {v : DV} {N w : Nat}
theorem rg_mono (S S' : Nat → Bool) (hS : ∀ j, S j = true → S' j = true) (hI : INV v N w) : ∀ (k : Nat) (p p' : (Nat → Int32) × (Nat → Int32)), k ≤ w → (∀ j, j < 30 → LE2 (p.1 j) (p'.1 j) ∧ LE2 (p.2 j) (p'.2 j)) → ∀ j, j < 30 → LE2 ((rgF S (heatS v) (v 10) k p).2 j) ((rgF S' (heatS v) (v 10) k p').2 j)
  | 0, _, _, _, h => fun j hj => (h j hj).2
  | k + 1, p, p', hk, h => by
    have h30 := hI.1.2.2
    obtain ⟨y, hy, ey⟩ := heatS_B hI (show k < w by omega)
    obtain ⟨a, b, ea, eb, hab, hb⟩ := (h k (by omega)).1
    have hr : LE2 (if S k = true then heatS v k + p.1 k / 2 else 0) (if S' k = true then heatS v k + p'.1 k / 2 else 0) := by
      rw [ey, ea, eb, half_nI (by omega), half_nI (by omega)]
      by_cases q : S k = true
      · rw [if_pos q, if_pos (hS k q)]
        exact ⟨_, _, rfl, rfl, by omega, by omega⟩
      · rw [if_neg q]
        by_cases q2 : S' k = true
        · rw [if_pos q2]; exact ⟨0, _, rfl, rfl, Nat.zero_le _, by omega⟩
        · rw [if_neg q2]; exact ⟨0, 0, rfl, rfl, Nat.le_refl 0, by decide⟩
    intro j hj
    show LE2 ((rgF S (heatS v) (v 10) k (rgStep S (heatS v) (v 10) k p)).2 j) ((rgF S' (heatS v) (v 10) k (rgStep S' (heatS v) (v 10) k p')).2 j)
    refine rg_mono S S' hS hI k _ _ (by omega) (fun i hi => ⟨?_, ?_⟩) j hj
    · show LE2 ((if v 10 k = -6 then p.1 else upd p.1 (tn (v 10 k)) _) i) ((if v 10 k = -6 then p'.1 else upd p'.1 (tn (v 10 k)) _) i)
      by_cases q : v 10 k = -6
      · rw [if_pos q, if_pos q]; exact (h i hi).1
      · rw [if_neg q, if_neg q]
        by_cases qt : i = tn (v 10 k)
        · rw [← qt, upd_s, upd_s]
          exact hr.max (h i hi).1
        · rw [upd_o _ _ qt, upd_o _ _ qt]; exact (h i hi).1
    · show LE2 (upd p.2 k _ i) (upd p'.2 k _ i)
      by_cases qt : i = k
      · subst qt; rw [upd_s, upd_s]; exact hr
      · rw [upd_o _ _ qt, upd_o _ _ qt]; exact (h i hi).2
/-- what was worked out stays -/
theorem rg_hi (S : Nat → Bool) (H A : Nat → Int32) : ∀ (k : Nat) (p : (Nat → Int32) × (Nat → Int32)) (j : Nat), k ≤ j → (rgF S H A k p).2 j = p.2 j
  | 0, _, _, _ => rfl
  | k + 1, p, j, hj => by
    show (rgF S H A k (rgStep S H A k p)).2 j = p.2 j
    rw [rg_hi S H A k _ j (by omega)]
    exact upd_o _ _ (by omega)
theorem rg_at (S : Nat → Bool) (H A : Nat → Int32) (k : Nat) (p : (Nat → Int32) × (Nat → Int32)) : (rgF S H A (k + 1) p).2 k = if S k = true then H k + p.1 k / 2 else 0 := by
  show (rgF S H A k (rgStep S H A k p)).2 k = _
  rw [rg_hi S H A k _ k (Nat.le_refl k)]
  exact upd_s _ _ _
theorem rg_0 (S : Nat → Bool) (H A : Nat → Int32) {j : Nat} (hS : ¬ S j = true) : ∀ (k : Nat) (p : (Nat → Int32) × (Nat → Int32)), j < k → (rgF S H A k p).2 j = 0
  | 0, _, h => absurd h (Nat.not_lt_zero j)
  | k + 1, p, h => by
    by_cases q : j = k
    · subst q; rw [rg_at, if_neg hS]
    · show (rgF S H A k (rgStep S H A k p)).2 j = 0
      exact rg_0 S H A hS k _ (by omega)
/-- the greatest regret of answers doesn't fall -/
theorem rg_low (S : Nat → Bool) (hI : INV v N w) {i a h : Nat} (hi : S i = true) (eh : heatS v i = nI h) (hh : h ≤ 99) : ∀ (m : Nat) (p : (Nat → Int32) × (Nat → Int32)), m ≤ w → i < m → (∀ j, j < 30 → B (p.1 j) 198) → (∃ b, a ≤ b ∧ b ≤ 198 ∧ p.1 i = nI b) → ∃ b, h + a / 2 ≤ b ∧ b ≤ 300 ∧ (rgF S (heatS v) (v 10) m p).2 i = nI b
  | 0, _, _, hm, _, _ => absurd hm (Nat.not_lt_zero i)
  | m + 1, p, hm, him, hB, ⟨b, hb, hb2, eb⟩ => by
    have h30 := hI.1.2.2
    obtain ⟨c, hc, ec⟩ := hB i (by omega)
    by_cases q : i = m
    · subst q
      rw [rg_at, if_pos hi, eh, ec, half_nI (by omega)]
      have : a ≤ c := by
        have := (nI_eq (show b < 2 ^ 31 by omega) (by omega)).mp (eb.symm.trans ec); omega
      exact ⟨_, by omega, by omega, rfl⟩
    · have hac : a ≤ c := by
        have := (nI_eq (show b < 2 ^ 31 by omega) (by omega)).mp (eb.symm.trans ec); omega
      obtain ⟨y, hy, ey⟩ := heatS_B hI (show m < w by omega)
      obtain ⟨d, hd, ed⟩ := hB m (by omega)
      have hr : B (if S m = true then heatS v m + p.1 m / 2 else 0) 198 := by
        by_cases q : S m = true
        · rw [if_pos q, ey, ed, half_nI (by omega)]; exact B_nI (by omega)
        · rw [if_neg q]; exact B_lit0
      show ∃ b, h + a / 2 ≤ b ∧ b ≤ 300 ∧ (rgF S (heatS v) (v 10) m (rgStep S (heatS v) (v 10) m p)).2 i = nI b
      have hG : ∀ j, j < 30 → B ((rgStep S (heatS v) (v 10) m p).1 j) 198 ∧ (j = i → ∃ b, a ≤ b ∧ b ≤ 198 ∧ (rgStep S (heatS v) (v 10) m p).1 j = nI b) := by
        intro j hj
        show B ((if v 10 m = -6 then p.1 else upd p.1 (tn (v 10 m)) (if (if S m = true then heatS v m + p.1 m / 2 else 0) ≤ p.1 (tn (v 10 m)) then p.1 (tn (v 10 m)) else (if S m = true then heatS v m + p.1 m / 2 else 0))) j) 198 ∧ (j = i → ∃ b, a ≤ b ∧ b ≤ 198 ∧ (if v 10 m = -6 then p.1 else upd p.1 (tn (v 10 m)) (if (if S m = true then heatS v m + p.1 m / 2 else 0) ≤ p.1 (tn (v 10 m)) then p.1 (tn (v 10 m)) else (if S m = true then heatS v m + p.1 m / 2 else 0))) j = nI b)
        generalize (if S m = true then heatS v m + p.1 m / 2 else 0) = r at hr ⊢
        by_cases q : v 10 m = -6
        · rw [if_pos q]; exact ⟨hB j hj, fun e => ⟨c, hac, hc, by rw [e]; exact ec⟩⟩
        · rw [if_neg q]
          by_cases qt : j = tn (v 10 m)
          · rw [← qt, upd_s]
            obtain ⟨x, hx, ex⟩ := hr
            obtain ⟨z, hz, ez⟩ := hB j hj
            rw [ex, ez]
            by_cases q2 : x ≤ z
            · rw [if_pos (nI_le q2 (by omega))]
              exact ⟨B_nI hz, fun e => ⟨z, by subst e; have := (nI_eq (by omega) (by omega)).mp (ez.symm.trans ec); omega, hz, rfl⟩⟩
            · rw [if_neg (nI_ge (by omega) (by omega))]
              exact ⟨B_nI hx, fun e => ⟨x, by subst e; have := (nI_eq (by omega) (by omega)).mp (ez.symm.trans ec); omega, hx, rfl⟩⟩
          · rw [upd_o _ _ qt]; exact ⟨hB j hj, fun e => ⟨c, hac, hc, by rw [e]; exact ec⟩⟩
      exact rg_low S hI hi eh hh m _ (by omega) (by omega) (fun j hj => (hG j hj).1) ((hG i (by omega)).2 rfl)
/-- a letter that is answered regrets half of what the answer regrets, at least half of its heat -/
theorem rg_ans (S : Nat → Bool) (hI : INV v N w) {i k a h : Nat} (hik : i < k) (hSi : S i = true) (hSk : S k = true) (eA : v 10 k = nI i) (ea : heatS v k = nI a) (ha : a ≤ 99) (eh : heatS v i = nI h) (hh : h ≤ 99) : ∀ (m : Nat) (p : (Nat → Int32) × (Nat → Int32)), m ≤ w → k < m → (∀ j, j < 30 → B (p.1 j) 198) → ∃ b, h + a / 2 ≤ b ∧ b ≤ 300 ∧ (rgF S (heatS v) (v 10) m p).2 i = nI b
  | 0, _, _, hm, _ => absurd hm (Nat.not_lt_zero k)
  | m + 1, p, hm, hkm, hB => by
    have h30 := hI.1.2.2
    obtain ⟨y, hy, ey⟩ := heatS_B hI (show m < w by omega)
    obtain ⟨d, hd, ed⟩ := hB m (by omega)
    have hr : B (if S m = true then heatS v m + p.1 m / 2 else 0) 198 := by
      by_cases q : S m = true
      · rw [if_pos q, ey, ed, half_nI (by omega)]; exact B_nI (by omega)
      · rw [if_neg q]; exact B_lit0
    have hG : ∀ j, j < 30 → B ((rgStep S (heatS v) (v 10) m p).1 j) 198 := by
      intro j hj
      show B ((if v 10 m = -6 then p.1 else upd p.1 (tn (v 10 m)) (if (if S m = true then heatS v m + p.1 m / 2 else 0) ≤ p.1 (tn (v 10 m)) then p.1 (tn (v 10 m)) else (if S m = true then heatS v m + p.1 m / 2 else 0))) j) 198
      generalize (if S m = true then heatS v m + p.1 m / 2 else 0) = r at hr ⊢
      by_cases q : v 10 m = -6
      · rw [if_pos q]; exact hB j hj
      · rw [if_neg q]
        by_cases qt : j = tn (v 10 m)
        · rw [← qt, upd_s]
          by_cases q2 : r ≤ p.1 j
          · rw [if_pos q2]; exact hB j hj
          · rw [if_neg q2]; exact hr
        · rw [upd_o _ _ qt]; exact hB j hj
    show ∃ b, h + a / 2 ≤ b ∧ b ≤ 300 ∧ (rgF S (heatS v) (v 10) m (rgStep S (heatS v) (v 10) m p)).2 i = nI b
    by_cases q : k = m
    · subst q
      refine rg_low S hI hSi eh hh k _ (by omega) hik hG ?_
      show ∃ b, a ≤ b ∧ b ≤ 198 ∧ (if v 10 k = -6 then p.1 else upd p.1 (tn (v 10 k)) (if (if S k = true then heatS v k + p.1 k / 2 else 0) ≤ p.1 (tn (v 10 k)) then p.1 (tn (v 10 k)) else (if S k = true then heatS v k + p.1 k / 2 else 0))) i = nI b
      rw [if_neg (show ¬ v 10 k = -6 by rw [eA]; exact nI_ne6 (by omega)), eA, tn_nI (show i < 2 ^ 31 by omega), upd_s, if_pos hSk, ea, ed, half_nI (by omega)]
      obtain ⟨z, hz, ez⟩ := hB i (by omega)
      rw [ez]
      by_cases q2 : a + d / 2 ≤ z
      · rw [if_pos (nI_le q2 (by omega))]; exact ⟨z, by omega, hz, rfl⟩
      · rw [if_neg (nI_ge (by omega) (by omega))]; exact ⟨_, by omega, by omega, rfl⟩
    · exact rg_ans S hI hik hSi hSk eA ea ha eh hh m _ (by omega) (by omega) hG
theorem RG_0 {j : Nat} (hj : j < w) (h : ¬ v 11 j = 1) : RG v w j = 0 := rg_0 _ _ _ (fun e => h (sentB_iff.mp e)) w _ hj
theorem RG_B (hI : INV v N w) {j : Nat} (hj : j < 30) : B (RG v w j) 198 := rgF_B _ hI w _ _ (Nat.le_refl w) (fun _ _ => ⟨B_lit0, B_lit0⟩) j hj
theorem ifs_c (hI : INV v N w) {n i k : Nat} (hn : 100 ≤ n) (hi : i < w) (hk : k < w) : ∃ g c, f_X6_ifSent n v (nI i) (nI k) = some (g, vs v 14 c) ∧ (v 11 i = 1 ∧ v 11 k = 0 → ∃ a b, RG v w i = nI a ∧ g = nI b ∧ a ≤ b ∧ b ≤ 300 ∧ (v 10 k = nI i → ∃ d, heatS v i + heatS v k / 2 = nI d ∧ d ≤ b)) ∧ (¬ (v 11 i = 1 ∧ v 11 k = 0) → g = -5) := by
  have h30 := hI.1.2.2
  unfold f_X6_ifSent
  rw [isL_1 hI hi, if_neg i10, isL_1 hI hk, if_neg i10, ixb_nI (show i < 30 by omega) (by decide), ck_t, clq (show i < 2 ^ 31 by omega)]
  by_cases q1 : v 11 i = 1
  · rw [if_pos q1, ixb_nI (show k < 30 by omega) (by decide), ck_t, clq (show k < 2 ^ 31 by omega)]
    by_cases q2 : v 11 k = 0
    · rw [if_pos q2]
      have hS : ∀ j, j < w → ((sentB v j || decide (j = k)) = true ↔ (v 11 j = 1 ∨ nI j = nI k)) := by
        intro j hj
        rw [Bool.or_eq_true, sentB_iff, decide_eq_true_iff, nI_eq (by omega) (by omega)]
      obtain ⟨c, k1, k3⟩ := workOut_eq hI (nI k) (fun j => sentB v j || decide (j = k)) hS hn (fun _ => 0) (fun _ => 0) (fun _ _ => ⟨rfl, rfl⟩)
      unfold f_X5_withSent
      rw [k1]
      simp only [bd1_s, bd2_s, ixb_nI (show i < 30 by omega) (by decide), ck_t, clq (show i < 2 ^ 31 by omega), vs_s, mx_c14]
      refine ⟨_, _, rfl, fun _ => ?_, fun h => absurd ⟨q1, q2⟩ h⟩
      rw [k3 i (by omega)]
      have hm := rg_mono (sentB v) (fun j => sentB v j || decide (j = k)) (fun j hj => by show (sentB v j || _) = true; rw [hj]; rfl) hI w (fun _ => 0, fun _ => 0) (fun _ => 0, fun _ => 0) (Nat.le_refl w) (fun j _ => ⟨⟨0, 0, rfl, rfl, Nat.le_refl 0, by decide⟩, ⟨0, 0, rfl, rfl, Nat.le_refl 0, by decide⟩⟩) i (by omega)
      obtain ⟨a, b, ea, eb, hab, hb⟩ := hm
      refine ⟨a, b, ea, eb, hab, by omega, fun e => ?_⟩
      obtain ⟨x, hx, ex⟩ := heatS_B hI hi
      obtain ⟨y, hy, ey⟩ := heatS_B hI hk
      have hik : i < k := by
        rcases (hI.2.2.2.1 k hk).2.2.2.1 with z | ⟨j, hj, z, -⟩
        · exact absurd (e.symm.trans z) (nI_ne6 (by omega))
        · have := (nI_eq (by omega) (by omega)).mp (e.symm.trans z); omega
      obtain ⟨d, hd, hd3, ed⟩ := rg_ans (fun j => sentB v j || decide (j = k)) hI hik (by show (sentB v i || _) = true; rw [sentB_iff.mpr q1]; rfl) (by show (_ || decide (k = k)) = true; simp) e ey hy ex hx w (fun _ => 0, fun _ => 0) (Nat.le_refl w) hk (fun _ _ => B_lit0)
      have := (nI_eq (by omega) (by omega)).mp (ed.symm.trans eb)
      exact ⟨x + y / 2, by rw [ex, ey, half_nI (by omega)], by omega⟩
    · rw [if_neg q2]
      exact ⟨-5, v 14, by rw [vs_self], fun h => absurd h.2 q2, fun _ => rfl⟩
  · rw [if_neg q1]
    exact ⟨-5, v 14, by rw [vs_self], fun h => absurd h.1 q1, fun _ => rfl⟩
/-- the greatest one, of several the lowest -/
def MOST (v : DV) (w : Nat) (x : Int32) (i : Nat) : Prop := (x = -6 ∧ ∀ j, j < i → ¬ v 11 j = 1) ∨ ∃ b, b < i ∧ x = nI b ∧ v 11 b = 1 ∧ ∀ j, j < i → v 11 j = 1 → RG v w j ≤ RG v w b ∧ (RG v w j = RG v w b → b ≤ j)
theorem most_L27 (hI : INV v N w) (c : Nat → Int32) (hc : ∀ j, j < 30 → c j = RG v w j) : ∀ (r i n : Nat) (x2 x3 : Int32), i + r = w → r < n → MOST v w x2 i → (x2 = -6 ∧ x3 = -1 ∨ ∃ b, b < 30 ∧ x2 = nI b ∧ x3 = RG v w b) → ∃ x, f_X5_greatest_L15 n (vs v 14 c) x2 x3 (nI i) = some (x, vs v 14 c) ∧ MOST v w x w
  | 0, i, n, x2, x3, hi, hn, hm, _ => by
    obtain ⟨n, rfl⟩ := up1 hn
    have h30 := hI.1.2.2
    rw [f_X5_greatest_L15, show (vs v 14 c) 1 0 = nI w from hI.1.2.1, if_pos (nI_le (by omega) (by omega))]
    have : i = w := by omega
    subst this
    exact ⟨x2, rfl, hm⟩
  | r + 1, i, n, x2, x3, hi, hn, hm, hx => by
    obtain ⟨n, rfl⟩ := up1 (show 0 < n by omega)
    have h30 := hI.1.2.2
    have ih := most_L27 hI c hc r (i + 1) n
    rw [f_X5_greatest_L15, show (vs v 14 c) 1 0 = nI w from hI.1.2.1, if_neg (nI_ge (by omega) (by omega))]
    simp only [ixb_nI (show i < 30 by omega) (by decide), ck_t, clq (show i < 2 ^ 31 by omega), nI_1, vs_s, vs_o v c (show (11 : Nat) ≠ 14 by decide), hc i (by omega)]
    obtain ⟨y, hy, ey⟩ := RG_B hI (show i < 30 by omega)
    by_cases q : v 11 i = 1
    · rw [if_pos q]
      have new : (∀ j, j < i → v 11 j = 1 → RG v w j ≤ RG v w i ∧ ¬ RG v w j = RG v w i) → MOST v w (nI i) (i + 1) := by
        intro hh
        refine Or.inr ⟨i, by omega, rfl, q, fun j hj h1 => ?_⟩
        by_cases e : j = i
        · subst e; exact ⟨Int32.le_refl _, fun _ => Nat.le_refl _⟩
        · obtain ⟨z1, z2⟩ := hh j (by omega) h1
          exact ⟨z1, fun z => absurd z z2⟩
      rcases hx with ⟨e2, e3⟩ | ⟨b, hb, e2, e3⟩
      · subst e2 e3
        have hnone : ∀ j, j < i → ¬ v 11 j = 1 := by
          rcases hm with ⟨-, h⟩ | ⟨b, hb, e, -⟩
          · exact h
          · exact absurd e.symm (nI_ne6 (by omega))
        rw [if_neg (show ¬ RG v w i ≤ -1 from by
          rw [ey, Int32.le_iff_toInt_le, nI_toInt (by omega)]
          have : (-1 : Int32).toInt = -1 := by decide
          omega)]
        exact ih _ _ (by omega) (by omega) (new (fun j hj h1 => absurd h1 (hnone j hj))) (Or.inr ⟨i, by omega, rfl, rfl⟩)
      · subst e2 e3
        have hb2 : b < i ∧ v 11 b = 1 ∧ ∀ j, j < i → v 11 j = 1 → RG v w j ≤ RG v w b ∧ (RG v w j = RG v w b → b ≤ j) := by
          rcases hm with ⟨e, -⟩ | ⟨b', hb', e, h1, h2⟩
          · exact absurd e (nI_ne6 (by omega))
          · have := (nI_eq (by omega) (by omega)).mp e
            subst this
            exact ⟨hb', h1, h2⟩
        obtain ⟨p1, p2, p3⟩ := hb2
        obtain ⟨z, hz, ez⟩ := RG_B hI hb
        by_cases q2 : RG v w i ≤ RG v w b
        · rw [if_pos q2]
          refine ih _ _ (by omega) (by omega) (Or.inr ⟨b, by omega, rfl, p2, fun j hj h1 => ?_⟩) (Or.inr ⟨b, hb, rfl, rfl⟩)
          by_cases e : j = i
          · subst e; exact ⟨q2, fun _ => by omega⟩
          · exact p3 j (by omega) h1
        · rw [if_neg q2]
          refine ih _ _ (by omega) (by omega) (new (fun j hj h1 => ?_)) (Or.inr ⟨i, by omega, rfl, rfl⟩)
          obtain ⟨x, hx, ex⟩ := RG_B hI (show j < 30 by omega)
          obtain ⟨s1, -⟩ := p3 j hj h1
          rw [ey, ez] at q2
          rw [ex, ez] at s1
          have s2 : z < y := by
            rcases Nat.lt_or_ge z y with t | t
            · exact t
            · exact absurd (nI_le t (by omega)) q2
          have s3 : x ≤ z := by
            rcases Nat.lt_or_ge z x with t | t
            · exact absurd s1 (nI_ge t (by omega))
            · exact t
          rw [ex, ey]
          exact ⟨nI_le (by omega) (by omega), fun t => by have := (nI_eq (by omega) (by omega)).mp t; omega⟩
    · rw [if_neg q]
      refine ih _ _ (by omega) (by omega) ?_ hx
      rcases hm with ⟨e, h⟩ | ⟨b, hb, e, h1, h2⟩
      · exact Or.inl ⟨e, fun j hj => by
          by_cases z : j = i
          · subst z; exact q
          · exact h j (by omega)⟩
      · exact Or.inr ⟨b, by omega, e, h1, fun j hj h3 => by
          by_cases z : j = i
          · subst z; exact absurd h3 q
          · exact h2 j (by omega) h3⟩
theorem most_c (hI : INV v N w) {n : Nat} (hn : 100 ≤ n) : ∃ x c, f_X6_mostRegretted n v = some (x, vs v 14 c) ∧ MOST v w x w := by
  have h30 := hI.1.2.2
  obtain ⟨c, c1, c2⟩ := workRG hI hn
  obtain ⟨x, d1, d2⟩ := most_L27 hI c c2 w 0 n (-6) (-1) (by omega) (by omega) (Or.inl ⟨rfl, fun j hj => absurd hj (Nat.not_lt_zero j)⟩) (Or.inl ⟨rfl, rfl⟩)
  refine ⟨x, c, ?_, d2⟩
  unfold f_X6_mostRegretted f_X5_greatest
  rw [c1, bd1_s, show f_X5_greatest_L15 n (vs v 14 c) (-6) (-1) 0 = _ from d1, bd2_s, mx_c14]
theorem cntP_zero {p : Nat → Bool} : ∀ {w : Nat}, cntP p w = 0 ↔ ∀ j, j < w → p j = false
  | 0 => ⟨fun _ j hj => absurd hj (Nat.not_lt_zero j), fun _ => rfl⟩
  | w + 1 => by
    rw [cntP_succ]
    have ih := cntP_zero (p := p) (w := w)
    constructor
    · intro h j hj
      have h1 : cntP p w = 0 := by omega
      by_cases e : j = w
      · subst e
        cases hp : p j with
        | false => rfl
        | true => rw [hp] at h; simp at h
      · exact ih.mp h1 j (by omega)
    · intro h
      rw [ih.mpr (fun j hj => h j (by omega)), h w (by omega)]
      rfl
end RGS
