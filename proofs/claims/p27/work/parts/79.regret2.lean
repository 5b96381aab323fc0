/-! What the law asks of regrets. -/
section RQ
variable {v : DV} {N w : Nat}
theorem INV_14 (h : INV v N w) (c : Nat → Int32) : INV (vs v 14 c) N w := INV_deq h (DEQ_of (fun j hj => vs_o v c (by omega)))
theorem o2 (h : INV v N w) (c : Nat → Int32) {k : Nat} (hk : k < w) (n : Nat) : f_X6_ofLetter n (vs v 14 c) (nI k) 2 = some (heatS v k, vs v 14 c) := oL_2 (INV_14 h c) hk n
theorem o4 (h : INV v N w) (c : Nat → Int32) {k : Nat} (hk : k < w) (n : Nat) : f_X6_ofLetter n (vs v 14 c) (nI k) 4 = some (v 11 k, vs v 14 c) := oL_4 (INV_14 h c) hk n
theorem o6 (h : INV v N w) (c : Nat → Int32) {k : Nat} (hk : k < w) (n : Nat) : f_X6_ofLetter n (vs v 14 c) (nI k) 6 = some (v 10 k, vs v 14 c) := oL_6 (INV_14 h c) hk n
theorem o7 (h : INV v N w) (c : Nat → Int32) {k : Nat} (hk : k < w) {n : Nat} (hn : 100 ≤ n) : ∃ c2, f_X6_ofLetter n (vs v 14 c) (nI k) 7 = some (RG v w k, vs v 14 c2) := by
  obtain ⟨c2, e⟩ := oL_7 (INV_14 h c) hk hn
  rw [vs_vs] at e
  exact ⟨c2, e⟩
theorem rgl (hI : INV v N w) {b : Nat} (hb : b < w) (h1 : v 11 b = 1) (hm : ∀ j, j < w → v 11 j = 1 → RG v w j ≤ RG v w b ∧ (RG v w j = RG v w b → b ≤ j)) (x1 x2 x3 : Int32) : ∀ (r i n : Nat) (c : Nat → Int32), i + r = w → r + 200 ≤ n → ∃ n' c', 100 ≤ n' ∧ f_L_isRegretSo_L51 n (vs v 14 c) x1 x2 x3 (nI b) 1 (nI i) = f_L_isRegretSo_J140 n' (vs v 14 c') x1 x2 x3 1
  | 0, i, n, c, hi, hn => by
    obtain ⟨n, rfl⟩ := up1 (show 0 < n by omega)
    have h30 := hI.1.2.2
    rw [f_L_isRegretSo_L51, ct_2 (INV_14 hI c), bd1_s, if_pos (nI_le (by omega) (by omega))]
    exact ⟨n, c, by omega, rfl⟩
  | r + 1, i, n, c, hi, hn => by
    obtain ⟨n, rfl⟩ := up1 (show 0 < n by omega)
    have h30 := hI.1.2.2
    have hiw : i < w := by omega
    obtain ⟨c1, e1⟩ := o7 hI c hiw (show 100 ≤ n by omega)
    obtain ⟨c2, e2⟩ := o7 hI c1 hb (show 100 ≤ n by omega)
    obtain ⟨c3, e3⟩ := o7 hI c2 hiw (show 100 ≤ n by omega)
    obtain ⟨c4, e4⟩ := o7 hI c3 hb (show 100 ≤ n by omega)
    have ih := fun c => rgl hI hb h1 hm x1 x2 x3 r (i + 1) n c (by omega) (by omega)
    rw [f_L_isRegretSo_L51, ct_2 (INV_14 hI c), bd1_s, if_neg (nI_ge (by omega) (by omega)), if_neg (nI_pos (by omega)), if_neg i10, e1, bd2_s, e2, bd2_s, nI_1]
    by_cases q : RG v w i < RG v w b
    · rw [if_pos q]; exact ih c2
    rw [if_neg q, e3, bd2_s, e4, bd2_s]
    have hle : RG v w i ≤ RG v w b := by
      by_cases z : v 11 i = 1
      · exact (hm i hiw z).1
      · rw [RG_0 hiw z]
        obtain ⟨d, hd, ed⟩ := RG_B hI (show b < 30 by omega)
        rw [ed]; exact nI_pos' (by omega)
    have heq : RG v w i = RG v w b := by
      rw [Int32.le_iff_toInt_le] at hle
      rw [Int32.lt_iff_toInt_lt] at q
      exact Int32.toInt_inj.mp (by omega)
    rw [if_pos heq]
    by_cases q2 : b ≤ i
    · rw [if_pos (nI_le q2 (by omega))]; exact ih c4
    rw [if_neg (nI_ge (by omega) (by omega)), o4 hI c4 hiw, bd2_s]
    by_cases z : v 11 i = 1
    · exact absurd ((hm i hiw z).2 heq) q2
    · rw [if_neg z]; exact ih c4
theorem rg_fin (hI : INV v N w) {n i k : Nat} (hn : 100 ≤ n) (hi : i < w) (hk : k < w) {g : Int32} (c : Nat → Int32) (hg : (v 11 i = 1 ∧ v 11 k = 0 → ∃ a b, RG v w i = nI a ∧ g = nI b ∧ a ≤ b ∧ b ≤ 300 ∧ (v 10 k = nI i → ∃ d, heatS v i + heatS v k / 2 = nI d ∧ d ≤ b)) ∧ (¬ (v 11 i = 1 ∧ v 11 k = 0) → g = -5)) : ∃ c', f_L_isRegretSo_J140 n (vs v 14 c) (nI i) (nI k) g 1 = some (1, vs v 14 c') := by
  have h30 := hI.1.2.2
  unfold f_L_isRegretSo_J140
  rw [o4 hI c hi, bd2_s]
  by_cases q1 : v 11 i = 1
  · rw [if_pos q1, o4 hI c hk, bd2_s]
    by_cases q2 : v 11 k = 0
    · obtain ⟨a, b, ea, eb, hab, hb, hd⟩ := hg.1 ⟨q1, q2⟩
      obtain ⟨c1, e1⟩ := o7 hI c hi hn
      rw [if_pos q2, e1, bd2_s, if_neg i10, ea, eb, if_neg (nI_nlt hab (by omega)), o6 hI c1 hk, bd2_s]
      by_cases q3 : v 10 k = nI i
      · obtain ⟨d, ed, hdb⟩ := hd q3
        rw [if_pos q3, o2 hI c1 hi, bd2_s, o2 hI c1 hk, bd2_s, ed, if_neg (nI_nlt hdb (by omega))]
        exact ⟨c1, rfl⟩
      · rw [if_neg q3]; exact ⟨c1, rfl⟩
    · rw [if_neg q2]
      unfold f_L_isRegretSo_J159
      rw [if_neg i10, if_pos (hg.2 (fun h => q2 h.2))]
      exact ⟨c, rfl⟩
  · rw [if_neg q1]
    unfold f_L_isRegretSo_J159
    rw [if_neg i10, if_pos (hg.2 (fun h => q1 h.1))]
    exact ⟨c, rfl⟩
theorem regret_c (hI : INV v N w) {n i k : Nat} (hn : 1000 ≤ n) (hi : i < w) (hk : k < w) : ∃ c, f_L_isRegretSo n v (nI i) (nI k) = some (1, vs v 14 c) := by
  have h30 := hI.1.2.2
  obtain ⟨g, c0, e0, hg⟩ := ifs_c hI (show 100 ≤ n by omega) hi hk
  obtain ⟨x, c1, e1, hm⟩ := most_c (INV_14 hI c0) (show 100 ≤ n by omega)
  rw [vs_vs] at e1
  unfold f_L_isRegretSo
  rw [e0, bd2_s, e1, bd2_s]
  rcases hm with ⟨ex, hx⟩ | ⟨b, hb, ex, h1, h2⟩
  · rw [if_pos ex]
    unfold f_L_isRegretSo_J25
    have hz : cntP (isP (vs v 14 c1) 1) w = 0 := cntP_zero.mpr (fun j hj => decide_eq_false (hx j hj))
    rw [ct_4 (INV_14 hI c1) (show 100 ≤ n by omega), bd1_s, hz, if_pos (show nI 0 = 0 from rfl), if_pos rfl]
    have hl : ∃ n', 100 ≤ n' ∧ f_L_isRegretSo_L51 n (vs v 14 c1) (nI i) (nI k) g x 1 0 = f_L_isRegretSo_J140 n' (vs v 14 c1) (nI i) (nI k) g 1 := by
      obtain ⟨n, rfl⟩ := up1 (show 0 < n by omega)
      refine ⟨n, by omega, ?_⟩
      rw [f_L_isRegretSo_L51, ct_2 (INV_14 hI c1), bd1_s, ex, if_pos (show (-6 : Int32) < 0 by decide), ite_self]
    obtain ⟨n', hn', el⟩ := hl
    rw [el]
    exact rg_fin hI hn' hi hk c1 hg
  · rw [if_neg (show ¬ x = -6 by rw [ex]; exact nI_ne6 (by omega))]
    unfold f_L_isRegretSo_J25
    have hz : ¬ cntP (isP (vs v 14 c1) 1) w = 0 := fun e => by
      have : decide (v 11 b = 1) = false := cntP_zero.mp e b hb
      rw [decide_eq_true (show v 11 b = 1 from h1)] at this
      exact absurd this (by decide)
    have hcl := cntP_le (isP (vs v 14 c1) 1) w
    rw [ct_4 (INV_14 hI c1) (show 100 ≤ n by omega), bd1_s, if_neg (nI_ne0 (by omega) (by omega)), if_pos rfl, ex]
    obtain ⟨n', c', hn', el⟩ := rgl hI hb h1 h2 (nI i) (nI k) g w 0 n c1 (by omega) (by omega)
    rw [show f_L_isRegretSo_L51 n (vs v 14 c1) (nI i) (nI k) g (nI b) 1 0 = _ from el]
    exact rg_fin hI hn' hi hk c' hg
end RQ
