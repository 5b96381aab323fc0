/-! Changes: hours, burn, write. -/
section CH3
variable {k : Nat} {v : DV} {l : List DV} {sv : Nat → Option DV} {m : DV}
theorem isHour_cases (p : Int32) : f_X6_isHour p = 0 ∨ (f_X6_isHour p = 1 ∧ ∃ j, j < 24 ∧ p = nI j) := by
  rw [← isHour_eq]
  rcases in0_cases p (hi := 23) (by decide) with ⟨e, -⟩ | ⟨e, j, hj, h⟩
  · exact Or.inl e
  · exact Or.inr ⟨e, j, by omega, h⟩
/-- hours that stand, or none -/
theorem hours_put (h : SIM k v l sv m) {n d : Nat} (hn : 2000 ≤ n) (hd : d < 6) (p2 p3 : Int32) (hu : hoursOK p2 (if p2 = -6 then -6 else p3)) : CHG k v l sv (f_X0_changeHours_J37 v (nI d) p2 p3) (bd1 (f_X7_know n m) (fun v18 => bd2 (f_X7_putsHours v18 (nI d) p2 p3) (fun r25 v25 => some (r25, v25)))) := by
  obtain ⟨N, w, hI, hN, hR⟩ := id h.1
  have fin : ∀ z : Int32, ¬ z < 0 → CHG k v l sv (some (z, vs (vs v 5 (upd (v 5) d p2)) 6 (upd (v 6) d (if p2 = -6 then -6 else p3)))) (bd1 (f_X7_know n m) (fun v18 => bd2 (f_X7_putsHours_J20 v18 (nI d) p2 p3 z) (fun r25 v25 => some (r25, v25)))) := by
    intro z hz
    refine chg_ok h hz rfl hn (fun m1 e1 e2 => ?_)
    rw [e1]
    unfold f_X7_putsHours_J20
    have key : ∀ y : Int32, y = (if p2 = -6 then -6 else p3) → ∃ m2, bd2 (lt (vs (vs m1 0 (upd (m1 0) (8 + 4 * d) p2)) 0 (upd (vs m1 0 (upd (m1 0) (8 + 4 * d) p2) 0) (9 + 4 * d) y)) (fun v54 => some (z, v54))) (fun r25 v25 => some (r25, v25)) = some (z, m2) ∧ REL2 (vs (vs v 5 (upd (v 5) d p2)) 6 (upd (v 6) d y)) (m2 0) ∧ ∀ q, 1 < q → q < 10 → m2 q = m1 q := by
      intro y hy
      rw [← hy] at hu
      simp only [lt_s1, bd2_s, vs_s, vs_vs, e2]
      refine ⟨_, rfl, ⟨N, w, ⟨hI.1, hI.2.1, fun j hj => ?_, hI.2.2.2⟩, hN, ?_⟩, fun q h1 _ => vs_o m1 _ (by omega)⟩
      · obtain ⟨c1, c2, c3⟩ := hI.2.2.1 j hj
        refine ⟨c1, c2, ?_⟩
        rw [vs_s, vs_o _ _ (show (5 : Nat) ≠ 6 by decide), vs_s]
        by_cases q : j = d
        · subst q; rw [upd_s, upd_s]; exact hu
        · rw [upd_o _ _ q, upd_o _ _ q]; exact c3
      · rw [vs_s]
        refine REL_drw hR rfl rfl rfl rfl rfl rfl rfl rfl (fun j hj => by rw [upd_o _ _ (by omega), upd_o _ _ (by omega)]) (fun j hj => by rw [upd_o _ _ (by omega), upd_o _ _ (by omega)]) (fun j hj => ?_)
        obtain ⟨f0, f1, f2, f3⟩ := hR.2.1 j hj
        by_cases q : j = d
        · subst q
          refine ⟨?_, ?_, ?_, ?_⟩
          · rw [upd_o _ _ (by omega), upd_o _ _ (by omega)]; exact f0
          · rw [upd_o _ _ (by omega), upd_o _ _ (by omega)]; exact f1
          · rw [upd_o _ _ (by omega), upd_s, vs_o _ _ (show (5 : Nat) ≠ 6 by decide), vs_s, upd_s]
          · rw [upd_s, vs_s, upd_s]
        · refine ⟨?_, ?_, ?_, ?_⟩
          · rw [upd_o _ _ (by omega), upd_o _ _ (by omega)]; exact f0
          · rw [upd_o _ _ (by omega), upd_o _ _ (by omega)]; exact f1
          · rw [upd_o _ _ (by omega), upd_o _ _ (by omega), vs_o _ _ (show (5 : Nat) ≠ 6 by decide), vs_s, upd_o _ _ q]; exact f2
          · rw [upd_o _ _ (by omega), upd_o _ _ (by omega), vs_s, upd_o _ _ q]; exact f3
    simp only [bd1_s, ofD_2, ofD_3, ixb_nI (show 8 + 4 * d < 240 by omega) (by decide), ixb_nI (show 9 + 4 * d < 240 by omega) (by decide), ck_t, clq (show 8 + 4 * d < 2 ^ 31 by omega), clq (show 9 + 4 * d < 2 ^ 31 by omega)]
    rw [lt_s1]
    by_cases q : p2 = -6
    · rw [if_pos q, if_pos q]
      exact key (-6) (by rw [if_pos q])
    · rw [if_neg q, if_neg q]
      exact key p3 (by rw [if_neg q])
  -- the class's way
  have cls : ∀ z : Int32, f_X0_changeHours_J56 v (nI d) p2 p3 z = some (z, vs (vs v 5 (upd (v 5) d p2)) 6 (upd (v 6) d (if p2 = -6 then -6 else p3))) := by
    intro z
    unfold f_X0_changeHours_J56
    simp only [ixb_nI hd (by decide), ck_t, clq (show d < 2 ^ 31 by omega)]
    by_cases q : p2 = -6
    · rw [if_pos q, if_pos q]
    · rw [if_neg q, if_neg q]
  unfold f_X0_changeHours_J37
  simp only [ixb_nI hd (by decide), ck_t, clq (show d < 2 ^ 31 by omega), cls]
  have hm : ∀ m1, f_X7_know n m = some m1 → m1 0 = m 0 → f_X7_putsHours m1 (nI d) p2 p3 = if v 5 d = -6 then f_X7_putsHours_J20 m1 (nI d) p2 p3 0 else f_X7_putsHours_J20 m1 (nI d) p2 p3 1 := by
    intro m1 _ e2
    unfold f_X7_putsHours
    simp only [ofD_2, ixb_nI (show 8 + 4 * d < 240 by omega) (by decide), ck_t, clq (show 8 + 4 * d < 2 ^ 31 by omega), e2, (hR.2.1 d hd).2.2.1]
  obtain ⟨m1, a1, -, a3⟩ := know_eq h.2.2.2.1 h.1 (DEQ.rfl' v) hn
  have e := hm m1 a1 (a3 0 (by decide) (by decide))
  by_cases q : v 5 d = -6
  · have f := fin 0 (by decide)
    rw [if_pos q] at e ⊢
    rw [a1, bd1_s] at f ⊢
    rw [e]; exact f
  · have f := fin 1 (by decide)
    rw [if_neg q] at e ⊢
    rw [a1, bd1_s] at f ⊢
    rw [e]; exact f
theorem hours_eq (h : SIM k v l sv m) {n : Nat} (hn : 2000 ≤ n) (p1 p2 p3 : Int32) : CHG k v l sv (f_X0_changeHours v p1 p2 p3) (f_X7_hours n m p1 p2 p3) := by
  have h10 : ¬ (1 : Int32) = 0 := by decide
  have n1 : ¬ (0 : Int32) ≤ -1 := by decide
  have n2 : ¬ (0 : Int32) ≤ -2 := by decide
  have n0 : (0 : Int32) ≤ 0 := by decide
  unfold f_X0_changeHours f_X7_hours f_X7_hoursFault
  rw [isMood_eq, isHour_eq, isHour_eq]
  rcases isMood_cases p1 with ⟨e, -⟩ | ⟨e, d, hd, rfl⟩
  · rw [e, if_pos rfl, if_pos rfl, if_neg n1]
    exact chg_no h (by decide) rfl rfl
  rw [e, if_neg h10, if_neg h10]
  by_cases q6 : p2 = -6
  · rw [if_pos q6, if_pos q6, if_pos n0]
    exact hours_put h hn hd p2 p3 (by rw [if_pos q6]; exact Or.inl ⟨q6, rfl⟩)
  rw [if_neg q6, if_neg q6]
  rcases isHour_cases p2 with e2 | ⟨e2, x, hx, ex⟩
  · rw [e2, if_pos rfl, if_pos rfl, if_neg n2]
    exact chg_no h (by decide) rfl rfl
  rw [e2, if_neg h10, if_neg h10]
  rcases isHour_cases p3 with e3 | ⟨e3, y, hy, ey⟩
  · rw [e3, if_pos rfl, if_pos rfl, if_neg n2]
    exact chg_no h (by decide) rfl rfl
  rw [e3, if_neg h10, if_neg h10]
  by_cases q : p2 = p3
  · rw [if_pos q, if_pos q, if_neg n2]
    exact chg_no h (by decide) rfl rfl
  rw [if_neg q, if_neg q, if_pos n0]
  refine hours_put h hn hd p2 p3 (by rw [if_neg q6]; exact Or.inr ⟨x, y, hx, hy, fun e => q (by rw [ex, ey, e]), ex, ey⟩)
theorem isShut_eq {N w d : Nat} (hI : INV v N w) (hd : d < 6) : f_X0_isShut v (nI d) = some (if v 4 d = 1 then 1 else 0) := by
  unfold f_X0_isShut
  rcases isMood_cases (nI d) with ⟨e, ne⟩ | ⟨e, -⟩
  · exact absurd ⟨d, hd, rfl⟩ ne
  · rw [e, if_neg (by decide)]
    simp only [ixb_nI hd (by decide), ck_t, clq (show d < 2 ^ 31 by omega)]
    split <;> rfl
theorem burn_eq (h : SIM k v l sv m) {n : Nat} (hn : 2000 ≤ n) (p1 : Int32) : CHG k v l sv (f_X0_burnLetter v p1) (f_X7_burn n m p1) := by
  have h10 : ¬ (1 : Int32) = 0 := by decide
  have n1 : ¬ (0 : Int32) ≤ -1 := by decide
  have n5 : ¬ (0 : Int32) ≤ -5 := by decide
  have n0 : (0 : Int32) ≤ 0 := by decide
  obtain ⟨N, w, hI, hN, hR⟩ := id h.1
  have h30 := hI.1.2.2
  unfold f_X0_burnLetter f_X7_burn f_X7_burnFault
  rw [isLm_eq hI hR]
  simp only [bd1_s]
  rcases isL_cases hI p1 with ⟨e, -⟩ | ⟨e, i, hi, rfl⟩
  · rw [e, if_pos rfl, if_pos rfl, bd1_s, if_neg n1]
    exact chg_no h (by decide) rfl rfl
  rw [e, if_neg h10, if_neg h10]
  obtain ⟨a0, a1, a2, a3, a4, a5, a6⟩ := hR.2.2 i hi
  obtain ⟨⟨b7, b7'⟩, -, -⟩ := hI.let hi
  generalize tn (v 7 i) = d at b7 b7'
  simp only [ofL_3, ofL_0, ixb_nI (show 33 + 7 * i < 240 by omega) (by decide), ixb_nI (show 30 + 7 * i < 240 by omega) (by decide), ixb_nI (show i < 30 by omega) (by decide), ck_t, clq (show 33 + 7 * i < 2 ^ 31 by omega), clq (show 30 + 7 * i < 2 ^ 31 by omega), clq (show i < 2 ^ 31 by omega), a3, a0, b7, ofD_0, ixb_nI (show 6 + 4 * d < 240 by omega) (by decide), clq (show 6 + 4 * d < 2 ^ 31 by omega), (hR.2.1 d (by omega)).1]
  by_cases q : v 11 i = 0
  · rw [if_pos q, if_pos q, isShut_eq hI (show d < 6 by omega)]
    simp only [bd1_s]
    by_cases q1 : v 4 d = 1
    · rw [if_pos q1, if_pos q1, if_neg h10, bd1_s, if_neg n5]
      exact chg_no h (by decide) rfl rfl
    · rw [if_neg q1, if_neg q1, if_pos rfl, bd1_s, if_pos n0]
      have hI1 : INV (vs v 11 (upd (v 11) i 2)) N w := by
        obtain ⟨k1, k2, k3, k4, k5, k6⟩ := hI
        refine ⟨k1, k2, k3, fun j hj => ?_, fun d hd => ?_, k6⟩
        · obtain ⟨l1, l2, l3, l4, l5, l6⟩ := k4 j hj
          refine ⟨l1, l2, l3, ?_, ?_, ?_⟩
          · rcases l4 with e | ⟨t, ht, e, e2⟩
            · exact Or.inl e
            · refine Or.inr ⟨t, ht, e, ?_⟩
              rw [vs_s, upd_o _ _ (fun q2 => by subst q2; rw [q] at e2; exact absurd e2 (by decide))]
              exact e2
          · rw [vs_s]
            by_cases q2 : j = i
            · subst q2; rw [upd_s]; exact ⟨2, by decide, rfl⟩
            · rw [upd_o _ _ q2]; exact l5
          · rw [vs_s]
            by_cases q2 : j = i
            · subst q2; rw [upd_s]; exact fun e => absurd e (by decide)
            · rw [upd_o _ _ q2]; exact l6
        · refine cntP_mono (fun j hj hp => ?_) (k5 d hd)
          unfold inDr at hp ⊢
          rw [vs_s] at hp
          rw [Bool.and_eq_true, decide_eq_true_iff, decide_eq_true_iff] at hp ⊢
          obtain ⟨p1, p2⟩ := hp
          refine ⟨p1, ?_⟩
          by_cases q2 : j = i
          · subst q2; rw [upd_s] at p2; exact absurd p2 (by decide)
          · rw [upd_o _ _ q2] at p2; exact p2
      have hR1 : REL (vs v 11 (upd (v 11) i 2)) (upd (m 0) (33 + 7 * i) 2) N w := by
        obtain ⟨⟨g0, g1, g2, g3, g4, g5⟩, hd, hl⟩ := hR
        refine ⟨⟨?_, ?_, ?_, ?_, ?_, ?_⟩, fun d hd6 => ?_, fun j hj => ?_⟩
        · rw [upd_o _ _ (by omega)]; exact g0
        · rw [upd_o _ _ (by omega)]; exact g1
        · rw [upd_o _ _ (by omega)]; exact g2
        · rw [upd_o _ _ (by omega)]; exact g3
        · rw [upd_o _ _ (by omega)]; exact g4
        · rw [upd_o _ _ (by omega)]; exact g5
        · rw [upd_o _ _ (by omega), upd_o _ _ (by omega), upd_o _ _ (by omega), upd_o _ _ (by omega)]
          exact hd d hd6
        · obtain ⟨f0, f1, f2, f3, f4, f5, f6⟩ := hl j hj
          rw [upd_o _ _ (show 30 + 7 * j ≠ 33 + 7 * i by omega), upd_o _ _ (show 31 + 7 * j ≠ 33 + 7 * i by omega), upd_o _ _ (show 32 + 7 * j ≠ 33 + 7 * i by omega), upd_o _ _ (show 34 + 7 * j ≠ 33 + 7 * i by omega), upd_o _ _ (show 35 + 7 * j ≠ 33 + 7 * i by omega), upd_o _ _ (show 36 + 7 * j ≠ 33 + 7 * i by omega)]
          by_cases q2 : j = i
          · subst q2
            refine ⟨f0, f1, f2, by rw [upd_s, vs_s, upd_s], f4, f5, ?_⟩
            rw [vs_s, upd_s]; exact fun e => absurd e (by decide)
          · refine ⟨f0, f1, f2, by rw [upd_o _ _ (by omega), vs_s, upd_o _ _ q2]; exact f3, f4, f5, ?_⟩
            rw [vs_s, upd_o _ _ q2]; exact f6
      rw [heatNow_eq _ (show i < 30 by omega)]
      simp only [bd1_s]
      obtain ⟨y, hy, ey⟩ := heatS_B hI1 hi
      refine chg_ok h (r := heatS (vs v 11 (upd (v 11) i 2)) i) (by rw [ey]; exact nI_pos (by omega)) rfl hn (fun m1 e1 e2 => ?_)
      rw [e1]
      unfold f_X7_burns
      simp only [bd1_s, ofL_3, ixb_nI (show 33 + 7 * i < 240 by omega) (by decide), ck_t, lt_s1, clq (show 33 + 7 * i < 2 ^ 31 by omega), e2]
      rw [heat_eq hI1 (m := vs m1 0 (upd (m 0) (33 + 7 * i) 2)) (by rw [vs_s]; exact hR1) (by omega) hi]
      simp only [bd1_s, bd2_s]
      exact ⟨_, rfl, ⟨N, w, hI1, hN, by rw [vs_s]; exact hR1⟩, fun q h1 _ => vs_o m1 _ (by omega)⟩
  · rw [if_neg q, if_neg q, bd1_s, if_neg n5]
    exact chg_no h (by decide) rfl rfl
end CH3
