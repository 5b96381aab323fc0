/-! What an order does: the class's change and the reference's, without history. -/
/-- F the class's change, Z the reference's fault, A what it does where nothing is wrong -/
def DOS (v m : DV) (F : Option (Int32 × DV)) (Z : Option Int32) (A : Option (Int32 × DV)) : Prop := ∃ r v1, F = some (r, v1) ∧ ((r < 0 ∧ Z = some r ∧ REL2 v1 (m 0)) ∨ (¬ r < 0 ∧ Z = some 0 ∧ ∃ m2, A = some (r, m2) ∧ REL2 v1 (m2 0) ∧ ∀ q, q ≠ 0 → m2 q = m q))
section DO
variable {v m : DV}
theorem dos_no (h : REL2 v (m 0)) {r : Int32} (hr : r < 0) {F A : Option (Int32 × DV)} {Z : Option Int32} (hF : F = some (r, v)) (hZ : Z = some r) : DOS v m F Z A := ⟨r, v, hF, Or.inl ⟨hr, hZ, h⟩⟩
theorem dos_ok {r : Int32} {v1 : DV} (hr : ¬ r < 0) {F A : Option (Int32 × DV)} {Z : Option Int32} (hF : F = some (r, v1)) (hZ : Z = some 0) (hA : ∃ m2, A = some (r, m2) ∧ REL2 v1 (m2 0) ∧ ∀ q, q ≠ 0 → m2 q = m q) : DOS v m F Z A := ⟨r, v1, hF, Or.inr ⟨hr, hZ, hA⟩⟩
theorem turn_do (h : REL2 v (m 0)) {d : Nat} (hd : d < 6) : DOS v m (f_X0_turnKey v (nI d)) (some 0) (f_X7_turns m (nI d)) := by
  have h10 : ¬ (1 : Int32) = 0 := by decide
  unfold f_X0_turnKey
  rcases isMood_cases (nI d) with ⟨e, ne⟩ | ⟨e, -⟩
  · exact absurd ⟨d, hd, rfl⟩ ne
  rw [e, if_neg h10]
  obtain ⟨N, w, hI, hN, hR⟩ := id h
  simp only [ixb_nI (show d < 6 by omega) (by decide), ck_t, clq (show d < 2 ^ 31 by omega), upd_s]
  obtain ⟨b1, b2, b3⟩ := hI.2.2.1 d hd
  have hB : B (1 - v 4 d) 1 := by
    obtain ⟨j, hj, e⟩ := b2
    rw [e]
    rcases (show j = 0 ∨ j = 1 by omega) with q | q
    · subst q; exact ⟨1, by decide, by decide⟩
    · subst q; exact ⟨0, by decide, by decide⟩
  have hr : ¬ (1 - v 4 d) < 0 := by
    obtain ⟨j, hj, e⟩ := hB
    rw [e]; exact nI_pos (by omega)
  refine dos_ok hr rfl rfl ?_
  unfold f_X7_turns
  simp only [ofD_0, ixb_nI (show 6 + 4 * d < 240 by omega) (by decide), ck_t, lt_s1, bd2_s, clq (show 6 + 4 * d < 2 ^ 31 by omega), vs_s, upd_s, (hR.2.1 d hd).1]
  refine ⟨_, rfl, ⟨N, w, ⟨hI.1, hI.2.1, fun j hj => ?_, hI.2.2.2⟩, hN, ?_⟩, fun q h1 => vs_o m _ h1⟩
  · obtain ⟨c1, c2, c3⟩ := hI.2.2.1 j hj
    refine ⟨c1, ?_, c3⟩
    rw [vs_s]
    by_cases q : j = d
    · subst q; rw [upd_s]; exact hB
    · rw [upd_o _ _ q]; exact c2
  · rw [vs_s]
    refine REL_drw hR rfl rfl rfl rfl rfl rfl rfl rfl (fun j hj => upd_o _ _ (by omega)) (fun j hj => upd_o _ _ (by omega)) (fun j hj => ?_)
    obtain ⟨f0, f1, f2, f3⟩ := hR.2.1 j hj
    by_cases q : j = d
    · subst q
      refine ⟨by rw [upd_s, vs_s, upd_s], ?_, ?_, ?_⟩
      · rw [upd_o _ _ (by omega)]; exact f1
      · rw [upd_o _ _ (by omega)]; exact f2
      · rw [upd_o _ _ (by omega)]; exact f3
    · refine ⟨?_, ?_, ?_, ?_⟩
      · rw [upd_o _ _ (by omega), vs_s, upd_o _ _ q]; exact f0
      · rw [upd_o _ _ (by omega)]; exact f1
      · rw [upd_o _ _ (by omega)]; exact f2
      · rw [upd_o _ _ (by omega)]; exact f3
theorem hours_pd (h : REL2 v (m 0)) {d : Nat} (hd : d < 6) (p2 p3 : Int32) (hu : hoursOK p2 (if p2 = -6 then -6 else p3)) : DOS v m (f_X0_changeHours_J37 v (nI d) p2 p3) (some 0) (f_X7_putsHours m (nI d) p2 p3) := by
  obtain ⟨N, w, hI, hN, hR⟩ := id h
  have fin : ∀ z : Int32, ¬ z < 0 → DOS v m (some (z, vs (vs v 5 (upd (v 5) d p2)) 6 (upd (v 6) d (if p2 = -6 then -6 else p3)))) (some 0) (f_X7_putsHours_J20 m (nI d) p2 p3 z) := by
    intro z hz
    refine dos_ok hz rfl rfl ?_
    unfold f_X7_putsHours_J20
    have key : ∀ y : Int32, y = (if p2 = -6 then -6 else p3) → ∃ m2, lt (vs (vs m 0 (upd (m 0) (8 + 4 * d) p2)) 0 (upd (vs m 0 (upd (m 0) (8 + 4 * d) p2) 0) (9 + 4 * d) y)) (fun v54 => some (z, v54)) = some (z, m2) ∧ REL2 (vs (vs v 5 (upd (v 5) d p2)) 6 (upd (v 6) d y)) (m2 0) ∧ ∀ q, q ≠ 0 → m2 q = m q := by
      intro y hy
      rw [← hy] at hu
      simp only [lt_s1, vs_s, vs_vs]
      refine ⟨_, rfl, ⟨N, w, ⟨hI.1, hI.2.1, fun j hj => ?_, hI.2.2.2⟩, hN, ?_⟩, fun q h1 => vs_o m _ h1⟩
      · obtain ⟨c1, c2, c3⟩ := hI.2.2.1 j hj
        refine ⟨c1, c2, ?_⟩
        rw [vs_s, vs_o _ _ (show (5 : Nat) ≠ 6 by decide), vs_s]
        by_cases q : j = d
        · subst q; rw [upd_s, upd_s]; exact hu
        · rw [upd_o _ _ q, upd_o _ _ q]; exact c3
      · rw [vs_s]
        refine REL_drw hR rfl rfl rfl rfl rfl rfl rfl rfl (fun j hj => by rw [upd_o _ _ (by omega), upd_o _ _ (by omega)]) (fun j hj => by rw [upd_o _ _ (by omega), upd_o _ _ (by omega)]) (fun j hj => ?_)
        obtain ⟨f0, f1, f2, f3⟩ := hR.2.1 j hj
        by_cases q : j = d
        · subst q
          refine ⟨?_, ?_, ?_, ?_⟩
          · rw [upd_o _ _ (by omega), upd_o _ _ (by omega)]; exact f0
          · rw [upd_o _ _ (by omega), upd_o _ _ (by omega)]; exact f1
          · rw [upd_o _ _ (by omega), upd_s, vs_o _ _ (show (5 : Nat) ≠ 6 by decide), vs_s, upd_s]
          · rw [upd_s, vs_s, upd_s]
        · refine ⟨?_, ?_, ?_, ?_⟩
          · rw [upd_o _ _ (by omega), upd_o _ _ (by omega)]; exact f0
          · rw [upd_o _ _ (by omega), upd_o _ _ (by omega)]; exact f1
          · rw [upd_o _ _ (by omega), upd_o _ _ (by omega), vs_o _ _ (show (5 : Nat) ≠ 6 by decide), vs_s, upd_o _ _ q]; exact f2
          · rw [upd_o _ _ (by omega), upd_o _ _ (by omega), vs_s, upd_o _ _ q]; exact f3
    simp only [ofD_2, ofD_3, ixb_nI (show 8 + 4 * d < 240 by omega) (by decide), ixb_nI (show 9 + 4 * d < 240 by omega) (by decide), ck_t, clq (show 8 + 4 * d < 2 ^ 31 by omega), clq (show 9 + 4 * d < 2 ^ 31 by omega)]
    rw [lt_s1]
    by_cases q : p2 = -6
    · rw [if_pos q, if_pos q]
      exact key (-6) (by rw [if_pos q])
    · rw [if_neg q, if_neg q]
      exact key p3 (by rw [if_neg q])
  -- the class's way
  have cls : ∀ z : Int32, f_X0_changeHours_J56 v (nI d) p2 p3 z = some (z, vs (vs v 5 (upd (v 5) d p2)) 6 (upd (v 6) d (if p2 = -6 then -6 else p3))) := by
    intro z
    unfold f_X0_changeHours_J56
    simp only [ixb_nI hd (by decide), ck_t, clq (show d < 2 ^ 31 by omega)]
    by_cases q : p2 = -6
    · rw [if_pos q, if_pos q]
    · rw [if_neg q, if_neg q]
  unfold f_X0_changeHours_J37
  simp only [ixb_nI hd (by decide), ck_t, clq (show d < 2 ^ 31 by omega), cls]
  have e : f_X7_putsHours m (nI d) p2 p3 = if v 5 d = -6 then f_X7_putsHours_J20 m (nI d) p2 p3 0 else f_X7_putsHours_J20 m (nI d) p2 p3 1 := by
    unfold f_X7_putsHours
    simp only [ofD_2, ixb_nI (show 8 + 4 * d < 240 by omega) (by decide), ck_t, clq (show 8 + 4 * d < 2 ^ 31 by omega), (hR.2.1 d hd).2.2.1]
  by_cases q : v 5 d = -6
  · have f := fin 0 (by decide)
    rw [if_pos q] at e ⊢
    rw [e]; exact f
  · have f := fin 1 (by decide)
    rw [if_neg q] at e ⊢
    rw [e]; exact f
theorem hours_do (h : REL2 v (m 0)) (p1 p2 p3 : Int32) : DOS v m (f_X0_changeHours v p1 p2 p3) (some (f_X7_hoursFault m p1 p2 p3)) (f_X7_putsHours m p1 p2 p3) := by
  have h10 : ¬ (1 : Int32) = 0 := by decide
  unfold f_X0_changeHours f_X7_hoursFault
  rw [isMood_eq, isHour_eq, isHour_eq]
  rcases isMood_cases p1 with ⟨e, -⟩ | ⟨e, d, hd, rfl⟩
  · rw [e, if_pos rfl, if_pos rfl]
    exact dos_no h (by decide) rfl rfl
  rw [e, if_neg h10, if_neg h10]
  by_cases q6 : p2 = -6
  · rw [if_pos q6, if_pos q6]
    exact hours_pd h hd p2 p3 (by rw [if_pos q6]; exact Or.inl ⟨q6, rfl⟩)
  rw [if_neg q6, if_neg q6]
  rcases isHour_cases p2 with e2 | ⟨e2, x, hx, ex⟩
  · rw [e2, if_pos rfl, if_pos rfl]
    exact dos_no h (by decide) rfl rfl
  rw [e2, if_neg h10, if_neg h10]
  rcases isHour_cases p3 with e3 | ⟨e3, y, hy, ey⟩
  · rw [e3, if_pos rfl, if_pos rfl]
    exact dos_no h (by decide) rfl rfl
  rw [e3, if_neg h10, if_neg h10]
  by_cases q : p2 = p3
  · rw [if_pos q, if_pos q]
    exact dos_no h (by decide) rfl rfl
  rw [if_neg q, if_neg q]
  refine hours_pd h hd p2 p3 (by rw [if_neg q6]; exact Or.inr ⟨x, y, hx, hy, fun e => q (by rw [ex, ey, e]), ex, ey⟩)
theorem burn_do (h : REL2 v (m 0)) (p1 : Int32) : DOS v m (f_X0_burnLetter v p1) (f_X7_burnFault m p1) (f_X7_burns m p1) := by
  have h10 : ¬ (1 : Int32) = 0 := by decide
  obtain ⟨N, w, hI, hN, hR⟩ := id h
  have h30 := hI.1.2.2
  unfold f_X0_burnLetter f_X7_burnFault
  rw [isLm_eq hI hR]
  simp only [bd1_s]
  rcases isL_cases hI p1 with ⟨e, -⟩ | ⟨e, i, hi, rfl⟩
  · rw [e, if_pos rfl, if_pos rfl]
    exact dos_no h (by decide) rfl rfl
  rw [e, if_neg h10, if_neg h10]
  obtain ⟨a0, a1, a2, a3, a4, a5, a6⟩ := hR.2.2 i hi
  obtain ⟨⟨b7, b7'⟩, -, -⟩ := hI.let hi
  generalize tn (v 7 i) = d at b7 b7'
  simp only [ofL_3, ofL_0, ixb_nI (show 33 + 7 * i < 240 by omega) (by decide), ixb_nI (show 30 + 7 * i < 240 by omega) (by decide), ixb_nI (show i < 30 by omega) (by decide), ck_t, clq (show 33 + 7 * i < 2 ^ 31 by omega), clq (show 30 + 7 * i < 2 ^ 31 by omega), clq (show i < 2 ^ 31 by omega), a3, a0, b7, ofD_0, ixb_nI (show 6 + 4 * d < 240 by omega) (by decide), clq (show 6 + 4 * d < 2 ^ 31 by omega), (hR.2.1 d (by omega)).1]
  by_cases q : v 11 i = 0
  · rw [if_pos q, if_pos q, isShut_eq hI (show d < 6 by omega)]
    simp only [bd1_s]
    by_cases q1 : v 4 d = 1
    · rw [if_pos q1, if_pos q1, if_neg h10]
      exact dos_no h (by decide) rfl rfl
    · rw [if_neg q1, if_neg q1, if_pos rfl]
      have hI1 : INV (vs v 11 (upd (v 11) i 2)) N w := by
        obtain ⟨k1, k2, k3, k4, k5, k6⟩ := hI
        refine ⟨k1, k2, k3, fun j hj => ?_, fun d hd => ?_, k6⟩
        · obtain ⟨l1, l2, l3, l4, l5, l6⟩ := k4 j hj
          refine ⟨l1, l2, l3, ?_, ?_, ?_⟩
          · rcases l4 with e | ⟨t, ht, e, e2⟩
            · exact Or.inl e
            · refine Or.inr ⟨t, ht, e, ?_⟩
              rw [vs_s, upd_o _ _ (fun q2 => by subst q2; rw [q] at e2; exact absurd e2 (by decide))]
              exact e2
          · rw [vs_s]
            by_cases q2 : j = i
            · subst q2; rw [upd_s]; exact ⟨2, by decide, rfl⟩
            · rw [upd_o _ _ q2]; exact l5
          · rw [vs_s]
            by_cases q2 : j = i
            · subst q2; rw [upd_s]; exact fun e => absurd e (by decide)
            · rw [upd_o _ _ q2]; exact l6
        · refine cntP_mono (fun j hj hp => ?_) (k5 d hd)
          unfold inDr at hp ⊢
          rw [vs_s] at hp
          rw [Bool.and_eq_true, decide_eq_true_iff, decide_eq_true_iff] at hp ⊢
          obtain ⟨p1, p2⟩ := hp
          refine ⟨p1, ?_⟩
          by_cases q2 : j = i
          · subst q2; rw [upd_s] at p2; exact absurd p2 (by decide)
          · rw [upd_o _ _ q2] at p2; exact p2
      have hR1 : REL (vs v 11 (upd (v 11) i 2)) (upd (m 0) (33 + 7 * i) 2) N w := by
        obtain ⟨⟨g0, g1, g2, g3, g4, g5⟩, hd, hl⟩ := hR
        refine ⟨⟨?_, ?_, ?_, ?_, ?_, ?_⟩, fun d hd6 => ?_, fun j hj => ?_⟩
        · rw [upd_o _ _ (by omega)]; exact g0
        · rw [upd_o _ _ (by omega)]; exact g1
        · rw [upd_o _ _ (by omega)]; exact g2
        · rw [upd_o _ _ (by omega)]; exact g3
        · rw [upd_o _ _ (by omega)]; exact g4
        · rw [upd_o _ _ (by omega)]; exact g5
        · rw [upd_o _ _ (by omega), upd_o _ _ (by omega), upd_o _ _ (by omega), upd_o _ _ (by omega)]
          exact hd d hd6
        · obtain ⟨f0, f1, f2, f3, f4, f5, f6⟩ := hl j hj
          rw [upd_o _ _ (show 30 + 7 * j ≠ 33 + 7 * i by omega), upd_o _ _ (show 31 + 7 * j ≠ 33 + 7 * i by omega), upd_o _ _ (show 32 + 7 * j ≠ 33 + 7 * i by omega), upd_o _ _ (show 34 + 7 * j ≠ 33 + 7 * i by omega), upd_o _ _ (show 35 + 7 * j ≠ 33 + 7 * i by omega), upd_o _ _ (show 36 + 7 * j ≠ 33 + 7 * i by omega)]
          by_cases q2 : j = i
          · subst q2
            refine ⟨f0, f1, f2, by rw [upd_s, vs_s, upd_s], f4, f5, ?_⟩
            rw [vs_s, upd_s]; exact fun e => absurd e (by decide)
          · refine ⟨f0, f1, f2, by rw [upd_o _ _ (by omega), vs_s, upd_o _ _ q2]; exact f3, f4, f5, ?_⟩
            rw [vs_s, upd_o _ _ q2]; exact f6
      rw [heatNow_eq _ (show i < 30 by omega)]
      simp only [bd1_s]
      obtain ⟨y, hy, ey⟩ := heatS_B hI1 hi
      refine dos_ok (r := heatS (vs v 11 (upd (v 11) i 2)) i) (by rw [ey]; exact nI_pos (by omega)) rfl rfl ?_
      unfold f_X7_burns
      simp only [bd1_s, ofL_3, ixb_nI (show 33 + 7 * i < 240 by omega) (by decide), ck_t, lt_s1, clq (show 33 + 7 * i < 2 ^ 31 by omega)]
      rw [heat_eq hI1 (m := vs m 0 (upd (m 0) (33 + 7 * i) 2)) (by rw [vs_s]; exact hR1) (by omega) hi]
      simp only [bd1_s]
      exact ⟨_, rfl, ⟨N, w, hI1, hN, by rw [vs_s]; exact hR1⟩, fun q h1 => vs_o m _ h1⟩
  · rw [if_neg q, if_neg q]
    exact dos_no h (by decide) rfl rfl
theorem write_pd (n : Nat) {N w d : Nat} (hI : INV v N w) (hN : N < 24000) (hR : REL v (m 0) N w) (hw : w < 30) (hd : d < 6) {p2 p3 : Int32} (hb : B p2 99) (ha : p3 = -6 ∨ ∃ j : Nat, j < w ∧ p3 = nI j ∧ v 11 j = 1) (hc : cntP (inDr v d) w < 8) : DOS v m (f_X0_writeLetter_J94 n v (nI d) p2 p3 (nI w)) (some 0) (f_X7_writes m (nI d) p2 p3) := by
  rw [writeJ94_eq hI hw]
  refine dos_ok (nI_pos (by omega)) rfl rfl ?_
  rw [writes_eq hw hR.1.2.2.2.2.2]
  refine ⟨_, rfl, ⟨N, w + 1, new_INV hI hw hd hb ha hc, hN, ?_⟩, fun q h1 => vs_o m _ h1⟩
  rw [vs_s, hR.1.2.2.2.1]
  exact new_REL hR hw _ _ _
theorem write_md (h : REL2 v (m 0)) {n n' : Nat} (hn : 2000 ≤ n) (hn' : 2000 ≤ n') {d : Nat} (hd : d < 6) (p2 p3 : Int32) {N w : Nat} (hI : INV v N w) (hN : N < 24000) (hR : REL v (m 0) N w) (h3 : p3 = -6 ∨ ∃ j : Nat, j < w ∧ p3 = nI j) : DOS v m (f_X0_writeLetter_J26 n v (nI d) p2 p3) (f_X7_writeFault_J23 n' m (nI d) p2 p3) (f_X7_writes m (nI d) p2 p3) := by
  have h10 : ¬ (1 : Int32) = 0 := by decide
  have h30 := hI.1.2.2
  unfold f_X0_writeLetter_J26 f_X7_writeFault_J23
  rcases in0_cases p2 (hi := 99) (by decide) with ⟨e2, q⟩ | ⟨e2, x, hx, rfl⟩
  · rw [show f_X7_in p2 0 99 = 0 from e2, if_pos rfl]
    rcases q with q | ⟨q, q2⟩
    · rw [if_pos q]
      exact dos_no h (by decide) rfl rfl
    · rw [if_neg q, if_neg (show ¬ p2 ≤ 99 from q2)]
      exact dos_no h (by decide) rfl rfl
  rw [show f_X7_in (nI x) 0 99 = 1 from e2, if_neg h10, if_neg (nI_pos (by omega)), if_pos (show nI x ≤ 99 from nI_le (b := 99) (by omega) (by decide)), hI.1.2.1, cl_5, hR.1.2.2.2.2.2]
  by_cases qw : w = 30
  · subst qw
    rw [if_pos (show (30 : Int32) ≤ nI 30 by decide), if_pos (show nI 30 = 30 from rfl)]
    exact dos_no h (by decide) rfl rfl
  have hw30 : ¬ nI w = 30 := fun e => qw ((nI_eq (b := 30) (by omega) (by decide)).mp e)
  rw [if_neg (show ¬ (30 : Int32) ≤ nI w from nI_ge (a := w) (b := 30) (by omega) (by decide)), if_neg hw30, ofMood_eq hI (nI d) 0 (by omega), many_eq hI hR (nI d) 0 (by omega)]
  have hd6 : nI d ≠ 6 := fun e => absurd ((nI_eq (b := 6) (by omega) (by decide)).mp e) (by omega)
  rw [← lp_congr w 0 0 (fun j a _ _ => stM_stA v 0 hd6 j a), stM_cnt]
  have hc : cntP (inDr v d) w ≤ 8 := hI.2.2.2.2.1 d hd
  have hcp : cntP (fun j => decide (v 7 j = nI d) && decide (v 11 j = 0)) w = cntP (inDr v d) w := rfl
  rw [hcp]
  simp only [bd1_s]
  by_cases q8 : cntP (inDr v d) w = 8
  · rw [q8, if_pos (show nI 8 = 8 from rfl), if_neg (show ¬ nI 8 < 8 by decide)]
    exact dos_no h (by decide) rfl rfl
  have q8' : ¬ nI (cntP (inDr v d) w) = 8 := fun e => q8 ((nI_eq (b := 8) (by omega) (by decide)).mp e)
  rw [if_pos (show nI (cntP (inDr v d) w) < 8 from nI_lt (b := 8) (by omega) (by decide)), if_neg q8']
  rcases h3 with e | ⟨j, hj, e⟩
  · rw [e, if_pos rfl, if_pos rfl]
    exact write_pd n hI hN hR (by omega) hd (B_nI hx) (Or.inl rfl) (by omega)
  · rw [e, if_neg (nI_ne6 (by omega)), if_neg (nI_ne6 (by omega))]
    simp only [ofL_3, ixb_nI (show 33 + 7 * j < 240 by omega) (by decide), ixb_nI (show j < 30 by omega) (by decide), ck_t, clq (show 33 + 7 * j < 2 ^ 31 by omega), clq (show j < 2 ^ 31 by omega), (hR.2.2 j hj).2.2.2.1]
    by_cases q : v 11 j = 1
    · rw [if_pos q, if_pos q]
      exact write_pd n hI hN hR (by omega) hd (B_nI hx) (Or.inr ⟨j, hj, rfl, q⟩) (by omega)
    · rw [if_neg q, if_neg q]
      exact dos_no h (by decide) rfl rfl
theorem write_do (h : REL2 v (m 0)) {n n' : Nat} (hn : 2000 ≤ n) (hn' : 2000 ≤ n') (p1 p2 p3 : Int32) : DOS v m (f_X0_writeLetter n v p1 p2 p3) (f_X7_writeFault n' m p1 p2 p3) (f_X7_writes m p1 p2 p3) := by
  have h10 : ¬ (1 : Int32) = 0 := by decide
  obtain ⟨N, w, hI, hN, hR⟩ := id h
  unfold f_X0_writeLetter f_X7_writeFault
  rw [isMood_eq]
  rcases isMood_cases p1 with ⟨e, -⟩ | ⟨e, d, hd, rfl⟩
  · rw [e, if_pos rfl, if_pos rfl]
    exact dos_no h (by decide) rfl rfl
  rw [e, if_neg h10, if_neg h10]
  by_cases q6 : p3 = -6
  · rw [if_pos q6, if_pos q6]
    exact write_md h hn hn' hd p2 p3 hI hN hR (Or.inl q6)
  rw [if_neg q6, if_neg q6, isLm_eq hI hR]
  simp only [bd1_s]
  rcases isL_cases hI p3 with ⟨e3, -⟩ | ⟨e3, j, hj, ej⟩
  · rw [e3, if_pos rfl, if_pos rfl]
    exact dos_no h (by decide) rfl rfl
  rw [e3, if_neg h10, if_neg h10]
  exact write_md h hn hn' hd p2 p3 hI hN hR (Or.inr ⟨j, hj, ej⟩)
theorem pass_do (h : REL2 v (m 0)) {n n' : Nat} (hn : 2000 ≤ n) (hn' : 2000 ≤ n') (p1 : Int32) : DOS v m (f_X0_passHours n v p1) (f_X7_passFault m p1) (f_X7_passes n' m p1) := by
  have h10 : ¬ (1 : Int32) = 0 := by decide
  obtain ⟨N, w, hI, hN, hR⟩ := id h
  have h30 := hI.1.2.2
  unfold f_X0_passHours f_X7_passFault
  rcases in1_cases p1 (hi := 240) (by decide) with ⟨e, q⟩ | ⟨e, p, hp1, hp, rfl⟩
  · rw [show f_X7_in p1 1 240 = 0 from e, if_pos rfl]
    rcases q with q | ⟨q, q2⟩
    · rw [if_pos q]
      exact dos_no h (by decide) rfl rfl
    · rw [if_neg q, if_neg (show ¬ p1 ≤ 240 from q2)]
      exact dos_no h (by decide) rfl rfl
  rw [show f_X7_in (nI p) 1 240 = 1 from e, if_neg h10, if_neg (show ¬ nI p < 1 from nI_nlt (b := 1) (a := p) hp1 (by omega)), if_pos (show nI p ≤ 240 from nI_le (b := 240) hp (by decide)), hI.1.1, cl_3, cl_4, hR.1.2.2.2.1, hR.1.2.2.2.2.1, nI_add, nI_add, show (24 : Int32) = nI 24 from rfl, pk_div (d := 24) (by omega) (by decide) (by decide), pk_div (d := 24) (by omega) (by decide) (by decide), nI_add, show N / 24 + (N % 24 + p) / 24 = (N + p) / 24 by omega]
  by_cases q : (N + p) / 24 ≤ 999
  · have q' : nI ((N + p) / 24) ≤ 999 := nI_le (b := 999) q (by decide)
    rw [if_pos q', if_pos q']
    -- the class's count
    have e1 := many_eq (m := m) hI hR 6 1 (show 100 ≤ n' by omega)
    rw [stA6_cnt] at e1
    obtain ⟨v2, m2, s2, b1, b2, b3, b4, b5, b6⟩ := pass_L p (cntP (isP v 1) w) hp p 0 n n' N 0 v m (by omega) (by omega) (by omega) hI hR (by omega) rfl
    have hs2 : s2 ≤ 30 := by
      have := cntP_le (isP v2 1) w
      omega
    refine dos_ok (r := nI s2) (nI_pos (by omega)) b1 rfl ?_
    unfold f_X7_passes
    rw [many_eq hI hR 6 1 (by omega), stA6_cnt, bd1_s, show f_X7_passes_L10 n' m (nI p) (nI (cntP (isP v 1) w)) 0 = _ from b2]
    exact ⟨m2, rfl, ⟨N + p, w, b3, by omega, b4⟩, b6⟩
  · have q' : ¬ nI ((N + p) / 24) ≤ 999 := nI_ge (b := (N + p) / 24) (a := 999) (by omega) (by omega)
    rw [if_neg q', if_neg q']
    exact dos_no h (by decide) rfl rfl
end DO
