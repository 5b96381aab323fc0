/-! Changes, the object alone: what they do to a sound desk. -/
/-- refused, nothing changed; or a sound desk, no earlier than before -/
def RES (v : DV) (N w : Nat) (F : Option (Int32 × DV)) : Prop := ∃ r v1, F = some (r, v1) ∧ ((r < 0 ∧ ¬ r < -6 ∧ v1 = v) ∨ (¬ r < 0 ∧ ∃ N1 w1, N ≤ N1 ∧ w ≤ w1 ∧ GD v1 N1 w1))
section C27
variable {v : DV} {N w : Nat}
theorem res_no {r : Int32} (h1 : r < 0) (h2 : ¬ r < -6) {F : Option (Int32 × DV)} (hF : F = some (r, v)) : RES v N w F := ⟨r, v, hF, Or.inl ⟨h1, h2, rfl⟩⟩
theorem res_ok {r : Int32} (h1 : ¬ r < 0) {v1 : DV} {w1 : Nat} (hw : w ≤ w1) (hG : GD v1 N w1) {F : Option (Int32 × DV)} (hF : F = some (r, v1)) : RES v N w F := ⟨r, v1, hF, Or.inr ⟨h1, N, w1, Nat.le_refl N, hw, hG⟩⟩
theorem B_pos {x : Int32} {n : Nat} (h : B x n) (hn : n < 2 ^ 31) : ¬ x < 0 := by
  obtain ⟨j, hj, e⟩ := h
  rw [e]; exact nI_pos (by omega)
theorem MORE_eq {u : DV} (h : MORE v N w) (e : ∀ j, 8 ≤ j → j < 14 → u j = v j) : MORE u N w := by
  intro k hk
  rw [e 8 (by decide) (by decide), e 9 (by decide) (by decide), e 10 (by decide) (by decide), e 11 (by decide) (by decide), e 12 (by decide) (by decide), e 13 (by decide) (by decide)]
  exact h k hk
theorem turn_c (h : GD v N w) (p1 : Int32) : RES v N w (f_X0_turnKey v p1) := by
  obtain ⟨hI, hN, hM⟩ := h
  unfold f_X0_turnKey
  rcases isMood_cases p1 with ⟨e, -⟩ | ⟨e, d, hd, rfl⟩
  · rw [e, if_pos rfl]
    exact res_no (by decide) (by decide) rfl
  rw [e, if_neg i10]
  simp only [ixb_nI (show d < 6 by omega) (by decide), ck_t, clq (show d < 2 ^ 31 by omega), upd_s]
  obtain ⟨b1, b2, b3⟩ := hI.2.2.1 d hd
  have hB : B (1 - v 4 d) 1 := by
    obtain ⟨j, hj, e⟩ := b2
    rw [e]
    rcases (show j = 0 ∨ j = 1 by omega) with q | q
    · subst q; exact ⟨1, by decide, by decide⟩
    · subst q; exact ⟨0, by decide, by decide⟩
  refine res_ok (v1 := vs v 4 (upd (v 4) d (1 - v 4 d))) (B_pos hB (by decide)) (Nat.le_refl w) ⟨⟨hI.1, hI.2.1, fun j hj => ?_, hI.2.2.2⟩, hN, MORE_eq hM (fun j h8 _ => vs_o _ _ (by omega))⟩ rfl
  obtain ⟨c1, c2, c3⟩ := hI.2.2.1 j hj
  refine ⟨c1, ?_, c3⟩
  rw [vs_s]
  by_cases q : j = d
  · subst q; rw [upd_s]; exact hB
  · rw [upd_o _ _ q]; exact c2
theorem rest_c (h : GD v N w) (p1 p2 : Int32) : RES v N w (f_X0_changeRest v p1 p2) := by
  obtain ⟨hI, hN, hM⟩ := h
  unfold f_X0_changeRest
  rcases isMood_cases p1 with ⟨e, -⟩ | ⟨e, d, hd, rfl⟩
  · rw [e, if_pos rfl]
    exact res_no (by decide) (by decide) rfl
  rw [e, if_neg i10]
  rcases in0_cases p2 (hi := 30) (by decide) with ⟨e2, q | ⟨q, q2⟩⟩ | ⟨e2, x, hx, rfl⟩
  · rw [if_pos q]; exact res_no (by decide) (by decide) rfl
  · rw [if_neg q, if_neg (show ¬ p2 ≤ 30 from q2)]; exact res_no (by decide) (by decide) rfl
  rw [if_neg (nI_pos (by omega)), if_pos (show nI x ≤ 30 from nI_le (b := 30) (by omega) (by decide))]
  simp only [ixb_nI (show d < 6 by omega) (by decide), ck_t, clq (show d < 2 ^ 31 by omega)]
  obtain ⟨b1, b2, b3⟩ := hI.2.2.1 d hd
  refine res_ok (v1 := vs v 3 (upd (v 3) d (nI x))) (B_pos b1 (by decide)) (Nat.le_refl w) ⟨⟨hI.1, hI.2.1, fun j hj => ?_, hI.2.2.2⟩, hN, MORE_eq hM (fun j h8 _ => vs_o _ _ (by omega))⟩ rfl
  obtain ⟨c1, c2, c3⟩ := hI.2.2.1 j hj
  refine ⟨?_, c2, c3⟩
  rw [vs_s]
  by_cases q : j = d
  · subst q; rw [upd_s]; exact B_nI hx
  · rw [upd_o _ _ q]; exact c1
theorem hours_c (h : GD v N w) (p1 p2 p3 : Int32) : RES v N w (f_X0_changeHours v p1 p2 p3) := by
  obtain ⟨hI, hN, hM⟩ := h
  have put : ∀ d, d < 6 → hoursOK p2 (if p2 = -6 then -6 else p3) → RES v N w (f_X0_changeHours_J37 v (nI d) p2 p3) := by
    intro d hd hu
    have cls : ∀ z : Int32, f_X0_changeHours_J56 v (nI d) p2 p3 z = some (z, vs (vs v 5 (upd (v 5) d p2)) 6 (upd (v 6) d (if p2 = -6 then -6 else p3))) := by
      intro z
      unfold f_X0_changeHours_J56
      simp only [ixb_nI hd (by decide), ck_t, clq (show d < 2 ^ 31 by omega)]
      by_cases q : p2 = -6
      · rw [if_pos q, if_pos q]
      · rw [if_neg q, if_neg q]
    have hG : GD (vs (vs v 5 (upd (v 5) d p2)) 6 (upd (v 6) d (if p2 = -6 then -6 else p3))) N w := by
      refine ⟨⟨hI.1, hI.2.1, fun j hj => ?_, hI.2.2.2⟩, hN, MORE_eq hM (fun j h8 _ => by rw [vs_o _ _ (by omega), vs_o _ _ (by omega)])⟩
      obtain ⟨c1, c2, c3⟩ := hI.2.2.1 j hj
      refine ⟨c1, c2, ?_⟩
      rw [vs_s, vs_o _ _ (show (5 : Nat) ≠ 6 by decide), vs_s]
      by_cases q : j = d
      · subst q; rw [upd_s, upd_s]; exact hu
      · rw [upd_o _ _ q, upd_o _ _ q]; exact c3
    unfold f_X0_changeHours_J37
    simp only [ixb_nI hd (by decide), ck_t, clq (show d < 2 ^ 31 by omega), cls]
    by_cases q : v 5 d = -6
    · rw [if_pos q]; exact res_ok (by decide) (Nat.le_refl w) hG rfl
    · rw [if_neg q]; exact res_ok (by decide) (Nat.le_refl w) hG rfl
  unfold f_X0_changeHours
  rcases isMood_cases p1 with ⟨e, -⟩ | ⟨e, d, hd, rfl⟩
  · rw [e, if_pos rfl]
    exact res_no (by decide) (by decide) rfl
  rw [e, if_neg i10]
  by_cases q6 : p2 = -6
  · rw [if_pos q6]
    exact put d hd (by rw [if_pos q6]; exact Or.inl ⟨q6, rfl⟩)
  rw [if_neg q6]
  rcases isHour_cases p2 with e2 | ⟨e2, x, hx, ex⟩
  · rw [e2, if_pos rfl]; exact res_no (by decide) (by decide) rfl
  rw [e2, if_neg i10]
  rcases isHour_cases p3 with e3 | ⟨e3, y, hy, ey⟩
  · rw [e3, if_pos rfl]; exact res_no (by decide) (by decide) rfl
  rw [e3, if_neg i10]
  by_cases q : p2 = p3
  · rw [if_pos q]; exact res_no (by decide) (by decide) rfl
  rw [if_neg q]
  exact put d hd (by rw [if_neg q6]; exact Or.inr ⟨x, y, hx, hy, fun e => q (by rw [ex, ey, e]), ex, ey⟩)
theorem set_x (h : GD v N w) (i hi : Nat) (hi3 : i < 3) (hh : hsF i = nI hi) (hbd : (i = 0 → hi = 23) ∧ (i = 1 → hi = 99) ∧ (i = 2 → hi = 20)) {x : Nat} (hx : x ≤ hi) : GD (vs v 2 (upd (v 2) i (nI x))) N w ∧ f_X0_changeSetting v (nI i) (nI x) = some (v 2 i, vs v 2 (upd (v 2) i (nI x))) ∧ ¬ v 2 i < 0 := by
  obtain ⟨hI, hN, hM⟩ := h
  have hi100 : hi ≤ 99 := by omega
  obtain ⟨d0, d1, d2⟩ := hI.2.1
  refine ⟨⟨⟨hI.1, ?_, hI.2.2⟩, hN, MORE_eq hM (fun j h8 _ => vs_o _ _ (by omega))⟩, ?_, ?_⟩
  · rw [vs_s]
    rcases (show i = 0 ∨ i = 1 ∨ i = 2 by omega) with q | q | q <;> subst q
    · rw [upd_s, upd_o _ _ (by decide), upd_o _ _ (by decide)]; exact ⟨B_nI (by have := hbd.1 rfl; omega), d1, d2⟩
    · rw [upd_s, upd_o _ _ (by decide), upd_o _ _ (by decide)]; exact ⟨d0, B_nI (by have := hbd.2.1 rfl; omega), d2⟩
    · rw [upd_s, upd_o _ _ (by decide), upd_o _ _ (by decide)]; exact ⟨d0, d1, B_nI (by have := hbd.2.2 rfl; omega)⟩
  · unfold f_X0_changeSetting
    rw [if_neg (nI_pos (by omega)), if_neg (show ¬ (2 : Int32) < nI i from nI_nlt (b := i) (a := 2) (by omega) (by decide)), if_neg (nI_pos (by omega))]
    simp only [ixb_nI (show i < 3 by omega) (by decide), ck_t, clq (show i < 2 ^ 31 by omega), hh]
    rw [if_pos (nI_le hx (by omega))]
  · rcases (show i = 0 ∨ i = 1 ∨ i = 2 by omega) with q | q | q <;> subst q
    · exact B_pos d0 (by decide)
    · exact B_pos d1 (by decide)
    · exact B_pos d2 (by decide)
theorem burn_c (h : GD v N w) (p1 : Int32) : RES v N w (f_X0_burnLetter v p1) := by
  obtain ⟨hI, hN, hM⟩ := h
  have h30 := hI.1.2.2
  unfold f_X0_burnLetter
  rcases isL_cases hI p1 with ⟨e, -⟩ | ⟨e, i, hi, rfl⟩
  · rw [e, if_pos rfl]
    exact res_no (by decide) (by decide) rfl
  rw [e, if_neg i10]
  obtain ⟨⟨b7, b7'⟩, -, -⟩ := hI.let hi
  generalize tn (v 7 i) = d at b7 b7'
  simp only [ixb_nI (show i < 30 by omega) (by decide), ck_t, clq (show i < 2 ^ 31 by omega), b7]
  by_cases q : v 11 i = 0
  · rw [if_pos q, isShut_eq hI (show d < 6 by omega)]
    simp only [bd1_s]
    by_cases q1 : v 4 d = 1
    · rw [if_pos q1, if_neg i10]
      exact res_no (by decide) (by decide) rfl
    · rw [if_neg q1, if_pos rfl]
      have hI1 : INV (vs v 11 (upd (v 11) i 2)) N w := by
        obtain ⟨k1, k2, k3, k4, k5, k6⟩ := hI
        refine ⟨k1, k2, k3, fun j hj => ?_, fun d hd => ?_, k6⟩
        · obtain ⟨l1, l2, l3, l4, l5, l6⟩ := k4 j hj
          refine ⟨l1, l2, l3, ?_, ?_, ?_⟩
          · rcases l4 with e | ⟨t, ht, e, e2⟩
            · exact Or.inl e
            · refine Or.inr ⟨t, ht, e, ?_⟩
              rw [vs_s, upd_o _ _ (fun q2 => by subst q2; rw [q] at e2; exact absurd e2 (by decide))]
              exact e2
          · rw [vs_s]
            by_cases q2 : j = i
            · subst q2; rw [upd_s]; exact ⟨2, by decide, rfl⟩
            · rw [upd_o _ _ q2]; exact l5
          · rw [vs_s]
            by_cases q2 : j = i
            · subst q2; rw [upd_s]; exact fun e => absurd e (by decide)
            · rw [upd_o _ _ q2]; exact l6
        · refine cntP_mono (fun j hj hp => ?_) (k5 d hd)
          unfold inDr at hp ⊢
          rw [vs_s] at hp
          rw [Bool.and_eq_true, decide_eq_true_iff, decide_eq_true_iff] at hp ⊢
          obtain ⟨p1, p2⟩ := hp
          refine ⟨p1, ?_⟩
          by_cases q2 : j = i
          · subst q2; rw [upd_s] at p2; exact absurd p2 (by decide)
          · rw [upd_o _ _ q2] at p2; exact p2
      have hM1 : MORE (vs v 11 (upd (v 11) i 2)) N w := by
        intro k hk
        obtain ⟨a, b, c⟩ := hM k hk
        show (upd (v 11) i 2 k = 1 → (∃ t, t ≤ N / 24 ∧ v 12 k = nI t) ∧ tn (v 13 k) ≤ tn (v 8 k)) ∧ (¬ upd (v 11) i 2 k = 1 → v 12 k = -6) ∧ (∀ j, j < k → v 10 k = nI j → tn (v 12 j) ≤ tn (v 9 k))
        by_cases q2 : k = i
        · subst q2
          rw [upd_s]
          exact ⟨fun e => absurd e (by decide), fun _ => b (by rw [q]; decide), c⟩
        · rw [upd_o _ _ q2]
          exact ⟨a, b, c⟩
      rw [heatNow_eq _ (show i < 30 by omega)]
      simp only [bd1_s]
      exact res_ok (B_pos (heatS_B hI1 hi) (by decide)) (Nat.le_refl w) ⟨hI1, hN, hM1⟩ rfl
  · rw [if_neg q]
    exact res_no (by decide) (by decide) rfl
theorem write_c (h : GD v N w) {n : Nat} (hn : 2000 ≤ n) (p1 p2 p3 : Int32) : RES v N w (f_X0_writeLetter n v p1 p2 p3) := by
  obtain ⟨hI, hN, hM⟩ := h
  have h30 := hI.1.2.2
  have put : ∀ (d x : Nat), d < 6 → x ≤ 99 → w < 30 → (p3 = -6 ∨ ∃ j : Nat, j < w ∧ p3 = nI j ∧ v 11 j = 1) → cntP (inDr v d) w < 8 → RES v N w (f_X0_writeLetter_J94 n v (nI d) (nI x) p3 (nI w)) := by
    intro d x hd hx hw ha hc
    rw [writeJ94_eq hI hw]
    refine res_ok (nI_pos (by omega)) (Nat.le_succ w) ⟨new_INV hI hw hd (B_nI hx) ha hc, hN, fun k hk => ?_⟩ rfl
    show (upd (v 11) w 0 k = 1 → (∃ t, t ≤ N / 24 ∧ upd (v 12) w (-6) k = nI t) ∧ tn (v 13 k) ≤ tn (upd (v 8) w (nI x) k)) ∧ (¬ upd (v 11) w 0 k = 1 → upd (v 12) w (-6) k = -6) ∧ (∀ j, j < k → upd (v 10) w p3 k = nI j → tn (upd (v 12) w (-6) j) ≤ tn (upd (v 9) w (nI (N / 24)) k))
    by_cases q : k = w
    · subst q
      rw [upd_s, upd_s, upd_s, upd_s]
      refine ⟨fun e => absurd e (by decide), fun _ => rfl, fun j hj e => ?_⟩
      rw [upd_o _ _ (by omega), upd_s, tn_nI (by omega)]
      have e' : p3 = nI j := e
      rcases ha with q3 | ⟨i, hi, q3, q4⟩
      · exact absurd (e'.symm.trans q3) (nI_ne6 (by omega))
      · have : i = j := (nI_eq (by omega) (by omega)).mp (q3.symm.trans e')
        subst this
        obtain ⟨⟨t, ht, et⟩, -⟩ := (hM i hi).1 q4
        rw [et, tn_nI (by omega)]
        exact ht
    · obtain ⟨a, b, c⟩ := hM k (by omega)
      rw [upd_o _ _ q, upd_o _ _ q, upd_o _ _ q, upd_o _ _ q, upd_o _ _ q]
      exact ⟨a, b, fun j hj e => by rw [upd_o _ _ (by omega)]; exact c j hj e⟩
  have mid : ∀ d, d < 6 → (p3 = -6 ∨ ∃ j : Nat, j < w ∧ p3 = nI j) → RES v N w (f_X0_writeLetter_J26 n v (nI d) p2 p3) := by
    intro d hd h3
    unfold f_X0_writeLetter_J26
    rcases in0_cases p2 (hi := 99) (by decide) with ⟨e2, q | ⟨q, q2⟩⟩ | ⟨e2, x, hx, rfl⟩
    · rw [if_pos q]; exact res_no (by decide) (by decide) rfl
    · rw [if_neg q, if_neg (show ¬ p2 ≤ 99 from q2)]; exact res_no (by decide) (by decide) rfl
    rw [if_neg (nI_pos (by omega)), if_pos (show nI x ≤ 99 from nI_le (b := 99) (by omega) (by decide)), hI.1.2.1]
    by_cases qw : w = 30
    · rw [qw, if_pos (show (30 : Int32) ≤ nI 30 by decide)]
      exact res_no (by decide) (by decide) rfl
    rw [if_neg (show ¬ (30 : Int32) ≤ nI w from nI_ge (a := w) (b := 30) (by omega) (by decide)), ofMood_eq hI (nI d) 0 (by omega), stM_cnt, bd1_s]
    have hc : cntP (inDr v d) w ≤ 8 := hI.2.2.2.2.1 d hd
    have hcp : cntP (fun j => decide (v 7 j = nI d) && decide (v 11 j = 0)) w = cntP (inDr v d) w := rfl
    rw [hcp]
    by_cases q8 : cntP (inDr v d) w = 8
    · rw [q8, if_neg (show ¬ nI 8 < 8 by decide)]
      exact res_no (by decide) (by decide) rfl
    rw [if_pos (show nI (cntP (inDr v d) w) < 8 from nI_lt (b := 8) (by omega) (by decide))]
    rcases h3 with e | ⟨j, hj, e⟩
    · rw [if_pos e]
      exact put d x hd hx (by omega) (Or.inl e) (by omega)
    · rw [if_neg (by rw [e]; exact nI_ne6 (by omega)), show ixb p3 30 = true by rw [e]; exact ixb_nI (by omega) (by decide), ck_t, show Int32.toNatClampNeg p3 = j by rw [e]; exact clq (by omega)]
      by_cases q : v 11 j = 1
      · rw [if_pos q]
        exact put d x hd hx (by omega) (Or.inr ⟨j, hj, e, q⟩) (by omega)
      · rw [if_neg q]
        exact res_no (by decide) (by decide) rfl
  unfold f_X0_writeLetter
  rcases isMood_cases p1 with ⟨e, -⟩ | ⟨e, d, hd, rfl⟩
  · rw [e, if_pos rfl]
    exact res_no (by decide) (by decide) rfl
  rw [e, if_neg i10]
  by_cases q6 : p3 = -6
  · rw [if_pos q6]
    exact mid d hd (Or.inl q6)
  rw [if_neg q6]
  rcases isL_cases hI p3 with ⟨e3, -⟩ | ⟨e3, j, hj, ej⟩
  · rw [e3, if_pos rfl]
    exact res_no (by decide) (by decide) rfl
  rw [e3, if_neg i10]
  exact mid d hd (Or.inr ⟨j, hj, ej⟩)
/-- some hours pass, or are refused -/
theorem pass_r (h : GD v N w) {n p : Nat} (hn : 1000 ≤ n) (hp1 : 1 ≤ p) (hp : p ≤ 240) : RES v N w (f_X0_passHours n v (nI p)) := by
  have hI := h.1
  have hN := h.2.1
  by_cases q : N + p < 24000
  · obtain ⟨v2, s, a1, a2, -, a4, -⟩ := passes_c (v0 := v) hp1 hp hn (STc_0 h) (by omega)
    exact ⟨nI s, v2, a1, Or.inr ⟨nI_pos (by omega), N + p, w, by omega, Nat.le_refl w, by have := a2.1; rwa [Nat.zero_add] at this⟩⟩
  · unfold f_X0_passHours
    rw [if_neg (show ¬ nI p < 1 from nI_nlt (b := 1) (a := p) hp1 (by omega)), if_pos (show nI p ≤ 240 from nI_le (b := 240) hp (by decide)), hI.1.1, nI_add, show (24 : Int32) = nI 24 from rfl, pk_div (d := 24) (by omega) (by decide) (by decide), if_neg (show ¬ nI ((N + p) / 24) ≤ 999 from nI_ge (b := (N + p) / 24) (a := 999) (by omega) (by omega))]
    exact res_no (by decide) (by decide) rfl
end C27
