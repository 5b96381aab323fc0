/-! undo, save, restore. -/
section US
variable {k : Nat} {v : DV} {l : List DV} {sv : Nat → Option DV} {m : DV}
theorem e240 (k i : Nat) : (240 : Int32) * nI k + nI i = nI (240 * k + i) := by
  show nI 240 * nI k + nI i = _
  rw [pk_mul, nI_add]
theorem undo_L22 {j : Nat} (hj : j ≤ 5) : ∀ (r i n : Nat) (m : DV), i + r = 240 → r < n → m 8 0 = nI j → (∀ q, q < i → m 0 q = m 2 (240 * j + q)) → ∃ m2, f_X7_undo_L22 n m (nI i) = some (nI j, m2) ∧ (∀ q, q < 240 → m2 0 q = m 2 (240 * j + q)) ∧ ∀ q, q ≠ 0 → m2 q = m q
  | 0, i, n, m, hi, hn, h8, hz => by
    obtain ⟨n, rfl⟩ := up1 hn
    have : i = 240 := by omega
    subst this
    rw [f_X7_undo_L22, if_pos (by decide), h8]
    exact ⟨_, rfl, hz, fun _ _ => rfl⟩
  | r + 1, i, n, m, hi, hn, h8, hz => by
    obtain ⟨n, rfl⟩ := up1 (show 0 < n by omega)
    rw [f_X7_undo_L22, if_neg (show ¬ (240 : Int32) ≤ nI i from nI_ge (a := i) (b := 240) (by omega) (by decide)), h8, e240]
    simp only [ixb_nI (show i < 240 by omega) (by decide), ixb_nI (show 240 * j + i < 1440 by omega) (by decide), ck_t, lt_s1, clq (show i < 2 ^ 31 by omega), clq (show 240 * j + i < 2 ^ 31 by omega), nI_1]
    obtain ⟨m2, h1, h2, h3⟩ := undo_L22 hj r (i + 1) n (vs m 0 (upd (m 0) i (m 2 (240 * j + i)))) (by omega) (by omega) h8 (fun q hq => by
      rw [vs_s, vs_o m _ (show (2 : Nat) ≠ 0 by decide)]
      by_cases e : q = i
      · subst e; rw [upd_s]
      · rw [upd_o _ _ e]; exact hz q (by omega))
    exact ⟨m2, h1, fun q hq => by rw [h2 q hq, vs_o m _ (show (2 : Nat) ≠ 0 by decide)], fun q hq => by rw [h3 q hq, vs_o m _ hq]⟩
theorem restore_L30 {j : Nat} (hj : j < 2) : ∀ (r i n : Nat) (m : DV), i + r = 240 → r < n → (∀ q, q < i → m 0 q = m 3 (240 * j + q)) → ∃ m2, f_X7_restore_L30 n m (nI j) (nI i) = some (m2 0 5, m2) ∧ (∀ q, q < 240 → m2 0 q = m 3 (240 * j + q)) ∧ ∀ q, q ≠ 0 → m2 q = m q
  | 0, i, n, m, hi, hn, hz => by
    obtain ⟨n, rfl⟩ := up1 hn
    have : i = 240 := by omega
    subst this
    rw [f_X7_restore_L30, if_pos (by decide), cl_5]
    exact ⟨_, rfl, hz, fun _ _ => rfl⟩
  | r + 1, i, n, m, hi, hn, hz => by
    obtain ⟨n, rfl⟩ := up1 (show 0 < n by omega)
    rw [f_X7_restore_L30, if_neg (show ¬ (240 : Int32) ≤ nI i from nI_ge (a := i) (b := 240) (by omega) (by decide)), e240]
    simp only [ixb_nI (show i < 240 by omega) (by decide), ixb_nI (show 240 * j + i < 480 by omega) (by decide), ck_t, lt_s1, clq (show i < 2 ^ 31 by omega), clq (show 240 * j + i < 2 ^ 31 by omega), nI_1]
    obtain ⟨m2, h1, h2, h3⟩ := restore_L30 hj r (i + 1) n (vs m 0 (upd (m 0) i (m 3 (240 * j + i)))) (by omega) (by omega) (fun q hq => by
      rw [vs_s, vs_o m _ (show (3 : Nat) ≠ 0 by decide)]
      by_cases e : q = i
      · subst e; rw [upd_s]
      · rw [upd_o _ _ e]; exact hz q (by omega))
    exact ⟨m2, h1, fun q hq => by rw [h2 q hq, vs_o m _ (show (3 : Nat) ≠ 0 by decide)], fun q hq => by rw [h3 q hq, vs_o m _ hq]⟩
theorem save_L14 {j : Nat} (hj : j < 2) : ∀ (r i n : Nat) (m : DV), i + r = 240 → r < n → (∀ q, q < i → m 3 (240 * j + q) = m 0 q) → ∃ m2, f_X7_save_L14 n m (nI j) (nI i) = some (m 0 5, m2) ∧ (∀ q, q < 240 → m2 3 (240 * j + q) = m 0 q) ∧ (∀ q, q < 240 * j ∨ 240 * j + 240 ≤ q → m2 3 q = m 3 q) ∧ m2 4 = upd (m 4) j 1 ∧ ∀ q, q ≠ 3 → q ≠ 4 → m2 q = m q
  | 0, i, n, m, hi, hn, hz => by
    obtain ⟨n, rfl⟩ := up1 hn
    have : i = 240 := by omega
    subst this
    rw [f_X7_save_L14, if_pos (by decide)]
    simp only [ixb_nI hj (by decide), ck_t, lt_s1, clq (show j < 2 ^ 31 by omega), cl_5]
    exact ⟨_, rfl, hz, fun _ _ => rfl, rfl, fun q _ h4 => vs_o m _ h4⟩
  | r + 1, i, n, m, hi, hn, hz => by
    obtain ⟨n, rfl⟩ := up1 (show 0 < n by omega)
    rw [f_X7_save_L14, if_neg (show ¬ (240 : Int32) ≤ nI i from nI_ge (a := i) (b := 240) (by omega) (by decide)), e240]
    simp only [ixb_nI (show i < 240 by omega) (by decide), ixb_nI (show 240 * j + i < 480 by omega) (by decide), ck_t, lt_s1, clq (show i < 2 ^ 31 by omega), clq (show 240 * j + i < 2 ^ 31 by omega), nI_1]
    obtain ⟨m2, h1, h2, h3, h4, h5⟩ := save_L14 hj r (i + 1) n (vs m 3 (upd (m 3) (240 * j + i) (m 0 i))) (by omega) (by omega) (fun q hq => by
      rw [vs_s, vs_o m _ (show (0 : Nat) ≠ 3 by decide)]
      by_cases e : q = i
      · subst e; rw [upd_s]
      · rw [upd_o _ _ (by omega)]; exact hz q (by omega))
    refine ⟨m2, h1, fun q hq => by rw [h2 q hq, vs_o m _ (show (0 : Nat) ≠ 3 by decide)], fun q hq => ?_, h4, fun q hq h4 => by rw [h5 q hq h4, vs_o m _ hq]⟩
    rw [h3 q hq, vs_s, upd_o _ _ (by omega)]
theorem undo_eq (h : SIM k v l sv m) {n : Nat} (hn : 1000 ≤ n) {r1 r : Int32} {u : DV} (ht : takeR v l k r1 u) (hr : r = if r1 = 0 then -5 else u 22 0) : ∃ m2 k2, f_X7_undo n m = some (r, m2) ∧ SIM k2 u l sv m2 := by
  obtain ⟨hA, hP, hk, ⟨h8, h6, hl, h7, hh⟩, hS⟩ := id h
  unfold f_X7_undo
  cases k with
  | zero =>
    obtain ⟨e1, e2⟩ := ht
    subst e1 e2
    rw [if_pos rfl] at hr
    subst hr
    rw [if_pos (show m 8 0 = 0 from h8)]
    exact ⟨m, 0, rfl, h⟩
  | succ j =>
    obtain ⟨w, x, e1, e2, e3, e4⟩ := ht
    subst e3
    rw [if_neg (by decide)] at hr
    have hne : ¬ nI (j + 1) = 0 := fun e => absurd ((nI_eq (b := 0) (by omega) (by decide)).mp e) (by omega)
    rw [h8, if_neg hne, nI_pred]
    obtain ⟨m2, a1, a2, a3⟩ := undo_L22 (j := j) (by omega) 240 0 n (vs m 8 (fun _ => nI j)) rfl (by omega) rfl (fun q hq => absurd hq (Nat.not_lt_zero q))
    obtain ⟨x2, b1, b2⟩ := copyFrom_ok (vs v 22 (fun _ => nI j)) w
    rw [b1] at e2
    cases e2
    obtain ⟨w2, c1, c2⟩ := hh j (by omega)
    rw [c1] at e1
    cases e1
    have hu22 : u 22 0 = nI j := by rw [e4]; rfl
    refine ⟨m2, j, by rw [hr, hu22]; exact a1, ?_, hP.eqm ?_ ?_ ?_ ?_, hu22, ⟨?_, by omega, by omega, h7, fun i hi => ?_⟩, hS.eqm ?_ ?_⟩
    · refine REL2.deq (REL2.deq c2 b2 (fun j _ => rfl)) ?_ (fun q hq => ?_)
      · rw [e4]; exact DEQ_of (fun j hj => mx_dks_lo _ _ hj)
      · rw [a2 q hq]; rfl
    · rw [a3 5 (by decide)]; rfl
    · rw [a3 9 (by decide)]; rfl
    · rw [e4]; rfl
    · rw [e4]; rfl
    · rw [a3 8 (by decide)]; rfl
    · obtain ⟨y, y1, y2⟩ := hh i (by omega)
      refine ⟨y, y1, y2.deq (DEQ.rfl' y) (fun q hq => ?_)⟩
      show m2 2 _ = m 2 _
      rw [a3 2 (by decide)]; rfl
    · rw [a3 3 (by decide)]; rfl
    · rw [a3 4 (by decide)]; rfl
theorem in01 (p : Int32) : (f_X7_in p 0 1 = 0 ∧ (p < 0 ∨ ¬ p < 2)) ∨ (f_X7_in p 0 1 = 1 ∧ ¬ (p < 0 ∨ ¬ p < 2) ∧ ∃ j, j < 2 ∧ p = nI j) := by
  rcases in0_cases p (hi := 1) (by decide) with ⟨e, q⟩ | ⟨e, j, hj, rfl⟩
  · refine Or.inl ⟨e, ?_⟩
    rcases q with q | ⟨q, q2⟩
    · exact Or.inl q
    · refine Or.inr ?_
      rw [Int32.lt_iff_toInt_lt]
      rw [Int32.le_iff_toInt_le] at q2
      have e1 : (nI 1).toInt = 1 := by decide
      have e2 : (2 : Int32).toInt = 2 := by decide
      omega
  · exact Or.inr ⟨e, fun h => h.elim (fun h => nI_pos (by omega) h) (fun h => h (nI_lt (b := 2) (by omega) (by decide))), j, by omega, rfl⟩
theorem save_eq {sl us : Nat → Option HD} (h : SIM k v l (valS sl) m) {n : Nat} (hn : 1000 ≤ n) {p1 r : Int32} (hs : saveR v sl p1 r us) : ∃ m2, f_X7_save n m p1 = some (r, m2) ∧ SIM k v l (valS us) m2 := by
  have h10 : ¬ (1 : Int32) = 0 := by decide
  obtain ⟨hA, hP, hk, hH, hS⟩ := id h
  unfold saveR at hs
  unfold f_X7_save
  rcases in01 p1 with ⟨e, q⟩ | ⟨e, q, j, hj, rfl⟩
  · rw [if_pos q] at hs
    obtain ⟨e1, e2⟩ := hs
    subst e1 e2
    rw [e, if_pos rfl]
    exact ⟨m, rfl, h⟩
  · rw [if_neg q, clq (show j < 2 ^ 31 by omega)] at hs
    obtain ⟨x, ad, e1, e2, e3⟩ := hs
    obtain ⟨x2, b1, b2⟩ := copyFrom_ok ((valS sl j).getD iv_X0_init) v
    rw [b1] at e1
    cases e1
    rw [e, if_neg h10]
    obtain ⟨m2, a1, a2, a3, a4, a5⟩ := save_L14 hj 240 0 n m rfl (by omega) (fun q hq => absurd hq (Nat.not_lt_zero q))
    obtain ⟨N, w, hI, hN, hR⟩ := id hA
    have e5 : m 0 5 = v 1 0 := by rw [hR.1.2.2.2.2.2, hI.1.2.1]
    refine ⟨m2, by rw [e2, ← e5]; exact a1, hA.deq (DEQ.rfl' v) (fun q _ => by rw [a5 0 (by decide) (by decide)]), hP.eqm (a5 5 (by decide) (by decide)) (a5 9 (by decide) (by decide)) rfl rfl, hk, hH.eqm (a5 2 (by decide) (by decide)) (a5 8 (by decide) (by decide)), fun i hi => ?_⟩
    by_cases q : i = j
    · subst q
      refine Or.inr ⟨x, ?_, by rw [a4, upd_s], hA.deq b2 (fun q hq => a2 q hq)⟩
      rw [e3]; unfold valS; rw [va_up_s]; rfl
    · have ev : valS us i = valS sl i := by rw [e3]; unfold valS; rw [va_up_o _ _ q]
      rw [ev, a4, upd_o _ _ q]
      rcases hS i hi with ⟨f1, f2⟩ | ⟨y, f1, f2, f3⟩
      · exact Or.inl ⟨f1, f2⟩
      · refine Or.inr ⟨y, f1, f2, f3.deq (DEQ.rfl' y) (fun q hq => ?_)⟩
        show m2 3 _ = m 3 _
        exact a3 _ (by omega)
theorem restore_eq (h : SIM k v l sv m) {n : Nat} (hn : 2000 ≤ n) {p1 r : Int32} {u : DV} {lu : List DV} (hs : restR k v l sv p1 r u lu) : ∃ m2 k2, f_X7_restore n m p1 = some (r, m2) ∧ SIM k2 u lu sv m2 := by
  have h10 : ¬ (1 : Int32) = 0 := by decide
  obtain ⟨hA, hP, hk, hH, hS⟩ := id h
  unfold restR at hs
  unfold f_X7_restore
  rcases in01 p1 with ⟨e, q⟩ | ⟨e, q, j, hj, rfl⟩
  · rw [if_pos q] at hs
    obtain ⟨e1, e2, e3⟩ := hs
    subst e1 e2 e3
    rw [e, if_pos rfl]
    exact ⟨m, k, rfl, h⟩
  · rw [if_neg q, clq (show j < 2 ^ 31 by omega)] at hs
    rw [e, if_neg h10]
    simp only [ixb_nI hj (by decide), ck_t, clq (show j < 2 ^ 31 by omega)]
    rcases hS j hj with ⟨f1, f2⟩ | ⟨w, f1, f2, f3⟩
    · rw [f1] at hs
      obtain ⟨e1, e2, e3⟩ := hs
      subst e1 e2 e3
      rw [f2, if_pos rfl]
      exact ⟨m, k, rfl, h⟩
    · rw [f1] at hs
      obtain ⟨x, y, g1, g2, g3, g4, g5⟩ := hs
      obtain ⟨x2, b1, b2⟩ := copyFrom_ok (preW l k) v
      rw [b1] at g1
      cases g1
      obtain ⟨y2, c1, c2⟩ := copyFrom_ok v w
      rw [c1] at g2
      cases g2
      rw [f2, if_neg h10]
      obtain ⟨m1, a1, a2, a3⟩ := know_eq hH hA b2 hn
      rw [a1, bd1_s]
      obtain ⟨m2, d1, d2, d3⟩ := restore_L30 hj 240 0 n m1 rfl (by omega) (fun q hq => absurd hq (Nat.not_lt_zero q))
      have hm2 : REL2 y (m2 0) := f3.deq c2 (fun q hq => by rw [d2 q hq, a3 3 (by decide) (by decide)])
      obtain ⟨N, w2, hI, hN, hR⟩ := id hm2
      have e5 : m2 0 5 = (mx dks v y) 1 0 := by rw [hR.1.2.2.2.2.2]; exact hI.1.2.1.symm
      have hr0 : ¬ r < 0 := by rw [g3, ← e5, hR.1.2.2.2.2.2]; exact nI_pos (by have := hI.1.2.2; omega)
      unfold recV at g4
      unfold recL at g5
      rw [if_neg hr0] at g4 g5
      subst g4 g5
      refine ⟨m2, keepK k, by rw [g3, ← e5]; exact d1, hm2.deq (DEQ_of (fun j hj => ?_)) (fun _ _ => rfl), hP.eqm ?_ ?_ ?_ ?_, rfl, a2.eqm (d3 2 (by decide)) (d3 8 (by decide)), hS.eqm ?_ ?_⟩
      · rw [vs_o _ _ (by omega), mx_dks_lo v y hj]
      · rw [d3 5 (by decide), a3 5 (by decide) (by decide)]
      · rw [d3 9 (by decide), a3 9 (by decide) (by decide)]
      · rfl
      · rfl
      · rw [d3 3 (by decide), a3 3 (by decide) (by decide)]
      · rw [d3 4 (by decide), a3 4 (by decide) (by decide)]
end US
