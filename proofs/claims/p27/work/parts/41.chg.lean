/-! Changes: set, turn, rest, hours. -/
def CHG (k : Nat) (v : DV) (l : List DV) (sv : Nat → Option DV) (F M : Option (Int32 × DV)) : Prop := ∃ r u lu m2 k2, chgK k F v l = some (r, u, lu) ∧ M = some (r, m2) ∧ SIM k2 u lu sv m2
theorem mx_dks_lo (v u : DV) {j : Nat} (h : j < 14) : mx dks v u j = u j := by
  show cond (dks.any (fun i => Nat.beq j i)) (u j) (v j) = u j
  have : dks.any (fun i => Nat.beq j i) = true := by
    rw [List.any_eq_true]
    exact ⟨j, by show j ∈ List.range 14; exact List.mem_range.mpr h, Nat.beq_refl j⟩
  rw [this]; rfl
theorem mx_dks_hi (v u : DV) {j : Nat} (h : 14 ≤ j) : mx dks v u j = v j := by
  show cond (dks.any (fun i => Nat.beq j i)) (u j) (v j) = v j
  have : dks.any (fun i => Nat.beq j i) = false := by
    rw [List.any_eq_false]
    intro i hi
    have hi2 : i < 14 := by
      have : i ∈ List.range 14 := hi
      exact List.mem_range.mp this
    intro e
    have := Nat.eq_of_beq_eq_true e
    omega
  rw [this]; rfl
theorem mx_dks_self (v : DV) : mx dks v v = v := by
  funext j
  exact mx_o _ rfl
theorem putAt_lo {α : Type} {l : List α} {k : Nat} (x : α) {i : Nat} (hi : i < k) (hk : k ≤ l.length) : (putAt l k x)[i]? = l[i]? := by
  unfold putAt
  split
  · rw [List.getElem?_set_ne (by omega)]
  · rw [List.getElem?_append_left (by omega)]
theorem putAt_len2 {α : Type} {l : List α} {k : Nat} (x : α) (hk : k ≤ l.length) (h6 : k ≤ 6) (h7 : l.length ≤ 7) : k ≤ (putAt l k x).length ∧ (putAt l k x).length ≤ 7 := by
  unfold putAt
  split
  · rw [List.length_set]; omega
  · rw [List.length_append, List.length_singleton]; omega
theorem HIST.put {k : Nat} {l : List DV} {m : DV} (h : HIST k l m) (x : DV) : HIST k (putAt l k x) m := by
  obtain ⟨h8, h6, hl, h7, hh⟩ := h
  have := putAt_len2 x hl h6 h7
  exact ⟨h8, h6, this.1, this.2, fun i hi => by rw [putAt_lo x hi hl]; exact hh i hi⟩
section CH
variable {k : Nat} {v : DV} {l : List DV} {sv : Nat → Option DV} {m : DV}
theorem chg_no (h : SIM k v l sv m) {r : Int32} (hr : r < 0) {F M : Option (Int32 × DV)} (hF : F = some (r, v)) (hM : M = some (r, m)) : CHG k v l sv F M := by
  obtain ⟨x, hx, -⟩ := copyFrom_ok (preW l k) v
  refine ⟨r, v, putAt l k x, m, k, ?_, hM, h.1, h.2.1, h.2.2.1, h.2.2.2.1.put x, h.2.2.2.2⟩
  unfold chgK
  rw [hx, hF]
  simp only [bd1_s, bd2_s]
  unfold recV recL
  rw [if_pos hr, if_pos hr, mx_dks_self]
theorem chg_ok (h : SIM k v l sv m) {r : Int32} (hr : ¬ r < 0) {v1 : DV} {F M : Option (Int32 × DV)} (hF : F = some (r, v1)) {n : Nat} (hn : 2000 ≤ n)
    (hM : ∀ m1, f_X7_know n m = some m1 → m1 0 = m 0 → ∃ m2, M = some (r, m2) ∧ REL2 v1 (m2 0) ∧ ∀ q, 1 < q → q < 10 → m2 q = m1 q) : CHG k v l sv F M := by
  obtain ⟨x, hx, hx2⟩ := copyFrom_ok (preW l k) v
  obtain ⟨hA, hP, hk, hH, hS⟩ := h
  obtain ⟨m1, a1, a2, a3⟩ := know_eq hH hA hx2 hn
  obtain ⟨m2, b1, b2, b3⟩ := hM m1 a1 (a3 0 (by decide) (by decide))
  refine ⟨r, vs (mx dks v v1) 22 (fun _ => nI (keepK k)), keepL k (putAt l k x), m2, keepK k, ?_, b1, b2.deq (DEQ_of (fun j hj => ?_)) (fun _ _ => rfl), hP.eqm ?_ ?_ ?_ ?_, rfl, a2.eqm ?_ ?_, hS.eqm ?_ ?_⟩
  · unfold chgK
    rw [hx, hF]
    simp only [bd1_s, bd2_s]
    unfold recV recL
    rw [if_neg hr, if_neg hr]
  · rw [vs_o _ _ (by omega), mx_dks_lo v v1 hj]
  · rw [b3 5 (by decide) (by decide), a3 5 (by decide) (by decide)]
  · rw [b3 9 (by decide) (by decide), a3 9 (by decide) (by decide)]
  · rfl
  · rfl
  · exact b3 2 (by decide) (by decide)
  · exact b3 8 (by decide) (by decide)
  · rw [b3 3 (by decide) (by decide), a3 3 (by decide) (by decide)]
  · rw [b3 4 (by decide) (by decide), a3 4 (by decide) (by decide)]
end CH
theorem REL_drw {v u : DV} {s t : Nat → Int32} {N w : Nat} (hR : REL v s N w) (h2 : u 2 = v 2) (h7 : u 7 = v 7) (h8 : u 8 = v 8) (h9 : u 9 = v 9) (h10 : u 10 = v 10) (h11 : u 11 = v 11) (h12 : u 12 = v 12) (h13 : u 13 = v 13) (t6 : ∀ j, j < 6 → t j = s j) (t30 : ∀ j, 30 ≤ j → t j = s j)
    (hd : ∀ d, d < 6 → t (6 + 4 * d) = u 4 d ∧ t (7 + 4 * d) = u 3 d ∧ t (8 + 4 * d) = u 5 d ∧ t (9 + 4 * d) = u 6 d) : REL u t N w := by
  obtain ⟨⟨a0, a1, a2, a3, a4, a5⟩, -, hl⟩ := hR
  refine ⟨⟨?_, ?_, ?_, ?_, ?_, ?_⟩, hd, fun k hk => ?_⟩
  · rw [t6 _ (by decide), h2]; exact a0
  · rw [t6 _ (by decide), h2]; exact a1
  · rw [t6 _ (by decide), h2]; exact a2
  · rw [t6 _ (by decide)]; exact a3
  · rw [t6 _ (by decide)]; exact a4
  · rw [t6 _ (by decide)]; exact a5
  · rw [t30 _ (by omega), t30 _ (by omega), t30 _ (by omega), t30 _ (by omega), t30 _ (by omega), t30 _ (by omega), t30 _ (by omega), h7, h8, h9, h10, h11, h12, h13]
    exact hl k hk
section CH2
variable {k : Nat} {v : DV} {l : List DV} {sv : Nat → Option DV} {m : DV}
theorem turn_eq (h : SIM k v l sv m) {n : Nat} (hn : 2000 ≤ n) (p1 : Int32) : CHG k v l sv (f_X0_turnKey v p1) (f_X7_turn n m p1) := by
  have h10 : ¬ (1 : Int32) = 0 := by decide
  unfold f_X0_turnKey f_X7_turn
  rw [isMood_eq]
  rcases isMood_cases p1 with ⟨e, -⟩ | ⟨e, d, hd, rfl⟩
  · rw [e, if_pos rfl, if_pos rfl]
    exact chg_no h (by decide) rfl rfl
  rw [e, if_neg h10, if_neg h10]
  obtain ⟨N, w, hI, hN, hR⟩ := id h.1
  simp only [ixb_nI (show d < 6 by omega) (by decide), ck_t, clq (show d < 2 ^ 31 by omega), upd_s]
  obtain ⟨b1, b2, b3⟩ := hI.2.2.1 d hd
  have hB : B (1 - v 4 d) 1 := by
    obtain ⟨j, hj, e⟩ := b2
    rw [e]
    rcases (show j = 0 ∨ j = 1 by omega) with q | q
    · subst q; exact ⟨1, by decide, by decide⟩
    · subst q; exact ⟨0, by decide, by decide⟩
  have hr : ¬ (1 - v 4 d) < 0 := by
    obtain ⟨j, hj, e⟩ := hB
    rw [e]; exact nI_pos (by omega)
  refine chg_ok h hr rfl hn (fun m1 e1 e2 => ?_)
  rw [e1]
  simp only [bd1_s]
  unfold f_X7_turns
  simp only [ofD_0, ixb_nI (show 6 + 4 * d < 240 by omega) (by decide), ck_t, lt_s1, bd2_s, clq (show 6 + 4 * d < 2 ^ 31 by omega), vs_s, upd_s, e2, (hR.2.1 d hd).1]
  refine ⟨_, rfl, ⟨N, w, ⟨hI.1, hI.2.1, fun j hj => ?_, hI.2.2.2⟩, hN, ?_⟩, fun q h1 _ => vs_o m1 _ (by omega)⟩
  · obtain ⟨c1, c2, c3⟩ := hI.2.2.1 j hj
    refine ⟨c1, ?_, c3⟩
    rw [vs_s]
    by_cases q : j = d
    · subst q; rw [upd_s]; exact hB
    · rw [upd_o _ _ q]; exact c2
  · rw [vs_s]
    refine REL_drw hR rfl rfl rfl rfl rfl rfl rfl rfl (fun j hj => upd_o _ _ (by omega)) (fun j hj => upd_o _ _ (by omega)) (fun j hj => ?_)
    obtain ⟨f0, f1, f2, f3⟩ := hR.2.1 j hj
    by_cases q : j = d
    · subst q
      refine ⟨by rw [upd_s, vs_s, upd_s], ?_, ?_, ?_⟩
      · rw [upd_o _ _ (by omega)]; exact f1
      · rw [upd_o _ _ (by omega)]; exact f2
      · rw [upd_o _ _ (by omega)]; exact f3
    · refine ⟨?_, ?_, ?_, ?_⟩
      · rw [upd_o _ _ (by omega), vs_s, upd_o _ _ q]; exact f0
      · rw [upd_o _ _ (by omega)]; exact f1
      · rw [upd_o _ _ (by omega)]; exact f2
      · rw [upd_o _ _ (by omega)]; exact f3
theorem in0_cases (p : Int32) {hi : Nat} (hh : hi < 2 ^ 31) : (f_X7_in p 0 (nI hi) = 0 ∧ (p < 0 ∨ (¬ p < 0 ∧ ¬ p ≤ nI hi))) ∨ (f_X7_in p 0 (nI hi) = 1 ∧ ∃ j, j ≤ hi ∧ p = nI j) := by
  rcases in_cases p (lo := 0) (hi := hi) hh (fun h => absurd h (by decide)) with ⟨e, ne⟩ | ⟨e, j, -, hj, rfl⟩
  · refine Or.inl ⟨e, ?_⟩
    by_cases q : p < 0
    · exact Or.inl q
    · refine Or.inr ⟨q, fun q2 => ?_⟩
      obtain ⟨j, hj, rfl⟩ := nI_of q
      refine ne ⟨j, Nat.zero_le j, ?_, rfl⟩
      by_cases q3 : j ≤ hi
      · exact q3
      · exact absurd q2 (nI_ge (by omega) hj)
  · exact Or.inr ⟨e, j, hj, rfl⟩
theorem rest_eq (h : SIM k v l sv m) {n : Nat} (hn : 2000 ≤ n) (p1 p2 : Int32) : CHG k v l sv (f_X0_changeRest v p1 p2) (f_X7_rest n m p1 p2) := by
  have h10 : ¬ (1 : Int32) = 0 := by decide
  unfold f_X0_changeRest f_X7_rest
  rw [isMood_eq]
  rcases isMood_cases p1 with ⟨e, -⟩ | ⟨e, d, hd, rfl⟩
  · rw [e, if_pos rfl, if_pos rfl]
    exact chg_no h (by decide) rfl rfl
  rw [e, if_neg h10, if_neg h10]
  rcases in0_cases p2 (hi := 30) (by decide) with ⟨e2, q⟩ | ⟨e2, x, hx, rfl⟩
  · rw [show f_X7_in p2 0 30 = 0 from e2, if_pos rfl]
    rcases q with q | ⟨q, q2⟩
    · rw [if_pos q]
      exact chg_no h (by decide) rfl rfl
    · rw [if_neg q, if_neg (show ¬ p2 ≤ 30 from q2)]
      exact chg_no h (by decide) rfl rfl
  rw [show f_X7_in (nI x) 0 30 = 1 from e2, if_neg h10, if_neg (nI_pos (by omega)), if_pos (show nI x ≤ 30 from nI_le (b := 30) (by omega) (by decide))]
  obtain ⟨N, w, hI, hN, hR⟩ := id h.1
  simp only [ixb_nI (show d < 6 by omega) (by decide), ck_t, clq (show d < 2 ^ 31 by omega)]
  obtain ⟨b1, b2, b3⟩ := hI.2.2.1 d hd
  have hr : ¬ v 3 d < 0 := by
    obtain ⟨j, hj, e⟩ := b1
    rw [e]; exact nI_pos (by omega)
  refine chg_ok h hr rfl hn (fun m1 e1 e2 => ?_)
  rw [e1]
  simp only [bd1_s]
  simp only [ofD_1, ixb_nI (show 7 + 4 * d < 240 by omega) (by decide), ck_t, lt_s1, clq (show 7 + 4 * d < 2 ^ 31 by omega), e2, (hR.2.1 d hd).2.1]
  refine ⟨_, rfl, ⟨N, w, ⟨hI.1, hI.2.1, fun j hj => ?_, hI.2.2.2⟩, hN, ?_⟩, fun q h1 _ => vs_o m1 _ (by omega)⟩
  · obtain ⟨c1, c2, c3⟩ := hI.2.2.1 j hj
    refine ⟨?_, c2, c3⟩
    rw [vs_s]
    by_cases q : j = d
    · subst q; rw [upd_s]; exact B_nI hx
    · rw [upd_o _ _ q]; exact c1
  · rw [vs_s]
    refine REL_drw hR rfl rfl rfl rfl rfl rfl rfl rfl (fun j hj => upd_o _ _ (by omega)) (fun j hj => upd_o _ _ (by omega)) (fun j hj => ?_)
    obtain ⟨f0, f1, f2, f3⟩ := hR.2.1 j hj
    by_cases q : j = d
    · subst q
      refine ⟨?_, by rw [upd_s, vs_s, upd_s], ?_, ?_⟩
      · rw [upd_o _ _ (by omega)]; exact f0
      · rw [upd_o _ _ (by omega)]; exact f2
      · rw [upd_o _ _ (by omega)]; exact f3
    · refine ⟨?_, ?_, ?_, ?_⟩
      · rw [upd_o _ _ (by omega)]; exact f0
      · rw [upd_o _ _ (by omega), vs_s, upd_o _ _ q]; exact f1
      · rw [upd_o _ _ (by omega)]; exact f2
      · rw [upd_o _ _ (by omega)]; exact f3
theorem set_one (h : SIM k v l sv m) {n : Nat} (hn : 2000 ≤ n) (i hi : Nat) (hi3 : i < 3) (hhi : hi < 2 ^ 31) (hh : hsF i = nI hi) (hbd : (i = 0 → hi = 23) ∧ (i = 1 → hi = 99) ∧ (i = 2 → hi = 20)) (p2 : Int32) : CHG k v l sv (f_X0_changeSetting v (nI i) p2) (f_X7_set_J21 n m (nI i) p2 (nI hi)) := by
  have h10 : ¬ (1 : Int32) = 0 := by decide
  have a1 : ¬ nI i < 0 := nI_pos (by omega)
  have a2 : ¬ (2 : Int32) < nI i := nI_nlt (b := i) (a := 2) (by omega) (by decide)
  have a3 : f_X7_in (nI i) 0 2 = 1 := by
    unfold f_X7_in; rw [if_neg a1, if_neg a2]
  unfold f_X0_changeSetting f_X7_set_J21
  rw [a3, if_neg h10, if_neg a1, if_neg a2]
  simp only [ixb_nI (show i < 3 by omega) (by decide), ck_t, clq (show i < 2 ^ 31 by omega), hh]
  rcases in0_cases p2 (hi := hi) hhi with ⟨e2, q⟩ | ⟨e2, x, hx, rfl⟩
  · rw [e2, if_pos rfl]
    rcases q with q | ⟨q, q2⟩
    · rw [if_pos q]
      exact chg_no h (by decide) rfl rfl
    · rw [if_neg q, if_neg q2]
      exact chg_no h (by decide) rfl rfl
  rw [e2, if_neg h10, if_neg (nI_pos (by omega)), if_pos (nI_le (by omega) (by omega))]
  obtain ⟨N, w, hI, hN, hR⟩ := id h.1
  obtain ⟨d0, d1, d2⟩ := hI.2.1
  obtain ⟨⟨g0, g1, g2, g3, g4, g5⟩, hd, hl⟩ := hR
  have hr : ¬ v 2 i < 0 := by
    rcases (show i = 0 ∨ i = 1 ∨ i = 2 by omega) with q | q | q <;> subst q
    · obtain ⟨j, hj, e⟩ := d0; rw [e]; exact nI_pos (by omega)
    · obtain ⟨j, hj, e⟩ := d1; rw [e]; exact nI_pos (by omega)
    · obtain ⟨j, hj, e⟩ := d2; rw [e]; exact nI_pos (by omega)
  have hsi : m 0 i = v 2 i := by
    rcases (show i = 0 ∨ i = 1 ∨ i = 2 by omega) with q | q | q <;> subst q
    · exact g0
    · exact g1
    · exact g2
  refine chg_ok h hr rfl hn (fun m1 e1 e2 => ?_)
  rw [e1]
  have e0 : (0 : Int32) + nI i = nI i := Int32.zero_add _
  simp only [bd1_s, e0, ixb_nI (show i < 240 by omega) (by decide), ck_t, lt_s1, clq (show i < 2 ^ 31 by omega), e2, hsi]
  refine ⟨_, rfl, ⟨N, w, ⟨hI.1, ?_, hI.2.2⟩, hN, ⟨?_, ?_, ?_, ?_, ?_, ?_⟩, fun d hd6 => ?_, fun j hj => ?_⟩, fun q h1 _ => vs_o m1 _ (by omega)⟩
  · rw [vs_s]
    rcases (show i = 0 ∨ i = 1 ∨ i = 2 by omega) with q | q | q <;> subst q
    · rw [upd_s, upd_o _ _ (by decide), upd_o _ _ (by decide)]; exact ⟨B_nI (by have := hbd.1 rfl; omega), d1, d2⟩
    · rw [upd_s, upd_o _ _ (by decide), upd_o _ _ (by decide)]; exact ⟨d0, B_nI (by have := hbd.2.1 rfl; omega), d2⟩
    · rw [upd_s, upd_o _ _ (by decide), upd_o _ _ (by decide)]; exact ⟨d0, d1, B_nI (by have := hbd.2.2 rfl; omega)⟩
  · rw [vs_s, vs_s]; by_cases q : 0 = i
    · subst q; rw [upd_s, upd_s]
    · rw [upd_o _ _ q, upd_o _ _ q]; exact g0
  · rw [vs_s, vs_s]; by_cases q : 1 = i
    · subst q; rw [upd_s, upd_s]
    · rw [upd_o _ _ q, upd_o _ _ q]; exact g1
  · rw [vs_s, vs_s]; by_cases q : 2 = i
    · subst q; rw [upd_s, upd_s]
    · rw [upd_o _ _ q, upd_o _ _ q]; exact g2
  · rw [vs_s, upd_o _ _ (by omega)]; exact g3
  · rw [vs_s, upd_o _ _ (by omega)]; exact g4
  · rw [vs_s, upd_o _ _ (by omega)]; exact g5
  · rw [vs_s, upd_o _ _ (by omega), upd_o _ _ (by omega), upd_o _ _ (by omega), upd_o _ _ (by omega)]
    exact hd d hd6
  · rw [vs_s, upd_o _ _ (by omega), upd_o _ _ (by omega), upd_o _ _ (by omega), upd_o _ _ (by omega), upd_o _ _ (by omega), upd_o _ _ (by omega), upd_o _ _ (by omega)]
    exact hl j hj
theorem set_eq (h : SIM k v l sv m) {n : Nat} (hn : 2000 ≤ n) (p1 p2 : Int32) : CHG k v l sv (f_X0_changeSetting v p1 p2) (f_X7_set n m p1 p2) := by
  unfold f_X7_set
  by_cases q0 : p1 = 0
  · subst q0
    rw [if_pos rfl]
    exact set_one h hn 0 23 (by decide) (by decide) rfl ⟨fun _ => rfl, fun h => absurd h (by decide), fun h => absurd h (by decide)⟩ p2
  rw [if_neg q0]
  by_cases q1 : p1 = 1
  · subst q1
    rw [if_pos rfl]
    exact set_one h hn 1 99 (by decide) (by decide) rfl ⟨fun h => absurd h (by decide), fun _ => rfl, fun h => absurd h (by decide)⟩ p2
  rw [if_neg q1]
  by_cases q2 : p1 = 2
  · subst q2
    exact set_one h hn 2 20 (by decide) (by decide) rfl ⟨fun h => absurd h (by decide), fun h => absurd h (by decide), fun _ => rfl⟩ p2
  unfold f_X0_changeSetting f_X7_set_J21
  rcases in0_cases p1 (hi := 2) (by decide) with ⟨e, q⟩ | ⟨e, x, hx, rfl⟩
  · rw [show f_X7_in p1 0 2 = 0 from e, if_pos rfl]
    rcases q with q | ⟨q, q2⟩
    · rw [if_pos q]
      exact chg_no h (by decide) rfl rfl
    · rw [if_neg q, if_pos (show (2 : Int32) < p1 by
        rw [Int32.lt_iff_toInt_lt]
        rw [Int32.le_iff_toInt_le] at q2
        have : (nI 2).toInt = (2 : Int32).toInt := rfl
        omega)]
      exact chg_no h (by decide) rfl rfl
  · rcases (show x = 0 ∨ x = 1 ∨ x = 2 by omega) with q | q | q <;> subst q
    · exact absurd rfl q0
    · exact absurd rfl q1
    · exact absurd rfl q2
end CH2
